theorem d_5_takeIn_0 : decode prog_7_method_2_code 0 = .ok (.bipush 24, 2) := by decide +kernel
theorem d_5_takeIn_2 : decode prog_7_method_2_code 2 = .ok (.istore_n 2, 1) := by decide +kernel
theorem d_5_takeIn_3 : decode prog_7_method_2_code 3 = .ok (.iload_n 2, 1) := by decide +kernel
theorem d_5_takeIn_4 : decode prog_7_method_2_code 4 = .ok (.ifCond .lt 45, 3) := by decide +kernel
theorem d_5_takeIn_7 : decode prog_7_method_2_code 7 = .ok (.aload_n 0, 1) := by decide +kernel
theorem d_5_takeIn_8 : decode prog_7_method_2_code 8 = .ok (.getfield 19, 3) := by decide +kernel
theorem d_5_takeIn_11 : decode prog_7_method_2_code 11 = .ok (.sipush 400, 3) := by decide +kernel
theorem d_5_takeIn_14 : decode prog_7_method_2_code 14 = .ok (.if_icmp .ge 29, 3) := by decide +kernel
theorem d_5_takeIn_17 : decode prog_7_method_2_code 17 = .ok (.aload_n 0, 1) := by decide +kernel
theorem d_5_takeIn_18 : decode prog_7_method_2_code 18 = .ok (.getfield 9, 3) := by decide +kernel
theorem d_5_takeIn_21 : decode prog_7_method_2_code 21 = .ok (.aload_n 0, 1) := by decide +kernel
theorem d_5_takeIn_22 : decode prog_7_method_2_code 22 = .ok (.getfield 19, 3) := by decide +kernel
theorem d_5_takeIn_25 : decode prog_7_method_2_code 25 = .ok (.iload_n 1, 1) := by decide +kernel
theorem d_5_takeIn_26 : decode prog_7_method_2_code 26 = .ok (.iload_n 2, 1) := by decide +kernel
theorem d_5_takeIn_27 : decode prog_7_method_2_code 27 = .ok (.ishr, 1) := by decide +kernel
theorem d_5_takeIn_28 : decode prog_7_method_2_code 28 = .ok (.sipush 255, 3) := by decide +kernel
theorem d_5_takeIn_31 : decode prog_7_method_2_code 31 = .ok (.iand, 1) := by decide +kernel
theorem d_5_takeIn_32 : decode prog_7_method_2_code 32 = .ok (.iastore, 1) := by decide +kernel
theorem d_5_takeIn_33 : decode prog_7_method_2_code 33 = .ok (.aload_n 0, 1) := by decide +kernel
theorem d_5_takeIn_34 : decode prog_7_method_2_code 34 = .ok (.dup, 1) := by decide +kernel
theorem d_5_takeIn_35 : decode prog_7_method_2_code 35 = .ok (.getfield 19, 3) := by decide +kernel
theorem d_5_takeIn_38 : decode prog_7_method_2_code 38 = .ok (.iconst 1, 1) := by decide +kernel
theorem d_5_takeIn_39 : decode prog_7_method_2_code 39 = .ok (.iadd, 1) := by decide +kernel
theorem d_5_takeIn_40 : decode prog_7_method_2_code 40 = .ok (.putfield 19, 3) := by decide +kernel
theorem d_5_takeIn_43 : decode prog_7_method_2_code 43 = .ok (.iinc 2 (-8), 3) := by decide +kernel
theorem d_5_takeIn_46 : decode prog_7_method_2_code 46 = .ok (.goto (-43), 3) := by decide +kernel
theorem d_5_takeIn_49 : decode prog_7_method_2_code 49 = .ok (.return_, 1) := by decide +kernel
theorem d_11_feed_0 : decode prog_1_method_2_code 0 = .ok (.aload_n 0, 1) := by decide +kernel
theorem d_11_feed_1 : decode prog_1_method_2_code 1 = .ok (.getfield 10, 3) := by decide +kernel
theorem d_11_feed_4 : decode prog_1_method_2_code 4 = .ok (.getfield 37, 3) := by decide +kernel
theorem d_11_feed_7 : decode prog_1_method_2_code 7 = .ok (.bipush 20, 2) := by decide +kernel
theorem d_11_feed_9 : decode prog_1_method_2_code 9 = .ok (.iadd, 1) := by decide +kernel
theorem d_11_feed_10 : decode prog_1_method_2_code 10 = .ok (.sipush 400, 3) := by decide +kernel
theorem d_11_feed_13 : decode prog_1_method_2_code 13 = .ok (.if_icmp .le 5, 3) := by decide +kernel
theorem d_11_feed_16 : decode prog_1_method_2_code 16 = .ok (.iconst (-1), 1) := by decide +kernel
theorem d_11_feed_17 : decode prog_1_method_2_code 17 = .ok (.ireturn, 1) := by decide +kernel
theorem d_11_feed_18 : decode prog_1_method_2_code 18 = .ok (.aload_n 0, 1) := by decide +kernel
theorem d_11_feed_19 : decode prog_1_method_2_code 19 = .ok (.getfield 10, 3) := by decide +kernel
theorem d_11_feed_22 : decode prog_1_method_2_code 22 = .ok (.iload_n 1, 1) := by decide +kernel
theorem d_11_feed_23 : decode prog_1_method_2_code 23 = .ok (.invokevirtual 41, 3) := by decide +kernel
theorem d_11_feed_26 : decode prog_1_method_2_code 26 = .ok (.aload_n 0, 1) := by decide +kernel
theorem d_11_feed_27 : decode prog_1_method_2_code 27 = .ok (.getfield 10, 3) := by decide +kernel
theorem d_11_feed_30 : decode prog_1_method_2_code 30 = .ok (.iload_n 2, 1) := by decide +kernel
theorem d_11_feed_31 : decode prog_1_method_2_code 31 = .ok (.invokevirtual 41, 3) := by decide +kernel
theorem d_11_feed_34 : decode prog_1_method_2_code 34 = .ok (.aload_n 0, 1) := by decide +kernel
theorem d_11_feed_35 : decode prog_1_method_2_code 35 = .ok (.getfield 10, 3) := by decide +kernel
theorem d_11_feed_38 : decode prog_1_method_2_code 38 = .ok (.iload_n 3, 1) := by decide +kernel
theorem d_11_feed_39 : decode prog_1_method_2_code 39 = .ok (.invokevirtual 41, 3) := by decide +kernel
theorem d_11_feed_42 : decode prog_1_method_2_code 42 = .ok (.aload_n 0, 1) := by decide +kernel
theorem d_11_feed_43 : decode prog_1_method_2_code 43 = .ok (.getfield 10, 3) := by decide +kernel
theorem d_11_feed_46 : decode prog_1_method_2_code 46 = .ok (.iload 4, 2) := by decide +kernel
theorem d_11_feed_48 : decode prog_1_method_2_code 48 = .ok (.invokevirtual 41, 3) := by decide +kernel
theorem d_11_feed_51 : decode prog_1_method_2_code 51 = .ok (.aload_n 0, 1) := by decide +kernel
theorem d_11_feed_52 : decode prog_1_method_2_code 52 = .ok (.getfield 10, 3) := by decide +kernel
theorem d_11_feed_55 : decode prog_1_method_2_code 55 = .ok (.iload 5, 2) := by decide +kernel
theorem d_11_feed_57 : decode prog_1_method_2_code 57 = .ok (.invokevirtual 41, 3) := by decide +kernel
theorem d_11_feed_60 : decode prog_1_method_2_code 60 = .ok (.aload_n 0, 1) := by decide +kernel
theorem d_11_feed_61 : decode prog_1_method_2_code 61 = .ok (.getfield 10, 3) := by decide +kernel
theorem d_11_feed_64 : decode prog_1_method_2_code 64 = .ok (.getfield 37, 3) := by decide +kernel
theorem d_11_feed_67 : decode prog_1_method_2_code 67 = .ok (.ireturn, 1) := by decide +kernel
theorem d_11_end_0 : decode prog_1_method_3_code 0 = .ok (.iload_n 1, 1) := by decide +kernel
theorem d_11_end_1 : decode prog_1_method_3_code 1 = .ok (.ifCond .lt 14, 3) := by decide +kernel
theorem d_11_end_4 : decode prog_1_method_3_code 4 = .ok (.iload_n 1, 1) := by decide +kernel
theorem d_11_end_5 : decode prog_1_method_3_code 5 = .ok (.aload_n 0, 1) := by decide +kernel
theorem d_11_end_6 : decode prog_1_method_3_code 6 = .ok (.getfield 10, 3) := by decide +kernel
theorem d_11_end_9 : decode prog_1_method_3_code 9 = .ok (.getfield 37, 3) := by decide +kernel
theorem d_11_end_12 : decode prog_1_method_3_code 12 = .ok (.if_icmp .le 5, 3) := by decide +kernel
theorem d_11_end_15 : decode prog_1_method_3_code 15 = .ok (.iconst 0, 1) := by decide +kernel
theorem d_11_end_16 : decode prog_1_method_3_code 16 = .ok (.ireturn, 1) := by decide +kernel
theorem d_11_end_17 : decode prog_1_method_3_code 17 = .ok (.aload_n 0, 1) := by decide +kernel
theorem d_11_end_18 : decode prog_1_method_3_code 18 = .ok (.getfield 10, 3) := by decide +kernel
theorem d_11_end_21 : decode prog_1_method_3_code 21 = .ok (.iload_n 1, 1) := by decide +kernel
theorem d_11_end_22 : decode prog_1_method_3_code 22 = .ok (.putfield 37, 3) := by decide +kernel
theorem d_11_end_25 : decode prog_1_method_3_code 25 = .ok (.iconst 1, 1) := by decide +kernel
theorem d_11_end_26 : decode prog_1_method_3_code 26 = .ok (.ireturn, 1) := by decide +kernel
theorem d_11_fault_0 : decode prog_1_method_6_code 0 = .ok (.aload_n 0, 1) := by decide +kernel
theorem d_11_fault_1 : decode prog_1_method_6_code 1 = .ok (.getfield 10, 3) := by decide +kernel
theorem d_11_fault_4 : decode prog_1_method_6_code 4 = .ok (.getfield 110, 3) := by decide +kernel
theorem d_11_fault_7 : decode prog_1_method_6_code 7 = .ok (.ireturn, 1) := by decide +kernel
theorem d_6_at_0 : decode prog_8_method_3_code 0 = .ok (.iload_n 1, 1) := by decide +kernel
theorem d_6_at_1 : decode prog_8_method_3_code 1 = .ok (.ifCond .lt 26, 3) := by decide +kernel
theorem d_6_at_4 : decode prog_8_method_3_code 4 = .ok (.iload_n 1, 1) := by decide +kernel
theorem d_6_at_5 : decode prog_8_method_3_code 5 = .ok (.aload_n 0, 1) := by decide +kernel
theorem d_6_at_6 : decode prog_8_method_3_code 6 = .ok (.getfield 15, 3) := by decide +kernel
theorem d_6_at_9 : decode prog_8_method_3_code 9 = .ok (.if_icmp .ge 18, 3) := by decide +kernel
theorem d_6_at_12 : decode prog_8_method_3_code 12 = .ok (.iload_n 1, 1) := by decide +kernel
theorem d_6_at_13 : decode prog_8_method_3_code 13 = .ok (.bipush 24, 2) := by decide +kernel
theorem d_6_at_15 : decode prog_8_method_3_code 15 = .ok (.if_icmp .ge 12, 3) := by decide +kernel
theorem d_6_at_18 : decode prog_8_method_3_code 18 = .ok (.aload_n 0, 1) := by decide +kernel
theorem d_6_at_19 : decode prog_8_method_3_code 19 = .ok (.getfield 9, 3) := by decide +kernel
theorem d_6_at_22 : decode prog_8_method_3_code 22 = .ok (.iload_n 1, 1) := by decide +kernel
theorem d_6_at_23 : decode prog_8_method_3_code 23 = .ok (.iaload, 1) := by decide +kernel
theorem d_6_at_24 : decode prog_8_method_3_code 24 = .ok (.goto 4, 3) := by decide +kernel
theorem d_6_at_27 : decode prog_8_method_3_code 27 = .ok (.iconst (-1), 1) := by decide +kernel
theorem d_6_at_28 : decode prog_8_method_3_code 28 = .ok (.ireturn, 1) := by decide +kernel
theorem d_7_isSeat_0 : decode prog_9_method_4_code 0 = .ok (.iload_n 1, 1) := by decide +kernel
theorem d_7_isSeat_1 : decode prog_9_method_4_code 1 = .ok (.ifCond .lt 13, 3) := by decide +kernel
theorem d_7_isSeat_4 : decode prog_9_method_4_code 4 = .ok (.iload_n 1, 1) := by decide +kernel
theorem d_7_isSeat_5 : decode prog_9_method_4_code 5 = .ok (.bipush 24, 2) := by decide +kernel
theorem d_7_isSeat_7 : decode prog_9_method_4_code 7 = .ok (.if_icmp .ge 7, 3) := by decide +kernel
theorem d_7_isSeat_10 : decode prog_9_method_4_code 10 = .ok (.iconst 1, 1) := by decide +kernel
theorem d_7_isSeat_11 : decode prog_9_method_4_code 11 = .ok (.goto 4, 3) := by decide +kernel
theorem d_7_isSeat_14 : decode prog_9_method_4_code 14 = .ok (.iconst 0, 1) := by decide +kernel
theorem d_7_isSeat_15 : decode prog_9_method_4_code 15 = .ok (.ireturn, 1) := by decide +kernel
theorem d_7_keyAt_0 : decode prog_9_method_6_code 0 = .ok (.aload_n 0, 1) := by decide +kernel
theorem d_7_keyAt_1 : decode prog_9_method_6_code 1 = .ok (.iload_n 1, 1) := by decide +kernel
theorem d_7_keyAt_2 : decode prog_9_method_6_code 2 = .ok (.invokevirtual 43, 3) := by decide +kernel
theorem d_7_keyAt_5 : decode prog_9_method_6_code 5 = .ok (.ifCond .eq 12, 3) := by decide +kernel
theorem d_7_keyAt_8 : decode prog_9_method_6_code 8 = .ok (.aload_n 0, 1) := by decide +kernel
theorem d_7_keyAt_9 : decode prog_9_method_6_code 9 = .ok (.getfield 15, 3) := by decide +kernel
theorem d_7_keyAt_12 : decode prog_9_method_6_code 12 = .ok (.iload_n 1, 1) := by decide +kernel
theorem d_7_keyAt_13 : decode prog_9_method_6_code 13 = .ok (.iaload, 1) := by decide +kernel
theorem d_7_keyAt_14 : decode prog_9_method_6_code 14 = .ok (.goto 4, 3) := by decide +kernel
theorem d_7_keyAt_17 : decode prog_9_method_6_code 17 = .ok (.iconst (-1), 1) := by decide +kernel
theorem d_7_keyAt_18 : decode prog_9_method_6_code 18 = .ok (.ireturn, 1) := by decide +kernel
theorem d_11_order_0 : decode prog_1_method_9_code 0 = .ok (.aload_n 0, 1) := by decide +kernel
theorem d_11_order_1 : decode prog_1_method_9_code 1 = .ok (.getfield 26, 3) := by decide +kernel
theorem d_11_order_4 : decode prog_1_method_9_code 4 = .ok (.getfield 48, 3) := by decide +kernel
theorem d_11_order_7 : decode prog_1_method_9_code 7 = .ok (.aload_n 0, 1) := by decide +kernel
theorem d_11_order_8 : decode prog_1_method_9_code 8 = .ok (.getfield 26, 3) := by decide +kernel
theorem d_11_order_11 : decode prog_1_method_9_code 11 = .ok (.getfield 48, 3) := by decide +kernel
theorem d_11_order_14 : decode prog_1_method_9_code 14 = .ok (.getfield 127, 3) := by decide +kernel
theorem d_11_order_17 : decode prog_1_method_9_code 17 = .ok (.iload_n 1, 1) := by decide +kernel
theorem d_11_order_18 : decode prog_1_method_9_code 18 = .ok (.invokevirtual 130, 3) := by decide +kernel
theorem d_11_order_21 : decode prog_1_method_9_code 21 = .ok (.invokevirtual 133, 3) := by decide +kernel
theorem d_11_order_24 : decode prog_1_method_9_code 24 = .ok (.ireturn, 1) := by decide +kernel
theorem d_6_copyFrom_0 : decode prog_8_method_10_code 0 = .ok (.aload_n 1, 1) := by decide +kernel
theorem d_6_copyFrom_1 : decode prog_8_method_10_code 1 = .ok (.getfield 9, 3) := by decide +kernel
theorem d_6_copyFrom_4 : decode prog_8_method_10_code 4 = .ok (.iconst 0, 1) := by decide +kernel
theorem d_6_copyFrom_5 : decode prog_8_method_10_code 5 = .ok (.aload_n 0, 1) := by decide +kernel
theorem d_6_copyFrom_6 : decode prog_8_method_10_code 6 = .ok (.getfield 9, 3) := by decide +kernel
theorem d_6_copyFrom_9 : decode prog_8_method_10_code 9 = .ok (.iconst 0, 1) := by decide +kernel
theorem d_6_copyFrom_10 : decode prog_8_method_10_code 10 = .ok (.bipush 24, 2) := by decide +kernel
theorem d_6_copyFrom_12 : decode prog_8_method_10_code 12 = .ok (.invokestatic 30, 3) := by decide +kernel
theorem d_6_copyFrom_15 : decode prog_8_method_10_code 15 = .ok (.aload_n 0, 1) := by decide +kernel
theorem d_6_copyFrom_16 : decode prog_8_method_10_code 16 = .ok (.aload_n 1, 1) := by decide +kernel
theorem d_6_copyFrom_17 : decode prog_8_method_10_code 17 = .ok (.getfield 15, 3) := by decide +kernel
theorem d_6_copyFrom_20 : decode prog_8_method_10_code 20 = .ok (.putfield 15, 3) := by decide +kernel
theorem d_6_copyFrom_23 : decode prog_8_method_10_code 23 = .ok (.return_, 1) := by decide +kernel
theorem d_7_copyFrom_0 : decode prog_9_method_16_code 0 = .ok (.aload_n 0, 1) := by decide +kernel
theorem d_7_copyFrom_1 : decode prog_9_method_16_code 1 = .ok (.aload_n 1, 1) := by decide +kernel
theorem d_7_copyFrom_2 : decode prog_9_method_16_code 2 = .ok (.getfield 35, 3) := by decide +kernel
theorem d_7_copyFrom_5 : decode prog_9_method_16_code 5 = .ok (.putfield 35, 3) := by decide +kernel
theorem d_7_copyFrom_8 : decode prog_9_method_16_code 8 = .ok (.aload_n 1, 1) := by decide +kernel
theorem d_7_copyFrom_9 : decode prog_9_method_16_code 9 = .ok (.getfield 9, 3) := by decide +kernel
theorem d_7_copyFrom_12 : decode prog_9_method_16_code 12 = .ok (.iconst 0, 1) := by decide +kernel
theorem d_7_copyFrom_13 : decode prog_9_method_16_code 13 = .ok (.aload_n 0, 1) := by decide +kernel
theorem d_7_copyFrom_14 : decode prog_9_method_16_code 14 = .ok (.getfield 9, 3) := by decide +kernel
theorem d_7_copyFrom_17 : decode prog_9_method_16_code 17 = .ok (.iconst 0, 1) := by decide +kernel
theorem d_7_copyFrom_18 : decode prog_9_method_16_code 18 = .ok (.iconst 5, 1) := by decide +kernel
theorem d_7_copyFrom_19 : decode prog_9_method_16_code 19 = .ok (.invokestatic 96, 3) := by decide +kernel
theorem d_7_copyFrom_22 : decode prog_9_method_16_code 22 = .ok (.aload_n 1, 1) := by decide +kernel
theorem d_7_copyFrom_23 : decode prog_9_method_16_code 23 = .ok (.getfield 15, 3) := by decide +kernel
theorem d_7_copyFrom_26 : decode prog_9_method_16_code 26 = .ok (.iconst 0, 1) := by decide +kernel
theorem d_7_copyFrom_27 : decode prog_9_method_16_code 27 = .ok (.aload_n 0, 1) := by decide +kernel
theorem d_7_copyFrom_28 : decode prog_9_method_16_code 28 = .ok (.getfield 15, 3) := by decide +kernel
theorem d_7_copyFrom_31 : decode prog_9_method_16_code 31 = .ok (.iconst 0, 1) := by decide +kernel
theorem d_7_copyFrom_32 : decode prog_9_method_16_code 32 = .ok (.bipush 24, 2) := by decide +kernel
theorem d_7_copyFrom_34 : decode prog_9_method_16_code 34 = .ok (.invokestatic 96, 3) := by decide +kernel
theorem d_7_copyFrom_37 : decode prog_9_method_16_code 37 = .ok (.aload_n 1, 1) := by decide +kernel
theorem d_7_copyFrom_38 : decode prog_9_method_16_code 38 = .ok (.getfield 18, 3) := by decide +kernel
theorem d_7_copyFrom_41 : decode prog_9_method_16_code 41 = .ok (.iconst 0, 1) := by decide +kernel
theorem d_7_copyFrom_42 : decode prog_9_method_16_code 42 = .ok (.aload_n 0, 1) := by decide +kernel
theorem d_7_copyFrom_43 : decode prog_9_method_16_code 43 = .ok (.getfield 18, 3) := by decide +kernel
theorem d_7_copyFrom_46 : decode prog_9_method_16_code 46 = .ok (.iconst 0, 1) := by decide +kernel
theorem d_7_copyFrom_47 : decode prog_9_method_16_code 47 = .ok (.bipush 120, 2) := by decide +kernel
theorem d_7_copyFrom_49 : decode prog_9_method_16_code 49 = .ok (.invokestatic 96, 3) := by decide +kernel
theorem d_7_copyFrom_52 : decode prog_9_method_16_code 52 = .ok (.aload_n 1, 1) := by decide +kernel
theorem d_7_copyFrom_53 : decode prog_9_method_16_code 53 = .ok (.getfield 21, 3) := by decide +kernel
theorem d_7_copyFrom_56 : decode prog_9_method_16_code 56 = .ok (.iconst 0, 1) := by decide +kernel
theorem d_7_copyFrom_57 : decode prog_9_method_16_code 57 = .ok (.aload_n 0, 1) := by decide +kernel
theorem d_7_copyFrom_58 : decode prog_9_method_16_code 58 = .ok (.getfield 21, 3) := by decide +kernel
theorem d_7_copyFrom_61 : decode prog_9_method_16_code 61 = .ok (.iconst 0, 1) := by decide +kernel
theorem d_7_copyFrom_62 : decode prog_9_method_16_code 62 = .ok (.bipush 120, 2) := by decide +kernel
theorem d_7_copyFrom_64 : decode prog_9_method_16_code 64 = .ok (.invokestatic 96, 3) := by decide +kernel
theorem d_7_copyFrom_67 : decode prog_9_method_16_code 67 = .ok (.aload_n 0, 1) := by decide +kernel
theorem d_7_copyFrom_68 : decode prog_9_method_16_code 68 = .ok (.getfield 27, 3) := by decide +kernel
theorem d_7_copyFrom_71 : decode prog_9_method_16_code 71 = .ok (.aload_n 1, 1) := by decide +kernel
theorem d_7_copyFrom_72 : decode prog_9_method_16_code 72 = .ok (.getfield 27, 3) := by decide +kernel
theorem d_7_copyFrom_75 : decode prog_9_method_16_code 75 = .ok (.invokevirtual 102, 3) := by decide +kernel
theorem d_7_copyFrom_78 : decode prog_9_method_16_code 78 = .ok (.aload_n 0, 1) := by decide +kernel
theorem d_7_copyFrom_79 : decode prog_9_method_16_code 79 = .ok (.aload_n 1, 1) := by decide +kernel
theorem d_7_copyFrom_80 : decode prog_9_method_16_code 80 = .ok (.getfield 106, 3) := by decide +kernel
theorem d_7_copyFrom_83 : decode prog_9_method_16_code 83 = .ok (.putfield 106, 3) := by decide +kernel
theorem d_7_copyFrom_86 : decode prog_9_method_16_code 86 = .ok (.aload_n 0, 1) := by decide +kernel
theorem d_7_copyFrom_87 : decode prog_9_method_16_code 87 = .ok (.aload_n 1, 1) := by decide +kernel
theorem d_7_copyFrom_88 : decode prog_9_method_16_code 88 = .ok (.getfield 69, 3) := by decide +kernel
theorem d_7_copyFrom_91 : decode prog_9_method_16_code 91 = .ok (.putfield 69, 3) := by decide +kernel
theorem d_7_copyFrom_94 : decode prog_9_method_16_code 94 = .ok (.return_, 1) := by decide +kernel
theorem d_1_copyFrom_0 : decode prog_3_method_8_code 0 = .ok (.aload_n 0, 1) := by decide +kernel
theorem d_1_copyFrom_1 : decode prog_3_method_8_code 1 = .ok (.aload_n 1, 1) := by decide +kernel
theorem d_1_copyFrom_2 : decode prog_3_method_8_code 2 = .ok (.getfield 24, 3) := by decide +kernel
theorem d_1_copyFrom_5 : decode prog_3_method_8_code 5 = .ok (.putfield 24, 3) := by decide +kernel
theorem d_1_copyFrom_8 : decode prog_3_method_8_code 8 = .ok (.aload_n 1, 1) := by decide +kernel
theorem d_1_copyFrom_9 : decode prog_3_method_8_code 9 = .ok (.getfield 9, 3) := by decide +kernel
theorem d_1_copyFrom_12 : decode prog_3_method_8_code 12 = .ok (.iconst 0, 1) := by decide +kernel
theorem d_1_copyFrom_13 : decode prog_3_method_8_code 13 = .ok (.aload_n 0, 1) := by decide +kernel
theorem d_1_copyFrom_14 : decode prog_3_method_8_code 14 = .ok (.getfield 9, 3) := by decide +kernel
theorem d_1_copyFrom_17 : decode prog_3_method_8_code 17 = .ok (.iconst 0, 1) := by decide +kernel
theorem d_1_copyFrom_18 : decode prog_3_method_8_code 18 = .ok (.bipush 6, 2) := by decide +kernel
theorem d_1_copyFrom_20 : decode prog_3_method_8_code 20 = .ok (.invokestatic 38, 3) := by decide +kernel
theorem d_1_copyFrom_23 : decode prog_3_method_8_code 23 = .ok (.aload_n 1, 1) := by decide +kernel
theorem d_1_copyFrom_24 : decode prog_3_method_8_code 24 = .ok (.getfield 15, 3) := by decide +kernel
theorem d_1_copyFrom_27 : decode prog_3_method_8_code 27 = .ok (.iconst 0, 1) := by decide +kernel
theorem d_1_copyFrom_28 : decode prog_3_method_8_code 28 = .ok (.aload_n 0, 1) := by decide +kernel
theorem d_1_copyFrom_29 : decode prog_3_method_8_code 29 = .ok (.getfield 15, 3) := by decide +kernel
theorem d_1_copyFrom_32 : decode prog_3_method_8_code 32 = .ok (.iconst 0, 1) := by decide +kernel
theorem d_1_copyFrom_33 : decode prog_3_method_8_code 33 = .ok (.bipush 6, 2) := by decide +kernel
theorem d_1_copyFrom_35 : decode prog_3_method_8_code 35 = .ok (.invokestatic 38, 3) := by decide +kernel
theorem d_1_copyFrom_38 : decode prog_3_method_8_code 38 = .ok (.aload_n 1, 1) := by decide +kernel
theorem d_1_copyFrom_39 : decode prog_3_method_8_code 39 = .ok (.getfield 18, 3) := by decide +kernel
theorem d_1_copyFrom_42 : decode prog_3_method_8_code 42 = .ok (.iconst 0, 1) := by decide +kernel
theorem d_1_copyFrom_43 : decode prog_3_method_8_code 43 = .ok (.aload_n 0, 1) := by decide +kernel
theorem d_1_copyFrom_44 : decode prog_3_method_8_code 44 = .ok (.getfield 18, 3) := by decide +kernel
theorem d_1_copyFrom_47 : decode prog_3_method_8_code 47 = .ok (.iconst 0, 1) := by decide +kernel
theorem d_1_copyFrom_48 : decode prog_3_method_8_code 48 = .ok (.bipush 6, 2) := by decide +kernel
theorem d_1_copyFrom_50 : decode prog_3_method_8_code 50 = .ok (.invokestatic 38, 3) := by decide +kernel
theorem d_1_copyFrom_53 : decode prog_3_method_8_code 53 = .ok (.aload_n 1, 1) := by decide +kernel
theorem d_1_copyFrom_54 : decode prog_3_method_8_code 54 = .ok (.getfield 21, 3) := by decide +kernel
theorem d_1_copyFrom_57 : decode prog_3_method_8_code 57 = .ok (.iconst 0, 1) := by decide +kernel
theorem d_1_copyFrom_58 : decode prog_3_method_8_code 58 = .ok (.aload_n 0, 1) := by decide +kernel
theorem d_1_copyFrom_59 : decode prog_3_method_8_code 59 = .ok (.getfield 21, 3) := by decide +kernel
theorem d_1_copyFrom_62 : decode prog_3_method_8_code 62 = .ok (.iconst 0, 1) := by decide +kernel
theorem d_1_copyFrom_63 : decode prog_3_method_8_code 63 = .ok (.bipush 6, 2) := by decide +kernel
theorem d_1_copyFrom_65 : decode prog_3_method_8_code 65 = .ok (.invokestatic 38, 3) := by decide +kernel
theorem d_1_copyFrom_68 : decode prog_3_method_8_code 68 = .ok (.return_, 1) := by decide +kernel
theorem d_2_copyFrom_0 : decode prog_4_method_12_code 0 = .ok (.iconst 0, 1) := by decide +kernel
theorem d_2_copyFrom_1 : decode prog_4_method_12_code 1 = .ok (.istore_n 2, 1) := by decide +kernel
theorem d_2_copyFrom_2 : decode prog_4_method_12_code 2 = .ok (.iload_n 2, 1) := by decide +kernel
theorem d_2_copyFrom_3 : decode prog_4_method_12_code 3 = .ok (.iconst 5, 1) := by decide +kernel
theorem d_2_copyFrom_4 : decode prog_4_method_12_code 4 = .ok (.if_icmp .ge 24, 3) := by decide +kernel
theorem d_2_copyFrom_7 : decode prog_4_method_12_code 7 = .ok (.aload_n 0, 1) := by decide +kernel
theorem d_2_copyFrom_8 : decode prog_4_method_12_code 8 = .ok (.getfield 11, 3) := by decide +kernel
theorem d_2_copyFrom_11 : decode prog_4_method_12_code 11 = .ok (.iload_n 2, 1) := by decide +kernel
theorem d_2_copyFrom_12 : decode prog_4_method_12_code 12 = .ok (.aaload, 1) := by decide +kernel
theorem d_2_copyFrom_13 : decode prog_4_method_12_code 13 = .ok (.aload_n 1, 1) := by decide +kernel
theorem d_2_copyFrom_14 : decode prog_4_method_12_code 14 = .ok (.getfield 11, 3) := by decide +kernel
theorem d_2_copyFrom_17 : decode prog_4_method_12_code 17 = .ok (.iload_n 2, 1) := by decide +kernel
theorem d_2_copyFrom_18 : decode prog_4_method_12_code 18 = .ok (.aaload, 1) := by decide +kernel
theorem d_2_copyFrom_19 : decode prog_4_method_12_code 19 = .ok (.invokevirtual 54, 3) := by decide +kernel
theorem d_2_copyFrom_22 : decode prog_4_method_12_code 22 = .ok (.iinc 2 1, 3) := by decide +kernel
theorem d_2_copyFrom_25 : decode prog_4_method_12_code 25 = .ok (.goto (-23), 3) := by decide +kernel
theorem d_2_copyFrom_28 : decode prog_4_method_12_code 28 = .ok (.aload_n 1, 1) := by decide +kernel
theorem d_2_copyFrom_29 : decode prog_4_method_12_code 29 = .ok (.getfield 17, 3) := by decide +kernel
theorem d_2_copyFrom_32 : decode prog_4_method_12_code 32 = .ok (.iconst 0, 1) := by decide +kernel
theorem d_2_copyFrom_33 : decode prog_4_method_12_code 33 = .ok (.aload_n 0, 1) := by decide +kernel
theorem d_2_copyFrom_34 : decode prog_4_method_12_code 34 = .ok (.getfield 17, 3) := by decide +kernel
theorem d_2_copyFrom_37 : decode prog_4_method_12_code 37 = .ok (.iconst 0, 1) := by decide +kernel
theorem d_2_copyFrom_38 : decode prog_4_method_12_code 38 = .ok (.iconst 3, 1) := by decide +kernel
theorem d_2_copyFrom_39 : decode prog_4_method_12_code 39 = .ok (.invokestatic 58, 3) := by decide +kernel
theorem d_2_copyFrom_42 : decode prog_4_method_12_code 42 = .ok (.aload_n 0, 1) := by decide +kernel
theorem d_2_copyFrom_43 : decode prog_4_method_12_code 43 = .ok (.aload_n 1, 1) := by decide +kernel
theorem d_2_copyFrom_44 : decode prog_4_method_12_code 44 = .ok (.getfield 26, 3) := by decide +kernel
theorem d_2_copyFrom_47 : decode prog_4_method_12_code 47 = .ok (.putfield 26, 3) := by decide +kernel
theorem d_2_copyFrom_50 : decode prog_4_method_12_code 50 = .ok (.aload_n 0, 1) := by decide +kernel
theorem d_2_copyFrom_51 : decode prog_4_method_12_code 51 = .ok (.aload_n 1, 1) := by decide +kernel
theorem d_2_copyFrom_52 : decode prog_4_method_12_code 52 = .ok (.getfield 29, 3) := by decide +kernel
theorem d_2_copyFrom_55 : decode prog_4_method_12_code 55 = .ok (.putfield 29, 3) := by decide +kernel
theorem d_2_copyFrom_58 : decode prog_4_method_12_code 58 = .ok (.return_, 1) := by decide +kernel
theorem d_0_copyFrom_0 : decode prog_2_method_4_code 0 = .ok (.aload_n 0, 1) := by decide +kernel
theorem d_0_copyFrom_1 : decode prog_2_method_4_code 1 = .ok (.aload_n 1, 1) := by decide +kernel
theorem d_0_copyFrom_2 : decode prog_2_method_4_code 2 = .ok (.getfield 24, 3) := by decide +kernel
theorem d_0_copyFrom_5 : decode prog_2_method_4_code 5 = .ok (.bipush 60, 2) := by decide +kernel
theorem d_0_copyFrom_7 : decode prog_2_method_4_code 7 = .ok (.invokestatic 38, 3) := by decide +kernel
theorem d_0_copyFrom_10 : decode prog_2_method_4_code 10 = .ok (.putfield 24, 3) := by decide +kernel
theorem d_0_copyFrom_13 : decode prog_2_method_4_code 13 = .ok (.aload_n 1, 1) := by decide +kernel
theorem d_0_copyFrom_14 : decode prog_2_method_4_code 14 = .ok (.getfield 9, 3) := by decide +kernel
theorem d_0_copyFrom_17 : decode prog_2_method_4_code 17 = .ok (.iconst 0, 1) := by decide +kernel
theorem d_0_copyFrom_18 : decode prog_2_method_4_code 18 = .ok (.aload_n 0, 1) := by decide +kernel
theorem d_0_copyFrom_19 : decode prog_2_method_4_code 19 = .ok (.getfield 9, 3) := by decide +kernel
theorem d_0_copyFrom_22 : decode prog_2_method_4_code 22 = .ok (.iconst 0, 1) := by decide +kernel
theorem d_0_copyFrom_23 : decode prog_2_method_4_code 23 = .ok (.aload_n 0, 1) := by decide +kernel
theorem d_0_copyFrom_24 : decode prog_2_method_4_code 24 = .ok (.getfield 24, 3) := by decide +kernel
theorem d_0_copyFrom_27 : decode prog_2_method_4_code 27 = .ok (.invokestatic 43, 3) := by decide +kernel
theorem d_0_copyFrom_30 : decode prog_2_method_4_code 30 = .ok (.aload_n 1, 1) := by decide +kernel
theorem d_0_copyFrom_31 : decode prog_2_method_4_code 31 = .ok (.getfield 15, 3) := by decide +kernel
theorem d_0_copyFrom_34 : decode prog_2_method_4_code 34 = .ok (.iconst 0, 1) := by decide +kernel
theorem d_0_copyFrom_35 : decode prog_2_method_4_code 35 = .ok (.aload_n 0, 1) := by decide +kernel
theorem d_0_copyFrom_36 : decode prog_2_method_4_code 36 = .ok (.getfield 15, 3) := by decide +kernel
theorem d_0_copyFrom_39 : decode prog_2_method_4_code 39 = .ok (.iconst 0, 1) := by decide +kernel
theorem d_0_copyFrom_40 : decode prog_2_method_4_code 40 = .ok (.aload_n 0, 1) := by decide +kernel
theorem d_0_copyFrom_41 : decode prog_2_method_4_code 41 = .ok (.getfield 24, 3) := by decide +kernel
theorem d_0_copyFrom_44 : decode prog_2_method_4_code 44 = .ok (.invokestatic 43, 3) := by decide +kernel
theorem d_0_copyFrom_47 : decode prog_2_method_4_code 47 = .ok (.aload_n 1, 1) := by decide +kernel
theorem d_0_copyFrom_48 : decode prog_2_method_4_code 48 = .ok (.getfield 18, 3) := by decide +kernel
theorem d_0_copyFrom_51 : decode prog_2_method_4_code 51 = .ok (.iconst 0, 1) := by decide +kernel
theorem d_0_copyFrom_52 : decode prog_2_method_4_code 52 = .ok (.aload_n 0, 1) := by decide +kernel
theorem d_0_copyFrom_53 : decode prog_2_method_4_code 53 = .ok (.getfield 18, 3) := by decide +kernel
theorem d_0_copyFrom_56 : decode prog_2_method_4_code 56 = .ok (.iconst 0, 1) := by decide +kernel
theorem d_0_copyFrom_57 : decode prog_2_method_4_code 57 = .ok (.aload_n 0, 1) := by decide +kernel
theorem d_0_copyFrom_58 : decode prog_2_method_4_code 58 = .ok (.getfield 24, 3) := by decide +kernel
theorem d_0_copyFrom_61 : decode prog_2_method_4_code 61 = .ok (.invokestatic 43, 3) := by decide +kernel
theorem d_0_copyFrom_64 : decode prog_2_method_4_code 64 = .ok (.aload_n 1, 1) := by decide +kernel
theorem d_0_copyFrom_65 : decode prog_2_method_4_code 65 = .ok (.getfield 21, 3) := by decide +kernel
theorem d_0_copyFrom_68 : decode prog_2_method_4_code 68 = .ok (.iconst 0, 1) := by decide +kernel
theorem d_0_copyFrom_69 : decode prog_2_method_4_code 69 = .ok (.aload_n 0, 1) := by decide +kernel
theorem d_0_copyFrom_70 : decode prog_2_method_4_code 70 = .ok (.getfield 21, 3) := by decide +kernel
theorem d_0_copyFrom_73 : decode prog_2_method_4_code 73 = .ok (.iconst 0, 1) := by decide +kernel
theorem d_0_copyFrom_74 : decode prog_2_method_4_code 74 = .ok (.aload_n 0, 1) := by decide +kernel
theorem d_0_copyFrom_75 : decode prog_2_method_4_code 75 = .ok (.getfield 24, 3) := by decide +kernel
theorem d_0_copyFrom_78 : decode prog_2_method_4_code 78 = .ok (.invokestatic 43, 3) := by decide +kernel
theorem d_0_copyFrom_81 : decode prog_2_method_4_code 81 = .ok (.return_, 1) := by decide +kernel
theorem d_10_copyFrom_0 : decode prog_12_method_6_code 0 = .ok (.aload_n 0, 1) := by decide +kernel
theorem d_10_copyFrom_1 : decode prog_12_method_6_code 1 = .ok (.getfield 12, 3) := by decide +kernel
theorem d_10_copyFrom_4 : decode prog_12_method_6_code 4 = .ok (.aload_n 1, 1) := by decide +kernel
theorem d_10_copyFrom_5 : decode prog_12_method_6_code 5 = .ok (.getfield 12, 3) := by decide +kernel
theorem d_10_copyFrom_8 : decode prog_12_method_6_code 8 = .ok (.invokevirtual 49, 3) := by decide +kernel
theorem d_10_copyFrom_11 : decode prog_12_method_6_code 11 = .ok (.aload_n 0, 1) := by decide +kernel
theorem d_10_copyFrom_12 : decode prog_12_method_6_code 12 = .ok (.getfield 21, 3) := by decide +kernel
theorem d_10_copyFrom_15 : decode prog_12_method_6_code 15 = .ok (.aload_n 1, 1) := by decide +kernel
theorem d_10_copyFrom_16 : decode prog_12_method_6_code 16 = .ok (.getfield 21, 3) := by decide +kernel
theorem d_10_copyFrom_19 : decode prog_12_method_6_code 19 = .ok (.invokevirtual 52, 3) := by decide +kernel
theorem d_10_copyFrom_22 : decode prog_12_method_6_code 22 = .ok (.aload_n 0, 1) := by decide +kernel
theorem d_10_copyFrom_23 : decode prog_12_method_6_code 23 = .ok (.aload_n 1, 1) := by decide +kernel
theorem d_10_copyFrom_24 : decode prog_12_method_6_code 24 = .ok (.getfield 32, 3) := by decide +kernel
theorem d_10_copyFrom_27 : decode prog_12_method_6_code 27 = .ok (.putfield 32, 3) := by decide +kernel
theorem d_10_copyFrom_30 : decode prog_12_method_6_code 30 = .ok (.iconst 0, 1) := by decide +kernel
theorem d_10_copyFrom_31 : decode prog_12_method_6_code 31 = .ok (.istore_n 2, 1) := by decide +kernel
theorem d_10_copyFrom_32 : decode prog_12_method_6_code 32 = .ok (.iload_n 2, 1) := by decide +kernel
theorem d_10_copyFrom_33 : decode prog_12_method_6_code 33 = .ok (.aload_n 0, 1) := by decide +kernel
theorem d_10_copyFrom_34 : decode prog_12_method_6_code 34 = .ok (.getfield 32, 3) := by decide +kernel
theorem d_10_copyFrom_37 : decode prog_12_method_6_code 37 = .ok (.if_icmp .ge 30, 3) := by decide +kernel
theorem d_10_copyFrom_40 : decode prog_12_method_6_code 40 = .ok (.iload_n 2, 1) := by decide +kernel
theorem d_10_copyFrom_41 : decode prog_12_method_6_code 41 = .ok (.bipush 8, 2) := by decide +kernel
theorem d_10_copyFrom_43 : decode prog_12_method_6_code 43 = .ok (.if_icmp .ge 24, 3) := by decide +kernel
theorem d_10_copyFrom_46 : decode prog_12_method_6_code 46 = .ok (.aload_n 0, 1) := by decide +kernel
theorem d_10_copyFrom_47 : decode prog_12_method_6_code 47 = .ok (.getfield 27, 3) := by decide +kernel
theorem d_10_copyFrom_50 : decode prog_12_method_6_code 50 = .ok (.iload_n 2, 1) := by decide +kernel
theorem d_10_copyFrom_51 : decode prog_12_method_6_code 51 = .ok (.aaload, 1) := by decide +kernel
theorem d_10_copyFrom_52 : decode prog_12_method_6_code 52 = .ok (.aload_n 1, 1) := by decide +kernel
theorem d_10_copyFrom_53 : decode prog_12_method_6_code 53 = .ok (.getfield 27, 3) := by decide +kernel
theorem d_10_copyFrom_56 : decode prog_12_method_6_code 56 = .ok (.iload_n 2, 1) := by decide +kernel
theorem d_10_copyFrom_57 : decode prog_12_method_6_code 57 = .ok (.aaload, 1) := by decide +kernel
theorem d_10_copyFrom_58 : decode prog_12_method_6_code 58 = .ok (.invokevirtual 39, 3) := by decide +kernel
theorem d_10_copyFrom_61 : decode prog_12_method_6_code 61 = .ok (.iinc 2 1, 3) := by decide +kernel
theorem d_10_copyFrom_64 : decode prog_12_method_6_code 64 = .ok (.goto (-32), 3) := by decide +kernel
theorem d_10_copyFrom_67 : decode prog_12_method_6_code 67 = .ok (.return_, 1) := by decide +kernel
theorem d_3_copyFrom_0 : decode prog_5_method_4_code 0 = .ok (.aload_n 1, 1) := by decide +kernel
theorem d_3_copyFrom_1 : decode prog_5_method_4_code 1 = .ok (.getfield 11, 3) := by decide +kernel
theorem d_3_copyFrom_4 : decode prog_5_method_4_code 4 = .ok (.iconst 0, 1) := by decide +kernel
theorem d_3_copyFrom_5 : decode prog_5_method_4_code 5 = .ok (.aload_n 0, 1) := by decide +kernel
theorem d_3_copyFrom_6 : decode prog_5_method_4_code 6 = .ok (.getfield 11, 3) := by decide +kernel
theorem d_3_copyFrom_9 : decode prog_5_method_4_code 9 = .ok (.iconst 0, 1) := by decide +kernel
theorem d_3_copyFrom_10 : decode prog_5_method_4_code 10 = .ok (.sipush 200, 3) := by decide +kernel
theorem d_3_copyFrom_13 : decode prog_5_method_4_code 13 = .ok (.invokestatic 31, 3) := by decide +kernel
theorem d_3_copyFrom_16 : decode prog_5_method_4_code 16 = .ok (.aload_n 0, 1) := by decide +kernel
theorem d_3_copyFrom_17 : decode prog_5_method_4_code 17 = .ok (.aload_n 1, 1) := by decide +kernel
theorem d_3_copyFrom_18 : decode prog_5_method_4_code 18 = .ok (.getfield 15, 3) := by decide +kernel
theorem d_3_copyFrom_21 : decode prog_5_method_4_code 21 = .ok (.putfield 15, 3) := by decide +kernel
theorem d_3_copyFrom_24 : decode prog_5_method_4_code 24 = .ok (.aload_n 0, 1) := by decide +kernel
theorem d_3_copyFrom_25 : decode prog_5_method_4_code 25 = .ok (.aload_n 1, 1) := by decide +kernel
theorem d_3_copyFrom_26 : decode prog_5_method_4_code 26 = .ok (.getfield 19, 3) := by decide +kernel
theorem d_3_copyFrom_29 : decode prog_5_method_4_code 29 = .ok (.putfield 19, 3) := by decide +kernel
theorem d_3_copyFrom_32 : decode prog_5_method_4_code 32 = .ok (.return_, 1) := by decide +kernel
theorem d_8_copyFrom_0 : decode prog_10_method_12_code 0 = .ok (.aload_n 0, 1) := by decide +kernel
theorem d_8_copyFrom_1 : decode prog_10_method_12_code 1 = .ok (.getfield 12, 3) := by decide +kernel
theorem d_8_copyFrom_4 : decode prog_10_method_12_code 4 = .ok (.aload_n 1, 1) := by decide +kernel
theorem d_8_copyFrom_5 : decode prog_10_method_12_code 5 = .ok (.getfield 12, 3) := by decide +kernel
theorem d_8_copyFrom_8 : decode prog_10_method_12_code 8 = .ok (.invokevirtual 182, 3) := by decide +kernel
theorem d_8_copyFrom_11 : decode prog_10_method_12_code 11 = .ok (.iconst 0, 1) := by decide +kernel
theorem d_8_copyFrom_12 : decode prog_10_method_12_code 12 = .ok (.istore_n 2, 1) := by decide +kernel
theorem d_8_copyFrom_13 : decode prog_10_method_12_code 13 = .ok (.iload_n 2, 1) := by decide +kernel
theorem d_8_copyFrom_14 : decode prog_10_method_12_code 14 = .ok (.iconst 4, 1) := by decide +kernel
theorem d_8_copyFrom_15 : decode prog_10_method_12_code 15 = .ok (.if_icmp .ge 24, 3) := by decide +kernel
theorem d_8_copyFrom_18 : decode prog_10_method_12_code 18 = .ok (.aload_n 0, 1) := by decide +kernel
theorem d_8_copyFrom_19 : decode prog_10_method_12_code 19 = .ok (.getfield 20, 3) := by decide +kernel
theorem d_8_copyFrom_22 : decode prog_10_method_12_code 22 = .ok (.iload_n 2, 1) := by decide +kernel
theorem d_8_copyFrom_23 : decode prog_10_method_12_code 23 = .ok (.aaload, 1) := by decide +kernel
theorem d_8_copyFrom_24 : decode prog_10_method_12_code 24 = .ok (.aload_n 1, 1) := by decide +kernel
theorem d_8_copyFrom_25 : decode prog_10_method_12_code 25 = .ok (.getfield 20, 3) := by decide +kernel
theorem d_8_copyFrom_28 : decode prog_10_method_12_code 28 = .ok (.iload_n 2, 1) := by decide +kernel
theorem d_8_copyFrom_29 : decode prog_10_method_12_code 29 = .ok (.aaload, 1) := by decide +kernel
theorem d_8_copyFrom_30 : decode prog_10_method_12_code 30 = .ok (.invokevirtual 186, 3) := by decide +kernel
theorem d_8_copyFrom_33 : decode prog_10_method_12_code 33 = .ok (.iinc 2 1, 3) := by decide +kernel
theorem d_8_copyFrom_36 : decode prog_10_method_12_code 36 = .ok (.goto (-23), 3) := by decide +kernel
theorem d_8_copyFrom_39 : decode prog_10_method_12_code 39 = .ok (.aload_n 0, 1) := by decide +kernel
theorem d_8_copyFrom_40 : decode prog_10_method_12_code 40 = .ok (.getfield 27, 3) := by decide +kernel
theorem d_8_copyFrom_43 : decode prog_10_method_12_code 43 = .ok (.aload_n 1, 1) := by decide +kernel
theorem d_8_copyFrom_44 : decode prog_10_method_12_code 44 = .ok (.getfield 27, 3) := by decide +kernel
theorem d_8_copyFrom_47 : decode prog_10_method_12_code 47 = .ok (.invokevirtual 189, 3) := by decide +kernel
theorem d_8_copyFrom_50 : decode prog_10_method_12_code 50 = .ok (.return_, 1) := by decide +kernel
theorem d_11_back_0 : decode prog_1_method_45_code 0 = .ok (.aload_n 0, 1) := by decide +kernel
theorem d_11_back_1 : decode prog_1_method_45_code 1 = .ok (.getfield 333, 3) := by decide +kernel
theorem d_11_back_4 : decode prog_1_method_45_code 4 = .ok (.ifnonnull 5, 3) := by decide +kernel
theorem d_11_back_7 : decode prog_1_method_45_code 7 = .ok (.iconst 0, 1) := by decide +kernel
theorem d_11_back_8 : decode prog_1_method_45_code 8 = .ok (.ireturn, 1) := by decide +kernel
theorem d_11_back_9 : decode prog_1_method_45_code 9 = .ok (.aload_n 0, 1) := by decide +kernel
theorem d_11_back_10 : decode prog_1_method_45_code 10 = .ok (.getfield 26, 3) := by decide +kernel
theorem d_11_back_13 : decode prog_1_method_45_code 13 = .ok (.aload_n 0, 1) := by decide +kernel
theorem d_11_back_14 : decode prog_1_method_45_code 14 = .ok (.getfield 333, 3) := by decide +kernel
theorem d_11_back_17 : decode prog_1_method_45_code 17 = .ok (.invokevirtual 336, 3) := by decide +kernel
theorem d_11_back_20 : decode prog_1_method_45_code 20 = .ok (.iconst 1, 1) := by decide +kernel
theorem d_11_back_21 : decode prog_1_method_45_code 21 = .ok (.ireturn, 1) := by decide +kernel
theorem d_6_length_0 : decode prog_8_method_2_code 0 = .ok (.aload_n 0, 1) := by decide +kernel
theorem d_6_length_1 : decode prog_8_method_2_code 1 = .ok (.getfield 15, 3) := by decide +kernel
theorem d_6_length_4 : decode prog_8_method_2_code 4 = .ok (.ireturn, 1) := by decide +kernel
theorem d_7_rowsNow_0 : decode prog_9_method_2_code 0 = .ok (.aload_n 0, 1) := by decide +kernel
theorem d_7_rowsNow_1 : decode prog_9_method_2_code 1 = .ok (.getfield 27, 3) := by decide +kernel
theorem d_7_rowsNow_4 : decode prog_9_method_2_code 4 = .ok (.invokevirtual 31, 3) := by decide +kernel
theorem d_7_rowsNow_7 : decode prog_9_method_2_code 7 = .ok (.ireturn, 1) := by decide +kernel
theorem d_11_count_0 : decode prog_1_method_46_code 0 = .ok (.iload_n 1, 1) := by decide +kernel
theorem d_11_count_1 : decode prog_1_method_46_code 1 = .ok (.tableswitch 90 0 4 #[35, 46, 57, 68, 79], 35) := by decide +kernel
theorem d_11_count_36 : decode prog_1_method_46_code 36 = .ok (.aload_n 0, 1) := by decide +kernel
theorem d_11_count_37 : decode prog_1_method_46_code 37 = .ok (.getfield 26, 3) := by decide +kernel
theorem d_11_count_40 : decode prog_1_method_46_code 40 = .ok (.getfield 48, 3) := by decide +kernel
theorem d_11_count_43 : decode prog_1_method_46_code 43 = .ok (.getfield 206, 3) := by decide +kernel
theorem d_11_count_46 : decode prog_1_method_46_code 46 = .ok (.ireturn, 1) := by decide +kernel
theorem d_11_count_47 : decode prog_1_method_46_code 47 = .ok (.aload_n 0, 1) := by decide +kernel
theorem d_11_count_48 : decode prog_1_method_46_code 48 = .ok (.getfield 26, 3) := by decide +kernel
theorem d_11_count_51 : decode prog_1_method_46_code 51 = .ok (.getfield 48, 3) := by decide +kernel
theorem d_11_count_54 : decode prog_1_method_46_code 54 = .ok (.invokevirtual 199, 3) := by decide +kernel
theorem d_11_count_57 : decode prog_1_method_46_code 57 = .ok (.ireturn, 1) := by decide +kernel
theorem d_11_count_58 : decode prog_1_method_46_code 58 = .ok (.aload_n 0, 1) := by decide +kernel
theorem d_11_count_59 : decode prog_1_method_46_code 59 = .ok (.getfield 26, 3) := by decide +kernel
theorem d_11_count_62 : decode prog_1_method_46_code 62 = .ok (.getfield 48, 3) := by decide +kernel
theorem d_11_count_65 : decode prog_1_method_46_code 65 = .ok (.getfield 59, 3) := by decide +kernel
theorem d_11_count_68 : decode prog_1_method_46_code 68 = .ok (.ireturn, 1) := by decide +kernel
theorem d_11_count_69 : decode prog_1_method_46_code 69 = .ok (.aload_n 0, 1) := by decide +kernel
theorem d_11_count_70 : decode prog_1_method_46_code 70 = .ok (.getfield 26, 3) := by decide +kernel
theorem d_11_count_73 : decode prog_1_method_46_code 73 = .ok (.getfield 48, 3) := by decide +kernel
theorem d_11_count_76 : decode prog_1_method_46_code 76 = .ok (.getfield 339, 3) := by decide +kernel
theorem d_11_count_79 : decode prog_1_method_46_code 79 = .ok (.ireturn, 1) := by decide +kernel
theorem d_11_count_80 : decode prog_1_method_46_code 80 = .ok (.aload_n 0, 1) := by decide +kernel
theorem d_11_count_81 : decode prog_1_method_46_code 81 = .ok (.getfield 26, 3) := by decide +kernel
theorem d_11_count_84 : decode prog_1_method_46_code 84 = .ok (.getfield 326, 3) := by decide +kernel
theorem d_11_count_87 : decode prog_1_method_46_code 87 = .ok (.getfield 342, 3) := by decide +kernel
theorem d_11_count_90 : decode prog_1_method_46_code 90 = .ok (.ireturn, 1) := by decide +kernel
theorem d_11_count_91 : decode prog_1_method_46_code 91 = .ok (.iconst (-1), 1) := by decide +kernel
theorem d_11_count_92 : decode prog_1_method_46_code 92 = .ok (.ireturn, 1) := by decide +kernel
theorem d_5_useUp_0 : decode prog_7_method_3_code 0 = .ok (.aload_n 0, 1) := by decide +kernel
theorem d_5_useUp_1 : decode prog_7_method_3_code 1 = .ok (.aload_n 0, 1) := by decide +kernel
theorem d_5_useUp_2 : decode prog_7_method_3_code 2 = .ok (.getfield 19, 3) := by decide +kernel
theorem d_5_useUp_5 : decode prog_7_method_3_code 5 = .ok (.putfield 22, 3) := by decide +kernel
theorem d_5_useUp_8 : decode prog_7_method_3_code 8 = .ok (.aload_n 0, 1) := by decide +kernel
theorem d_5_useUp_9 : decode prog_7_method_3_code 9 = .ok (.iconst 0, 1) := by decide +kernel
theorem d_5_useUp_10 : decode prog_7_method_3_code 10 = .ok (.putfield 19, 3) := by decide +kernel
theorem d_5_useUp_13 : decode prog_7_method_3_code 13 = .ok (.return_, 1) := by decide +kernel
theorem d_5_openUsedText_0 : decode prog_7_method_4_code 0 = .ok (.aload_n 0, 1) := by decide +kernel
theorem d_5_openUsedText_1 : decode prog_7_method_4_code 1 = .ok (.iconst 0, 1) := by decide +kernel
theorem d_5_openUsedText_2 : decode prog_7_method_4_code 2 = .ok (.putfield 25, 3) := by decide +kernel
theorem d_5_openUsedText_5 : decode prog_7_method_4_code 5 = .ok (.aload_n 0, 1) := by decide +kernel
theorem d_5_openUsedText_6 : decode prog_7_method_4_code 6 = .ok (.iconst (-1), 1) := by decide +kernel
theorem d_5_openUsedText_7 : decode prog_7_method_4_code 7 = .ok (.putfield 15, 3) := by decide +kernel
theorem d_5_openUsedText_10 : decode prog_7_method_4_code 10 = .ok (.return_, 1) := by decide +kernel
theorem d_5_openText_0 : decode prog_7_method_5_code 0 = .ok (.aload_n 0, 1) := by decide +kernel
theorem d_5_openText_1 : decode prog_7_method_5_code 1 = .ok (.invokevirtual 28, 3) := by decide +kernel
theorem d_5_openText_4 : decode prog_7_method_5_code 4 = .ok (.aload_n 0, 1) := by decide +kernel
theorem d_5_openText_5 : decode prog_7_method_5_code 5 = .ok (.invokevirtual 31, 3) := by decide +kernel
theorem d_5_openText_8 : decode prog_7_method_5_code 8 = .ok (.return_, 1) := by decide +kernel
theorem d_9_knowColumns_0 : decode prog_11_method_4_code 0 = .ok (.aload_n 0, 1) := by decide +kernel
theorem d_9_knowColumns_1 : decode prog_11_method_4_code 1 = .ok (.aload_n 1, 1) := by decide +kernel
theorem d_9_knowColumns_2 : decode prog_11_method_4_code 2 = .ok (.getfield 37, 3) := by decide +kernel
theorem d_9_knowColumns_5 : decode prog_11_method_4_code 5 = .ok (.putfield 42, 3) := by decide +kernel
theorem d_9_knowColumns_8 : decode prog_11_method_4_code 8 = .ok (.aload_n 1, 1) := by decide +kernel
theorem d_9_knowColumns_9 : decode prog_11_method_4_code 9 = .ok (.getfield 43, 3) := by decide +kernel
theorem d_9_knowColumns_12 : decode prog_11_method_4_code 12 = .ok (.iconst 0, 1) := by decide +kernel
theorem d_9_knowColumns_13 : decode prog_11_method_4_code 13 = .ok (.aload_n 0, 1) := by decide +kernel
theorem d_9_knowColumns_14 : decode prog_11_method_4_code 14 = .ok (.getfield 9, 3) := by decide +kernel
theorem d_9_knowColumns_17 : decode prog_11_method_4_code 17 = .ok (.iconst 0, 1) := by decide +kernel
theorem d_9_knowColumns_18 : decode prog_11_method_4_code 18 = .ok (.iconst 5, 1) := by decide +kernel
theorem d_9_knowColumns_19 : decode prog_11_method_4_code 19 = .ok (.invokestatic 44, 3) := by decide +kernel
theorem d_9_knowColumns_22 : decode prog_11_method_4_code 22 = .ok (.aload_n 0, 1) := by decide +kernel
theorem d_9_knowColumns_23 : decode prog_11_method_4_code 23 = .ok (.iconst 0, 1) := by decide +kernel
theorem d_9_knowColumns_24 : decode prog_11_method_4_code 24 = .ok (.putfield 28, 3) := by decide +kernel
theorem d_9_knowColumns_27 : decode prog_11_method_4_code 27 = .ok (.return_, 1) := by decide +kernel
theorem d_5_skipBlanks_0 : decode prog_7_method_11_code 0 = .ok (.aload_n 0, 1) := by decide +kernel
theorem d_5_skipBlanks_1 : decode prog_7_method_11_code 1 = .ok (.getfield 25, 3) := by decide +kernel
theorem d_5_skipBlanks_4 : decode prog_7_method_11_code 4 = .ok (.aload_n 0, 1) := by decide +kernel
theorem d_5_skipBlanks_5 : decode prog_7_method_11_code 5 = .ok (.getfield 22, 3) := by decide +kernel
theorem d_5_skipBlanks_8 : decode prog_7_method_11_code 8 = .ok (.if_icmp .ge 30, 3) := by decide +kernel
theorem d_5_skipBlanks_11 : decode prog_7_method_11_code 11 = .ok (.aload_n 0, 1) := by decide +kernel
theorem d_5_skipBlanks_12 : decode prog_7_method_11_code 12 = .ok (.getfield 9, 3) := by decide +kernel
theorem d_5_skipBlanks_15 : decode prog_7_method_11_code 15 = .ok (.aload_n 0, 1) := by decide +kernel
theorem d_5_skipBlanks_16 : decode prog_7_method_11_code 16 = .ok (.getfield 25, 3) := by decide +kernel
theorem d_5_skipBlanks_19 : decode prog_7_method_11_code 19 = .ok (.iaload, 1) := by decide +kernel
theorem d_5_skipBlanks_20 : decode prog_7_method_11_code 20 = .ok (.bipush 32, 2) := by decide +kernel
theorem d_5_skipBlanks_22 : decode prog_7_method_11_code 22 = .ok (.if_icmp .ne 16, 3) := by decide +kernel
theorem d_5_skipBlanks_25 : decode prog_7_method_11_code 25 = .ok (.aload_n 0, 1) := by decide +kernel
theorem d_5_skipBlanks_26 : decode prog_7_method_11_code 26 = .ok (.dup, 1) := by decide +kernel
theorem d_5_skipBlanks_27 : decode prog_7_method_11_code 27 = .ok (.getfield 25, 3) := by decide +kernel
theorem d_5_skipBlanks_30 : decode prog_7_method_11_code 30 = .ok (.iconst 1, 1) := by decide +kernel
theorem d_5_skipBlanks_31 : decode prog_7_method_11_code 31 = .ok (.iadd, 1) := by decide +kernel
theorem d_5_skipBlanks_32 : decode prog_7_method_11_code 32 = .ok (.putfield 25, 3) := by decide +kernel
theorem d_5_skipBlanks_35 : decode prog_7_method_11_code 35 = .ok (.goto (-35), 3) := by decide +kernel
theorem d_5_skipBlanks_38 : decode prog_7_method_11_code 38 = .ok (.return_, 1) := by decide +kernel
theorem d_5_isOver_0 : decode prog_7_method_12_code 0 = .ok (.aload_n 0, 1) := by decide +kernel
theorem d_5_isOver_1 : decode prog_7_method_12_code 1 = .ok (.invokevirtual 34, 3) := by decide +kernel
theorem d_5_isOver_4 : decode prog_7_method_12_code 4 = .ok (.aload_n 0, 1) := by decide +kernel
theorem d_5_isOver_5 : decode prog_7_method_12_code 5 = .ok (.getfield 25, 3) := by decide +kernel
theorem d_5_isOver_8 : decode prog_7_method_12_code 8 = .ok (.aload_n 0, 1) := by decide +kernel
theorem d_5_isOver_9 : decode prog_7_method_12_code 9 = .ok (.getfield 22, 3) := by decide +kernel
theorem d_5_isOver_12 : decode prog_7_method_12_code 12 = .ok (.if_icmp .lt 7, 3) := by decide +kernel
theorem d_5_isOver_15 : decode prog_7_method_12_code 15 = .ok (.iconst 1, 1) := by decide +kernel
theorem d_5_isOver_16 : decode prog_7_method_12_code 16 = .ok (.goto 4, 3) := by decide +kernel
theorem d_5_isOver_19 : decode prog_7_method_12_code 19 = .ok (.iconst 0, 1) := by decide +kernel
theorem d_5_isOver_20 : decode prog_7_method_12_code 20 = .ok (.ireturn, 1) := by decide +kernel
theorem d_5_isWordHere_0 : decode prog_7_method_14_code 0 = .ok (.aload_n 0, 1) := by decide +kernel
theorem d_5_isWordHere_1 : decode prog_7_method_14_code 1 = .ok (.getfield 25, 3) := by decide +kernel
theorem d_5_isWordHere_4 : decode prog_7_method_14_code 4 = .ok (.aload_n 1, 1) := by decide +kernel
theorem d_5_isWordHere_5 : decode prog_7_method_14_code 5 = .ok (.invokevirtual 41, 3) := by decide +kernel
theorem d_5_isWordHere_8 : decode prog_7_method_14_code 8 = .ok (.iadd, 1) := by decide +kernel
theorem d_5_isWordHere_9 : decode prog_7_method_14_code 9 = .ok (.istore_n 2, 1) := by decide +kernel
theorem d_5_isWordHere_10 : decode prog_7_method_14_code 10 = .ok (.iload_n 2, 1) := by decide +kernel
theorem d_5_isWordHere_11 : decode prog_7_method_14_code 11 = .ok (.aload_n 0, 1) := by decide +kernel
theorem d_5_isWordHere_12 : decode prog_7_method_14_code 12 = .ok (.getfield 22, 3) := by decide +kernel
theorem d_5_isWordHere_15 : decode prog_7_method_14_code 15 = .ok (.if_icmp .le 5, 3) := by decide +kernel
theorem d_5_isWordHere_18 : decode prog_7_method_14_code 18 = .ok (.iconst 0, 1) := by decide +kernel
theorem d_5_isWordHere_19 : decode prog_7_method_14_code 19 = .ok (.ireturn, 1) := by decide +kernel
theorem d_5_isWordHere_20 : decode prog_7_method_14_code 20 = .ok (.iconst 0, 1) := by decide +kernel
theorem d_5_isWordHere_21 : decode prog_7_method_14_code 21 = .ok (.istore_n 3, 1) := by decide +kernel
theorem d_5_isWordHere_22 : decode prog_7_method_14_code 22 = .ok (.iload_n 3, 1) := by decide +kernel
theorem d_5_isWordHere_23 : decode prog_7_method_14_code 23 = .ok (.aload_n 1, 1) := by decide +kernel
theorem d_5_isWordHere_24 : decode prog_7_method_14_code 24 = .ok (.invokevirtual 41, 3) := by decide +kernel
theorem d_5_isWordHere_27 : decode prog_7_method_14_code 27 = .ok (.if_icmp .ge 30, 3) := by decide +kernel
theorem d_5_isWordHere_30 : decode prog_7_method_14_code 30 = .ok (.aload_n 0, 1) := by decide +kernel
theorem d_5_isWordHere_31 : decode prog_7_method_14_code 31 = .ok (.getfield 9, 3) := by decide +kernel
theorem d_5_isWordHere_34 : decode prog_7_method_14_code 34 = .ok (.aload_n 0, 1) := by decide +kernel
theorem d_5_isWordHere_35 : decode prog_7_method_14_code 35 = .ok (.getfield 25, 3) := by decide +kernel
theorem d_5_isWordHere_38 : decode prog_7_method_14_code 38 = .ok (.iload_n 3, 1) := by decide +kernel
theorem d_5_isWordHere_39 : decode prog_7_method_14_code 39 = .ok (.iadd, 1) := by decide +kernel
theorem d_5_isWordHere_40 : decode prog_7_method_14_code 40 = .ok (.iaload, 1) := by decide +kernel
theorem d_5_isWordHere_41 : decode prog_7_method_14_code 41 = .ok (.aload_n 1, 1) := by decide +kernel
theorem d_5_isWordHere_42 : decode prog_7_method_14_code 42 = .ok (.iload_n 3, 1) := by decide +kernel
theorem d_5_isWordHere_43 : decode prog_7_method_14_code 43 = .ok (.invokevirtual 46, 3) := by decide +kernel
theorem d_5_isWordHere_46 : decode prog_7_method_14_code 46 = .ok (.if_icmp .eq 5, 3) := by decide +kernel
theorem d_5_isWordHere_49 : decode prog_7_method_14_code 49 = .ok (.iconst 0, 1) := by decide +kernel
theorem d_5_isWordHere_50 : decode prog_7_method_14_code 50 = .ok (.ireturn, 1) := by decide +kernel
theorem d_5_isWordHere_51 : decode prog_7_method_14_code 51 = .ok (.iinc 3 1, 3) := by decide +kernel
theorem d_5_isWordHere_54 : decode prog_7_method_14_code 54 = .ok (.goto (-32), 3) := by decide +kernel
theorem d_5_isWordHere_57 : decode prog_7_method_14_code 57 = .ok (.iload_n 2, 1) := by decide +kernel
theorem d_5_isWordHere_58 : decode prog_7_method_14_code 58 = .ok (.aload_n 0, 1) := by decide +kernel
theorem d_5_isWordHere_59 : decode prog_7_method_14_code 59 = .ok (.getfield 22, 3) := by decide +kernel
theorem d_5_isWordHere_62 : decode prog_7_method_14_code 62 = .ok (.if_icmp .ge 25, 3) := by decide +kernel
theorem d_5_isWordHere_65 : decode prog_7_method_14_code 65 = .ok (.aload_n 0, 1) := by decide +kernel
theorem d_5_isWordHere_66 : decode prog_7_method_14_code 66 = .ok (.getfield 9, 3) := by decide +kernel
theorem d_5_isWordHere_69 : decode prog_7_method_14_code 69 = .ok (.iload_n 2, 1) := by decide +kernel
theorem d_5_isWordHere_70 : decode prog_7_method_14_code 70 = .ok (.iaload, 1) := by decide +kernel
theorem d_5_isWordHere_71 : decode prog_7_method_14_code 71 = .ok (.bipush 97, 2) := by decide +kernel
theorem d_5_isWordHere_73 : decode prog_7_method_14_code 73 = .ok (.if_icmp .lt 14, 3) := by decide +kernel
theorem d_5_isWordHere_76 : decode prog_7_method_14_code 76 = .ok (.aload_n 0, 1) := by decide +kernel
theorem d_5_isWordHere_77 : decode prog_7_method_14_code 77 = .ok (.getfield 9, 3) := by decide +kernel
theorem d_5_isWordHere_80 : decode prog_7_method_14_code 80 = .ok (.iload_n 2, 1) := by decide +kernel
theorem d_5_isWordHere_81 : decode prog_7_method_14_code 81 = .ok (.iaload, 1) := by decide +kernel
theorem d_5_isWordHere_82 : decode prog_7_method_14_code 82 = .ok (.bipush 122, 2) := by decide +kernel
theorem d_5_isWordHere_84 : decode prog_7_method_14_code 84 = .ok (.if_icmp .le 7, 3) := by decide +kernel
theorem d_5_isWordHere_87 : decode prog_7_method_14_code 87 = .ok (.iconst 1, 1) := by decide +kernel
theorem d_5_isWordHere_88 : decode prog_7_method_14_code 88 = .ok (.goto 4, 3) := by decide +kernel
theorem d_5_isWordHere_91 : decode prog_7_method_14_code 91 = .ok (.iconst 0, 1) := by decide +kernel
theorem d_5_isWordHere_92 : decode prog_7_method_14_code 92 = .ok (.ireturn, 1) := by decide +kernel
theorem d_5_takeWord_0 : decode prog_7_method_15_code 0 = .ok (.aload_n 0, 1) := by decide +kernel
theorem d_5_takeWord_1 : decode prog_7_method_15_code 1 = .ok (.invokevirtual 34, 3) := by decide +kernel
theorem d_5_takeWord_4 : decode prog_7_method_15_code 4 = .ok (.aload_n 0, 1) := by decide +kernel
theorem d_5_takeWord_5 : decode prog_7_method_15_code 5 = .ok (.aload_n 1, 1) := by decide +kernel
theorem d_5_takeWord_6 : decode prog_7_method_15_code 6 = .ok (.invokevirtual 50, 3) := by decide +kernel
theorem d_5_takeWord_9 : decode prog_7_method_15_code 9 = .ok (.ifCond .ne 5, 3) := by decide +kernel
theorem d_5_takeWord_12 : decode prog_7_method_15_code 12 = .ok (.iconst 0, 1) := by decide +kernel
theorem d_5_takeWord_13 : decode prog_7_method_15_code 13 = .ok (.ireturn, 1) := by decide +kernel
theorem d_5_takeWord_14 : decode prog_7_method_15_code 14 = .ok (.aload_n 0, 1) := by decide +kernel
theorem d_5_takeWord_15 : decode prog_7_method_15_code 15 = .ok (.dup, 1) := by decide +kernel
theorem d_5_takeWord_16 : decode prog_7_method_15_code 16 = .ok (.getfield 25, 3) := by decide +kernel
theorem d_5_takeWord_19 : decode prog_7_method_15_code 19 = .ok (.aload_n 1, 1) := by decide +kernel
theorem d_5_takeWord_20 : decode prog_7_method_15_code 20 = .ok (.invokevirtual 41, 3) := by decide +kernel
theorem d_5_takeWord_23 : decode prog_7_method_15_code 23 = .ok (.iadd, 1) := by decide +kernel
theorem d_5_takeWord_24 : decode prog_7_method_15_code 24 = .ok (.putfield 25, 3) := by decide +kernel
theorem d_5_takeWord_27 : decode prog_7_method_15_code 27 = .ok (.iconst 1, 1) := by decide +kernel
theorem d_5_takeWord_28 : decode prog_7_method_15_code 28 = .ok (.ireturn, 1) := by decide +kernel
theorem d_5_failHere_0 : decode prog_7_method_7_code 0 = .ok (.aload_n 0, 1) := by decide +kernel
theorem d_5_failHere_1 : decode prog_7_method_7_code 1 = .ok (.aload_n 0, 1) := by decide +kernel
theorem d_5_failHere_2 : decode prog_7_method_7_code 2 = .ok (.getfield 25, 3) := by decide +kernel
theorem d_5_failHere_5 : decode prog_7_method_7_code 5 = .ok (.putfield 15, 3) := by decide +kernel
theorem d_5_failHere_8 : decode prog_7_method_7_code 8 = .ok (.iconst 0, 1) := by decide +kernel
theorem d_5_failHere_9 : decode prog_7_method_7_code 9 = .ok (.ireturn, 1) := by decide +kernel
theorem d_9_readKinds_0 : decode prog_11_method_10_code 0 = .ok (.iconst 0, 1) := by decide +kernel
theorem d_9_readKinds_1 : decode prog_11_method_10_code 1 = .ok (.istore_n 2, 1) := by decide +kernel
theorem d_9_readKinds_2 : decode prog_11_method_10_code 2 = .ok (.iload_n 2, 1) := by decide +kernel
theorem d_9_readKinds_3 : decode prog_11_method_10_code 3 = .ok (.iconst 5, 1) := by decide +kernel
theorem d_9_readKinds_4 : decode prog_11_method_10_code 4 = .ok (.if_icmp .ge 71, 3) := by decide +kernel
theorem d_9_readKinds_7 : decode prog_11_method_10_code 7 = .ok (.aload_n 1, 1) := by decide +kernel
theorem d_9_readKinds_8 : decode prog_11_method_10_code 8 = .ok (.ldc 99, 2) := by decide +kernel
theorem d_9_readKinds_10 : decode prog_11_method_10_code 10 = .ok (.invokevirtual 82, 3) := by decide +kernel
theorem d_9_readKinds_13 : decode prog_11_method_10_code 13 = .ok (.ifCond .eq 13, 3) := by decide +kernel
theorem d_9_readKinds_16 : decode prog_11_method_10_code 16 = .ok (.aload_n 0, 1) := by decide +kernel
theorem d_9_readKinds_17 : decode prog_11_method_10_code 17 = .ok (.getfield 9, 3) := by decide +kernel
theorem d_9_readKinds_20 : decode prog_11_method_10_code 20 = .ok (.iload_n 2, 1) := by decide +kernel
theorem d_9_readKinds_21 : decode prog_11_method_10_code 21 = .ok (.iconst 0, 1) := by decide +kernel
theorem d_9_readKinds_22 : decode prog_11_method_10_code 22 = .ok (.iastore, 1) := by decide +kernel
theorem d_9_readKinds_23 : decode prog_11_method_10_code 23 = .ok (.goto 39, 3) := by decide +kernel
theorem d_9_readKinds_26 : decode prog_11_method_10_code 26 = .ok (.aload_n 1, 1) := by decide +kernel
theorem d_9_readKinds_27 : decode prog_11_method_10_code 27 = .ok (.ldc 101, 2) := by decide +kernel
theorem d_9_readKinds_29 : decode prog_11_method_10_code 29 = .ok (.invokevirtual 82, 3) := by decide +kernel
theorem d_9_readKinds_32 : decode prog_11_method_10_code 32 = .ok (.ifCond .eq 13, 3) := by decide +kernel
theorem d_9_readKinds_35 : decode prog_11_method_10_code 35 = .ok (.aload_n 0, 1) := by decide +kernel
theorem d_9_readKinds_36 : decode prog_11_method_10_code 36 = .ok (.getfield 9, 3) := by decide +kernel
theorem d_9_readKinds_39 : decode prog_11_method_10_code 39 = .ok (.iload_n 2, 1) := by decide +kernel
theorem d_9_readKinds_40 : decode prog_11_method_10_code 40 = .ok (.iconst 1, 1) := by decide +kernel
theorem d_9_readKinds_41 : decode prog_11_method_10_code 41 = .ok (.iastore, 1) := by decide +kernel
theorem d_9_readKinds_42 : decode prog_11_method_10_code 42 = .ok (.goto 20, 3) := by decide +kernel
theorem d_9_readKinds_45 : decode prog_11_method_10_code 45 = .ok (.iload_n 2, 1) := by decide +kernel
theorem d_9_readKinds_46 : decode prog_11_method_10_code 46 = .ok (.ifCond .gt 10, 3) := by decide +kernel
theorem d_9_readKinds_49 : decode prog_11_method_10_code 49 = .ok (.aload_n 1, 1) := by decide +kernel
theorem d_9_readKinds_50 : decode prog_11_method_10_code 50 = .ok (.invokevirtual 72, 3) := by decide +kernel
theorem d_9_readKinds_53 : decode prog_11_method_10_code 53 = .ok (.ifCond .eq 7, 3) := by decide +kernel
theorem d_9_readKinds_56 : decode prog_11_method_10_code 56 = .ok (.iconst 1, 1) := by decide +kernel
theorem d_9_readKinds_57 : decode prog_11_method_10_code 57 = .ok (.goto 4, 3) := by decide +kernel
theorem d_9_readKinds_60 : decode prog_11_method_10_code 60 = .ok (.iconst 0, 1) := by decide +kernel
theorem d_9_readKinds_61 : decode prog_11_method_10_code 61 = .ok (.ireturn, 1) := by decide +kernel
theorem d_9_readKinds_62 : decode prog_11_method_10_code 62 = .ok (.aload_n 0, 1) := by decide +kernel
theorem d_9_readKinds_63 : decode prog_11_method_10_code 63 = .ok (.iload_n 2, 1) := by decide +kernel
theorem d_9_readKinds_64 : decode prog_11_method_10_code 64 = .ok (.iconst 1, 1) := by decide +kernel
theorem d_9_readKinds_65 : decode prog_11_method_10_code 65 = .ok (.iadd, 1) := by decide +kernel
theorem d_9_readKinds_66 : decode prog_11_method_10_code 66 = .ok (.putfield 42, 3) := by decide +kernel
theorem d_9_readKinds_69 : decode prog_11_method_10_code 69 = .ok (.iinc 2 1, 3) := by decide +kernel
theorem d_9_readKinds_72 : decode prog_11_method_10_code 72 = .ok (.goto (-70), 3) := by decide +kernel
theorem d_9_readKinds_75 : decode prog_11_method_10_code 75 = .ok (.iconst 1, 1) := by decide +kernel
theorem d_9_readKinds_76 : decode prog_11_method_10_code 76 = .ok (.ireturn, 1) := by decide +kernel
theorem d_5_failAt_0 : decode prog_7_method_6_code 0 = .ok (.aload_n 0, 1) := by decide +kernel
theorem d_5_failAt_1 : decode prog_7_method_6_code 1 = .ok (.iload_n 1, 1) := by decide +kernel
theorem d_5_failAt_2 : decode prog_7_method_6_code 2 = .ok (.putfield 15, 3) := by decide +kernel
theorem d_5_failAt_5 : decode prog_7_method_6_code 5 = .ok (.iconst 0, 1) := by decide +kernel
theorem d_5_failAt_6 : decode prog_7_method_6_code 6 = .ok (.ireturn, 1) := by decide +kernel
theorem d_9_beginRow_0 : decode prog_11_method_6_code 0 = .ok (.aload_n 0, 1) := by decide +kernel
theorem d_9_beginRow_1 : decode prog_11_method_6_code 1 = .ok (.getfield 28, 3) := by decide +kernel
theorem d_9_beginRow_4 : decode prog_11_method_6_code 4 = .ok (.bipush 14, 2) := by decide +kernel
theorem d_9_beginRow_6 : decode prog_11_method_6_code 6 = .ok (.if_icmp .ge 13, 3) := by decide +kernel
theorem d_9_beginRow_9 : decode prog_11_method_6_code 9 = .ok (.aload_n 0, 1) := by decide +kernel
theorem d_9_beginRow_10 : decode prog_11_method_6_code 10 = .ok (.getfield 15, 3) := by decide +kernel
theorem d_9_beginRow_13 : decode prog_11_method_6_code 13 = .ok (.aload_n 0, 1) := by decide +kernel
theorem d_9_beginRow_14 : decode prog_11_method_6_code 14 = .ok (.getfield 28, 3) := by decide +kernel
theorem d_9_beginRow_17 : decode prog_11_method_6_code 17 = .ok (.iconst 0, 1) := by decide +kernel
theorem d_9_beginRow_18 : decode prog_11_method_6_code 18 = .ok (.iastore, 1) := by decide +kernel
theorem d_9_beginRow_19 : decode prog_11_method_6_code 19 = .ok (.return_, 1) := by decide +kernel
theorem d_9_kindAsked_0 : decode prog_11_method_5_code 0 = .ok (.iload_n 1, 1) := by decide +kernel
theorem d_9_kindAsked_1 : decode prog_11_method_5_code 1 = .ok (.ifCond .lt 25, 3) := by decide +kernel
theorem d_9_kindAsked_4 : decode prog_11_method_5_code 4 = .ok (.iload_n 1, 1) := by decide +kernel
theorem d_9_kindAsked_5 : decode prog_11_method_5_code 5 = .ok (.aload_n 0, 1) := by decide +kernel
theorem d_9_kindAsked_6 : decode prog_11_method_5_code 6 = .ok (.getfield 42, 3) := by decide +kernel
theorem d_9_kindAsked_9 : decode prog_11_method_5_code 9 = .ok (.if_icmp .ge 17, 3) := by decide +kernel
theorem d_9_kindAsked_12 : decode prog_11_method_5_code 12 = .ok (.iload_n 1, 1) := by decide +kernel
theorem d_9_kindAsked_13 : decode prog_11_method_5_code 13 = .ok (.iconst 5, 1) := by decide +kernel
theorem d_9_kindAsked_14 : decode prog_11_method_5_code 14 = .ok (.if_icmp .ge 12, 3) := by decide +kernel
theorem d_9_kindAsked_17 : decode prog_11_method_5_code 17 = .ok (.aload_n 0, 1) := by decide +kernel
theorem d_9_kindAsked_18 : decode prog_11_method_5_code 18 = .ok (.getfield 9, 3) := by decide +kernel
theorem d_9_kindAsked_21 : decode prog_11_method_5_code 21 = .ok (.iload_n 1, 1) := by decide +kernel
theorem d_9_kindAsked_22 : decode prog_11_method_5_code 22 = .ok (.iaload, 1) := by decide +kernel
theorem d_9_kindAsked_23 : decode prog_11_method_5_code 23 = .ok (.goto 4, 3) := by decide +kernel
theorem d_9_kindAsked_26 : decode prog_11_method_5_code 26 = .ok (.iconst (-1), 1) := by decide +kernel
theorem d_9_kindAsked_27 : decode prog_11_method_5_code 27 = .ok (.ireturn, 1) := by decide +kernel
theorem d_5_byteAt_0 : decode prog_7_method_8_code 0 = .ok (.iload_n 1, 1) := by decide +kernel
theorem d_5_byteAt_1 : decode prog_7_method_8_code 1 = .ok (.ifCond .lt 20, 3) := by decide +kernel
theorem d_5_byteAt_4 : decode prog_7_method_8_code 4 = .ok (.iload_n 1, 1) := by decide +kernel
theorem d_5_byteAt_5 : decode prog_7_method_8_code 5 = .ok (.aload_n 0, 1) := by decide +kernel
theorem d_5_byteAt_6 : decode prog_7_method_8_code 6 = .ok (.getfield 22, 3) := by decide +kernel
theorem d_5_byteAt_9 : decode prog_7_method_8_code 9 = .ok (.if_icmp .ge 12, 3) := by decide +kernel
theorem d_5_byteAt_12 : decode prog_7_method_8_code 12 = .ok (.aload_n 0, 1) := by decide +kernel
theorem d_5_byteAt_13 : decode prog_7_method_8_code 13 = .ok (.getfield 9, 3) := by decide +kernel
theorem d_5_byteAt_16 : decode prog_7_method_8_code 16 = .ok (.iload_n 1, 1) := by decide +kernel
theorem d_5_byteAt_17 : decode prog_7_method_8_code 17 = .ok (.iaload, 1) := by decide +kernel
theorem d_5_byteAt_18 : decode prog_7_method_8_code 18 = .ok (.goto 4, 3) := by decide +kernel
theorem d_5_byteAt_21 : decode prog_7_method_8_code 21 = .ok (.iconst (-1), 1) := by decide +kernel
theorem d_5_byteAt_22 : decode prog_7_method_8_code 22 = .ok (.ireturn, 1) := by decide +kernel
theorem d_5_takeSign_0 : decode prog_7_method_13_code 0 = .ok (.aload_n 0, 1) := by decide +kernel
theorem d_5_takeSign_1 : decode prog_7_method_13_code 1 = .ok (.invokevirtual 34, 3) := by decide +kernel
theorem d_5_takeSign_4 : decode prog_7_method_13_code 4 = .ok (.aload_n 0, 1) := by decide +kernel
theorem d_5_takeSign_5 : decode prog_7_method_13_code 5 = .ok (.aload_n 0, 1) := by decide +kernel
theorem d_5_takeSign_6 : decode prog_7_method_13_code 6 = .ok (.getfield 25, 3) := by decide +kernel
theorem d_5_takeSign_9 : decode prog_7_method_13_code 9 = .ok (.invokevirtual 37, 3) := by decide +kernel
theorem d_5_takeSign_12 : decode prog_7_method_13_code 12 = .ok (.iload_n 1, 1) := by decide +kernel
theorem d_5_takeSign_13 : decode prog_7_method_13_code 13 = .ok (.if_icmp .eq 5, 3) := by decide +kernel
theorem d_5_takeSign_16 : decode prog_7_method_13_code 16 = .ok (.iconst 0, 1) := by decide +kernel
theorem d_5_takeSign_17 : decode prog_7_method_13_code 17 = .ok (.ireturn, 1) := by decide +kernel
theorem d_5_takeSign_18 : decode prog_7_method_13_code 18 = .ok (.aload_n 0, 1) := by decide +kernel
theorem d_5_takeSign_19 : decode prog_7_method_13_code 19 = .ok (.dup, 1) := by decide +kernel
theorem d_5_takeSign_20 : decode prog_7_method_13_code 20 = .ok (.getfield 25, 3) := by decide +kernel
theorem d_5_takeSign_23 : decode prog_7_method_13_code 23 = .ok (.iconst 1, 1) := by decide +kernel
theorem d_5_takeSign_24 : decode prog_7_method_13_code 24 = .ok (.iadd, 1) := by decide +kernel
theorem d_5_takeSign_25 : decode prog_7_method_13_code 25 = .ok (.putfield 25, 3) := by decide +kernel
theorem d_5_takeSign_28 : decode prog_7_method_13_code 28 = .ok (.iconst 1, 1) := by decide +kernel
theorem d_5_takeSign_29 : decode prog_7_method_13_code 29 = .ok (.ireturn, 1) := by decide +kernel
theorem d_5_isDigitAt_0 : decode prog_7_method_10_code 0 = .ok (.iload_n 1, 1) := by decide +kernel
theorem d_5_isDigitAt_1 : decode prog_7_method_10_code 1 = .ok (.ifCond .lt 37, 3) := by decide +kernel
theorem d_5_isDigitAt_4 : decode prog_7_method_10_code 4 = .ok (.iload_n 1, 1) := by decide +kernel
theorem d_5_isDigitAt_5 : decode prog_7_method_10_code 5 = .ok (.aload_n 0, 1) := by decide +kernel
theorem d_5_isDigitAt_6 : decode prog_7_method_10_code 6 = .ok (.getfield 22, 3) := by decide +kernel
theorem d_5_isDigitAt_9 : decode prog_7_method_10_code 9 = .ok (.if_icmp .ge 29, 3) := by decide +kernel
theorem d_5_isDigitAt_12 : decode prog_7_method_10_code 12 = .ok (.aload_n 0, 1) := by decide +kernel
theorem d_5_isDigitAt_13 : decode prog_7_method_10_code 13 = .ok (.getfield 9, 3) := by decide +kernel
theorem d_5_isDigitAt_16 : decode prog_7_method_10_code 16 = .ok (.iload_n 1, 1) := by decide +kernel
theorem d_5_isDigitAt_17 : decode prog_7_method_10_code 17 = .ok (.iaload, 1) := by decide +kernel
theorem d_5_isDigitAt_18 : decode prog_7_method_10_code 18 = .ok (.bipush 48, 2) := by decide +kernel
theorem d_5_isDigitAt_20 : decode prog_7_method_10_code 20 = .ok (.if_icmp .lt 18, 3) := by decide +kernel
theorem d_5_isDigitAt_23 : decode prog_7_method_10_code 23 = .ok (.aload_n 0, 1) := by decide +kernel
theorem d_5_isDigitAt_24 : decode prog_7_method_10_code 24 = .ok (.getfield 9, 3) := by decide +kernel
theorem d_5_isDigitAt_27 : decode prog_7_method_10_code 27 = .ok (.iload_n 1, 1) := by decide +kernel
theorem d_5_isDigitAt_28 : decode prog_7_method_10_code 28 = .ok (.iaload, 1) := by decide +kernel
theorem d_5_isDigitAt_29 : decode prog_7_method_10_code 29 = .ok (.bipush 57, 2) := by decide +kernel
theorem d_5_isDigitAt_31 : decode prog_7_method_10_code 31 = .ok (.if_icmp .gt 7, 3) := by decide +kernel
theorem d_5_isDigitAt_34 : decode prog_7_method_10_code 34 = .ok (.iconst 1, 1) := by decide +kernel
theorem d_5_isDigitAt_35 : decode prog_7_method_10_code 35 = .ok (.goto 4, 3) := by decide +kernel
theorem d_5_isDigitAt_38 : decode prog_7_method_10_code 38 = .ok (.iconst 0, 1) := by decide +kernel
theorem d_5_isDigitAt_39 : decode prog_7_method_10_code 39 = .ok (.ireturn, 1) := by decide +kernel
theorem d_5_takeNumber_0 : decode prog_7_method_16_code 0 = .ok (.aload_n 0, 1) := by decide +kernel
theorem d_5_takeNumber_1 : decode prog_7_method_16_code 1 = .ok (.invokevirtual 34, 3) := by decide +kernel
theorem d_5_takeNumber_4 : decode prog_7_method_16_code 4 = .ok (.aload_n 0, 1) := by decide +kernel
theorem d_5_takeNumber_5 : decode prog_7_method_16_code 5 = .ok (.aload_n 0, 1) := by decide +kernel
theorem d_5_takeNumber_6 : decode prog_7_method_16_code 6 = .ok (.getfield 25, 3) := by decide +kernel
theorem d_5_takeNumber_9 : decode prog_7_method_16_code 9 = .ok (.putfield 54, 3) := by decide +kernel
theorem d_5_takeNumber_12 : decode prog_7_method_16_code 12 = .ok (.iload_n 1, 1) := by decide +kernel
theorem d_5_takeNumber_13 : decode prog_7_method_16_code 13 = .ok (.ifCond .eq 20, 3) := by decide +kernel
theorem d_5_takeNumber_16 : decode prog_7_method_16_code 16 = .ok (.aload_n 0, 1) := by decide +kernel
theorem d_5_takeNumber_17 : decode prog_7_method_16_code 17 = .ok (.aload_n 0, 1) := by decide +kernel
theorem d_5_takeNumber_18 : decode prog_7_method_16_code 18 = .ok (.getfield 25, 3) := by decide +kernel
theorem d_5_takeNumber_21 : decode prog_7_method_16_code 21 = .ok (.invokevirtual 37, 3) := by decide +kernel
theorem d_5_takeNumber_24 : decode prog_7_method_16_code 24 = .ok (.bipush 45, 2) := by decide +kernel
theorem d_5_takeNumber_26 : decode prog_7_method_16_code 26 = .ok (.if_icmp .ne 7, 3) := by decide +kernel
theorem d_5_takeNumber_29 : decode prog_7_method_16_code 29 = .ok (.iconst 1, 1) := by decide +kernel
theorem d_5_takeNumber_30 : decode prog_7_method_16_code 30 = .ok (.goto 4, 3) := by decide +kernel
theorem d_5_takeNumber_33 : decode prog_7_method_16_code 33 = .ok (.iconst 0, 1) := by decide +kernel
theorem d_5_takeNumber_34 : decode prog_7_method_16_code 34 = .ok (.istore_n 2, 1) := by decide +kernel
theorem d_5_takeNumber_35 : decode prog_7_method_16_code 35 = .ok (.iload_n 2, 1) := by decide +kernel
theorem d_5_takeNumber_36 : decode prog_7_method_16_code 36 = .ok (.ifCond .eq 12, 3) := by decide +kernel
theorem d_5_takeNumber_39 : decode prog_7_method_16_code 39 = .ok (.aload_n 0, 1) := by decide +kernel
theorem d_5_takeNumber_40 : decode prog_7_method_16_code 40 = .ok (.getfield 25, 3) := by decide +kernel
theorem d_5_takeNumber_43 : decode prog_7_method_16_code 43 = .ok (.iconst 1, 1) := by decide +kernel
theorem d_5_takeNumber_44 : decode prog_7_method_16_code 44 = .ok (.iadd, 1) := by decide +kernel
theorem d_5_takeNumber_45 : decode prog_7_method_16_code 45 = .ok (.goto 7, 3) := by decide +kernel
theorem d_5_takeNumber_48 : decode prog_7_method_16_code 48 = .ok (.aload_n 0, 1) := by decide +kernel
theorem d_5_takeNumber_49 : decode prog_7_method_16_code 49 = .ok (.getfield 25, 3) := by decide +kernel
theorem d_5_takeNumber_52 : decode prog_7_method_16_code 52 = .ok (.istore_n 3, 1) := by decide +kernel
theorem d_5_takeNumber_53 : decode prog_7_method_16_code 53 = .ok (.iconst 0, 1) := by decide +kernel
theorem d_5_takeNumber_54 : decode prog_7_method_16_code 54 = .ok (.istore 4, 2) := by decide +kernel
theorem d_5_takeNumber_56 : decode prog_7_method_16_code 56 = .ok (.iconst 0, 1) := by decide +kernel
theorem d_5_takeNumber_57 : decode prog_7_method_16_code 57 = .ok (.istore 5, 2) := by decide +kernel
theorem d_5_takeNumber_59 : decode prog_7_method_16_code 59 = .ok (.iload 4, 2) := by decide +kernel
theorem d_5_takeNumber_61 : decode prog_7_method_16_code 61 = .ok (.iconst 3, 1) := by decide +kernel
theorem d_5_takeNumber_62 : decode prog_7_method_16_code 62 = .ok (.if_icmp .gt 39, 3) := by decide +kernel
theorem d_5_takeNumber_65 : decode prog_7_method_16_code 65 = .ok (.aload_n 0, 1) := by decide +kernel
theorem d_5_takeNumber_66 : decode prog_7_method_16_code 66 = .ok (.iload_n 3, 1) := by decide +kernel
theorem d_5_takeNumber_67 : decode prog_7_method_16_code 67 = .ok (.iload 4, 2) := by decide +kernel
theorem d_5_takeNumber_69 : decode prog_7_method_16_code 69 = .ok (.iadd, 1) := by decide +kernel
theorem d_5_takeNumber_70 : decode prog_7_method_16_code 70 = .ok (.invokevirtual 57, 3) := by decide +kernel
theorem d_5_takeNumber_73 : decode prog_7_method_16_code 73 = .ok (.ifCond .eq 28, 3) := by decide +kernel
theorem d_5_takeNumber_76 : decode prog_7_method_16_code 76 = .ok (.iload 5, 2) := by decide +kernel
theorem d_5_takeNumber_78 : decode prog_7_method_16_code 78 = .ok (.bipush 10, 2) := by decide +kernel
theorem d_5_takeNumber_80 : decode prog_7_method_16_code 80 = .ok (.imul, 1) := by decide +kernel
theorem d_5_takeNumber_81 : decode prog_7_method_16_code 81 = .ok (.aload_n 0, 1) := by decide +kernel
theorem d_5_takeNumber_82 : decode prog_7_method_16_code 82 = .ok (.iload_n 3, 1) := by decide +kernel
theorem d_5_takeNumber_83 : decode prog_7_method_16_code 83 = .ok (.iload 4, 2) := by decide +kernel
theorem d_5_takeNumber_85 : decode prog_7_method_16_code 85 = .ok (.iadd, 1) := by decide +kernel
theorem d_5_takeNumber_86 : decode prog_7_method_16_code 86 = .ok (.invokevirtual 37, 3) := by decide +kernel
theorem d_5_takeNumber_89 : decode prog_7_method_16_code 89 = .ok (.iadd, 1) := by decide +kernel
theorem d_5_takeNumber_90 : decode prog_7_method_16_code 90 = .ok (.bipush 48, 2) := by decide +kernel
theorem d_5_takeNumber_92 : decode prog_7_method_16_code 92 = .ok (.isub, 1) := by decide +kernel
theorem d_5_takeNumber_93 : decode prog_7_method_16_code 93 = .ok (.istore 5, 2) := by decide +kernel
theorem d_5_takeNumber_95 : decode prog_7_method_16_code 95 = .ok (.iinc 4 1, 3) := by decide +kernel
theorem d_5_takeNumber_98 : decode prog_7_method_16_code 98 = .ok (.goto (-39), 3) := by decide +kernel
theorem d_5_takeNumber_101 : decode prog_7_method_16_code 101 = .ok (.iload 4, 2) := by decide +kernel
theorem d_5_takeNumber_103 : decode prog_7_method_16_code 103 = .ok (.ifCond .ne 9, 3) := by decide +kernel
theorem d_5_takeNumber_106 : decode prog_7_method_16_code 106 = .ok (.aload_n 0, 1) := by decide +kernel
theorem d_5_takeNumber_107 : decode prog_7_method_16_code 107 = .ok (.iload_n 3, 1) := by decide +kernel
theorem d_5_takeNumber_108 : decode prog_7_method_16_code 108 = .ok (.invokevirtual 61, 3) := by decide +kernel
theorem d_5_takeNumber_111 : decode prog_7_method_16_code 111 = .ok (.ireturn, 1) := by decide +kernel
theorem d_5_takeNumber_112 : decode prog_7_method_16_code 112 = .ok (.iload 4, 2) := by decide +kernel
theorem d_5_takeNumber_114 : decode prog_7_method_16_code 114 = .ok (.iconst 3, 1) := by decide +kernel
theorem d_5_takeNumber_115 : decode prog_7_method_16_code 115 = .ok (.if_icmp .le 12, 3) := by decide +kernel
theorem d_5_takeNumber_118 : decode prog_7_method_16_code 118 = .ok (.aload_n 0, 1) := by decide +kernel
theorem d_5_takeNumber_119 : decode prog_7_method_16_code 119 = .ok (.aload_n 0, 1) := by decide +kernel
theorem d_5_takeNumber_120 : decode prog_7_method_16_code 120 = .ok (.getfield 54, 3) := by decide +kernel
theorem d_5_takeNumber_123 : decode prog_7_method_16_code 123 = .ok (.invokevirtual 61, 3) := by decide +kernel
theorem d_5_takeNumber_126 : decode prog_7_method_16_code 126 = .ok (.ireturn, 1) := by decide +kernel
theorem d_5_takeNumber_127 : decode prog_7_method_16_code 127 = .ok (.aload_n 0, 1) := by decide +kernel
theorem d_5_takeNumber_128 : decode prog_7_method_16_code 128 = .ok (.iload_n 3, 1) := by decide +kernel
theorem d_5_takeNumber_129 : decode prog_7_method_16_code 129 = .ok (.iload 4, 2) := by decide +kernel
theorem d_5_takeNumber_131 : decode prog_7_method_16_code 131 = .ok (.iadd, 1) := by decide +kernel
theorem d_5_takeNumber_132 : decode prog_7_method_16_code 132 = .ok (.putfield 25, 3) := by decide +kernel
theorem d_5_takeNumber_135 : decode prog_7_method_16_code 135 = .ok (.aload_n 0, 1) := by decide +kernel
theorem d_5_takeNumber_136 : decode prog_7_method_16_code 136 = .ok (.iload_n 2, 1) := by decide +kernel
theorem d_5_takeNumber_137 : decode prog_7_method_16_code 137 = .ok (.ifCond .eq 9, 3) := by decide +kernel
theorem d_5_takeNumber_140 : decode prog_7_method_16_code 140 = .ok (.iload 5, 2) := by decide +kernel
theorem d_5_takeNumber_142 : decode prog_7_method_16_code 142 = .ok (.ineg, 1) := by decide +kernel
theorem d_5_takeNumber_143 : decode prog_7_method_16_code 143 = .ok (.goto 5, 3) := by decide +kernel
theorem d_5_takeNumber_146 : decode prog_7_method_16_code 146 = .ok (.iload 5, 2) := by decide +kernel
theorem d_5_takeNumber_148 : decode prog_7_method_16_code 148 = .ok (.putfield 64, 3) := by decide +kernel
theorem d_5_takeNumber_151 : decode prog_7_method_16_code 151 = .ok (.iconst 1, 1) := by decide +kernel
theorem d_5_takeNumber_152 : decode prog_7_method_16_code 152 = .ok (.ireturn, 1) := by decide +kernel
theorem d_5_isLetterAt_0 : decode prog_7_method_9_code 0 = .ok (.iload_n 1, 1) := by decide +kernel
theorem d_5_isLetterAt_1 : decode prog_7_method_9_code 1 = .ok (.ifCond .lt 37, 3) := by decide +kernel
theorem d_5_isLetterAt_4 : decode prog_7_method_9_code 4 = .ok (.iload_n 1, 1) := by decide +kernel
theorem d_5_isLetterAt_5 : decode prog_7_method_9_code 5 = .ok (.aload_n 0, 1) := by decide +kernel
theorem d_5_isLetterAt_6 : decode prog_7_method_9_code 6 = .ok (.getfield 22, 3) := by decide +kernel
theorem d_5_isLetterAt_9 : decode prog_7_method_9_code 9 = .ok (.if_icmp .ge 29, 3) := by decide +kernel
theorem d_5_isLetterAt_12 : decode prog_7_method_9_code 12 = .ok (.aload_n 0, 1) := by decide +kernel
theorem d_5_isLetterAt_13 : decode prog_7_method_9_code 13 = .ok (.getfield 9, 3) := by decide +kernel
theorem d_5_isLetterAt_16 : decode prog_7_method_9_code 16 = .ok (.iload_n 1, 1) := by decide +kernel
theorem d_5_isLetterAt_17 : decode prog_7_method_9_code 17 = .ok (.iaload, 1) := by decide +kernel
theorem d_5_isLetterAt_18 : decode prog_7_method_9_code 18 = .ok (.bipush 97, 2) := by decide +kernel
theorem d_5_isLetterAt_20 : decode prog_7_method_9_code 20 = .ok (.if_icmp .lt 18, 3) := by decide +kernel
theorem d_5_isLetterAt_23 : decode prog_7_method_9_code 23 = .ok (.aload_n 0, 1) := by decide +kernel
theorem d_5_isLetterAt_24 : decode prog_7_method_9_code 24 = .ok (.getfield 9, 3) := by decide +kernel
theorem d_5_isLetterAt_27 : decode prog_7_method_9_code 27 = .ok (.iload_n 1, 1) := by decide +kernel
theorem d_5_isLetterAt_28 : decode prog_7_method_9_code 28 = .ok (.iaload, 1) := by decide +kernel
theorem d_5_isLetterAt_29 : decode prog_7_method_9_code 29 = .ok (.bipush 122, 2) := by decide +kernel
theorem d_5_isLetterAt_31 : decode prog_7_method_9_code 31 = .ok (.if_icmp .gt 7, 3) := by decide +kernel
theorem d_5_isLetterAt_34 : decode prog_7_method_9_code 34 = .ok (.iconst 1, 1) := by decide +kernel
theorem d_5_isLetterAt_35 : decode prog_7_method_9_code 35 = .ok (.goto 4, 3) := by decide +kernel
theorem d_5_isLetterAt_38 : decode prog_7_method_9_code 38 = .ok (.iconst 0, 1) := by decide +kernel
theorem d_5_isLetterAt_39 : decode prog_7_method_9_code 39 = .ok (.ireturn, 1) := by decide +kernel
theorem d_5_takeLetters_0 : decode prog_7_method_18_code 0 = .ok (.iconst 0, 1) := by decide +kernel
theorem d_5_takeLetters_1 : decode prog_7_method_18_code 1 = .ok (.istore_n 1, 1) := by decide +kernel
theorem d_5_takeLetters_2 : decode prog_7_method_18_code 2 = .ok (.iconst 0, 1) := by decide +kernel
theorem d_5_takeLetters_3 : decode prog_7_method_18_code 3 = .ok (.istore_n 2, 1) := by decide +kernel
theorem d_5_takeLetters_4 : decode prog_7_method_18_code 4 = .ok (.sipush 19683, 3) := by decide +kernel
theorem d_5_takeLetters_7 : decode prog_7_method_18_code 7 = .ok (.istore_n 3, 1) := by decide +kernel
theorem d_5_takeLetters_8 : decode prog_7_method_18_code 8 = .ok (.iload_n 1, 1) := by decide +kernel
theorem d_5_takeLetters_9 : decode prog_7_method_18_code 9 = .ok (.iconst 4, 1) := by decide +kernel
theorem d_5_takeLetters_10 : decode prog_7_method_18_code 10 = .ok (.if_icmp .gt 47, 3) := by decide +kernel
theorem d_5_takeLetters_13 : decode prog_7_method_18_code 13 = .ok (.aload_n 0, 1) := by decide +kernel
theorem d_5_takeLetters_14 : decode prog_7_method_18_code 14 = .ok (.aload_n 0, 1) := by decide +kernel
theorem d_5_takeLetters_15 : decode prog_7_method_18_code 15 = .ok (.getfield 25, 3) := by decide +kernel
theorem d_5_takeLetters_18 : decode prog_7_method_18_code 18 = .ok (.iload_n 1, 1) := by decide +kernel
theorem d_5_takeLetters_19 : decode prog_7_method_18_code 19 = .ok (.iadd, 1) := by decide +kernel
theorem d_5_takeLetters_20 : decode prog_7_method_18_code 20 = .ok (.invokevirtual 80, 3) := by decide +kernel
theorem d_5_takeLetters_23 : decode prog_7_method_18_code 23 = .ok (.ifCond .eq 34, 3) := by decide +kernel
theorem d_5_takeLetters_26 : decode prog_7_method_18_code 26 = .ok (.iload_n 2, 1) := by decide +kernel
theorem d_5_takeLetters_27 : decode prog_7_method_18_code 27 = .ok (.aload_n 0, 1) := by decide +kernel
theorem d_5_takeLetters_28 : decode prog_7_method_18_code 28 = .ok (.aload_n 0, 1) := by decide +kernel
theorem d_5_takeLetters_29 : decode prog_7_method_18_code 29 = .ok (.getfield 25, 3) := by decide +kernel
theorem d_5_takeLetters_32 : decode prog_7_method_18_code 32 = .ok (.iload_n 1, 1) := by decide +kernel
theorem d_5_takeLetters_33 : decode prog_7_method_18_code 33 = .ok (.iadd, 1) := by decide +kernel
theorem d_5_takeLetters_34 : decode prog_7_method_18_code 34 = .ok (.invokevirtual 37, 3) := by decide +kernel
theorem d_5_takeLetters_37 : decode prog_7_method_18_code 37 = .ok (.bipush 97, 2) := by decide +kernel
theorem d_5_takeLetters_39 : decode prog_7_method_18_code 39 = .ok (.isub, 1) := by decide +kernel
theorem d_5_takeLetters_40 : decode prog_7_method_18_code 40 = .ok (.iconst 1, 1) := by decide +kernel
theorem d_5_takeLetters_41 : decode prog_7_method_18_code 41 = .ok (.iadd, 1) := by decide +kernel
theorem d_5_takeLetters_42 : decode prog_7_method_18_code 42 = .ok (.iload_n 3, 1) := by decide +kernel
theorem d_5_takeLetters_43 : decode prog_7_method_18_code 43 = .ok (.imul, 1) := by decide +kernel
theorem d_5_takeLetters_44 : decode prog_7_method_18_code 44 = .ok (.iadd, 1) := by decide +kernel
theorem d_5_takeLetters_45 : decode prog_7_method_18_code 45 = .ok (.istore_n 2, 1) := by decide +kernel
theorem d_5_takeLetters_46 : decode prog_7_method_18_code 46 = .ok (.iload_n 3, 1) := by decide +kernel
theorem d_5_takeLetters_47 : decode prog_7_method_18_code 47 = .ok (.bipush 27, 2) := by decide +kernel
theorem d_5_takeLetters_49 : decode prog_7_method_18_code 49 = .ok (.idiv, 1) := by decide +kernel
theorem d_5_takeLetters_50 : decode prog_7_method_18_code 50 = .ok (.istore_n 3, 1) := by decide +kernel
theorem d_5_takeLetters_51 : decode prog_7_method_18_code 51 = .ok (.iinc 1 1, 3) := by decide +kernel
theorem d_5_takeLetters_54 : decode prog_7_method_18_code 54 = .ok (.goto (-46), 3) := by decide +kernel
theorem d_5_takeLetters_57 : decode prog_7_method_18_code 57 = .ok (.iload_n 1, 1) := by decide +kernel
theorem d_5_takeLetters_58 : decode prog_7_method_18_code 58 = .ok (.ifCond .eq 8, 3) := by decide +kernel
theorem d_5_takeLetters_61 : decode prog_7_method_18_code 61 = .ok (.iload_n 1, 1) := by decide +kernel
theorem d_5_takeLetters_62 : decode prog_7_method_18_code 62 = .ok (.iconst 4, 1) := by decide +kernel
theorem d_5_takeLetters_63 : decode prog_7_method_18_code 63 = .ok (.if_icmp .le 8, 3) := by decide +kernel
theorem d_5_takeLetters_66 : decode prog_7_method_18_code 66 = .ok (.aload_n 0, 1) := by decide +kernel
theorem d_5_takeLetters_67 : decode prog_7_method_18_code 67 = .ok (.invokevirtual 83, 3) := by decide +kernel
theorem d_5_takeLetters_70 : decode prog_7_method_18_code 70 = .ok (.ireturn, 1) := by decide +kernel
theorem d_5_takeLetters_71 : decode prog_7_method_18_code 71 = .ok (.aload_n 0, 1) := by decide +kernel
theorem d_5_takeLetters_72 : decode prog_7_method_18_code 72 = .ok (.dup, 1) := by decide +kernel
theorem d_5_takeLetters_73 : decode prog_7_method_18_code 73 = .ok (.getfield 25, 3) := by decide +kernel
theorem d_5_takeLetters_76 : decode prog_7_method_18_code 76 = .ok (.iload_n 1, 1) := by decide +kernel
theorem d_5_takeLetters_77 : decode prog_7_method_18_code 77 = .ok (.iadd, 1) := by decide +kernel
theorem d_5_takeLetters_78 : decode prog_7_method_18_code 78 = .ok (.putfield 25, 3) := by decide +kernel
theorem d_5_takeLetters_81 : decode prog_7_method_18_code 81 = .ok (.aload_n 0, 1) := by decide +kernel
theorem d_5_takeLetters_82 : decode prog_7_method_18_code 82 = .ok (.iload_n 2, 1) := by decide +kernel
theorem d_5_takeLetters_83 : decode prog_7_method_18_code 83 = .ok (.putfield 64, 3) := by decide +kernel
theorem d_5_takeLetters_86 : decode prog_7_method_18_code 86 = .ok (.iconst 1, 1) := by decide +kernel
theorem d_5_takeLetters_87 : decode prog_7_method_18_code 87 = .ok (.ireturn, 1) := by decide +kernel
theorem d_5_takeCell_0 : decode prog_7_method_17_code 0 = .ok (.aload_n 0, 1) := by decide +kernel
theorem d_5_takeCell_1 : decode prog_7_method_17_code 1 = .ok (.bipush 46, 2) := by decide +kernel
theorem d_5_takeCell_3 : decode prog_7_method_17_code 3 = .ok (.invokevirtual 67, 3) := by decide +kernel
theorem d_5_takeCell_6 : decode prog_7_method_17_code 6 = .ok (.ifCond .eq 11, 3) := by decide +kernel
theorem d_5_takeCell_9 : decode prog_7_method_17_code 9 = .ok (.aload_n 0, 1) := by decide +kernel
theorem d_5_takeCell_10 : decode prog_7_method_17_code 10 = .ok (.ldc 71, 2) := by decide +kernel
theorem d_5_takeCell_12 : decode prog_7_method_17_code 12 = .ok (.putfield 64, 3) := by decide +kernel
theorem d_5_takeCell_15 : decode prog_7_method_17_code 15 = .ok (.iconst 1, 1) := by decide +kernel
theorem d_5_takeCell_16 : decode prog_7_method_17_code 16 = .ok (.ireturn, 1) := by decide +kernel
theorem d_5_takeCell_17 : decode prog_7_method_17_code 17 = .ok (.iload_n 1, 1) := by decide +kernel
theorem d_5_takeCell_18 : decode prog_7_method_17_code 18 = .ok (.ifCond .ne 11, 3) := by decide +kernel
theorem d_5_takeCell_21 : decode prog_7_method_17_code 21 = .ok (.aload_n 0, 1) := by decide +kernel
theorem d_5_takeCell_22 : decode prog_7_method_17_code 22 = .ok (.iconst 1, 1) := by decide +kernel
theorem d_5_takeCell_23 : decode prog_7_method_17_code 23 = .ok (.invokevirtual 72, 3) := by decide +kernel
theorem d_5_takeCell_26 : decode prog_7_method_17_code 26 = .ok (.goto 7, 3) := by decide +kernel
theorem d_5_takeCell_29 : decode prog_7_method_17_code 29 = .ok (.aload_n 0, 1) := by decide +kernel
theorem d_5_takeCell_30 : decode prog_7_method_17_code 30 = .ok (.invokevirtual 76, 3) := by decide +kernel
theorem d_5_takeCell_33 : decode prog_7_method_17_code 33 = .ok (.ireturn, 1) := by decide +kernel
theorem d_9_takeValue_0 : decode prog_11_method_7_code 0 = .ok (.aload_n 0, 1) := by decide +kernel
theorem d_9_takeValue_1 : decode prog_11_method_7_code 1 = .ok (.getfield 28, 3) := by decide +kernel
theorem d_9_takeValue_4 : decode prog_11_method_7_code 4 = .ok (.bipush 14, 2) := by decide +kernel
theorem d_9_takeValue_6 : decode prog_11_method_7_code 6 = .ok (.if_icmp .ge 51, 3) := by decide +kernel
theorem d_9_takeValue_9 : decode prog_11_method_7_code 9 = .ok (.aload_n 0, 1) := by decide +kernel
theorem d_9_takeValue_10 : decode prog_11_method_7_code 10 = .ok (.getfield 15, 3) := by decide +kernel
theorem d_9_takeValue_13 : decode prog_11_method_7_code 13 = .ok (.aload_n 0, 1) := by decide +kernel
theorem d_9_takeValue_14 : decode prog_11_method_7_code 14 = .ok (.getfield 28, 3) := by decide +kernel
theorem d_9_takeValue_17 : decode prog_11_method_7_code 17 = .ok (.iaload, 1) := by decide +kernel
theorem d_9_takeValue_18 : decode prog_11_method_7_code 18 = .ok (.iconst 5, 1) := by decide +kernel
theorem d_9_takeValue_19 : decode prog_11_method_7_code 19 = .ok (.if_icmp .ge 38, 3) := by decide +kernel
theorem d_9_takeValue_22 : decode prog_11_method_7_code 22 = .ok (.aload_n 0, 1) := by decide +kernel
theorem d_9_takeValue_23 : decode prog_11_method_7_code 23 = .ok (.getfield 18, 3) := by decide +kernel
theorem d_9_takeValue_26 : decode prog_11_method_7_code 26 = .ok (.aload_n 0, 1) := by decide +kernel
theorem d_9_takeValue_27 : decode prog_11_method_7_code 27 = .ok (.getfield 28, 3) := by decide +kernel
theorem d_9_takeValue_30 : decode prog_11_method_7_code 30 = .ok (.iconst 5, 1) := by decide +kernel
theorem d_9_takeValue_31 : decode prog_11_method_7_code 31 = .ok (.imul, 1) := by decide +kernel
theorem d_9_takeValue_32 : decode prog_11_method_7_code 32 = .ok (.aload_n 0, 1) := by decide +kernel
theorem d_9_takeValue_33 : decode prog_11_method_7_code 33 = .ok (.getfield 15, 3) := by decide +kernel
theorem d_9_takeValue_36 : decode prog_11_method_7_code 36 = .ok (.aload_n 0, 1) := by decide +kernel
theorem d_9_takeValue_37 : decode prog_11_method_7_code 37 = .ok (.getfield 28, 3) := by decide +kernel
theorem d_9_takeValue_40 : decode prog_11_method_7_code 40 = .ok (.iaload, 1) := by decide +kernel
theorem d_9_takeValue_41 : decode prog_11_method_7_code 41 = .ok (.iadd, 1) := by decide +kernel
theorem d_9_takeValue_42 : decode prog_11_method_7_code 42 = .ok (.iload_n 1, 1) := by decide +kernel
theorem d_9_takeValue_43 : decode prog_11_method_7_code 43 = .ok (.iastore, 1) := by decide +kernel
theorem d_9_takeValue_44 : decode prog_11_method_7_code 44 = .ok (.aload_n 0, 1) := by decide +kernel
theorem d_9_takeValue_45 : decode prog_11_method_7_code 45 = .ok (.getfield 15, 3) := by decide +kernel
theorem d_9_takeValue_48 : decode prog_11_method_7_code 48 = .ok (.aload_n 0, 1) := by decide +kernel
theorem d_9_takeValue_49 : decode prog_11_method_7_code 49 = .ok (.getfield 28, 3) := by decide +kernel
theorem d_9_takeValue_52 : decode prog_11_method_7_code 52 = .ok (.dup2, 1) := by decide +kernel
theorem d_9_takeValue_53 : decode prog_11_method_7_code 53 = .ok (.iaload, 1) := by decide +kernel
theorem d_9_takeValue_54 : decode prog_11_method_7_code 54 = .ok (.iconst 1, 1) := by decide +kernel
theorem d_9_takeValue_55 : decode prog_11_method_7_code 55 = .ok (.iadd, 1) := by decide +kernel
theorem d_9_takeValue_56 : decode prog_11_method_7_code 56 = .ok (.iastore, 1) := by decide +kernel
theorem d_9_takeValue_57 : decode prog_11_method_7_code 57 = .ok (.return_, 1) := by decide +kernel
theorem d_9_readCells_0 : decode prog_11_method_11_code 0 = .ok (.aload_n 0, 1) := by decide +kernel
theorem d_9_readCells_1 : decode prog_11_method_11_code 1 = .ok (.invokevirtual 103, 3) := by decide +kernel
theorem d_9_readCells_4 : decode prog_11_method_11_code 4 = .ok (.iconst 0, 1) := by decide +kernel
theorem d_9_readCells_5 : decode prog_11_method_11_code 5 = .ok (.istore_n 2, 1) := by decide +kernel
theorem d_9_readCells_6 : decode prog_11_method_11_code 6 = .ok (.iload_n 2, 1) := by decide +kernel
theorem d_9_readCells_7 : decode prog_11_method_11_code 7 = .ok (.aload_n 0, 1) := by decide +kernel
theorem d_9_readCells_8 : decode prog_11_method_11_code 8 = .ok (.getfield 42, 3) := by decide +kernel
theorem d_9_readCells_11 : decode prog_11_method_11_code 11 = .ok (.if_icmp .ge 31, 3) := by decide +kernel
theorem d_9_readCells_14 : decode prog_11_method_11_code 14 = .ok (.aload_n 1, 1) := by decide +kernel
theorem d_9_readCells_15 : decode prog_11_method_11_code 15 = .ok (.aload_n 0, 1) := by decide +kernel
theorem d_9_readCells_16 : decode prog_11_method_11_code 16 = .ok (.iload_n 2, 1) := by decide +kernel
theorem d_9_readCells_17 : decode prog_11_method_11_code 17 = .ok (.invokevirtual 106, 3) := by decide +kernel
theorem d_9_readCells_20 : decode prog_11_method_11_code 20 = .ok (.invokevirtual 109, 3) := by decide +kernel
theorem d_9_readCells_23 : decode prog_11_method_11_code 23 = .ok (.ifCond .ne 5, 3) := by decide +kernel
theorem d_9_readCells_26 : decode prog_11_method_11_code 26 = .ok (.iconst 0, 1) := by decide +kernel
theorem d_9_readCells_27 : decode prog_11_method_11_code 27 = .ok (.ireturn, 1) := by decide +kernel
theorem d_9_readCells_28 : decode prog_11_method_11_code 28 = .ok (.aload_n 0, 1) := by decide +kernel
theorem d_9_readCells_29 : decode prog_11_method_11_code 29 = .ok (.aload_n 1, 1) := by decide +kernel
theorem d_9_readCells_30 : decode prog_11_method_11_code 30 = .ok (.getfield 112, 3) := by decide +kernel
theorem d_9_readCells_33 : decode prog_11_method_11_code 33 = .ok (.invokevirtual 115, 3) := by decide +kernel
theorem d_9_readCells_36 : decode prog_11_method_11_code 36 = .ok (.iinc 2 1, 3) := by decide +kernel
theorem d_9_readCells_39 : decode prog_11_method_11_code 39 = .ok (.goto (-33), 3) := by decide +kernel
theorem d_9_readCells_42 : decode prog_11_method_11_code 42 = .ok (.aload_n 0, 1) := by decide +kernel
theorem d_9_readCells_43 : decode prog_11_method_11_code 43 = .ok (.dup, 1) := by decide +kernel
theorem d_9_readCells_44 : decode prog_11_method_11_code 44 = .ok (.getfield 28, 3) := by decide +kernel
theorem d_9_readCells_47 : decode prog_11_method_11_code 47 = .ok (.iconst 1, 1) := by decide +kernel
theorem d_9_readCells_48 : decode prog_11_method_11_code 48 = .ok (.iadd, 1) := by decide +kernel
theorem d_9_readCells_49 : decode prog_11_method_11_code 49 = .ok (.putfield 28, 3) := by decide +kernel
theorem d_9_readCells_52 : decode prog_11_method_11_code 52 = .ok (.iconst 1, 1) := by decide +kernel
theorem d_9_readCells_53 : decode prog_11_method_11_code 53 = .ok (.ireturn, 1) := by decide +kernel
theorem d_9_readLine_0 : decode prog_11_method_9_code 0 = .ok (.aload_n 1, 1) := by decide +kernel
theorem d_9_readLine_1 : decode prog_11_method_9_code 1 = .ok (.invokevirtual 75, 3) := by decide +kernel
theorem d_9_readLine_4 : decode prog_11_method_9_code 4 = .ok (.aload_n 1, 1) := by decide +kernel
theorem d_9_readLine_5 : decode prog_11_method_9_code 5 = .ok (.getfield 78, 3) := by decide +kernel
theorem d_9_readLine_8 : decode prog_11_method_9_code 8 = .ok (.istore_n 3, 1) := by decide +kernel
theorem d_9_readLine_9 : decode prog_11_method_9_code 9 = .ok (.aload_n 1, 1) := by decide +kernel
theorem d_9_readLine_10 : decode prog_11_method_9_code 10 = .ok (.ldc 81, 2) := by decide +kernel
theorem d_9_readLine_12 : decode prog_11_method_9_code 12 = .ok (.invokevirtual 82, 3) := by decide +kernel
theorem d_9_readLine_15 : decode prog_11_method_9_code 15 = .ok (.ifCond .eq 24, 3) := by decide +kernel
theorem d_9_readLine_18 : decode prog_11_method_9_code 18 = .ok (.aload_n 0, 1) := by decide +kernel
theorem d_9_readLine_19 : decode prog_11_method_9_code 19 = .ok (.getfield 42, 3) := by decide +kernel
theorem d_9_readLine_22 : decode prog_11_method_9_code 22 = .ok (.ifCond .ne 11, 3) := by decide +kernel
theorem d_9_readLine_25 : decode prog_11_method_9_code 25 = .ok (.aload_n 0, 1) := by decide +kernel
theorem d_9_readLine_26 : decode prog_11_method_9_code 26 = .ok (.aload_n 1, 1) := by decide +kernel
theorem d_9_readLine_27 : decode prog_11_method_9_code 27 = .ok (.invokevirtual 86, 3) := by decide +kernel
theorem d_9_readLine_30 : decode prog_11_method_9_code 30 = .ok (.goto 8, 3) := by decide +kernel
theorem d_9_readLine_33 : decode prog_11_method_9_code 33 = .ok (.aload_n 1, 1) := by decide +kernel
theorem d_9_readLine_34 : decode prog_11_method_9_code 34 = .ok (.iload_n 3, 1) := by decide +kernel
theorem d_9_readLine_35 : decode prog_11_method_9_code 35 = .ok (.invokevirtual 90, 3) := by decide +kernel
theorem d_9_readLine_38 : decode prog_11_method_9_code 38 = .ok (.ireturn, 1) := by decide +kernel
theorem d_9_readLine_39 : decode prog_11_method_9_code 39 = .ok (.aload_n 1, 1) := by decide +kernel
theorem d_9_readLine_40 : decode prog_11_method_9_code 40 = .ok (.ldc 94, 2) := by decide +kernel
theorem d_9_readLine_42 : decode prog_11_method_9_code 42 = .ok (.invokevirtual 82, 3) := by decide +kernel
theorem d_9_readLine_45 : decode prog_11_method_9_code 45 = .ok (.ifCond .eq 47, 3) := by decide +kernel
theorem d_9_readLine_48 : decode prog_11_method_9_code 48 = .ok (.aload_n 0, 1) := by decide +kernel
theorem d_9_readLine_49 : decode prog_11_method_9_code 49 = .ok (.getfield 42, 3) := by decide +kernel
theorem d_9_readLine_52 : decode prog_11_method_9_code 52 = .ok (.ifCond .le 18, 3) := by decide +kernel
theorem d_9_readLine_55 : decode prog_11_method_9_code 55 = .ok (.iload_n 2, 1) := by decide +kernel
theorem d_9_readLine_56 : decode prog_11_method_9_code 56 = .ok (.aload_n 0, 1) := by decide +kernel
theorem d_9_readLine_57 : decode prog_11_method_9_code 57 = .ok (.getfield 28, 3) := by decide +kernel
theorem d_9_readLine_60 : decode prog_11_method_9_code 60 = .ok (.iadd, 1) := by decide +kernel
theorem d_9_readLine_61 : decode prog_11_method_9_code 61 = .ok (.bipush 24, 2) := by decide +kernel
theorem d_9_readLine_63 : decode prog_11_method_9_code 63 = .ok (.if_icmp .ge 7, 3) := by decide +kernel
theorem d_9_readLine_66 : decode prog_11_method_9_code 66 = .ok (.iconst 1, 1) := by decide +kernel
theorem d_9_readLine_67 : decode prog_11_method_9_code 67 = .ok (.goto 4, 3) := by decide +kernel
theorem d_9_readLine_70 : decode prog_11_method_9_code 70 = .ok (.iconst 0, 1) := by decide +kernel
theorem d_9_readLine_71 : decode prog_11_method_9_code 71 = .ok (.istore 4, 2) := by decide +kernel
theorem d_9_readLine_73 : decode prog_11_method_9_code 73 = .ok (.iload 4, 2) := by decide +kernel
theorem d_9_readLine_75 : decode prog_11_method_9_code 75 = .ok (.ifCond .eq 11, 3) := by decide +kernel
theorem d_9_readLine_78 : decode prog_11_method_9_code 78 = .ok (.aload_n 0, 1) := by decide +kernel
theorem d_9_readLine_79 : decode prog_11_method_9_code 79 = .ok (.aload_n 1, 1) := by decide +kernel
theorem d_9_readLine_80 : decode prog_11_method_9_code 80 = .ok (.invokevirtual 96, 3) := by decide +kernel
theorem d_9_readLine_83 : decode prog_11_method_9_code 83 = .ok (.goto 8, 3) := by decide +kernel
theorem d_9_readLine_86 : decode prog_11_method_9_code 86 = .ok (.aload_n 1, 1) := by decide +kernel
theorem d_9_readLine_87 : decode prog_11_method_9_code 87 = .ok (.iload_n 3, 1) := by decide +kernel
theorem d_9_readLine_88 : decode prog_11_method_9_code 88 = .ok (.invokevirtual 90, 3) := by decide +kernel
theorem d_9_readLine_91 : decode prog_11_method_9_code 91 = .ok (.ireturn, 1) := by decide +kernel
theorem d_9_readLine_92 : decode prog_11_method_9_code 92 = .ok (.aload_n 1, 1) := by decide +kernel
theorem d_9_readLine_93 : decode prog_11_method_9_code 93 = .ok (.invokevirtual 72, 3) := by decide +kernel
theorem d_9_readLine_96 : decode prog_11_method_9_code 96 = .ok (.ireturn, 1) := by decide +kernel
theorem d_9_readSheet_0 : decode prog_11_method_8_code 0 = .ok (.aload_n 0, 1) := by decide +kernel
theorem d_9_readSheet_1 : decode prog_11_method_8_code 1 = .ok (.aload_n 2, 1) := by decide +kernel
theorem d_9_readSheet_2 : decode prog_11_method_8_code 2 = .ok (.invokevirtual 50, 3) := by decide +kernel
theorem d_9_readSheet_5 : decode prog_11_method_8_code 5 = .ok (.aload_n 1, 1) := by decide +kernel
theorem d_9_readSheet_6 : decode prog_11_method_8_code 6 = .ok (.invokevirtual 54, 3) := by decide +kernel
theorem d_9_readSheet_9 : decode prog_11_method_8_code 9 = .ok (.ifCond .eq 5, 3) := by decide +kernel
theorem d_9_readSheet_12 : decode prog_11_method_8_code 12 = .ok (.iconst 1, 1) := by decide +kernel
theorem d_9_readSheet_13 : decode prog_11_method_8_code 13 = .ok (.ireturn, 1) := by decide +kernel
theorem d_9_readSheet_14 : decode prog_11_method_8_code 14 = .ok (.iconst 0, 1) := by decide +kernel
theorem d_9_readSheet_15 : decode prog_11_method_8_code 15 = .ok (.istore_n 3, 1) := by decide +kernel
theorem d_9_readSheet_16 : decode prog_11_method_8_code 16 = .ok (.iload_n 3, 1) := by decide +kernel
theorem d_9_readSheet_17 : decode prog_11_method_8_code 17 = .ok (.bipush 14, 2) := by decide +kernel
theorem d_9_readSheet_19 : decode prog_11_method_8_code 19 = .ok (.if_icmp .ge 46, 3) := by decide +kernel
theorem d_9_readSheet_22 : decode prog_11_method_8_code 22 = .ok (.aload_n 0, 1) := by decide +kernel
theorem d_9_readSheet_23 : decode prog_11_method_8_code 23 = .ok (.aload_n 1, 1) := by decide +kernel
theorem d_9_readSheet_24 : decode prog_11_method_8_code 24 = .ok (.aload_n 2, 1) := by decide +kernel
theorem d_9_readSheet_25 : decode prog_11_method_8_code 25 = .ok (.invokevirtual 60, 3) := by decide +kernel
theorem d_9_readSheet_28 : decode prog_11_method_8_code 28 = .ok (.invokevirtual 64, 3) := by decide +kernel
theorem d_9_readSheet_31 : decode prog_11_method_8_code 31 = .ok (.ifCond .ne 5, 3) := by decide +kernel
theorem d_9_readSheet_34 : decode prog_11_method_8_code 34 = .ok (.iconst 0, 1) := by decide +kernel
theorem d_9_readSheet_35 : decode prog_11_method_8_code 35 = .ok (.ireturn, 1) := by decide +kernel
theorem d_9_readSheet_36 : decode prog_11_method_8_code 36 = .ok (.aload_n 1, 1) := by decide +kernel
theorem d_9_readSheet_37 : decode prog_11_method_8_code 37 = .ok (.invokevirtual 54, 3) := by decide +kernel
theorem d_9_readSheet_40 : decode prog_11_method_8_code 40 = .ok (.ifCond .eq 5, 3) := by decide +kernel
theorem d_9_readSheet_43 : decode prog_11_method_8_code 43 = .ok (.iconst 1, 1) := by decide +kernel
theorem d_9_readSheet_44 : decode prog_11_method_8_code 44 = .ok (.ireturn, 1) := by decide +kernel
theorem d_9_readSheet_45 : decode prog_11_method_8_code 45 = .ok (.aload_n 1, 1) := by decide +kernel
theorem d_9_readSheet_46 : decode prog_11_method_8_code 46 = .ok (.bipush 59, 2) := by decide +kernel
theorem d_9_readSheet_48 : decode prog_11_method_8_code 48 = .ok (.invokevirtual 68, 3) := by decide +kernel
theorem d_9_readSheet_51 : decode prog_11_method_8_code 51 = .ok (.ifCond .ne 8, 3) := by decide +kernel
theorem d_9_readSheet_54 : decode prog_11_method_8_code 54 = .ok (.aload_n 1, 1) := by decide +kernel
theorem d_9_readSheet_55 : decode prog_11_method_8_code 55 = .ok (.invokevirtual 72, 3) := by decide +kernel
theorem d_9_readSheet_58 : decode prog_11_method_8_code 58 = .ok (.ireturn, 1) := by decide +kernel
theorem d_9_readSheet_59 : decode prog_11_method_8_code 59 = .ok (.iinc 3 1, 3) := by decide +kernel
theorem d_9_readSheet_62 : decode prog_11_method_8_code 62 = .ok (.goto (-46), 3) := by decide +kernel
theorem d_9_readSheet_65 : decode prog_11_method_8_code 65 = .ok (.aload_n 1, 1) := by decide +kernel
theorem d_9_readSheet_66 : decode prog_11_method_8_code 66 = .ok (.invokevirtual 75, 3) := by decide +kernel
theorem d_9_readSheet_69 : decode prog_11_method_8_code 69 = .ok (.aload_n 1, 1) := by decide +kernel
theorem d_9_readSheet_70 : decode prog_11_method_8_code 70 = .ok (.invokevirtual 72, 3) := by decide +kernel
theorem d_9_readSheet_73 : decode prog_11_method_8_code 73 = .ok (.ireturn, 1) := by decide +kernel
theorem d_6_placeOf_0 : decode prog_8_method_4_code 0 = .ok (.iconst 0, 1) := by decide +kernel
theorem d_6_placeOf_1 : decode prog_8_method_4_code 1 = .ok (.istore_n 2, 1) := by decide +kernel
theorem d_6_placeOf_2 : decode prog_8_method_4_code 2 = .ok (.iload_n 2, 1) := by decide +kernel
theorem d_6_placeOf_3 : decode prog_8_method_4_code 3 = .ok (.aload_n 0, 1) := by decide +kernel
theorem d_6_placeOf_4 : decode prog_8_method_4_code 4 = .ok (.getfield 15, 3) := by decide +kernel
theorem d_6_placeOf_7 : decode prog_8_method_4_code 7 = .ok (.if_icmp .ge 20, 3) := by decide +kernel
theorem d_6_placeOf_10 : decode prog_8_method_4_code 10 = .ok (.aload_n 0, 1) := by decide +kernel
theorem d_6_placeOf_11 : decode prog_8_method_4_code 11 = .ok (.iload_n 2, 1) := by decide +kernel
theorem d_6_placeOf_12 : decode prog_8_method_4_code 12 = .ok (.invokevirtual 19, 3) := by decide +kernel
theorem d_6_placeOf_15 : decode prog_8_method_4_code 15 = .ok (.iload_n 1, 1) := by decide +kernel
theorem d_6_placeOf_16 : decode prog_8_method_4_code 16 = .ok (.if_icmp .ne 5, 3) := by decide +kernel
theorem d_6_placeOf_19 : decode prog_8_method_4_code 19 = .ok (.iload_n 2, 1) := by decide +kernel
theorem d_6_placeOf_20 : decode prog_8_method_4_code 20 = .ok (.ireturn, 1) := by decide +kernel
theorem d_6_placeOf_21 : decode prog_8_method_4_code 21 = .ok (.iinc 2 1, 3) := by decide +kernel
theorem d_6_placeOf_24 : decode prog_8_method_4_code 24 = .ok (.goto (-22), 3) := by decide +kernel
theorem d_6_placeOf_27 : decode prog_8_method_4_code 27 = .ok (.iconst (-1), 1) := by decide +kernel
theorem d_6_placeOf_28 : decode prog_8_method_4_code 28 = .ok (.ireturn, 1) := by decide +kernel
theorem d_6_holds_0 : decode prog_8_method_5_code 0 = .ok (.aload_n 0, 1) := by decide +kernel
theorem d_6_holds_1 : decode prog_8_method_5_code 1 = .ok (.iload_n 1, 1) := by decide +kernel
theorem d_6_holds_2 : decode prog_8_method_5_code 2 = .ok (.invokevirtual 23, 3) := by decide +kernel
theorem d_6_holds_5 : decode prog_8_method_5_code 5 = .ok (.iconst (-1), 1) := by decide +kernel
theorem d_6_holds_6 : decode prog_8_method_5_code 6 = .ok (.if_icmp .eq 7, 3) := by decide +kernel
theorem d_6_holds_9 : decode prog_8_method_5_code 9 = .ok (.iconst 1, 1) := by decide +kernel
theorem d_6_holds_10 : decode prog_8_method_5_code 10 = .ok (.goto 4, 3) := by decide +kernel
theorem d_6_holds_13 : decode prog_8_method_5_code 13 = .ok (.iconst 0, 1) := by decide +kernel
theorem d_6_holds_14 : decode prog_8_method_5_code 14 = .ok (.ireturn, 1) := by decide +kernel
theorem d_7_isColumn_0 : decode prog_9_method_3_code 0 = .ok (.iload_n 1, 1) := by decide +kernel
theorem d_7_isColumn_1 : decode prog_9_method_3_code 1 = .ok (.ifCond .lt 20, 3) := by decide +kernel
theorem d_7_isColumn_4 : decode prog_9_method_3_code 4 = .ok (.iload_n 1, 1) := by decide +kernel
theorem d_7_isColumn_5 : decode prog_9_method_3_code 5 = .ok (.aload_n 0, 1) := by decide +kernel
theorem d_7_isColumn_6 : decode prog_9_method_3_code 6 = .ok (.getfield 35, 3) := by decide +kernel
theorem d_7_isColumn_9 : decode prog_9_method_3_code 9 = .ok (.if_icmp .ge 12, 3) := by decide +kernel
theorem d_7_isColumn_12 : decode prog_9_method_3_code 12 = .ok (.iload_n 1, 1) := by decide +kernel
theorem d_7_isColumn_13 : decode prog_9_method_3_code 13 = .ok (.iconst 5, 1) := by decide +kernel
theorem d_7_isColumn_14 : decode prog_9_method_3_code 14 = .ok (.if_icmp .ge 7, 3) := by decide +kernel
theorem d_7_isColumn_17 : decode prog_9_method_3_code 17 = .ok (.iconst 1, 1) := by decide +kernel
theorem d_7_isColumn_18 : decode prog_9_method_3_code 18 = .ok (.goto 4, 3) := by decide +kernel
theorem d_7_isColumn_21 : decode prog_9_method_3_code 21 = .ok (.iconst 0, 1) := by decide +kernel
theorem d_7_isColumn_22 : decode prog_9_method_3_code 22 = .ok (.ireturn, 1) := by decide +kernel
theorem d_7_write_0 : decode prog_9_method_10_code 0 = .ok (.aload_n 0, 1) := by decide +kernel
theorem d_7_write_1 : decode prog_9_method_10_code 1 = .ok (.iload_n 1, 1) := by decide +kernel
theorem d_7_write_2 : decode prog_9_method_10_code 2 = .ok (.invokevirtual 43, 3) := by decide +kernel
theorem d_7_write_5 : decode prog_9_method_10_code 5 = .ok (.ifCond .eq 34, 3) := by decide +kernel
theorem d_7_write_8 : decode prog_9_method_10_code 8 = .ok (.aload_n 0, 1) := by decide +kernel
theorem d_7_write_9 : decode prog_9_method_10_code 9 = .ok (.iload_n 2, 1) := by decide +kernel
theorem d_7_write_10 : decode prog_9_method_10_code 10 = .ok (.invokevirtual 39, 3) := by decide +kernel
theorem d_7_write_13 : decode prog_9_method_10_code 13 = .ok (.ifCond .eq 26, 3) := by decide +kernel
theorem d_7_write_16 : decode prog_9_method_10_code 16 = .ok (.aload_n 0, 1) := by decide +kernel
theorem d_7_write_17 : decode prog_9_method_10_code 17 = .ok (.getfield 18, 3) := by decide +kernel
theorem d_7_write_20 : decode prog_9_method_10_code 20 = .ok (.iload_n 1, 1) := by decide +kernel
theorem d_7_write_21 : decode prog_9_method_10_code 21 = .ok (.iconst 5, 1) := by decide +kernel
theorem d_7_write_22 : decode prog_9_method_10_code 22 = .ok (.imul, 1) := by decide +kernel
theorem d_7_write_23 : decode prog_9_method_10_code 23 = .ok (.iload_n 2, 1) := by decide +kernel
theorem d_7_write_24 : decode prog_9_method_10_code 24 = .ok (.iadd, 1) := by decide +kernel
theorem d_7_write_25 : decode prog_9_method_10_code 25 = .ok (.iload_n 3, 1) := by decide +kernel
theorem d_7_write_26 : decode prog_9_method_10_code 26 = .ok (.iastore, 1) := by decide +kernel
theorem d_7_write_27 : decode prog_9_method_10_code 27 = .ok (.aload_n 0, 1) := by decide +kernel
theorem d_7_write_28 : decode prog_9_method_10_code 28 = .ok (.getfield 21, 3) := by decide +kernel
theorem d_7_write_31 : decode prog_9_method_10_code 31 = .ok (.iload_n 1, 1) := by decide +kernel
theorem d_7_write_32 : decode prog_9_method_10_code 32 = .ok (.iconst 5, 1) := by decide +kernel
theorem d_7_write_33 : decode prog_9_method_10_code 33 = .ok (.imul, 1) := by decide +kernel
theorem d_7_write_34 : decode prog_9_method_10_code 34 = .ok (.iload_n 2, 1) := by decide +kernel
theorem d_7_write_35 : decode prog_9_method_10_code 35 = .ok (.iadd, 1) := by decide +kernel
theorem d_7_write_36 : decode prog_9_method_10_code 36 = .ok (.iload 4, 2) := by decide +kernel
theorem d_7_write_38 : decode prog_9_method_10_code 38 = .ok (.iastore, 1) := by decide +kernel
theorem d_7_write_39 : decode prog_9_method_10_code 39 = .ok (.return_, 1) := by decide +kernel
theorem d_7_seatNewRow_0 : decode prog_9_method_13_code 0 = .ok (.iconst 0, 1) := by decide +kernel
theorem d_7_seatNewRow_1 : decode prog_9_method_13_code 1 = .ok (.istore_n 1, 1) := by decide +kernel
theorem d_7_seatNewRow_2 : decode prog_9_method_13_code 2 = .ok (.iload_n 1, 1) := by decide +kernel
theorem d_7_seatNewRow_3 : decode prog_9_method_13_code 3 = .ok (.bipush 24, 2) := by decide +kernel
theorem d_7_seatNewRow_5 : decode prog_9_method_13_code 5 = .ok (.if_icmp .ge 67, 3) := by decide +kernel
theorem d_7_seatNewRow_8 : decode prog_9_method_13_code 8 = .ok (.aload_n 0, 1) := by decide +kernel
theorem d_7_seatNewRow_9 : decode prog_9_method_13_code 9 = .ok (.getfield 27, 3) := by decide +kernel
theorem d_7_seatNewRow_12 : decode prog_9_method_13_code 12 = .ok (.iload_n 1, 1) := by decide +kernel
theorem d_7_seatNewRow_13 : decode prog_9_method_13_code 13 = .ok (.invokevirtual 66, 3) := by decide +kernel
theorem d_7_seatNewRow_16 : decode prog_9_method_13_code 16 = .ok (.ifCond .ne 50, 3) := by decide +kernel
theorem d_7_seatNewRow_19 : decode prog_9_method_13_code 19 = .ok (.aload_n 0, 1) := by decide +kernel
theorem d_7_seatNewRow_20 : decode prog_9_method_13_code 20 = .ok (.getfield 15, 3) := by decide +kernel
theorem d_7_seatNewRow_23 : decode prog_9_method_13_code 23 = .ok (.iload_n 1, 1) := by decide +kernel
theorem d_7_seatNewRow_24 : decode prog_9_method_13_code 24 = .ok (.aload_n 0, 1) := by decide +kernel
theorem d_7_seatNewRow_25 : decode prog_9_method_13_code 25 = .ok (.getfield 69, 3) := by decide +kernel
theorem d_7_seatNewRow_28 : decode prog_9_method_13_code 28 = .ok (.iastore, 1) := by decide +kernel
theorem d_7_seatNewRow_29 : decode prog_9_method_13_code 29 = .ok (.aload_n 0, 1) := by decide +kernel
theorem d_7_seatNewRow_30 : decode prog_9_method_13_code 30 = .ok (.dup, 1) := by decide +kernel
theorem d_7_seatNewRow_31 : decode prog_9_method_13_code 31 = .ok (.getfield 69, 3) := by decide +kernel
theorem d_7_seatNewRow_34 : decode prog_9_method_13_code 34 = .ok (.iconst 1, 1) := by decide +kernel
theorem d_7_seatNewRow_35 : decode prog_9_method_13_code 35 = .ok (.iadd, 1) := by decide +kernel
theorem d_7_seatNewRow_36 : decode prog_9_method_13_code 36 = .ok (.putfield 69, 3) := by decide +kernel
theorem d_7_seatNewRow_39 : decode prog_9_method_13_code 39 = .ok (.iconst 0, 1) := by decide +kernel
theorem d_7_seatNewRow_40 : decode prog_9_method_13_code 40 = .ok (.istore_n 2, 1) := by decide +kernel
theorem d_7_seatNewRow_41 : decode prog_9_method_13_code 41 = .ok (.iload_n 2, 1) := by decide +kernel
theorem d_7_seatNewRow_42 : decode prog_9_method_13_code 42 = .ok (.aload_n 0, 1) := by decide +kernel
theorem d_7_seatNewRow_43 : decode prog_9_method_13_code 43 = .ok (.getfield 35, 3) := by decide +kernel
theorem d_7_seatNewRow_46 : decode prog_9_method_13_code 46 = .ok (.if_icmp .ge 18, 3) := by decide +kernel
theorem d_7_seatNewRow_49 : decode prog_9_method_13_code 49 = .ok (.aload_n 0, 1) := by decide +kernel
theorem d_7_seatNewRow_50 : decode prog_9_method_13_code 50 = .ok (.iload_n 1, 1) := by decide +kernel
theorem d_7_seatNewRow_51 : decode prog_9_method_13_code 51 = .ok (.iload_n 2, 1) := by decide +kernel
theorem d_7_seatNewRow_52 : decode prog_9_method_13_code 52 = .ok (.ldc 53, 2) := by decide +kernel
theorem d_7_seatNewRow_54 : decode prog_9_method_13_code 54 = .ok (.iconst (-1), 1) := by decide +kernel
theorem d_7_seatNewRow_55 : decode prog_9_method_13_code 55 = .ok (.invokevirtual 72, 3) := by decide +kernel
theorem d_7_seatNewRow_58 : decode prog_9_method_13_code 58 = .ok (.iinc 2 1, 3) := by decide +kernel
theorem d_7_seatNewRow_61 : decode prog_9_method_13_code 61 = .ok (.goto (-20), 3) := by decide +kernel
theorem d_7_seatNewRow_64 : decode prog_9_method_13_code 64 = .ok (.iload_n 1, 1) := by decide +kernel
theorem d_7_seatNewRow_65 : decode prog_9_method_13_code 65 = .ok (.ireturn, 1) := by decide +kernel
theorem d_7_seatNewRow_66 : decode prog_9_method_13_code 66 = .ok (.iinc 1 1, 3) := by decide +kernel
theorem d_7_seatNewRow_69 : decode prog_9_method_13_code 69 = .ok (.goto (-67), 3) := by decide +kernel
theorem d_7_seatNewRow_72 : decode prog_9_method_13_code 72 = .ok (.iconst (-1), 1) := by decide +kernel
theorem d_7_seatNewRow_73 : decode prog_9_method_13_code 73 = .ok (.ireturn, 1) := by decide +kernel
theorem d_9_widthOf_0 : decode prog_11_method_3_code 0 = .ok (.iload_n 1, 1) := by decide +kernel
theorem d_9_widthOf_1 : decode prog_11_method_3_code 1 = .ok (.ifCond .lt 18, 3) := by decide +kernel
theorem d_9_widthOf_4 : decode prog_11_method_3_code 4 = .ok (.iload_n 1, 1) := by decide +kernel
theorem d_9_widthOf_5 : decode prog_11_method_3_code 5 = .ok (.bipush 14, 2) := by decide +kernel
theorem d_9_widthOf_7 : decode prog_11_method_3_code 7 = .ok (.if_icmp .ge 12, 3) := by decide +kernel
theorem d_9_widthOf_10 : decode prog_11_method_3_code 10 = .ok (.aload_n 0, 1) := by decide +kernel
theorem d_9_widthOf_11 : decode prog_11_method_3_code 11 = .ok (.getfield 15, 3) := by decide +kernel
theorem d_9_widthOf_14 : decode prog_11_method_3_code 14 = .ok (.iload_n 1, 1) := by decide +kernel
theorem d_9_widthOf_15 : decode prog_11_method_3_code 15 = .ok (.iaload, 1) := by decide +kernel
theorem d_9_widthOf_16 : decode prog_11_method_3_code 16 = .ok (.goto 4, 3) := by decide +kernel
theorem d_9_widthOf_19 : decode prog_11_method_3_code 19 = .ok (.iconst 0, 1) := by decide +kernel
theorem d_9_widthOf_20 : decode prog_11_method_3_code 20 = .ok (.ireturn, 1) := by decide +kernel
theorem d_9_toldAt_0 : decode prog_11_method_2_code 0 = .ok (.iload_n 1, 1) := by decide +kernel
theorem d_9_toldAt_1 : decode prog_11_method_2_code 1 = .ok (.ifCond .lt 34, 3) := by decide +kernel
theorem d_9_toldAt_4 : decode prog_11_method_2_code 4 = .ok (.iload_n 1, 1) := by decide +kernel
theorem d_9_toldAt_5 : decode prog_11_method_2_code 5 = .ok (.aload_n 0, 1) := by decide +kernel
theorem d_9_toldAt_6 : decode prog_11_method_2_code 6 = .ok (.getfield 28, 3) := by decide +kernel
theorem d_9_toldAt_9 : decode prog_11_method_2_code 9 = .ok (.if_icmp .ge 26, 3) := by decide +kernel
theorem d_9_toldAt_12 : decode prog_11_method_2_code 12 = .ok (.iload_n 1, 1) := by decide +kernel
theorem d_9_toldAt_13 : decode prog_11_method_2_code 13 = .ok (.bipush 14, 2) := by decide +kernel
theorem d_9_toldAt_15 : decode prog_11_method_2_code 15 = .ok (.if_icmp .ge 20, 3) := by decide +kernel
theorem d_9_toldAt_18 : decode prog_11_method_2_code 18 = .ok (.iload_n 2, 1) := by decide +kernel
theorem d_9_toldAt_19 : decode prog_11_method_2_code 19 = .ok (.ifCond .lt 16, 3) := by decide +kernel
theorem d_9_toldAt_22 : decode prog_11_method_2_code 22 = .ok (.iload_n 2, 1) := by decide +kernel
theorem d_9_toldAt_23 : decode prog_11_method_2_code 23 = .ok (.aload_n 0, 1) := by decide +kernel
theorem d_9_toldAt_24 : decode prog_11_method_2_code 24 = .ok (.iload_n 1, 1) := by decide +kernel
theorem d_9_toldAt_25 : decode prog_11_method_2_code 25 = .ok (.invokevirtual 32, 3) := by decide +kernel
theorem d_9_toldAt_28 : decode prog_11_method_2_code 28 = .ok (.if_icmp .ge 7, 3) := by decide +kernel
theorem d_9_toldAt_31 : decode prog_11_method_2_code 31 = .ok (.iconst 1, 1) := by decide +kernel
theorem d_9_toldAt_32 : decode prog_11_method_2_code 32 = .ok (.goto 4, 3) := by decide +kernel
theorem d_9_toldAt_35 : decode prog_11_method_2_code 35 = .ok (.iconst 0, 1) := by decide +kernel
theorem d_9_toldAt_36 : decode prog_11_method_2_code 36 = .ok (.istore_n 3, 1) := by decide +kernel
theorem d_9_toldAt_37 : decode prog_11_method_2_code 37 = .ok (.iload_n 3, 1) := by decide +kernel
theorem d_9_toldAt_38 : decode prog_11_method_2_code 38 = .ok (.ifCond .eq 16, 3) := by decide +kernel
theorem d_9_toldAt_41 : decode prog_11_method_2_code 41 = .ok (.aload_n 0, 1) := by decide +kernel
theorem d_9_toldAt_42 : decode prog_11_method_2_code 42 = .ok (.getfield 18, 3) := by decide +kernel
theorem d_9_toldAt_45 : decode prog_11_method_2_code 45 = .ok (.iload_n 1, 1) := by decide +kernel
theorem d_9_toldAt_46 : decode prog_11_method_2_code 46 = .ok (.iconst 5, 1) := by decide +kernel
theorem d_9_toldAt_47 : decode prog_11_method_2_code 47 = .ok (.imul, 1) := by decide +kernel
theorem d_9_toldAt_48 : decode prog_11_method_2_code 48 = .ok (.iload_n 2, 1) := by decide +kernel
theorem d_9_toldAt_49 : decode prog_11_method_2_code 49 = .ok (.iadd, 1) := by decide +kernel
theorem d_9_toldAt_50 : decode prog_11_method_2_code 50 = .ok (.iaload, 1) := by decide +kernel
theorem d_9_toldAt_51 : decode prog_11_method_2_code 51 = .ok (.goto 5, 3) := by decide +kernel
theorem d_9_toldAt_54 : decode prog_11_method_2_code 54 = .ok (.ldc 36, 2) := by decide +kernel
theorem d_9_toldAt_56 : decode prog_11_method_2_code 56 = .ok (.ireturn, 1) := by decide +kernel
theorem d_6_putAt_0 : decode prog_8_method_6_code 0 = .ok (.iload_n 1, 1) := by decide +kernel
theorem d_6_putAt_1 : decode prog_8_method_6_code 1 = .ok (.ifCond .lt 20, 3) := by decide +kernel
theorem d_6_putAt_4 : decode prog_8_method_6_code 4 = .ok (.iload_n 1, 1) := by decide +kernel
theorem d_6_putAt_5 : decode prog_8_method_6_code 5 = .ok (.aload_n 0, 1) := by decide +kernel
theorem d_6_putAt_6 : decode prog_8_method_6_code 6 = .ok (.getfield 15, 3) := by decide +kernel
theorem d_6_putAt_9 : decode prog_8_method_6_code 9 = .ok (.if_icmp .gt 12, 3) := by decide +kernel
theorem d_6_putAt_12 : decode prog_8_method_6_code 12 = .ok (.aload_n 0, 1) := by decide +kernel
theorem d_6_putAt_13 : decode prog_8_method_6_code 13 = .ok (.getfield 15, 3) := by decide +kernel
theorem d_6_putAt_16 : decode prog_8_method_6_code 16 = .ok (.bipush 24, 2) := by decide +kernel
theorem d_6_putAt_18 : decode prog_8_method_6_code 18 = .ok (.if_icmp .lt 4, 3) := by decide +kernel
theorem d_6_putAt_21 : decode prog_8_method_6_code 21 = .ok (.return_, 1) := by decide +kernel
theorem d_6_putAt_22 : decode prog_8_method_6_code 22 = .ok (.aload_n 0, 1) := by decide +kernel
theorem d_6_putAt_23 : decode prog_8_method_6_code 23 = .ok (.getfield 15, 3) := by decide +kernel
theorem d_6_putAt_26 : decode prog_8_method_6_code 26 = .ok (.istore_n 3, 1) := by decide +kernel
theorem d_6_putAt_27 : decode prog_8_method_6_code 27 = .ok (.iload_n 3, 1) := by decide +kernel
theorem d_6_putAt_28 : decode prog_8_method_6_code 28 = .ok (.iload_n 1, 1) := by decide +kernel
theorem d_6_putAt_29 : decode prog_8_method_6_code 29 = .ok (.if_icmp .le 23, 3) := by decide +kernel
theorem d_6_putAt_32 : decode prog_8_method_6_code 32 = .ok (.aload_n 0, 1) := by decide +kernel
theorem d_6_putAt_33 : decode prog_8_method_6_code 33 = .ok (.getfield 9, 3) := by decide +kernel
theorem d_6_putAt_36 : decode prog_8_method_6_code 36 = .ok (.iload_n 3, 1) := by decide +kernel
theorem d_6_putAt_37 : decode prog_8_method_6_code 37 = .ok (.aload_n 0, 1) := by decide +kernel
theorem d_6_putAt_38 : decode prog_8_method_6_code 38 = .ok (.getfield 9, 3) := by decide +kernel
theorem d_6_putAt_41 : decode prog_8_method_6_code 41 = .ok (.iload_n 3, 1) := by decide +kernel
theorem d_6_putAt_42 : decode prog_8_method_6_code 42 = .ok (.iconst 1, 1) := by decide +kernel
theorem d_6_putAt_43 : decode prog_8_method_6_code 43 = .ok (.isub, 1) := by decide +kernel
theorem d_6_putAt_44 : decode prog_8_method_6_code 44 = .ok (.iaload, 1) := by decide +kernel
theorem d_6_putAt_45 : decode prog_8_method_6_code 45 = .ok (.iastore, 1) := by decide +kernel
theorem d_6_putAt_46 : decode prog_8_method_6_code 46 = .ok (.iinc 3 (-1), 3) := by decide +kernel
theorem d_6_putAt_49 : decode prog_8_method_6_code 49 = .ok (.goto (-22), 3) := by decide +kernel
theorem d_6_putAt_52 : decode prog_8_method_6_code 52 = .ok (.aload_n 0, 1) := by decide +kernel
theorem d_6_putAt_53 : decode prog_8_method_6_code 53 = .ok (.getfield 9, 3) := by decide +kernel
theorem d_6_putAt_56 : decode prog_8_method_6_code 56 = .ok (.iload_n 1, 1) := by decide +kernel
theorem d_6_putAt_57 : decode prog_8_method_6_code 57 = .ok (.iload_n 2, 1) := by decide +kernel
theorem d_6_putAt_58 : decode prog_8_method_6_code 58 = .ok (.iastore, 1) := by decide +kernel
theorem d_6_putAt_59 : decode prog_8_method_6_code 59 = .ok (.aload_n 0, 1) := by decide +kernel
theorem d_6_putAt_60 : decode prog_8_method_6_code 60 = .ok (.dup, 1) := by decide +kernel
theorem d_6_putAt_61 : decode prog_8_method_6_code 61 = .ok (.getfield 15, 3) := by decide +kernel
theorem d_6_putAt_64 : decode prog_8_method_6_code 64 = .ok (.iconst 1, 1) := by decide +kernel
theorem d_6_putAt_65 : decode prog_8_method_6_code 65 = .ok (.iadd, 1) := by decide +kernel
theorem d_6_putAt_66 : decode prog_8_method_6_code 66 = .ok (.putfield 15, 3) := by decide +kernel
theorem d_6_putAt_69 : decode prog_8_method_6_code 69 = .ok (.return_, 1) := by decide +kernel
theorem d_6_putLast_0 : decode prog_8_method_7_code 0 = .ok (.aload_n 0, 1) := by decide +kernel
theorem d_6_putLast_1 : decode prog_8_method_7_code 1 = .ok (.aload_n 0, 1) := by decide +kernel
theorem d_6_putLast_2 : decode prog_8_method_7_code 2 = .ok (.getfield 15, 3) := by decide +kernel
theorem d_6_putLast_5 : decode prog_8_method_7_code 5 = .ok (.iload_n 1, 1) := by decide +kernel
theorem d_6_putLast_6 : decode prog_8_method_7_code 6 = .ok (.invokevirtual 26, 3) := by decide +kernel
theorem d_6_putLast_9 : decode prog_8_method_7_code 9 = .ok (.return_, 1) := by decide +kernel
theorem d_7_valueAt_0 : decode prog_9_method_8_code 0 = .ok (.aload_n 0, 1) := by decide +kernel
theorem d_7_valueAt_1 : decode prog_9_method_8_code 1 = .ok (.iload_n 1, 1) := by decide +kernel
theorem d_7_valueAt_2 : decode prog_9_method_8_code 2 = .ok (.invokevirtual 43, 3) := by decide +kernel
theorem d_7_valueAt_5 : decode prog_9_method_8_code 5 = .ok (.ifCond .eq 24, 3) := by decide +kernel
theorem d_7_valueAt_8 : decode prog_9_method_8_code 8 = .ok (.aload_n 0, 1) := by decide +kernel
theorem d_7_valueAt_9 : decode prog_9_method_8_code 9 = .ok (.iload_n 2, 1) := by decide +kernel
theorem d_7_valueAt_10 : decode prog_9_method_8_code 10 = .ok (.invokevirtual 39, 3) := by decide +kernel
theorem d_7_valueAt_13 : decode prog_9_method_8_code 13 = .ok (.ifCond .eq 16, 3) := by decide +kernel
theorem d_7_valueAt_16 : decode prog_9_method_8_code 16 = .ok (.aload_n 0, 1) := by decide +kernel
theorem d_7_valueAt_17 : decode prog_9_method_8_code 17 = .ok (.getfield 18, 3) := by decide +kernel
theorem d_7_valueAt_20 : decode prog_9_method_8_code 20 = .ok (.iload_n 1, 1) := by decide +kernel
theorem d_7_valueAt_21 : decode prog_9_method_8_code 21 = .ok (.iconst 5, 1) := by decide +kernel
theorem d_7_valueAt_22 : decode prog_9_method_8_code 22 = .ok (.imul, 1) := by decide +kernel
theorem d_7_valueAt_23 : decode prog_9_method_8_code 23 = .ok (.iload_n 2, 1) := by decide +kernel
theorem d_7_valueAt_24 : decode prog_9_method_8_code 24 = .ok (.iadd, 1) := by decide +kernel
theorem d_7_valueAt_25 : decode prog_9_method_8_code 25 = .ok (.iaload, 1) := by decide +kernel
theorem d_7_valueAt_26 : decode prog_9_method_8_code 26 = .ok (.goto 5, 3) := by decide +kernel
theorem d_7_valueAt_29 : decode prog_9_method_8_code 29 = .ok (.ldc 53, 2) := by decide +kernel
theorem d_7_valueAt_31 : decode prog_9_method_8_code 31 = .ok (.ireturn, 1) := by decide +kernel
theorem d_1_matches_0 : decode prog_3_method_5_code 0 = .ok (.iload_n 2, 1) := by decide +kernel
theorem d_1_matches_1 : decode prog_3_method_5_code 1 = .ok (.istore_n 3, 1) := by decide +kernel
theorem d_1_matches_2 : decode prog_3_method_5_code 2 = .ok (.iconst 0, 1) := by decide +kernel
theorem d_1_matches_3 : decode prog_3_method_5_code 3 = .ok (.istore 4, 2) := by decide +kernel
theorem d_1_matches_5 : decode prog_3_method_5_code 5 = .ok (.iload 4, 2) := by decide +kernel
theorem d_1_matches_7 : decode prog_3_method_5_code 7 = .ok (.iconst 4, 1) := by decide +kernel
theorem d_1_matches_8 : decode prog_3_method_5_code 8 = .ok (.if_icmp .ge 77, 3) := by decide +kernel
theorem d_1_matches_11 : decode prog_3_method_5_code 11 = .ok (.iload_n 0, 1) := by decide +kernel
theorem d_1_matches_12 : decode prog_3_method_5_code 12 = .ok (.iconst 5, 1) := by decide +kernel
theorem d_1_matches_13 : decode prog_3_method_5_code 13 = .ok (.iload 4, 2) := by decide +kernel
theorem d_1_matches_15 : decode prog_3_method_5_code 15 = .ok (.imul, 1) := by decide +kernel
theorem d_1_matches_16 : decode prog_3_method_5_code 16 = .ok (.ishr, 1) := by decide +kernel
theorem d_1_matches_17 : decode prog_3_method_5_code 17 = .ok (.bipush 31, 2) := by decide +kernel
theorem d_1_matches_19 : decode prog_3_method_5_code 19 = .ok (.iand, 1) := by decide +kernel
theorem d_1_matches_20 : decode prog_3_method_5_code 20 = .ok (.istore 5, 2) := by decide +kernel
theorem d_1_matches_22 : decode prog_3_method_5_code 22 = .ok (.iload_n 3, 1) := by decide +kernel
theorem d_1_matches_23 : decode prog_3_method_5_code 23 = .ok (.sipush 19683, 3) := by decide +kernel
theorem d_1_matches_26 : decode prog_3_method_5_code 26 = .ok (.idiv, 1) := by decide +kernel
theorem d_1_matches_27 : decode prog_3_method_5_code 27 = .ok (.istore 6, 2) := by decide +kernel
theorem d_1_matches_29 : decode prog_3_method_5_code 29 = .ok (.iload 5, 2) := by decide +kernel
theorem d_1_matches_31 : decode prog_3_method_5_code 31 = .ok (.ifCond .ne 18, 3) := by decide +kernel
theorem d_1_matches_34 : decode prog_3_method_5_code 34 = .ok (.iload_n 1, 1) := by decide +kernel
theorem d_1_matches_35 : decode prog_3_method_5_code 35 = .ok (.ifCond .ne 8, 3) := by decide +kernel
theorem d_1_matches_38 : decode prog_3_method_5_code 38 = .ok (.iload 6, 2) := by decide +kernel
theorem d_1_matches_40 : decode prog_3_method_5_code 40 = .ok (.ifCond .ne 7, 3) := by decide +kernel
theorem d_1_matches_43 : decode prog_3_method_5_code 43 = .ok (.iconst 1, 1) := by decide +kernel
theorem d_1_matches_44 : decode prog_3_method_5_code 44 = .ok (.goto 4, 3) := by decide +kernel
theorem d_1_matches_47 : decode prog_3_method_5_code 47 = .ok (.iconst 0, 1) := by decide +kernel
theorem d_1_matches_48 : decode prog_3_method_5_code 48 = .ok (.ireturn, 1) := by decide +kernel
theorem d_1_matches_49 : decode prog_3_method_5_code 49 = .ok (.iload 6, 2) := by decide +kernel
theorem d_1_matches_51 : decode prog_3_method_5_code 51 = .ok (.ifCond .eq 17, 3) := by decide +kernel
theorem d_1_matches_54 : decode prog_3_method_5_code 54 = .ok (.iload 5, 2) := by decide +kernel
theorem d_1_matches_56 : decode prog_3_method_5_code 56 = .ok (.bipush 27, 2) := by decide +kernel
theorem d_1_matches_58 : decode prog_3_method_5_code 58 = .ok (.if_icmp .eq 12, 3) := by decide +kernel
theorem d_1_matches_61 : decode prog_3_method_5_code 61 = .ok (.iload 5, 2) := by decide +kernel
theorem d_1_matches_63 : decode prog_3_method_5_code 63 = .ok (.iload 6, 2) := by decide +kernel
theorem d_1_matches_65 : decode prog_3_method_5_code 65 = .ok (.if_icmp .eq 5, 3) := by decide +kernel
theorem d_1_matches_68 : decode prog_3_method_5_code 68 = .ok (.iconst 0, 1) := by decide +kernel
theorem d_1_matches_69 : decode prog_3_method_5_code 69 = .ok (.ireturn, 1) := by decide +kernel
theorem d_1_matches_70 : decode prog_3_method_5_code 70 = .ok (.iload_n 3, 1) := by decide +kernel
theorem d_1_matches_71 : decode prog_3_method_5_code 71 = .ok (.sipush 19683, 3) := by decide +kernel
theorem d_1_matches_74 : decode prog_3_method_5_code 74 = .ok (.irem, 1) := by decide +kernel
theorem d_1_matches_75 : decode prog_3_method_5_code 75 = .ok (.bipush 27, 2) := by decide +kernel
theorem d_1_matches_77 : decode prog_3_method_5_code 77 = .ok (.imul, 1) := by decide +kernel
theorem d_1_matches_78 : decode prog_3_method_5_code 78 = .ok (.istore_n 3, 1) := by decide +kernel
theorem d_1_matches_79 : decode prog_3_method_5_code 79 = .ok (.iinc 4 1, 3) := by decide +kernel
theorem d_1_matches_82 : decode prog_3_method_5_code 82 = .ok (.goto (-77), 3) := by decide +kernel
theorem d_1_matches_85 : decode prog_3_method_5_code 85 = .ok (.iconst 1, 1) := by decide +kernel
theorem d_1_matches_86 : decode prog_3_method_5_code 86 = .ok (.ireturn, 1) := by decide +kernel
theorem d_1_isAs_0 : decode prog_3_method_4_code 0 = .ok (.iload_n 1, 1) := by decide +kernel
theorem d_1_isAs_1 : decode prog_3_method_4_code 1 = .ok (.ifCond .lt 9, 3) := by decide +kernel
theorem d_1_isAs_4 : decode prog_3_method_4_code 4 = .ok (.iload_n 1, 1) := by decide +kernel
theorem d_1_isAs_5 : decode prog_3_method_4_code 5 = .ok (.bipush 6, 2) := by decide +kernel
theorem d_1_isAs_7 : decode prog_3_method_4_code 7 = .ok (.if_icmp .lt 5, 3) := by decide +kernel
theorem d_1_isAs_10 : decode prog_3_method_4_code 10 = .ok (.iconst 0, 1) := by decide +kernel
theorem d_1_isAs_11 : decode prog_3_method_4_code 11 = .ok (.ireturn, 1) := by decide +kernel
theorem d_1_isAs_12 : decode prog_3_method_4_code 12 = .ok (.aload_n 0, 1) := by decide +kernel
theorem d_1_isAs_13 : decode prog_3_method_4_code 13 = .ok (.getfield 9, 3) := by decide +kernel
theorem d_1_isAs_16 : decode prog_3_method_4_code 16 = .ok (.iload_n 1, 1) := by decide +kernel
theorem d_1_isAs_17 : decode prog_3_method_4_code 17 = .ok (.iaload, 1) := by decide +kernel
theorem d_1_isAs_18 : decode prog_3_method_4_code 18 = .ok (.ifCond .eq 9, 3) := by decide +kernel
theorem d_1_isAs_21 : decode prog_3_method_4_code 21 = .ok (.iload_n 2, 1) := by decide +kernel
theorem d_1_isAs_22 : decode prog_3_method_4_code 22 = .ok (.ldc 32, 2) := by decide +kernel
theorem d_1_isAs_24 : decode prog_3_method_4_code 24 = .ok (.if_icmp .ne 24, 3) := by decide +kernel
theorem d_1_isAs_27 : decode prog_3_method_4_code 27 = .ok (.aload_n 0, 1) := by decide +kernel
theorem d_1_isAs_28 : decode prog_3_method_4_code 28 = .ok (.getfield 9, 3) := by decide +kernel
theorem d_1_isAs_31 : decode prog_3_method_4_code 31 = .ok (.iload_n 1, 1) := by decide +kernel
theorem d_1_isAs_32 : decode prog_3_method_4_code 32 = .ok (.iaload, 1) := by decide +kernel
theorem d_1_isAs_33 : decode prog_3_method_4_code 33 = .ok (.ifCond .ne 13, 3) := by decide +kernel
theorem d_1_isAs_36 : decode prog_3_method_4_code 36 = .ok (.iload_n 2, 1) := by decide +kernel
theorem d_1_isAs_37 : decode prog_3_method_4_code 37 = .ok (.ldc 32, 2) := by decide +kernel
theorem d_1_isAs_39 : decode prog_3_method_4_code 39 = .ok (.if_icmp .ne 7, 3) := by decide +kernel
theorem d_1_isAs_42 : decode prog_3_method_4_code 42 = .ok (.iconst 1, 1) := by decide +kernel
theorem d_1_isAs_43 : decode prog_3_method_4_code 43 = .ok (.goto 4, 3) := by decide +kernel
theorem d_1_isAs_46 : decode prog_3_method_4_code 46 = .ok (.iconst 0, 1) := by decide +kernel
theorem d_1_isAs_47 : decode prog_3_method_4_code 47 = .ok (.ireturn, 1) := by decide +kernel
theorem d_1_isAs_48 : decode prog_3_method_4_code 48 = .ok (.aload_n 0, 1) := by decide +kernel
theorem d_1_isAs_49 : decode prog_3_method_4_code 49 = .ok (.getfield 9, 3) := by decide +kernel
theorem d_1_isAs_52 : decode prog_3_method_4_code 52 = .ok (.iload_n 1, 1) := by decide +kernel
theorem d_1_isAs_53 : decode prog_3_method_4_code 53 = .ok (.iaload, 1) := by decide +kernel
theorem d_1_isAs_54 : decode prog_3_method_4_code 54 = .ok (.iconst 1, 1) := by decide +kernel
theorem d_1_isAs_55 : decode prog_3_method_4_code 55 = .ok (.if_icmp .ne 29, 3) := by decide +kernel
theorem d_1_isAs_58 : decode prog_3_method_4_code 58 = .ok (.iload_n 2, 1) := by decide +kernel
theorem d_1_isAs_59 : decode prog_3_method_4_code 59 = .ok (.aload_n 0, 1) := by decide +kernel
theorem d_1_isAs_60 : decode prog_3_method_4_code 60 = .ok (.getfield 15, 3) := by decide +kernel
theorem d_1_isAs_63 : decode prog_3_method_4_code 63 = .ok (.iload_n 1, 1) := by decide +kernel
theorem d_1_isAs_64 : decode prog_3_method_4_code 64 = .ok (.iaload, 1) := by decide +kernel
theorem d_1_isAs_65 : decode prog_3_method_4_code 65 = .ok (.if_icmp .lt 17, 3) := by decide +kernel
theorem d_1_isAs_68 : decode prog_3_method_4_code 68 = .ok (.iload_n 2, 1) := by decide +kernel
theorem d_1_isAs_69 : decode prog_3_method_4_code 69 = .ok (.aload_n 0, 1) := by decide +kernel
theorem d_1_isAs_70 : decode prog_3_method_4_code 70 = .ok (.getfield 18, 3) := by decide +kernel
theorem d_1_isAs_73 : decode prog_3_method_4_code 73 = .ok (.iload_n 1, 1) := by decide +kernel
theorem d_1_isAs_74 : decode prog_3_method_4_code 74 = .ok (.iaload, 1) := by decide +kernel
theorem d_1_isAs_75 : decode prog_3_method_4_code 75 = .ok (.if_icmp .gt 7, 3) := by decide +kernel
theorem d_1_isAs_78 : decode prog_3_method_4_code 78 = .ok (.iconst 1, 1) := by decide +kernel
theorem d_1_isAs_79 : decode prog_3_method_4_code 79 = .ok (.goto 4, 3) := by decide +kernel
theorem d_1_isAs_82 : decode prog_3_method_4_code 82 = .ok (.iconst 0, 1) := by decide +kernel
theorem d_1_isAs_83 : decode prog_3_method_4_code 83 = .ok (.ireturn, 1) := by decide +kernel
theorem d_1_isAs_84 : decode prog_3_method_4_code 84 = .ok (.aload_n 0, 1) := by decide +kernel
theorem d_1_isAs_85 : decode prog_3_method_4_code 85 = .ok (.getfield 15, 3) := by decide +kernel
theorem d_1_isAs_88 : decode prog_3_method_4_code 88 = .ok (.iload_n 1, 1) := by decide +kernel
theorem d_1_isAs_89 : decode prog_3_method_4_code 89 = .ok (.iaload, 1) := by decide +kernel
theorem d_1_isAs_90 : decode prog_3_method_4_code 90 = .ok (.aload_n 0, 1) := by decide +kernel
theorem d_1_isAs_91 : decode prog_3_method_4_code 91 = .ok (.getfield 18, 3) := by decide +kernel
theorem d_1_isAs_94 : decode prog_3_method_4_code 94 = .ok (.iload_n 1, 1) := by decide +kernel
theorem d_1_isAs_95 : decode prog_3_method_4_code 95 = .ok (.iaload, 1) := by decide +kernel
theorem d_1_isAs_96 : decode prog_3_method_4_code 96 = .ok (.iconst 1, 1) := by decide +kernel
theorem d_1_isAs_97 : decode prog_3_method_4_code 97 = .ok (.if_icmp .ne 7, 3) := by decide +kernel
theorem d_1_isAs_100 : decode prog_3_method_4_code 100 = .ok (.iconst 1, 1) := by decide +kernel
theorem d_1_isAs_101 : decode prog_3_method_4_code 101 = .ok (.goto 4, 3) := by decide +kernel
theorem d_1_isAs_104 : decode prog_3_method_4_code 104 = .ok (.iconst 0, 1) := by decide +kernel
theorem d_1_isAs_105 : decode prog_3_method_4_code 105 = .ok (.iload_n 2, 1) := by decide +kernel
theorem d_1_isAs_106 : decode prog_3_method_4_code 106 = .ok (.invokestatic 33, 3) := by decide +kernel
theorem d_1_isAs_109 : decode prog_3_method_4_code 109 = .ok (.ireturn, 1) := by decide +kernel
theorem d_1_accepts_0 : decode prog_3_method_3_code 0 = .ok (.iconst 0, 1) := by decide +kernel
theorem d_1_accepts_1 : decode prog_3_method_3_code 1 = .ok (.istore_n 2, 1) := by decide +kernel
theorem d_1_accepts_2 : decode prog_3_method_3_code 2 = .ok (.iload_n 2, 1) := by decide +kernel
theorem d_1_accepts_3 : decode prog_3_method_3_code 3 = .ok (.aload_n 0, 1) := by decide +kernel
theorem d_1_accepts_4 : decode prog_3_method_3_code 4 = .ok (.getfield 24, 3) := by decide +kernel
theorem d_1_accepts_7 : decode prog_3_method_3_code 7 = .ok (.if_icmp .ge 45, 3) := by decide +kernel
theorem d_1_accepts_10 : decode prog_3_method_3_code 10 = .ok (.iload_n 2, 1) := by decide +kernel
theorem d_1_accepts_11 : decode prog_3_method_3_code 11 = .ok (.bipush 6, 2) := by decide +kernel
theorem d_1_accepts_13 : decode prog_3_method_3_code 13 = .ok (.if_icmp .ge 39, 3) := by decide +kernel
theorem d_1_accepts_16 : decode prog_3_method_3_code 16 = .ok (.aload_n 0, 1) := by decide +kernel
theorem d_1_accepts_17 : decode prog_3_method_3_code 17 = .ok (.getfield 21, 3) := by decide +kernel
theorem d_1_accepts_20 : decode prog_3_method_3_code 20 = .ok (.iload_n 2, 1) := by decide +kernel
theorem d_1_accepts_21 : decode prog_3_method_3_code 21 = .ok (.iaload, 1) := by decide +kernel
theorem d_1_accepts_22 : decode prog_3_method_3_code 22 = .ok (.iconst 2, 1) := by decide +kernel
theorem d_1_accepts_23 : decode prog_3_method_3_code 23 = .ok (.irem, 1) := by decide +kernel
theorem d_1_accepts_24 : decode prog_3_method_3_code 24 = .ok (.iconst 1, 1) := by decide +kernel
theorem d_1_accepts_25 : decode prog_3_method_3_code 25 = .ok (.if_icmp .ne 7, 3) := by decide +kernel
theorem d_1_accepts_28 : decode prog_3_method_3_code 28 = .ok (.iconst 1, 1) := by decide +kernel
theorem d_1_accepts_29 : decode prog_3_method_3_code 29 = .ok (.goto 4, 3) := by decide +kernel
theorem d_1_accepts_32 : decode prog_3_method_3_code 32 = .ok (.iconst 0, 1) := by decide +kernel
theorem d_1_accepts_33 : decode prog_3_method_3_code 33 = .ok (.istore_n 3, 1) := by decide +kernel
theorem d_1_accepts_34 : decode prog_3_method_3_code 34 = .ok (.aload_n 0, 1) := by decide +kernel
theorem d_1_accepts_35 : decode prog_3_method_3_code 35 = .ok (.iload_n 2, 1) := by decide +kernel
theorem d_1_accepts_36 : decode prog_3_method_3_code 36 = .ok (.iload_n 1, 1) := by decide +kernel
theorem d_1_accepts_37 : decode prog_3_method_3_code 37 = .ok (.invokevirtual 28, 3) := by decide +kernel
theorem d_1_accepts_40 : decode prog_3_method_3_code 40 = .ok (.iload_n 3, 1) := by decide +kernel
theorem d_1_accepts_41 : decode prog_3_method_3_code 41 = .ok (.if_icmp .eq 5, 3) := by decide +kernel
theorem d_1_accepts_44 : decode prog_3_method_3_code 44 = .ok (.iconst 1, 1) := by decide +kernel
theorem d_1_accepts_45 : decode prog_3_method_3_code 45 = .ok (.ireturn, 1) := by decide +kernel
theorem d_1_accepts_46 : decode prog_3_method_3_code 46 = .ok (.iinc 2 1, 3) := by decide +kernel
theorem d_1_accepts_49 : decode prog_3_method_3_code 49 = .ok (.goto (-47), 3) := by decide +kernel
theorem d_1_accepts_52 : decode prog_3_method_3_code 52 = .ok (.aload_n 0, 1) := by decide +kernel
theorem d_1_accepts_53 : decode prog_3_method_3_code 53 = .ok (.getfield 24, 3) := by decide +kernel
theorem d_1_accepts_56 : decode prog_3_method_3_code 56 = .ok (.ifCond .ne 7, 3) := by decide +kernel
theorem d_1_accepts_59 : decode prog_3_method_3_code 59 = .ok (.iconst 1, 1) := by decide +kernel
theorem d_1_accepts_60 : decode prog_3_method_3_code 60 = .ok (.goto 4, 3) := by decide +kernel
theorem d_1_accepts_63 : decode prog_3_method_3_code 63 = .ok (.iconst 0, 1) := by decide +kernel
theorem d_1_accepts_64 : decode prog_3_method_3_code 64 = .ok (.ireturn, 1) := by decide +kernel
theorem d_2_firstUnlike_0 : decode prog_4_method_9_code 0 = .ok (.iconst 0, 1) := by decide +kernel
theorem d_2_firstUnlike_1 : decode prog_4_method_9_code 1 = .ok (.istore_n 3, 1) := by decide +kernel
theorem d_2_firstUnlike_2 : decode prog_4_method_9_code 2 = .ok (.iload_n 3, 1) := by decide +kernel
theorem d_2_firstUnlike_3 : decode prog_4_method_9_code 3 = .ok (.iconst 5, 1) := by decide +kernel
theorem d_2_firstUnlike_4 : decode prog_4_method_9_code 4 = .ok (.if_icmp .ge 29, 3) := by decide +kernel
theorem d_2_firstUnlike_7 : decode prog_4_method_9_code 7 = .ok (.aload_n 0, 1) := by decide +kernel
theorem d_2_firstUnlike_8 : decode prog_4_method_9_code 8 = .ok (.getfield 11, 3) := by decide +kernel
theorem d_2_firstUnlike_11 : decode prog_4_method_9_code 11 = .ok (.iload_n 3, 1) := by decide +kernel
theorem d_2_firstUnlike_12 : decode prog_4_method_9_code 12 = .ok (.aaload, 1) := by decide +kernel
theorem d_2_firstUnlike_13 : decode prog_4_method_9_code 13 = .ok (.aload_n 1, 1) := by decide +kernel
theorem d_2_firstUnlike_14 : decode prog_4_method_9_code 14 = .ok (.iload_n 2, 1) := by decide +kernel
theorem d_2_firstUnlike_15 : decode prog_4_method_9_code 15 = .ok (.iload_n 3, 1) := by decide +kernel
theorem d_2_firstUnlike_16 : decode prog_4_method_9_code 16 = .ok (.invokevirtual 36, 3) := by decide +kernel
theorem d_2_firstUnlike_19 : decode prog_4_method_9_code 19 = .ok (.invokevirtual 42, 3) := by decide +kernel
theorem d_2_firstUnlike_22 : decode prog_4_method_9_code 22 = .ok (.ifCond .ne 5, 3) := by decide +kernel
theorem d_2_firstUnlike_25 : decode prog_4_method_9_code 25 = .ok (.iload_n 3, 1) := by decide +kernel
theorem d_2_firstUnlike_26 : decode prog_4_method_9_code 26 = .ok (.ireturn, 1) := by decide +kernel
theorem d_2_firstUnlike_27 : decode prog_4_method_9_code 27 = .ok (.iinc 3 1, 3) := by decide +kernel
theorem d_2_firstUnlike_30 : decode prog_4_method_9_code 30 = .ok (.goto (-28), 3) := by decide +kernel
theorem d_2_firstUnlike_33 : decode prog_4_method_9_code 33 = .ok (.iconst (-1), 1) := by decide +kernel
theorem d_2_firstUnlike_34 : decode prog_4_method_9_code 34 = .ok (.ireturn, 1) := by decide +kernel
theorem d_2_suits_0 : decode prog_4_method_10_code 0 = .ok (.aload_n 0, 1) := by decide +kernel
theorem d_2_suits_1 : decode prog_4_method_10_code 1 = .ok (.aload_n 1, 1) := by decide +kernel
theorem d_2_suits_2 : decode prog_4_method_10_code 2 = .ok (.iload_n 2, 1) := by decide +kernel
theorem d_2_suits_3 : decode prog_4_method_10_code 3 = .ok (.invokevirtual 46, 3) := by decide +kernel
theorem d_2_suits_6 : decode prog_4_method_10_code 6 = .ok (.iconst (-1), 1) := by decide +kernel
theorem d_2_suits_7 : decode prog_4_method_10_code 7 = .ok (.if_icmp .ne 7, 3) := by decide +kernel
theorem d_2_suits_10 : decode prog_4_method_10_code 10 = .ok (.iconst 1, 1) := by decide +kernel
theorem d_2_suits_11 : decode prog_4_method_10_code 11 = .ok (.goto 4, 3) := by decide +kernel
theorem d_2_suits_14 : decode prog_4_method_10_code 14 = .ok (.iconst 0, 1) := by decide +kernel
theorem d_2_suits_15 : decode prog_4_method_10_code 15 = .ok (.ireturn, 1) := by decide +kernel
theorem d_8_joinOthers_0 : decode prog_10_method_3_code 0 = .ok (.iconst 0, 1) := by decide +kernel
theorem d_8_joinOthers_1 : decode prog_10_method_3_code 1 = .ok (.istore_n 3, 1) := by decide +kernel
theorem d_8_joinOthers_2 : decode prog_10_method_3_code 2 = .ok (.iload_n 3, 1) := by decide +kernel
theorem d_8_joinOthers_3 : decode prog_10_method_3_code 3 = .ok (.iconst 4, 1) := by decide +kernel
theorem d_8_joinOthers_4 : decode prog_10_method_3_code 4 = .ok (.if_icmp .ge 47, 3) := by decide +kernel
theorem d_8_joinOthers_7 : decode prog_10_method_3_code 7 = .ok (.iload_n 3, 1) := by decide +kernel
theorem d_8_joinOthers_8 : decode prog_10_method_3_code 8 = .ok (.iload_n 2, 1) := by decide +kernel
theorem d_8_joinOthers_9 : decode prog_10_method_3_code 9 = .ok (.if_icmp .eq 36, 3) := by decide +kernel
theorem d_8_joinOthers_12 : decode prog_10_method_3_code 12 = .ok (.aload_n 0, 1) := by decide +kernel
theorem d_8_joinOthers_13 : decode prog_10_method_3_code 13 = .ok (.getfield 20, 3) := by decide +kernel
theorem d_8_joinOthers_16 : decode prog_10_method_3_code 16 = .ok (.iload_n 3, 1) := by decide +kernel
theorem d_8_joinOthers_17 : decode prog_10_method_3_code 17 = .ok (.aaload, 1) := by decide +kernel
theorem d_8_joinOthers_18 : decode prog_10_method_3_code 18 = .ok (.getfield 93, 3) := by decide +kernel
theorem d_8_joinOthers_21 : decode prog_10_method_3_code 21 = .ok (.aload_n 0, 1) := by decide +kernel
theorem d_8_joinOthers_22 : decode prog_10_method_3_code 22 = .ok (.getfield 12, 3) := by decide +kernel
theorem d_8_joinOthers_25 : decode prog_10_method_3_code 25 = .ok (.iload_n 1, 1) := by decide +kernel
theorem d_8_joinOthers_26 : decode prog_10_method_3_code 26 = .ok (.invokevirtual 97, 3) := by decide +kernel
theorem d_8_joinOthers_29 : decode prog_10_method_3_code 29 = .ok (.ifCond .eq 16, 3) := by decide +kernel
theorem d_8_joinOthers_32 : decode prog_10_method_3_code 32 = .ok (.aload_n 0, 1) := by decide +kernel
theorem d_8_joinOthers_33 : decode prog_10_method_3_code 33 = .ok (.getfield 20, 3) := by decide +kernel
theorem d_8_joinOthers_36 : decode prog_10_method_3_code 36 = .ok (.iload_n 3, 1) := by decide +kernel
theorem d_8_joinOthers_37 : decode prog_10_method_3_code 37 = .ok (.aaload, 1) := by decide +kernel
theorem d_8_joinOthers_38 : decode prog_10_method_3_code 38 = .ok (.getfield 103, 3) := by decide +kernel
theorem d_8_joinOthers_41 : decode prog_10_method_3_code 41 = .ok (.iload_n 1, 1) := by decide +kernel
theorem d_8_joinOthers_42 : decode prog_10_method_3_code 42 = .ok (.invokevirtual 80, 3) := by decide +kernel
theorem d_8_joinOthers_45 : decode prog_10_method_3_code 45 = .ok (.iinc 3 1, 3) := by decide +kernel
theorem d_8_joinOthers_48 : decode prog_10_method_3_code 48 = .ok (.goto (-46), 3) := by decide +kernel
theorem d_8_joinOthers_51 : decode prog_10_method_3_code 51 = .ok (.return_, 1) := by decide +kernel
theorem d_8_takeSheetText_0 : decode prog_10_method_2_code 0 = .ok (.aload_n 0, 1) := by decide +kernel
theorem d_8_takeSheetText_1 : decode prog_10_method_2_code 1 = .ok (.getfield 12, 3) := by decide +kernel
theorem d_8_takeSheetText_4 : decode prog_10_method_2_code 4 = .ok (.aload_n 1, 1) := by decide +kernel
theorem d_8_takeSheetText_5 : decode prog_10_method_2_code 5 = .ok (.getfield 39, 3) := by decide +kernel
theorem d_8_takeSheetText_8 : decode prog_10_method_2_code 8 = .ok (.putfield 45, 3) := by decide +kernel
theorem d_8_takeSheetText_11 : decode prog_10_method_2_code 11 = .ok (.aload_n 1, 1) := by decide +kernel
theorem d_8_takeSheetText_12 : decode prog_10_method_2_code 12 = .ok (.getfield 46, 3) := by decide +kernel
theorem d_8_takeSheetText_15 : decode prog_10_method_2_code 15 = .ok (.iconst 0, 1) := by decide +kernel
theorem d_8_takeSheetText_16 : decode prog_10_method_2_code 16 = .ok (.aload_n 0, 1) := by decide +kernel
theorem d_8_takeSheetText_17 : decode prog_10_method_2_code 17 = .ok (.getfield 12, 3) := by decide +kernel
theorem d_8_takeSheetText_20 : decode prog_10_method_2_code 20 = .ok (.getfield 50, 3) := by decide +kernel
theorem d_8_takeSheetText_23 : decode prog_10_method_2_code 23 = .ok (.iconst 0, 1) := by decide +kernel
theorem d_8_takeSheetText_24 : decode prog_10_method_2_code 24 = .ok (.iconst 5, 1) := by decide +kernel
theorem d_8_takeSheetText_25 : decode prog_10_method_2_code 25 = .ok (.invokestatic 51, 3) := by decide +kernel
theorem d_8_takeSheetText_28 : decode prog_10_method_2_code 28 = .ok (.iconst 0, 1) := by decide +kernel
theorem d_8_takeSheetText_29 : decode prog_10_method_2_code 29 = .ok (.istore_n 2, 1) := by decide +kernel
theorem d_8_takeSheetText_30 : decode prog_10_method_2_code 30 = .ok (.iload_n 2, 1) := by decide +kernel
theorem d_8_takeSheetText_31 : decode prog_10_method_2_code 31 = .ok (.aload_n 1, 1) := by decide +kernel
theorem d_8_takeSheetText_32 : decode prog_10_method_2_code 32 = .ok (.getfield 57, 3) := by decide +kernel
theorem d_8_takeSheetText_35 : decode prog_10_method_2_code 35 = .ok (.if_icmp .ge 71, 3) := by decide +kernel
theorem d_8_takeSheetText_38 : decode prog_10_method_2_code 38 = .ok (.aload_n 0, 1) := by decide +kernel
theorem d_8_takeSheetText_39 : decode prog_10_method_2_code 39 = .ok (.getfield 12, 3) := by decide +kernel
theorem d_8_takeSheetText_42 : decode prog_10_method_2_code 42 = .ok (.invokevirtual 60, 3) := by decide +kernel
theorem d_8_takeSheetText_45 : decode prog_10_method_2_code 45 = .ok (.istore_n 3, 1) := by decide +kernel
theorem d_8_takeSheetText_46 : decode prog_10_method_2_code 46 = .ok (.iconst 0, 1) := by decide +kernel
theorem d_8_takeSheetText_47 : decode prog_10_method_2_code 47 = .ok (.istore 4, 2) := by decide +kernel
theorem d_8_takeSheetText_49 : decode prog_10_method_2_code 49 = .ok (.iload 4, 2) := by decide +kernel
theorem d_8_takeSheetText_51 : decode prog_10_method_2_code 51 = .ok (.aload_n 1, 1) := by decide +kernel
theorem d_8_takeSheetText_52 : decode prog_10_method_2_code 52 = .ok (.iload_n 2, 1) := by decide +kernel
theorem d_8_takeSheetText_53 : decode prog_10_method_2_code 53 = .ok (.invokevirtual 64, 3) := by decide +kernel
theorem d_8_takeSheetText_56 : decode prog_10_method_2_code 56 = .ok (.if_icmp .ge 27, 3) := by decide +kernel
theorem d_8_takeSheetText_59 : decode prog_10_method_2_code 59 = .ok (.aload_n 0, 1) := by decide +kernel
theorem d_8_takeSheetText_60 : decode prog_10_method_2_code 60 = .ok (.getfield 12, 3) := by decide +kernel
theorem d_8_takeSheetText_63 : decode prog_10_method_2_code 63 = .ok (.iload_n 3, 1) := by decide +kernel
theorem d_8_takeSheetText_64 : decode prog_10_method_2_code 64 = .ok (.iload 4, 2) := by decide +kernel
theorem d_8_takeSheetText_66 : decode prog_10_method_2_code 66 = .ok (.aload_n 1, 1) := by decide +kernel
theorem d_8_takeSheetText_67 : decode prog_10_method_2_code 67 = .ok (.iload_n 2, 1) := by decide +kernel
theorem d_8_takeSheetText_68 : decode prog_10_method_2_code 68 = .ok (.iload 4, 2) := by decide +kernel
theorem d_8_takeSheetText_70 : decode prog_10_method_2_code 70 = .ok (.invokevirtual 68, 3) := by decide +kernel
theorem d_8_takeSheetText_73 : decode prog_10_method_2_code 73 = .ok (.iconst (-1), 1) := by decide +kernel
theorem d_8_takeSheetText_74 : decode prog_10_method_2_code 74 = .ok (.invokevirtual 72, 3) := by decide +kernel
theorem d_8_takeSheetText_77 : decode prog_10_method_2_code 77 = .ok (.iinc 4 1, 3) := by decide +kernel
theorem d_8_takeSheetText_80 : decode prog_10_method_2_code 80 = .ok (.goto (-31), 3) := by decide +kernel
theorem d_8_takeSheetText_83 : decode prog_10_method_2_code 83 = .ok (.aload_n 0, 1) := by decide +kernel
theorem d_8_takeSheetText_84 : decode prog_10_method_2_code 84 = .ok (.getfield 12, 3) := by decide +kernel
theorem d_8_takeSheetText_87 : decode prog_10_method_2_code 87 = .ok (.getfield 76, 3) := by decide +kernel
theorem d_8_takeSheetText_90 : decode prog_10_method_2_code 90 = .ok (.iload_n 3, 1) := by decide +kernel
theorem d_8_takeSheetText_91 : decode prog_10_method_2_code 91 = .ok (.invokevirtual 80, 3) := by decide +kernel
theorem d_8_takeSheetText_94 : decode prog_10_method_2_code 94 = .ok (.aload_n 0, 1) := by decide +kernel
theorem d_8_takeSheetText_95 : decode prog_10_method_2_code 95 = .ok (.iload_n 3, 1) := by decide +kernel
theorem d_8_takeSheetText_96 : decode prog_10_method_2_code 96 = .ok (.iconst (-1), 1) := by decide +kernel
theorem d_8_takeSheetText_97 : decode prog_10_method_2_code 97 = .ok (.invokevirtual 86, 3) := by decide +kernel
theorem d_8_takeSheetText_100 : decode prog_10_method_2_code 100 = .ok (.iinc 2 1, 3) := by decide +kernel
theorem d_8_takeSheetText_103 : decode prog_10_method_2_code 103 = .ok (.goto (-73), 3) := by decide +kernel
theorem d_8_takeSheetText_106 : decode prog_10_method_2_code 106 = .ok (.aload_n 0, 1) := by decide +kernel
theorem d_8_takeSheetText_107 : decode prog_10_method_2_code 107 = .ok (.getfield 12, 3) := by decide +kernel
theorem d_8_takeSheetText_110 : decode prog_10_method_2_code 110 = .ok (.dup, 1) := by decide +kernel
theorem d_8_takeSheetText_111 : decode prog_10_method_2_code 111 = .ok (.getfield 90, 3) := by decide +kernel
theorem d_8_takeSheetText_114 : decode prog_10_method_2_code 114 = .ok (.iconst 1, 1) := by decide +kernel
theorem d_8_takeSheetText_115 : decode prog_10_method_2_code 115 = .ok (.iadd, 1) := by decide +kernel
theorem d_8_takeSheetText_116 : decode prog_10_method_2_code 116 = .ok (.putfield 90, 3) := by decide +kernel
theorem d_8_takeSheetText_119 : decode prog_10_method_2_code 119 = .ok (.return_, 1) := by decide +kernel
theorem d_11_sheet_0 : decode prog_1_method_4_code 0 = .ok (.aload_n 0, 1) := by decide +kernel
theorem d_11_sheet_1 : decode prog_1_method_4_code 1 = .ok (.getfield 10, 3) := by decide +kernel
theorem d_11_sheet_4 : decode prog_1_method_4_code 4 = .ok (.invokevirtual 45, 3) := by decide +kernel
theorem d_11_sheet_7 : decode prog_1_method_4_code 7 = .ok (.aload_n 0, 1) := by decide +kernel
theorem d_11_sheet_8 : decode prog_1_method_4_code 8 = .ok (.getfield 19, 3) := by decide +kernel
theorem d_11_sheet_11 : decode prog_1_method_4_code 11 = .ok (.aload_n 0, 1) := by decide +kernel
theorem d_11_sheet_12 : decode prog_1_method_4_code 12 = .ok (.getfield 10, 3) := by decide +kernel
theorem d_11_sheet_15 : decode prog_1_method_4_code 15 = .ok (.aload_n 0, 1) := by decide +kernel
theorem d_11_sheet_16 : decode prog_1_method_4_code 16 = .ok (.getfield 26, 3) := by decide +kernel
theorem d_11_sheet_19 : decode prog_1_method_4_code 19 = .ok (.getfield 48, 3) := by decide +kernel
theorem d_11_sheet_22 : decode prog_1_method_4_code 22 = .ok (.invokevirtual 52, 3) := by decide +kernel
theorem d_11_sheet_25 : decode prog_1_method_4_code 25 = .ok (.ifCond .ne 11, 3) := by decide +kernel
theorem d_11_sheet_28 : decode prog_1_method_4_code 28 = .ok (.new 56, 3) := by decide +kernel
theorem d_11_sheet_31 : decode prog_1_method_4_code 31 = .ok (.dup, 1) := by decide +kernel
theorem d_11_sheet_32 : decode prog_1_method_4_code 32 = .ok (.invokespecial 58, 3) := by decide +kernel
theorem d_11_sheet_35 : decode prog_1_method_4_code 35 = .ok (.athrow, 1) := by decide +kernel
theorem d_11_sheet_36 : decode prog_1_method_4_code 36 = .ok (.aload_n 0, 1) := by decide +kernel
theorem d_11_sheet_37 : decode prog_1_method_4_code 37 = .ok (.getfield 26, 3) := by decide +kernel
theorem d_11_sheet_40 : decode prog_1_method_4_code 40 = .ok (.getfield 48, 3) := by decide +kernel
theorem d_11_sheet_43 : decode prog_1_method_4_code 43 = .ok (.getfield 59, 3) := by decide +kernel
theorem d_11_sheet_46 : decode prog_1_method_4_code 46 = .ok (.bipush 12, 2) := by decide +kernel
theorem d_11_sheet_48 : decode prog_1_method_4_code 48 = .ok (.if_icmp .lt 11, 3) := by decide +kernel
theorem d_11_sheet_51 : decode prog_1_method_4_code 51 = .ok (.new 63, 3) := by decide +kernel
theorem d_11_sheet_54 : decode prog_1_method_4_code 54 = .ok (.dup, 1) := by decide +kernel
theorem d_11_sheet_55 : decode prog_1_method_4_code 55 = .ok (.invokespecial 65, 3) := by decide +kernel
theorem d_11_sheet_58 : decode prog_1_method_4_code 58 = .ok (.athrow, 1) := by decide +kernel
theorem d_11_sheet_59 : decode prog_1_method_4_code 59 = .ok (.aload_n 0, 1) := by decide +kernel
theorem d_11_sheet_60 : decode prog_1_method_4_code 60 = .ok (.getfield 26, 3) := by decide +kernel
theorem d_11_sheet_63 : decode prog_1_method_4_code 63 = .ok (.aload_n 0, 1) := by decide +kernel
theorem d_11_sheet_64 : decode prog_1_method_4_code 64 = .ok (.getfield 19, 3) := by decide +kernel
theorem d_11_sheet_67 : decode prog_1_method_4_code 67 = .ok (.invokevirtual 66, 3) := by decide +kernel
theorem d_11_sheet_70 : decode prog_1_method_4_code 70 = .ok (.aload_n 0, 1) := by decide +kernel
theorem d_11_sheet_71 : decode prog_1_method_4_code 71 = .ok (.getfield 26, 3) := by decide +kernel
theorem d_11_sheet_74 : decode prog_1_method_4_code 74 = .ok (.getfield 48, 3) := by decide +kernel
theorem d_11_sheet_77 : decode prog_1_method_4_code 77 = .ok (.getfield 59, 3) := by decide +kernel
theorem d_11_sheet_80 : decode prog_1_method_4_code 80 = .ok (.ireturn, 1) := by decide +kernel
theorem d_11_viewNumbered_0 : decode prog_1_method_47_code 0 = .ok (.iload_n 1, 1) := by decide +kernel
theorem d_11_viewNumbered_1 : decode prog_1_method_47_code 1 = .ok (.ifCond .lt 8, 3) := by decide +kernel
theorem d_11_viewNumbered_4 : decode prog_1_method_47_code 4 = .ok (.iload_n 1, 1) := by decide +kernel
theorem d_11_viewNumbered_5 : decode prog_1_method_47_code 5 = .ok (.iconst 4, 1) := by decide +kernel
theorem d_11_viewNumbered_6 : decode prog_1_method_47_code 6 = .ok (.if_icmp .lt 11, 3) := by decide +kernel
theorem d_11_viewNumbered_9 : decode prog_1_method_47_code 9 = .ok (.new 345, 3) := by decide +kernel
theorem d_11_viewNumbered_12 : decode prog_1_method_47_code 12 = .ok (.dup, 1) := by decide +kernel
theorem d_11_viewNumbered_13 : decode prog_1_method_47_code 13 = .ok (.invokespecial 347, 3) := by decide +kernel
theorem d_11_viewNumbered_16 : decode prog_1_method_47_code 16 = .ok (.athrow, 1) := by decide +kernel
theorem d_11_viewNumbered_17 : decode prog_1_method_47_code 17 = .ok (.aload_n 0, 1) := by decide +kernel
theorem d_11_viewNumbered_18 : decode prog_1_method_47_code 18 = .ok (.getfield 26, 3) := by decide +kernel
theorem d_11_viewNumbered_21 : decode prog_1_method_47_code 21 = .ok (.getfield 348, 3) := by decide +kernel
theorem d_11_viewNumbered_24 : decode prog_1_method_47_code 24 = .ok (.iload_n 1, 1) := by decide +kernel
theorem d_11_viewNumbered_25 : decode prog_1_method_47_code 25 = .ok (.aaload, 1) := by decide +kernel
theorem d_11_viewNumbered_26 : decode prog_1_method_47_code 26 = .ok (.areturn, 1) := by decide +kernel
theorem d_2_forget_0 : decode prog_4_method_2_code 0 = .ok (.iconst 0, 1) := by decide +kernel
theorem d_2_forget_1 : decode prog_4_method_2_code 1 = .ok (.istore_n 1, 1) := by decide +kernel
theorem d_2_forget_2 : decode prog_4_method_2_code 2 = .ok (.iload_n 1, 1) := by decide +kernel
theorem d_2_forget_3 : decode prog_4_method_2_code 3 = .ok (.iconst 5, 1) := by decide +kernel
theorem d_2_forget_4 : decode prog_4_method_2_code 4 = .ok (.if_icmp .ge 19, 3) := by decide +kernel
theorem d_2_forget_7 : decode prog_4_method_2_code 7 = .ok (.aload_n 0, 1) := by decide +kernel
theorem d_2_forget_8 : decode prog_4_method_2_code 8 = .ok (.getfield 11, 3) := by decide +kernel
theorem d_2_forget_11 : decode prog_4_method_2_code 11 = .ok (.iload_n 1, 1) := by decide +kernel
theorem d_2_forget_12 : decode prog_4_method_2_code 12 = .ok (.aaload, 1) := by decide +kernel
theorem d_2_forget_13 : decode prog_4_method_2_code 13 = .ok (.iconst 0, 1) := by decide +kernel
theorem d_2_forget_14 : decode prog_4_method_2_code 14 = .ok (.putfield 22, 3) := by decide +kernel
theorem d_2_forget_17 : decode prog_4_method_2_code 17 = .ok (.iinc 1 1, 3) := by decide +kernel
theorem d_2_forget_20 : decode prog_4_method_2_code 20 = .ok (.goto (-18), 3) := by decide +kernel
theorem d_2_forget_23 : decode prog_4_method_2_code 23 = .ok (.aload_n 0, 1) := by decide +kernel
theorem d_2_forget_24 : decode prog_4_method_2_code 24 = .ok (.iconst 0, 1) := by decide +kernel
theorem d_2_forget_25 : decode prog_4_method_2_code 25 = .ok (.putfield 26, 3) := by decide +kernel
theorem d_2_forget_28 : decode prog_4_method_2_code 28 = .ok (.aload_n 0, 1) := by decide +kernel
theorem d_2_forget_29 : decode prog_4_method_2_code 29 = .ok (.iconst 0, 1) := by decide +kernel
theorem d_2_forget_30 : decode prog_4_method_2_code 30 = .ok (.putfield 29, 3) := by decide +kernel
theorem d_2_forget_33 : decode prog_4_method_2_code 33 = .ok (.return_, 1) := by decide +kernel
theorem d_9_readColumn_0 : decode prog_11_method_14_code 0 = .ok (.aload_n 1, 1) := by decide +kernel
theorem d_9_readColumn_1 : decode prog_11_method_14_code 1 = .ok (.iconst 0, 1) := by decide +kernel
theorem d_9_readColumn_2 : decode prog_11_method_14_code 2 = .ok (.invokevirtual 144, 3) := by decide +kernel
theorem d_9_readColumn_5 : decode prog_11_method_14_code 5 = .ok (.ifCond .ne 5, 3) := by decide +kernel
theorem d_9_readColumn_8 : decode prog_11_method_14_code 8 = .ok (.iconst 0, 1) := by decide +kernel
theorem d_9_readColumn_9 : decode prog_11_method_14_code 9 = .ok (.ireturn, 1) := by decide +kernel
theorem d_9_readColumn_10 : decode prog_11_method_14_code 10 = .ok (.aload_n 1, 1) := by decide +kernel
theorem d_9_readColumn_11 : decode prog_11_method_14_code 11 = .ok (.getfield 112, 3) := by decide +kernel
theorem d_9_readColumn_14 : decode prog_11_method_14_code 14 = .ok (.aload_n 0, 1) := by decide +kernel
theorem d_9_readColumn_15 : decode prog_11_method_14_code 15 = .ok (.getfield 42, 3) := by decide +kernel
theorem d_9_readColumn_18 : decode prog_11_method_14_code 18 = .ok (.if_icmp .lt 14, 3) := by decide +kernel
theorem d_9_readColumn_21 : decode prog_11_method_14_code 21 = .ok (.aload_n 1, 1) := by decide +kernel
theorem d_9_readColumn_22 : decode prog_11_method_14_code 22 = .ok (.aload_n 1, 1) := by decide +kernel
theorem d_9_readColumn_23 : decode prog_11_method_14_code 23 = .ok (.getfield 148, 3) := by decide +kernel
theorem d_9_readColumn_26 : decode prog_11_method_14_code 26 = .ok (.invokevirtual 90, 3) := by decide +kernel
theorem d_9_readColumn_29 : decode prog_11_method_14_code 29 = .ok (.ifCond .eq 7, 3) := by decide +kernel
theorem d_9_readColumn_32 : decode prog_11_method_14_code 32 = .ok (.iconst 1, 1) := by decide +kernel
theorem d_9_readColumn_33 : decode prog_11_method_14_code 33 = .ok (.goto 4, 3) := by decide +kernel
theorem d_9_readColumn_36 : decode prog_11_method_14_code 36 = .ok (.iconst 0, 1) := by decide +kernel
theorem d_9_readColumn_37 : decode prog_11_method_14_code 37 = .ok (.ireturn, 1) := by decide +kernel
theorem d_2_filterOf_0 : decode prog_4_method_3_code 0 = .ok (.iload_n 1, 1) := by decide +kernel
theorem d_2_filterOf_1 : decode prog_4_method_3_code 1 = .ok (.ifCond .lt 17, 3) := by decide +kernel
theorem d_2_filterOf_4 : decode prog_4_method_3_code 4 = .ok (.iload_n 1, 1) := by decide +kernel
theorem d_2_filterOf_5 : decode prog_4_method_3_code 5 = .ok (.iconst 5, 1) := by decide +kernel
theorem d_2_filterOf_6 : decode prog_4_method_3_code 6 = .ok (.if_icmp .ge 12, 3) := by decide +kernel
theorem d_2_filterOf_9 : decode prog_4_method_3_code 9 = .ok (.aload_n 0, 1) := by decide +kernel
theorem d_2_filterOf_10 : decode prog_4_method_3_code 10 = .ok (.getfield 11, 3) := by decide +kernel
theorem d_2_filterOf_13 : decode prog_4_method_3_code 13 = .ok (.iload_n 1, 1) := by decide +kernel
theorem d_2_filterOf_14 : decode prog_4_method_3_code 14 = .ok (.aaload, 1) := by decide +kernel
theorem d_2_filterOf_15 : decode prog_4_method_3_code 15 = .ok (.goto 4, 3) := by decide +kernel
theorem d_2_filterOf_18 : decode prog_4_method_3_code 18 = .ok (.aconst_null, 1) := by decide +kernel
theorem d_2_filterOf_19 : decode prog_4_method_3_code 19 = .ok (.areturn, 1) := by decide +kernel
theorem d_1_takeTest_0 : decode prog_3_method_2_code 0 = .ok (.aload_n 0, 1) := by decide +kernel
theorem d_1_takeTest_1 : decode prog_3_method_2_code 1 = .ok (.getfield 24, 3) := by decide +kernel
theorem d_1_takeTest_4 : decode prog_3_method_2_code 4 = .ok (.bipush 6, 2) := by decide +kernel
theorem d_1_takeTest_6 : decode prog_3_method_2_code 6 = .ok (.if_icmp .ge 54, 3) := by decide +kernel
theorem d_1_takeTest_9 : decode prog_3_method_2_code 9 = .ok (.aload_n 0, 1) := by decide +kernel
theorem d_1_takeTest_10 : decode prog_3_method_2_code 10 = .ok (.getfield 9, 3) := by decide +kernel
theorem d_1_takeTest_13 : decode prog_3_method_2_code 13 = .ok (.aload_n 0, 1) := by decide +kernel
theorem d_1_takeTest_14 : decode prog_3_method_2_code 14 = .ok (.getfield 24, 3) := by decide +kernel
theorem d_1_takeTest_17 : decode prog_3_method_2_code 17 = .ok (.iload_n 1, 1) := by decide +kernel
theorem d_1_takeTest_18 : decode prog_3_method_2_code 18 = .ok (.iastore, 1) := by decide +kernel
theorem d_1_takeTest_19 : decode prog_3_method_2_code 19 = .ok (.aload_n 0, 1) := by decide +kernel
theorem d_1_takeTest_20 : decode prog_3_method_2_code 20 = .ok (.getfield 15, 3) := by decide +kernel
theorem d_1_takeTest_23 : decode prog_3_method_2_code 23 = .ok (.aload_n 0, 1) := by decide +kernel
theorem d_1_takeTest_24 : decode prog_3_method_2_code 24 = .ok (.getfield 24, 3) := by decide +kernel
theorem d_1_takeTest_27 : decode prog_3_method_2_code 27 = .ok (.iload_n 2, 1) := by decide +kernel
theorem d_1_takeTest_28 : decode prog_3_method_2_code 28 = .ok (.iastore, 1) := by decide +kernel
theorem d_1_takeTest_29 : decode prog_3_method_2_code 29 = .ok (.aload_n 0, 1) := by decide +kernel
theorem d_1_takeTest_30 : decode prog_3_method_2_code 30 = .ok (.getfield 18, 3) := by decide +kernel
theorem d_1_takeTest_33 : decode prog_3_method_2_code 33 = .ok (.aload_n 0, 1) := by decide +kernel
theorem d_1_takeTest_34 : decode prog_3_method_2_code 34 = .ok (.getfield 24, 3) := by decide +kernel
theorem d_1_takeTest_37 : decode prog_3_method_2_code 37 = .ok (.iload_n 3, 1) := by decide +kernel
theorem d_1_takeTest_38 : decode prog_3_method_2_code 38 = .ok (.iastore, 1) := by decide +kernel
theorem d_1_takeTest_39 : decode prog_3_method_2_code 39 = .ok (.aload_n 0, 1) := by decide +kernel
theorem d_1_takeTest_40 : decode prog_3_method_2_code 40 = .ok (.getfield 21, 3) := by decide +kernel
theorem d_1_takeTest_43 : decode prog_3_method_2_code 43 = .ok (.aload_n 0, 1) := by decide +kernel
theorem d_1_takeTest_44 : decode prog_3_method_2_code 44 = .ok (.getfield 24, 3) := by decide +kernel
theorem d_1_takeTest_47 : decode prog_3_method_2_code 47 = .ok (.iload 4, 2) := by decide +kernel
theorem d_1_takeTest_49 : decode prog_3_method_2_code 49 = .ok (.iastore, 1) := by decide +kernel
theorem d_1_takeTest_50 : decode prog_3_method_2_code 50 = .ok (.aload_n 0, 1) := by decide +kernel
theorem d_1_takeTest_51 : decode prog_3_method_2_code 51 = .ok (.dup, 1) := by decide +kernel
theorem d_1_takeTest_52 : decode prog_3_method_2_code 52 = .ok (.getfield 24, 3) := by decide +kernel
theorem d_1_takeTest_55 : decode prog_3_method_2_code 55 = .ok (.iconst 1, 1) := by decide +kernel
theorem d_1_takeTest_56 : decode prog_3_method_2_code 56 = .ok (.iadd, 1) := by decide +kernel
theorem d_1_takeTest_57 : decode prog_3_method_2_code 57 = .ok (.putfield 24, 3) := by decide +kernel
theorem d_1_takeTest_60 : decode prog_3_method_2_code 60 = .ok (.return_, 1) := by decide +kernel
theorem d_9_readRange_0 : decode prog_11_method_19_code 0 = .ok (.aload_n 1, 1) := by decide +kernel
theorem d_9_readRange_1 : decode prog_11_method_19_code 1 = .ok (.iconst 1, 1) := by decide +kernel
theorem d_9_readRange_2 : decode prog_11_method_19_code 2 = .ok (.invokevirtual 144, 3) := by decide +kernel
theorem d_9_readRange_5 : decode prog_11_method_19_code 5 = .ok (.ifCond .ne 5, 3) := by decide +kernel
theorem d_9_readRange_8 : decode prog_11_method_19_code 8 = .ok (.iconst 0, 1) := by decide +kernel
theorem d_9_readRange_9 : decode prog_11_method_19_code 9 = .ok (.ireturn, 1) := by decide +kernel
theorem d_9_readRange_10 : decode prog_11_method_19_code 10 = .ok (.aload_n 1, 1) := by decide +kernel
theorem d_9_readRange_11 : decode prog_11_method_19_code 11 = .ok (.getfield 112, 3) := by decide +kernel
theorem d_9_readRange_14 : decode prog_11_method_19_code 14 = .ok (.istore 4, 2) := by decide +kernel
theorem d_9_readRange_16 : decode prog_11_method_19_code 16 = .ok (.aload_n 1, 1) := by decide +kernel
theorem d_9_readRange_17 : decode prog_11_method_19_code 17 = .ok (.ldc 198, 2) := by decide +kernel
theorem d_9_readRange_19 : decode prog_11_method_19_code 19 = .ok (.invokevirtual 82, 3) := by decide +kernel
theorem d_9_readRange_22 : decode prog_11_method_19_code 22 = .ok (.ifCond .eq 31, 3) := by decide +kernel
theorem d_9_readRange_25 : decode prog_11_method_19_code 25 = .ok (.aload_n 1, 1) := by decide +kernel
theorem d_9_readRange_26 : decode prog_11_method_19_code 26 = .ok (.iconst 1, 1) := by decide +kernel
theorem d_9_readRange_27 : decode prog_11_method_19_code 27 = .ok (.invokevirtual 144, 3) := by decide +kernel
theorem d_9_readRange_30 : decode prog_11_method_19_code 30 = .ok (.ifCond .ne 5, 3) := by decide +kernel
theorem d_9_readRange_33 : decode prog_11_method_19_code 33 = .ok (.iconst 0, 1) := by decide +kernel
theorem d_9_readRange_34 : decode prog_11_method_19_code 34 = .ok (.ireturn, 1) := by decide +kernel
theorem d_9_readRange_35 : decode prog_11_method_19_code 35 = .ok (.aload_n 1, 1) := by decide +kernel
theorem d_9_readRange_36 : decode prog_11_method_19_code 36 = .ok (.getfield 112, 3) := by decide +kernel
theorem d_9_readRange_39 : decode prog_11_method_19_code 39 = .ok (.iload 4, 2) := by decide +kernel
theorem d_9_readRange_41 : decode prog_11_method_19_code 41 = .ok (.if_icmp .ge 12, 3) := by decide +kernel
theorem d_9_readRange_44 : decode prog_11_method_19_code 44 = .ok (.aload_n 1, 1) := by decide +kernel
theorem d_9_readRange_45 : decode prog_11_method_19_code 45 = .ok (.aload_n 1, 1) := by decide +kernel
theorem d_9_readRange_46 : decode prog_11_method_19_code 46 = .ok (.getfield 148, 3) := by decide +kernel
theorem d_9_readRange_49 : decode prog_11_method_19_code 49 = .ok (.invokevirtual 90, 3) := by decide +kernel
theorem d_9_readRange_52 : decode prog_11_method_19_code 52 = .ok (.ireturn, 1) := by decide +kernel
theorem d_9_readRange_53 : decode prog_11_method_19_code 53 = .ok (.aload_n 2, 1) := by decide +kernel
theorem d_9_readRange_54 : decode prog_11_method_19_code 54 = .ok (.iconst 1, 1) := by decide +kernel
theorem d_9_readRange_55 : decode prog_11_method_19_code 55 = .ok (.iload 4, 2) := by decide +kernel
theorem d_9_readRange_57 : decode prog_11_method_19_code 57 = .ok (.aload_n 1, 1) := by decide +kernel
theorem d_9_readRange_58 : decode prog_11_method_19_code 58 = .ok (.getfield 112, 3) := by decide +kernel
theorem d_9_readRange_61 : decode prog_11_method_19_code 61 = .ok (.iload_n 3, 1) := by decide +kernel
theorem d_9_readRange_62 : decode prog_11_method_19_code 62 = .ok (.invokevirtual 188, 3) := by decide +kernel
theorem d_9_readRange_65 : decode prog_11_method_19_code 65 = .ok (.iconst 1, 1) := by decide +kernel
theorem d_9_readRange_66 : decode prog_11_method_19_code 66 = .ok (.ireturn, 1) := by decide +kernel
theorem d_9_isPatternSign_0 : decode prog_11_method_21_code 0 = .ok (.aload_n 1, 1) := by decide +kernel
theorem d_9_isPatternSign_1 : decode prog_11_method_21_code 1 = .ok (.iload_n 2, 1) := by decide +kernel
theorem d_9_isPatternSign_2 : decode prog_11_method_21_code 2 = .ok (.invokevirtual 213, 3) := by decide +kernel
theorem d_9_isPatternSign_5 : decode prog_11_method_21_code 5 = .ok (.ifCond .ne 13, 3) := by decide +kernel
theorem d_9_isPatternSign_8 : decode prog_11_method_21_code 8 = .ok (.aload_n 1, 1) := by decide +kernel
theorem d_9_isPatternSign_9 : decode prog_11_method_21_code 9 = .ok (.iload_n 2, 1) := by decide +kernel
theorem d_9_isPatternSign_10 : decode prog_11_method_21_code 10 = .ok (.invokevirtual 206, 3) := by decide +kernel
theorem d_9_isPatternSign_13 : decode prog_11_method_21_code 13 = .ok (.bipush 63, 2) := by decide +kernel
theorem d_9_isPatternSign_15 : decode prog_11_method_21_code 15 = .ok (.if_icmp .ne 7, 3) := by decide +kernel
theorem d_9_isPatternSign_18 : decode prog_11_method_21_code 18 = .ok (.iconst 1, 1) := by decide +kernel
theorem d_9_isPatternSign_19 : decode prog_11_method_21_code 19 = .ok (.goto 4, 3) := by decide +kernel
theorem d_9_isPatternSign_22 : decode prog_11_method_21_code 22 = .ok (.iconst 0, 1) := by decide +kernel
theorem d_9_isPatternSign_23 : decode prog_11_method_21_code 23 = .ok (.ireturn, 1) := by decide +kernel
theorem d_1_withSign_0 : decode prog_3_method_6_code 0 = .ok (.iload_n 1, 1) := by decide +kernel
theorem d_1_withSign_1 : decode prog_3_method_6_code 1 = .ok (.ifCond .lt 8, 3) := by decide +kernel
theorem d_1_withSign_4 : decode prog_3_method_6_code 4 = .ok (.iload_n 1, 1) := by decide +kernel
theorem d_1_withSign_5 : decode prog_3_method_6_code 5 = .ok (.iconst 4, 1) := by decide +kernel
theorem d_1_withSign_6 : decode prog_3_method_6_code 6 = .ok (.if_icmp .lt 5, 3) := by decide +kernel
theorem d_1_withSign_9 : decode prog_3_method_6_code 9 = .ok (.iload_n 0, 1) := by decide +kernel
theorem d_1_withSign_10 : decode prog_3_method_6_code 10 = .ok (.ireturn, 1) := by decide +kernel
theorem d_1_withSign_11 : decode prog_3_method_6_code 11 = .ok (.iload_n 0, 1) := by decide +kernel
theorem d_1_withSign_12 : decode prog_3_method_6_code 12 = .ok (.iload_n 2, 1) := by decide +kernel
theorem d_1_withSign_13 : decode prog_3_method_6_code 13 = .ok (.bipush 63, 2) := by decide +kernel
theorem d_1_withSign_15 : decode prog_3_method_6_code 15 = .ok (.if_icmp .ne 8, 3) := by decide +kernel
theorem d_1_withSign_18 : decode prog_3_method_6_code 18 = .ok (.bipush 27, 2) := by decide +kernel
theorem d_1_withSign_20 : decode prog_3_method_6_code 20 = .ok (.goto 9, 3) := by decide +kernel
theorem d_1_withSign_23 : decode prog_3_method_6_code 23 = .ok (.iload_n 2, 1) := by decide +kernel
theorem d_1_withSign_24 : decode prog_3_method_6_code 24 = .ok (.bipush 97, 2) := by decide +kernel
theorem d_1_withSign_26 : decode prog_3_method_6_code 26 = .ok (.isub, 1) := by decide +kernel
theorem d_1_withSign_27 : decode prog_3_method_6_code 27 = .ok (.iconst 1, 1) := by decide +kernel
theorem d_1_withSign_28 : decode prog_3_method_6_code 28 = .ok (.iadd, 1) := by decide +kernel
theorem d_1_withSign_29 : decode prog_3_method_6_code 29 = .ok (.iconst 5, 1) := by decide +kernel
theorem d_1_withSign_30 : decode prog_3_method_6_code 30 = .ok (.iload_n 1, 1) := by decide +kernel
theorem d_1_withSign_31 : decode prog_3_method_6_code 31 = .ok (.imul, 1) := by decide +kernel
theorem d_1_withSign_32 : decode prog_3_method_6_code 32 = .ok (.ishl, 1) := by decide +kernel
theorem d_1_withSign_33 : decode prog_3_method_6_code 33 = .ok (.ior, 1) := by decide +kernel
theorem d_1_withSign_34 : decode prog_3_method_6_code 34 = .ok (.ireturn, 1) := by decide +kernel
theorem d_9_readPattern_0 : decode prog_11_method_20_code 0 = .ok (.aload_n 1, 1) := by decide +kernel
theorem d_9_readPattern_1 : decode prog_11_method_20_code 1 = .ok (.invokevirtual 75, 3) := by decide +kernel
theorem d_9_readPattern_4 : decode prog_11_method_20_code 4 = .ok (.aload_n 1, 1) := by decide +kernel
theorem d_9_readPattern_5 : decode prog_11_method_20_code 5 = .ok (.ldc 182, 2) := by decide +kernel
theorem d_9_readPattern_7 : decode prog_11_method_20_code 7 = .ok (.invokevirtual 200, 3) := by decide +kernel
theorem d_9_readPattern_10 : decode prog_11_method_20_code 10 = .ok (.ifCond .ne 48, 3) := by decide +kernel
theorem d_9_readPattern_13 : decode prog_11_method_20_code 13 = .ok (.aload_n 1, 1) := by decide +kernel
theorem d_9_readPattern_14 : decode prog_11_method_20_code 14 = .ok (.ldc 198, 2) := by decide +kernel
theorem d_9_readPattern_16 : decode prog_11_method_20_code 16 = .ok (.invokevirtual 200, 3) := by decide +kernel
theorem d_9_readPattern_19 : decode prog_11_method_20_code 19 = .ok (.ifCond .ne 39, 3) := by decide +kernel
theorem d_9_readPattern_22 : decode prog_11_method_20_code 22 = .ok (.aload_n 1, 1) := by decide +kernel
theorem d_9_readPattern_23 : decode prog_11_method_20_code 23 = .ok (.ldc 184, 2) := by decide +kernel
theorem d_9_readPattern_25 : decode prog_11_method_20_code 25 = .ok (.invokevirtual 200, 3) := by decide +kernel
theorem d_9_readPattern_28 : decode prog_11_method_20_code 28 = .ok (.ifCond .ne 30, 3) := by decide +kernel
theorem d_9_readPattern_31 : decode prog_11_method_20_code 31 = .ok (.aload_n 1, 1) := by decide +kernel
theorem d_9_readPattern_32 : decode prog_11_method_20_code 32 = .ok (.ldc 131, 2) := by decide +kernel
theorem d_9_readPattern_34 : decode prog_11_method_20_code 34 = .ok (.invokevirtual 200, 3) := by decide +kernel
theorem d_9_readPattern_37 : decode prog_11_method_20_code 37 = .ok (.ifCond .ne 21, 3) := by decide +kernel
theorem d_9_readPattern_40 : decode prog_11_method_20_code 40 = .ok (.aload_n 1, 1) := by decide +kernel
theorem d_9_readPattern_41 : decode prog_11_method_20_code 41 = .ok (.ldc 137, 2) := by decide +kernel
theorem d_9_readPattern_43 : decode prog_11_method_20_code 43 = .ok (.invokevirtual 200, 3) := by decide +kernel
theorem d_9_readPattern_46 : decode prog_11_method_20_code 46 = .ok (.ifCond .ne 12, 3) := by decide +kernel
theorem d_9_readPattern_49 : decode prog_11_method_20_code 49 = .ok (.aload_n 1, 1) := by decide +kernel
theorem d_9_readPattern_50 : decode prog_11_method_20_code 50 = .ok (.ldc 139, 2) := by decide +kernel
theorem d_9_readPattern_52 : decode prog_11_method_20_code 52 = .ok (.invokevirtual 200, 3) := by decide +kernel
theorem d_9_readPattern_55 : decode prog_11_method_20_code 55 = .ok (.ifCond .eq 8, 3) := by decide +kernel
theorem d_9_readPattern_58 : decode prog_11_method_20_code 58 = .ok (.aload_n 1, 1) := by decide +kernel
theorem d_9_readPattern_59 : decode prog_11_method_20_code 59 = .ok (.invokevirtual 72, 3) := by decide +kernel
theorem d_9_readPattern_62 : decode prog_11_method_20_code 62 = .ok (.ireturn, 1) := by decide +kernel
theorem d_9_readPattern_63 : decode prog_11_method_20_code 63 = .ok (.aload_n 1, 1) := by decide +kernel
theorem d_9_readPattern_64 : decode prog_11_method_20_code 64 = .ok (.getfield 78, 3) := by decide +kernel
theorem d_9_readPattern_67 : decode prog_11_method_20_code 67 = .ok (.istore 4, 2) := by decide +kernel
theorem d_9_readPattern_69 : decode prog_11_method_20_code 69 = .ok (.iconst 0, 1) := by decide +kernel
theorem d_9_readPattern_70 : decode prog_11_method_20_code 70 = .ok (.istore 5, 2) := by decide +kernel
theorem d_9_readPattern_72 : decode prog_11_method_20_code 72 = .ok (.iconst 0, 1) := by decide +kernel
theorem d_9_readPattern_73 : decode prog_11_method_20_code 73 = .ok (.istore 6, 2) := by decide +kernel
theorem d_9_readPattern_75 : decode prog_11_method_20_code 75 = .ok (.iload 5, 2) := by decide +kernel
theorem d_9_readPattern_77 : decode prog_11_method_20_code 77 = .ok (.iconst 4, 1) := by decide +kernel
theorem d_9_readPattern_78 : decode prog_11_method_20_code 78 = .ok (.if_icmp .gt 40, 3) := by decide +kernel
theorem d_9_readPattern_81 : decode prog_11_method_20_code 81 = .ok (.aload_n 0, 1) := by decide +kernel
theorem d_9_readPattern_82 : decode prog_11_method_20_code 82 = .ok (.aload_n 1, 1) := by decide +kernel
theorem d_9_readPattern_83 : decode prog_11_method_20_code 83 = .ok (.iload 4, 2) := by decide +kernel
theorem d_9_readPattern_85 : decode prog_11_method_20_code 85 = .ok (.iload 5, 2) := by decide +kernel
theorem d_9_readPattern_87 : decode prog_11_method_20_code 87 = .ok (.iadd, 1) := by decide +kernel
theorem d_9_readPattern_88 : decode prog_11_method_20_code 88 = .ok (.invokevirtual 203, 3) := by decide +kernel
theorem d_9_readPattern_91 : decode prog_11_method_20_code 91 = .ok (.ifCond .eq 27, 3) := by decide +kernel
theorem d_9_readPattern_94 : decode prog_11_method_20_code 94 = .ok (.iload 6, 2) := by decide +kernel
theorem d_9_readPattern_96 : decode prog_11_method_20_code 96 = .ok (.iload 5, 2) := by decide +kernel
theorem d_9_readPattern_98 : decode prog_11_method_20_code 98 = .ok (.aload_n 1, 1) := by decide +kernel
theorem d_9_readPattern_99 : decode prog_11_method_20_code 99 = .ok (.iload 4, 2) := by decide +kernel
theorem d_9_readPattern_101 : decode prog_11_method_20_code 101 = .ok (.iload 5, 2) := by decide +kernel
theorem d_9_readPattern_103 : decode prog_11_method_20_code 103 = .ok (.iadd, 1) := by decide +kernel
theorem d_9_readPattern_104 : decode prog_11_method_20_code 104 = .ok (.invokevirtual 206, 3) := by decide +kernel
theorem d_9_readPattern_107 : decode prog_11_method_20_code 107 = .ok (.invokestatic 209, 3) := by decide +kernel
theorem d_9_readPattern_110 : decode prog_11_method_20_code 110 = .ok (.istore 6, 2) := by decide +kernel
theorem d_9_readPattern_112 : decode prog_11_method_20_code 112 = .ok (.iinc 5 1, 3) := by decide +kernel
theorem d_9_readPattern_115 : decode prog_11_method_20_code 115 = .ok (.goto (-40), 3) := by decide +kernel
theorem d_9_readPattern_118 : decode prog_11_method_20_code 118 = .ok (.aload_n 1, 1) := by decide +kernel
theorem d_9_readPattern_119 : decode prog_11_method_20_code 119 = .ok (.iload 4, 2) := by decide +kernel
theorem d_9_readPattern_121 : decode prog_11_method_20_code 121 = .ok (.iload 5, 2) := by decide +kernel
theorem d_9_readPattern_123 : decode prog_11_method_20_code 123 = .ok (.iadd, 1) := by decide +kernel
theorem d_9_readPattern_124 : decode prog_11_method_20_code 124 = .ok (.invokevirtual 206, 3) := by decide +kernel
theorem d_9_readPattern_127 : decode prog_11_method_20_code 127 = .ok (.bipush 42, 2) := by decide +kernel
theorem d_9_readPattern_129 : decode prog_11_method_20_code 129 = .ok (.if_icmp .ne 7, 3) := by decide +kernel
theorem d_9_readPattern_132 : decode prog_11_method_20_code 132 = .ok (.iconst 1, 1) := by decide +kernel
theorem d_9_readPattern_133 : decode prog_11_method_20_code 133 = .ok (.goto 4, 3) := by decide +kernel
theorem d_9_readPattern_136 : decode prog_11_method_20_code 136 = .ok (.iconst 0, 1) := by decide +kernel
theorem d_9_readPattern_137 : decode prog_11_method_20_code 137 = .ok (.istore 7, 2) := by decide +kernel
theorem d_9_readPattern_139 : decode prog_11_method_20_code 139 = .ok (.iload 5, 2) := by decide +kernel
theorem d_9_readPattern_141 : decode prog_11_method_20_code 141 = .ok (.iconst 4, 1) := by decide +kernel
theorem d_9_readPattern_142 : decode prog_11_method_20_code 142 = .ok (.if_icmp .gt 13, 3) := by decide +kernel
theorem d_9_readPattern_145 : decode prog_11_method_20_code 145 = .ok (.iload 5, 2) := by decide +kernel
theorem d_9_readPattern_147 : decode prog_11_method_20_code 147 = .ok (.ifCond .ne 13, 3) := by decide +kernel
theorem d_9_readPattern_150 : decode prog_11_method_20_code 150 = .ok (.iload 7, 2) := by decide +kernel
theorem d_9_readPattern_152 : decode prog_11_method_20_code 152 = .ok (.ifCond .ne 8, 3) := by decide +kernel
theorem d_9_readPattern_155 : decode prog_11_method_20_code 155 = .ok (.aload_n 1, 1) := by decide +kernel
theorem d_9_readPattern_156 : decode prog_11_method_20_code 156 = .ok (.invokevirtual 72, 3) := by decide +kernel
theorem d_9_readPattern_159 : decode prog_11_method_20_code 159 = .ok (.ireturn, 1) := by decide +kernel
theorem d_9_readPattern_160 : decode prog_11_method_20_code 160 = .ok (.aload_n 1, 1) := by decide +kernel
theorem d_9_readPattern_161 : decode prog_11_method_20_code 161 = .ok (.iload 4, 2) := by decide +kernel
theorem d_9_readPattern_163 : decode prog_11_method_20_code 163 = .ok (.iload 5, 2) := by decide +kernel
theorem d_9_readPattern_165 : decode prog_11_method_20_code 165 = .ok (.iadd, 1) := by decide +kernel
theorem d_9_readPattern_166 : decode prog_11_method_20_code 166 = .ok (.iload 7, 2) := by decide +kernel
theorem d_9_readPattern_168 : decode prog_11_method_20_code 168 = .ok (.ifCond .eq 7, 3) := by decide +kernel
theorem d_9_readPattern_171 : decode prog_11_method_20_code 171 = .ok (.iconst 1, 1) := by decide +kernel
theorem d_9_readPattern_172 : decode prog_11_method_20_code 172 = .ok (.goto 4, 3) := by decide +kernel
theorem d_9_readPattern_175 : decode prog_11_method_20_code 175 = .ok (.iconst 0, 1) := by decide +kernel
theorem d_9_readPattern_176 : decode prog_11_method_20_code 176 = .ok (.iadd, 1) := by decide +kernel
theorem d_9_readPattern_177 : decode prog_11_method_20_code 177 = .ok (.putfield 78, 3) := by decide +kernel
theorem d_9_readPattern_180 : decode prog_11_method_20_code 180 = .ok (.aload_n 2, 1) := by decide +kernel
theorem d_9_readPattern_181 : decode prog_11_method_20_code 181 = .ok (.iconst 2, 1) := by decide +kernel
theorem d_9_readPattern_182 : decode prog_11_method_20_code 182 = .ok (.iload 6, 2) := by decide +kernel
theorem d_9_readPattern_184 : decode prog_11_method_20_code 184 = .ok (.iload 7, 2) := by decide +kernel
theorem d_9_readPattern_186 : decode prog_11_method_20_code 186 = .ok (.ifCond .eq 7, 3) := by decide +kernel
theorem d_9_readPattern_189 : decode prog_11_method_20_code 189 = .ok (.iconst 1, 1) := by decide +kernel
theorem d_9_readPattern_190 : decode prog_11_method_20_code 190 = .ok (.goto 4, 3) := by decide +kernel
theorem d_9_readPattern_193 : decode prog_11_method_20_code 193 = .ok (.iconst 0, 1) := by decide +kernel
theorem d_9_readPattern_194 : decode prog_11_method_20_code 194 = .ok (.iload_n 3, 1) := by decide +kernel
theorem d_9_readPattern_195 : decode prog_11_method_20_code 195 = .ok (.invokevirtual 188, 3) := by decide +kernel
theorem d_9_readPattern_198 : decode prog_11_method_20_code 198 = .ok (.iconst 1, 1) := by decide +kernel
theorem d_9_readPattern_199 : decode prog_11_method_20_code 199 = .ok (.ireturn, 1) := by decide +kernel
theorem d_9_readTest_0 : decode prog_11_method_18_code 0 = .ok (.iconst 0, 1) := by decide +kernel
theorem d_9_readTest_1 : decode prog_11_method_18_code 1 = .ok (.istore 4, 2) := by decide +kernel
theorem d_9_readTest_3 : decode prog_11_method_18_code 3 = .ok (.iload 4, 2) := by decide +kernel
theorem d_9_readTest_5 : decode prog_11_method_18_code 5 = .ok (.iconst 4, 1) := by decide +kernel
theorem d_9_readTest_6 : decode prog_11_method_18_code 6 = .ok (.if_icmp .ge 18, 3) := by decide +kernel
theorem d_9_readTest_9 : decode prog_11_method_18_code 9 = .ok (.aload_n 1, 1) := by decide +kernel
theorem d_9_readTest_10 : decode prog_11_method_18_code 10 = .ok (.ldc 184, 2) := by decide +kernel
theorem d_9_readTest_12 : decode prog_11_method_18_code 12 = .ok (.invokevirtual 82, 3) := by decide +kernel
theorem d_9_readTest_15 : decode prog_11_method_18_code 15 = .ok (.ifCond .eq 9, 3) := by decide +kernel
theorem d_9_readTest_18 : decode prog_11_method_18_code 18 = .ok (.iinc 4 1, 3) := by decide +kernel
theorem d_9_readTest_21 : decode prog_11_method_18_code 21 = .ok (.goto (-18), 3) := by decide +kernel
theorem d_9_readTest_24 : decode prog_11_method_18_code 24 = .ok (.aload_n 1, 1) := by decide +kernel
theorem d_9_readTest_25 : decode prog_11_method_18_code 25 = .ok (.ldc 186, 2) := by decide +kernel
theorem d_9_readTest_27 : decode prog_11_method_18_code 27 = .ok (.invokevirtual 82, 3) := by decide +kernel
theorem d_9_readTest_30 : decode prog_11_method_18_code 30 = .ok (.ifCond .eq 14, 3) := by decide +kernel
theorem d_9_readTest_33 : decode prog_11_method_18_code 33 = .ok (.aload_n 2, 1) := by decide +kernel
theorem d_9_readTest_34 : decode prog_11_method_18_code 34 = .ok (.iconst 0, 1) := by decide +kernel
theorem d_9_readTest_35 : decode prog_11_method_18_code 35 = .ok (.iconst 0, 1) := by decide +kernel
theorem d_9_readTest_36 : decode prog_11_method_18_code 36 = .ok (.iconst 0, 1) := by decide +kernel
theorem d_9_readTest_37 : decode prog_11_method_18_code 37 = .ok (.iload 4, 2) := by decide +kernel
theorem d_9_readTest_39 : decode prog_11_method_18_code 39 = .ok (.invokevirtual 188, 3) := by decide +kernel
theorem d_9_readTest_42 : decode prog_11_method_18_code 42 = .ok (.iconst 1, 1) := by decide +kernel
theorem d_9_readTest_43 : decode prog_11_method_18_code 43 = .ok (.ireturn, 1) := by decide +kernel
theorem d_9_readTest_44 : decode prog_11_method_18_code 44 = .ok (.iload_n 3, 1) := by decide +kernel
theorem d_9_readTest_45 : decode prog_11_method_18_code 45 = .ok (.ifCond .ne 14, 3) := by decide +kernel
theorem d_9_readTest_48 : decode prog_11_method_18_code 48 = .ok (.aload_n 0, 1) := by decide +kernel
theorem d_9_readTest_49 : decode prog_11_method_18_code 49 = .ok (.aload_n 1, 1) := by decide +kernel
theorem d_9_readTest_50 : decode prog_11_method_18_code 50 = .ok (.aload_n 2, 1) := by decide +kernel
theorem d_9_readTest_51 : decode prog_11_method_18_code 51 = .ok (.iload 4, 2) := by decide +kernel
theorem d_9_readTest_53 : decode prog_11_method_18_code 53 = .ok (.invokevirtual 192, 3) := by decide +kernel
theorem d_9_readTest_56 : decode prog_11_method_18_code 56 = .ok (.goto 11, 3) := by decide +kernel
theorem d_9_readTest_59 : decode prog_11_method_18_code 59 = .ok (.aload_n 0, 1) := by decide +kernel
theorem d_9_readTest_60 : decode prog_11_method_18_code 60 = .ok (.aload_n 1, 1) := by decide +kernel
theorem d_9_readTest_61 : decode prog_11_method_18_code 61 = .ok (.aload_n 2, 1) := by decide +kernel
theorem d_9_readTest_62 : decode prog_11_method_18_code 62 = .ok (.iload 4, 2) := by decide +kernel
theorem d_9_readTest_64 : decode prog_11_method_18_code 64 = .ok (.invokevirtual 195, 3) := by decide +kernel
theorem d_9_readTest_67 : decode prog_11_method_18_code 67 = .ok (.ireturn, 1) := by decide +kernel
theorem d_9_readFilter_0 : decode prog_11_method_17_code 0 = .ok (.aload_n 0, 1) := by decide +kernel
theorem d_9_readFilter_1 : decode prog_11_method_17_code 1 = .ok (.aload_n 1, 1) := by decide +kernel
theorem d_9_readFilter_2 : decode prog_11_method_17_code 2 = .ok (.invokevirtual 154, 3) := by decide +kernel
theorem d_9_readFilter_5 : decode prog_11_method_17_code 5 = .ok (.ifCond .ne 5, 3) := by decide +kernel
theorem d_9_readFilter_8 : decode prog_11_method_17_code 8 = .ok (.iconst 0, 1) := by decide +kernel
theorem d_9_readFilter_9 : decode prog_11_method_17_code 9 = .ok (.ireturn, 1) := by decide +kernel
theorem d_9_readFilter_10 : decode prog_11_method_17_code 10 = .ok (.aload_n 1, 1) := by decide +kernel
theorem d_9_readFilter_11 : decode prog_11_method_17_code 11 = .ok (.getfield 112, 3) := by decide +kernel
theorem d_9_readFilter_14 : decode prog_11_method_17_code 14 = .ok (.istore_n 2, 1) := by decide +kernel
theorem d_9_readFilter_15 : decode prog_11_method_17_code 15 = .ok (.aload_n 0, 1) := by decide +kernel
theorem d_9_readFilter_16 : decode prog_11_method_17_code 16 = .ok (.getfield 24, 3) := by decide +kernel
theorem d_9_readFilter_19 : decode prog_11_method_17_code 19 = .ok (.iload_n 2, 1) := by decide +kernel
theorem d_9_readFilter_20 : decode prog_11_method_17_code 20 = .ok (.invokevirtual 169, 3) := by decide +kernel
theorem d_9_readFilter_23 : decode prog_11_method_17_code 23 = .ok (.astore_n 3, 1) := by decide +kernel
theorem d_9_readFilter_24 : decode prog_11_method_17_code 24 = .ok (.aload_n 3, 1) := by decide +kernel
theorem d_9_readFilter_25 : decode prog_11_method_17_code 25 = .ok (.ifnull 10, 3) := by decide +kernel
theorem d_9_readFilter_28 : decode prog_11_method_17_code 28 = .ok (.aload_n 3, 1) := by decide +kernel
theorem d_9_readFilter_29 : decode prog_11_method_17_code 29 = .ok (.getfield 173, 3) := by decide +kernel
theorem d_9_readFilter_32 : decode prog_11_method_17_code 32 = .ok (.ifCond .le 12, 3) := by decide +kernel
theorem d_9_readFilter_35 : decode prog_11_method_17_code 35 = .ok (.aload_n 1, 1) := by decide +kernel
theorem d_9_readFilter_36 : decode prog_11_method_17_code 36 = .ok (.aload_n 1, 1) := by decide +kernel
theorem d_9_readFilter_37 : decode prog_11_method_17_code 37 = .ok (.getfield 148, 3) := by decide +kernel
theorem d_9_readFilter_40 : decode prog_11_method_17_code 40 = .ok (.invokevirtual 90, 3) := by decide +kernel
theorem d_9_readFilter_43 : decode prog_11_method_17_code 43 = .ok (.ireturn, 1) := by decide +kernel
theorem d_9_readFilter_44 : decode prog_11_method_17_code 44 = .ok (.aload_n 1, 1) := by decide +kernel
theorem d_9_readFilter_45 : decode prog_11_method_17_code 45 = .ok (.bipush 58, 2) := by decide +kernel
theorem d_9_readFilter_47 : decode prog_11_method_17_code 47 = .ok (.invokevirtual 68, 3) := by decide +kernel
theorem d_9_readFilter_50 : decode prog_11_method_17_code 50 = .ok (.ifCond .ne 8, 3) := by decide +kernel
theorem d_9_readFilter_53 : decode prog_11_method_17_code 53 = .ok (.aload_n 1, 1) := by decide +kernel
theorem d_9_readFilter_54 : decode prog_11_method_17_code 54 = .ok (.invokevirtual 72, 3) := by decide +kernel
theorem d_9_readFilter_57 : decode prog_11_method_17_code 57 = .ok (.ireturn, 1) := by decide +kernel
theorem d_9_readFilter_58 : decode prog_11_method_17_code 58 = .ok (.iconst 0, 1) := by decide +kernel
theorem d_9_readFilter_59 : decode prog_11_method_17_code 59 = .ok (.istore 4, 2) := by decide +kernel
theorem d_9_readFilter_61 : decode prog_11_method_17_code 61 = .ok (.iload 4, 2) := by decide +kernel
theorem d_9_readFilter_63 : decode prog_11_method_17_code 63 = .ok (.bipush 6, 2) := by decide +kernel
theorem d_9_readFilter_65 : decode prog_11_method_17_code 65 = .ok (.if_icmp .ge 36, 3) := by decide +kernel
theorem d_9_readFilter_68 : decode prog_11_method_17_code 68 = .ok (.aload_n 0, 1) := by decide +kernel
theorem d_9_readFilter_69 : decode prog_11_method_17_code 69 = .ok (.aload_n 1, 1) := by decide +kernel
theorem d_9_readFilter_70 : decode prog_11_method_17_code 70 = .ok (.aload_n 3, 1) := by decide +kernel
theorem d_9_readFilter_71 : decode prog_11_method_17_code 71 = .ok (.aload_n 0, 1) := by decide +kernel
theorem d_9_readFilter_72 : decode prog_11_method_17_code 72 = .ok (.iload_n 2, 1) := by decide +kernel
theorem d_9_readFilter_73 : decode prog_11_method_17_code 73 = .ok (.invokevirtual 106, 3) := by decide +kernel
theorem d_9_readFilter_76 : decode prog_11_method_17_code 76 = .ok (.invokevirtual 178, 3) := by decide +kernel
theorem d_9_readFilter_79 : decode prog_11_method_17_code 79 = .ok (.ifCond .ne 5, 3) := by decide +kernel
theorem d_9_readFilter_82 : decode prog_11_method_17_code 82 = .ok (.iconst 0, 1) := by decide +kernel
theorem d_9_readFilter_83 : decode prog_11_method_17_code 83 = .ok (.ireturn, 1) := by decide +kernel
theorem d_9_readFilter_84 : decode prog_11_method_17_code 84 = .ok (.aload_n 1, 1) := by decide +kernel
theorem d_9_readFilter_85 : decode prog_11_method_17_code 85 = .ok (.ldc 182, 2) := by decide +kernel
theorem d_9_readFilter_87 : decode prog_11_method_17_code 87 = .ok (.invokevirtual 82, 3) := by decide +kernel
theorem d_9_readFilter_90 : decode prog_11_method_17_code 90 = .ok (.ifCond .ne 5, 3) := by decide +kernel
theorem d_9_readFilter_93 : decode prog_11_method_17_code 93 = .ok (.iconst 1, 1) := by decide +kernel
theorem d_9_readFilter_94 : decode prog_11_method_17_code 94 = .ok (.ireturn, 1) := by decide +kernel
theorem d_9_readFilter_95 : decode prog_11_method_17_code 95 = .ok (.iinc 4 1, 3) := by decide +kernel
theorem d_9_readFilter_98 : decode prog_11_method_17_code 98 = .ok (.goto (-37), 3) := by decide +kernel
theorem d_9_readFilter_101 : decode prog_11_method_17_code 101 = .ok (.aload_n 1, 1) := by decide +kernel
theorem d_9_readFilter_102 : decode prog_11_method_17_code 102 = .ok (.invokevirtual 75, 3) := by decide +kernel
theorem d_9_readFilter_105 : decode prog_11_method_17_code 105 = .ok (.aload_n 1, 1) := by decide +kernel
theorem d_9_readFilter_106 : decode prog_11_method_17_code 106 = .ok (.invokevirtual 72, 3) := by decide +kernel
theorem d_9_readFilter_109 : decode prog_11_method_17_code 109 = .ok (.ireturn, 1) := by decide +kernel
theorem d_2_sortAt_0 : decode prog_4_method_5_code 0 = .ok (.iload_n 1, 1) := by decide +kernel
theorem d_2_sortAt_1 : decode prog_4_method_5_code 1 = .ok (.ifCond .lt 25, 3) := by decide +kernel
theorem d_2_sortAt_4 : decode prog_4_method_5_code 4 = .ok (.iload_n 1, 1) := by decide +kernel
theorem d_2_sortAt_5 : decode prog_4_method_5_code 5 = .ok (.aload_n 0, 1) := by decide +kernel
theorem d_2_sortAt_6 : decode prog_4_method_5_code 6 = .ok (.getfield 26, 3) := by decide +kernel
theorem d_2_sortAt_9 : decode prog_4_method_5_code 9 = .ok (.if_icmp .ge 17, 3) := by decide +kernel
theorem d_2_sortAt_12 : decode prog_4_method_5_code 12 = .ok (.iload_n 1, 1) := by decide +kernel
theorem d_2_sortAt_13 : decode prog_4_method_5_code 13 = .ok (.iconst 3, 1) := by decide +kernel
theorem d_2_sortAt_14 : decode prog_4_method_5_code 14 = .ok (.if_icmp .ge 12, 3) := by decide +kernel
theorem d_2_sortAt_17 : decode prog_4_method_5_code 17 = .ok (.aload_n 0, 1) := by decide +kernel
theorem d_2_sortAt_18 : decode prog_4_method_5_code 18 = .ok (.getfield 17, 3) := by decide +kernel
theorem d_2_sortAt_21 : decode prog_4_method_5_code 21 = .ok (.iload_n 1, 1) := by decide +kernel
theorem d_2_sortAt_22 : decode prog_4_method_5_code 22 = .ok (.iaload, 1) := by decide +kernel
theorem d_2_sortAt_23 : decode prog_4_method_5_code 23 = .ok (.goto 4, 3) := by decide +kernel
theorem d_2_sortAt_26 : decode prog_4_method_5_code 26 = .ok (.iconst (-1), 1) := by decide +kernel
theorem d_2_sortAt_27 : decode prog_4_method_5_code 27 = .ok (.ireturn, 1) := by decide +kernel
theorem d_2_sortsBy_0 : decode prog_4_method_6_code 0 = .ok (.iconst 0, 1) := by decide +kernel
theorem d_2_sortsBy_1 : decode prog_4_method_6_code 1 = .ok (.istore_n 2, 1) := by decide +kernel
theorem d_2_sortsBy_2 : decode prog_4_method_6_code 2 = .ok (.iload_n 2, 1) := by decide +kernel
theorem d_2_sortsBy_3 : decode prog_4_method_6_code 3 = .ok (.aload_n 0, 1) := by decide +kernel
theorem d_2_sortsBy_4 : decode prog_4_method_6_code 4 = .ok (.getfield 26, 3) := by decide +kernel
theorem d_2_sortsBy_7 : decode prog_4_method_6_code 7 = .ok (.if_icmp .ge 22, 3) := by decide +kernel
theorem d_2_sortsBy_10 : decode prog_4_method_6_code 10 = .ok (.aload_n 0, 1) := by decide +kernel
theorem d_2_sortsBy_11 : decode prog_4_method_6_code 11 = .ok (.iload_n 2, 1) := by decide +kernel
theorem d_2_sortsBy_12 : decode prog_4_method_6_code 12 = .ok (.invokevirtual 32, 3) := by decide +kernel
theorem d_2_sortsBy_15 : decode prog_4_method_6_code 15 = .ok (.iconst 2, 1) := by decide +kernel
theorem d_2_sortsBy_16 : decode prog_4_method_6_code 16 = .ok (.idiv, 1) := by decide +kernel
theorem d_2_sortsBy_17 : decode prog_4_method_6_code 17 = .ok (.iload_n 1, 1) := by decide +kernel
theorem d_2_sortsBy_18 : decode prog_4_method_6_code 18 = .ok (.if_icmp .ne 5, 3) := by decide +kernel
theorem d_2_sortsBy_21 : decode prog_4_method_6_code 21 = .ok (.iconst 1, 1) := by decide +kernel
theorem d_2_sortsBy_22 : decode prog_4_method_6_code 22 = .ok (.ireturn, 1) := by decide +kernel
theorem d_2_sortsBy_23 : decode prog_4_method_6_code 23 = .ok (.iinc 2 1, 3) := by decide +kernel
theorem d_2_sortsBy_26 : decode prog_4_method_6_code 26 = .ok (.goto (-24), 3) := by decide +kernel
theorem d_2_sortsBy_29 : decode prog_4_method_6_code 29 = .ok (.iconst 0, 1) := by decide +kernel
theorem d_2_sortsBy_30 : decode prog_4_method_6_code 30 = .ok (.ireturn, 1) := by decide +kernel
theorem d_2_takeSort_0 : decode prog_4_method_7_code 0 = .ok (.aload_n 0, 1) := by decide +kernel
theorem d_2_takeSort_1 : decode prog_4_method_7_code 1 = .ok (.getfield 26, 3) := by decide +kernel
theorem d_2_takeSort_4 : decode prog_4_method_7_code 4 = .ok (.iconst 3, 1) := by decide +kernel
theorem d_2_takeSort_5 : decode prog_4_method_7_code 5 = .ok (.if_icmp .ge 23, 3) := by decide +kernel
theorem d_2_takeSort_8 : decode prog_4_method_7_code 8 = .ok (.aload_n 0, 1) := by decide +kernel
theorem d_2_takeSort_9 : decode prog_4_method_7_code 9 = .ok (.getfield 17, 3) := by decide +kernel
theorem d_2_takeSort_12 : decode prog_4_method_7_code 12 = .ok (.aload_n 0, 1) := by decide +kernel
theorem d_2_takeSort_13 : decode prog_4_method_7_code 13 = .ok (.getfield 26, 3) := by decide +kernel
theorem d_2_takeSort_16 : decode prog_4_method_7_code 16 = .ok (.iload_n 1, 1) := by decide +kernel
theorem d_2_takeSort_17 : decode prog_4_method_7_code 17 = .ok (.iastore, 1) := by decide +kernel
theorem d_2_takeSort_18 : decode prog_4_method_7_code 18 = .ok (.aload_n 0, 1) := by decide +kernel
theorem d_2_takeSort_19 : decode prog_4_method_7_code 19 = .ok (.dup, 1) := by decide +kernel
theorem d_2_takeSort_20 : decode prog_4_method_7_code 20 = .ok (.getfield 26, 3) := by decide +kernel
theorem d_2_takeSort_23 : decode prog_4_method_7_code 23 = .ok (.iconst 1, 1) := by decide +kernel
theorem d_2_takeSort_24 : decode prog_4_method_7_code 24 = .ok (.iadd, 1) := by decide +kernel
theorem d_2_takeSort_25 : decode prog_4_method_7_code 25 = .ok (.putfield 26, 3) := by decide +kernel
theorem d_2_takeSort_28 : decode prog_4_method_7_code 28 = .ok (.return_, 1) := by decide +kernel
theorem d_9_readSort_0 : decode prog_11_method_15_code 0 = .ok (.aload_n 0, 1) := by decide +kernel
theorem d_9_readSort_1 : decode prog_11_method_15_code 1 = .ok (.getfield 24, 3) := by decide +kernel
theorem d_9_readSort_4 : decode prog_11_method_15_code 4 = .ok (.getfield 151, 3) := by decide +kernel
theorem d_9_readSort_7 : decode prog_11_method_15_code 7 = .ok (.iconst 3, 1) := by decide +kernel
theorem d_9_readSort_8 : decode prog_11_method_15_code 8 = .ok (.if_icmp .lt 9, 3) := by decide +kernel
theorem d_9_readSort_11 : decode prog_11_method_15_code 11 = .ok (.aload_n 1, 1) := by decide +kernel
theorem d_9_readSort_12 : decode prog_11_method_15_code 12 = .ok (.iload_n 2, 1) := by decide +kernel
theorem d_9_readSort_13 : decode prog_11_method_15_code 13 = .ok (.invokevirtual 90, 3) := by decide +kernel
theorem d_9_readSort_16 : decode prog_11_method_15_code 16 = .ok (.ireturn, 1) := by decide +kernel
theorem d_9_readSort_17 : decode prog_11_method_15_code 17 = .ok (.aload_n 0, 1) := by decide +kernel
theorem d_9_readSort_18 : decode prog_11_method_15_code 18 = .ok (.aload_n 1, 1) := by decide +kernel
theorem d_9_readSort_19 : decode prog_11_method_15_code 19 = .ok (.invokevirtual 154, 3) := by decide +kernel
theorem d_9_readSort_22 : decode prog_11_method_15_code 22 = .ok (.ifCond .ne 5, 3) := by decide +kernel
theorem d_9_readSort_25 : decode prog_11_method_15_code 25 = .ok (.iconst 0, 1) := by decide +kernel
theorem d_9_readSort_26 : decode prog_11_method_15_code 26 = .ok (.ireturn, 1) := by decide +kernel
theorem d_9_readSort_27 : decode prog_11_method_15_code 27 = .ok (.aload_n 0, 1) := by decide +kernel
theorem d_9_readSort_28 : decode prog_11_method_15_code 28 = .ok (.getfield 24, 3) := by decide +kernel
theorem d_9_readSort_31 : decode prog_11_method_15_code 31 = .ok (.aload_n 1, 1) := by decide +kernel
theorem d_9_readSort_32 : decode prog_11_method_15_code 32 = .ok (.getfield 112, 3) := by decide +kernel
theorem d_9_readSort_35 : decode prog_11_method_15_code 35 = .ok (.invokevirtual 157, 3) := by decide +kernel
theorem d_9_readSort_38 : decode prog_11_method_15_code 38 = .ok (.ifCond .eq 12, 3) := by decide +kernel
theorem d_9_readSort_41 : decode prog_11_method_15_code 41 = .ok (.aload_n 1, 1) := by decide +kernel
theorem d_9_readSort_42 : decode prog_11_method_15_code 42 = .ok (.aload_n 1, 1) := by decide +kernel
theorem d_9_readSort_43 : decode prog_11_method_15_code 43 = .ok (.getfield 148, 3) := by decide +kernel
theorem d_9_readSort_46 : decode prog_11_method_15_code 46 = .ok (.invokevirtual 90, 3) := by decide +kernel
theorem d_9_readSort_49 : decode prog_11_method_15_code 49 = .ok (.ireturn, 1) := by decide +kernel
theorem d_9_readSort_50 : decode prog_11_method_15_code 50 = .ok (.aload_n 0, 1) := by decide +kernel
theorem d_9_readSort_51 : decode prog_11_method_15_code 51 = .ok (.getfield 24, 3) := by decide +kernel
theorem d_9_readSort_54 : decode prog_11_method_15_code 54 = .ok (.iconst 2, 1) := by decide +kernel
theorem d_9_readSort_55 : decode prog_11_method_15_code 55 = .ok (.aload_n 1, 1) := by decide +kernel
theorem d_9_readSort_56 : decode prog_11_method_15_code 56 = .ok (.getfield 112, 3) := by decide +kernel
theorem d_9_readSort_59 : decode prog_11_method_15_code 59 = .ok (.imul, 1) := by decide +kernel
theorem d_9_readSort_60 : decode prog_11_method_15_code 60 = .ok (.iload_n 3, 1) := by decide +kernel
theorem d_9_readSort_61 : decode prog_11_method_15_code 61 = .ok (.iadd, 1) := by decide +kernel
theorem d_9_readSort_62 : decode prog_11_method_15_code 62 = .ok (.invokevirtual 160, 3) := by decide +kernel
theorem d_9_readSort_65 : decode prog_11_method_15_code 65 = .ok (.iconst 1, 1) := by decide +kernel
theorem d_9_readSort_66 : decode prog_11_method_15_code 66 = .ok (.ireturn, 1) := by decide +kernel
theorem d_2_hides_0 : decode prog_4_method_4_code 0 = .ok (.iload_n 1, 1) := by decide +kernel
theorem d_2_hides_1 : decode prog_4_method_4_code 1 = .ok (.ifCond .lt 24, 3) := by decide +kernel
theorem d_2_hides_4 : decode prog_4_method_4_code 4 = .ok (.iload_n 1, 1) := by decide +kernel
theorem d_2_hides_5 : decode prog_4_method_4_code 5 = .ok (.iconst 5, 1) := by decide +kernel
theorem d_2_hides_6 : decode prog_4_method_4_code 6 = .ok (.if_icmp .ge 19, 3) := by decide +kernel
theorem d_2_hides_9 : decode prog_4_method_4_code 9 = .ok (.aload_n 0, 1) := by decide +kernel
theorem d_2_hides_10 : decode prog_4_method_4_code 10 = .ok (.getfield 29, 3) := by decide +kernel
theorem d_2_hides_13 : decode prog_4_method_4_code 13 = .ok (.iload_n 1, 1) := by decide +kernel
theorem d_2_hides_14 : decode prog_4_method_4_code 14 = .ok (.ishr, 1) := by decide +kernel
theorem d_2_hides_15 : decode prog_4_method_4_code 15 = .ok (.iconst 1, 1) := by decide +kernel
theorem d_2_hides_16 : decode prog_4_method_4_code 16 = .ok (.iand, 1) := by decide +kernel
theorem d_2_hides_17 : decode prog_4_method_4_code 17 = .ok (.iconst 1, 1) := by decide +kernel
theorem d_2_hides_18 : decode prog_4_method_4_code 18 = .ok (.if_icmp .ne 7, 3) := by decide +kernel
theorem d_2_hides_21 : decode prog_4_method_4_code 21 = .ok (.iconst 1, 1) := by decide +kernel
theorem d_2_hides_22 : decode prog_4_method_4_code 22 = .ok (.goto 4, 3) := by decide +kernel
theorem d_2_hides_25 : decode prog_4_method_4_code 25 = .ok (.iconst 0, 1) := by decide +kernel
theorem d_2_hides_26 : decode prog_4_method_4_code 26 = .ok (.ireturn, 1) := by decide +kernel
theorem d_9_readHide_0 : decode prog_11_method_16_code 0 = .ok (.aload_n 0, 1) := by decide +kernel
theorem d_9_readHide_1 : decode prog_11_method_16_code 1 = .ok (.aload_n 1, 1) := by decide +kernel
theorem d_9_readHide_2 : decode prog_11_method_16_code 2 = .ok (.invokevirtual 154, 3) := by decide +kernel
theorem d_9_readHide_5 : decode prog_11_method_16_code 5 = .ok (.ifCond .ne 5, 3) := by decide +kernel
theorem d_9_readHide_8 : decode prog_11_method_16_code 8 = .ok (.iconst 0, 1) := by decide +kernel
theorem d_9_readHide_9 : decode prog_11_method_16_code 9 = .ok (.ireturn, 1) := by decide +kernel
theorem d_9_readHide_10 : decode prog_11_method_16_code 10 = .ok (.aload_n 0, 1) := by decide +kernel
theorem d_9_readHide_11 : decode prog_11_method_16_code 11 = .ok (.getfield 24, 3) := by decide +kernel
theorem d_9_readHide_14 : decode prog_11_method_16_code 14 = .ok (.aload_n 1, 1) := by decide +kernel
theorem d_9_readHide_15 : decode prog_11_method_16_code 15 = .ok (.getfield 112, 3) := by decide +kernel
theorem d_9_readHide_18 : decode prog_11_method_16_code 18 = .ok (.invokevirtual 163, 3) := by decide +kernel
theorem d_9_readHide_21 : decode prog_11_method_16_code 21 = .ok (.ifCond .eq 12, 3) := by decide +kernel
theorem d_9_readHide_24 : decode prog_11_method_16_code 24 = .ok (.aload_n 1, 1) := by decide +kernel
theorem d_9_readHide_25 : decode prog_11_method_16_code 25 = .ok (.aload_n 1, 1) := by decide +kernel
theorem d_9_readHide_26 : decode prog_11_method_16_code 26 = .ok (.getfield 148, 3) := by decide +kernel
theorem d_9_readHide_29 : decode prog_11_method_16_code 29 = .ok (.invokevirtual 90, 3) := by decide +kernel
theorem d_9_readHide_32 : decode prog_11_method_16_code 32 = .ok (.ireturn, 1) := by decide +kernel
theorem d_9_readHide_33 : decode prog_11_method_16_code 33 = .ok (.aload_n 0, 1) := by decide +kernel
theorem d_9_readHide_34 : decode prog_11_method_16_code 34 = .ok (.getfield 24, 3) := by decide +kernel
theorem d_9_readHide_37 : decode prog_11_method_16_code 37 = .ok (.dup, 1) := by decide +kernel
theorem d_9_readHide_38 : decode prog_11_method_16_code 38 = .ok (.getfield 166, 3) := by decide +kernel
theorem d_9_readHide_41 : decode prog_11_method_16_code 41 = .ok (.iconst 1, 1) := by decide +kernel
theorem d_9_readHide_42 : decode prog_11_method_16_code 42 = .ok (.aload_n 1, 1) := by decide +kernel
theorem d_9_readHide_43 : decode prog_11_method_16_code 43 = .ok (.getfield 112, 3) := by decide +kernel
theorem d_9_readHide_46 : decode prog_11_method_16_code 46 = .ok (.ishl, 1) := by decide +kernel
theorem d_9_readHide_47 : decode prog_11_method_16_code 47 = .ok (.ior, 1) := by decide +kernel
theorem d_9_readHide_48 : decode prog_11_method_16_code 48 = .ok (.putfield 166, 3) := by decide +kernel
theorem d_9_readHide_51 : decode prog_11_method_16_code 51 = .ok (.iconst 1, 1) := by decide +kernel
theorem d_9_readHide_52 : decode prog_11_method_16_code 52 = .ok (.ireturn, 1) := by decide +kernel
theorem d_9_readPart_0 : decode prog_11_method_13_code 0 = .ok (.aload_n 1, 1) := by decide +kernel
theorem d_9_readPart_1 : decode prog_11_method_13_code 1 = .ok (.invokevirtual 75, 3) := by decide +kernel
theorem d_9_readPart_4 : decode prog_11_method_13_code 4 = .ok (.aload_n 1, 1) := by decide +kernel
theorem d_9_readPart_5 : decode prog_11_method_13_code 5 = .ok (.getfield 78, 3) := by decide +kernel
theorem d_9_readPart_8 : decode prog_11_method_13_code 8 = .ok (.istore_n 2, 1) := by decide +kernel
theorem d_9_readPart_9 : decode prog_11_method_13_code 9 = .ok (.aload_n 1, 1) := by decide +kernel
theorem d_9_readPart_10 : decode prog_11_method_13_code 10 = .ok (.iload_n 2, 1) := by decide +kernel
theorem d_9_readPart_11 : decode prog_11_method_13_code 11 = .ok (.invokevirtual 125, 3) := by decide +kernel
theorem d_9_readPart_14 : decode prog_11_method_13_code 14 = .ok (.ifCond .eq 9, 3) := by decide +kernel
theorem d_9_readPart_17 : decode prog_11_method_13_code 17 = .ok (.aload_n 0, 1) := by decide +kernel
theorem d_9_readPart_18 : decode prog_11_method_13_code 18 = .ok (.aload_n 1, 1) := by decide +kernel
theorem d_9_readPart_19 : decode prog_11_method_13_code 19 = .ok (.invokevirtual 128, 3) := by decide +kernel
theorem d_9_readPart_22 : decode prog_11_method_13_code 22 = .ok (.ireturn, 1) := by decide +kernel
theorem d_9_readPart_23 : decode prog_11_method_13_code 23 = .ok (.aload_n 1, 1) := by decide +kernel
theorem d_9_readPart_24 : decode prog_11_method_13_code 24 = .ok (.ldc 131, 2) := by decide +kernel
theorem d_9_readPart_26 : decode prog_11_method_13_code 26 = .ok (.invokevirtual 82, 3) := by decide +kernel
theorem d_9_readPart_29 : decode prog_11_method_13_code 29 = .ok (.ifCond .eq 11, 3) := by decide +kernel
theorem d_9_readPart_32 : decode prog_11_method_13_code 32 = .ok (.aload_n 0, 1) := by decide +kernel
theorem d_9_readPart_33 : decode prog_11_method_13_code 33 = .ok (.aload_n 1, 1) := by decide +kernel
theorem d_9_readPart_34 : decode prog_11_method_13_code 34 = .ok (.iload_n 2, 1) := by decide +kernel
theorem d_9_readPart_35 : decode prog_11_method_13_code 35 = .ok (.iconst 0, 1) := by decide +kernel
theorem d_9_readPart_36 : decode prog_11_method_13_code 36 = .ok (.invokevirtual 133, 3) := by decide +kernel
theorem d_9_readPart_39 : decode prog_11_method_13_code 39 = .ok (.ireturn, 1) := by decide +kernel
theorem d_9_readPart_40 : decode prog_11_method_13_code 40 = .ok (.aload_n 1, 1) := by decide +kernel
theorem d_9_readPart_41 : decode prog_11_method_13_code 41 = .ok (.ldc 137, 2) := by decide +kernel
theorem d_9_readPart_43 : decode prog_11_method_13_code 43 = .ok (.invokevirtual 82, 3) := by decide +kernel
theorem d_9_readPart_46 : decode prog_11_method_13_code 46 = .ok (.ifCond .eq 11, 3) := by decide +kernel
theorem d_9_readPart_49 : decode prog_11_method_13_code 49 = .ok (.aload_n 0, 1) := by decide +kernel
theorem d_9_readPart_50 : decode prog_11_method_13_code 50 = .ok (.aload_n 1, 1) := by decide +kernel
theorem d_9_readPart_51 : decode prog_11_method_13_code 51 = .ok (.iload_n 2, 1) := by decide +kernel
theorem d_9_readPart_52 : decode prog_11_method_13_code 52 = .ok (.iconst 1, 1) := by decide +kernel
theorem d_9_readPart_53 : decode prog_11_method_13_code 53 = .ok (.invokevirtual 133, 3) := by decide +kernel
theorem d_9_readPart_56 : decode prog_11_method_13_code 56 = .ok (.ireturn, 1) := by decide +kernel
theorem d_9_readPart_57 : decode prog_11_method_13_code 57 = .ok (.aload_n 1, 1) := by decide +kernel
theorem d_9_readPart_58 : decode prog_11_method_13_code 58 = .ok (.ldc 139, 2) := by decide +kernel
theorem d_9_readPart_60 : decode prog_11_method_13_code 60 = .ok (.invokevirtual 82, 3) := by decide +kernel
theorem d_9_readPart_63 : decode prog_11_method_13_code 63 = .ok (.ifCond .eq 9, 3) := by decide +kernel
theorem d_9_readPart_66 : decode prog_11_method_13_code 66 = .ok (.aload_n 0, 1) := by decide +kernel
theorem d_9_readPart_67 : decode prog_11_method_13_code 67 = .ok (.aload_n 1, 1) := by decide +kernel
theorem d_9_readPart_68 : decode prog_11_method_13_code 68 = .ok (.invokevirtual 141, 3) := by decide +kernel
theorem d_9_readPart_71 : decode prog_11_method_13_code 71 = .ok (.ireturn, 1) := by decide +kernel
theorem d_9_readPart_72 : decode prog_11_method_13_code 72 = .ok (.aload_n 1, 1) := by decide +kernel
theorem d_9_readPart_73 : decode prog_11_method_13_code 73 = .ok (.invokevirtual 72, 3) := by decide +kernel
theorem d_9_readPart_76 : decode prog_11_method_13_code 76 = .ok (.ireturn, 1) := by decide +kernel
theorem d_9_readView_0 : decode prog_11_method_12_code 0 = .ok (.aload_n 0, 1) := by decide +kernel
theorem d_9_readView_1 : decode prog_11_method_12_code 1 = .ok (.aload_n 2, 1) := by decide +kernel
theorem d_9_readView_2 : decode prog_11_method_12_code 2 = .ok (.invokevirtual 50, 3) := by decide +kernel
theorem d_9_readView_5 : decode prog_11_method_12_code 5 = .ok (.aload_n 0, 1) := by decide +kernel
theorem d_9_readView_6 : decode prog_11_method_12_code 6 = .ok (.getfield 24, 3) := by decide +kernel
theorem d_9_readView_9 : decode prog_11_method_12_code 9 = .ok (.invokevirtual 119, 3) := by decide +kernel
theorem d_9_readView_12 : decode prog_11_method_12_code 12 = .ok (.aload_n 1, 1) := by decide +kernel
theorem d_9_readView_13 : decode prog_11_method_12_code 13 = .ok (.invokevirtual 54, 3) := by decide +kernel
theorem d_9_readView_16 : decode prog_11_method_12_code 16 = .ok (.ifCond .eq 5, 3) := by decide +kernel
theorem d_9_readView_19 : decode prog_11_method_12_code 19 = .ok (.iconst 1, 1) := by decide +kernel
theorem d_9_readView_20 : decode prog_11_method_12_code 20 = .ok (.ireturn, 1) := by decide +kernel
theorem d_9_readView_21 : decode prog_11_method_12_code 21 = .ok (.iconst 0, 1) := by decide +kernel
theorem d_9_readView_22 : decode prog_11_method_12_code 22 = .ok (.istore_n 3, 1) := by decide +kernel
theorem d_9_readView_23 : decode prog_11_method_12_code 23 = .ok (.iload_n 3, 1) := by decide +kernel
theorem d_9_readView_24 : decode prog_11_method_12_code 24 = .ok (.sipush 400, 3) := by decide +kernel
theorem d_9_readView_27 : decode prog_11_method_12_code 27 = .ok (.if_icmp .ge 42, 3) := by decide +kernel
theorem d_9_readView_30 : decode prog_11_method_12_code 30 = .ok (.aload_n 0, 1) := by decide +kernel
theorem d_9_readView_31 : decode prog_11_method_12_code 31 = .ok (.aload_n 1, 1) := by decide +kernel
theorem d_9_readView_32 : decode prog_11_method_12_code 32 = .ok (.invokevirtual 122, 3) := by decide +kernel
theorem d_9_readView_35 : decode prog_11_method_12_code 35 = .ok (.ifCond .ne 5, 3) := by decide +kernel
theorem d_9_readView_38 : decode prog_11_method_12_code 38 = .ok (.iconst 0, 1) := by decide +kernel
theorem d_9_readView_39 : decode prog_11_method_12_code 39 = .ok (.ireturn, 1) := by decide +kernel
theorem d_9_readView_40 : decode prog_11_method_12_code 40 = .ok (.aload_n 1, 1) := by decide +kernel
theorem d_9_readView_41 : decode prog_11_method_12_code 41 = .ok (.invokevirtual 54, 3) := by decide +kernel
theorem d_9_readView_44 : decode prog_11_method_12_code 44 = .ok (.ifCond .eq 5, 3) := by decide +kernel
theorem d_9_readView_47 : decode prog_11_method_12_code 47 = .ok (.iconst 1, 1) := by decide +kernel
theorem d_9_readView_48 : decode prog_11_method_12_code 48 = .ok (.ireturn, 1) := by decide +kernel
theorem d_9_readView_49 : decode prog_11_method_12_code 49 = .ok (.aload_n 1, 1) := by decide +kernel
theorem d_9_readView_50 : decode prog_11_method_12_code 50 = .ok (.bipush 59, 2) := by decide +kernel
theorem d_9_readView_52 : decode prog_11_method_12_code 52 = .ok (.invokevirtual 68, 3) := by decide +kernel
theorem d_9_readView_55 : decode prog_11_method_12_code 55 = .ok (.ifCond .ne 8, 3) := by decide +kernel
theorem d_9_readView_58 : decode prog_11_method_12_code 58 = .ok (.aload_n 1, 1) := by decide +kernel
theorem d_9_readView_59 : decode prog_11_method_12_code 59 = .ok (.invokevirtual 72, 3) := by decide +kernel
theorem d_9_readView_62 : decode prog_11_method_12_code 62 = .ok (.ireturn, 1) := by decide +kernel
theorem d_9_readView_63 : decode prog_11_method_12_code 63 = .ok (.iinc 3 1, 3) := by decide +kernel
theorem d_9_readView_66 : decode prog_11_method_12_code 66 = .ok (.goto (-43), 3) := by decide +kernel
theorem d_9_readView_69 : decode prog_11_method_12_code 69 = .ok (.aload_n 1, 1) := by decide +kernel
theorem d_9_readView_70 : decode prog_11_method_12_code 70 = .ok (.invokevirtual 72, 3) := by decide +kernel
theorem d_9_readView_73 : decode prog_11_method_12_code 73 = .ok (.ireturn, 1) := by decide +kernel
theorem d_6_takeAllOut_0 : decode prog_8_method_9_code 0 = .ok (.aload_n 0, 1) := by decide +kernel
theorem d_6_takeAllOut_1 : decode prog_8_method_9_code 1 = .ok (.iconst 0, 1) := by decide +kernel
theorem d_6_takeAllOut_2 : decode prog_8_method_9_code 2 = .ok (.putfield 15, 3) := by decide +kernel
theorem d_6_takeAllOut_5 : decode prog_8_method_9_code 5 = .ok (.return_, 1) := by decide +kernel
theorem d_7_compareBy_0 : decode prog_9_method_14_code 0 = .ok (.aload_n 0, 1) := by decide +kernel
theorem d_7_compareBy_1 : decode prog_9_method_14_code 1 = .ok (.iload_n 2, 1) := by decide +kernel
theorem d_7_compareBy_2 : decode prog_9_method_14_code 2 = .ok (.iload_n 1, 1) := by decide +kernel
theorem d_7_compareBy_3 : decode prog_9_method_14_code 3 = .ok (.iconst 2, 1) := by decide +kernel
theorem d_7_compareBy_4 : decode prog_9_method_14_code 4 = .ok (.idiv, 1) := by decide +kernel
theorem d_7_compareBy_5 : decode prog_9_method_14_code 5 = .ok (.invokevirtual 76, 3) := by decide +kernel
theorem d_7_compareBy_8 : decode prog_9_method_14_code 8 = .ok (.istore 4, 2) := by decide +kernel
theorem d_7_compareBy_10 : decode prog_9_method_14_code 10 = .ok (.aload_n 0, 1) := by decide +kernel
theorem d_7_compareBy_11 : decode prog_9_method_14_code 11 = .ok (.iload_n 3, 1) := by decide +kernel
theorem d_7_compareBy_12 : decode prog_9_method_14_code 12 = .ok (.iload_n 1, 1) := by decide +kernel
theorem d_7_compareBy_13 : decode prog_9_method_14_code 13 = .ok (.iconst 2, 1) := by decide +kernel
theorem d_7_compareBy_14 : decode prog_9_method_14_code 14 = .ok (.idiv, 1) := by decide +kernel
theorem d_7_compareBy_15 : decode prog_9_method_14_code 15 = .ok (.invokevirtual 76, 3) := by decide +kernel
theorem d_7_compareBy_18 : decode prog_9_method_14_code 18 = .ok (.istore 5, 2) := by decide +kernel
theorem d_7_compareBy_20 : decode prog_9_method_14_code 20 = .ok (.iload 4, 2) := by decide +kernel
theorem d_7_compareBy_22 : decode prog_9_method_14_code 22 = .ok (.iload 5, 2) := by decide +kernel
theorem d_7_compareBy_24 : decode prog_9_method_14_code 24 = .ok (.if_icmp .ne 5, 3) := by decide +kernel
theorem d_7_compareBy_27 : decode prog_9_method_14_code 27 = .ok (.iconst 0, 1) := by decide +kernel
theorem d_7_compareBy_28 : decode prog_9_method_14_code 28 = .ok (.ireturn, 1) := by decide +kernel
theorem d_7_compareBy_29 : decode prog_9_method_14_code 29 = .ok (.iload 4, 2) := by decide +kernel
theorem d_7_compareBy_31 : decode prog_9_method_14_code 31 = .ok (.ldc 53, 2) := by decide +kernel
theorem d_7_compareBy_33 : decode prog_9_method_14_code 33 = .ok (.if_icmp .eq 10, 3) := by decide +kernel
theorem d_7_compareBy_36 : decode prog_9_method_14_code 36 = .ok (.iload 5, 2) := by decide +kernel
theorem d_7_compareBy_38 : decode prog_9_method_14_code 38 = .ok (.ldc 53, 2) := by decide +kernel
theorem d_7_compareBy_40 : decode prog_9_method_14_code 40 = .ok (.if_icmp .ne 16, 3) := by decide +kernel
theorem d_7_compareBy_43 : decode prog_9_method_14_code 43 = .ok (.iload 4, 2) := by decide +kernel
theorem d_7_compareBy_45 : decode prog_9_method_14_code 45 = .ok (.ldc 53, 2) := by decide +kernel
theorem d_7_compareBy_47 : decode prog_9_method_14_code 47 = .ok (.if_icmp .ne 7, 3) := by decide +kernel
theorem d_7_compareBy_50 : decode prog_9_method_14_code 50 = .ok (.iconst 1, 1) := by decide +kernel
theorem d_7_compareBy_51 : decode prog_9_method_14_code 51 = .ok (.goto 4, 3) := by decide +kernel
theorem d_7_compareBy_54 : decode prog_9_method_14_code 54 = .ok (.iconst (-1), 1) := by decide +kernel
theorem d_7_compareBy_55 : decode prog_9_method_14_code 55 = .ok (.ireturn, 1) := by decide +kernel
theorem d_7_compareBy_56 : decode prog_9_method_14_code 56 = .ok (.iload_n 1, 1) := by decide +kernel
theorem d_7_compareBy_57 : decode prog_9_method_14_code 57 = .ok (.iconst 2, 1) := by decide +kernel
theorem d_7_compareBy_58 : decode prog_9_method_14_code 58 = .ok (.irem, 1) := by decide +kernel
theorem d_7_compareBy_59 : decode prog_9_method_14_code 59 = .ok (.iconst 1, 1) := by decide +kernel
theorem d_7_compareBy_60 : decode prog_9_method_14_code 60 = .ok (.if_icmp .ne 7, 3) := by decide +kernel
theorem d_7_compareBy_63 : decode prog_9_method_14_code 63 = .ok (.iconst 1, 1) := by decide +kernel
theorem d_7_compareBy_64 : decode prog_9_method_14_code 64 = .ok (.goto 4, 3) := by decide +kernel
theorem d_7_compareBy_67 : decode prog_9_method_14_code 67 = .ok (.iconst 0, 1) := by decide +kernel
theorem d_7_compareBy_68 : decode prog_9_method_14_code 68 = .ok (.istore 6, 2) := by decide +kernel
theorem d_7_compareBy_70 : decode prog_9_method_14_code 70 = .ok (.iload 4, 2) := by decide +kernel
theorem d_7_compareBy_72 : decode prog_9_method_14_code 72 = .ok (.iload 5, 2) := by decide +kernel
theorem d_7_compareBy_74 : decode prog_9_method_14_code 74 = .ok (.if_icmp .ge 7, 3) := by decide +kernel
theorem d_7_compareBy_77 : decode prog_9_method_14_code 77 = .ok (.iconst 1, 1) := by decide +kernel
theorem d_7_compareBy_78 : decode prog_9_method_14_code 78 = .ok (.goto 4, 3) := by decide +kernel
theorem d_7_compareBy_81 : decode prog_9_method_14_code 81 = .ok (.iconst 0, 1) := by decide +kernel
theorem d_7_compareBy_82 : decode prog_9_method_14_code 82 = .ok (.iload 6, 2) := by decide +kernel
theorem d_7_compareBy_84 : decode prog_9_method_14_code 84 = .ok (.if_icmp .eq 7, 3) := by decide +kernel
theorem d_7_compareBy_87 : decode prog_9_method_14_code 87 = .ok (.iconst (-1), 1) := by decide +kernel
theorem d_7_compareBy_88 : decode prog_9_method_14_code 88 = .ok (.goto 4, 3) := by decide +kernel
theorem d_7_compareBy_91 : decode prog_9_method_14_code 91 = .ok (.iconst 1, 1) := by decide +kernel
theorem d_7_compareBy_92 : decode prog_9_method_14_code 92 = .ok (.ireturn, 1) := by decide +kernel
theorem d_2_isAhead_0 : decode prog_4_method_11_code 0 = .ok (.iconst 0, 1) := by decide +kernel
theorem d_2_isAhead_1 : decode prog_4_method_11_code 1 = .ok (.istore 4, 2) := by decide +kernel
theorem d_2_isAhead_3 : decode prog_4_method_11_code 3 = .ok (.iload 4, 2) := by decide +kernel
theorem d_2_isAhead_5 : decode prog_4_method_11_code 5 = .ok (.aload_n 0, 1) := by decide +kernel
theorem d_2_isAhead_6 : decode prog_4_method_11_code 6 = .ok (.getfield 26, 3) := by decide +kernel
theorem d_2_isAhead_9 : decode prog_4_method_11_code 9 = .ok (.if_icmp .ge 39, 3) := by decide +kernel
theorem d_2_isAhead_12 : decode prog_4_method_11_code 12 = .ok (.aload_n 1, 1) := by decide +kernel
theorem d_2_isAhead_13 : decode prog_4_method_11_code 13 = .ok (.aload_n 0, 1) := by decide +kernel
theorem d_2_isAhead_14 : decode prog_4_method_11_code 14 = .ok (.iload 4, 2) := by decide +kernel
theorem d_2_isAhead_16 : decode prog_4_method_11_code 16 = .ok (.invokevirtual 32, 3) := by decide +kernel
theorem d_2_isAhead_19 : decode prog_4_method_11_code 19 = .ok (.iload_n 2, 1) := by decide +kernel
theorem d_2_isAhead_20 : decode prog_4_method_11_code 20 = .ok (.iload_n 3, 1) := by decide +kernel
theorem d_2_isAhead_21 : decode prog_4_method_11_code 21 = .ok (.invokevirtual 50, 3) := by decide +kernel
theorem d_2_isAhead_24 : decode prog_4_method_11_code 24 = .ok (.istore 5, 2) := by decide +kernel
theorem d_2_isAhead_26 : decode prog_4_method_11_code 26 = .ok (.iload 5, 2) := by decide +kernel
theorem d_2_isAhead_28 : decode prog_4_method_11_code 28 = .ok (.ifCond .eq 14, 3) := by decide +kernel
theorem d_2_isAhead_31 : decode prog_4_method_11_code 31 = .ok (.iload 5, 2) := by decide +kernel
theorem d_2_isAhead_33 : decode prog_4_method_11_code 33 = .ok (.ifCond .ge 7, 3) := by decide +kernel
theorem d_2_isAhead_36 : decode prog_4_method_11_code 36 = .ok (.iconst 1, 1) := by decide +kernel
theorem d_2_isAhead_37 : decode prog_4_method_11_code 37 = .ok (.goto 4, 3) := by decide +kernel
theorem d_2_isAhead_40 : decode prog_4_method_11_code 40 = .ok (.iconst 0, 1) := by decide +kernel
theorem d_2_isAhead_41 : decode prog_4_method_11_code 41 = .ok (.ireturn, 1) := by decide +kernel
theorem d_2_isAhead_42 : decode prog_4_method_11_code 42 = .ok (.iinc 4 1, 3) := by decide +kernel
theorem d_2_isAhead_45 : decode prog_4_method_11_code 45 = .ok (.goto (-42), 3) := by decide +kernel
theorem d_2_isAhead_48 : decode prog_4_method_11_code 48 = .ok (.iconst 0, 1) := by decide +kernel
theorem d_2_isAhead_49 : decode prog_4_method_11_code 49 = .ok (.ireturn, 1) := by decide +kernel
theorem d_8_freshInto_0 : decode prog_10_method_5_code 0 = .ok (.aload_n 2, 1) := by decide +kernel
theorem d_8_freshInto_1 : decode prog_10_method_5_code 1 = .ok (.invokevirtual 109, 3) := by decide +kernel
theorem d_8_freshInto_4 : decode prog_10_method_5_code 4 = .ok (.iconst 0, 1) := by decide +kernel
theorem d_8_freshInto_5 : decode prog_10_method_5_code 5 = .ok (.istore_n 3, 1) := by decide +kernel
theorem d_8_freshInto_6 : decode prog_10_method_5_code 6 = .ok (.iload_n 3, 1) := by decide +kernel
theorem d_8_freshInto_7 : decode prog_10_method_5_code 7 = .ok (.aload_n 0, 1) := by decide +kernel
theorem d_8_freshInto_8 : decode prog_10_method_5_code 8 = .ok (.getfield 12, 3) := by decide +kernel
theorem d_8_freshInto_11 : decode prog_10_method_5_code 11 = .ok (.getfield 76, 3) := by decide +kernel
theorem d_8_freshInto_14 : decode prog_10_method_5_code 14 = .ok (.invokevirtual 112, 3) := by decide +kernel
theorem d_8_freshInto_17 : decode prog_10_method_5_code 17 = .ok (.if_icmp .ge 82, 3) := by decide +kernel
theorem d_8_freshInto_20 : decode prog_10_method_5_code 20 = .ok (.aload_n 0, 1) := by decide +kernel
theorem d_8_freshInto_21 : decode prog_10_method_5_code 21 = .ok (.getfield 12, 3) := by decide +kernel
theorem d_8_freshInto_24 : decode prog_10_method_5_code 24 = .ok (.getfield 76, 3) := by decide +kernel
theorem d_8_freshInto_27 : decode prog_10_method_5_code 27 = .ok (.iload_n 3, 1) := by decide +kernel
theorem d_8_freshInto_28 : decode prog_10_method_5_code 28 = .ok (.invokevirtual 115, 3) := by decide +kernel
theorem d_8_freshInto_31 : decode prog_10_method_5_code 31 = .ok (.istore 4, 2) := by decide +kernel
theorem d_8_freshInto_33 : decode prog_10_method_5_code 33 = .ok (.aload_n 1, 1) := by decide +kernel
theorem d_8_freshInto_34 : decode prog_10_method_5_code 34 = .ok (.aload_n 0, 1) := by decide +kernel
theorem d_8_freshInto_35 : decode prog_10_method_5_code 35 = .ok (.getfield 12, 3) := by decide +kernel
theorem d_8_freshInto_38 : decode prog_10_method_5_code 38 = .ok (.iload 4, 2) := by decide +kernel
theorem d_8_freshInto_40 : decode prog_10_method_5_code 40 = .ok (.invokevirtual 118, 3) := by decide +kernel
theorem d_8_freshInto_43 : decode prog_10_method_5_code 43 = .ok (.iconst (-1), 1) := by decide +kernel
theorem d_8_freshInto_44 : decode prog_10_method_5_code 44 = .ok (.if_icmp .ne 49, 3) := by decide +kernel
theorem d_8_freshInto_47 : decode prog_10_method_5_code 47 = .ok (.aload_n 2, 1) := by decide +kernel
theorem d_8_freshInto_48 : decode prog_10_method_5_code 48 = .ok (.invokevirtual 112, 3) := by decide +kernel
theorem d_8_freshInto_51 : decode prog_10_method_5_code 51 = .ok (.istore 5, 2) := by decide +kernel
theorem d_8_freshInto_53 : decode prog_10_method_5_code 53 = .ok (.iload 5, 2) := by decide +kernel
theorem d_8_freshInto_55 : decode prog_10_method_5_code 55 = .ok (.ifCond .le 30, 3) := by decide +kernel
theorem d_8_freshInto_58 : decode prog_10_method_5_code 58 = .ok (.aload_n 1, 1) := by decide +kernel
theorem d_8_freshInto_59 : decode prog_10_method_5_code 59 = .ok (.aload_n 0, 1) := by decide +kernel
theorem d_8_freshInto_60 : decode prog_10_method_5_code 60 = .ok (.getfield 12, 3) := by decide +kernel
theorem d_8_freshInto_63 : decode prog_10_method_5_code 63 = .ok (.iload 4, 2) := by decide +kernel
theorem d_8_freshInto_65 : decode prog_10_method_5_code 65 = .ok (.aload_n 2, 1) := by decide +kernel
theorem d_8_freshInto_66 : decode prog_10_method_5_code 66 = .ok (.iload 5, 2) := by decide +kernel
theorem d_8_freshInto_68 : decode prog_10_method_5_code 68 = .ok (.iconst 1, 1) := by decide +kernel
theorem d_8_freshInto_69 : decode prog_10_method_5_code 69 = .ok (.isub, 1) := by decide +kernel
theorem d_8_freshInto_70 : decode prog_10_method_5_code 70 = .ok (.invokevirtual 115, 3) := by decide +kernel
theorem d_8_freshInto_73 : decode prog_10_method_5_code 73 = .ok (.invokevirtual 122, 3) := by decide +kernel
theorem d_8_freshInto_76 : decode prog_10_method_5_code 76 = .ok (.ifCond .eq 9, 3) := by decide +kernel
theorem d_8_freshInto_79 : decode prog_10_method_5_code 79 = .ok (.iinc 5 (-1), 3) := by decide +kernel
theorem d_8_freshInto_82 : decode prog_10_method_5_code 82 = .ok (.goto (-29), 3) := by decide +kernel
theorem d_8_freshInto_85 : decode prog_10_method_5_code 85 = .ok (.aload_n 2, 1) := by decide +kernel
theorem d_8_freshInto_86 : decode prog_10_method_5_code 86 = .ok (.iload 5, 2) := by decide +kernel
theorem d_8_freshInto_88 : decode prog_10_method_5_code 88 = .ok (.iload 4, 2) := by decide +kernel
theorem d_8_freshInto_90 : decode prog_10_method_5_code 90 = .ok (.invokevirtual 126, 3) := by decide +kernel
theorem d_8_freshInto_93 : decode prog_10_method_5_code 93 = .ok (.iinc 3 1, 3) := by decide +kernel
theorem d_8_freshInto_96 : decode prog_10_method_5_code 96 = .ok (.goto (-90), 3) := by decide +kernel
theorem d_8_freshInto_99 : decode prog_10_method_5_code 99 = .ok (.return_, 1) := by decide +kernel
theorem d_11_view_0 : decode prog_1_method_5_code 0 = .ok (.aload_n 0, 1) := by decide +kernel
theorem d_11_view_1 : decode prog_1_method_5_code 1 = .ok (.getfield 10, 3) := by decide +kernel
theorem d_11_view_4 : decode prog_1_method_5_code 4 = .ok (.invokevirtual 70, 3) := by decide +kernel
theorem d_11_view_7 : decode prog_1_method_5_code 7 = .ok (.aload_n 0, 1) := by decide +kernel
theorem d_11_view_8 : decode prog_1_method_5_code 8 = .ok (.iload_n 1, 1) := by decide +kernel
theorem d_11_view_9 : decode prog_1_method_5_code 9 = .ok (.invokevirtual 73, 3) := by decide +kernel
theorem d_11_view_12 : decode prog_1_method_5_code 12 = .ok (.astore_n 2, 1) := by decide +kernel
theorem d_11_view_13 : decode prog_1_method_5_code 13 = .ok (.aload_n 0, 1) := by decide +kernel
theorem d_11_view_14 : decode prog_1_method_5_code 14 = .ok (.getfield 10, 3) := by decide +kernel
theorem d_11_view_17 : decode prog_1_method_5_code 17 = .ok (.invokevirtual 77, 3) := by decide +kernel
theorem d_11_view_20 : decode prog_1_method_5_code 20 = .ok (.aload_n 0, 1) := by decide +kernel
theorem d_11_view_21 : decode prog_1_method_5_code 21 = .ok (.getfield 19, 3) := by decide +kernel
theorem d_11_view_24 : decode prog_1_method_5_code 24 = .ok (.aload_n 0, 1) := by decide +kernel
theorem d_11_view_25 : decode prog_1_method_5_code 25 = .ok (.getfield 10, 3) := by decide +kernel
theorem d_11_view_28 : decode prog_1_method_5_code 28 = .ok (.aload_n 0, 1) := by decide +kernel
theorem d_11_view_29 : decode prog_1_method_5_code 29 = .ok (.getfield 26, 3) := by decide +kernel
theorem d_11_view_32 : decode prog_1_method_5_code 32 = .ok (.getfield 48, 3) := by decide +kernel
theorem d_11_view_35 : decode prog_1_method_5_code 35 = .ok (.invokevirtual 80, 3) := by decide +kernel
theorem d_11_view_38 : decode prog_1_method_5_code 38 = .ok (.ifCond .ne 11, 3) := by decide +kernel
theorem d_11_view_41 : decode prog_1_method_5_code 41 = .ok (.new 56, 3) := by decide +kernel
theorem d_11_view_44 : decode prog_1_method_5_code 44 = .ok (.dup, 1) := by decide +kernel
theorem d_11_view_45 : decode prog_1_method_5_code 45 = .ok (.invokespecial 58, 3) := by decide +kernel
theorem d_11_view_48 : decode prog_1_method_5_code 48 = .ok (.athrow, 1) := by decide +kernel
theorem d_11_view_49 : decode prog_1_method_5_code 49 = .ok (.aload_n 2, 1) := by decide +kernel
theorem d_11_view_50 : decode prog_1_method_5_code 50 = .ok (.getfield 83, 3) := by decide +kernel
theorem d_11_view_53 : decode prog_1_method_5_code 53 = .ok (.aload_n 0, 1) := by decide +kernel
theorem d_11_view_54 : decode prog_1_method_5_code 54 = .ok (.getfield 19, 3) := by decide +kernel
theorem d_11_view_57 : decode prog_1_method_5_code 57 = .ok (.getfield 89, 3) := by decide +kernel
theorem d_11_view_60 : decode prog_1_method_5_code 60 = .ok (.invokevirtual 90, 3) := by decide +kernel
theorem d_11_view_63 : decode prog_1_method_5_code 63 = .ok (.aload_n 0, 1) := by decide +kernel
theorem d_11_view_64 : decode prog_1_method_5_code 64 = .ok (.getfield 26, 3) := by decide +kernel
theorem d_11_view_67 : decode prog_1_method_5_code 67 = .ok (.aload_n 2, 1) := by decide +kernel
theorem d_11_view_68 : decode prog_1_method_5_code 68 = .ok (.getfield 83, 3) := by decide +kernel
theorem d_11_view_71 : decode prog_1_method_5_code 71 = .ok (.aload_n 2, 1) := by decide +kernel
theorem d_11_view_72 : decode prog_1_method_5_code 72 = .ok (.getfield 96, 3) := by decide +kernel
theorem d_11_view_75 : decode prog_1_method_5_code 75 = .ok (.invokevirtual 100, 3) := by decide +kernel
theorem d_11_view_78 : decode prog_1_method_5_code 78 = .ok (.aload_n 2, 1) := by decide +kernel
theorem d_11_view_79 : decode prog_1_method_5_code 79 = .ok (.getfield 96, 3) := by decide +kernel
theorem d_11_view_82 : decode prog_1_method_5_code 82 = .ok (.invokevirtual 104, 3) := by decide +kernel
theorem d_11_view_85 : decode prog_1_method_5_code 85 = .ok (.ireturn, 1) := by decide +kernel
theorem d_11_needColumn_0 : decode prog_1_method_50_code 0 = .ok (.aload_n 0, 1) := by decide +kernel
theorem d_11_needColumn_1 : decode prog_1_method_50_code 1 = .ok (.getfield 26, 3) := by decide +kernel
theorem d_11_needColumn_4 : decode prog_1_method_50_code 4 = .ok (.getfield 48, 3) := by decide +kernel
theorem d_11_needColumn_7 : decode prog_1_method_50_code 7 = .ok (.iload_n 1, 1) := by decide +kernel
theorem d_11_needColumn_8 : decode prog_1_method_50_code 8 = .ok (.invokevirtual 355, 3) := by decide +kernel
theorem d_11_needColumn_11 : decode prog_1_method_50_code 11 = .ok (.ifCond .ne 11, 3) := by decide +kernel
theorem d_11_needColumn_14 : decode prog_1_method_50_code 14 = .ok (.new 345, 3) := by decide +kernel
theorem d_11_needColumn_17 : decode prog_1_method_50_code 17 = .ok (.dup, 1) := by decide +kernel
theorem d_11_needColumn_18 : decode prog_1_method_50_code 18 = .ok (.invokespecial 347, 3) := by decide +kernel
theorem d_11_needColumn_21 : decode prog_1_method_50_code 21 = .ok (.athrow, 1) := by decide +kernel
theorem d_11_needColumn_22 : decode prog_1_method_50_code 22 = .ok (.return_, 1) := by decide +kernel
theorem d_7_kindOf_0 : decode prog_9_method_5_code 0 = .ok (.aload_n 0, 1) := by decide +kernel
theorem d_7_kindOf_1 : decode prog_9_method_5_code 1 = .ok (.iload_n 1, 1) := by decide +kernel
theorem d_7_kindOf_2 : decode prog_9_method_5_code 2 = .ok (.invokevirtual 39, 3) := by decide +kernel
theorem d_7_kindOf_5 : decode prog_9_method_5_code 5 = .ok (.ifCond .eq 12, 3) := by decide +kernel
theorem d_7_kindOf_8 : decode prog_9_method_5_code 8 = .ok (.aload_n 0, 1) := by decide +kernel
theorem d_7_kindOf_9 : decode prog_9_method_5_code 9 = .ok (.getfield 9, 3) := by decide +kernel
theorem d_7_kindOf_12 : decode prog_9_method_5_code 12 = .ok (.iload_n 1, 1) := by decide +kernel
theorem d_7_kindOf_13 : decode prog_9_method_5_code 13 = .ok (.iaload, 1) := by decide +kernel
theorem d_7_kindOf_14 : decode prog_9_method_5_code 14 = .ok (.goto 4, 3) := by decide +kernel
theorem d_7_kindOf_17 : decode prog_9_method_5_code 17 = .ok (.iconst (-1), 1) := by decide +kernel
theorem d_7_kindOf_18 : decode prog_9_method_5_code 18 = .ok (.ireturn, 1) := by decide +kernel
theorem d_11_kind_0 : decode prog_1_method_7_code 0 = .ok (.aload_n 0, 1) := by decide +kernel
theorem d_11_kind_1 : decode prog_1_method_7_code 1 = .ok (.iload_n 1, 1) := by decide +kernel
theorem d_11_kind_2 : decode prog_1_method_7_code 2 = .ok (.invokevirtual 113, 3) := by decide +kernel
theorem d_11_kind_5 : decode prog_1_method_7_code 5 = .ok (.aload_n 0, 1) := by decide +kernel
theorem d_11_kind_6 : decode prog_1_method_7_code 6 = .ok (.getfield 26, 3) := by decide +kernel
theorem d_11_kind_9 : decode prog_1_method_7_code 9 = .ok (.getfield 48, 3) := by decide +kernel
theorem d_11_kind_12 : decode prog_1_method_7_code 12 = .ok (.iload_n 1, 1) := by decide +kernel
theorem d_11_kind_13 : decode prog_1_method_7_code 13 = .ok (.invokevirtual 116, 3) := by decide +kernel
theorem d_11_kind_16 : decode prog_1_method_7_code 16 = .ok (.ireturn, 1) := by decide +kernel
theorem d_7_seatOf_0 : decode prog_9_method_7_code 0 = .ok (.iconst 0, 1) := by decide +kernel
theorem d_7_seatOf_1 : decode prog_9_method_7_code 1 = .ok (.istore_n 2, 1) := by decide +kernel
theorem d_7_seatOf_2 : decode prog_9_method_7_code 2 = .ok (.iload_n 2, 1) := by decide +kernel
theorem d_7_seatOf_3 : decode prog_9_method_7_code 3 = .ok (.aload_n 0, 1) := by decide +kernel
theorem d_7_seatOf_4 : decode prog_9_method_7_code 4 = .ok (.getfield 27, 3) := by decide +kernel
theorem d_7_seatOf_7 : decode prog_9_method_7_code 7 = .ok (.invokevirtual 31, 3) := by decide +kernel
theorem d_7_seatOf_10 : decode prog_9_method_7_code 10 = .ok (.if_icmp .ge 29, 3) := by decide +kernel
theorem d_7_seatOf_13 : decode prog_9_method_7_code 13 = .ok (.aload_n 0, 1) := by decide +kernel
theorem d_7_seatOf_14 : decode prog_9_method_7_code 14 = .ok (.getfield 27, 3) := by decide +kernel
theorem d_7_seatOf_17 : decode prog_9_method_7_code 17 = .ok (.iload_n 2, 1) := by decide +kernel
theorem d_7_seatOf_18 : decode prog_9_method_7_code 18 = .ok (.invokevirtual 46, 3) := by decide +kernel
theorem d_7_seatOf_21 : decode prog_9_method_7_code 21 = .ok (.istore_n 3, 1) := by decide +kernel
theorem d_7_seatOf_22 : decode prog_9_method_7_code 22 = .ok (.aload_n 0, 1) := by decide +kernel
theorem d_7_seatOf_23 : decode prog_9_method_7_code 23 = .ok (.iload_n 3, 1) := by decide +kernel
theorem d_7_seatOf_24 : decode prog_9_method_7_code 24 = .ok (.invokevirtual 50, 3) := by decide +kernel
theorem d_7_seatOf_27 : decode prog_9_method_7_code 27 = .ok (.iload_n 1, 1) := by decide +kernel
theorem d_7_seatOf_28 : decode prog_9_method_7_code 28 = .ok (.if_icmp .ne 5, 3) := by decide +kernel
theorem d_7_seatOf_31 : decode prog_9_method_7_code 31 = .ok (.iload_n 3, 1) := by decide +kernel
theorem d_7_seatOf_32 : decode prog_9_method_7_code 32 = .ok (.ireturn, 1) := by decide +kernel
theorem d_7_seatOf_33 : decode prog_9_method_7_code 33 = .ok (.iinc 2 1, 3) := by decide +kernel
theorem d_7_seatOf_36 : decode prog_9_method_7_code 36 = .ok (.goto (-34), 3) := by decide +kernel
theorem d_7_seatOf_39 : decode prog_9_method_7_code 39 = .ok (.iconst (-1), 1) := by decide +kernel
theorem d_7_seatOf_40 : decode prog_9_method_7_code 40 = .ok (.ireturn, 1) := by decide +kernel
theorem d_11_seatOfKey_0 : decode prog_1_method_49_code 0 = .ok (.aload_n 0, 1) := by decide +kernel
theorem d_11_seatOfKey_1 : decode prog_1_method_49_code 1 = .ok (.getfield 26, 3) := by decide +kernel
theorem d_11_seatOfKey_4 : decode prog_1_method_49_code 4 = .ok (.getfield 48, 3) := by decide +kernel
theorem d_11_seatOfKey_7 : decode prog_1_method_49_code 7 = .ok (.iload_n 1, 1) := by decide +kernel
theorem d_11_seatOfKey_8 : decode prog_1_method_49_code 8 = .ok (.invokevirtual 352, 3) := by decide +kernel
theorem d_11_seatOfKey_11 : decode prog_1_method_49_code 11 = .ok (.istore_n 2, 1) := by decide +kernel
theorem d_11_seatOfKey_12 : decode prog_1_method_49_code 12 = .ok (.iload_n 2, 1) := by decide +kernel
theorem d_11_seatOfKey_13 : decode prog_1_method_49_code 13 = .ok (.iconst (-1), 1) := by decide +kernel
theorem d_11_seatOfKey_14 : decode prog_1_method_49_code 14 = .ok (.if_icmp .ne 11, 3) := by decide +kernel
theorem d_11_seatOfKey_17 : decode prog_1_method_49_code 17 = .ok (.new 345, 3) := by decide +kernel
theorem d_11_seatOfKey_20 : decode prog_1_method_49_code 20 = .ok (.dup, 1) := by decide +kernel
theorem d_11_seatOfKey_21 : decode prog_1_method_49_code 21 = .ok (.invokespecial 347, 3) := by decide +kernel
theorem d_11_seatOfKey_24 : decode prog_1_method_49_code 24 = .ok (.athrow, 1) := by decide +kernel
theorem d_11_seatOfKey_25 : decode prog_1_method_49_code 25 = .ok (.iload_n 2, 1) := by decide +kernel
theorem d_11_seatOfKey_26 : decode prog_1_method_49_code 26 = .ok (.ireturn, 1) := by decide +kernel
theorem d_11_cell_0 : decode prog_1_method_8_code 0 = .ok (.aload_n 0, 1) := by decide +kernel
theorem d_11_cell_1 : decode prog_1_method_8_code 1 = .ok (.iload_n 1, 1) := by decide +kernel
theorem d_11_cell_2 : decode prog_1_method_8_code 2 = .ok (.invokevirtual 120, 3) := by decide +kernel
theorem d_11_cell_5 : decode prog_1_method_8_code 5 = .ok (.istore_n 3, 1) := by decide +kernel
theorem d_11_cell_6 : decode prog_1_method_8_code 6 = .ok (.aload_n 0, 1) := by decide +kernel
theorem d_11_cell_7 : decode prog_1_method_8_code 7 = .ok (.iload_n 2, 1) := by decide +kernel
theorem d_11_cell_8 : decode prog_1_method_8_code 8 = .ok (.invokevirtual 113, 3) := by decide +kernel
theorem d_11_cell_11 : decode prog_1_method_8_code 11 = .ok (.aload_n 0, 1) := by decide +kernel
theorem d_11_cell_12 : decode prog_1_method_8_code 12 = .ok (.getfield 26, 3) := by decide +kernel
theorem d_11_cell_15 : decode prog_1_method_8_code 15 = .ok (.getfield 48, 3) := by decide +kernel
theorem d_11_cell_18 : decode prog_1_method_8_code 18 = .ok (.iload_n 3, 1) := by decide +kernel
theorem d_11_cell_19 : decode prog_1_method_8_code 19 = .ok (.iload_n 2, 1) := by decide +kernel
theorem d_11_cell_20 : decode prog_1_method_8_code 20 = .ok (.invokevirtual 123, 3) := by decide +kernel
theorem d_11_cell_23 : decode prog_1_method_8_code 23 = .ok (.ireturn, 1) := by decide +kernel
theorem d_11_row_0 : decode prog_1_method_10_code 0 = .ok (.aload_n 0, 1) := by decide +kernel
theorem d_11_row_1 : decode prog_1_method_10_code 1 = .ok (.getfield 26, 3) := by decide +kernel
theorem d_11_row_4 : decode prog_1_method_10_code 4 = .ok (.getfield 48, 3) := by decide +kernel
theorem d_11_row_7 : decode prog_1_method_10_code 7 = .ok (.aload_n 0, 1) := by decide +kernel
theorem d_11_row_8 : decode prog_1_method_10_code 8 = .ok (.iload_n 1, 1) := by decide +kernel
theorem d_11_row_9 : decode prog_1_method_10_code 9 = .ok (.invokevirtual 73, 3) := by decide +kernel
theorem d_11_row_12 : decode prog_1_method_10_code 12 = .ok (.getfield 96, 3) := by decide +kernel
theorem d_11_row_15 : decode prog_1_method_10_code 15 = .ok (.iload_n 2, 1) := by decide +kernel
theorem d_11_row_16 : decode prog_1_method_10_code 16 = .ok (.invokevirtual 130, 3) := by decide +kernel
theorem d_11_row_19 : decode prog_1_method_10_code 19 = .ok (.invokevirtual 133, 3) := by decide +kernel
theorem d_11_row_22 : decode prog_1_method_10_code 22 = .ok (.ireturn, 1) := by decide +kernel
theorem d_11_place_0 : decode prog_1_method_11_code 0 = .ok (.aload_n 0, 1) := by decide +kernel
theorem d_11_place_1 : decode prog_1_method_11_code 1 = .ok (.iload_n 1, 1) := by decide +kernel
theorem d_11_place_2 : decode prog_1_method_11_code 2 = .ok (.invokevirtual 73, 3) := by decide +kernel
theorem d_11_place_5 : decode prog_1_method_11_code 5 = .ok (.astore_n 3, 1) := by decide +kernel
theorem d_11_place_6 : decode prog_1_method_11_code 6 = .ok (.aload_n 3, 1) := by decide +kernel
theorem d_11_place_7 : decode prog_1_method_11_code 7 = .ok (.getfield 96, 3) := by decide +kernel
theorem d_11_place_10 : decode prog_1_method_11_code 10 = .ok (.aload_n 0, 1) := by decide +kernel
theorem d_11_place_11 : decode prog_1_method_11_code 11 = .ok (.iload_n 2, 1) := by decide +kernel
theorem d_11_place_12 : decode prog_1_method_11_code 12 = .ok (.invokevirtual 120, 3) := by decide +kernel
theorem d_11_place_15 : decode prog_1_method_11_code 15 = .ok (.invokevirtual 136, 3) := by decide +kernel
theorem d_11_place_18 : decode prog_1_method_11_code 18 = .ok (.ireturn, 1) := by decide +kernel
theorem d_2_filteredBits_0 : decode prog_4_method_8_code 0 = .ok (.iconst 0, 1) := by decide +kernel
theorem d_2_filteredBits_1 : decode prog_4_method_8_code 1 = .ok (.istore_n 1, 1) := by decide +kernel
theorem d_2_filteredBits_2 : decode prog_4_method_8_code 2 = .ok (.iconst 0, 1) := by decide +kernel
theorem d_2_filteredBits_3 : decode prog_4_method_8_code 3 = .ok (.istore_n 2, 1) := by decide +kernel
theorem d_2_filteredBits_4 : decode prog_4_method_8_code 4 = .ok (.iload_n 2, 1) := by decide +kernel
theorem d_2_filteredBits_5 : decode prog_4_method_8_code 5 = .ok (.iconst 5, 1) := by decide +kernel
theorem d_2_filteredBits_6 : decode prog_4_method_8_code 6 = .ok (.if_icmp .ge 27, 3) := by decide +kernel
theorem d_2_filteredBits_9 : decode prog_4_method_8_code 9 = .ok (.aload_n 0, 1) := by decide +kernel
theorem d_2_filteredBits_10 : decode prog_4_method_8_code 10 = .ok (.getfield 11, 3) := by decide +kernel
theorem d_2_filteredBits_13 : decode prog_4_method_8_code 13 = .ok (.iload_n 2, 1) := by decide +kernel
theorem d_2_filteredBits_14 : decode prog_4_method_8_code 14 = .ok (.aaload, 1) := by decide +kernel
theorem d_2_filteredBits_15 : decode prog_4_method_8_code 15 = .ok (.getfield 22, 3) := by decide +kernel
theorem d_2_filteredBits_18 : decode prog_4_method_8_code 18 = .ok (.ifCond .le 9, 3) := by decide +kernel
theorem d_2_filteredBits_21 : decode prog_4_method_8_code 21 = .ok (.iload_n 1, 1) := by decide +kernel
theorem d_2_filteredBits_22 : decode prog_4_method_8_code 22 = .ok (.iconst 1, 1) := by decide +kernel
theorem d_2_filteredBits_23 : decode prog_4_method_8_code 23 = .ok (.iload_n 2, 1) := by decide +kernel
theorem d_2_filteredBits_24 : decode prog_4_method_8_code 24 = .ok (.ishl, 1) := by decide +kernel
theorem d_2_filteredBits_25 : decode prog_4_method_8_code 25 = .ok (.ior, 1) := by decide +kernel
theorem d_2_filteredBits_26 : decode prog_4_method_8_code 26 = .ok (.istore_n 1, 1) := by decide +kernel
theorem d_2_filteredBits_27 : decode prog_4_method_8_code 27 = .ok (.iinc 2 1, 3) := by decide +kernel
theorem d_2_filteredBits_30 : decode prog_4_method_8_code 30 = .ok (.goto (-26), 3) := by decide +kernel
theorem d_2_filteredBits_33 : decode prog_4_method_8_code 33 = .ok (.iload_n 1, 1) := by decide +kernel
theorem d_2_filteredBits_34 : decode prog_4_method_8_code 34 = .ok (.ireturn, 1) := by decide +kernel
theorem d_11_about_0 : decode prog_1_method_12_code 0 = .ok (.aload_n 0, 1) := by decide +kernel
theorem d_11_about_1 : decode prog_1_method_12_code 1 = .ok (.iload_n 1, 1) := by decide +kernel
theorem d_11_about_2 : decode prog_1_method_12_code 2 = .ok (.invokevirtual 73, 3) := by decide +kernel
theorem d_11_about_5 : decode prog_1_method_12_code 5 = .ok (.astore_n 3, 1) := by decide +kernel
theorem d_11_about_6 : decode prog_1_method_12_code 6 = .ok (.iload_n 2, 1) := by decide +kernel
theorem d_11_about_7 : decode prog_1_method_12_code 7 = .ok (.tableswitch 70 0 4 #[33, 41, 49, 57, 65], 33) := by decide +kernel
theorem d_11_about_40 : decode prog_1_method_12_code 40 = .ok (.aload_n 3, 1) := by decide +kernel
theorem d_11_about_41 : decode prog_1_method_12_code 41 = .ok (.getfield 96, 3) := by decide +kernel
theorem d_11_about_44 : decode prog_1_method_12_code 44 = .ok (.invokevirtual 104, 3) := by decide +kernel
theorem d_11_about_47 : decode prog_1_method_12_code 47 = .ok (.ireturn, 1) := by decide +kernel
theorem d_11_about_48 : decode prog_1_method_12_code 48 = .ok (.aload_n 3, 1) := by decide +kernel
theorem d_11_about_49 : decode prog_1_method_12_code 49 = .ok (.getfield 83, 3) := by decide +kernel
theorem d_11_about_52 : decode prog_1_method_12_code 52 = .ok (.getfield 139, 3) := by decide +kernel
theorem d_11_about_55 : decode prog_1_method_12_code 55 = .ok (.ireturn, 1) := by decide +kernel
theorem d_11_about_56 : decode prog_1_method_12_code 56 = .ok (.aload_n 3, 1) := by decide +kernel
theorem d_11_about_57 : decode prog_1_method_12_code 57 = .ok (.getfield 83, 3) := by decide +kernel
theorem d_11_about_60 : decode prog_1_method_12_code 60 = .ok (.getfield 142, 3) := by decide +kernel
theorem d_11_about_63 : decode prog_1_method_12_code 63 = .ok (.ireturn, 1) := by decide +kernel
theorem d_11_about_64 : decode prog_1_method_12_code 64 = .ok (.aload_n 3, 1) := by decide +kernel
theorem d_11_about_65 : decode prog_1_method_12_code 65 = .ok (.getfield 83, 3) := by decide +kernel
theorem d_11_about_68 : decode prog_1_method_12_code 68 = .ok (.invokevirtual 145, 3) := by decide +kernel
theorem d_11_about_71 : decode prog_1_method_12_code 71 = .ok (.ireturn, 1) := by decide +kernel
theorem d_11_about_72 : decode prog_1_method_12_code 72 = .ok (.aload_n 3, 1) := by decide +kernel
theorem d_11_about_73 : decode prog_1_method_12_code 73 = .ok (.getfield 148, 3) := by decide +kernel
theorem d_11_about_76 : decode prog_1_method_12_code 76 = .ok (.ireturn, 1) := by decide +kernel
theorem d_11_about_77 : decode prog_1_method_12_code 77 = .ok (.new 151, 3) := by decide +kernel
theorem d_11_about_80 : decode prog_1_method_12_code 80 = .ok (.dup, 1) := by decide +kernel
theorem d_11_about_81 : decode prog_1_method_12_code 81 = .ok (.invokespecial 153, 3) := by decide +kernel
theorem d_11_about_84 : decode prog_1_method_12_code 84 = .ok (.athrow, 1) := by decide +kernel
theorem d_11_sorts_0 : decode prog_1_method_13_code 0 = .ok (.aload_n 0, 1) := by decide +kernel
theorem d_11_sorts_1 : decode prog_1_method_13_code 1 = .ok (.iload_n 1, 1) := by decide +kernel
theorem d_11_sorts_2 : decode prog_1_method_13_code 2 = .ok (.invokevirtual 73, 3) := by decide +kernel
theorem d_11_sorts_5 : decode prog_1_method_13_code 5 = .ok (.getfield 83, 3) := by decide +kernel
theorem d_11_sorts_8 : decode prog_1_method_13_code 8 = .ok (.iload_n 2, 1) := by decide +kernel
theorem d_11_sorts_9 : decode prog_1_method_13_code 9 = .ok (.invokevirtual 154, 3) := by decide +kernel
theorem d_11_sorts_12 : decode prog_1_method_13_code 12 = .ok (.ireturn, 1) := by decide +kernel
theorem d_11_seatAtPlace_0 : decode prog_1_method_48_code 0 = .ok (.aload_n 1, 1) := by decide +kernel
theorem d_11_seatAtPlace_1 : decode prog_1_method_48_code 1 = .ok (.getfield 96, 3) := by decide +kernel
theorem d_11_seatAtPlace_4 : decode prog_1_method_48_code 4 = .ok (.iload_n 2, 1) := by decide +kernel
theorem d_11_seatAtPlace_5 : decode prog_1_method_48_code 5 = .ok (.invokevirtual 130, 3) := by decide +kernel
theorem d_11_seatAtPlace_8 : decode prog_1_method_48_code 8 = .ok (.istore_n 3, 1) := by decide +kernel
theorem d_11_seatAtPlace_9 : decode prog_1_method_48_code 9 = .ok (.iload_n 3, 1) := by decide +kernel
theorem d_11_seatAtPlace_10 : decode prog_1_method_48_code 10 = .ok (.iconst (-1), 1) := by decide +kernel
theorem d_11_seatAtPlace_11 : decode prog_1_method_48_code 11 = .ok (.if_icmp .ne 11, 3) := by decide +kernel
theorem d_11_seatAtPlace_14 : decode prog_1_method_48_code 14 = .ok (.new 345, 3) := by decide +kernel
theorem d_11_seatAtPlace_17 : decode prog_1_method_48_code 17 = .ok (.dup, 1) := by decide +kernel
theorem d_11_seatAtPlace_18 : decode prog_1_method_48_code 18 = .ok (.invokespecial 347, 3) := by decide +kernel
theorem d_11_seatAtPlace_21 : decode prog_1_method_48_code 21 = .ok (.athrow, 1) := by decide +kernel
theorem d_11_seatAtPlace_22 : decode prog_1_method_48_code 22 = .ok (.iload_n 3, 1) := by decide +kernel
theorem d_11_seatAtPlace_23 : decode prog_1_method_48_code 23 = .ok (.ireturn, 1) := by decide +kernel
theorem d_11_needShown_0 : decode prog_1_method_51_code 0 = .ok (.aload_n 1, 1) := by decide +kernel
theorem d_11_needShown_1 : decode prog_1_method_51_code 1 = .ok (.getfield 83, 3) := by decide +kernel
theorem d_11_needShown_4 : decode prog_1_method_51_code 4 = .ok (.iload_n 2, 1) := by decide +kernel
theorem d_11_needShown_5 : decode prog_1_method_51_code 5 = .ok (.invokevirtual 359, 3) := by decide +kernel
theorem d_11_needShown_8 : decode prog_1_method_51_code 8 = .ok (.ifCond .eq 11, 3) := by decide +kernel
theorem d_11_needShown_11 : decode prog_1_method_51_code 11 = .ok (.new 243, 3) := by decide +kernel
theorem d_11_needShown_14 : decode prog_1_method_51_code 14 = .ok (.dup, 1) := by decide +kernel
theorem d_11_needShown_15 : decode prog_1_method_51_code 15 = .ok (.invokespecial 245, 3) := by decide +kernel
theorem d_11_needShown_18 : decode prog_1_method_51_code 18 = .ok (.athrow, 1) := by decide +kernel
theorem d_11_needShown_19 : decode prog_1_method_51_code 19 = .ok (.return_, 1) := by decide +kernel
theorem d_1_isWord_0 : decode prog_3_method_7_code 0 = .ok (.iload_n 0, 1) := by decide +kernel
theorem d_1_isWord_1 : decode prog_3_method_7_code 1 = .ok (.sipush 19683, 3) := by decide +kernel
theorem d_1_isWord_4 : decode prog_3_method_7_code 4 = .ok (.if_icmp .lt 9, 3) := by decide +kernel
theorem d_1_isWord_7 : decode prog_3_method_7_code 7 = .ok (.iload_n 0, 1) := by decide +kernel
theorem d_1_isWord_8 : decode prog_3_method_7_code 8 = .ok (.ldc 37, 2) := by decide +kernel
theorem d_1_isWord_10 : decode prog_3_method_7_code 10 = .ok (.if_icmp .lt 5, 3) := by decide +kernel
theorem d_1_isWord_13 : decode prog_3_method_7_code 13 = .ok (.iconst 0, 1) := by decide +kernel
theorem d_1_isWord_14 : decode prog_3_method_7_code 14 = .ok (.ireturn, 1) := by decide +kernel
theorem d_1_isWord_15 : decode prog_3_method_7_code 15 = .ok (.iload_n 0, 1) := by decide +kernel
theorem d_1_isWord_16 : decode prog_3_method_7_code 16 = .ok (.istore_n 1, 1) := by decide +kernel
theorem d_1_isWord_17 : decode prog_3_method_7_code 17 = .ok (.iconst 0, 1) := by decide +kernel
theorem d_1_isWord_18 : decode prog_3_method_7_code 18 = .ok (.istore_n 2, 1) := by decide +kernel
theorem d_1_isWord_19 : decode prog_3_method_7_code 19 = .ok (.iload_n 2, 1) := by decide +kernel
theorem d_1_isWord_20 : decode prog_3_method_7_code 20 = .ok (.iconst 4, 1) := by decide +kernel
theorem d_1_isWord_21 : decode prog_3_method_7_code 21 = .ok (.if_icmp .ge 41, 3) := by decide +kernel
theorem d_1_isWord_24 : decode prog_3_method_7_code 24 = .ok (.iload_n 1, 1) := by decide +kernel
theorem d_1_isWord_25 : decode prog_3_method_7_code 25 = .ok (.sipush 19683, 3) := by decide +kernel
theorem d_1_isWord_28 : decode prog_3_method_7_code 28 = .ok (.if_icmp .ge 7, 3) := by decide +kernel
theorem d_1_isWord_31 : decode prog_3_method_7_code 31 = .ok (.iconst 1, 1) := by decide +kernel
theorem d_1_isWord_32 : decode prog_3_method_7_code 32 = .ok (.goto 4, 3) := by decide +kernel
theorem d_1_isWord_35 : decode prog_3_method_7_code 35 = .ok (.iconst 0, 1) := by decide +kernel
theorem d_1_isWord_36 : decode prog_3_method_7_code 36 = .ok (.istore_n 3, 1) := by decide +kernel
theorem d_1_isWord_37 : decode prog_3_method_7_code 37 = .ok (.iload_n 3, 1) := by decide +kernel
theorem d_1_isWord_38 : decode prog_3_method_7_code 38 = .ok (.ifCond .eq 9, 3) := by decide +kernel
theorem d_1_isWord_41 : decode prog_3_method_7_code 41 = .ok (.iload_n 1, 1) := by decide +kernel
theorem d_1_isWord_42 : decode prog_3_method_7_code 42 = .ok (.ifCond .le 5, 3) := by decide +kernel
theorem d_1_isWord_45 : decode prog_3_method_7_code 45 = .ok (.iconst 0, 1) := by decide +kernel
theorem d_1_isWord_46 : decode prog_3_method_7_code 46 = .ok (.ireturn, 1) := by decide +kernel
theorem d_1_isWord_47 : decode prog_3_method_7_code 47 = .ok (.iload_n 1, 1) := by decide +kernel
theorem d_1_isWord_48 : decode prog_3_method_7_code 48 = .ok (.sipush 19683, 3) := by decide +kernel
theorem d_1_isWord_51 : decode prog_3_method_7_code 51 = .ok (.irem, 1) := by decide +kernel
theorem d_1_isWord_52 : decode prog_3_method_7_code 52 = .ok (.bipush 27, 2) := by decide +kernel
theorem d_1_isWord_54 : decode prog_3_method_7_code 54 = .ok (.imul, 1) := by decide +kernel
theorem d_1_isWord_55 : decode prog_3_method_7_code 55 = .ok (.istore_n 1, 1) := by decide +kernel
theorem d_1_isWord_56 : decode prog_3_method_7_code 56 = .ok (.iinc 2 1, 3) := by decide +kernel
theorem d_1_isWord_59 : decode prog_3_method_7_code 59 = .ok (.goto (-40), 3) := by decide +kernel
theorem d_1_isWord_62 : decode prog_3_method_7_code 62 = .ok (.iconst 1, 1) := by decide +kernel
theorem d_1_isWord_63 : decode prog_3_method_7_code 63 = .ok (.ireturn, 1) := by decide +kernel
theorem d_7_mayHold_0 : decode prog_9_method_11_code 0 = .ok (.aload_n 0, 1) := by decide +kernel
theorem d_7_mayHold_1 : decode prog_9_method_11_code 1 = .ok (.iload_n 1, 1) := by decide +kernel
theorem d_7_mayHold_2 : decode prog_9_method_11_code 2 = .ok (.invokevirtual 54, 3) := by decide +kernel
theorem d_7_mayHold_5 : decode prog_9_method_11_code 5 = .ok (.ifCond .ne 23, 3) := by decide +kernel
theorem d_7_mayHold_8 : decode prog_9_method_11_code 8 = .ok (.iload_n 2, 1) := by decide +kernel
theorem d_7_mayHold_9 : decode prog_9_method_11_code 9 = .ok (.sipush (-999), 3) := by decide +kernel
theorem d_7_mayHold_12 : decode prog_9_method_11_code 12 = .ok (.if_icmp .lt 14, 3) := by decide +kernel
theorem d_7_mayHold_15 : decode prog_9_method_11_code 15 = .ok (.iload_n 2, 1) := by decide +kernel
theorem d_7_mayHold_16 : decode prog_9_method_11_code 16 = .ok (.sipush 999, 3) := by decide +kernel
theorem d_7_mayHold_19 : decode prog_9_method_11_code 19 = .ok (.if_icmp .gt 7, 3) := by decide +kernel
theorem d_7_mayHold_22 : decode prog_9_method_11_code 22 = .ok (.iconst 1, 1) := by decide +kernel
theorem d_7_mayHold_23 : decode prog_9_method_11_code 23 = .ok (.goto 4, 3) := by decide +kernel
theorem d_7_mayHold_26 : decode prog_9_method_11_code 26 = .ok (.iconst 0, 1) := by decide +kernel
theorem d_7_mayHold_27 : decode prog_9_method_11_code 27 = .ok (.ireturn, 1) := by decide +kernel
theorem d_7_mayHold_28 : decode prog_9_method_11_code 28 = .ok (.iload_n 2, 1) := by decide +kernel
theorem d_7_mayHold_29 : decode prog_9_method_11_code 29 = .ok (.invokestatic 57, 3) := by decide +kernel
theorem d_7_mayHold_32 : decode prog_9_method_11_code 32 = .ok (.ireturn, 1) := by decide +kernel
theorem d_8_beginEdit_0 : decode prog_10_method_6_code 0 = .ok (.aload_n 0, 1) := by decide +kernel
theorem d_8_beginEdit_1 : decode prog_10_method_6_code 1 = .ok (.getfield 34, 3) := by decide +kernel
theorem d_8_beginEdit_4 : decode prog_10_method_6_code 4 = .ok (.iconst 0, 1) := by decide +kernel
theorem d_8_beginEdit_5 : decode prog_10_method_6_code 5 = .ok (.putfield 129, 3) := by decide +kernel
theorem d_8_beginEdit_8 : decode prog_10_method_6_code 8 = .ok (.return_, 1) := by decide +kernel
theorem d_0_takeChange_0 : decode prog_2_method_2_code 0 = .ok (.aload_n 0, 1) := by decide +kernel
theorem d_0_takeChange_1 : decode prog_2_method_2_code 1 = .ok (.getfield 24, 3) := by decide +kernel
theorem d_0_takeChange_4 : decode prog_2_method_2_code 4 = .ok (.bipush 60, 2) := by decide +kernel
theorem d_0_takeChange_6 : decode prog_2_method_2_code 6 = .ok (.if_icmp .ge 54, 3) := by decide +kernel
theorem d_0_takeChange_9 : decode prog_2_method_2_code 9 = .ok (.aload_n 0, 1) := by decide +kernel
theorem d_0_takeChange_10 : decode prog_2_method_2_code 10 = .ok (.getfield 9, 3) := by decide +kernel
theorem d_0_takeChange_13 : decode prog_2_method_2_code 13 = .ok (.aload_n 0, 1) := by decide +kernel
theorem d_0_takeChange_14 : decode prog_2_method_2_code 14 = .ok (.getfield 24, 3) := by decide +kernel
theorem d_0_takeChange_17 : decode prog_2_method_2_code 17 = .ok (.iload_n 1, 1) := by decide +kernel
theorem d_0_takeChange_18 : decode prog_2_method_2_code 18 = .ok (.iastore, 1) := by decide +kernel
theorem d_0_takeChange_19 : decode prog_2_method_2_code 19 = .ok (.aload_n 0, 1) := by decide +kernel
theorem d_0_takeChange_20 : decode prog_2_method_2_code 20 = .ok (.getfield 15, 3) := by decide +kernel
theorem d_0_takeChange_23 : decode prog_2_method_2_code 23 = .ok (.aload_n 0, 1) := by decide +kernel
theorem d_0_takeChange_24 : decode prog_2_method_2_code 24 = .ok (.getfield 24, 3) := by decide +kernel
theorem d_0_takeChange_27 : decode prog_2_method_2_code 27 = .ok (.iload_n 2, 1) := by decide +kernel
theorem d_0_takeChange_28 : decode prog_2_method_2_code 28 = .ok (.iastore, 1) := by decide +kernel
theorem d_0_takeChange_29 : decode prog_2_method_2_code 29 = .ok (.aload_n 0, 1) := by decide +kernel
theorem d_0_takeChange_30 : decode prog_2_method_2_code 30 = .ok (.getfield 18, 3) := by decide +kernel
theorem d_0_takeChange_33 : decode prog_2_method_2_code 33 = .ok (.aload_n 0, 1) := by decide +kernel
theorem d_0_takeChange_34 : decode prog_2_method_2_code 34 = .ok (.getfield 24, 3) := by decide +kernel
theorem d_0_takeChange_37 : decode prog_2_method_2_code 37 = .ok (.iload_n 3, 1) := by decide +kernel
theorem d_0_takeChange_38 : decode prog_2_method_2_code 38 = .ok (.iastore, 1) := by decide +kernel
theorem d_0_takeChange_39 : decode prog_2_method_2_code 39 = .ok (.aload_n 0, 1) := by decide +kernel
theorem d_0_takeChange_40 : decode prog_2_method_2_code 40 = .ok (.getfield 21, 3) := by decide +kernel
theorem d_0_takeChange_43 : decode prog_2_method_2_code 43 = .ok (.aload_n 0, 1) := by decide +kernel
theorem d_0_takeChange_44 : decode prog_2_method_2_code 44 = .ok (.getfield 24, 3) := by decide +kernel
theorem d_0_takeChange_47 : decode prog_2_method_2_code 47 = .ok (.iload 4, 2) := by decide +kernel
theorem d_0_takeChange_49 : decode prog_2_method_2_code 49 = .ok (.iastore, 1) := by decide +kernel
theorem d_0_takeChange_50 : decode prog_2_method_2_code 50 = .ok (.aload_n 0, 1) := by decide +kernel
theorem d_0_takeChange_51 : decode prog_2_method_2_code 51 = .ok (.dup, 1) := by decide +kernel
theorem d_0_takeChange_52 : decode prog_2_method_2_code 52 = .ok (.getfield 24, 3) := by decide +kernel
theorem d_0_takeChange_55 : decode prog_2_method_2_code 55 = .ok (.iconst 1, 1) := by decide +kernel
theorem d_0_takeChange_56 : decode prog_2_method_2_code 56 = .ok (.iadd, 1) := by decide +kernel
theorem d_0_takeChange_57 : decode prog_2_method_2_code 57 = .ok (.putfield 24, 3) := by decide +kernel
theorem d_0_takeChange_60 : decode prog_2_method_2_code 60 = .ok (.return_, 1) := by decide +kernel
theorem d_3_takeChange_0 : decode prog_5_method_2_code 0 = .ok (.aload_n 0, 1) := by decide +kernel
theorem d_3_takeChange_1 : decode prog_5_method_2_code 1 = .ok (.getfield 15, 3) := by decide +kernel
theorem d_3_takeChange_4 : decode prog_5_method_2_code 4 = .ok (.iconst 5, 1) := by decide +kernel
theorem d_3_takeChange_5 : decode prog_5_method_2_code 5 = .ok (.imul, 1) := by decide +kernel
theorem d_3_takeChange_6 : decode prog_5_method_2_code 6 = .ok (.istore 6, 2) := by decide +kernel
theorem d_3_takeChange_8 : decode prog_5_method_2_code 8 = .ok (.iload 6, 2) := by decide +kernel
theorem d_3_takeChange_10 : decode prog_5_method_2_code 10 = .ok (.ifCond .lt 13, 3) := by decide +kernel
theorem d_3_takeChange_13 : decode prog_5_method_2_code 13 = .ok (.iload 6, 2) := by decide +kernel
theorem d_3_takeChange_15 : decode prog_5_method_2_code 15 = .ok (.iconst 5, 1) := by decide +kernel
theorem d_3_takeChange_16 : decode prog_5_method_2_code 16 = .ok (.iadd, 1) := by decide +kernel
theorem d_3_takeChange_17 : decode prog_5_method_2_code 17 = .ok (.sipush 200, 3) := by decide +kernel
theorem d_3_takeChange_20 : decode prog_5_method_2_code 20 = .ok (.if_icmp .le 4, 3) := by decide +kernel
theorem d_3_takeChange_23 : decode prog_5_method_2_code 23 = .ok (.return_, 1) := by decide +kernel
theorem d_3_takeChange_24 : decode prog_5_method_2_code 24 = .ok (.aload_n 0, 1) := by decide +kernel
theorem d_3_takeChange_25 : decode prog_5_method_2_code 25 = .ok (.getfield 11, 3) := by decide +kernel
theorem d_3_takeChange_28 : decode prog_5_method_2_code 28 = .ok (.iload 6, 2) := by decide +kernel
theorem d_3_takeChange_30 : decode prog_5_method_2_code 30 = .ok (.iload_n 1, 1) := by decide +kernel
theorem d_3_takeChange_31 : decode prog_5_method_2_code 31 = .ok (.iastore, 1) := by decide +kernel
theorem d_3_takeChange_32 : decode prog_5_method_2_code 32 = .ok (.aload_n 0, 1) := by decide +kernel
theorem d_3_takeChange_33 : decode prog_5_method_2_code 33 = .ok (.getfield 11, 3) := by decide +kernel
theorem d_3_takeChange_36 : decode prog_5_method_2_code 36 = .ok (.iload 6, 2) := by decide +kernel
theorem d_3_takeChange_38 : decode prog_5_method_2_code 38 = .ok (.iconst 1, 1) := by decide +kernel
theorem d_3_takeChange_39 : decode prog_5_method_2_code 39 = .ok (.iadd, 1) := by decide +kernel
theorem d_3_takeChange_40 : decode prog_5_method_2_code 40 = .ok (.iload_n 2, 1) := by decide +kernel
theorem d_3_takeChange_41 : decode prog_5_method_2_code 41 = .ok (.iastore, 1) := by decide +kernel
theorem d_3_takeChange_42 : decode prog_5_method_2_code 42 = .ok (.aload_n 0, 1) := by decide +kernel
theorem d_3_takeChange_43 : decode prog_5_method_2_code 43 = .ok (.getfield 11, 3) := by decide +kernel
theorem d_3_takeChange_46 : decode prog_5_method_2_code 46 = .ok (.iload 6, 2) := by decide +kernel
theorem d_3_takeChange_48 : decode prog_5_method_2_code 48 = .ok (.iconst 2, 1) := by decide +kernel
theorem d_3_takeChange_49 : decode prog_5_method_2_code 49 = .ok (.iadd, 1) := by decide +kernel
theorem d_3_takeChange_50 : decode prog_5_method_2_code 50 = .ok (.iload_n 3, 1) := by decide +kernel
theorem d_3_takeChange_51 : decode prog_5_method_2_code 51 = .ok (.iastore, 1) := by decide +kernel
theorem d_3_takeChange_52 : decode prog_5_method_2_code 52 = .ok (.aload_n 0, 1) := by decide +kernel
theorem d_3_takeChange_53 : decode prog_5_method_2_code 53 = .ok (.getfield 11, 3) := by decide +kernel
theorem d_3_takeChange_56 : decode prog_5_method_2_code 56 = .ok (.iload 6, 2) := by decide +kernel
theorem d_3_takeChange_58 : decode prog_5_method_2_code 58 = .ok (.iconst 3, 1) := by decide +kernel
theorem d_3_takeChange_59 : decode prog_5_method_2_code 59 = .ok (.iadd, 1) := by decide +kernel
theorem d_3_takeChange_60 : decode prog_5_method_2_code 60 = .ok (.iload 4, 2) := by decide +kernel
theorem d_3_takeChange_62 : decode prog_5_method_2_code 62 = .ok (.iastore, 1) := by decide +kernel
theorem d_3_takeChange_63 : decode prog_5_method_2_code 63 = .ok (.aload_n 0, 1) := by decide +kernel
theorem d_3_takeChange_64 : decode prog_5_method_2_code 64 = .ok (.getfield 11, 3) := by decide +kernel
theorem d_3_takeChange_67 : decode prog_5_method_2_code 67 = .ok (.iload 6, 2) := by decide +kernel
theorem d_3_takeChange_69 : decode prog_5_method_2_code 69 = .ok (.iconst 4, 1) := by decide +kernel
theorem d_3_takeChange_70 : decode prog_5_method_2_code 70 = .ok (.iadd, 1) := by decide +kernel
theorem d_3_takeChange_71 : decode prog_5_method_2_code 71 = .ok (.iload 5, 2) := by decide +kernel
theorem d_3_takeChange_73 : decode prog_5_method_2_code 73 = .ok (.iastore, 1) := by decide +kernel
theorem d_3_takeChange_74 : decode prog_5_method_2_code 74 = .ok (.aload_n 0, 1) := by decide +kernel
theorem d_3_takeChange_75 : decode prog_5_method_2_code 75 = .ok (.aload_n 0, 1) := by decide +kernel
theorem d_3_takeChange_76 : decode prog_5_method_2_code 76 = .ok (.getfield 15, 3) := by decide +kernel
theorem d_3_takeChange_79 : decode prog_5_method_2_code 79 = .ok (.iconst 1, 1) := by decide +kernel
theorem d_3_takeChange_80 : decode prog_5_method_2_code 80 = .ok (.iadd, 1) := by decide +kernel
theorem d_3_takeChange_81 : decode prog_5_method_2_code 81 = .ok (.bipush 40, 2) := by decide +kernel
theorem d_3_takeChange_83 : decode prog_5_method_2_code 83 = .ok (.irem, 1) := by decide +kernel
theorem d_3_takeChange_84 : decode prog_5_method_2_code 84 = .ok (.putfield 15, 3) := by decide +kernel
theorem d_3_takeChange_87 : decode prog_5_method_2_code 87 = .ok (.aload_n 0, 1) := by decide +kernel
theorem d_3_takeChange_88 : decode prog_5_method_2_code 88 = .ok (.aload_n 0, 1) := by decide +kernel
theorem d_3_takeChange_89 : decode prog_5_method_2_code 89 = .ok (.getfield 19, 3) := by decide +kernel
theorem d_3_takeChange_92 : decode prog_5_method_2_code 92 = .ok (.iconst 1, 1) := by decide +kernel
theorem d_3_takeChange_93 : decode prog_5_method_2_code 93 = .ok (.iadd, 1) := by decide +kernel
theorem d_3_takeChange_94 : decode prog_5_method_2_code 94 = .ok (.bipush 40, 2) := by decide +kernel
theorem d_3_takeChange_96 : decode prog_5_method_2_code 96 = .ok (.invokestatic 22, 3) := by decide +kernel
theorem d_3_takeChange_99 : decode prog_5_method_2_code 99 = .ok (.putfield 19, 3) := by decide +kernel
theorem d_3_takeChange_102 : decode prog_5_method_2_code 102 = .ok (.return_, 1) := by decide +kernel
theorem d_8_changeCell_0 : decode prog_10_method_7_code 0 = .ok (.aload_n 0, 1) := by decide +kernel
theorem d_8_changeCell_1 : decode prog_10_method_7_code 1 = .ok (.getfield 12, 3) := by decide +kernel
theorem d_8_changeCell_4 : decode prog_10_method_7_code 4 = .ok (.iload_n 2, 1) := by decide +kernel
theorem d_8_changeCell_5 : decode prog_10_method_7_code 5 = .ok (.iload_n 3, 1) := by decide +kernel
theorem d_8_changeCell_6 : decode prog_10_method_7_code 6 = .ok (.invokevirtual 132, 3) := by decide +kernel
theorem d_8_changeCell_9 : decode prog_10_method_7_code 9 = .ok (.istore 5, 2) := by decide +kernel
theorem d_8_changeCell_11 : decode prog_10_method_7_code 11 = .ok (.iload 5, 2) := by decide +kernel
theorem d_8_changeCell_13 : decode prog_10_method_7_code 13 = .ok (.iload 4, 2) := by decide +kernel
theorem d_8_changeCell_15 : decode prog_10_method_7_code 15 = .ok (.if_icmp .eq 54, 3) := by decide +kernel
theorem d_8_changeCell_18 : decode prog_10_method_7_code 18 = .ok (.aload_n 0, 1) := by decide +kernel
theorem d_8_changeCell_19 : decode prog_10_method_7_code 19 = .ok (.getfield 12, 3) := by decide +kernel
theorem d_8_changeCell_22 : decode prog_10_method_7_code 22 = .ok (.iload_n 2, 1) := by decide +kernel
theorem d_8_changeCell_23 : decode prog_10_method_7_code 23 = .ok (.invokevirtual 135, 3) := by decide +kernel
theorem d_8_changeCell_26 : decode prog_10_method_7_code 26 = .ok (.istore 6, 2) := by decide +kernel
theorem d_8_changeCell_28 : decode prog_10_method_7_code 28 = .ok (.aload_n 0, 1) := by decide +kernel
theorem d_8_changeCell_29 : decode prog_10_method_7_code 29 = .ok (.getfield 12, 3) := by decide +kernel
theorem d_8_changeCell_32 : decode prog_10_method_7_code 32 = .ok (.iload_n 2, 1) := by decide +kernel
theorem d_8_changeCell_33 : decode prog_10_method_7_code 33 = .ok (.iload_n 3, 1) := by decide +kernel
theorem d_8_changeCell_34 : decode prog_10_method_7_code 34 = .ok (.iload 4, 2) := by decide +kernel
theorem d_8_changeCell_36 : decode prog_10_method_7_code 36 = .ok (.iload_n 1, 1) := by decide +kernel
theorem d_8_changeCell_37 : decode prog_10_method_7_code 37 = .ok (.invokevirtual 72, 3) := by decide +kernel
theorem d_8_changeCell_40 : decode prog_10_method_7_code 40 = .ok (.aload_n 0, 1) := by decide +kernel
theorem d_8_changeCell_41 : decode prog_10_method_7_code 41 = .ok (.getfield 34, 3) := by decide +kernel
theorem d_8_changeCell_44 : decode prog_10_method_7_code 44 = .ok (.iload 6, 2) := by decide +kernel
theorem d_8_changeCell_46 : decode prog_10_method_7_code 46 = .ok (.iload_n 3, 1) := by decide +kernel
theorem d_8_changeCell_47 : decode prog_10_method_7_code 47 = .ok (.iload 5, 2) := by decide +kernel
theorem d_8_changeCell_49 : decode prog_10_method_7_code 49 = .ok (.iload 4, 2) := by decide +kernel
theorem d_8_changeCell_51 : decode prog_10_method_7_code 51 = .ok (.invokevirtual 138, 3) := by decide +kernel
theorem d_8_changeCell_54 : decode prog_10_method_7_code 54 = .ok (.aload_n 0, 1) := by decide +kernel
theorem d_8_changeCell_55 : decode prog_10_method_7_code 55 = .ok (.getfield 27, 3) := by decide +kernel
theorem d_8_changeCell_58 : decode prog_10_method_7_code 58 = .ok (.iload_n 1, 1) := by decide +kernel
theorem d_8_changeCell_59 : decode prog_10_method_7_code 59 = .ok (.iload 6, 2) := by decide +kernel
theorem d_8_changeCell_61 : decode prog_10_method_7_code 61 = .ok (.iload_n 3, 1) := by decide +kernel
theorem d_8_changeCell_62 : decode prog_10_method_7_code 62 = .ok (.iload 5, 2) := by decide +kernel
theorem d_8_changeCell_64 : decode prog_10_method_7_code 64 = .ok (.iload 4, 2) := by decide +kernel
theorem d_8_changeCell_66 : decode prog_10_method_7_code 66 = .ok (.invokevirtual 141, 3) := by decide +kernel
theorem d_8_changeCell_69 : decode prog_10_method_7_code 69 = .ok (.return_, 1) := by decide +kernel
theorem d_10_forgetOldest_0 : decode prog_12_method_4_code 0 = .ok (.aload_n 0, 1) := by decide +kernel
theorem d_10_forgetOldest_1 : decode prog_12_method_4_code 1 = .ok (.getfield 27, 3) := by decide +kernel
theorem d_10_forgetOldest_4 : decode prog_12_method_4_code 4 = .ok (.iconst 0, 1) := by decide +kernel
theorem d_10_forgetOldest_5 : decode prog_12_method_4_code 5 = .ok (.aaload, 1) := by decide +kernel
theorem d_10_forgetOldest_6 : decode prog_12_method_4_code 6 = .ok (.astore_n 1, 1) := by decide +kernel
theorem d_10_forgetOldest_7 : decode prog_12_method_4_code 7 = .ok (.iconst 1, 1) := by decide +kernel
theorem d_10_forgetOldest_8 : decode prog_12_method_4_code 8 = .ok (.istore_n 2, 1) := by decide +kernel
theorem d_10_forgetOldest_9 : decode prog_12_method_4_code 9 = .ok (.iload_n 2, 1) := by decide +kernel
theorem d_10_forgetOldest_10 : decode prog_12_method_4_code 10 = .ok (.bipush 8, 2) := by decide +kernel
theorem d_10_forgetOldest_12 : decode prog_12_method_4_code 12 = .ok (.if_icmp .ge 23, 3) := by decide +kernel
theorem d_10_forgetOldest_15 : decode prog_12_method_4_code 15 = .ok (.aload_n 0, 1) := by decide +kernel
theorem d_10_forgetOldest_16 : decode prog_12_method_4_code 16 = .ok (.getfield 27, 3) := by decide +kernel
theorem d_10_forgetOldest_19 : decode prog_12_method_4_code 19 = .ok (.iload_n 2, 1) := by decide +kernel
theorem d_10_forgetOldest_20 : decode prog_12_method_4_code 20 = .ok (.iconst 1, 1) := by decide +kernel
theorem d_10_forgetOldest_21 : decode prog_12_method_4_code 21 = .ok (.isub, 1) := by decide +kernel
theorem d_10_forgetOldest_22 : decode prog_12_method_4_code 22 = .ok (.aload_n 0, 1) := by decide +kernel
theorem d_10_forgetOldest_23 : decode prog_12_method_4_code 23 = .ok (.getfield 27, 3) := by decide +kernel
theorem d_10_forgetOldest_26 : decode prog_12_method_4_code 26 = .ok (.iload_n 2, 1) := by decide +kernel
theorem d_10_forgetOldest_27 : decode prog_12_method_4_code 27 = .ok (.aaload, 1) := by decide +kernel
theorem d_10_forgetOldest_28 : decode prog_12_method_4_code 28 = .ok (.aastore, 1) := by decide +kernel
theorem d_10_forgetOldest_29 : decode prog_12_method_4_code 29 = .ok (.iinc 2 1, 3) := by decide +kernel
theorem d_10_forgetOldest_32 : decode prog_12_method_4_code 32 = .ok (.goto (-23), 3) := by decide +kernel
theorem d_10_forgetOldest_35 : decode prog_12_method_4_code 35 = .ok (.aload_n 0, 1) := by decide +kernel
theorem d_10_forgetOldest_36 : decode prog_12_method_4_code 36 = .ok (.getfield 27, 3) := by decide +kernel
theorem d_10_forgetOldest_39 : decode prog_12_method_4_code 39 = .ok (.bipush 7, 2) := by decide +kernel
theorem d_10_forgetOldest_41 : decode prog_12_method_4_code 41 = .ok (.aload_n 1, 1) := by decide +kernel
theorem d_10_forgetOldest_42 : decode prog_12_method_4_code 42 = .ok (.aastore, 1) := by decide +kernel
theorem d_10_forgetOldest_43 : decode prog_12_method_4_code 43 = .ok (.aload_n 0, 1) := by decide +kernel
theorem d_10_forgetOldest_44 : decode prog_12_method_4_code 44 = .ok (.bipush 7, 2) := by decide +kernel
theorem d_10_forgetOldest_46 : decode prog_12_method_4_code 46 = .ok (.putfield 32, 3) := by decide +kernel
theorem d_10_forgetOldest_49 : decode prog_12_method_4_code 49 = .ok (.return_, 1) := by decide +kernel
theorem d_10_remember_0 : decode prog_12_method_3_code 0 = .ok (.aload_n 0, 1) := by decide +kernel
theorem d_10_remember_1 : decode prog_12_method_3_code 1 = .ok (.getfield 32, 3) := by decide +kernel
theorem d_10_remember_4 : decode prog_12_method_3_code 4 = .ok (.bipush 8, 2) := by decide +kernel
theorem d_10_remember_6 : decode prog_12_method_3_code 6 = .ok (.if_icmp .lt 7, 3) := by decide +kernel
theorem d_10_remember_9 : decode prog_12_method_3_code 9 = .ok (.aload_n 0, 1) := by decide +kernel
theorem d_10_remember_10 : decode prog_12_method_3_code 10 = .ok (.invokevirtual 36, 3) := by decide +kernel
theorem d_10_remember_13 : decode prog_12_method_3_code 13 = .ok (.aload_n 0, 1) := by decide +kernel
theorem d_10_remember_14 : decode prog_12_method_3_code 14 = .ok (.getfield 27, 3) := by decide +kernel
theorem d_10_remember_17 : decode prog_12_method_3_code 17 = .ok (.aload_n 0, 1) := by decide +kernel
theorem d_10_remember_18 : decode prog_12_method_3_code 18 = .ok (.getfield 32, 3) := by decide +kernel
theorem d_10_remember_21 : decode prog_12_method_3_code 21 = .ok (.aaload, 1) := by decide +kernel
theorem d_10_remember_22 : decode prog_12_method_3_code 22 = .ok (.aload_n 1, 1) := by decide +kernel
theorem d_10_remember_23 : decode prog_12_method_3_code 23 = .ok (.invokevirtual 39, 3) := by decide +kernel
theorem d_10_remember_26 : decode prog_12_method_3_code 26 = .ok (.aload_n 0, 1) := by decide +kernel
theorem d_10_remember_27 : decode prog_12_method_3_code 27 = .ok (.dup, 1) := by decide +kernel
theorem d_10_remember_28 : decode prog_12_method_3_code 28 = .ok (.getfield 32, 3) := by decide +kernel
theorem d_10_remember_31 : decode prog_12_method_3_code 31 = .ok (.iconst 1, 1) := by decide +kernel
theorem d_10_remember_32 : decode prog_12_method_3_code 32 = .ok (.iadd, 1) := by decide +kernel
theorem d_10_remember_33 : decode prog_12_method_3_code 33 = .ok (.putfield 32, 3) := by decide +kernel
theorem d_10_remember_36 : decode prog_12_method_3_code 36 = .ok (.return_, 1) := by decide +kernel
theorem d_8_finishEdit_0 : decode prog_10_method_8_code 0 = .ok (.aload_n 0, 1) := by decide +kernel
theorem d_8_finishEdit_1 : decode prog_10_method_8_code 1 = .ok (.getfield 34, 3) := by decide +kernel
theorem d_8_finishEdit_4 : decode prog_10_method_8_code 4 = .ok (.getfield 129, 3) := by decide +kernel
theorem d_8_finishEdit_7 : decode prog_10_method_8_code 7 = .ok (.ifCond .le 25, 3) := by decide +kernel
theorem d_8_finishEdit_10 : decode prog_10_method_8_code 10 = .ok (.iload_n 1, 1) := by decide +kernel
theorem d_8_finishEdit_11 : decode prog_10_method_8_code 11 = .ok (.ifCond .lt 21, 3) := by decide +kernel
theorem d_8_finishEdit_14 : decode prog_10_method_8_code 14 = .ok (.iload_n 1, 1) := by decide +kernel
theorem d_8_finishEdit_15 : decode prog_10_method_8_code 15 = .ok (.iconst 4, 1) := by decide +kernel
theorem d_8_finishEdit_16 : decode prog_10_method_8_code 16 = .ok (.if_icmp .ge 16, 3) := by decide +kernel
theorem d_8_finishEdit_19 : decode prog_10_method_8_code 19 = .ok (.aload_n 0, 1) := by decide +kernel
theorem d_8_finishEdit_20 : decode prog_10_method_8_code 20 = .ok (.getfield 20, 3) := by decide +kernel
theorem d_8_finishEdit_23 : decode prog_10_method_8_code 23 = .ok (.iload_n 1, 1) := by decide +kernel
theorem d_8_finishEdit_24 : decode prog_10_method_8_code 24 = .ok (.aaload, 1) := by decide +kernel
theorem d_8_finishEdit_25 : decode prog_10_method_8_code 25 = .ok (.aload_n 0, 1) := by decide +kernel
theorem d_8_finishEdit_26 : decode prog_10_method_8_code 26 = .ok (.getfield 34, 3) := by decide +kernel
theorem d_8_finishEdit_29 : decode prog_10_method_8_code 29 = .ok (.invokevirtual 144, 3) := by decide +kernel
theorem d_8_finishEdit_32 : decode prog_10_method_8_code 32 = .ok (.aload_n 0, 1) := by decide +kernel
theorem d_8_finishEdit_33 : decode prog_10_method_8_code 33 = .ok (.getfield 34, 3) := by decide +kernel
theorem d_8_finishEdit_36 : decode prog_10_method_8_code 36 = .ok (.getfield 129, 3) := by decide +kernel
theorem d_8_finishEdit_39 : decode prog_10_method_8_code 39 = .ok (.ireturn, 1) := by decide +kernel
theorem d_11_changeOne_0 : decode prog_1_method_54_code 0 = .ok (.aload_n 0, 1) := by decide +kernel
theorem d_11_changeOne_1 : decode prog_1_method_54_code 1 = .ok (.getfield 26, 3) := by decide +kernel
theorem d_11_changeOne_4 : decode prog_1_method_54_code 4 = .ok (.invokevirtual 174, 3) := by decide +kernel
theorem d_11_changeOne_7 : decode prog_1_method_54_code 7 = .ok (.aload_n 0, 1) := by decide +kernel
theorem d_11_changeOne_8 : decode prog_1_method_54_code 8 = .ok (.getfield 26, 3) := by decide +kernel
theorem d_11_changeOne_11 : decode prog_1_method_54_code 11 = .ok (.iload_n 1, 1) := by decide +kernel
theorem d_11_changeOne_12 : decode prog_1_method_54_code 12 = .ok (.iload_n 2, 1) := by decide +kernel
theorem d_11_changeOne_13 : decode prog_1_method_54_code 13 = .ok (.iload_n 3, 1) := by decide +kernel
theorem d_11_changeOne_14 : decode prog_1_method_54_code 14 = .ok (.iload 4, 2) := by decide +kernel
theorem d_11_changeOne_16 : decode prog_1_method_54_code 16 = .ok (.invokevirtual 177, 3) := by decide +kernel
theorem d_11_changeOne_19 : decode prog_1_method_54_code 19 = .ok (.aload_n 0, 1) := by decide +kernel
theorem d_11_changeOne_20 : decode prog_1_method_54_code 20 = .ok (.getfield 26, 3) := by decide +kernel
theorem d_11_changeOne_23 : decode prog_1_method_54_code 23 = .ok (.iload_n 1, 1) := by decide +kernel
theorem d_11_changeOne_24 : decode prog_1_method_54_code 24 = .ok (.invokevirtual 181, 3) := by decide +kernel
theorem d_11_changeOne_27 : decode prog_1_method_54_code 27 = .ok (.pop, 1) := by decide +kernel
theorem d_11_changeOne_28 : decode prog_1_method_54_code 28 = .ok (.aload_n 0, 1) := by decide +kernel
theorem d_11_changeOne_29 : decode prog_1_method_54_code 29 = .ok (.getfield 26, 3) := by decide +kernel
theorem d_11_changeOne_32 : decode prog_1_method_54_code 32 = .ok (.getfield 48, 3) := by decide +kernel
theorem d_11_changeOne_35 : decode prog_1_method_54_code 35 = .ok (.iload_n 2, 1) := by decide +kernel
theorem d_11_changeOne_36 : decode prog_1_method_54_code 36 = .ok (.invokevirtual 133, 3) := by decide +kernel
theorem d_11_changeOne_39 : decode prog_1_method_54_code 39 = .ok (.ireturn, 1) := by decide +kernel
theorem d_11_set_0 : decode prog_1_method_14_code 0 = .ok (.aload_n 0, 1) := by decide +kernel
theorem d_11_set_1 : decode prog_1_method_14_code 1 = .ok (.iload_n 1, 1) := by decide +kernel
theorem d_11_set_2 : decode prog_1_method_14_code 2 = .ok (.invokevirtual 73, 3) := by decide +kernel
theorem d_11_set_5 : decode prog_1_method_14_code 5 = .ok (.astore 5, 2) := by decide +kernel
theorem d_11_set_7 : decode prog_1_method_14_code 7 = .ok (.aload_n 0, 1) := by decide +kernel
theorem d_11_set_8 : decode prog_1_method_14_code 8 = .ok (.aload 5, 2) := by decide +kernel
theorem d_11_set_10 : decode prog_1_method_14_code 10 = .ok (.iload_n 2, 1) := by decide +kernel
theorem d_11_set_11 : decode prog_1_method_14_code 11 = .ok (.invokevirtual 157, 3) := by decide +kernel
theorem d_11_set_14 : decode prog_1_method_14_code 14 = .ok (.istore 6, 2) := by decide +kernel
theorem d_11_set_16 : decode prog_1_method_14_code 16 = .ok (.aload_n 0, 1) := by decide +kernel
theorem d_11_set_17 : decode prog_1_method_14_code 17 = .ok (.iload_n 3, 1) := by decide +kernel
theorem d_11_set_18 : decode prog_1_method_14_code 18 = .ok (.invokevirtual 113, 3) := by decide +kernel
theorem d_11_set_21 : decode prog_1_method_14_code 21 = .ok (.aload_n 0, 1) := by decide +kernel
theorem d_11_set_22 : decode prog_1_method_14_code 22 = .ok (.aload 5, 2) := by decide +kernel
theorem d_11_set_24 : decode prog_1_method_14_code 24 = .ok (.iload_n 3, 1) := by decide +kernel
theorem d_11_set_25 : decode prog_1_method_14_code 25 = .ok (.invokevirtual 161, 3) := by decide +kernel
theorem d_11_set_28 : decode prog_1_method_14_code 28 = .ok (.aload_n 0, 1) := by decide +kernel
theorem d_11_set_29 : decode prog_1_method_14_code 29 = .ok (.getfield 26, 3) := by decide +kernel
theorem d_11_set_32 : decode prog_1_method_14_code 32 = .ok (.getfield 48, 3) := by decide +kernel
theorem d_11_set_35 : decode prog_1_method_14_code 35 = .ok (.iload_n 3, 1) := by decide +kernel
theorem d_11_set_36 : decode prog_1_method_14_code 36 = .ok (.iload 4, 2) := by decide +kernel
theorem d_11_set_38 : decode prog_1_method_14_code 38 = .ok (.invokevirtual 165, 3) := by decide +kernel
theorem d_11_set_41 : decode prog_1_method_14_code 41 = .ok (.ifCond .ne 11, 3) := by decide +kernel
theorem d_11_set_44 : decode prog_1_method_14_code 44 = .ok (.new 56, 3) := by decide +kernel
theorem d_11_set_47 : decode prog_1_method_14_code 47 = .ok (.dup, 1) := by decide +kernel
theorem d_11_set_48 : decode prog_1_method_14_code 48 = .ok (.invokespecial 58, 3) := by decide +kernel
theorem d_11_set_51 : decode prog_1_method_14_code 51 = .ok (.athrow, 1) := by decide +kernel
theorem d_11_set_52 : decode prog_1_method_14_code 52 = .ok (.aload_n 0, 1) := by decide +kernel
theorem d_11_set_53 : decode prog_1_method_14_code 53 = .ok (.iload_n 1, 1) := by decide +kernel
theorem d_11_set_54 : decode prog_1_method_14_code 54 = .ok (.iload 6, 2) := by decide +kernel
theorem d_11_set_56 : decode prog_1_method_14_code 56 = .ok (.iload_n 3, 1) := by decide +kernel
theorem d_11_set_57 : decode prog_1_method_14_code 57 = .ok (.iload 4, 2) := by decide +kernel
theorem d_11_set_59 : decode prog_1_method_14_code 59 = .ok (.invokevirtual 169, 3) := by decide +kernel
theorem d_11_set_62 : decode prog_1_method_14_code 62 = .ok (.ireturn, 1) := by decide +kernel
theorem d_11_clear_0 : decode prog_1_method_15_code 0 = .ok (.aload_n 0, 1) := by decide +kernel
theorem d_11_clear_1 : decode prog_1_method_15_code 1 = .ok (.iload_n 1, 1) := by decide +kernel
theorem d_11_clear_2 : decode prog_1_method_15_code 2 = .ok (.invokevirtual 73, 3) := by decide +kernel
theorem d_11_clear_5 : decode prog_1_method_15_code 5 = .ok (.astore 4, 2) := by decide +kernel
theorem d_11_clear_7 : decode prog_1_method_15_code 7 = .ok (.aload_n 0, 1) := by decide +kernel
theorem d_11_clear_8 : decode prog_1_method_15_code 8 = .ok (.aload 4, 2) := by decide +kernel
theorem d_11_clear_10 : decode prog_1_method_15_code 10 = .ok (.iload_n 2, 1) := by decide +kernel
theorem d_11_clear_11 : decode prog_1_method_15_code 11 = .ok (.invokevirtual 157, 3) := by decide +kernel
theorem d_11_clear_14 : decode prog_1_method_15_code 14 = .ok (.istore 5, 2) := by decide +kernel
theorem d_11_clear_16 : decode prog_1_method_15_code 16 = .ok (.aload_n 0, 1) := by decide +kernel
theorem d_11_clear_17 : decode prog_1_method_15_code 17 = .ok (.iload_n 3, 1) := by decide +kernel
theorem d_11_clear_18 : decode prog_1_method_15_code 18 = .ok (.invokevirtual 113, 3) := by decide +kernel
theorem d_11_clear_21 : decode prog_1_method_15_code 21 = .ok (.aload_n 0, 1) := by decide +kernel
theorem d_11_clear_22 : decode prog_1_method_15_code 22 = .ok (.aload 4, 2) := by decide +kernel
theorem d_11_clear_24 : decode prog_1_method_15_code 24 = .ok (.iload_n 3, 1) := by decide +kernel
theorem d_11_clear_25 : decode prog_1_method_15_code 25 = .ok (.invokevirtual 161, 3) := by decide +kernel
theorem d_11_clear_28 : decode prog_1_method_15_code 28 = .ok (.aload_n 0, 1) := by decide +kernel
theorem d_11_clear_29 : decode prog_1_method_15_code 29 = .ok (.iload_n 1, 1) := by decide +kernel
theorem d_11_clear_30 : decode prog_1_method_15_code 30 = .ok (.iload 5, 2) := by decide +kernel
theorem d_11_clear_32 : decode prog_1_method_15_code 32 = .ok (.iload_n 3, 1) := by decide +kernel
theorem d_11_clear_33 : decode prog_1_method_15_code 33 = .ok (.ldc 173, 2) := by decide +kernel
theorem d_11_clear_35 : decode prog_1_method_15_code 35 = .ok (.invokevirtual 169, 3) := by decide +kernel
theorem d_11_clear_38 : decode prog_1_method_15_code 38 = .ok (.ireturn, 1) := by decide +kernel
theorem d_11_fill_0 : decode prog_1_method_16_code 0 = .ok (.aload_n 0, 1) := by decide +kernel
theorem d_11_fill_1 : decode prog_1_method_16_code 1 = .ok (.iload_n 1, 1) := by decide +kernel
theorem d_11_fill_2 : decode prog_1_method_16_code 2 = .ok (.invokevirtual 73, 3) := by decide +kernel
theorem d_11_fill_5 : decode prog_1_method_16_code 5 = .ok (.astore 5, 2) := by decide +kernel
theorem d_11_fill_7 : decode prog_1_method_16_code 7 = .ok (.aload_n 0, 1) := by decide +kernel
theorem d_11_fill_8 : decode prog_1_method_16_code 8 = .ok (.aload 5, 2) := by decide +kernel
theorem d_11_fill_10 : decode prog_1_method_16_code 10 = .ok (.iload_n 2, 1) := by decide +kernel
theorem d_11_fill_11 : decode prog_1_method_16_code 11 = .ok (.invokevirtual 157, 3) := by decide +kernel
theorem d_11_fill_14 : decode prog_1_method_16_code 14 = .ok (.istore 6, 2) := by decide +kernel
theorem d_11_fill_16 : decode prog_1_method_16_code 16 = .ok (.aload_n 0, 1) := by decide +kernel
theorem d_11_fill_17 : decode prog_1_method_16_code 17 = .ok (.aload 5, 2) := by decide +kernel
theorem d_11_fill_19 : decode prog_1_method_16_code 19 = .ok (.iload_n 3, 1) := by decide +kernel
theorem d_11_fill_20 : decode prog_1_method_16_code 20 = .ok (.invokevirtual 157, 3) := by decide +kernel
theorem d_11_fill_23 : decode prog_1_method_16_code 23 = .ok (.pop, 1) := by decide +kernel
theorem d_11_fill_24 : decode prog_1_method_16_code 24 = .ok (.aload_n 0, 1) := by decide +kernel
theorem d_11_fill_25 : decode prog_1_method_16_code 25 = .ok (.iload 4, 2) := by decide +kernel
theorem d_11_fill_27 : decode prog_1_method_16_code 27 = .ok (.invokevirtual 113, 3) := by decide +kernel
theorem d_11_fill_30 : decode prog_1_method_16_code 30 = .ok (.iload_n 3, 1) := by decide +kernel
theorem d_11_fill_31 : decode prog_1_method_16_code 31 = .ok (.iload_n 2, 1) := by decide +kernel
theorem d_11_fill_32 : decode prog_1_method_16_code 32 = .ok (.if_icmp .ge 11, 3) := by decide +kernel
theorem d_11_fill_35 : decode prog_1_method_16_code 35 = .ok (.new 56, 3) := by decide +kernel
theorem d_11_fill_38 : decode prog_1_method_16_code 38 = .ok (.dup, 1) := by decide +kernel
theorem d_11_fill_39 : decode prog_1_method_16_code 39 = .ok (.invokespecial 58, 3) := by decide +kernel
theorem d_11_fill_42 : decode prog_1_method_16_code 42 = .ok (.athrow, 1) := by decide +kernel
theorem d_11_fill_43 : decode prog_1_method_16_code 43 = .ok (.aload_n 0, 1) := by decide +kernel
theorem d_11_fill_44 : decode prog_1_method_16_code 44 = .ok (.aload 5, 2) := by decide +kernel
theorem d_11_fill_46 : decode prog_1_method_16_code 46 = .ok (.iload 4, 2) := by decide +kernel
theorem d_11_fill_48 : decode prog_1_method_16_code 48 = .ok (.invokevirtual 161, 3) := by decide +kernel
theorem d_11_fill_51 : decode prog_1_method_16_code 51 = .ok (.aload_n 0, 1) := by decide +kernel
theorem d_11_fill_52 : decode prog_1_method_16_code 52 = .ok (.getfield 26, 3) := by decide +kernel
theorem d_11_fill_55 : decode prog_1_method_16_code 55 = .ok (.getfield 48, 3) := by decide +kernel
theorem d_11_fill_58 : decode prog_1_method_16_code 58 = .ok (.iload 6, 2) := by decide +kernel
theorem d_11_fill_60 : decode prog_1_method_16_code 60 = .ok (.iload 4, 2) := by decide +kernel
theorem d_11_fill_62 : decode prog_1_method_16_code 62 = .ok (.invokevirtual 123, 3) := by decide +kernel
theorem d_11_fill_65 : decode prog_1_method_16_code 65 = .ok (.istore 7, 2) := by decide +kernel
theorem d_11_fill_67 : decode prog_1_method_16_code 67 = .ok (.aload_n 0, 1) := by decide +kernel
theorem d_11_fill_68 : decode prog_1_method_16_code 68 = .ok (.getfield 26, 3) := by decide +kernel
theorem d_11_fill_71 : decode prog_1_method_16_code 71 = .ok (.invokevirtual 174, 3) := by decide +kernel
theorem d_11_fill_74 : decode prog_1_method_16_code 74 = .ok (.iload_n 2, 1) := by decide +kernel
theorem d_11_fill_75 : decode prog_1_method_16_code 75 = .ok (.iconst 1, 1) := by decide +kernel
theorem d_11_fill_76 : decode prog_1_method_16_code 76 = .ok (.iadd, 1) := by decide +kernel
theorem d_11_fill_77 : decode prog_1_method_16_code 77 = .ok (.istore 8, 2) := by decide +kernel
theorem d_11_fill_79 : decode prog_1_method_16_code 79 = .ok (.iload 8, 2) := by decide +kernel
theorem d_11_fill_81 : decode prog_1_method_16_code 81 = .ok (.iload_n 3, 1) := by decide +kernel
theorem d_11_fill_82 : decode prog_1_method_16_code 82 = .ok (.if_icmp .gt 31, 3) := by decide +kernel
theorem d_11_fill_85 : decode prog_1_method_16_code 85 = .ok (.aload_n 0, 1) := by decide +kernel
theorem d_11_fill_86 : decode prog_1_method_16_code 86 = .ok (.getfield 26, 3) := by decide +kernel
theorem d_11_fill_89 : decode prog_1_method_16_code 89 = .ok (.iload_n 1, 1) := by decide +kernel
theorem d_11_fill_90 : decode prog_1_method_16_code 90 = .ok (.aload 5, 2) := by decide +kernel
theorem d_11_fill_92 : decode prog_1_method_16_code 92 = .ok (.getfield 96, 3) := by decide +kernel
theorem d_11_fill_95 : decode prog_1_method_16_code 95 = .ok (.iload 8, 2) := by decide +kernel
theorem d_11_fill_97 : decode prog_1_method_16_code 97 = .ok (.invokevirtual 130, 3) := by decide +kernel
theorem d_11_fill_100 : decode prog_1_method_16_code 100 = .ok (.iload 4, 2) := by decide +kernel
theorem d_11_fill_102 : decode prog_1_method_16_code 102 = .ok (.iload 7, 2) := by decide +kernel
theorem d_11_fill_104 : decode prog_1_method_16_code 104 = .ok (.invokevirtual 177, 3) := by decide +kernel
theorem d_11_fill_107 : decode prog_1_method_16_code 107 = .ok (.iinc 8 1, 3) := by decide +kernel
theorem d_11_fill_110 : decode prog_1_method_16_code 110 = .ok (.goto (-31), 3) := by decide +kernel
theorem d_11_fill_113 : decode prog_1_method_16_code 113 = .ok (.aload_n 0, 1) := by decide +kernel
theorem d_11_fill_114 : decode prog_1_method_16_code 114 = .ok (.getfield 26, 3) := by decide +kernel
theorem d_11_fill_117 : decode prog_1_method_16_code 117 = .ok (.iload_n 1, 1) := by decide +kernel
theorem d_11_fill_118 : decode prog_1_method_16_code 118 = .ok (.invokevirtual 181, 3) := by decide +kernel
theorem d_11_fill_121 : decode prog_1_method_16_code 121 = .ok (.ireturn, 1) := by decide +kernel
theorem d_7_mayHoldOrBlank_0 : decode prog_9_method_12_code 0 = .ok (.iload_n 2, 1) := by decide +kernel
theorem d_7_mayHoldOrBlank_1 : decode prog_9_method_12_code 1 = .ok (.ldc 53, 2) := by decide +kernel
theorem d_7_mayHoldOrBlank_3 : decode prog_9_method_12_code 3 = .ok (.if_icmp .eq 12, 3) := by decide +kernel
theorem d_7_mayHoldOrBlank_6 : decode prog_9_method_12_code 6 = .ok (.aload_n 0, 1) := by decide +kernel
theorem d_7_mayHoldOrBlank_7 : decode prog_9_method_12_code 7 = .ok (.iload_n 1, 1) := by decide +kernel
theorem d_7_mayHoldOrBlank_8 : decode prog_9_method_12_code 8 = .ok (.iload_n 2, 1) := by decide +kernel
theorem d_7_mayHoldOrBlank_9 : decode prog_9_method_12_code 9 = .ok (.invokevirtual 62, 3) := by decide +kernel
theorem d_7_mayHoldOrBlank_12 : decode prog_9_method_12_code 12 = .ok (.ifCond .eq 7, 3) := by decide +kernel
theorem d_7_mayHoldOrBlank_15 : decode prog_9_method_12_code 15 = .ok (.iconst 1, 1) := by decide +kernel
theorem d_7_mayHoldOrBlank_16 : decode prog_9_method_12_code 16 = .ok (.goto 4, 3) := by decide +kernel
theorem d_7_mayHoldOrBlank_19 : decode prog_9_method_12_code 19 = .ok (.iconst 0, 1) := by decide +kernel
theorem d_7_mayHoldOrBlank_20 : decode prog_9_method_12_code 20 = .ok (.ireturn, 1) := by decide +kernel
theorem d_11_replace_0 : decode prog_1_method_17_code 0 = .ok (.aload_n 0, 1) := by decide +kernel
theorem d_11_replace_1 : decode prog_1_method_17_code 1 = .ok (.iload_n 1, 1) := by decide +kernel
theorem d_11_replace_2 : decode prog_1_method_17_code 2 = .ok (.invokevirtual 73, 3) := by decide +kernel
theorem d_11_replace_5 : decode prog_1_method_17_code 5 = .ok (.astore 5, 2) := by decide +kernel
theorem d_11_replace_7 : decode prog_1_method_17_code 7 = .ok (.aload_n 0, 1) := by decide +kernel
theorem d_11_replace_8 : decode prog_1_method_17_code 8 = .ok (.iload_n 2, 1) := by decide +kernel
theorem d_11_replace_9 : decode prog_1_method_17_code 9 = .ok (.invokevirtual 113, 3) := by decide +kernel
theorem d_11_replace_12 : decode prog_1_method_17_code 12 = .ok (.aload_n 0, 1) := by decide +kernel
theorem d_11_replace_13 : decode prog_1_method_17_code 13 = .ok (.aload 5, 2) := by decide +kernel
theorem d_11_replace_15 : decode prog_1_method_17_code 15 = .ok (.iload_n 2, 1) := by decide +kernel
theorem d_11_replace_16 : decode prog_1_method_17_code 16 = .ok (.invokevirtual 161, 3) := by decide +kernel
theorem d_11_replace_19 : decode prog_1_method_17_code 19 = .ok (.aload_n 0, 1) := by decide +kernel
theorem d_11_replace_20 : decode prog_1_method_17_code 20 = .ok (.getfield 26, 3) := by decide +kernel
theorem d_11_replace_23 : decode prog_1_method_17_code 23 = .ok (.getfield 48, 3) := by decide +kernel
theorem d_11_replace_26 : decode prog_1_method_17_code 26 = .ok (.iload_n 2, 1) := by decide +kernel
theorem d_11_replace_27 : decode prog_1_method_17_code 27 = .ok (.iload_n 3, 1) := by decide +kernel
theorem d_11_replace_28 : decode prog_1_method_17_code 28 = .ok (.invokevirtual 184, 3) := by decide +kernel
theorem d_11_replace_31 : decode prog_1_method_17_code 31 = .ok (.ifCond .eq 19, 3) := by decide +kernel
theorem d_11_replace_34 : decode prog_1_method_17_code 34 = .ok (.aload_n 0, 1) := by decide +kernel
theorem d_11_replace_35 : decode prog_1_method_17_code 35 = .ok (.getfield 26, 3) := by decide +kernel
theorem d_11_replace_38 : decode prog_1_method_17_code 38 = .ok (.getfield 48, 3) := by decide +kernel
theorem d_11_replace_41 : decode prog_1_method_17_code 41 = .ok (.iload_n 2, 1) := by decide +kernel
theorem d_11_replace_42 : decode prog_1_method_17_code 42 = .ok (.iload 4, 2) := by decide +kernel
theorem d_11_replace_44 : decode prog_1_method_17_code 44 = .ok (.invokevirtual 184, 3) := by decide +kernel
theorem d_11_replace_47 : decode prog_1_method_17_code 47 = .ok (.ifCond .ne 11, 3) := by decide +kernel
theorem d_11_replace_50 : decode prog_1_method_17_code 50 = .ok (.new 56, 3) := by decide +kernel
theorem d_11_replace_53 : decode prog_1_method_17_code 53 = .ok (.dup, 1) := by decide +kernel
theorem d_11_replace_54 : decode prog_1_method_17_code 54 = .ok (.invokespecial 58, 3) := by decide +kernel
theorem d_11_replace_57 : decode prog_1_method_17_code 57 = .ok (.athrow, 1) := by decide +kernel
theorem d_11_replace_58 : decode prog_1_method_17_code 58 = .ok (.aload_n 0, 1) := by decide +kernel
theorem d_11_replace_59 : decode prog_1_method_17_code 59 = .ok (.getfield 26, 3) := by decide +kernel
theorem d_11_replace_62 : decode prog_1_method_17_code 62 = .ok (.invokevirtual 174, 3) := by decide +kernel
theorem d_11_replace_65 : decode prog_1_method_17_code 65 = .ok (.iconst 0, 1) := by decide +kernel
theorem d_11_replace_66 : decode prog_1_method_17_code 66 = .ok (.istore 6, 2) := by decide +kernel
theorem d_11_replace_68 : decode prog_1_method_17_code 68 = .ok (.iload 6, 2) := by decide +kernel
theorem d_11_replace_70 : decode prog_1_method_17_code 70 = .ok (.aload 5, 2) := by decide +kernel
theorem d_11_replace_72 : decode prog_1_method_17_code 72 = .ok (.getfield 96, 3) := by decide +kernel
theorem d_11_replace_75 : decode prog_1_method_17_code 75 = .ok (.invokevirtual 104, 3) := by decide +kernel
theorem d_11_replace_78 : decode prog_1_method_17_code 78 = .ok (.if_icmp .ge 51, 3) := by decide +kernel
theorem d_11_replace_81 : decode prog_1_method_17_code 81 = .ok (.aload 5, 2) := by decide +kernel
theorem d_11_replace_83 : decode prog_1_method_17_code 83 = .ok (.getfield 96, 3) := by decide +kernel
theorem d_11_replace_86 : decode prog_1_method_17_code 86 = .ok (.iload 6, 2) := by decide +kernel
theorem d_11_replace_88 : decode prog_1_method_17_code 88 = .ok (.invokevirtual 130, 3) := by decide +kernel
theorem d_11_replace_91 : decode prog_1_method_17_code 91 = .ok (.istore 7, 2) := by decide +kernel
theorem d_11_replace_93 : decode prog_1_method_17_code 93 = .ok (.aload_n 0, 1) := by decide +kernel
theorem d_11_replace_94 : decode prog_1_method_17_code 94 = .ok (.getfield 26, 3) := by decide +kernel
theorem d_11_replace_97 : decode prog_1_method_17_code 97 = .ok (.getfield 48, 3) := by decide +kernel
theorem d_11_replace_100 : decode prog_1_method_17_code 100 = .ok (.iload 7, 2) := by decide +kernel
theorem d_11_replace_102 : decode prog_1_method_17_code 102 = .ok (.iload_n 2, 1) := by decide +kernel
theorem d_11_replace_103 : decode prog_1_method_17_code 103 = .ok (.invokevirtual 123, 3) := by decide +kernel
theorem d_11_replace_106 : decode prog_1_method_17_code 106 = .ok (.iload_n 3, 1) := by decide +kernel
theorem d_11_replace_107 : decode prog_1_method_17_code 107 = .ok (.if_icmp .ne 16, 3) := by decide +kernel
theorem d_11_replace_110 : decode prog_1_method_17_code 110 = .ok (.aload_n 0, 1) := by decide +kernel
theorem d_11_replace_111 : decode prog_1_method_17_code 111 = .ok (.getfield 26, 3) := by decide +kernel
theorem d_11_replace_114 : decode prog_1_method_17_code 114 = .ok (.iload_n 1, 1) := by decide +kernel
theorem d_11_replace_115 : decode prog_1_method_17_code 115 = .ok (.iload 7, 2) := by decide +kernel
theorem d_11_replace_117 : decode prog_1_method_17_code 117 = .ok (.iload_n 2, 1) := by decide +kernel
theorem d_11_replace_118 : decode prog_1_method_17_code 118 = .ok (.iload 4, 2) := by decide +kernel
theorem d_11_replace_120 : decode prog_1_method_17_code 120 = .ok (.invokevirtual 177, 3) := by decide +kernel
theorem d_11_replace_123 : decode prog_1_method_17_code 123 = .ok (.iinc 6 1, 3) := by decide +kernel
theorem d_11_replace_126 : decode prog_1_method_17_code 126 = .ok (.goto (-58), 3) := by decide +kernel
theorem d_11_replace_129 : decode prog_1_method_17_code 129 = .ok (.aload_n 0, 1) := by decide +kernel
theorem d_11_replace_130 : decode prog_1_method_17_code 130 = .ok (.getfield 26, 3) := by decide +kernel
theorem d_11_replace_133 : decode prog_1_method_17_code 133 = .ok (.iload_n 1, 1) := by decide +kernel
theorem d_11_replace_134 : decode prog_1_method_17_code 134 = .ok (.invokevirtual 181, 3) := by decide +kernel
theorem d_11_replace_137 : decode prog_1_method_17_code 137 = .ok (.ireturn, 1) := by decide +kernel
theorem d_11_swap_0 : decode prog_1_method_18_code 0 = .ok (.aload_n 0, 1) := by decide +kernel
theorem d_11_swap_1 : decode prog_1_method_18_code 1 = .ok (.iload_n 1, 1) := by decide +kernel
theorem d_11_swap_2 : decode prog_1_method_18_code 2 = .ok (.invokevirtual 73, 3) := by decide +kernel
theorem d_11_swap_5 : decode prog_1_method_18_code 5 = .ok (.astore 5, 2) := by decide +kernel
theorem d_11_swap_7 : decode prog_1_method_18_code 7 = .ok (.aload_n 0, 1) := by decide +kernel
theorem d_11_swap_8 : decode prog_1_method_18_code 8 = .ok (.aload 5, 2) := by decide +kernel
theorem d_11_swap_10 : decode prog_1_method_18_code 10 = .ok (.iload_n 2, 1) := by decide +kernel
theorem d_11_swap_11 : decode prog_1_method_18_code 11 = .ok (.invokevirtual 157, 3) := by decide +kernel
theorem d_11_swap_14 : decode prog_1_method_18_code 14 = .ok (.istore 6, 2) := by decide +kernel
theorem d_11_swap_16 : decode prog_1_method_18_code 16 = .ok (.aload_n 0, 1) := by decide +kernel
theorem d_11_swap_17 : decode prog_1_method_18_code 17 = .ok (.aload 5, 2) := by decide +kernel
theorem d_11_swap_19 : decode prog_1_method_18_code 19 = .ok (.iload_n 3, 1) := by decide +kernel
theorem d_11_swap_20 : decode prog_1_method_18_code 20 = .ok (.invokevirtual 157, 3) := by decide +kernel
theorem d_11_swap_23 : decode prog_1_method_18_code 23 = .ok (.istore 7, 2) := by decide +kernel
theorem d_11_swap_25 : decode prog_1_method_18_code 25 = .ok (.aload_n 0, 1) := by decide +kernel
theorem d_11_swap_26 : decode prog_1_method_18_code 26 = .ok (.iload 4, 2) := by decide +kernel
theorem d_11_swap_28 : decode prog_1_method_18_code 28 = .ok (.invokevirtual 113, 3) := by decide +kernel
theorem d_11_swap_31 : decode prog_1_method_18_code 31 = .ok (.iload_n 2, 1) := by decide +kernel
theorem d_11_swap_32 : decode prog_1_method_18_code 32 = .ok (.iload_n 3, 1) := by decide +kernel
theorem d_11_swap_33 : decode prog_1_method_18_code 33 = .ok (.if_icmp .ne 11, 3) := by decide +kernel
theorem d_11_swap_36 : decode prog_1_method_18_code 36 = .ok (.new 56, 3) := by decide +kernel
theorem d_11_swap_39 : decode prog_1_method_18_code 39 = .ok (.dup, 1) := by decide +kernel
theorem d_11_swap_40 : decode prog_1_method_18_code 40 = .ok (.invokespecial 58, 3) := by decide +kernel
theorem d_11_swap_43 : decode prog_1_method_18_code 43 = .ok (.athrow, 1) := by decide +kernel
theorem d_11_swap_44 : decode prog_1_method_18_code 44 = .ok (.aload_n 0, 1) := by decide +kernel
theorem d_11_swap_45 : decode prog_1_method_18_code 45 = .ok (.aload 5, 2) := by decide +kernel
theorem d_11_swap_47 : decode prog_1_method_18_code 47 = .ok (.iload 4, 2) := by decide +kernel
theorem d_11_swap_49 : decode prog_1_method_18_code 49 = .ok (.invokevirtual 161, 3) := by decide +kernel
theorem d_11_swap_52 : decode prog_1_method_18_code 52 = .ok (.aload_n 0, 1) := by decide +kernel
theorem d_11_swap_53 : decode prog_1_method_18_code 53 = .ok (.getfield 26, 3) := by decide +kernel
theorem d_11_swap_56 : decode prog_1_method_18_code 56 = .ok (.getfield 48, 3) := by decide +kernel
theorem d_11_swap_59 : decode prog_1_method_18_code 59 = .ok (.iload 6, 2) := by decide +kernel
theorem d_11_swap_61 : decode prog_1_method_18_code 61 = .ok (.iload 4, 2) := by decide +kernel
theorem d_11_swap_63 : decode prog_1_method_18_code 63 = .ok (.invokevirtual 123, 3) := by decide +kernel
theorem d_11_swap_66 : decode prog_1_method_18_code 66 = .ok (.istore 8, 2) := by decide +kernel
theorem d_11_swap_68 : decode prog_1_method_18_code 68 = .ok (.aload_n 0, 1) := by decide +kernel
theorem d_11_swap_69 : decode prog_1_method_18_code 69 = .ok (.getfield 26, 3) := by decide +kernel
theorem d_11_swap_72 : decode prog_1_method_18_code 72 = .ok (.getfield 48, 3) := by decide +kernel
theorem d_11_swap_75 : decode prog_1_method_18_code 75 = .ok (.iload 7, 2) := by decide +kernel
theorem d_11_swap_77 : decode prog_1_method_18_code 77 = .ok (.iload 4, 2) := by decide +kernel
theorem d_11_swap_79 : decode prog_1_method_18_code 79 = .ok (.invokevirtual 123, 3) := by decide +kernel
theorem d_11_swap_82 : decode prog_1_method_18_code 82 = .ok (.istore 9, 2) := by decide +kernel
theorem d_11_swap_84 : decode prog_1_method_18_code 84 = .ok (.aload_n 0, 1) := by decide +kernel
theorem d_11_swap_85 : decode prog_1_method_18_code 85 = .ok (.getfield 26, 3) := by decide +kernel
theorem d_11_swap_88 : decode prog_1_method_18_code 88 = .ok (.invokevirtual 174, 3) := by decide +kernel
theorem d_11_swap_91 : decode prog_1_method_18_code 91 = .ok (.aload_n 0, 1) := by decide +kernel
theorem d_11_swap_92 : decode prog_1_method_18_code 92 = .ok (.getfield 26, 3) := by decide +kernel
theorem d_11_swap_95 : decode prog_1_method_18_code 95 = .ok (.iload_n 1, 1) := by decide +kernel
theorem d_11_swap_96 : decode prog_1_method_18_code 96 = .ok (.iload 6, 2) := by decide +kernel
theorem d_11_swap_98 : decode prog_1_method_18_code 98 = .ok (.iload 4, 2) := by decide +kernel
theorem d_11_swap_100 : decode prog_1_method_18_code 100 = .ok (.iload 9, 2) := by decide +kernel
theorem d_11_swap_102 : decode prog_1_method_18_code 102 = .ok (.invokevirtual 177, 3) := by decide +kernel
theorem d_11_swap_105 : decode prog_1_method_18_code 105 = .ok (.aload_n 0, 1) := by decide +kernel
theorem d_11_swap_106 : decode prog_1_method_18_code 106 = .ok (.getfield 26, 3) := by decide +kernel
theorem d_11_swap_109 : decode prog_1_method_18_code 109 = .ok (.iload_n 1, 1) := by decide +kernel
theorem d_11_swap_110 : decode prog_1_method_18_code 110 = .ok (.iload 7, 2) := by decide +kernel
theorem d_11_swap_112 : decode prog_1_method_18_code 112 = .ok (.iload 4, 2) := by decide +kernel
theorem d_11_swap_114 : decode prog_1_method_18_code 114 = .ok (.iload 8, 2) := by decide +kernel
theorem d_11_swap_116 : decode prog_1_method_18_code 116 = .ok (.invokevirtual 177, 3) := by decide +kernel
theorem d_11_swap_119 : decode prog_1_method_18_code 119 = .ok (.aload_n 0, 1) := by decide +kernel
theorem d_11_swap_120 : decode prog_1_method_18_code 120 = .ok (.getfield 26, 3) := by decide +kernel
theorem d_11_swap_123 : decode prog_1_method_18_code 123 = .ok (.iload_n 1, 1) := by decide +kernel
theorem d_11_swap_124 : decode prog_1_method_18_code 124 = .ok (.invokevirtual 181, 3) := by decide +kernel
theorem d_11_swap_127 : decode prog_1_method_18_code 127 = .ok (.ireturn, 1) := by decide +kernel
theorem d_9_readGrid_0 : decode prog_11_method_23_code 0 = .ok (.aload_n 0, 1) := by decide +kernel
theorem d_9_readGrid_1 : decode prog_11_method_23_code 1 = .ok (.invokevirtual 103, 3) := by decide +kernel
theorem d_9_readGrid_4 : decode prog_11_method_23_code 4 = .ok (.iload_n 3, 1) := by decide +kernel
theorem d_9_readGrid_5 : decode prog_11_method_23_code 5 = .ok (.istore 4, 2) := by decide +kernel
theorem d_9_readGrid_7 : decode prog_11_method_23_code 7 = .ok (.iload 4, 2) := by decide +kernel
theorem d_9_readGrid_9 : decode prog_11_method_23_code 9 = .ok (.aload_n 0, 1) := by decide +kernel
theorem d_9_readGrid_10 : decode prog_11_method_23_code 10 = .ok (.getfield 42, 3) := by decide +kernel
theorem d_9_readGrid_13 : decode prog_11_method_23_code 13 = .ok (.if_icmp .ge 65, 3) := by decide +kernel
theorem d_9_readGrid_16 : decode prog_11_method_23_code 16 = .ok (.aload_n 2, 1) := by decide +kernel
theorem d_9_readGrid_17 : decode prog_11_method_23_code 17 = .ok (.iload 4, 2) := by decide +kernel
theorem d_9_readGrid_19 : decode prog_11_method_23_code 19 = .ok (.invokevirtual 163, 3) := by decide +kernel
theorem d_9_readGrid_22 : decode prog_11_method_23_code 22 = .ok (.ifCond .eq 6, 3) := by decide +kernel
theorem d_9_readGrid_25 : decode prog_11_method_23_code 25 = .ok (.goto 47, 3) := by decide +kernel
theorem d_9_readGrid_28 : decode prog_11_method_23_code 28 = .ok (.aload_n 1, 1) := by decide +kernel
theorem d_9_readGrid_29 : decode prog_11_method_23_code 29 = .ok (.aload_n 0, 1) := by decide +kernel
theorem d_9_readGrid_30 : decode prog_11_method_23_code 30 = .ok (.iload 4, 2) := by decide +kernel
theorem d_9_readGrid_32 : decode prog_11_method_23_code 32 = .ok (.invokevirtual 106, 3) := by decide +kernel
theorem d_9_readGrid_35 : decode prog_11_method_23_code 35 = .ok (.invokevirtual 109, 3) := by decide +kernel
theorem d_9_readGrid_38 : decode prog_11_method_23_code 38 = .ok (.ifCond .ne 5, 3) := by decide +kernel
theorem d_9_readGrid_41 : decode prog_11_method_23_code 41 = .ok (.iconst 0, 1) := by decide +kernel
theorem d_9_readGrid_42 : decode prog_11_method_23_code 42 = .ok (.ireturn, 1) := by decide +kernel
theorem d_9_readGrid_43 : decode prog_11_method_23_code 43 = .ok (.aload_n 0, 1) := by decide +kernel
theorem d_9_readGrid_44 : decode prog_11_method_23_code 44 = .ok (.aload_n 1, 1) := by decide +kernel
theorem d_9_readGrid_45 : decode prog_11_method_23_code 45 = .ok (.getfield 112, 3) := by decide +kernel
theorem d_9_readGrid_48 : decode prog_11_method_23_code 48 = .ok (.invokevirtual 115, 3) := by decide +kernel
theorem d_9_readGrid_51 : decode prog_11_method_23_code 51 = .ok (.aload_n 1, 1) := by decide +kernel
theorem d_9_readGrid_52 : decode prog_11_method_23_code 52 = .ok (.bipush 44, 2) := by decide +kernel
theorem d_9_readGrid_54 : decode prog_11_method_23_code 54 = .ok (.invokevirtual 68, 3) := by decide +kernel
theorem d_9_readGrid_57 : decode prog_11_method_23_code 57 = .ok (.ifCond .ne 15, 3) := by decide +kernel
theorem d_9_readGrid_60 : decode prog_11_method_23_code 60 = .ok (.aload_n 0, 1) := by decide +kernel
theorem d_9_readGrid_61 : decode prog_11_method_23_code 61 = .ok (.dup, 1) := by decide +kernel
theorem d_9_readGrid_62 : decode prog_11_method_23_code 62 = .ok (.getfield 28, 3) := by decide +kernel
theorem d_9_readGrid_65 : decode prog_11_method_23_code 65 = .ok (.iconst 1, 1) := by decide +kernel
theorem d_9_readGrid_66 : decode prog_11_method_23_code 66 = .ok (.iadd, 1) := by decide +kernel
theorem d_9_readGrid_67 : decode prog_11_method_23_code 67 = .ok (.putfield 28, 3) := by decide +kernel
theorem d_9_readGrid_70 : decode prog_11_method_23_code 70 = .ok (.iconst 1, 1) := by decide +kernel
theorem d_9_readGrid_71 : decode prog_11_method_23_code 71 = .ok (.ireturn, 1) := by decide +kernel
theorem d_9_readGrid_72 : decode prog_11_method_23_code 72 = .ok (.iinc 4 1, 3) := by decide +kernel
theorem d_9_readGrid_75 : decode prog_11_method_23_code 75 = .ok (.goto (-68), 3) := by decide +kernel
theorem d_9_readGrid_78 : decode prog_11_method_23_code 78 = .ok (.aload_n 1, 1) := by decide +kernel
theorem d_9_readGrid_79 : decode prog_11_method_23_code 79 = .ok (.invokevirtual 75, 3) := by decide +kernel
theorem d_9_readGrid_82 : decode prog_11_method_23_code 82 = .ok (.aload_n 1, 1) := by decide +kernel
theorem d_9_readGrid_83 : decode prog_11_method_23_code 83 = .ok (.invokevirtual 72, 3) := by decide +kernel
theorem d_9_readGrid_86 : decode prog_11_method_23_code 86 = .ok (.ireturn, 1) := by decide +kernel
theorem d_9_readGrids_0 : decode prog_11_method_22_code 0 = .ok (.aload_n 0, 1) := by decide +kernel
theorem d_9_readGrids_1 : decode prog_11_method_22_code 1 = .ok (.aload_n 2, 1) := by decide +kernel
theorem d_9_readGrids_2 : decode prog_11_method_22_code 2 = .ok (.invokevirtual 50, 3) := by decide +kernel
theorem d_9_readGrids_5 : decode prog_11_method_22_code 5 = .ok (.iconst 0, 1) := by decide +kernel
theorem d_9_readGrids_6 : decode prog_11_method_22_code 6 = .ok (.istore 5, 2) := by decide +kernel
theorem d_9_readGrids_8 : decode prog_11_method_22_code 8 = .ok (.iload 5, 2) := by decide +kernel
theorem d_9_readGrids_10 : decode prog_11_method_22_code 10 = .ok (.bipush 12, 2) := by decide +kernel
theorem d_9_readGrids_12 : decode prog_11_method_22_code 12 = .ok (.if_icmp .ge 45, 3) := by decide +kernel
theorem d_9_readGrids_15 : decode prog_11_method_22_code 15 = .ok (.aload_n 0, 1) := by decide +kernel
theorem d_9_readGrids_16 : decode prog_11_method_22_code 16 = .ok (.aload_n 1, 1) := by decide +kernel
theorem d_9_readGrids_17 : decode prog_11_method_22_code 17 = .ok (.aload_n 3, 1) := by decide +kernel
theorem d_9_readGrids_18 : decode prog_11_method_22_code 18 = .ok (.iload 4, 2) := by decide +kernel
theorem d_9_readGrids_20 : decode prog_11_method_22_code 20 = .ok (.invokevirtual 216, 3) := by decide +kernel
theorem d_9_readGrids_23 : decode prog_11_method_22_code 23 = .ok (.ifCond .ne 5, 3) := by decide +kernel
theorem d_9_readGrids_26 : decode prog_11_method_22_code 26 = .ok (.iconst 0, 1) := by decide +kernel
theorem d_9_readGrids_27 : decode prog_11_method_22_code 27 = .ok (.ireturn, 1) := by decide +kernel
theorem d_9_readGrids_28 : decode prog_11_method_22_code 28 = .ok (.aload_n 1, 1) := by decide +kernel
theorem d_9_readGrids_29 : decode prog_11_method_22_code 29 = .ok (.invokevirtual 54, 3) := by decide +kernel
theorem d_9_readGrids_32 : decode prog_11_method_22_code 32 = .ok (.ifCond .eq 5, 3) := by decide +kernel
theorem d_9_readGrids_35 : decode prog_11_method_22_code 35 = .ok (.iconst 1, 1) := by decide +kernel
theorem d_9_readGrids_36 : decode prog_11_method_22_code 36 = .ok (.ireturn, 1) := by decide +kernel
theorem d_9_readGrids_37 : decode prog_11_method_22_code 37 = .ok (.aload_n 1, 1) := by decide +kernel
theorem d_9_readGrids_38 : decode prog_11_method_22_code 38 = .ok (.bipush 59, 2) := by decide +kernel
theorem d_9_readGrids_40 : decode prog_11_method_22_code 40 = .ok (.invokevirtual 68, 3) := by decide +kernel
theorem d_9_readGrids_43 : decode prog_11_method_22_code 43 = .ok (.ifCond .ne 8, 3) := by decide +kernel
theorem d_9_readGrids_46 : decode prog_11_method_22_code 46 = .ok (.aload_n 1, 1) := by decide +kernel
theorem d_9_readGrids_47 : decode prog_11_method_22_code 47 = .ok (.invokevirtual 72, 3) := by decide +kernel
theorem d_9_readGrids_50 : decode prog_11_method_22_code 50 = .ok (.ireturn, 1) := by decide +kernel
theorem d_9_readGrids_51 : decode prog_11_method_22_code 51 = .ok (.iinc 5 1, 3) := by decide +kernel
theorem d_9_readGrids_54 : decode prog_11_method_22_code 54 = .ok (.goto (-46), 3) := by decide +kernel
theorem d_9_readGrids_57 : decode prog_11_method_22_code 57 = .ok (.aload_n 1, 1) := by decide +kernel
theorem d_9_readGrids_58 : decode prog_11_method_22_code 58 = .ok (.invokevirtual 75, 3) := by decide +kernel
theorem d_9_readGrids_61 : decode prog_11_method_22_code 61 = .ok (.aload_n 1, 1) := by decide +kernel
theorem d_9_readGrids_62 : decode prog_11_method_22_code 62 = .ok (.invokevirtual 72, 3) := by decide +kernel
theorem d_9_readGrids_65 : decode prog_11_method_22_code 65 = .ok (.ireturn, 1) := by decide +kernel
theorem d_8_pasteGrid_0 : decode prog_10_method_10_code 0 = .ok (.iload 5, 2) := by decide +kernel
theorem d_8_pasteGrid_2 : decode prog_10_method_10_code 2 = .ok (.istore 6, 2) := by decide +kernel
theorem d_8_pasteGrid_4 : decode prog_10_method_10_code 4 = .ok (.iconst 0, 1) := by decide +kernel
theorem d_8_pasteGrid_5 : decode prog_10_method_10_code 5 = .ok (.istore 7, 2) := by decide +kernel
theorem d_8_pasteGrid_7 : decode prog_10_method_10_code 7 = .ok (.iload 7, 2) := by decide +kernel
theorem d_8_pasteGrid_9 : decode prog_10_method_10_code 9 = .ok (.aload_n 1, 1) := by decide +kernel
theorem d_8_pasteGrid_10 : decode prog_10_method_10_code 10 = .ok (.iload_n 2, 1) := by decide +kernel
theorem d_8_pasteGrid_11 : decode prog_10_method_10_code 11 = .ok (.invokevirtual 64, 3) := by decide +kernel
theorem d_8_pasteGrid_14 : decode prog_10_method_10_code 14 = .ok (.if_icmp .ge 57, 3) := by decide +kernel
theorem d_8_pasteGrid_17 : decode prog_10_method_10_code 17 = .ok (.iload 6, 2) := by decide +kernel
theorem d_8_pasteGrid_19 : decode prog_10_method_10_code 19 = .ok (.iconst 5, 1) := by decide +kernel
theorem d_8_pasteGrid_20 : decode prog_10_method_10_code 20 = .ok (.if_icmp .ge 26, 3) := by decide +kernel
theorem d_8_pasteGrid_23 : decode prog_10_method_10_code 23 = .ok (.aload_n 0, 1) := by decide +kernel
theorem d_8_pasteGrid_24 : decode prog_10_method_10_code 24 = .ok (.getfield 20, 3) := by decide +kernel
theorem d_8_pasteGrid_27 : decode prog_10_method_10_code 27 = .ok (.iload_n 3, 1) := by decide +kernel
theorem d_8_pasteGrid_28 : decode prog_10_method_10_code 28 = .ok (.aaload, 1) := by decide +kernel
theorem d_8_pasteGrid_29 : decode prog_10_method_10_code 29 = .ok (.getfield 93, 3) := by decide +kernel
theorem d_8_pasteGrid_32 : decode prog_10_method_10_code 32 = .ok (.iload 6, 2) := by decide +kernel
theorem d_8_pasteGrid_34 : decode prog_10_method_10_code 34 = .ok (.invokevirtual 158, 3) := by decide +kernel
theorem d_8_pasteGrid_37 : decode prog_10_method_10_code 37 = .ok (.ifCond .eq 9, 3) := by decide +kernel
theorem d_8_pasteGrid_40 : decode prog_10_method_10_code 40 = .ok (.iinc 6 1, 3) := by decide +kernel
theorem d_8_pasteGrid_43 : decode prog_10_method_10_code 43 = .ok (.goto (-26), 3) := by decide +kernel
theorem d_8_pasteGrid_46 : decode prog_10_method_10_code 46 = .ok (.aload_n 0, 1) := by decide +kernel
theorem d_8_pasteGrid_47 : decode prog_10_method_10_code 47 = .ok (.iload_n 3, 1) := by decide +kernel
theorem d_8_pasteGrid_48 : decode prog_10_method_10_code 48 = .ok (.iload 4, 2) := by decide +kernel
theorem d_8_pasteGrid_50 : decode prog_10_method_10_code 50 = .ok (.iload 6, 2) := by decide +kernel
theorem d_8_pasteGrid_52 : decode prog_10_method_10_code 52 = .ok (.aload_n 1, 1) := by decide +kernel
theorem d_8_pasteGrid_53 : decode prog_10_method_10_code 53 = .ok (.iload_n 2, 1) := by decide +kernel
theorem d_8_pasteGrid_54 : decode prog_10_method_10_code 54 = .ok (.iload 7, 2) := by decide +kernel
theorem d_8_pasteGrid_56 : decode prog_10_method_10_code 56 = .ok (.invokevirtual 68, 3) := by decide +kernel
theorem d_8_pasteGrid_59 : decode prog_10_method_10_code 59 = .ok (.invokevirtual 162, 3) := by decide +kernel
theorem d_8_pasteGrid_62 : decode prog_10_method_10_code 62 = .ok (.iinc 6 1, 3) := by decide +kernel
theorem d_8_pasteGrid_65 : decode prog_10_method_10_code 65 = .ok (.iinc 7 1, 3) := by decide +kernel
theorem d_8_pasteGrid_68 : decode prog_10_method_10_code 68 = .ok (.goto (-61), 3) := by decide +kernel
theorem d_8_pasteGrid_71 : decode prog_10_method_10_code 71 = .ok (.return_, 1) := by decide +kernel
theorem d_8_pasteGrids_0 : decode prog_10_method_9_code 0 = .ok (.iload_n 2, 1) := by decide +kernel
theorem d_8_pasteGrids_1 : decode prog_10_method_9_code 1 = .ok (.ifCond .lt 8, 3) := by decide +kernel
theorem d_8_pasteGrids_4 : decode prog_10_method_9_code 4 = .ok (.iload_n 2, 1) := by decide +kernel
theorem d_8_pasteGrids_5 : decode prog_10_method_9_code 5 = .ok (.iconst 4, 1) := by decide +kernel
theorem d_8_pasteGrids_6 : decode prog_10_method_9_code 6 = .ok (.if_icmp .lt 5, 3) := by decide +kernel
theorem d_8_pasteGrids_9 : decode prog_10_method_9_code 9 = .ok (.iconst 0, 1) := by decide +kernel
theorem d_8_pasteGrids_10 : decode prog_10_method_9_code 10 = .ok (.ireturn, 1) := by decide +kernel
theorem d_8_pasteGrids_11 : decode prog_10_method_9_code 11 = .ok (.aload_n 0, 1) := by decide +kernel
theorem d_8_pasteGrids_12 : decode prog_10_method_9_code 12 = .ok (.getfield 20, 3) := by decide +kernel
theorem d_8_pasteGrids_15 : decode prog_10_method_9_code 15 = .ok (.iload_n 2, 1) := by decide +kernel
theorem d_8_pasteGrids_16 : decode prog_10_method_9_code 16 = .ok (.aaload, 1) := by decide +kernel
theorem d_8_pasteGrids_17 : decode prog_10_method_9_code 17 = .ok (.getfield 103, 3) := by decide +kernel
theorem d_8_pasteGrids_20 : decode prog_10_method_9_code 20 = .ok (.astore 5, 2) := by decide +kernel
theorem d_8_pasteGrids_22 : decode prog_10_method_9_code 22 = .ok (.aload 5, 2) := by decide +kernel
theorem d_8_pasteGrids_24 : decode prog_10_method_9_code 24 = .ok (.invokevirtual 112, 3) := by decide +kernel
theorem d_8_pasteGrids_27 : decode prog_10_method_9_code 27 = .ok (.istore 6, 2) := by decide +kernel
theorem d_8_pasteGrids_29 : decode prog_10_method_9_code 29 = .ok (.aload_n 0, 1) := by decide +kernel
theorem d_8_pasteGrids_30 : decode prog_10_method_9_code 30 = .ok (.invokevirtual 148, 3) := by decide +kernel
theorem d_8_pasteGrids_33 : decode prog_10_method_9_code 33 = .ok (.iconst 0, 1) := by decide +kernel
theorem d_8_pasteGrids_34 : decode prog_10_method_9_code 34 = .ok (.istore 7, 2) := by decide +kernel
theorem d_8_pasteGrids_36 : decode prog_10_method_9_code 36 = .ok (.iload 7, 2) := by decide +kernel
theorem d_8_pasteGrids_38 : decode prog_10_method_9_code 38 = .ok (.aload_n 1, 1) := by decide +kernel
theorem d_8_pasteGrids_39 : decode prog_10_method_9_code 39 = .ok (.getfield 57, 3) := by decide +kernel
theorem d_8_pasteGrids_42 : decode prog_10_method_9_code 42 = .ok (.if_icmp .ge 68, 3) := by decide +kernel
theorem d_8_pasteGrids_45 : decode prog_10_method_9_code 45 = .ok (.iload_n 3, 1) := by decide +kernel
theorem d_8_pasteGrids_46 : decode prog_10_method_9_code 46 = .ok (.iload 7, 2) := by decide +kernel
theorem d_8_pasteGrids_48 : decode prog_10_method_9_code 48 = .ok (.iadd, 1) := by decide +kernel
theorem d_8_pasteGrids_49 : decode prog_10_method_9_code 49 = .ok (.aload 5, 2) := by decide +kernel
theorem d_8_pasteGrids_51 : decode prog_10_method_9_code 51 = .ok (.invokevirtual 112, 3) := by decide +kernel
theorem d_8_pasteGrids_54 : decode prog_10_method_9_code 54 = .ok (.if_icmp .lt 31, 3) := by decide +kernel
theorem d_8_pasteGrids_57 : decode prog_10_method_9_code 57 = .ok (.aload_n 0, 1) := by decide +kernel
theorem d_8_pasteGrids_58 : decode prog_10_method_9_code 58 = .ok (.getfield 12, 3) := by decide +kernel
theorem d_8_pasteGrids_61 : decode prog_10_method_9_code 61 = .ok (.invokevirtual 60, 3) := by decide +kernel
theorem d_8_pasteGrids_64 : decode prog_10_method_9_code 64 = .ok (.istore 8, 2) := by decide +kernel
theorem d_8_pasteGrids_66 : decode prog_10_method_9_code 66 = .ok (.aload_n 0, 1) := by decide +kernel
theorem d_8_pasteGrids_67 : decode prog_10_method_9_code 67 = .ok (.getfield 12, 3) := by decide +kernel
theorem d_8_pasteGrids_70 : decode prog_10_method_9_code 70 = .ok (.getfield 76, 3) := by decide +kernel
theorem d_8_pasteGrids_73 : decode prog_10_method_9_code 73 = .ok (.iload 8, 2) := by decide +kernel
theorem d_8_pasteGrids_75 : decode prog_10_method_9_code 75 = .ok (.invokevirtual 80, 3) := by decide +kernel
theorem d_8_pasteGrids_78 : decode prog_10_method_9_code 78 = .ok (.aload 5, 2) := by decide +kernel
theorem d_8_pasteGrids_80 : decode prog_10_method_9_code 80 = .ok (.iload 8, 2) := by decide +kernel
theorem d_8_pasteGrids_82 : decode prog_10_method_9_code 82 = .ok (.invokevirtual 80, 3) := by decide +kernel
theorem d_8_pasteGrids_85 : decode prog_10_method_9_code 85 = .ok (.aload_n 0, 1) := by decide +kernel
theorem d_8_pasteGrids_86 : decode prog_10_method_9_code 86 = .ok (.aload_n 1, 1) := by decide +kernel
theorem d_8_pasteGrids_87 : decode prog_10_method_9_code 87 = .ok (.iload 7, 2) := by decide +kernel
theorem d_8_pasteGrids_89 : decode prog_10_method_9_code 89 = .ok (.iload_n 2, 1) := by decide +kernel
theorem d_8_pasteGrids_90 : decode prog_10_method_9_code 90 = .ok (.aload 5, 2) := by decide +kernel
theorem d_8_pasteGrids_92 : decode prog_10_method_9_code 92 = .ok (.iload_n 3, 1) := by decide +kernel
theorem d_8_pasteGrids_93 : decode prog_10_method_9_code 93 = .ok (.iload 7, 2) := by decide +kernel
theorem d_8_pasteGrids_95 : decode prog_10_method_9_code 95 = .ok (.iadd, 1) := by decide +kernel
theorem d_8_pasteGrids_96 : decode prog_10_method_9_code 96 = .ok (.invokevirtual 115, 3) := by decide +kernel
theorem d_8_pasteGrids_99 : decode prog_10_method_9_code 99 = .ok (.iload 4, 2) := by decide +kernel
theorem d_8_pasteGrids_101 : decode prog_10_method_9_code 101 = .ok (.invokevirtual 151, 3) := by decide +kernel
theorem d_8_pasteGrids_104 : decode prog_10_method_9_code 104 = .ok (.iinc 7 1, 3) := by decide +kernel
theorem d_8_pasteGrids_107 : decode prog_10_method_9_code 107 = .ok (.goto (-71), 3) := by decide +kernel
theorem d_8_pasteGrids_110 : decode prog_10_method_9_code 110 = .ok (.iload 6, 2) := by decide +kernel
theorem d_8_pasteGrids_112 : decode prog_10_method_9_code 112 = .ok (.istore 7, 2) := by decide +kernel
theorem d_8_pasteGrids_114 : decode prog_10_method_9_code 114 = .ok (.iload 7, 2) := by decide +kernel
theorem d_8_pasteGrids_116 : decode prog_10_method_9_code 116 = .ok (.aload 5, 2) := by decide +kernel
theorem d_8_pasteGrids_118 : decode prog_10_method_9_code 118 = .ok (.invokevirtual 112, 3) := by decide +kernel
theorem d_8_pasteGrids_121 : decode prog_10_method_9_code 121 = .ok (.if_icmp .ge 21, 3) := by decide +kernel
theorem d_8_pasteGrids_124 : decode prog_10_method_9_code 124 = .ok (.aload_n 0, 1) := by decide +kernel
theorem d_8_pasteGrids_125 : decode prog_10_method_9_code 125 = .ok (.aload 5, 2) := by decide +kernel
theorem d_8_pasteGrids_127 : decode prog_10_method_9_code 127 = .ok (.iload 7, 2) := by decide +kernel
theorem d_8_pasteGrids_129 : decode prog_10_method_9_code 129 = .ok (.invokevirtual 115, 3) := by decide +kernel
theorem d_8_pasteGrids_132 : decode prog_10_method_9_code 132 = .ok (.iload_n 2, 1) := by decide +kernel
theorem d_8_pasteGrids_133 : decode prog_10_method_9_code 133 = .ok (.invokevirtual 86, 3) := by decide +kernel
theorem d_8_pasteGrids_136 : decode prog_10_method_9_code 136 = .ok (.iinc 7 1, 3) := by decide +kernel
theorem d_8_pasteGrids_139 : decode prog_10_method_9_code 139 = .ok (.goto (-25), 3) := by decide +kernel
theorem d_8_pasteGrids_142 : decode prog_10_method_9_code 142 = .ok (.aload_n 0, 1) := by decide +kernel
theorem d_8_pasteGrids_143 : decode prog_10_method_9_code 143 = .ok (.iload_n 2, 1) := by decide +kernel
theorem d_8_pasteGrids_144 : decode prog_10_method_9_code 144 = .ok (.invokevirtual 155, 3) := by decide +kernel
theorem d_8_pasteGrids_147 : decode prog_10_method_9_code 147 = .ok (.ireturn, 1) := by decide +kernel
theorem d_11_paste_0 : decode prog_1_method_19_code 0 = .ok (.aload_n 0, 1) := by decide +kernel
theorem d_11_paste_1 : decode prog_1_method_19_code 1 = .ok (.getfield 10, 3) := by decide +kernel
theorem d_11_paste_4 : decode prog_1_method_19_code 4 = .ok (.invokevirtual 70, 3) := by decide +kernel
theorem d_11_paste_7 : decode prog_1_method_19_code 7 = .ok (.aload_n 0, 1) := by decide +kernel
theorem d_11_paste_8 : decode prog_1_method_19_code 8 = .ok (.iload_n 1, 1) := by decide +kernel
theorem d_11_paste_9 : decode prog_1_method_19_code 9 = .ok (.invokevirtual 73, 3) := by decide +kernel
theorem d_11_paste_12 : decode prog_1_method_19_code 12 = .ok (.astore 4, 2) := by decide +kernel
theorem d_11_paste_14 : decode prog_1_method_19_code 14 = .ok (.aload_n 0, 1) := by decide +kernel
theorem d_11_paste_15 : decode prog_1_method_19_code 15 = .ok (.aload 4, 2) := by decide +kernel
theorem d_11_paste_17 : decode prog_1_method_19_code 17 = .ok (.iload_n 2, 1) := by decide +kernel
theorem d_11_paste_18 : decode prog_1_method_19_code 18 = .ok (.invokevirtual 157, 3) := by decide +kernel
theorem d_11_paste_21 : decode prog_1_method_19_code 21 = .ok (.pop, 1) := by decide +kernel
theorem d_11_paste_22 : decode prog_1_method_19_code 22 = .ok (.aload_n 0, 1) := by decide +kernel
theorem d_11_paste_23 : decode prog_1_method_19_code 23 = .ok (.iload_n 3, 1) := by decide +kernel
theorem d_11_paste_24 : decode prog_1_method_19_code 24 = .ok (.invokevirtual 113, 3) := by decide +kernel
theorem d_11_paste_27 : decode prog_1_method_19_code 27 = .ok (.aload_n 0, 1) := by decide +kernel
theorem d_11_paste_28 : decode prog_1_method_19_code 28 = .ok (.aload 4, 2) := by decide +kernel
theorem d_11_paste_30 : decode prog_1_method_19_code 30 = .ok (.iload_n 3, 1) := by decide +kernel
theorem d_11_paste_31 : decode prog_1_method_19_code 31 = .ok (.invokevirtual 161, 3) := by decide +kernel
theorem d_11_paste_34 : decode prog_1_method_19_code 34 = .ok (.aload_n 0, 1) := by decide +kernel
theorem d_11_paste_35 : decode prog_1_method_19_code 35 = .ok (.getfield 10, 3) := by decide +kernel
theorem d_11_paste_38 : decode prog_1_method_19_code 38 = .ok (.invokevirtual 77, 3) := by decide +kernel
theorem d_11_paste_41 : decode prog_1_method_19_code 41 = .ok (.aload_n 0, 1) := by decide +kernel
theorem d_11_paste_42 : decode prog_1_method_19_code 42 = .ok (.getfield 19, 3) := by decide +kernel
theorem d_11_paste_45 : decode prog_1_method_19_code 45 = .ok (.aload_n 0, 1) := by decide +kernel
theorem d_11_paste_46 : decode prog_1_method_19_code 46 = .ok (.getfield 10, 3) := by decide +kernel
theorem d_11_paste_49 : decode prog_1_method_19_code 49 = .ok (.aload_n 0, 1) := by decide +kernel
theorem d_11_paste_50 : decode prog_1_method_19_code 50 = .ok (.getfield 26, 3) := by decide +kernel
theorem d_11_paste_53 : decode prog_1_method_19_code 53 = .ok (.getfield 48, 3) := by decide +kernel
theorem d_11_paste_56 : decode prog_1_method_19_code 56 = .ok (.aload 4, 2) := by decide +kernel
theorem d_11_paste_58 : decode prog_1_method_19_code 58 = .ok (.getfield 83, 3) := by decide +kernel
theorem d_11_paste_61 : decode prog_1_method_19_code 61 = .ok (.iload_n 3, 1) := by decide +kernel
theorem d_11_paste_62 : decode prog_1_method_19_code 62 = .ok (.invokevirtual 187, 3) := by decide +kernel
theorem d_11_paste_65 : decode prog_1_method_19_code 65 = .ok (.ifCond .ne 11, 3) := by decide +kernel
theorem d_11_paste_68 : decode prog_1_method_19_code 68 = .ok (.new 56, 3) := by decide +kernel
theorem d_11_paste_71 : decode prog_1_method_19_code 71 = .ok (.dup, 1) := by decide +kernel
theorem d_11_paste_72 : decode prog_1_method_19_code 72 = .ok (.invokespecial 58, 3) := by decide +kernel
theorem d_11_paste_75 : decode prog_1_method_19_code 75 = .ok (.athrow, 1) := by decide +kernel
theorem d_11_paste_76 : decode prog_1_method_19_code 76 = .ok (.iconst 0, 1) := by decide +kernel
theorem d_11_paste_77 : decode prog_1_method_19_code 77 = .ok (.iload_n 2, 1) := by decide +kernel
theorem d_11_paste_78 : decode prog_1_method_19_code 78 = .ok (.aload_n 0, 1) := by decide +kernel
theorem d_11_paste_79 : decode prog_1_method_19_code 79 = .ok (.getfield 19, 3) := by decide +kernel
theorem d_11_paste_82 : decode prog_1_method_19_code 82 = .ok (.getfield 191, 3) := by decide +kernel
theorem d_11_paste_85 : decode prog_1_method_19_code 85 = .ok (.iadd, 1) := by decide +kernel
theorem d_11_paste_86 : decode prog_1_method_19_code 86 = .ok (.aload 4, 2) := by decide +kernel
theorem d_11_paste_88 : decode prog_1_method_19_code 88 = .ok (.getfield 96, 3) := by decide +kernel
theorem d_11_paste_91 : decode prog_1_method_19_code 91 = .ok (.invokevirtual 104, 3) := by decide +kernel
theorem d_11_paste_94 : decode prog_1_method_19_code 94 = .ok (.isub, 1) := by decide +kernel
theorem d_11_paste_95 : decode prog_1_method_19_code 95 = .ok (.invokestatic 194, 3) := by decide +kernel
theorem d_11_paste_98 : decode prog_1_method_19_code 98 = .ok (.istore 5, 2) := by decide +kernel
theorem d_11_paste_100 : decode prog_1_method_19_code 100 = .ok (.aload_n 0, 1) := by decide +kernel
theorem d_11_paste_101 : decode prog_1_method_19_code 101 = .ok (.getfield 26, 3) := by decide +kernel
theorem d_11_paste_104 : decode prog_1_method_19_code 104 = .ok (.getfield 48, 3) := by decide +kernel
theorem d_11_paste_107 : decode prog_1_method_19_code 107 = .ok (.invokevirtual 199, 3) := by decide +kernel
theorem d_11_paste_110 : decode prog_1_method_19_code 110 = .ok (.iload 5, 2) := by decide +kernel
theorem d_11_paste_112 : decode prog_1_method_19_code 112 = .ok (.iadd, 1) := by decide +kernel
theorem d_11_paste_113 : decode prog_1_method_19_code 113 = .ok (.bipush 24, 2) := by decide +kernel
theorem d_11_paste_115 : decode prog_1_method_19_code 115 = .ok (.if_icmp .le 11, 3) := by decide +kernel
theorem d_11_paste_118 : decode prog_1_method_19_code 118 = .ok (.new 63, 3) := by decide +kernel
theorem d_11_paste_121 : decode prog_1_method_19_code 121 = .ok (.dup, 1) := by decide +kernel
theorem d_11_paste_122 : decode prog_1_method_19_code 122 = .ok (.invokespecial 65, 3) := by decide +kernel
theorem d_11_paste_125 : decode prog_1_method_19_code 125 = .ok (.athrow, 1) := by decide +kernel
theorem d_11_paste_126 : decode prog_1_method_19_code 126 = .ok (.aload_n 0, 1) := by decide +kernel
theorem d_11_paste_127 : decode prog_1_method_19_code 127 = .ok (.getfield 26, 3) := by decide +kernel
theorem d_11_paste_130 : decode prog_1_method_19_code 130 = .ok (.aload_n 0, 1) := by decide +kernel
theorem d_11_paste_131 : decode prog_1_method_19_code 131 = .ok (.getfield 19, 3) := by decide +kernel
theorem d_11_paste_134 : decode prog_1_method_19_code 134 = .ok (.iload_n 1, 1) := by decide +kernel
theorem d_11_paste_135 : decode prog_1_method_19_code 135 = .ok (.iload_n 2, 1) := by decide +kernel
theorem d_11_paste_136 : decode prog_1_method_19_code 136 = .ok (.iload_n 3, 1) := by decide +kernel
theorem d_11_paste_137 : decode prog_1_method_19_code 137 = .ok (.invokevirtual 202, 3) := by decide +kernel
theorem d_11_paste_140 : decode prog_1_method_19_code 140 = .ok (.ireturn, 1) := by decide +kernel
theorem d_11_add_0 : decode prog_1_method_20_code 0 = .ok (.aload_n 0, 1) := by decide +kernel
theorem d_11_add_1 : decode prog_1_method_20_code 1 = .ok (.iload_n 1, 1) := by decide +kernel
theorem d_11_add_2 : decode prog_1_method_20_code 2 = .ok (.invokevirtual 73, 3) := by decide +kernel
theorem d_11_add_5 : decode prog_1_method_20_code 5 = .ok (.astore_n 3, 1) := by decide +kernel
theorem d_11_add_6 : decode prog_1_method_20_code 6 = .ok (.iload_n 2, 1) := by decide +kernel
theorem d_11_add_7 : decode prog_1_method_20_code 7 = .ok (.iconst (-1), 1) := by decide +kernel
theorem d_11_add_8 : decode prog_1_method_20_code 8 = .ok (.if_icmp .ne 7, 3) := by decide +kernel
theorem d_11_add_11 : decode prog_1_method_20_code 11 = .ok (.iconst (-1), 1) := by decide +kernel
theorem d_11_add_12 : decode prog_1_method_20_code 12 = .ok (.goto 9, 3) := by decide +kernel
theorem d_11_add_15 : decode prog_1_method_20_code 15 = .ok (.aload_n 0, 1) := by decide +kernel
theorem d_11_add_16 : decode prog_1_method_20_code 16 = .ok (.aload_n 3, 1) := by decide +kernel
theorem d_11_add_17 : decode prog_1_method_20_code 17 = .ok (.iload_n 2, 1) := by decide +kernel
theorem d_11_add_18 : decode prog_1_method_20_code 18 = .ok (.invokevirtual 157, 3) := by decide +kernel
theorem d_11_add_21 : decode prog_1_method_20_code 21 = .ok (.istore 4, 2) := by decide +kernel
theorem d_11_add_23 : decode prog_1_method_20_code 23 = .ok (.aload_n 0, 1) := by decide +kernel
theorem d_11_add_24 : decode prog_1_method_20_code 24 = .ok (.getfield 26, 3) := by decide +kernel
theorem d_11_add_27 : decode prog_1_method_20_code 27 = .ok (.getfield 48, 3) := by decide +kernel
theorem d_11_add_30 : decode prog_1_method_20_code 30 = .ok (.invokevirtual 199, 3) := by decide +kernel
theorem d_11_add_33 : decode prog_1_method_20_code 33 = .ok (.bipush 24, 2) := by decide +kernel
theorem d_11_add_35 : decode prog_1_method_20_code 35 = .ok (.if_icmp .ge 16, 3) := by decide +kernel
theorem d_11_add_38 : decode prog_1_method_20_code 38 = .ok (.aload_n 0, 1) := by decide +kernel
theorem d_11_add_39 : decode prog_1_method_20_code 39 = .ok (.getfield 26, 3) := by decide +kernel
theorem d_11_add_42 : decode prog_1_method_20_code 42 = .ok (.getfield 48, 3) := by decide +kernel
theorem d_11_add_45 : decode prog_1_method_20_code 45 = .ok (.getfield 206, 3) := by decide +kernel
theorem d_11_add_48 : decode prog_1_method_20_code 48 = .ok (.ifCond .ne 11, 3) := by decide +kernel
theorem d_11_add_51 : decode prog_1_method_20_code 51 = .ok (.new 63, 3) := by decide +kernel
theorem d_11_add_54 : decode prog_1_method_20_code 54 = .ok (.dup, 1) := by decide +kernel
theorem d_11_add_55 : decode prog_1_method_20_code 55 = .ok (.invokespecial 65, 3) := by decide +kernel
theorem d_11_add_58 : decode prog_1_method_20_code 58 = .ok (.athrow, 1) := by decide +kernel
theorem d_11_add_59 : decode prog_1_method_20_code 59 = .ok (.aload_n 0, 1) := by decide +kernel
theorem d_11_add_60 : decode prog_1_method_20_code 60 = .ok (.getfield 26, 3) := by decide +kernel
theorem d_11_add_63 : decode prog_1_method_20_code 63 = .ok (.getfield 48, 3) := by decide +kernel
theorem d_11_add_66 : decode prog_1_method_20_code 66 = .ok (.invokevirtual 209, 3) := by decide +kernel
theorem d_11_add_69 : decode prog_1_method_20_code 69 = .ok (.istore 5, 2) := by decide +kernel
theorem d_11_add_71 : decode prog_1_method_20_code 71 = .ok (.aload_n 0, 1) := by decide +kernel
theorem d_11_add_72 : decode prog_1_method_20_code 72 = .ok (.getfield 26, 3) := by decide +kernel
theorem d_11_add_75 : decode prog_1_method_20_code 75 = .ok (.getfield 48, 3) := by decide +kernel
theorem d_11_add_78 : decode prog_1_method_20_code 78 = .ok (.getfield 127, 3) := by decide +kernel
theorem d_11_add_81 : decode prog_1_method_20_code 81 = .ok (.aload_n 0, 1) := by decide +kernel
theorem d_11_add_82 : decode prog_1_method_20_code 82 = .ok (.getfield 26, 3) := by decide +kernel
theorem d_11_add_85 : decode prog_1_method_20_code 85 = .ok (.getfield 48, 3) := by decide +kernel
theorem d_11_add_88 : decode prog_1_method_20_code 88 = .ok (.getfield 127, 3) := by decide +kernel
theorem d_11_add_91 : decode prog_1_method_20_code 91 = .ok (.iload 4, 2) := by decide +kernel
theorem d_11_add_93 : decode prog_1_method_20_code 93 = .ok (.invokevirtual 136, 3) := by decide +kernel
theorem d_11_add_96 : decode prog_1_method_20_code 96 = .ok (.iconst 1, 1) := by decide +kernel
theorem d_11_add_97 : decode prog_1_method_20_code 97 = .ok (.iadd, 1) := by decide +kernel
theorem d_11_add_98 : decode prog_1_method_20_code 98 = .ok (.iload 5, 2) := by decide +kernel
theorem d_11_add_100 : decode prog_1_method_20_code 100 = .ok (.invokevirtual 212, 3) := by decide +kernel
theorem d_11_add_103 : decode prog_1_method_20_code 103 = .ok (.aload_n 3, 1) := by decide +kernel
theorem d_11_add_104 : decode prog_1_method_20_code 104 = .ok (.getfield 96, 3) := by decide +kernel
theorem d_11_add_107 : decode prog_1_method_20_code 107 = .ok (.iload_n 2, 1) := by decide +kernel
theorem d_11_add_108 : decode prog_1_method_20_code 108 = .ok (.iconst 1, 1) := by decide +kernel
theorem d_11_add_109 : decode prog_1_method_20_code 109 = .ok (.iadd, 1) := by decide +kernel
theorem d_11_add_110 : decode prog_1_method_20_code 110 = .ok (.iload 5, 2) := by decide +kernel
theorem d_11_add_112 : decode prog_1_method_20_code 112 = .ok (.invokevirtual 212, 3) := by decide +kernel
theorem d_11_add_115 : decode prog_1_method_20_code 115 = .ok (.aload_n 0, 1) := by decide +kernel
theorem d_11_add_116 : decode prog_1_method_20_code 116 = .ok (.getfield 26, 3) := by decide +kernel
theorem d_11_add_119 : decode prog_1_method_20_code 119 = .ok (.iload 5, 2) := by decide +kernel
theorem d_11_add_121 : decode prog_1_method_20_code 121 = .ok (.iload_n 1, 1) := by decide +kernel
theorem d_11_add_122 : decode prog_1_method_20_code 122 = .ok (.invokevirtual 216, 3) := by decide +kernel
theorem d_11_add_125 : decode prog_1_method_20_code 125 = .ok (.aload_n 0, 1) := by decide +kernel
theorem d_11_add_126 : decode prog_1_method_20_code 126 = .ok (.getfield 26, 3) := by decide +kernel
theorem d_11_add_129 : decode prog_1_method_20_code 129 = .ok (.getfield 48, 3) := by decide +kernel
theorem d_11_add_132 : decode prog_1_method_20_code 132 = .ok (.iload 5, 2) := by decide +kernel
theorem d_11_add_134 : decode prog_1_method_20_code 134 = .ok (.invokevirtual 133, 3) := by decide +kernel
theorem d_11_add_137 : decode prog_1_method_20_code 137 = .ok (.ireturn, 1) := by decide +kernel
theorem d_6_takeOut_0 : decode prog_8_method_8_code 0 = .ok (.aload_n 0, 1) := by decide +kernel
theorem d_6_takeOut_1 : decode prog_8_method_8_code 1 = .ok (.iload_n 1, 1) := by decide +kernel
theorem d_6_takeOut_2 : decode prog_8_method_8_code 2 = .ok (.invokevirtual 23, 3) := by decide +kernel
theorem d_6_takeOut_5 : decode prog_8_method_8_code 5 = .ok (.istore_n 2, 1) := by decide +kernel
theorem d_6_takeOut_6 : decode prog_8_method_8_code 6 = .ok (.iload_n 2, 1) := by decide +kernel
theorem d_6_takeOut_7 : decode prog_8_method_8_code 7 = .ok (.iconst (-1), 1) := by decide +kernel
theorem d_6_takeOut_8 : decode prog_8_method_8_code 8 = .ok (.if_icmp .ne 4, 3) := by decide +kernel
theorem d_6_takeOut_11 : decode prog_8_method_8_code 11 = .ok (.return_, 1) := by decide +kernel
theorem d_6_takeOut_12 : decode prog_8_method_8_code 12 = .ok (.aload_n 0, 1) := by decide +kernel
theorem d_6_takeOut_13 : decode prog_8_method_8_code 13 = .ok (.dup, 1) := by decide +kernel
theorem d_6_takeOut_14 : decode prog_8_method_8_code 14 = .ok (.getfield 15, 3) := by decide +kernel
theorem d_6_takeOut_17 : decode prog_8_method_8_code 17 = .ok (.iconst 1, 1) := by decide +kernel
theorem d_6_takeOut_18 : decode prog_8_method_8_code 18 = .ok (.isub, 1) := by decide +kernel
theorem d_6_takeOut_19 : decode prog_8_method_8_code 19 = .ok (.putfield 15, 3) := by decide +kernel
theorem d_6_takeOut_22 : decode prog_8_method_8_code 22 = .ok (.iload_n 2, 1) := by decide +kernel
theorem d_6_takeOut_23 : decode prog_8_method_8_code 23 = .ok (.istore_n 3, 1) := by decide +kernel
theorem d_6_takeOut_24 : decode prog_8_method_8_code 24 = .ok (.iload_n 3, 1) := by decide +kernel
theorem d_6_takeOut_25 : decode prog_8_method_8_code 25 = .ok (.aload_n 0, 1) := by decide +kernel
theorem d_6_takeOut_26 : decode prog_8_method_8_code 26 = .ok (.getfield 15, 3) := by decide +kernel
theorem d_6_takeOut_29 : decode prog_8_method_8_code 29 = .ok (.if_icmp .ge 31, 3) := by decide +kernel
theorem d_6_takeOut_32 : decode prog_8_method_8_code 32 = .ok (.iload_n 3, 1) := by decide +kernel
theorem d_6_takeOut_33 : decode prog_8_method_8_code 33 = .ok (.iconst 1, 1) := by decide +kernel
theorem d_6_takeOut_34 : decode prog_8_method_8_code 34 = .ok (.iadd, 1) := by decide +kernel
theorem d_6_takeOut_35 : decode prog_8_method_8_code 35 = .ok (.bipush 24, 2) := by decide +kernel
theorem d_6_takeOut_37 : decode prog_8_method_8_code 37 = .ok (.if_icmp .ge 23, 3) := by decide +kernel
theorem d_6_takeOut_40 : decode prog_8_method_8_code 40 = .ok (.aload_n 0, 1) := by decide +kernel
theorem d_6_takeOut_41 : decode prog_8_method_8_code 41 = .ok (.getfield 9, 3) := by decide +kernel
theorem d_6_takeOut_44 : decode prog_8_method_8_code 44 = .ok (.iload_n 3, 1) := by decide +kernel
theorem d_6_takeOut_45 : decode prog_8_method_8_code 45 = .ok (.aload_n 0, 1) := by decide +kernel
theorem d_6_takeOut_46 : decode prog_8_method_8_code 46 = .ok (.getfield 9, 3) := by decide +kernel
theorem d_6_takeOut_49 : decode prog_8_method_8_code 49 = .ok (.iload_n 3, 1) := by decide +kernel
theorem d_6_takeOut_50 : decode prog_8_method_8_code 50 = .ok (.iconst 1, 1) := by decide +kernel
theorem d_6_takeOut_51 : decode prog_8_method_8_code 51 = .ok (.iadd, 1) := by decide +kernel
theorem d_6_takeOut_52 : decode prog_8_method_8_code 52 = .ok (.iaload, 1) := by decide +kernel
theorem d_6_takeOut_53 : decode prog_8_method_8_code 53 = .ok (.iastore, 1) := by decide +kernel
theorem d_6_takeOut_54 : decode prog_8_method_8_code 54 = .ok (.iinc 3 1, 3) := by decide +kernel
theorem d_6_takeOut_57 : decode prog_8_method_8_code 57 = .ok (.goto (-33), 3) := by decide +kernel
theorem d_6_takeOut_60 : decode prog_8_method_8_code 60 = .ok (.return_, 1) := by decide +kernel
theorem d_8_removeRow_0 : decode prog_10_method_4_code 0 = .ok (.aload_n 0, 1) := by decide +kernel
theorem d_8_removeRow_1 : decode prog_10_method_4_code 1 = .ok (.getfield 12, 3) := by decide +kernel
theorem d_8_removeRow_4 : decode prog_10_method_4_code 4 = .ok (.getfield 76, 3) := by decide +kernel
theorem d_8_removeRow_7 : decode prog_10_method_4_code 7 = .ok (.iload_n 1, 1) := by decide +kernel
theorem d_8_removeRow_8 : decode prog_10_method_4_code 8 = .ok (.invokevirtual 106, 3) := by decide +kernel
theorem d_8_removeRow_11 : decode prog_10_method_4_code 11 = .ok (.iconst 0, 1) := by decide +kernel
theorem d_8_removeRow_12 : decode prog_10_method_4_code 12 = .ok (.istore_n 2, 1) := by decide +kernel
theorem d_8_removeRow_13 : decode prog_10_method_4_code 13 = .ok (.iload_n 2, 1) := by decide +kernel
theorem d_8_removeRow_14 : decode prog_10_method_4_code 14 = .ok (.iconst 4, 1) := by decide +kernel
theorem d_8_removeRow_15 : decode prog_10_method_4_code 15 = .ok (.if_icmp .ge 22, 3) := by decide +kernel
theorem d_8_removeRow_18 : decode prog_10_method_4_code 18 = .ok (.aload_n 0, 1) := by decide +kernel
theorem d_8_removeRow_19 : decode prog_10_method_4_code 19 = .ok (.getfield 20, 3) := by decide +kernel
theorem d_8_removeRow_22 : decode prog_10_method_4_code 22 = .ok (.iload_n 2, 1) := by decide +kernel
theorem d_8_removeRow_23 : decode prog_10_method_4_code 23 = .ok (.aaload, 1) := by decide +kernel
theorem d_8_removeRow_24 : decode prog_10_method_4_code 24 = .ok (.getfield 103, 3) := by decide +kernel
theorem d_8_removeRow_27 : decode prog_10_method_4_code 27 = .ok (.iload_n 1, 1) := by decide +kernel
theorem d_8_removeRow_28 : decode prog_10_method_4_code 28 = .ok (.invokevirtual 106, 3) := by decide +kernel
theorem d_8_removeRow_31 : decode prog_10_method_4_code 31 = .ok (.iinc 2 1, 3) := by decide +kernel
theorem d_8_removeRow_34 : decode prog_10_method_4_code 34 = .ok (.goto (-21), 3) := by decide +kernel
theorem d_8_removeRow_37 : decode prog_10_method_4_code 37 = .ok (.return_, 1) := by decide +kernel
theorem d_11_drop_0 : decode prog_1_method_21_code 0 = .ok (.aload_n 0, 1) := by decide +kernel
theorem d_11_drop_1 : decode prog_1_method_21_code 1 = .ok (.aload_n 0, 1) := by decide +kernel
theorem d_11_drop_2 : decode prog_1_method_21_code 2 = .ok (.iload_n 1, 1) := by decide +kernel
theorem d_11_drop_3 : decode prog_1_method_21_code 3 = .ok (.invokevirtual 73, 3) := by decide +kernel
theorem d_11_drop_6 : decode prog_1_method_21_code 6 = .ok (.iload_n 2, 1) := by decide +kernel
theorem d_11_drop_7 : decode prog_1_method_21_code 7 = .ok (.invokevirtual 157, 3) := by decide +kernel
theorem d_11_drop_10 : decode prog_1_method_21_code 10 = .ok (.istore_n 3, 1) := by decide +kernel
theorem d_11_drop_11 : decode prog_1_method_21_code 11 = .ok (.aload_n 0, 1) := by decide +kernel
theorem d_11_drop_12 : decode prog_1_method_21_code 12 = .ok (.getfield 26, 3) := by decide +kernel
theorem d_11_drop_15 : decode prog_1_method_21_code 15 = .ok (.getfield 48, 3) := by decide +kernel
theorem d_11_drop_18 : decode prog_1_method_21_code 18 = .ok (.iload_n 3, 1) := by decide +kernel
theorem d_11_drop_19 : decode prog_1_method_21_code 19 = .ok (.invokevirtual 133, 3) := by decide +kernel
theorem d_11_drop_22 : decode prog_1_method_21_code 22 = .ok (.istore 4, 2) := by decide +kernel
theorem d_11_drop_24 : decode prog_1_method_21_code 24 = .ok (.aload_n 0, 1) := by decide +kernel
theorem d_11_drop_25 : decode prog_1_method_21_code 25 = .ok (.getfield 26, 3) := by decide +kernel
theorem d_11_drop_28 : decode prog_1_method_21_code 28 = .ok (.iload_n 3, 1) := by decide +kernel
theorem d_11_drop_29 : decode prog_1_method_21_code 29 = .ok (.invokevirtual 219, 3) := by decide +kernel
theorem d_11_drop_32 : decode prog_1_method_21_code 32 = .ok (.iload 4, 2) := by decide +kernel
theorem d_11_drop_34 : decode prog_1_method_21_code 34 = .ok (.ireturn, 1) := by decide +kernel
theorem d_7_followList_0 : decode prog_9_method_15_code 0 = .ok (.aload_n 1, 1) := by decide +kernel
theorem d_7_followList_1 : decode prog_9_method_15_code 1 = .ok (.iload_n 2, 1) := by decide +kernel
theorem d_7_followList_2 : decode prog_9_method_15_code 2 = .ok (.invokevirtual 46, 3) := by decide +kernel
theorem d_7_followList_5 : decode prog_9_method_15_code 5 = .ok (.istore_n 3, 1) := by decide +kernel
theorem d_7_followList_6 : decode prog_9_method_15_code 6 = .ok (.aload_n 0, 1) := by decide +kernel
theorem d_7_followList_7 : decode prog_9_method_15_code 7 = .ok (.getfield 27, 3) := by decide +kernel
theorem d_7_followList_10 : decode prog_9_method_15_code 10 = .ok (.iload_n 3, 1) := by decide +kernel
theorem d_7_followList_11 : decode prog_9_method_15_code 11 = .ok (.invokevirtual 80, 3) := by decide +kernel
theorem d_7_followList_14 : decode prog_9_method_15_code 14 = .ok (.iload_n 2, 1) := by decide +kernel
theorem d_7_followList_15 : decode prog_9_method_15_code 15 = .ok (.ifCond .le 30, 3) := by decide +kernel
theorem d_7_followList_18 : decode prog_9_method_15_code 18 = .ok (.aload_n 0, 1) := by decide +kernel
theorem d_7_followList_19 : decode prog_9_method_15_code 19 = .ok (.getfield 27, 3) := by decide +kernel
theorem d_7_followList_22 : decode prog_9_method_15_code 22 = .ok (.aload_n 0, 1) := by decide +kernel
theorem d_7_followList_23 : decode prog_9_method_15_code 23 = .ok (.getfield 27, 3) := by decide +kernel
theorem d_7_followList_26 : decode prog_9_method_15_code 26 = .ok (.aload_n 1, 1) := by decide +kernel
theorem d_7_followList_27 : decode prog_9_method_15_code 27 = .ok (.iload_n 2, 1) := by decide +kernel
theorem d_7_followList_28 : decode prog_9_method_15_code 28 = .ok (.iconst 1, 1) := by decide +kernel
theorem d_7_followList_29 : decode prog_9_method_15_code 29 = .ok (.isub, 1) := by decide +kernel
theorem d_7_followList_30 : decode prog_9_method_15_code 30 = .ok (.invokevirtual 46, 3) := by decide +kernel
theorem d_7_followList_33 : decode prog_9_method_15_code 33 = .ok (.invokevirtual 84, 3) := by decide +kernel
theorem d_7_followList_36 : decode prog_9_method_15_code 36 = .ok (.iconst 1, 1) := by decide +kernel
theorem d_7_followList_37 : decode prog_9_method_15_code 37 = .ok (.iadd, 1) := by decide +kernel
theorem d_7_followList_38 : decode prog_9_method_15_code 38 = .ok (.iload_n 3, 1) := by decide +kernel
theorem d_7_followList_39 : decode prog_9_method_15_code 39 = .ok (.invokevirtual 87, 3) := by decide +kernel
theorem d_7_followList_42 : decode prog_9_method_15_code 42 = .ok (.goto 29, 3) := by decide +kernel
theorem d_7_followList_45 : decode prog_9_method_15_code 45 = .ok (.aload_n 0, 1) := by decide +kernel
theorem d_7_followList_46 : decode prog_9_method_15_code 46 = .ok (.getfield 27, 3) := by decide +kernel
theorem d_7_followList_49 : decode prog_9_method_15_code 49 = .ok (.iconst 0, 1) := by decide +kernel
theorem d_7_followList_50 : decode prog_9_method_15_code 50 = .ok (.aload_n 0, 1) := by decide +kernel
theorem d_7_followList_51 : decode prog_9_method_15_code 51 = .ok (.getfield 27, 3) := by decide +kernel
theorem d_7_followList_54 : decode prog_9_method_15_code 54 = .ok (.aload_n 1, 1) := by decide +kernel
theorem d_7_followList_55 : decode prog_9_method_15_code 55 = .ok (.iload_n 2, 1) := by decide +kernel
theorem d_7_followList_56 : decode prog_9_method_15_code 56 = .ok (.iconst 1, 1) := by decide +kernel
theorem d_7_followList_57 : decode prog_9_method_15_code 57 = .ok (.iadd, 1) := by decide +kernel
theorem d_7_followList_58 : decode prog_9_method_15_code 58 = .ok (.invokevirtual 46, 3) := by decide +kernel
theorem d_7_followList_61 : decode prog_9_method_15_code 61 = .ok (.invokevirtual 84, 3) := by decide +kernel
theorem d_7_followList_64 : decode prog_9_method_15_code 64 = .ok (.invokestatic 91, 3) := by decide +kernel
theorem d_7_followList_67 : decode prog_9_method_15_code 67 = .ok (.iload_n 3, 1) := by decide +kernel
theorem d_7_followList_68 : decode prog_9_method_15_code 68 = .ok (.invokevirtual 87, 3) := by decide +kernel
theorem d_7_followList_71 : decode prog_9_method_15_code 71 = .ok (.return_, 1) := by decide +kernel
theorem d_11_drag_0 : decode prog_1_method_22_code 0 = .ok (.aload_n 0, 1) := by decide +kernel
theorem d_11_drag_1 : decode prog_1_method_22_code 1 = .ok (.iload_n 1, 1) := by decide +kernel
theorem d_11_drag_2 : decode prog_1_method_22_code 2 = .ok (.invokevirtual 73, 3) := by decide +kernel
theorem d_11_drag_5 : decode prog_1_method_22_code 5 = .ok (.astore 4, 2) := by decide +kernel
theorem d_11_drag_7 : decode prog_1_method_22_code 7 = .ok (.aload_n 0, 1) := by decide +kernel
theorem d_11_drag_8 : decode prog_1_method_22_code 8 = .ok (.aload 4, 2) := by decide +kernel
theorem d_11_drag_10 : decode prog_1_method_22_code 10 = .ok (.iload_n 2, 1) := by decide +kernel
theorem d_11_drag_11 : decode prog_1_method_22_code 11 = .ok (.invokevirtual 157, 3) := by decide +kernel
theorem d_11_drag_14 : decode prog_1_method_22_code 14 = .ok (.istore 5, 2) := by decide +kernel
theorem d_11_drag_16 : decode prog_1_method_22_code 16 = .ok (.aload_n 0, 1) := by decide +kernel
theorem d_11_drag_17 : decode prog_1_method_22_code 17 = .ok (.aload 4, 2) := by decide +kernel
theorem d_11_drag_19 : decode prog_1_method_22_code 19 = .ok (.iload_n 3, 1) := by decide +kernel
theorem d_11_drag_20 : decode prog_1_method_22_code 20 = .ok (.invokevirtual 157, 3) := by decide +kernel
theorem d_11_drag_23 : decode prog_1_method_22_code 23 = .ok (.pop, 1) := by decide +kernel
theorem d_11_drag_24 : decode prog_1_method_22_code 24 = .ok (.iload_n 2, 1) := by decide +kernel
theorem d_11_drag_25 : decode prog_1_method_22_code 25 = .ok (.iload_n 3, 1) := by decide +kernel
theorem d_11_drag_26 : decode prog_1_method_22_code 26 = .ok (.if_icmp .ne 11, 3) := by decide +kernel
theorem d_11_drag_29 : decode prog_1_method_22_code 29 = .ok (.new 56, 3) := by decide +kernel
theorem d_11_drag_32 : decode prog_1_method_22_code 32 = .ok (.dup, 1) := by decide +kernel
theorem d_11_drag_33 : decode prog_1_method_22_code 33 = .ok (.invokespecial 58, 3) := by decide +kernel
theorem d_11_drag_36 : decode prog_1_method_22_code 36 = .ok (.athrow, 1) := by decide +kernel
theorem d_11_drag_37 : decode prog_1_method_22_code 37 = .ok (.aload 4, 2) := by decide +kernel
theorem d_11_drag_39 : decode prog_1_method_22_code 39 = .ok (.getfield 96, 3) := by decide +kernel
theorem d_11_drag_42 : decode prog_1_method_22_code 42 = .ok (.iload 5, 2) := by decide +kernel
theorem d_11_drag_44 : decode prog_1_method_22_code 44 = .ok (.invokevirtual 222, 3) := by decide +kernel
theorem d_11_drag_47 : decode prog_1_method_22_code 47 = .ok (.aload 4, 2) := by decide +kernel
theorem d_11_drag_49 : decode prog_1_method_22_code 49 = .ok (.getfield 96, 3) := by decide +kernel
theorem d_11_drag_52 : decode prog_1_method_22_code 52 = .ok (.iload_n 3, 1) := by decide +kernel
theorem d_11_drag_53 : decode prog_1_method_22_code 53 = .ok (.iload 5, 2) := by decide +kernel
theorem d_11_drag_55 : decode prog_1_method_22_code 55 = .ok (.invokevirtual 212, 3) := by decide +kernel
theorem d_11_drag_58 : decode prog_1_method_22_code 58 = .ok (.aload_n 0, 1) := by decide +kernel
theorem d_11_drag_59 : decode prog_1_method_22_code 59 = .ok (.getfield 26, 3) := by decide +kernel
theorem d_11_drag_62 : decode prog_1_method_22_code 62 = .ok (.getfield 48, 3) := by decide +kernel
theorem d_11_drag_65 : decode prog_1_method_22_code 65 = .ok (.aload 4, 2) := by decide +kernel
theorem d_11_drag_67 : decode prog_1_method_22_code 67 = .ok (.getfield 96, 3) := by decide +kernel
theorem d_11_drag_70 : decode prog_1_method_22_code 70 = .ok (.iload_n 3, 1) := by decide +kernel
theorem d_11_drag_71 : decode prog_1_method_22_code 71 = .ok (.invokevirtual 225, 3) := by decide +kernel
theorem d_11_drag_74 : decode prog_1_method_22_code 74 = .ok (.aload_n 0, 1) := by decide +kernel
theorem d_11_drag_75 : decode prog_1_method_22_code 75 = .ok (.getfield 26, 3) := by decide +kernel
theorem d_11_drag_78 : decode prog_1_method_22_code 78 = .ok (.getfield 48, 3) := by decide +kernel
theorem d_11_drag_81 : decode prog_1_method_22_code 81 = .ok (.iload 5, 2) := by decide +kernel
theorem d_11_drag_83 : decode prog_1_method_22_code 83 = .ok (.invokevirtual 133, 3) := by decide +kernel
theorem d_11_drag_86 : decode prog_1_method_22_code 86 = .ok (.ireturn, 1) := by decide +kernel
theorem d_4_takeFresh_0 : decode prog_6_method_2_code 0 = .ok (.aload_n 1, 1) := by decide +kernel
theorem d_4_takeFresh_1 : decode prog_6_method_2_code 1 = .ok (.aload_n 2, 1) := by decide +kernel
theorem d_4_takeFresh_2 : decode prog_6_method_2_code 2 = .ok (.getfield 28, 3) := by decide +kernel
theorem d_4_takeFresh_5 : decode prog_6_method_2_code 5 = .ok (.aload_n 0, 1) := by decide +kernel
theorem d_4_takeFresh_6 : decode prog_6_method_2_code 6 = .ok (.getfield 12, 3) := by decide +kernel
theorem d_4_takeFresh_9 : decode prog_6_method_2_code 9 = .ok (.invokevirtual 34, 3) := by decide +kernel
theorem d_4_takeFresh_12 : decode prog_6_method_2_code 12 = .ok (.iconst 0, 1) := by decide +kernel
theorem d_4_takeFresh_13 : decode prog_6_method_2_code 13 = .ok (.istore_n 3, 1) := by decide +kernel
theorem d_4_takeFresh_14 : decode prog_6_method_2_code 14 = .ok (.iconst 0, 1) := by decide +kernel
theorem d_4_takeFresh_15 : decode prog_6_method_2_code 15 = .ok (.istore 4, 2) := by decide +kernel
theorem d_4_takeFresh_17 : decode prog_6_method_2_code 17 = .ok (.iload 4, 2) := by decide +kernel
theorem d_4_takeFresh_19 : decode prog_6_method_2_code 19 = .ok (.aload_n 0, 1) := by decide +kernel
theorem d_4_takeFresh_20 : decode prog_6_method_2_code 20 = .ok (.getfield 12, 3) := by decide +kernel
theorem d_4_takeFresh_23 : decode prog_6_method_2_code 23 = .ok (.invokevirtual 40, 3) := by decide +kernel
theorem d_4_takeFresh_26 : decode prog_6_method_2_code 26 = .ok (.if_icmp .ge 31, 3) := by decide +kernel
theorem d_4_takeFresh_29 : decode prog_6_method_2_code 29 = .ok (.aload_n 2, 1) := by decide +kernel
theorem d_4_takeFresh_30 : decode prog_6_method_2_code 30 = .ok (.getfield 44, 3) := by decide +kernel
theorem d_4_takeFresh_33 : decode prog_6_method_2_code 33 = .ok (.aload_n 0, 1) := by decide +kernel
theorem d_4_takeFresh_34 : decode prog_6_method_2_code 34 = .ok (.getfield 12, 3) := by decide +kernel
theorem d_4_takeFresh_37 : decode prog_6_method_2_code 37 = .ok (.iload 4, 2) := by decide +kernel
theorem d_4_takeFresh_39 : decode prog_6_method_2_code 39 = .ok (.invokevirtual 47, 3) := by decide +kernel
theorem d_4_takeFresh_42 : decode prog_6_method_2_code 42 = .ok (.invokevirtual 51, 3) := by decide +kernel
theorem d_4_takeFresh_45 : decode prog_6_method_2_code 45 = .ok (.ifCond .eq 6, 3) := by decide +kernel
theorem d_4_takeFresh_48 : decode prog_6_method_2_code 48 = .ok (.iinc 3 1, 3) := by decide +kernel
theorem d_4_takeFresh_51 : decode prog_6_method_2_code 51 = .ok (.iinc 4 1, 3) := by decide +kernel
theorem d_4_takeFresh_54 : decode prog_6_method_2_code 54 = .ok (.goto (-37), 3) := by decide +kernel
theorem d_4_takeFresh_57 : decode prog_6_method_2_code 57 = .ok (.aload_n 0, 1) := by decide +kernel
theorem d_4_takeFresh_58 : decode prog_6_method_2_code 58 = .ok (.getfield 12, 3) := by decide +kernel
theorem d_4_takeFresh_61 : decode prog_6_method_2_code 61 = .ok (.invokevirtual 40, 3) := by decide +kernel
theorem d_4_takeFresh_64 : decode prog_6_method_2_code 64 = .ok (.aload_n 2, 1) := by decide +kernel
theorem d_4_takeFresh_65 : decode prog_6_method_2_code 65 = .ok (.getfield 44, 3) := by decide +kernel
theorem d_4_takeFresh_68 : decode prog_6_method_2_code 68 = .ok (.invokevirtual 40, 3) := by decide +kernel
theorem d_4_takeFresh_71 : decode prog_6_method_2_code 71 = .ok (.iadd, 1) := by decide +kernel
theorem d_4_takeFresh_72 : decode prog_6_method_2_code 72 = .ok (.iconst 2, 1) := by decide +kernel
theorem d_4_takeFresh_73 : decode prog_6_method_2_code 73 = .ok (.iload_n 3, 1) := by decide +kernel
theorem d_4_takeFresh_74 : decode prog_6_method_2_code 74 = .ok (.imul, 1) := by decide +kernel
theorem d_4_takeFresh_75 : decode prog_6_method_2_code 75 = .ok (.isub, 1) := by decide +kernel
theorem d_4_takeFresh_76 : decode prog_6_method_2_code 76 = .ok (.istore 4, 2) := by decide +kernel
theorem d_4_takeFresh_78 : decode prog_6_method_2_code 78 = .ok (.aload_n 2, 1) := by decide +kernel
theorem d_4_takeFresh_79 : decode prog_6_method_2_code 79 = .ok (.getfield 44, 3) := by decide +kernel
theorem d_4_takeFresh_82 : decode prog_6_method_2_code 82 = .ok (.aload_n 0, 1) := by decide +kernel
theorem d_4_takeFresh_83 : decode prog_6_method_2_code 83 = .ok (.getfield 12, 3) := by decide +kernel
theorem d_4_takeFresh_86 : decode prog_6_method_2_code 86 = .ok (.invokevirtual 55, 3) := by decide +kernel
theorem d_4_takeFresh_89 : decode prog_6_method_2_code 89 = .ok (.iload 4, 2) := by decide +kernel
theorem d_4_takeFresh_91 : decode prog_6_method_2_code 91 = .ok (.ireturn, 1) := by decide +kernel
theorem d_11_refresh_0 : decode prog_1_method_23_code 0 = .ok (.aload_n 0, 1) := by decide +kernel
theorem d_11_refresh_1 : decode prog_1_method_23_code 1 = .ok (.getfield 33, 3) := by decide +kernel
theorem d_11_refresh_4 : decode prog_1_method_23_code 4 = .ok (.aload_n 0, 1) := by decide +kernel
theorem d_11_refresh_5 : decode prog_1_method_23_code 5 = .ok (.getfield 26, 3) := by decide +kernel
theorem d_11_refresh_8 : decode prog_1_method_23_code 8 = .ok (.aload_n 0, 1) := by decide +kernel
theorem d_11_refresh_9 : decode prog_1_method_23_code 9 = .ok (.iload_n 1, 1) := by decide +kernel
theorem d_11_refresh_10 : decode prog_1_method_23_code 10 = .ok (.invokevirtual 73, 3) := by decide +kernel
theorem d_11_refresh_13 : decode prog_1_method_23_code 13 = .ok (.invokevirtual 229, 3) := by decide +kernel
theorem d_11_refresh_16 : decode prog_1_method_23_code 16 = .ok (.ireturn, 1) := by decide +kernel
theorem d_10_latestEdit_0 : decode prog_12_method_2_code 0 = .ok (.aload_n 0, 1) := by decide +kernel
theorem d_10_latestEdit_1 : decode prog_12_method_2_code 1 = .ok (.getfield 32, 3) := by decide +kernel
theorem d_10_latestEdit_4 : decode prog_12_method_2_code 4 = .ok (.ifCond .le 26, 3) := by decide +kernel
theorem d_10_latestEdit_7 : decode prog_12_method_2_code 7 = .ok (.aload_n 0, 1) := by decide +kernel
theorem d_10_latestEdit_8 : decode prog_12_method_2_code 8 = .ok (.getfield 32, 3) := by decide +kernel
theorem d_10_latestEdit_11 : decode prog_12_method_2_code 11 = .ok (.bipush 8, 2) := by decide +kernel
theorem d_10_latestEdit_13 : decode prog_12_method_2_code 13 = .ok (.if_icmp .gt 17, 3) := by decide +kernel
theorem d_10_latestEdit_16 : decode prog_12_method_2_code 16 = .ok (.aload_n 0, 1) := by decide +kernel
theorem d_10_latestEdit_17 : decode prog_12_method_2_code 17 = .ok (.getfield 27, 3) := by decide +kernel
theorem d_10_latestEdit_20 : decode prog_12_method_2_code 20 = .ok (.aload_n 0, 1) := by decide +kernel
theorem d_10_latestEdit_21 : decode prog_12_method_2_code 21 = .ok (.getfield 32, 3) := by decide +kernel
theorem d_10_latestEdit_24 : decode prog_12_method_2_code 24 = .ok (.iconst 1, 1) := by decide +kernel
theorem d_10_latestEdit_25 : decode prog_12_method_2_code 25 = .ok (.isub, 1) := by decide +kernel
theorem d_10_latestEdit_26 : decode prog_12_method_2_code 26 = .ok (.aaload, 1) := by decide +kernel
theorem d_10_latestEdit_27 : decode prog_12_method_2_code 27 = .ok (.goto 4, 3) := by decide +kernel
theorem d_10_latestEdit_30 : decode prog_12_method_2_code 30 = .ok (.aconst_null, 1) := by decide +kernel
theorem d_10_latestEdit_31 : decode prog_12_method_2_code 31 = .ok (.areturn, 1) := by decide +kernel
theorem d_0_firstBarred_0 : decode prog_2_method_3_code 0 = .ok (.iconst 0, 1) := by decide +kernel
theorem d_0_firstBarred_1 : decode prog_2_method_3_code 1 = .ok (.istore_n 2, 1) := by decide +kernel
theorem d_0_firstBarred_2 : decode prog_2_method_3_code 2 = .ok (.iload_n 2, 1) := by decide +kernel
theorem d_0_firstBarred_3 : decode prog_2_method_3_code 3 = .ok (.aload_n 0, 1) := by decide +kernel
theorem d_0_firstBarred_4 : decode prog_2_method_3_code 4 = .ok (.getfield 24, 3) := by decide +kernel
theorem d_0_firstBarred_7 : decode prog_2_method_3_code 7 = .ok (.if_icmp .ge 58, 3) := by decide +kernel
theorem d_0_firstBarred_10 : decode prog_2_method_3_code 10 = .ok (.iload_n 2, 1) := by decide +kernel
theorem d_0_firstBarred_11 : decode prog_2_method_3_code 11 = .ok (.bipush 60, 2) := by decide +kernel
theorem d_0_firstBarred_13 : decode prog_2_method_3_code 13 = .ok (.if_icmp .ge 52, 3) := by decide +kernel
theorem d_0_firstBarred_16 : decode prog_2_method_3_code 16 = .ok (.aload_n 1, 1) := by decide +kernel
theorem d_0_firstBarred_17 : decode prog_2_method_3_code 17 = .ok (.aload_n 0, 1) := by decide +kernel
theorem d_0_firstBarred_18 : decode prog_2_method_3_code 18 = .ok (.getfield 9, 3) := by decide +kernel
theorem d_0_firstBarred_21 : decode prog_2_method_3_code 21 = .ok (.iload_n 2, 1) := by decide +kernel
theorem d_0_firstBarred_22 : decode prog_2_method_3_code 22 = .ok (.iaload, 1) := by decide +kernel
theorem d_0_firstBarred_23 : decode prog_2_method_3_code 23 = .ok (.invokevirtual 28, 3) := by decide +kernel
theorem d_0_firstBarred_26 : decode prog_2_method_3_code 26 = .ok (.istore_n 3, 1) := by decide +kernel
theorem d_0_firstBarred_27 : decode prog_2_method_3_code 27 = .ok (.iload_n 3, 1) := by decide +kernel
theorem d_0_firstBarred_28 : decode prog_2_method_3_code 28 = .ok (.iconst (-1), 1) := by decide +kernel
theorem d_0_firstBarred_29 : decode prog_2_method_3_code 29 = .ok (.if_icmp .eq 23, 3) := by decide +kernel
theorem d_0_firstBarred_32 : decode prog_2_method_3_code 32 = .ok (.aload_n 1, 1) := by decide +kernel
theorem d_0_firstBarred_33 : decode prog_2_method_3_code 33 = .ok (.iload_n 3, 1) := by decide +kernel
theorem d_0_firstBarred_34 : decode prog_2_method_3_code 34 = .ok (.aload_n 0, 1) := by decide +kernel
theorem d_0_firstBarred_35 : decode prog_2_method_3_code 35 = .ok (.getfield 15, 3) := by decide +kernel
theorem d_0_firstBarred_38 : decode prog_2_method_3_code 38 = .ok (.iload_n 2, 1) := by decide +kernel
theorem d_0_firstBarred_39 : decode prog_2_method_3_code 39 = .ok (.iaload, 1) := by decide +kernel
theorem d_0_firstBarred_40 : decode prog_2_method_3_code 40 = .ok (.invokevirtual 34, 3) := by decide +kernel
theorem d_0_firstBarred_43 : decode prog_2_method_3_code 43 = .ok (.aload_n 0, 1) := by decide +kernel
theorem d_0_firstBarred_44 : decode prog_2_method_3_code 44 = .ok (.getfield 21, 3) := by decide +kernel
theorem d_0_firstBarred_47 : decode prog_2_method_3_code 47 = .ok (.iload_n 2, 1) := by decide +kernel
theorem d_0_firstBarred_48 : decode prog_2_method_3_code 48 = .ok (.iaload, 1) := by decide +kernel
theorem d_0_firstBarred_49 : decode prog_2_method_3_code 49 = .ok (.if_icmp .eq 10, 3) := by decide +kernel
theorem d_0_firstBarred_52 : decode prog_2_method_3_code 52 = .ok (.aload_n 0, 1) := by decide +kernel
theorem d_0_firstBarred_53 : decode prog_2_method_3_code 53 = .ok (.getfield 9, 3) := by decide +kernel
theorem d_0_firstBarred_56 : decode prog_2_method_3_code 56 = .ok (.iload_n 2, 1) := by decide +kernel
theorem d_0_firstBarred_57 : decode prog_2_method_3_code 57 = .ok (.iaload, 1) := by decide +kernel
theorem d_0_firstBarred_58 : decode prog_2_method_3_code 58 = .ok (.ireturn, 1) := by decide +kernel
theorem d_0_firstBarred_59 : decode prog_2_method_3_code 59 = .ok (.iinc 2 1, 3) := by decide +kernel
theorem d_0_firstBarred_62 : decode prog_2_method_3_code 62 = .ok (.goto (-60), 3) := by decide +kernel
theorem d_0_firstBarred_65 : decode prog_2_method_3_code 65 = .ok (.iconst (-1), 1) := by decide +kernel
theorem d_0_firstBarred_66 : decode prog_2_method_3_code 66 = .ok (.ireturn, 1) := by decide +kernel
theorem d_10_forgetLatest_0 : decode prog_12_method_5_code 0 = .ok (.aload_n 0, 1) := by decide +kernel
theorem d_10_forgetLatest_1 : decode prog_12_method_5_code 1 = .ok (.iconst 0, 1) := by decide +kernel
theorem d_10_forgetLatest_2 : decode prog_12_method_5_code 2 = .ok (.aload_n 0, 1) := by decide +kernel
theorem d_10_forgetLatest_3 : decode prog_12_method_5_code 3 = .ok (.getfield 32, 3) := by decide +kernel
theorem d_10_forgetLatest_6 : decode prog_12_method_5_code 6 = .ok (.iconst 1, 1) := by decide +kernel
theorem d_10_forgetLatest_7 : decode prog_12_method_5_code 7 = .ok (.isub, 1) := by decide +kernel
theorem d_10_forgetLatest_8 : decode prog_12_method_5_code 8 = .ok (.invokestatic 43, 3) := by decide +kernel
theorem d_10_forgetLatest_11 : decode prog_12_method_5_code 11 = .ok (.putfield 32, 3) := by decide +kernel
theorem d_10_forgetLatest_14 : decode prog_12_method_5_code 14 = .ok (.return_, 1) := by decide +kernel
theorem d_8_takeBack_0 : decode prog_10_method_11_code 0 = .ok (.iconst 0, 1) := by decide +kernel
theorem d_8_takeBack_1 : decode prog_10_method_11_code 1 = .ok (.istore_n 3, 1) := by decide +kernel
theorem d_8_takeBack_2 : decode prog_10_method_11_code 2 = .ok (.iload_n 3, 1) := by decide +kernel
theorem d_8_takeBack_3 : decode prog_10_method_11_code 3 = .ok (.aload_n 2, 1) := by decide +kernel
theorem d_8_takeBack_4 : decode prog_10_method_11_code 4 = .ok (.getfield 129, 3) := by decide +kernel
theorem d_8_takeBack_7 : decode prog_10_method_11_code 7 = .ok (.if_icmp .ge 80, 3) := by decide +kernel
theorem d_8_takeBack_10 : decode prog_10_method_11_code 10 = .ok (.iload_n 3, 1) := by decide +kernel
theorem d_8_takeBack_11 : decode prog_10_method_11_code 11 = .ok (.bipush 60, 2) := by decide +kernel
theorem d_8_takeBack_13 : decode prog_10_method_11_code 13 = .ok (.if_icmp .ge 74, 3) := by decide +kernel
theorem d_8_takeBack_16 : decode prog_10_method_11_code 16 = .ok (.aload_n 2, 1) := by decide +kernel
theorem d_8_takeBack_17 : decode prog_10_method_11_code 17 = .ok (.getfield 165, 3) := by decide +kernel
theorem d_8_takeBack_20 : decode prog_10_method_11_code 20 = .ok (.iload_n 3, 1) := by decide +kernel
theorem d_8_takeBack_21 : decode prog_10_method_11_code 21 = .ok (.iaload, 1) := by decide +kernel
theorem d_8_takeBack_22 : decode prog_10_method_11_code 22 = .ok (.istore 4, 2) := by decide +kernel
theorem d_8_takeBack_24 : decode prog_10_method_11_code 24 = .ok (.aload_n 2, 1) := by decide +kernel
theorem d_8_takeBack_25 : decode prog_10_method_11_code 25 = .ok (.getfield 168, 3) := by decide +kernel
theorem d_8_takeBack_28 : decode prog_10_method_11_code 28 = .ok (.iload_n 3, 1) := by decide +kernel
theorem d_8_takeBack_29 : decode prog_10_method_11_code 29 = .ok (.iaload, 1) := by decide +kernel
theorem d_8_takeBack_30 : decode prog_10_method_11_code 30 = .ok (.istore 5, 2) := by decide +kernel
theorem d_8_takeBack_32 : decode prog_10_method_11_code 32 = .ok (.aload_n 0, 1) := by decide +kernel
theorem d_8_takeBack_33 : decode prog_10_method_11_code 33 = .ok (.getfield 12, 3) := by decide +kernel
theorem d_8_takeBack_36 : decode prog_10_method_11_code 36 = .ok (.aload_n 0, 1) := by decide +kernel
theorem d_8_takeBack_37 : decode prog_10_method_11_code 37 = .ok (.getfield 12, 3) := by decide +kernel
theorem d_8_takeBack_40 : decode prog_10_method_11_code 40 = .ok (.iload 4, 2) := by decide +kernel
theorem d_8_takeBack_42 : decode prog_10_method_11_code 42 = .ok (.invokevirtual 170, 3) := by decide +kernel
theorem d_8_takeBack_45 : decode prog_10_method_11_code 45 = .ok (.iload 5, 2) := by decide +kernel
theorem d_8_takeBack_47 : decode prog_10_method_11_code 47 = .ok (.aload_n 2, 1) := by decide +kernel
theorem d_8_takeBack_48 : decode prog_10_method_11_code 48 = .ok (.getfield 173, 3) := by decide +kernel
theorem d_8_takeBack_51 : decode prog_10_method_11_code 51 = .ok (.iload_n 3, 1) := by decide +kernel
theorem d_8_takeBack_52 : decode prog_10_method_11_code 52 = .ok (.iaload, 1) := by decide +kernel
theorem d_8_takeBack_53 : decode prog_10_method_11_code 53 = .ok (.iload_n 1, 1) := by decide +kernel
theorem d_8_takeBack_54 : decode prog_10_method_11_code 54 = .ok (.invokevirtual 72, 3) := by decide +kernel
theorem d_8_takeBack_57 : decode prog_10_method_11_code 57 = .ok (.aload_n 0, 1) := by decide +kernel
theorem d_8_takeBack_58 : decode prog_10_method_11_code 58 = .ok (.getfield 27, 3) := by decide +kernel
theorem d_8_takeBack_61 : decode prog_10_method_11_code 61 = .ok (.iload_n 1, 1) := by decide +kernel
theorem d_8_takeBack_62 : decode prog_10_method_11_code 62 = .ok (.iload 4, 2) := by decide +kernel
theorem d_8_takeBack_64 : decode prog_10_method_11_code 64 = .ok (.iload 5, 2) := by decide +kernel
theorem d_8_takeBack_66 : decode prog_10_method_11_code 66 = .ok (.aload_n 2, 1) := by decide +kernel
theorem d_8_takeBack_67 : decode prog_10_method_11_code 67 = .ok (.getfield 176, 3) := by decide +kernel
theorem d_8_takeBack_70 : decode prog_10_method_11_code 70 = .ok (.iload_n 3, 1) := by decide +kernel
theorem d_8_takeBack_71 : decode prog_10_method_11_code 71 = .ok (.iaload, 1) := by decide +kernel
theorem d_8_takeBack_72 : decode prog_10_method_11_code 72 = .ok (.aload_n 2, 1) := by decide +kernel
theorem d_8_takeBack_73 : decode prog_10_method_11_code 73 = .ok (.getfield 173, 3) := by decide +kernel
theorem d_8_takeBack_76 : decode prog_10_method_11_code 76 = .ok (.iload_n 3, 1) := by decide +kernel
theorem d_8_takeBack_77 : decode prog_10_method_11_code 77 = .ok (.iaload, 1) := by decide +kernel
theorem d_8_takeBack_78 : decode prog_10_method_11_code 78 = .ok (.invokevirtual 141, 3) := by decide +kernel
theorem d_8_takeBack_81 : decode prog_10_method_11_code 81 = .ok (.iinc 3 1, 3) := by decide +kernel
theorem d_8_takeBack_84 : decode prog_10_method_11_code 84 = .ok (.goto (-82), 3) := by decide +kernel
theorem d_8_takeBack_87 : decode prog_10_method_11_code 87 = .ok (.iload_n 1, 1) := by decide +kernel
theorem d_8_takeBack_88 : decode prog_10_method_11_code 88 = .ok (.ifCond .lt 17, 3) := by decide +kernel
theorem d_8_takeBack_91 : decode prog_10_method_11_code 91 = .ok (.iload_n 1, 1) := by decide +kernel
theorem d_8_takeBack_92 : decode prog_10_method_11_code 92 = .ok (.iconst 4, 1) := by decide +kernel
theorem d_8_takeBack_93 : decode prog_10_method_11_code 93 = .ok (.if_icmp .ge 12, 3) := by decide +kernel
theorem d_8_takeBack_96 : decode prog_10_method_11_code 96 = .ok (.aload_n 0, 1) := by decide +kernel
theorem d_8_takeBack_97 : decode prog_10_method_11_code 97 = .ok (.getfield 20, 3) := by decide +kernel
theorem d_8_takeBack_100 : decode prog_10_method_11_code 100 = .ok (.iload_n 1, 1) := by decide +kernel
theorem d_8_takeBack_101 : decode prog_10_method_11_code 101 = .ok (.aaload, 1) := by decide +kernel
theorem d_8_takeBack_102 : decode prog_10_method_11_code 102 = .ok (.invokevirtual 179, 3) := by decide +kernel
theorem d_8_takeBack_105 : decode prog_10_method_11_code 105 = .ok (.aload_n 2, 1) := by decide +kernel
theorem d_8_takeBack_106 : decode prog_10_method_11_code 106 = .ok (.getfield 129, 3) := by decide +kernel
theorem d_8_takeBack_109 : decode prog_10_method_11_code 109 = .ok (.ireturn, 1) := by decide +kernel
theorem d_11_undo_0 : decode prog_1_method_24_code 0 = .ok (.aload_n 0, 1) := by decide +kernel
theorem d_11_undo_1 : decode prog_1_method_24_code 1 = .ok (.iload_n 1, 1) := by decide +kernel
theorem d_11_undo_2 : decode prog_1_method_24_code 2 = .ok (.invokevirtual 73, 3) := by decide +kernel
theorem d_11_undo_5 : decode prog_1_method_24_code 5 = .ok (.astore_n 2, 1) := by decide +kernel
theorem d_11_undo_6 : decode prog_1_method_24_code 6 = .ok (.aload_n 2, 1) := by decide +kernel
theorem d_11_undo_7 : decode prog_1_method_24_code 7 = .ok (.invokevirtual 233, 3) := by decide +kernel
theorem d_11_undo_10 : decode prog_1_method_24_code 10 = .ok (.astore_n 3, 1) := by decide +kernel
theorem d_11_undo_11 : decode prog_1_method_24_code 11 = .ok (.aload_n 3, 1) := by decide +kernel
theorem d_11_undo_12 : decode prog_1_method_24_code 12 = .ok (.ifnull 18, 3) := by decide +kernel
theorem d_11_undo_15 : decode prog_1_method_24_code 15 = .ok (.aload_n 3, 1) := by decide +kernel
theorem d_11_undo_16 : decode prog_1_method_24_code 16 = .ok (.aload_n 0, 1) := by decide +kernel
theorem d_11_undo_17 : decode prog_1_method_24_code 17 = .ok (.getfield 26, 3) := by decide +kernel
theorem d_11_undo_20 : decode prog_1_method_24_code 20 = .ok (.getfield 48, 3) := by decide +kernel
theorem d_11_undo_23 : decode prog_1_method_24_code 23 = .ok (.invokevirtual 237, 3) := by decide +kernel
theorem d_11_undo_26 : decode prog_1_method_24_code 26 = .ok (.iconst (-1), 1) := by decide +kernel
theorem d_11_undo_27 : decode prog_1_method_24_code 27 = .ok (.if_icmp .eq 11, 3) := by decide +kernel
theorem d_11_undo_30 : decode prog_1_method_24_code 30 = .ok (.new 243, 3) := by decide +kernel
theorem d_11_undo_33 : decode prog_1_method_24_code 33 = .ok (.dup, 1) := by decide +kernel
theorem d_11_undo_34 : decode prog_1_method_24_code 34 = .ok (.invokespecial 245, 3) := by decide +kernel
theorem d_11_undo_37 : decode prog_1_method_24_code 37 = .ok (.athrow, 1) := by decide +kernel
theorem d_11_undo_38 : decode prog_1_method_24_code 38 = .ok (.aload_n 0, 1) := by decide +kernel
theorem d_11_undo_39 : decode prog_1_method_24_code 39 = .ok (.getfield 26, 3) := by decide +kernel
theorem d_11_undo_42 : decode prog_1_method_24_code 42 = .ok (.iload_n 1, 1) := by decide +kernel
theorem d_11_undo_43 : decode prog_1_method_24_code 43 = .ok (.aload_n 3, 1) := by decide +kernel
theorem d_11_undo_44 : decode prog_1_method_24_code 44 = .ok (.invokevirtual 246, 3) := by decide +kernel
theorem d_11_undo_47 : decode prog_1_method_24_code 47 = .ok (.ireturn, 1) := by decide +kernel
theorem d_11_fits_0 : decode prog_1_method_25_code 0 = .ok (.aload_n 0, 1) := by decide +kernel
theorem d_11_fits_1 : decode prog_1_method_25_code 1 = .ok (.iload_n 1, 1) := by decide +kernel
theorem d_11_fits_2 : decode prog_1_method_25_code 2 = .ok (.invokevirtual 73, 3) := by decide +kernel
theorem d_11_fits_5 : decode prog_1_method_25_code 5 = .ok (.astore_n 3, 1) := by decide +kernel
theorem d_11_fits_6 : decode prog_1_method_25_code 6 = .ok (.aload_n 3, 1) := by decide +kernel
theorem d_11_fits_7 : decode prog_1_method_25_code 7 = .ok (.getfield 83, 3) := by decide +kernel
theorem d_11_fits_10 : decode prog_1_method_25_code 10 = .ok (.aload_n 0, 1) := by decide +kernel
theorem d_11_fits_11 : decode prog_1_method_25_code 11 = .ok (.getfield 26, 3) := by decide +kernel
theorem d_11_fits_14 : decode prog_1_method_25_code 14 = .ok (.getfield 48, 3) := by decide +kernel
theorem d_11_fits_17 : decode prog_1_method_25_code 17 = .ok (.aload_n 0, 1) := by decide +kernel
theorem d_11_fits_18 : decode prog_1_method_25_code 18 = .ok (.iload_n 2, 1) := by decide +kernel
theorem d_11_fits_19 : decode prog_1_method_25_code 19 = .ok (.invokevirtual 120, 3) := by decide +kernel
theorem d_11_fits_22 : decode prog_1_method_25_code 22 = .ok (.invokevirtual 250, 3) := by decide +kernel
theorem d_11_fits_25 : decode prog_1_method_25_code 25 = .ok (.ireturn, 1) := by decide +kernel
theorem d_11_why_0 : decode prog_1_method_26_code 0 = .ok (.aload_n 0, 1) := by decide +kernel
theorem d_11_why_1 : decode prog_1_method_26_code 1 = .ok (.iload_n 1, 1) := by decide +kernel
theorem d_11_why_2 : decode prog_1_method_26_code 2 = .ok (.invokevirtual 73, 3) := by decide +kernel
theorem d_11_why_5 : decode prog_1_method_26_code 5 = .ok (.astore_n 3, 1) := by decide +kernel
theorem d_11_why_6 : decode prog_1_method_26_code 6 = .ok (.aload_n 3, 1) := by decide +kernel
theorem d_11_why_7 : decode prog_1_method_26_code 7 = .ok (.getfield 83, 3) := by decide +kernel
theorem d_11_why_10 : decode prog_1_method_26_code 10 = .ok (.aload_n 0, 1) := by decide +kernel
theorem d_11_why_11 : decode prog_1_method_26_code 11 = .ok (.getfield 26, 3) := by decide +kernel
theorem d_11_why_14 : decode prog_1_method_26_code 14 = .ok (.getfield 48, 3) := by decide +kernel
theorem d_11_why_17 : decode prog_1_method_26_code 17 = .ok (.aload_n 0, 1) := by decide +kernel
theorem d_11_why_18 : decode prog_1_method_26_code 18 = .ok (.iload_n 2, 1) := by decide +kernel
theorem d_11_why_19 : decode prog_1_method_26_code 19 = .ok (.invokevirtual 120, 3) := by decide +kernel
theorem d_11_why_22 : decode prog_1_method_26_code 22 = .ok (.invokevirtual 254, 3) := by decide +kernel
theorem d_11_why_25 : decode prog_1_method_26_code 25 = .ok (.ireturn, 1) := by decide +kernel
theorem d_4_staleBits_0 : decode prog_6_method_3_code 0 = .ok (.iconst 0, 1) := by decide +kernel
theorem d_4_staleBits_1 : decode prog_6_method_3_code 1 = .ok (.istore_n 3, 1) := by decide +kernel
theorem d_4_staleBits_2 : decode prog_6_method_3_code 2 = .ok (.iconst 0, 1) := by decide +kernel
theorem d_4_staleBits_3 : decode prog_6_method_3_code 3 = .ok (.istore 4, 2) := by decide +kernel
theorem d_4_staleBits_5 : decode prog_6_method_3_code 5 = .ok (.iload 4, 2) := by decide +kernel
theorem d_4_staleBits_7 : decode prog_6_method_3_code 7 = .ok (.aload_n 2, 1) := by decide +kernel
theorem d_4_staleBits_8 : decode prog_6_method_3_code 8 = .ok (.getfield 44, 3) := by decide +kernel
theorem d_4_staleBits_11 : decode prog_6_method_3_code 11 = .ok (.invokevirtual 40, 3) := by decide +kernel
theorem d_4_staleBits_14 : decode prog_6_method_3_code 14 = .ok (.if_icmp .ge 39, 3) := by decide +kernel
theorem d_4_staleBits_17 : decode prog_6_method_3_code 17 = .ok (.aload_n 2, 1) := by decide +kernel
theorem d_4_staleBits_18 : decode prog_6_method_3_code 18 = .ok (.getfield 28, 3) := by decide +kernel
theorem d_4_staleBits_21 : decode prog_6_method_3_code 21 = .ok (.aload_n 1, 1) := by decide +kernel
theorem d_4_staleBits_22 : decode prog_6_method_3_code 22 = .ok (.getfield 59, 3) := by decide +kernel
theorem d_4_staleBits_25 : decode prog_6_method_3_code 25 = .ok (.aload_n 2, 1) := by decide +kernel
theorem d_4_staleBits_26 : decode prog_6_method_3_code 26 = .ok (.getfield 44, 3) := by decide +kernel
theorem d_4_staleBits_29 : decode prog_6_method_3_code 29 = .ok (.iload 4, 2) := by decide +kernel
theorem d_4_staleBits_31 : decode prog_6_method_3_code 31 = .ok (.invokevirtual 47, 3) := by decide +kernel
theorem d_4_staleBits_34 : decode prog_6_method_3_code 34 = .ok (.invokevirtual 63, 3) := by decide +kernel
theorem d_4_staleBits_37 : decode prog_6_method_3_code 37 = .ok (.ifCond .ne 10, 3) := by decide +kernel
theorem d_4_staleBits_40 : decode prog_6_method_3_code 40 = .ok (.iload_n 3, 1) := by decide +kernel
theorem d_4_staleBits_41 : decode prog_6_method_3_code 41 = .ok (.iconst 1, 1) := by decide +kernel
theorem d_4_staleBits_42 : decode prog_6_method_3_code 42 = .ok (.iload 4, 2) := by decide +kernel
theorem d_4_staleBits_44 : decode prog_6_method_3_code 44 = .ok (.ishl, 1) := by decide +kernel
theorem d_4_staleBits_45 : decode prog_6_method_3_code 45 = .ok (.ior, 1) := by decide +kernel
theorem d_4_staleBits_46 : decode prog_6_method_3_code 46 = .ok (.istore_n 3, 1) := by decide +kernel
theorem d_4_staleBits_47 : decode prog_6_method_3_code 47 = .ok (.iinc 4 1, 3) := by decide +kernel
theorem d_4_staleBits_50 : decode prog_6_method_3_code 50 = .ok (.goto (-45), 3) := by decide +kernel
theorem d_4_staleBits_53 : decode prog_6_method_3_code 53 = .ok (.iload_n 3, 1) := by decide +kernel
theorem d_4_staleBits_54 : decode prog_6_method_3_code 54 = .ok (.ireturn, 1) := by decide +kernel
theorem d_11_stale_0 : decode prog_1_method_27_code 0 = .ok (.aload_n 0, 1) := by decide +kernel
theorem d_11_stale_1 : decode prog_1_method_27_code 1 = .ok (.getfield 33, 3) := by decide +kernel
theorem d_11_stale_4 : decode prog_1_method_27_code 4 = .ok (.aload_n 0, 1) := by decide +kernel
theorem d_11_stale_5 : decode prog_1_method_27_code 5 = .ok (.getfield 26, 3) := by decide +kernel
theorem d_11_stale_8 : decode prog_1_method_27_code 8 = .ok (.aload_n 0, 1) := by decide +kernel
theorem d_11_stale_9 : decode prog_1_method_27_code 9 = .ok (.iload_n 1, 1) := by decide +kernel
theorem d_11_stale_10 : decode prog_1_method_27_code 10 = .ok (.invokevirtual 73, 3) := by decide +kernel
theorem d_11_stale_13 : decode prog_1_method_27_code 13 = .ok (.invokevirtual 258, 3) := by decide +kernel
theorem d_11_stale_16 : decode prog_1_method_27_code 16 = .ok (.ireturn, 1) := by decide +kernel
theorem d_4_pendingBits_0 : decode prog_6_method_4_code 0 = .ok (.iconst 0, 1) := by decide +kernel
theorem d_4_pendingBits_1 : decode prog_6_method_4_code 1 = .ok (.istore_n 3, 1) := by decide +kernel
theorem d_4_pendingBits_2 : decode prog_6_method_4_code 2 = .ok (.aload_n 1, 1) := by decide +kernel
theorem d_4_pendingBits_3 : decode prog_6_method_4_code 3 = .ok (.getfield 59, 3) := by decide +kernel
theorem d_4_pendingBits_6 : decode prog_6_method_4_code 6 = .ok (.getfield 69, 3) := by decide +kernel
theorem d_4_pendingBits_9 : decode prog_6_method_4_code 9 = .ok (.astore 4, 2) := by decide +kernel
theorem d_4_pendingBits_11 : decode prog_6_method_4_code 11 = .ok (.iconst 0, 1) := by decide +kernel
theorem d_4_pendingBits_12 : decode prog_6_method_4_code 12 = .ok (.istore 5, 2) := by decide +kernel
theorem d_4_pendingBits_14 : decode prog_6_method_4_code 14 = .ok (.iload 5, 2) := by decide +kernel
theorem d_4_pendingBits_16 : decode prog_6_method_4_code 16 = .ok (.aload 4, 2) := by decide +kernel
theorem d_4_pendingBits_18 : decode prog_6_method_4_code 18 = .ok (.invokevirtual 40, 3) := by decide +kernel
theorem d_4_pendingBits_21 : decode prog_6_method_4_code 21 = .ok (.if_icmp .ge 53, 3) := by decide +kernel
theorem d_4_pendingBits_24 : decode prog_6_method_4_code 24 = .ok (.aload 4, 2) := by decide +kernel
theorem d_4_pendingBits_26 : decode prog_6_method_4_code 26 = .ok (.iload 5, 2) := by decide +kernel
theorem d_4_pendingBits_28 : decode prog_6_method_4_code 28 = .ok (.invokevirtual 47, 3) := by decide +kernel
theorem d_4_pendingBits_31 : decode prog_6_method_4_code 31 = .ok (.istore 6, 2) := by decide +kernel
theorem d_4_pendingBits_33 : decode prog_6_method_4_code 33 = .ok (.aload_n 2, 1) := by decide +kernel
theorem d_4_pendingBits_34 : decode prog_6_method_4_code 34 = .ok (.getfield 44, 3) := by decide +kernel
theorem d_4_pendingBits_37 : decode prog_6_method_4_code 37 = .ok (.iload 6, 2) := by decide +kernel
theorem d_4_pendingBits_39 : decode prog_6_method_4_code 39 = .ok (.invokevirtual 51, 3) := by decide +kernel
theorem d_4_pendingBits_42 : decode prog_6_method_4_code 42 = .ok (.ifCond .ne 26, 3) := by decide +kernel
theorem d_4_pendingBits_45 : decode prog_6_method_4_code 45 = .ok (.aload_n 2, 1) := by decide +kernel
theorem d_4_pendingBits_46 : decode prog_6_method_4_code 46 = .ok (.getfield 28, 3) := by decide +kernel
theorem d_4_pendingBits_49 : decode prog_6_method_4_code 49 = .ok (.aload_n 1, 1) := by decide +kernel
theorem d_4_pendingBits_50 : decode prog_6_method_4_code 50 = .ok (.getfield 59, 3) := by decide +kernel
theorem d_4_pendingBits_53 : decode prog_6_method_4_code 53 = .ok (.iload 6, 2) := by decide +kernel
theorem d_4_pendingBits_55 : decode prog_6_method_4_code 55 = .ok (.invokevirtual 63, 3) := by decide +kernel
theorem d_4_pendingBits_58 : decode prog_6_method_4_code 58 = .ok (.ifCond .eq 10, 3) := by decide +kernel
theorem d_4_pendingBits_61 : decode prog_6_method_4_code 61 = .ok (.iload_n 3, 1) := by decide +kernel
theorem d_4_pendingBits_62 : decode prog_6_method_4_code 62 = .ok (.iconst 1, 1) := by decide +kernel
theorem d_4_pendingBits_63 : decode prog_6_method_4_code 63 = .ok (.iload 5, 2) := by decide +kernel
theorem d_4_pendingBits_65 : decode prog_6_method_4_code 65 = .ok (.ishl, 1) := by decide +kernel
theorem d_4_pendingBits_66 : decode prog_6_method_4_code 66 = .ok (.ior, 1) := by decide +kernel
theorem d_4_pendingBits_67 : decode prog_6_method_4_code 67 = .ok (.istore_n 3, 1) := by decide +kernel
theorem d_4_pendingBits_68 : decode prog_6_method_4_code 68 = .ok (.iinc 5 1, 3) := by decide +kernel
theorem d_4_pendingBits_71 : decode prog_6_method_4_code 71 = .ok (.goto (-57), 3) := by decide +kernel
theorem d_4_pendingBits_74 : decode prog_6_method_4_code 74 = .ok (.iload_n 3, 1) := by decide +kernel
theorem d_4_pendingBits_75 : decode prog_6_method_4_code 75 = .ok (.ireturn, 1) := by decide +kernel
theorem d_11_pending_0 : decode prog_1_method_28_code 0 = .ok (.aload_n 0, 1) := by decide +kernel
theorem d_11_pending_1 : decode prog_1_method_28_code 1 = .ok (.getfield 33, 3) := by decide +kernel
theorem d_11_pending_4 : decode prog_1_method_28_code 4 = .ok (.aload_n 0, 1) := by decide +kernel
theorem d_11_pending_5 : decode prog_1_method_28_code 5 = .ok (.getfield 26, 3) := by decide +kernel
theorem d_11_pending_8 : decode prog_1_method_28_code 8 = .ok (.aload_n 0, 1) := by decide +kernel
theorem d_11_pending_9 : decode prog_1_method_28_code 9 = .ok (.iload_n 1, 1) := by decide +kernel
theorem d_11_pending_10 : decode prog_1_method_28_code 10 = .ok (.invokevirtual 73, 3) := by decide +kernel
theorem d_11_pending_13 : decode prog_1_method_28_code 13 = .ok (.invokevirtual 261, 3) := by decide +kernel
theorem d_11_pending_16 : decode prog_1_method_28_code 16 = .ok (.ireturn, 1) := by decide +kernel
theorem d_4_freshPlace_0 : decode prog_6_method_5_code 0 = .ok (.aload_n 1, 1) := by decide +kernel
theorem d_4_freshPlace_1 : decode prog_6_method_5_code 1 = .ok (.aload_n 2, 1) := by decide +kernel
theorem d_4_freshPlace_2 : decode prog_6_method_5_code 2 = .ok (.getfield 28, 3) := by decide +kernel
theorem d_4_freshPlace_5 : decode prog_6_method_5_code 5 = .ok (.aload_n 0, 1) := by decide +kernel
theorem d_4_freshPlace_6 : decode prog_6_method_5_code 6 = .ok (.getfield 12, 3) := by decide +kernel
theorem d_4_freshPlace_9 : decode prog_6_method_5_code 9 = .ok (.invokevirtual 34, 3) := by decide +kernel
theorem d_4_freshPlace_12 : decode prog_6_method_5_code 12 = .ok (.aload_n 0, 1) := by decide +kernel
theorem d_4_freshPlace_13 : decode prog_6_method_5_code 13 = .ok (.getfield 12, 3) := by decide +kernel
theorem d_4_freshPlace_16 : decode prog_6_method_5_code 16 = .ok (.iload_n 3, 1) := by decide +kernel
theorem d_4_freshPlace_17 : decode prog_6_method_5_code 17 = .ok (.invokevirtual 74, 3) := by decide +kernel
theorem d_4_freshPlace_20 : decode prog_6_method_5_code 20 = .ok (.ireturn, 1) := by decide +kernel
theorem d_11_rank_0 : decode prog_1_method_29_code 0 = .ok (.aload_n 0, 1) := by decide +kernel
theorem d_11_rank_1 : decode prog_1_method_29_code 1 = .ok (.iload_n 1, 1) := by decide +kernel
theorem d_11_rank_2 : decode prog_1_method_29_code 2 = .ok (.invokevirtual 73, 3) := by decide +kernel
theorem d_11_rank_5 : decode prog_1_method_29_code 5 = .ok (.astore_n 3, 1) := by decide +kernel
theorem d_11_rank_6 : decode prog_1_method_29_code 6 = .ok (.aload_n 0, 1) := by decide +kernel
theorem d_11_rank_7 : decode prog_1_method_29_code 7 = .ok (.getfield 33, 3) := by decide +kernel
theorem d_11_rank_10 : decode prog_1_method_29_code 10 = .ok (.aload_n 0, 1) := by decide +kernel
theorem d_11_rank_11 : decode prog_1_method_29_code 11 = .ok (.getfield 26, 3) := by decide +kernel
theorem d_11_rank_14 : decode prog_1_method_29_code 14 = .ok (.aload_n 3, 1) := by decide +kernel
theorem d_11_rank_15 : decode prog_1_method_29_code 15 = .ok (.aload_n 0, 1) := by decide +kernel
theorem d_11_rank_16 : decode prog_1_method_29_code 16 = .ok (.iload_n 2, 1) := by decide +kernel
theorem d_11_rank_17 : decode prog_1_method_29_code 17 = .ok (.invokevirtual 120, 3) := by decide +kernel
theorem d_11_rank_20 : decode prog_1_method_29_code 20 = .ok (.invokevirtual 264, 3) := by decide +kernel
theorem d_11_rank_23 : decode prog_1_method_29_code 23 = .ok (.ireturn, 1) := by decide +kernel
theorem d_4_longestBelow_0 : decode prog_6_method_7_code 0 = .ok (.iconst 0, 1) := by decide +kernel
theorem d_4_longestBelow_1 : decode prog_6_method_7_code 1 = .ok (.istore_n 2, 1) := by decide +kernel
theorem d_4_longestBelow_2 : decode prog_6_method_7_code 2 = .ok (.iconst 0, 1) := by decide +kernel
theorem d_4_longestBelow_3 : decode prog_6_method_7_code 3 = .ok (.istore_n 3, 1) := by decide +kernel
theorem d_4_longestBelow_4 : decode prog_6_method_7_code 4 = .ok (.iload_n 3, 1) := by decide +kernel
theorem d_4_longestBelow_5 : decode prog_6_method_7_code 5 = .ok (.iload_n 1, 1) := by decide +kernel
theorem d_4_longestBelow_6 : decode prog_6_method_7_code 6 = .ok (.if_icmp .ge 41, 3) := by decide +kernel
theorem d_4_longestBelow_9 : decode prog_6_method_7_code 9 = .ok (.iload_n 1, 1) := by decide +kernel
theorem d_4_longestBelow_10 : decode prog_6_method_7_code 10 = .ok (.bipush 24, 2) := by decide +kernel
theorem d_4_longestBelow_12 : decode prog_6_method_7_code 12 = .ok (.if_icmp .ge 35, 3) := by decide +kernel
theorem d_4_longestBelow_15 : decode prog_6_method_7_code 15 = .ok (.aload_n 0, 1) := by decide +kernel
theorem d_4_longestBelow_16 : decode prog_6_method_7_code 16 = .ok (.getfield 18, 3) := by decide +kernel
theorem d_4_longestBelow_19 : decode prog_6_method_7_code 19 = .ok (.iload_n 3, 1) := by decide +kernel
theorem d_4_longestBelow_20 : decode prog_6_method_7_code 20 = .ok (.iaload, 1) := by decide +kernel
theorem d_4_longestBelow_21 : decode prog_6_method_7_code 21 = .ok (.aload_n 0, 1) := by decide +kernel
theorem d_4_longestBelow_22 : decode prog_6_method_7_code 22 = .ok (.getfield 18, 3) := by decide +kernel
theorem d_4_longestBelow_25 : decode prog_6_method_7_code 25 = .ok (.iload_n 1, 1) := by decide +kernel
theorem d_4_longestBelow_26 : decode prog_6_method_7_code 26 = .ok (.iaload, 1) := by decide +kernel
theorem d_4_longestBelow_27 : decode prog_6_method_7_code 27 = .ok (.if_icmp .ge 14, 3) := by decide +kernel
theorem d_4_longestBelow_30 : decode prog_6_method_7_code 30 = .ok (.iload_n 2, 1) := by decide +kernel
theorem d_4_longestBelow_31 : decode prog_6_method_7_code 31 = .ok (.aload_n 0, 1) := by decide +kernel
theorem d_4_longestBelow_32 : decode prog_6_method_7_code 32 = .ok (.getfield 22, 3) := by decide +kernel
theorem d_4_longestBelow_35 : decode prog_6_method_7_code 35 = .ok (.iload_n 3, 1) := by decide +kernel
theorem d_4_longestBelow_36 : decode prog_6_method_7_code 36 = .ok (.iaload, 1) := by decide +kernel
theorem d_4_longestBelow_37 : decode prog_6_method_7_code 37 = .ok (.invokestatic 80, 3) := by decide +kernel
theorem d_4_longestBelow_40 : decode prog_6_method_7_code 40 = .ok (.istore_n 2, 1) := by decide +kernel
theorem d_4_longestBelow_41 : decode prog_6_method_7_code 41 = .ok (.iinc 3 1, 3) := by decide +kernel
theorem d_4_longestBelow_44 : decode prog_6_method_7_code 44 = .ok (.goto (-40), 3) := by decide +kernel
theorem d_4_longestBelow_47 : decode prog_6_method_7_code 47 = .ok (.iload_n 2, 1) := by decide +kernel
theorem d_4_longestBelow_48 : decode prog_6_method_7_code 48 = .ok (.ireturn, 1) := by decide +kernel
theorem d_4_fewestMoves_0 : decode prog_6_method_6_code 0 = .ok (.aload_n 1, 1) := by decide +kernel
theorem d_4_fewestMoves_1 : decode prog_6_method_6_code 1 = .ok (.aload_n 2, 1) := by decide +kernel
theorem d_4_fewestMoves_2 : decode prog_6_method_6_code 2 = .ok (.getfield 28, 3) := by decide +kernel
theorem d_4_fewestMoves_5 : decode prog_6_method_6_code 5 = .ok (.aload_n 0, 1) := by decide +kernel
theorem d_4_fewestMoves_6 : decode prog_6_method_6_code 6 = .ok (.getfield 12, 3) := by decide +kernel
theorem d_4_fewestMoves_9 : decode prog_6_method_6_code 9 = .ok (.invokevirtual 34, 3) := by decide +kernel
theorem d_4_fewestMoves_12 : decode prog_6_method_6_code 12 = .ok (.iconst 0, 1) := by decide +kernel
theorem d_4_fewestMoves_13 : decode prog_6_method_6_code 13 = .ok (.istore_n 3, 1) := by decide +kernel
theorem d_4_fewestMoves_14 : decode prog_6_method_6_code 14 = .ok (.iconst 0, 1) := by decide +kernel
theorem d_4_fewestMoves_15 : decode prog_6_method_6_code 15 = .ok (.istore 4, 2) := by decide +kernel
theorem d_4_fewestMoves_17 : decode prog_6_method_6_code 17 = .ok (.iconst 0, 1) := by decide +kernel
theorem d_4_fewestMoves_18 : decode prog_6_method_6_code 18 = .ok (.istore 5, 2) := by decide +kernel
theorem d_4_fewestMoves_20 : decode prog_6_method_6_code 20 = .ok (.iload 5, 2) := by decide +kernel
theorem d_4_fewestMoves_22 : decode prog_6_method_6_code 22 = .ok (.aload_n 2, 1) := by decide +kernel
theorem d_4_fewestMoves_23 : decode prog_6_method_6_code 23 = .ok (.getfield 44, 3) := by decide +kernel
theorem d_4_fewestMoves_26 : decode prog_6_method_6_code 26 = .ok (.invokevirtual 40, 3) := by decide +kernel
theorem d_4_fewestMoves_29 : decode prog_6_method_6_code 29 = .ok (.if_icmp .ge 76, 3) := by decide +kernel
theorem d_4_fewestMoves_32 : decode prog_6_method_6_code 32 = .ok (.aload_n 0, 1) := by decide +kernel
theorem d_4_fewestMoves_33 : decode prog_6_method_6_code 33 = .ok (.getfield 12, 3) := by decide +kernel
theorem d_4_fewestMoves_36 : decode prog_6_method_6_code 36 = .ok (.aload_n 2, 1) := by decide +kernel
theorem d_4_fewestMoves_37 : decode prog_6_method_6_code 37 = .ok (.getfield 44, 3) := by decide +kernel
theorem d_4_fewestMoves_40 : decode prog_6_method_6_code 40 = .ok (.iload 5, 2) := by decide +kernel
theorem d_4_fewestMoves_42 : decode prog_6_method_6_code 42 = .ok (.invokevirtual 47, 3) := by decide +kernel
theorem d_4_fewestMoves_45 : decode prog_6_method_6_code 45 = .ok (.invokevirtual 74, 3) := by decide +kernel
theorem d_4_fewestMoves_48 : decode prog_6_method_6_code 48 = .ok (.istore 6, 2) := by decide +kernel
theorem d_4_fewestMoves_50 : decode prog_6_method_6_code 50 = .ok (.iload 6, 2) := by decide +kernel
theorem d_4_fewestMoves_52 : decode prog_6_method_6_code 52 = .ok (.iconst (-1), 1) := by decide +kernel
theorem d_4_fewestMoves_53 : decode prog_6_method_6_code 53 = .ok (.if_icmp .eq 46, 3) := by decide +kernel
theorem d_4_fewestMoves_56 : decode prog_6_method_6_code 56 = .ok (.iload_n 3, 1) := by decide +kernel
theorem d_4_fewestMoves_57 : decode prog_6_method_6_code 57 = .ok (.bipush 24, 2) := by decide +kernel
theorem d_4_fewestMoves_59 : decode prog_6_method_6_code 59 = .ok (.if_icmp .ge 40, 3) := by decide +kernel
theorem d_4_fewestMoves_62 : decode prog_6_method_6_code 62 = .ok (.aload_n 0, 1) := by decide +kernel
theorem d_4_fewestMoves_63 : decode prog_6_method_6_code 63 = .ok (.getfield 18, 3) := by decide +kernel
theorem d_4_fewestMoves_66 : decode prog_6_method_6_code 66 = .ok (.iload_n 3, 1) := by decide +kernel
theorem d_4_fewestMoves_67 : decode prog_6_method_6_code 67 = .ok (.iload 6, 2) := by decide +kernel
theorem d_4_fewestMoves_69 : decode prog_6_method_6_code 69 = .ok (.iastore, 1) := by decide +kernel
theorem d_4_fewestMoves_70 : decode prog_6_method_6_code 70 = .ok (.aload_n 0, 1) := by decide +kernel
theorem d_4_fewestMoves_71 : decode prog_6_method_6_code 71 = .ok (.getfield 22, 3) := by decide +kernel
theorem d_4_fewestMoves_74 : decode prog_6_method_6_code 74 = .ok (.iload_n 3, 1) := by decide +kernel
theorem d_4_fewestMoves_75 : decode prog_6_method_6_code 75 = .ok (.iconst 1, 1) := by decide +kernel
theorem d_4_fewestMoves_76 : decode prog_6_method_6_code 76 = .ok (.aload_n 0, 1) := by decide +kernel
theorem d_4_fewestMoves_77 : decode prog_6_method_6_code 77 = .ok (.iload_n 3, 1) := by decide +kernel
theorem d_4_fewestMoves_78 : decode prog_6_method_6_code 78 = .ok (.invokevirtual 77, 3) := by decide +kernel
theorem d_4_fewestMoves_81 : decode prog_6_method_6_code 81 = .ok (.iadd, 1) := by decide +kernel
theorem d_4_fewestMoves_82 : decode prog_6_method_6_code 82 = .ok (.iastore, 1) := by decide +kernel
theorem d_4_fewestMoves_83 : decode prog_6_method_6_code 83 = .ok (.iload 4, 2) := by decide +kernel
theorem d_4_fewestMoves_85 : decode prog_6_method_6_code 85 = .ok (.aload_n 0, 1) := by decide +kernel
theorem d_4_fewestMoves_86 : decode prog_6_method_6_code 86 = .ok (.getfield 22, 3) := by decide +kernel
theorem d_4_fewestMoves_89 : decode prog_6_method_6_code 89 = .ok (.iload_n 3, 1) := by decide +kernel
theorem d_4_fewestMoves_90 : decode prog_6_method_6_code 90 = .ok (.iaload, 1) := by decide +kernel
theorem d_4_fewestMoves_91 : decode prog_6_method_6_code 91 = .ok (.invokestatic 80, 3) := by decide +kernel
theorem d_4_fewestMoves_94 : decode prog_6_method_6_code 94 = .ok (.istore 4, 2) := by decide +kernel
theorem d_4_fewestMoves_96 : decode prog_6_method_6_code 96 = .ok (.iinc 3 1, 3) := by decide +kernel
theorem d_4_fewestMoves_99 : decode prog_6_method_6_code 99 = .ok (.iinc 5 1, 3) := by decide +kernel
theorem d_4_fewestMoves_102 : decode prog_6_method_6_code 102 = .ok (.goto (-82), 3) := by decide +kernel
theorem d_4_fewestMoves_105 : decode prog_6_method_6_code 105 = .ok (.iload_n 3, 1) := by decide +kernel
theorem d_4_fewestMoves_106 : decode prog_6_method_6_code 106 = .ok (.iload 4, 2) := by decide +kernel
theorem d_4_fewestMoves_108 : decode prog_6_method_6_code 108 = .ok (.isub, 1) := by decide +kernel
theorem d_4_fewestMoves_109 : decode prog_6_method_6_code 109 = .ok (.ireturn, 1) := by decide +kernel
theorem d_11_moves_0 : decode prog_1_method_30_code 0 = .ok (.aload_n 0, 1) := by decide +kernel
theorem d_11_moves_1 : decode prog_1_method_30_code 1 = .ok (.getfield 33, 3) := by decide +kernel
theorem d_11_moves_4 : decode prog_1_method_30_code 4 = .ok (.aload_n 0, 1) := by decide +kernel
theorem d_11_moves_5 : decode prog_1_method_30_code 5 = .ok (.getfield 26, 3) := by decide +kernel
theorem d_11_moves_8 : decode prog_1_method_30_code 8 = .ok (.aload_n 0, 1) := by decide +kernel
theorem d_11_moves_9 : decode prog_1_method_30_code 9 = .ok (.iload_n 1, 1) := by decide +kernel
theorem d_11_moves_10 : decode prog_1_method_30_code 10 = .ok (.invokevirtual 73, 3) := by decide +kernel
theorem d_11_moves_13 : decode prog_1_method_30_code 13 = .ok (.invokevirtual 268, 3) := by decide +kernel
theorem d_11_moves_16 : decode prog_1_method_30_code 16 = .ok (.ireturn, 1) := by decide +kernel
theorem d_4_pairsTurned_0 : decode prog_6_method_8_code 0 = .ok (.iconst 0, 1) := by decide +kernel
theorem d_4_pairsTurned_1 : decode prog_6_method_8_code 1 = .ok (.istore_n 3, 1) := by decide +kernel
theorem d_4_pairsTurned_2 : decode prog_6_method_8_code 2 = .ok (.iconst 0, 1) := by decide +kernel
theorem d_4_pairsTurned_3 : decode prog_6_method_8_code 3 = .ok (.istore 4, 2) := by decide +kernel
theorem d_4_pairsTurned_5 : decode prog_6_method_8_code 5 = .ok (.iload 4, 2) := by decide +kernel
theorem d_4_pairsTurned_7 : decode prog_6_method_8_code 7 = .ok (.aload_n 1, 1) := by decide +kernel
theorem d_4_pairsTurned_8 : decode prog_6_method_8_code 8 = .ok (.invokevirtual 40, 3) := by decide +kernel
theorem d_4_pairsTurned_11 : decode prog_6_method_8_code 11 = .ok (.if_icmp .ge 76, 3) := by decide +kernel
theorem d_4_pairsTurned_14 : decode prog_6_method_8_code 14 = .ok (.aload_n 2, 1) := by decide +kernel
theorem d_4_pairsTurned_15 : decode prog_6_method_8_code 15 = .ok (.aload_n 1, 1) := by decide +kernel
theorem d_4_pairsTurned_16 : decode prog_6_method_8_code 16 = .ok (.iload 4, 2) := by decide +kernel
theorem d_4_pairsTurned_18 : decode prog_6_method_8_code 18 = .ok (.invokevirtual 47, 3) := by decide +kernel
theorem d_4_pairsTurned_21 : decode prog_6_method_8_code 21 = .ok (.invokevirtual 74, 3) := by decide +kernel
theorem d_4_pairsTurned_24 : decode prog_6_method_8_code 24 = .ok (.istore 5, 2) := by decide +kernel
theorem d_4_pairsTurned_26 : decode prog_6_method_8_code 26 = .ok (.iload 4, 2) := by decide +kernel
theorem d_4_pairsTurned_28 : decode prog_6_method_8_code 28 = .ok (.iconst 1, 1) := by decide +kernel
theorem d_4_pairsTurned_29 : decode prog_6_method_8_code 29 = .ok (.iadd, 1) := by decide +kernel
theorem d_4_pairsTurned_30 : decode prog_6_method_8_code 30 = .ok (.istore 6, 2) := by decide +kernel
theorem d_4_pairsTurned_32 : decode prog_6_method_8_code 32 = .ok (.iload 5, 2) := by decide +kernel
theorem d_4_pairsTurned_34 : decode prog_6_method_8_code 34 = .ok (.iconst (-1), 1) := by decide +kernel
theorem d_4_pairsTurned_35 : decode prog_6_method_8_code 35 = .ok (.if_icmp .eq 46, 3) := by decide +kernel
theorem d_4_pairsTurned_38 : decode prog_6_method_8_code 38 = .ok (.iload 6, 2) := by decide +kernel
theorem d_4_pairsTurned_40 : decode prog_6_method_8_code 40 = .ok (.aload_n 1, 1) := by decide +kernel
theorem d_4_pairsTurned_41 : decode prog_6_method_8_code 41 = .ok (.invokevirtual 40, 3) := by decide +kernel
theorem d_4_pairsTurned_44 : decode prog_6_method_8_code 44 = .ok (.if_icmp .ge 37, 3) := by decide +kernel
theorem d_4_pairsTurned_47 : decode prog_6_method_8_code 47 = .ok (.aload_n 2, 1) := by decide +kernel
theorem d_4_pairsTurned_48 : decode prog_6_method_8_code 48 = .ok (.aload_n 1, 1) := by decide +kernel
theorem d_4_pairsTurned_49 : decode prog_6_method_8_code 49 = .ok (.iload 6, 2) := by decide +kernel
theorem d_4_pairsTurned_51 : decode prog_6_method_8_code 51 = .ok (.invokevirtual 47, 3) := by decide +kernel
theorem d_4_pairsTurned_54 : decode prog_6_method_8_code 54 = .ok (.invokevirtual 74, 3) := by decide +kernel
theorem d_4_pairsTurned_57 : decode prog_6_method_8_code 57 = .ok (.istore 7, 2) := by decide +kernel
theorem d_4_pairsTurned_59 : decode prog_6_method_8_code 59 = .ok (.iload 7, 2) := by decide +kernel
theorem d_4_pairsTurned_61 : decode prog_6_method_8_code 61 = .ok (.iconst (-1), 1) := by decide +kernel
theorem d_4_pairsTurned_62 : decode prog_6_method_8_code 62 = .ok (.if_icmp .eq 13, 3) := by decide +kernel
theorem d_4_pairsTurned_65 : decode prog_6_method_8_code 65 = .ok (.iload 7, 2) := by decide +kernel
theorem d_4_pairsTurned_67 : decode prog_6_method_8_code 67 = .ok (.iload 5, 2) := by decide +kernel
theorem d_4_pairsTurned_69 : decode prog_6_method_8_code 69 = .ok (.if_icmp .ge 6, 3) := by decide +kernel
theorem d_4_pairsTurned_72 : decode prog_6_method_8_code 72 = .ok (.iinc 3 1, 3) := by decide +kernel
theorem d_4_pairsTurned_75 : decode prog_6_method_8_code 75 = .ok (.iinc 6 1, 3) := by decide +kernel
theorem d_4_pairsTurned_78 : decode prog_6_method_8_code 78 = .ok (.goto (-46), 3) := by decide +kernel
theorem d_4_pairsTurned_81 : decode prog_6_method_8_code 81 = .ok (.iinc 4 1, 3) := by decide +kernel
theorem d_4_pairsTurned_84 : decode prog_6_method_8_code 84 = .ok (.goto (-79), 3) := by decide +kernel
theorem d_4_pairsTurned_87 : decode prog_6_method_8_code 87 = .ok (.iload_n 3, 1) := by decide +kernel
theorem d_4_pairsTurned_88 : decode prog_6_method_8_code 88 = .ok (.ireturn, 1) := by decide +kernel
theorem d_11_unlike_0 : decode prog_1_method_31_code 0 = .ok (.aload_n 0, 1) := by decide +kernel
theorem d_11_unlike_1 : decode prog_1_method_31_code 1 = .ok (.iload_n 1, 1) := by decide +kernel
theorem d_11_unlike_2 : decode prog_1_method_31_code 2 = .ok (.invokevirtual 73, 3) := by decide +kernel
theorem d_11_unlike_5 : decode prog_1_method_31_code 5 = .ok (.astore_n 3, 1) := by decide +kernel
theorem d_11_unlike_6 : decode prog_1_method_31_code 6 = .ok (.aload_n 0, 1) := by decide +kernel
theorem d_11_unlike_7 : decode prog_1_method_31_code 7 = .ok (.iload_n 2, 1) := by decide +kernel
theorem d_11_unlike_8 : decode prog_1_method_31_code 8 = .ok (.invokevirtual 73, 3) := by decide +kernel
theorem d_11_unlike_11 : decode prog_1_method_31_code 11 = .ok (.astore 4, 2) := by decide +kernel
theorem d_11_unlike_13 : decode prog_1_method_31_code 13 = .ok (.iload_n 1, 1) := by decide +kernel
theorem d_11_unlike_14 : decode prog_1_method_31_code 14 = .ok (.iload_n 2, 1) := by decide +kernel
theorem d_11_unlike_15 : decode prog_1_method_31_code 15 = .ok (.if_icmp .ne 11, 3) := by decide +kernel
theorem d_11_unlike_18 : decode prog_1_method_31_code 18 = .ok (.new 56, 3) := by decide +kernel
theorem d_11_unlike_21 : decode prog_1_method_31_code 21 = .ok (.dup, 1) := by decide +kernel
theorem d_11_unlike_22 : decode prog_1_method_31_code 22 = .ok (.invokespecial 58, 3) := by decide +kernel
theorem d_11_unlike_25 : decode prog_1_method_31_code 25 = .ok (.athrow, 1) := by decide +kernel
theorem d_11_unlike_26 : decode prog_1_method_31_code 26 = .ok (.aload_n 0, 1) := by decide +kernel
theorem d_11_unlike_27 : decode prog_1_method_31_code 27 = .ok (.getfield 33, 3) := by decide +kernel
theorem d_11_unlike_30 : decode prog_1_method_31_code 30 = .ok (.aload_n 3, 1) := by decide +kernel
theorem d_11_unlike_31 : decode prog_1_method_31_code 31 = .ok (.getfield 96, 3) := by decide +kernel
theorem d_11_unlike_34 : decode prog_1_method_31_code 34 = .ok (.aload 4, 2) := by decide +kernel
theorem d_11_unlike_36 : decode prog_1_method_31_code 36 = .ok (.getfield 96, 3) := by decide +kernel
theorem d_11_unlike_39 : decode prog_1_method_31_code 39 = .ok (.invokevirtual 271, 3) := by decide +kernel
theorem d_11_unlike_42 : decode prog_1_method_31_code 42 = .ok (.ireturn, 1) := by decide +kernel
theorem d_4_isTold_0 : decode prog_6_method_13_code 0 = .ok (.iconst 1, 1) := by decide +kernel
theorem d_4_isTold_1 : decode prog_6_method_13_code 1 = .ok (.istore 5, 2) := by decide +kernel
theorem d_4_isTold_3 : decode prog_6_method_13_code 3 = .ok (.iload 5, 2) := by decide +kernel
theorem d_4_isTold_5 : decode prog_6_method_13_code 5 = .ok (.aload_n 2, 1) := by decide +kernel
theorem d_4_isTold_6 : decode prog_6_method_13_code 6 = .ok (.invokevirtual 40, 3) := by decide +kernel
theorem d_4_isTold_9 : decode prog_6_method_13_code 9 = .ok (.if_icmp .ge 108, 3) := by decide +kernel
theorem d_4_isTold_12 : decode prog_6_method_13_code 12 = .ok (.iload 5, 2) := by decide +kernel
theorem d_4_isTold_14 : decode prog_6_method_13_code 14 = .ok (.bipush 24, 2) := by decide +kernel
theorem d_4_isTold_16 : decode prog_6_method_13_code 16 = .ok (.if_icmp .ge 101, 3) := by decide +kernel
theorem d_4_isTold_19 : decode prog_6_method_13_code 19 = .ok (.aload_n 2, 1) := by decide +kernel
theorem d_4_isTold_20 : decode prog_6_method_13_code 20 = .ok (.iload 5, 2) := by decide +kernel
theorem d_4_isTold_22 : decode prog_6_method_13_code 22 = .ok (.iconst 1, 1) := by decide +kernel
theorem d_4_isTold_23 : decode prog_6_method_13_code 23 = .ok (.isub, 1) := by decide +kernel
theorem d_4_isTold_24 : decode prog_6_method_13_code 24 = .ok (.invokevirtual 47, 3) := by decide +kernel
theorem d_4_isTold_27 : decode prog_6_method_13_code 27 = .ok (.istore 6, 2) := by decide +kernel
theorem d_4_isTold_29 : decode prog_6_method_13_code 29 = .ok (.aload_n 2, 1) := by decide +kernel
theorem d_4_isTold_30 : decode prog_6_method_13_code 30 = .ok (.iload 5, 2) := by decide +kernel
theorem d_4_isTold_32 : decode prog_6_method_13_code 32 = .ok (.invokevirtual 47, 3) := by decide +kernel
theorem d_4_isTold_35 : decode prog_6_method_13_code 35 = .ok (.istore 7, 2) := by decide +kernel
theorem d_4_isTold_37 : decode prog_6_method_13_code 37 = .ok (.iload_n 3, 1) := by decide +kernel
theorem d_4_isTold_38 : decode prog_6_method_13_code 38 = .ok (.iconst (-1), 1) := by decide +kernel
theorem d_4_isTold_39 : decode prog_6_method_13_code 39 = .ok (.if_icmp .ne 7, 3) := by decide +kernel
theorem d_4_isTold_42 : decode prog_6_method_13_code 42 = .ok (.iconst 0, 1) := by decide +kernel
theorem d_4_isTold_43 : decode prog_6_method_13_code 43 = .ok (.goto 12, 3) := by decide +kernel
theorem d_4_isTold_46 : decode prog_6_method_13_code 46 = .ok (.aload_n 1, 1) := by decide +kernel
theorem d_4_isTold_47 : decode prog_6_method_13_code 47 = .ok (.iload_n 3, 1) := by decide +kernel
theorem d_4_isTold_48 : decode prog_6_method_13_code 48 = .ok (.iload 6, 2) := by decide +kernel
theorem d_4_isTold_50 : decode prog_6_method_13_code 50 = .ok (.iload 7, 2) := by decide +kernel
theorem d_4_isTold_52 : decode prog_6_method_13_code 52 = .ok (.invokevirtual 110, 3) := by decide +kernel
theorem d_4_isTold_55 : decode prog_6_method_13_code 55 = .ok (.istore 8, 2) := by decide +kernel
theorem d_4_isTold_57 : decode prog_6_method_13_code 57 = .ok (.iload 8, 2) := by decide +kernel
theorem d_4_isTold_59 : decode prog_6_method_13_code 59 = .ok (.ifCond .ne 21, 3) := by decide +kernel
theorem d_4_isTold_62 : decode prog_6_method_13_code 62 = .ok (.iload 4, 2) := by decide +kernel
theorem d_4_isTold_64 : decode prog_6_method_13_code 64 = .ok (.iconst (-1), 1) := by decide +kernel
theorem d_4_isTold_65 : decode prog_6_method_13_code 65 = .ok (.if_icmp .eq 15, 3) := by decide +kernel
theorem d_4_isTold_68 : decode prog_6_method_13_code 68 = .ok (.aload_n 1, 1) := by decide +kernel
theorem d_4_isTold_69 : decode prog_6_method_13_code 69 = .ok (.iload 4, 2) := by decide +kernel
theorem d_4_isTold_71 : decode prog_6_method_13_code 71 = .ok (.iload 6, 2) := by decide +kernel
theorem d_4_isTold_73 : decode prog_6_method_13_code 73 = .ok (.iload 7, 2) := by decide +kernel
theorem d_4_isTold_75 : decode prog_6_method_13_code 75 = .ok (.invokevirtual 110, 3) := by decide +kernel
theorem d_4_isTold_78 : decode prog_6_method_13_code 78 = .ok (.istore 8, 2) := by decide +kernel
theorem d_4_isTold_80 : decode prog_6_method_13_code 80 = .ok (.iload 8, 2) := by decide +kernel
theorem d_4_isTold_82 : decode prog_6_method_13_code 82 = .ok (.ifCond .ne 22, 3) := by decide +kernel
theorem d_4_isTold_85 : decode prog_6_method_13_code 85 = .ok (.aload_n 0, 1) := by decide +kernel
theorem d_4_isTold_86 : decode prog_6_method_13_code 86 = .ok (.getfield 18, 3) := by decide +kernel
theorem d_4_isTold_89 : decode prog_6_method_13_code 89 = .ok (.iload 5, 2) := by decide +kernel
theorem d_4_isTold_91 : decode prog_6_method_13_code 91 = .ok (.iconst 1, 1) := by decide +kernel
theorem d_4_isTold_92 : decode prog_6_method_13_code 92 = .ok (.isub, 1) := by decide +kernel
theorem d_4_isTold_93 : decode prog_6_method_13_code 93 = .ok (.iaload, 1) := by decide +kernel
theorem d_4_isTold_94 : decode prog_6_method_13_code 94 = .ok (.aload_n 0, 1) := by decide +kernel
theorem d_4_isTold_95 : decode prog_6_method_13_code 95 = .ok (.getfield 18, 3) := by decide +kernel
theorem d_4_isTold_98 : decode prog_6_method_13_code 98 = .ok (.iload 5, 2) := by decide +kernel
theorem d_4_isTold_100 : decode prog_6_method_13_code 100 = .ok (.iaload, 1) := by decide +kernel
theorem d_4_isTold_101 : decode prog_6_method_13_code 101 = .ok (.isub, 1) := by decide +kernel
theorem d_4_isTold_102 : decode prog_6_method_13_code 102 = .ok (.istore 8, 2) := by decide +kernel
theorem d_4_isTold_104 : decode prog_6_method_13_code 104 = .ok (.iload 8, 2) := by decide +kernel
theorem d_4_isTold_106 : decode prog_6_method_13_code 106 = .ok (.ifCond .le 5, 3) := by decide +kernel
theorem d_4_isTold_109 : decode prog_6_method_13_code 109 = .ok (.iconst 0, 1) := by decide +kernel
theorem d_4_isTold_110 : decode prog_6_method_13_code 110 = .ok (.ireturn, 1) := by decide +kernel
theorem d_4_isTold_111 : decode prog_6_method_13_code 111 = .ok (.iinc 5 1, 3) := by decide +kernel
theorem d_4_isTold_114 : decode prog_6_method_13_code 114 = .ok (.goto (-111), 3) := by decide +kernel
theorem d_4_isTold_117 : decode prog_6_method_13_code 117 = .ok (.iconst 1, 1) := by decide +kernel
theorem d_4_isTold_118 : decode prog_6_method_13_code 118 = .ok (.ireturn, 1) := by decide +kernel
theorem d_4_tellOneSort_0 : decode prog_6_method_11_code 0 = .ok (.iconst 0, 1) := by decide +kernel
theorem d_4_tellOneSort_1 : decode prog_6_method_11_code 1 = .ok (.istore_n 3, 1) := by decide +kernel
theorem d_4_tellOneSort_2 : decode prog_6_method_11_code 2 = .ok (.iload_n 3, 1) := by decide +kernel
theorem d_4_tellOneSort_3 : decode prog_6_method_11_code 3 = .ok (.iconst 2, 1) := by decide +kernel
theorem d_4_tellOneSort_4 : decode prog_6_method_11_code 4 = .ok (.aload_n 1, 1) := by decide +kernel
theorem d_4_tellOneSort_5 : decode prog_6_method_11_code 5 = .ok (.getfield 107, 3) := by decide +kernel
theorem d_4_tellOneSort_8 : decode prog_6_method_11_code 8 = .ok (.imul, 1) := by decide +kernel
theorem d_4_tellOneSort_9 : decode prog_6_method_11_code 9 = .ok (.if_icmp .ge 27, 3) := by decide +kernel
theorem d_4_tellOneSort_12 : decode prog_6_method_11_code 12 = .ok (.aload_n 0, 1) := by decide +kernel
theorem d_4_tellOneSort_13 : decode prog_6_method_11_code 13 = .ok (.aload_n 1, 1) := by decide +kernel
theorem d_4_tellOneSort_14 : decode prog_6_method_11_code 14 = .ok (.aload_n 2, 1) := by decide +kernel
theorem d_4_tellOneSort_15 : decode prog_6_method_11_code 15 = .ok (.iload_n 3, 1) := by decide +kernel
theorem d_4_tellOneSort_16 : decode prog_6_method_11_code 16 = .ok (.iconst (-1), 1) := by decide +kernel
theorem d_4_tellOneSort_17 : decode prog_6_method_11_code 17 = .ok (.invokevirtual 93, 3) := by decide +kernel
theorem d_4_tellOneSort_20 : decode prog_6_method_11_code 20 = .ok (.ifCond .eq 10, 3) := by decide +kernel
theorem d_4_tellOneSort_23 : decode prog_6_method_11_code 23 = .ok (.aload_n 0, 1) := by decide +kernel
theorem d_4_tellOneSort_24 : decode prog_6_method_11_code 24 = .ok (.iload_n 3, 1) := by decide +kernel
theorem d_4_tellOneSort_25 : decode prog_6_method_11_code 25 = .ok (.putfield 86, 3) := by decide +kernel
theorem d_4_tellOneSort_28 : decode prog_6_method_11_code 28 = .ok (.iconst 1, 1) := by decide +kernel
theorem d_4_tellOneSort_29 : decode prog_6_method_11_code 29 = .ok (.ireturn, 1) := by decide +kernel
theorem d_4_tellOneSort_30 : decode prog_6_method_11_code 30 = .ok (.iinc 3 1, 3) := by decide +kernel
theorem d_4_tellOneSort_33 : decode prog_6_method_11_code 33 = .ok (.goto (-31), 3) := by decide +kernel
theorem d_4_tellOneSort_36 : decode prog_6_method_11_code 36 = .ok (.iconst 0, 1) := by decide +kernel
theorem d_4_tellOneSort_37 : decode prog_6_method_11_code 37 = .ok (.ireturn, 1) := by decide +kernel
theorem d_4_tellTwoSorts_0 : decode prog_6_method_12_code 0 = .ok (.iconst 0, 1) := by decide +kernel
theorem d_4_tellTwoSorts_1 : decode prog_6_method_12_code 1 = .ok (.istore_n 3, 1) := by decide +kernel
theorem d_4_tellTwoSorts_2 : decode prog_6_method_12_code 2 = .ok (.iload_n 3, 1) := by decide +kernel
theorem d_4_tellTwoSorts_3 : decode prog_6_method_12_code 3 = .ok (.iconst 2, 1) := by decide +kernel
theorem d_4_tellTwoSorts_4 : decode prog_6_method_12_code 4 = .ok (.aload_n 1, 1) := by decide +kernel
theorem d_4_tellTwoSorts_5 : decode prog_6_method_12_code 5 = .ok (.getfield 107, 3) := by decide +kernel
theorem d_4_tellTwoSorts_8 : decode prog_6_method_12_code 8 = .ok (.imul, 1) := by decide +kernel
theorem d_4_tellTwoSorts_9 : decode prog_6_method_12_code 9 = .ok (.if_icmp .ge 64, 3) := by decide +kernel
theorem d_4_tellTwoSorts_12 : decode prog_6_method_12_code 12 = .ok (.iconst 0, 1) := by decide +kernel
theorem d_4_tellTwoSorts_13 : decode prog_6_method_12_code 13 = .ok (.istore 4, 2) := by decide +kernel
theorem d_4_tellTwoSorts_15 : decode prog_6_method_12_code 15 = .ok (.iload 4, 2) := by decide +kernel
theorem d_4_tellTwoSorts_17 : decode prog_6_method_12_code 17 = .ok (.iconst 2, 1) := by decide +kernel
theorem d_4_tellTwoSorts_18 : decode prog_6_method_12_code 18 = .ok (.aload_n 1, 1) := by decide +kernel
theorem d_4_tellTwoSorts_19 : decode prog_6_method_12_code 19 = .ok (.getfield 107, 3) := by decide +kernel
theorem d_4_tellTwoSorts_22 : decode prog_6_method_12_code 22 = .ok (.imul, 1) := by decide +kernel
theorem d_4_tellTwoSorts_23 : decode prog_6_method_12_code 23 = .ok (.if_icmp .ge 44, 3) := by decide +kernel
theorem d_4_tellTwoSorts_26 : decode prog_6_method_12_code 26 = .ok (.iload_n 3, 1) := by decide +kernel
theorem d_4_tellTwoSorts_27 : decode prog_6_method_12_code 27 = .ok (.iconst 2, 1) := by decide +kernel
theorem d_4_tellTwoSorts_28 : decode prog_6_method_12_code 28 = .ok (.idiv, 1) := by decide +kernel
theorem d_4_tellTwoSorts_29 : decode prog_6_method_12_code 29 = .ok (.iload 4, 2) := by decide +kernel
theorem d_4_tellTwoSorts_31 : decode prog_6_method_12_code 31 = .ok (.iconst 2, 1) := by decide +kernel
theorem d_4_tellTwoSorts_32 : decode prog_6_method_12_code 32 = .ok (.idiv, 1) := by decide +kernel
theorem d_4_tellTwoSorts_33 : decode prog_6_method_12_code 33 = .ok (.if_icmp .eq 28, 3) := by decide +kernel
theorem d_4_tellTwoSorts_36 : decode prog_6_method_12_code 36 = .ok (.aload_n 0, 1) := by decide +kernel
theorem d_4_tellTwoSorts_37 : decode prog_6_method_12_code 37 = .ok (.aload_n 1, 1) := by decide +kernel
theorem d_4_tellTwoSorts_38 : decode prog_6_method_12_code 38 = .ok (.aload_n 2, 1) := by decide +kernel
theorem d_4_tellTwoSorts_39 : decode prog_6_method_12_code 39 = .ok (.iload_n 3, 1) := by decide +kernel
theorem d_4_tellTwoSorts_40 : decode prog_6_method_12_code 40 = .ok (.iload 4, 2) := by decide +kernel
theorem d_4_tellTwoSorts_42 : decode prog_6_method_12_code 42 = .ok (.invokevirtual 93, 3) := by decide +kernel
theorem d_4_tellTwoSorts_45 : decode prog_6_method_12_code 45 = .ok (.ifCond .eq 16, 3) := by decide +kernel
theorem d_4_tellTwoSorts_48 : decode prog_6_method_12_code 48 = .ok (.aload_n 0, 1) := by decide +kernel
theorem d_4_tellTwoSorts_49 : decode prog_6_method_12_code 49 = .ok (.iload_n 3, 1) := by decide +kernel
theorem d_4_tellTwoSorts_50 : decode prog_6_method_12_code 50 = .ok (.putfield 86, 3) := by decide +kernel
theorem d_4_tellTwoSorts_53 : decode prog_6_method_12_code 53 = .ok (.aload_n 0, 1) := by decide +kernel
theorem d_4_tellTwoSorts_54 : decode prog_6_method_12_code 54 = .ok (.iload 4, 2) := by decide +kernel
theorem d_4_tellTwoSorts_56 : decode prog_6_method_12_code 56 = .ok (.putfield 90, 3) := by decide +kernel
theorem d_4_tellTwoSorts_59 : decode prog_6_method_12_code 59 = .ok (.iconst 1, 1) := by decide +kernel
theorem d_4_tellTwoSorts_60 : decode prog_6_method_12_code 60 = .ok (.ireturn, 1) := by decide +kernel
theorem d_4_tellTwoSorts_61 : decode prog_6_method_12_code 61 = .ok (.iinc 4 1, 3) := by decide +kernel
theorem d_4_tellTwoSorts_64 : decode prog_6_method_12_code 64 = .ok (.goto (-49), 3) := by decide +kernel
theorem d_4_tellTwoSorts_67 : decode prog_6_method_12_code 67 = .ok (.iinc 3 1, 3) := by decide +kernel
theorem d_4_tellTwoSorts_70 : decode prog_6_method_12_code 70 = .ok (.goto (-68), 3) := by decide +kernel
theorem d_4_tellTwoSorts_73 : decode prog_6_method_12_code 73 = .ok (.iconst 0, 1) := by decide +kernel
theorem d_4_tellTwoSorts_74 : decode prog_6_method_12_code 74 = .ok (.ireturn, 1) := by decide +kernel
theorem d_4_tellSorts_0 : decode prog_6_method_10_code 0 = .ok (.iconst 0, 1) := by decide +kernel
theorem d_4_tellSorts_1 : decode prog_6_method_10_code 1 = .ok (.istore_n 3, 1) := by decide +kernel
theorem d_4_tellSorts_2 : decode prog_6_method_10_code 2 = .ok (.iload_n 3, 1) := by decide +kernel
theorem d_4_tellSorts_3 : decode prog_6_method_10_code 3 = .ok (.aload_n 2, 1) := by decide +kernel
theorem d_4_tellSorts_4 : decode prog_6_method_10_code 4 = .ok (.invokevirtual 40, 3) := by decide +kernel
theorem d_4_tellSorts_7 : decode prog_6_method_10_code 7 = .ok (.if_icmp .ge 33, 3) := by decide +kernel
theorem d_4_tellSorts_10 : decode prog_6_method_10_code 10 = .ok (.iload_n 3, 1) := by decide +kernel
theorem d_4_tellSorts_11 : decode prog_6_method_10_code 11 = .ok (.bipush 24, 2) := by decide +kernel
theorem d_4_tellSorts_13 : decode prog_6_method_10_code 13 = .ok (.if_icmp .ge 27, 3) := by decide +kernel
theorem d_4_tellSorts_16 : decode prog_6_method_10_code 16 = .ok (.aload_n 0, 1) := by decide +kernel
theorem d_4_tellSorts_17 : decode prog_6_method_10_code 17 = .ok (.getfield 18, 3) := by decide +kernel
theorem d_4_tellSorts_20 : decode prog_6_method_10_code 20 = .ok (.iload_n 3, 1) := by decide +kernel
theorem d_4_tellSorts_21 : decode prog_6_method_10_code 21 = .ok (.aload_n 1, 1) := by decide +kernel
theorem d_4_tellSorts_22 : decode prog_6_method_10_code 22 = .ok (.getfield 69, 3) := by decide +kernel
theorem d_4_tellSorts_25 : decode prog_6_method_10_code 25 = .ok (.aload_n 2, 1) := by decide +kernel
theorem d_4_tellSorts_26 : decode prog_6_method_10_code 26 = .ok (.iload_n 3, 1) := by decide +kernel
theorem d_4_tellSorts_27 : decode prog_6_method_10_code 27 = .ok (.invokevirtual 47, 3) := by decide +kernel
theorem d_4_tellSorts_30 : decode prog_6_method_10_code 30 = .ok (.invokevirtual 74, 3) := by decide +kernel
theorem d_4_tellSorts_33 : decode prog_6_method_10_code 33 = .ok (.iastore, 1) := by decide +kernel
theorem d_4_tellSorts_34 : decode prog_6_method_10_code 34 = .ok (.iinc 3 1, 3) := by decide +kernel
theorem d_4_tellSorts_37 : decode prog_6_method_10_code 37 = .ok (.goto (-35), 3) := by decide +kernel
theorem d_4_tellSorts_40 : decode prog_6_method_10_code 40 = .ok (.aload_n 0, 1) := by decide +kernel
theorem d_4_tellSorts_41 : decode prog_6_method_10_code 41 = .ok (.aload_n 1, 1) := by decide +kernel
theorem d_4_tellSorts_42 : decode prog_6_method_10_code 42 = .ok (.aload_n 2, 1) := by decide +kernel
theorem d_4_tellSorts_43 : decode prog_6_method_10_code 43 = .ok (.iconst (-1), 1) := by decide +kernel
theorem d_4_tellSorts_44 : decode prog_6_method_10_code 44 = .ok (.iconst (-1), 1) := by decide +kernel
theorem d_4_tellSorts_45 : decode prog_6_method_10_code 45 = .ok (.invokevirtual 93, 3) := by decide +kernel
theorem d_4_tellSorts_48 : decode prog_6_method_10_code 48 = .ok (.ifCond .eq 11, 3) := by decide +kernel
theorem d_4_tellSorts_51 : decode prog_6_method_10_code 51 = .ok (.aload_n 0, 1) := by decide +kernel
theorem d_4_tellSorts_52 : decode prog_6_method_10_code 52 = .ok (.iconst 0, 1) := by decide +kernel
theorem d_4_tellSorts_53 : decode prog_6_method_10_code 53 = .ok (.putfield 97, 3) := by decide +kernel
theorem d_4_tellSorts_56 : decode prog_6_method_10_code 56 = .ok (.goto 42, 3) := by decide +kernel
theorem d_4_tellSorts_59 : decode prog_6_method_10_code 59 = .ok (.aload_n 0, 1) := by decide +kernel
theorem d_4_tellSorts_60 : decode prog_6_method_10_code 60 = .ok (.aload_n 1, 1) := by decide +kernel
theorem d_4_tellSorts_61 : decode prog_6_method_10_code 61 = .ok (.aload_n 2, 1) := by decide +kernel
theorem d_4_tellSorts_62 : decode prog_6_method_10_code 62 = .ok (.invokevirtual 100, 3) := by decide +kernel
theorem d_4_tellSorts_65 : decode prog_6_method_10_code 65 = .ok (.ifCond .eq 11, 3) := by decide +kernel
theorem d_4_tellSorts_68 : decode prog_6_method_10_code 68 = .ok (.aload_n 0, 1) := by decide +kernel
theorem d_4_tellSorts_69 : decode prog_6_method_10_code 69 = .ok (.iconst 1, 1) := by decide +kernel
theorem d_4_tellSorts_70 : decode prog_6_method_10_code 70 = .ok (.putfield 97, 3) := by decide +kernel
theorem d_4_tellSorts_73 : decode prog_6_method_10_code 73 = .ok (.goto 25, 3) := by decide +kernel
theorem d_4_tellSorts_76 : decode prog_6_method_10_code 76 = .ok (.aload_n 0, 1) := by decide +kernel
theorem d_4_tellSorts_77 : decode prog_6_method_10_code 77 = .ok (.aload_n 1, 1) := by decide +kernel
theorem d_4_tellSorts_78 : decode prog_6_method_10_code 78 = .ok (.aload_n 2, 1) := by decide +kernel
theorem d_4_tellSorts_79 : decode prog_6_method_10_code 79 = .ok (.invokevirtual 104, 3) := by decide +kernel
theorem d_4_tellSorts_82 : decode prog_6_method_10_code 82 = .ok (.ifCond .eq 11, 3) := by decide +kernel
theorem d_4_tellSorts_85 : decode prog_6_method_10_code 85 = .ok (.aload_n 0, 1) := by decide +kernel
theorem d_4_tellSorts_86 : decode prog_6_method_10_code 86 = .ok (.iconst 2, 1) := by decide +kernel
theorem d_4_tellSorts_87 : decode prog_6_method_10_code 87 = .ok (.putfield 97, 3) := by decide +kernel
theorem d_4_tellSorts_90 : decode prog_6_method_10_code 90 = .ok (.goto 8, 3) := by decide +kernel
theorem d_4_tellSorts_93 : decode prog_6_method_10_code 93 = .ok (.aload_n 0, 1) := by decide +kernel
theorem d_4_tellSorts_94 : decode prog_6_method_10_code 94 = .ok (.iconst (-1), 1) := by decide +kernel
theorem d_4_tellSorts_95 : decode prog_6_method_10_code 95 = .ok (.putfield 97, 3) := by decide +kernel
theorem d_4_tellSorts_98 : decode prog_6_method_10_code 98 = .ok (.return_, 1) := by decide +kernel
theorem d_4_sortNeeded_0 : decode prog_6_method_9_code 0 = .ok (.iload_n 1, 1) := by decide +kernel
theorem d_4_sortNeeded_1 : decode prog_6_method_9_code 1 = .ok (.ifCond .ne 10, 3) := by decide +kernel
theorem d_4_sortNeeded_4 : decode prog_6_method_9_code 4 = .ok (.aload_n 0, 1) := by decide +kernel
theorem d_4_sortNeeded_5 : decode prog_6_method_9_code 5 = .ok (.getfield 86, 3) := by decide +kernel
theorem d_4_sortNeeded_8 : decode prog_6_method_9_code 8 = .ok (.goto 7, 3) := by decide +kernel
theorem d_4_sortNeeded_11 : decode prog_6_method_9_code 11 = .ok (.aload_n 0, 1) := by decide +kernel
theorem d_4_sortNeeded_12 : decode prog_6_method_9_code 12 = .ok (.getfield 90, 3) := by decide +kernel
theorem d_4_sortNeeded_15 : decode prog_6_method_9_code 15 = .ok (.ireturn, 1) := by decide +kernel
theorem d_11_told_0 : decode prog_1_method_32_code 0 = .ok (.aload_n 0, 1) := by decide +kernel
theorem d_11_told_1 : decode prog_1_method_32_code 1 = .ok (.getfield 33, 3) := by decide +kernel
theorem d_11_told_4 : decode prog_1_method_32_code 4 = .ok (.aload_n 0, 1) := by decide +kernel
theorem d_11_told_5 : decode prog_1_method_32_code 5 = .ok (.getfield 26, 3) := by decide +kernel
theorem d_11_told_8 : decode prog_1_method_32_code 8 = .ok (.getfield 48, 3) := by decide +kernel
theorem d_11_told_11 : decode prog_1_method_32_code 11 = .ok (.aload_n 0, 1) := by decide +kernel
theorem d_11_told_12 : decode prog_1_method_32_code 12 = .ok (.iload_n 1, 1) := by decide +kernel
theorem d_11_told_13 : decode prog_1_method_32_code 13 = .ok (.invokevirtual 73, 3) := by decide +kernel
theorem d_11_told_16 : decode prog_1_method_32_code 16 = .ok (.getfield 96, 3) := by decide +kernel
theorem d_11_told_19 : decode prog_1_method_32_code 19 = .ok (.invokevirtual 275, 3) := by decide +kernel
theorem d_11_told_22 : decode prog_1_method_32_code 22 = .ok (.iload_n 2, 1) := by decide +kernel
theorem d_11_told_23 : decode prog_1_method_32_code 23 = .ok (.iconst (-1), 1) := by decide +kernel
theorem d_11_told_24 : decode prog_1_method_32_code 24 = .ok (.if_icmp .ne 11, 3) := by decide +kernel
theorem d_11_told_27 : decode prog_1_method_32_code 27 = .ok (.aload_n 0, 1) := by decide +kernel
theorem d_11_told_28 : decode prog_1_method_32_code 28 = .ok (.getfield 33, 3) := by decide +kernel
theorem d_11_told_31 : decode prog_1_method_32_code 31 = .ok (.getfield 279, 3) := by decide +kernel
theorem d_11_told_34 : decode prog_1_method_32_code 34 = .ok (.ireturn, 1) := by decide +kernel
theorem d_11_told_35 : decode prog_1_method_32_code 35 = .ok (.iload_n 2, 1) := by decide +kernel
theorem d_11_told_36 : decode prog_1_method_32_code 36 = .ok (.ifCond .lt 25, 3) := by decide +kernel
theorem d_11_told_39 : decode prog_1_method_32_code 39 = .ok (.iload_n 2, 1) := by decide +kernel
theorem d_11_told_40 : decode prog_1_method_32_code 40 = .ok (.aload_n 0, 1) := by decide +kernel
theorem d_11_told_41 : decode prog_1_method_32_code 41 = .ok (.getfield 33, 3) := by decide +kernel
theorem d_11_told_44 : decode prog_1_method_32_code 44 = .ok (.getfield 279, 3) := by decide +kernel
theorem d_11_told_47 : decode prog_1_method_32_code 47 = .ok (.if_icmp .ge 14, 3) := by decide +kernel
theorem d_11_told_50 : decode prog_1_method_32_code 50 = .ok (.aload_n 0, 1) := by decide +kernel
theorem d_11_told_51 : decode prog_1_method_32_code 51 = .ok (.getfield 33, 3) := by decide +kernel
theorem d_11_told_54 : decode prog_1_method_32_code 54 = .ok (.iload_n 2, 1) := by decide +kernel
theorem d_11_told_55 : decode prog_1_method_32_code 55 = .ok (.invokevirtual 282, 3) := by decide +kernel
theorem d_11_told_58 : decode prog_1_method_32_code 58 = .ok (.goto 4, 3) := by decide +kernel
theorem d_11_told_61 : decode prog_1_method_32_code 61 = .ok (.iconst (-1), 1) := by decide +kernel
theorem d_11_told_62 : decode prog_1_method_32_code 62 = .ok (.ireturn, 1) := by decide +kernel
theorem d_4_unseenBetween_0 : decode prog_6_method_14_code 0 = .ok (.aload_n 1, 1) := by decide +kernel
theorem d_4_unseenBetween_1 : decode prog_6_method_14_code 1 = .ok (.iload_n 3, 1) := by decide +kernel
theorem d_4_unseenBetween_2 : decode prog_6_method_14_code 2 = .ok (.invokevirtual 74, 3) := by decide +kernel
theorem d_4_unseenBetween_5 : decode prog_6_method_14_code 5 = .ok (.istore 5, 2) := by decide +kernel
theorem d_4_unseenBetween_7 : decode prog_6_method_14_code 7 = .ok (.aload_n 1, 1) := by decide +kernel
theorem d_4_unseenBetween_8 : decode prog_6_method_14_code 8 = .ok (.iload 4, 2) := by decide +kernel
theorem d_4_unseenBetween_10 : decode prog_6_method_14_code 10 = .ok (.invokevirtual 74, 3) := by decide +kernel
theorem d_4_unseenBetween_13 : decode prog_6_method_14_code 13 = .ok (.istore 6, 2) := by decide +kernel
theorem d_4_unseenBetween_15 : decode prog_6_method_14_code 15 = .ok (.iconst 0, 1) := by decide +kernel
theorem d_4_unseenBetween_16 : decode prog_6_method_14_code 16 = .ok (.istore 7, 2) := by decide +kernel
theorem d_4_unseenBetween_18 : decode prog_6_method_14_code 18 = .ok (.iload 5, 2) := by decide +kernel
theorem d_4_unseenBetween_20 : decode prog_6_method_14_code 20 = .ok (.iload 6, 2) := by decide +kernel
theorem d_4_unseenBetween_22 : decode prog_6_method_14_code 22 = .ok (.invokestatic 114, 3) := by decide +kernel
theorem d_4_unseenBetween_25 : decode prog_6_method_14_code 25 = .ok (.iconst 1, 1) := by decide +kernel
theorem d_4_unseenBetween_26 : decode prog_6_method_14_code 26 = .ok (.iadd, 1) := by decide +kernel
theorem d_4_unseenBetween_27 : decode prog_6_method_14_code 27 = .ok (.istore 8, 2) := by decide +kernel
theorem d_4_unseenBetween_29 : decode prog_6_method_14_code 29 = .ok (.iload 8, 2) := by decide +kernel
theorem d_4_unseenBetween_31 : decode prog_6_method_14_code 31 = .ok (.iload 5, 2) := by decide +kernel
theorem d_4_unseenBetween_33 : decode prog_6_method_14_code 33 = .ok (.iload 6, 2) := by decide +kernel
theorem d_4_unseenBetween_35 : decode prog_6_method_14_code 35 = .ok (.invokestatic 80, 3) := by decide +kernel
theorem d_4_unseenBetween_38 : decode prog_6_method_14_code 38 = .ok (.if_icmp .ge 25, 3) := by decide +kernel
theorem d_4_unseenBetween_41 : decode prog_6_method_14_code 41 = .ok (.aload_n 2, 1) := by decide +kernel
theorem d_4_unseenBetween_42 : decode prog_6_method_14_code 42 = .ok (.aload_n 1, 1) := by decide +kernel
theorem d_4_unseenBetween_43 : decode prog_6_method_14_code 43 = .ok (.iload 8, 2) := by decide +kernel
theorem d_4_unseenBetween_45 : decode prog_6_method_14_code 45 = .ok (.invokevirtual 47, 3) := by decide +kernel
theorem d_4_unseenBetween_48 : decode prog_6_method_14_code 48 = .ok (.invokevirtual 51, 3) := by decide +kernel
theorem d_4_unseenBetween_51 : decode prog_6_method_14_code 51 = .ok (.ifCond .ne 6, 3) := by decide +kernel
theorem d_4_unseenBetween_54 : decode prog_6_method_14_code 54 = .ok (.iinc 7 1, 3) := by decide +kernel
theorem d_4_unseenBetween_57 : decode prog_6_method_14_code 57 = .ok (.iinc 8 1, 3) := by decide +kernel
theorem d_4_unseenBetween_60 : decode prog_6_method_14_code 60 = .ok (.goto (-31), 3) := by decide +kernel
theorem d_4_unseenBetween_63 : decode prog_6_method_14_code 63 = .ok (.iload 7, 2) := by decide +kernel
theorem d_4_unseenBetween_65 : decode prog_6_method_14_code 65 = .ok (.ireturn, 1) := by decide +kernel
theorem d_11_between_0 : decode prog_1_method_33_code 0 = .ok (.aload_n 0, 1) := by decide +kernel
theorem d_11_between_1 : decode prog_1_method_33_code 1 = .ok (.iload_n 1, 1) := by decide +kernel
theorem d_11_between_2 : decode prog_1_method_33_code 2 = .ok (.invokevirtual 73, 3) := by decide +kernel
theorem d_11_between_5 : decode prog_1_method_33_code 5 = .ok (.astore 4, 2) := by decide +kernel
theorem d_11_between_7 : decode prog_1_method_33_code 7 = .ok (.aload_n 0, 1) := by decide +kernel
theorem d_11_between_8 : decode prog_1_method_33_code 8 = .ok (.aload 4, 2) := by decide +kernel
theorem d_11_between_10 : decode prog_1_method_33_code 10 = .ok (.iload_n 2, 1) := by decide +kernel
theorem d_11_between_11 : decode prog_1_method_33_code 11 = .ok (.invokevirtual 157, 3) := by decide +kernel
theorem d_11_between_14 : decode prog_1_method_33_code 14 = .ok (.istore 5, 2) := by decide +kernel
theorem d_11_between_16 : decode prog_1_method_33_code 16 = .ok (.aload_n 0, 1) := by decide +kernel
theorem d_11_between_17 : decode prog_1_method_33_code 17 = .ok (.aload 4, 2) := by decide +kernel
theorem d_11_between_19 : decode prog_1_method_33_code 19 = .ok (.iload_n 3, 1) := by decide +kernel
theorem d_11_between_20 : decode prog_1_method_33_code 20 = .ok (.invokevirtual 157, 3) := by decide +kernel
theorem d_11_between_23 : decode prog_1_method_33_code 23 = .ok (.istore 6, 2) := by decide +kernel
theorem d_11_between_25 : decode prog_1_method_33_code 25 = .ok (.iload_n 2, 1) := by decide +kernel
theorem d_11_between_26 : decode prog_1_method_33_code 26 = .ok (.iload_n 3, 1) := by decide +kernel
theorem d_11_between_27 : decode prog_1_method_33_code 27 = .ok (.if_icmp .ne 11, 3) := by decide +kernel
theorem d_11_between_30 : decode prog_1_method_33_code 30 = .ok (.new 56, 3) := by decide +kernel
theorem d_11_between_33 : decode prog_1_method_33_code 33 = .ok (.dup, 1) := by decide +kernel
theorem d_11_between_34 : decode prog_1_method_33_code 34 = .ok (.invokespecial 58, 3) := by decide +kernel
theorem d_11_between_37 : decode prog_1_method_33_code 37 = .ok (.athrow, 1) := by decide +kernel
theorem d_11_between_38 : decode prog_1_method_33_code 38 = .ok (.aload_n 0, 1) := by decide +kernel
theorem d_11_between_39 : decode prog_1_method_33_code 39 = .ok (.getfield 33, 3) := by decide +kernel
theorem d_11_between_42 : decode prog_1_method_33_code 42 = .ok (.aload_n 0, 1) := by decide +kernel
theorem d_11_between_43 : decode prog_1_method_33_code 43 = .ok (.getfield 26, 3) := by decide +kernel
theorem d_11_between_46 : decode prog_1_method_33_code 46 = .ok (.getfield 48, 3) := by decide +kernel
theorem d_11_between_49 : decode prog_1_method_33_code 49 = .ok (.getfield 127, 3) := by decide +kernel
theorem d_11_between_52 : decode prog_1_method_33_code 52 = .ok (.aload 4, 2) := by decide +kernel
theorem d_11_between_54 : decode prog_1_method_33_code 54 = .ok (.getfield 96, 3) := by decide +kernel
theorem d_11_between_57 : decode prog_1_method_33_code 57 = .ok (.iload 5, 2) := by decide +kernel
theorem d_11_between_59 : decode prog_1_method_33_code 59 = .ok (.iload 6, 2) := by decide +kernel
theorem d_11_between_61 : decode prog_1_method_33_code 61 = .ok (.invokevirtual 285, 3) := by decide +kernel
theorem d_11_between_64 : decode prog_1_method_33_code 64 = .ok (.ireturn, 1) := by decide +kernel
theorem d_11_needNumbers_0 : decode prog_1_method_52_code 0 = .ok (.aload_n 0, 1) := by decide +kernel
theorem d_11_needNumbers_1 : decode prog_1_method_52_code 1 = .ok (.getfield 26, 3) := by decide +kernel
theorem d_11_needNumbers_4 : decode prog_1_method_52_code 4 = .ok (.getfield 48, 3) := by decide +kernel
theorem d_11_needNumbers_7 : decode prog_1_method_52_code 7 = .ok (.iload_n 1, 1) := by decide +kernel
theorem d_11_needNumbers_8 : decode prog_1_method_52_code 8 = .ok (.invokevirtual 116, 3) := by decide +kernel
theorem d_11_needNumbers_11 : decode prog_1_method_52_code 11 = .ok (.ifCond .eq 11, 3) := by decide +kernel
theorem d_11_needNumbers_14 : decode prog_1_method_52_code 14 = .ok (.new 243, 3) := by decide +kernel
theorem d_11_needNumbers_17 : decode prog_1_method_52_code 17 = .ok (.dup, 1) := by decide +kernel
theorem d_11_needNumbers_18 : decode prog_1_method_52_code 18 = .ok (.invokespecial 245, 3) := by decide +kernel
theorem d_11_needNumbers_21 : decode prog_1_method_52_code 21 = .ok (.athrow, 1) := by decide +kernel
theorem d_11_needNumbers_22 : decode prog_1_method_52_code 22 = .ok (.return_, 1) := by decide +kernel
theorem d_4_sumOf_0 : decode prog_6_method_15_code 0 = .ok (.iconst 0, 1) := by decide +kernel
theorem d_4_sumOf_1 : decode prog_6_method_15_code 1 = .ok (.istore 4, 2) := by decide +kernel
theorem d_4_sumOf_3 : decode prog_6_method_15_code 3 = .ok (.iconst 0, 1) := by decide +kernel
theorem d_4_sumOf_4 : decode prog_6_method_15_code 4 = .ok (.istore 5, 2) := by decide +kernel
theorem d_4_sumOf_6 : decode prog_6_method_15_code 6 = .ok (.iload 5, 2) := by decide +kernel
theorem d_4_sumOf_8 : decode prog_6_method_15_code 8 = .ok (.aload_n 2, 1) := by decide +kernel
theorem d_4_sumOf_9 : decode prog_6_method_15_code 9 = .ok (.invokevirtual 40, 3) := by decide +kernel
theorem d_4_sumOf_12 : decode prog_6_method_15_code 12 = .ok (.if_icmp .ge 40, 3) := by decide +kernel
theorem d_4_sumOf_15 : decode prog_6_method_15_code 15 = .ok (.aload_n 1, 1) := by decide +kernel
theorem d_4_sumOf_16 : decode prog_6_method_15_code 16 = .ok (.aload_n 2, 1) := by decide +kernel
theorem d_4_sumOf_17 : decode prog_6_method_15_code 17 = .ok (.iload 5, 2) := by decide +kernel
theorem d_4_sumOf_19 : decode prog_6_method_15_code 19 = .ok (.invokevirtual 47, 3) := by decide +kernel
theorem d_4_sumOf_22 : decode prog_6_method_15_code 22 = .ok (.iload_n 3, 1) := by decide +kernel
theorem d_4_sumOf_23 : decode prog_6_method_15_code 23 = .ok (.invokevirtual 117, 3) := by decide +kernel
theorem d_4_sumOf_26 : decode prog_6_method_15_code 26 = .ok (.istore 6, 2) := by decide +kernel
theorem d_4_sumOf_28 : decode prog_6_method_15_code 28 = .ok (.iload 4, 2) := by decide +kernel
theorem d_4_sumOf_30 : decode prog_6_method_15_code 30 = .ok (.iload 6, 2) := by decide +kernel
theorem d_4_sumOf_32 : decode prog_6_method_15_code 32 = .ok (.ldc 120, 2) := by decide +kernel
theorem d_4_sumOf_34 : decode prog_6_method_15_code 34 = .ok (.if_icmp .ne 7, 3) := by decide +kernel
theorem d_4_sumOf_37 : decode prog_6_method_15_code 37 = .ok (.iconst 0, 1) := by decide +kernel
theorem d_4_sumOf_38 : decode prog_6_method_15_code 38 = .ok (.goto 5, 3) := by decide +kernel
theorem d_4_sumOf_41 : decode prog_6_method_15_code 41 = .ok (.iload 6, 2) := by decide +kernel
theorem d_4_sumOf_43 : decode prog_6_method_15_code 43 = .ok (.iadd, 1) := by decide +kernel
theorem d_4_sumOf_44 : decode prog_6_method_15_code 44 = .ok (.istore 4, 2) := by decide +kernel
theorem d_4_sumOf_46 : decode prog_6_method_15_code 46 = .ok (.iinc 5 1, 3) := by decide +kernel
theorem d_4_sumOf_49 : decode prog_6_method_15_code 49 = .ok (.goto (-43), 3) := by decide +kernel
theorem d_4_sumOf_52 : decode prog_6_method_15_code 52 = .ok (.iload 4, 2) := by decide +kernel
theorem d_4_sumOf_54 : decode prog_6_method_15_code 54 = .ok (.ireturn, 1) := by decide +kernel
theorem d_11_sum_0 : decode prog_1_method_34_code 0 = .ok (.aload_n 0, 1) := by decide +kernel
theorem d_11_sum_1 : decode prog_1_method_34_code 1 = .ok (.iload_n 1, 1) := by decide +kernel
theorem d_11_sum_2 : decode prog_1_method_34_code 2 = .ok (.invokevirtual 73, 3) := by decide +kernel
theorem d_11_sum_5 : decode prog_1_method_34_code 5 = .ok (.astore_n 3, 1) := by decide +kernel
theorem d_11_sum_6 : decode prog_1_method_34_code 6 = .ok (.aload_n 0, 1) := by decide +kernel
theorem d_11_sum_7 : decode prog_1_method_34_code 7 = .ok (.iload_n 2, 1) := by decide +kernel
theorem d_11_sum_8 : decode prog_1_method_34_code 8 = .ok (.invokevirtual 113, 3) := by decide +kernel
theorem d_11_sum_11 : decode prog_1_method_34_code 11 = .ok (.aload_n 0, 1) := by decide +kernel
theorem d_11_sum_12 : decode prog_1_method_34_code 12 = .ok (.iload_n 2, 1) := by decide +kernel
theorem d_11_sum_13 : decode prog_1_method_34_code 13 = .ok (.invokevirtual 289, 3) := by decide +kernel
theorem d_11_sum_16 : decode prog_1_method_34_code 16 = .ok (.aload_n 0, 1) := by decide +kernel
theorem d_11_sum_17 : decode prog_1_method_34_code 17 = .ok (.getfield 33, 3) := by decide +kernel
theorem d_11_sum_20 : decode prog_1_method_34_code 20 = .ok (.aload_n 0, 1) := by decide +kernel
theorem d_11_sum_21 : decode prog_1_method_34_code 21 = .ok (.getfield 26, 3) := by decide +kernel
theorem d_11_sum_24 : decode prog_1_method_34_code 24 = .ok (.getfield 48, 3) := by decide +kernel
theorem d_11_sum_27 : decode prog_1_method_34_code 27 = .ok (.aload_n 3, 1) := by decide +kernel
theorem d_11_sum_28 : decode prog_1_method_34_code 28 = .ok (.getfield 96, 3) := by decide +kernel
theorem d_11_sum_31 : decode prog_1_method_34_code 31 = .ok (.iload_n 2, 1) := by decide +kernel
theorem d_11_sum_32 : decode prog_1_method_34_code 32 = .ok (.invokevirtual 292, 3) := by decide +kernel
theorem d_11_sum_35 : decode prog_1_method_34_code 35 = .ok (.ireturn, 1) := by decide +kernel
theorem d_4_isAlike_0 : decode prog_6_method_16_code 0 = .ok (.aload_n 1, 1) := by decide +kernel
theorem d_4_isAlike_1 : decode prog_6_method_16_code 1 = .ok (.aload_n 2, 1) := by decide +kernel
theorem d_4_isAlike_2 : decode prog_6_method_16_code 2 = .ok (.iload 4, 2) := by decide +kernel
theorem d_4_isAlike_4 : decode prog_6_method_16_code 4 = .ok (.invokevirtual 47, 3) := by decide +kernel
theorem d_4_isAlike_7 : decode prog_6_method_16_code 7 = .ok (.iload_n 3, 1) := by decide +kernel
theorem d_4_isAlike_8 : decode prog_6_method_16_code 8 = .ok (.invokevirtual 117, 3) := by decide +kernel
theorem d_4_isAlike_11 : decode prog_6_method_16_code 11 = .ok (.aload_n 1, 1) := by decide +kernel
theorem d_4_isAlike_12 : decode prog_6_method_16_code 12 = .ok (.aload_n 2, 1) := by decide +kernel
theorem d_4_isAlike_13 : decode prog_6_method_16_code 13 = .ok (.iload 5, 2) := by decide +kernel
theorem d_4_isAlike_15 : decode prog_6_method_16_code 15 = .ok (.invokevirtual 47, 3) := by decide +kernel
theorem d_4_isAlike_18 : decode prog_6_method_16_code 18 = .ok (.iload_n 3, 1) := by decide +kernel
theorem d_4_isAlike_19 : decode prog_6_method_16_code 19 = .ok (.invokevirtual 117, 3) := by decide +kernel
theorem d_4_isAlike_22 : decode prog_6_method_16_code 22 = .ok (.if_icmp .ne 7, 3) := by decide +kernel
theorem d_4_isAlike_25 : decode prog_6_method_16_code 25 = .ok (.iconst 1, 1) := by decide +kernel
theorem d_4_isAlike_26 : decode prog_6_method_16_code 26 = .ok (.goto 4, 3) := by decide +kernel
theorem d_4_isAlike_29 : decode prog_6_method_16_code 29 = .ok (.iconst 0, 1) := by decide +kernel
theorem d_4_isAlike_30 : decode prog_6_method_16_code 30 = .ok (.ireturn, 1) := by decide +kernel
theorem d_4_isFirstLike_0 : decode prog_6_method_17_code 0 = .ok (.iconst 0, 1) := by decide +kernel
theorem d_4_isFirstLike_1 : decode prog_6_method_17_code 1 = .ok (.istore 5, 2) := by decide +kernel
theorem d_4_isFirstLike_3 : decode prog_6_method_17_code 3 = .ok (.iload 5, 2) := by decide +kernel
theorem d_4_isFirstLike_5 : decode prog_6_method_17_code 5 = .ok (.iload 4, 2) := by decide +kernel
theorem d_4_isFirstLike_7 : decode prog_6_method_17_code 7 = .ok (.if_icmp .ge 25, 3) := by decide +kernel
theorem d_4_isFirstLike_10 : decode prog_6_method_17_code 10 = .ok (.aload_n 0, 1) := by decide +kernel
theorem d_4_isFirstLike_11 : decode prog_6_method_17_code 11 = .ok (.aload_n 1, 1) := by decide +kernel
theorem d_4_isFirstLike_12 : decode prog_6_method_17_code 12 = .ok (.aload_n 2, 1) := by decide +kernel
theorem d_4_isFirstLike_13 : decode prog_6_method_17_code 13 = .ok (.iload_n 3, 1) := by decide +kernel
theorem d_4_isFirstLike_14 : decode prog_6_method_17_code 14 = .ok (.iload 4, 2) := by decide +kernel
theorem d_4_isFirstLike_16 : decode prog_6_method_17_code 16 = .ok (.iload 5, 2) := by decide +kernel
theorem d_4_isFirstLike_18 : decode prog_6_method_17_code 18 = .ok (.invokevirtual 121, 3) := by decide +kernel
theorem d_4_isFirstLike_21 : decode prog_6_method_17_code 21 = .ok (.ifCond .eq 5, 3) := by decide +kernel
theorem d_4_isFirstLike_24 : decode prog_6_method_17_code 24 = .ok (.iconst 0, 1) := by decide +kernel
theorem d_4_isFirstLike_25 : decode prog_6_method_17_code 25 = .ok (.ireturn, 1) := by decide +kernel
theorem d_4_isFirstLike_26 : decode prog_6_method_17_code 26 = .ok (.iinc 5 1, 3) := by decide +kernel
theorem d_4_isFirstLike_29 : decode prog_6_method_17_code 29 = .ok (.goto (-26), 3) := by decide +kernel
theorem d_4_isFirstLike_32 : decode prog_6_method_17_code 32 = .ok (.iconst 1, 1) := by decide +kernel
theorem d_4_isFirstLike_33 : decode prog_6_method_17_code 33 = .ok (.ireturn, 1) := by decide +kernel
theorem d_4_groupsOf_0 : decode prog_6_method_18_code 0 = .ok (.iconst 0, 1) := by decide +kernel
theorem d_4_groupsOf_1 : decode prog_6_method_18_code 1 = .ok (.istore 4, 2) := by decide +kernel
theorem d_4_groupsOf_3 : decode prog_6_method_18_code 3 = .ok (.iconst 0, 1) := by decide +kernel
theorem d_4_groupsOf_4 : decode prog_6_method_18_code 4 = .ok (.istore 5, 2) := by decide +kernel
theorem d_4_groupsOf_6 : decode prog_6_method_18_code 6 = .ok (.iload 5, 2) := by decide +kernel
theorem d_4_groupsOf_8 : decode prog_6_method_18_code 8 = .ok (.aload_n 2, 1) := by decide +kernel
theorem d_4_groupsOf_9 : decode prog_6_method_18_code 9 = .ok (.invokevirtual 40, 3) := by decide +kernel
theorem d_4_groupsOf_12 : decode prog_6_method_18_code 12 = .ok (.if_icmp .ge 24, 3) := by decide +kernel
theorem d_4_groupsOf_15 : decode prog_6_method_18_code 15 = .ok (.aload_n 0, 1) := by decide +kernel
theorem d_4_groupsOf_16 : decode prog_6_method_18_code 16 = .ok (.aload_n 1, 1) := by decide +kernel
theorem d_4_groupsOf_17 : decode prog_6_method_18_code 17 = .ok (.aload_n 2, 1) := by decide +kernel
theorem d_4_groupsOf_18 : decode prog_6_method_18_code 18 = .ok (.iload_n 3, 1) := by decide +kernel
theorem d_4_groupsOf_19 : decode prog_6_method_18_code 19 = .ok (.iload 5, 2) := by decide +kernel
theorem d_4_groupsOf_21 : decode prog_6_method_18_code 21 = .ok (.invokevirtual 125, 3) := by decide +kernel
theorem d_4_groupsOf_24 : decode prog_6_method_18_code 24 = .ok (.ifCond .eq 6, 3) := by decide +kernel
theorem d_4_groupsOf_27 : decode prog_6_method_18_code 27 = .ok (.iinc 4 1, 3) := by decide +kernel
theorem d_4_groupsOf_30 : decode prog_6_method_18_code 30 = .ok (.iinc 5 1, 3) := by decide +kernel
theorem d_4_groupsOf_33 : decode prog_6_method_18_code 33 = .ok (.goto (-27), 3) := by decide +kernel
theorem d_4_groupsOf_36 : decode prog_6_method_18_code 36 = .ok (.iload 4, 2) := by decide +kernel
theorem d_4_groupsOf_38 : decode prog_6_method_18_code 38 = .ok (.ireturn, 1) := by decide +kernel
theorem d_11_kinds_0 : decode prog_1_method_35_code 0 = .ok (.aload_n 0, 1) := by decide +kernel
theorem d_11_kinds_1 : decode prog_1_method_35_code 1 = .ok (.iload_n 1, 1) := by decide +kernel
theorem d_11_kinds_2 : decode prog_1_method_35_code 2 = .ok (.invokevirtual 73, 3) := by decide +kernel
theorem d_11_kinds_5 : decode prog_1_method_35_code 5 = .ok (.astore_n 3, 1) := by decide +kernel
theorem d_11_kinds_6 : decode prog_1_method_35_code 6 = .ok (.aload_n 0, 1) := by decide +kernel
theorem d_11_kinds_7 : decode prog_1_method_35_code 7 = .ok (.iload_n 2, 1) := by decide +kernel
theorem d_11_kinds_8 : decode prog_1_method_35_code 8 = .ok (.invokevirtual 113, 3) := by decide +kernel
theorem d_11_kinds_11 : decode prog_1_method_35_code 11 = .ok (.aload_n 0, 1) := by decide +kernel
theorem d_11_kinds_12 : decode prog_1_method_35_code 12 = .ok (.getfield 33, 3) := by decide +kernel
theorem d_11_kinds_15 : decode prog_1_method_35_code 15 = .ok (.aload_n 0, 1) := by decide +kernel
theorem d_11_kinds_16 : decode prog_1_method_35_code 16 = .ok (.getfield 26, 3) := by decide +kernel
theorem d_11_kinds_19 : decode prog_1_method_35_code 19 = .ok (.getfield 48, 3) := by decide +kernel
theorem d_11_kinds_22 : decode prog_1_method_35_code 22 = .ok (.aload_n 3, 1) := by decide +kernel
theorem d_11_kinds_23 : decode prog_1_method_35_code 23 = .ok (.getfield 96, 3) := by decide +kernel
theorem d_11_kinds_26 : decode prog_1_method_35_code 26 = .ok (.iload_n 2, 1) := by decide +kernel
theorem d_11_kinds_27 : decode prog_1_method_35_code 27 = .ok (.invokevirtual 296, 3) := by decide +kernel
theorem d_11_kinds_30 : decode prog_1_method_35_code 30 = .ok (.ireturn, 1) := by decide +kernel
theorem d_7_writerAt_0 : decode prog_9_method_9_code 0 = .ok (.aload_n 0, 1) := by decide +kernel
theorem d_7_writerAt_1 : decode prog_9_method_9_code 1 = .ok (.iload_n 1, 1) := by decide +kernel
theorem d_7_writerAt_2 : decode prog_9_method_9_code 2 = .ok (.invokevirtual 43, 3) := by decide +kernel
theorem d_7_writerAt_5 : decode prog_9_method_9_code 5 = .ok (.ifCond .eq 24, 3) := by decide +kernel
theorem d_7_writerAt_8 : decode prog_9_method_9_code 8 = .ok (.aload_n 0, 1) := by decide +kernel
theorem d_7_writerAt_9 : decode prog_9_method_9_code 9 = .ok (.iload_n 2, 1) := by decide +kernel
theorem d_7_writerAt_10 : decode prog_9_method_9_code 10 = .ok (.invokevirtual 39, 3) := by decide +kernel
theorem d_7_writerAt_13 : decode prog_9_method_9_code 13 = .ok (.ifCond .eq 16, 3) := by decide +kernel
theorem d_7_writerAt_16 : decode prog_9_method_9_code 16 = .ok (.aload_n 0, 1) := by decide +kernel
theorem d_7_writerAt_17 : decode prog_9_method_9_code 17 = .ok (.getfield 21, 3) := by decide +kernel
theorem d_7_writerAt_20 : decode prog_9_method_9_code 20 = .ok (.iload_n 1, 1) := by decide +kernel
theorem d_7_writerAt_21 : decode prog_9_method_9_code 21 = .ok (.iconst 5, 1) := by decide +kernel
theorem d_7_writerAt_22 : decode prog_9_method_9_code 22 = .ok (.imul, 1) := by decide +kernel
theorem d_7_writerAt_23 : decode prog_9_method_9_code 23 = .ok (.iload_n 2, 1) := by decide +kernel
theorem d_7_writerAt_24 : decode prog_9_method_9_code 24 = .ok (.iadd, 1) := by decide +kernel
theorem d_7_writerAt_25 : decode prog_9_method_9_code 25 = .ok (.iaload, 1) := by decide +kernel
theorem d_7_writerAt_26 : decode prog_9_method_9_code 26 = .ok (.goto 4, 3) := by decide +kernel
theorem d_7_writerAt_29 : decode prog_9_method_9_code 29 = .ok (.iconst (-1), 1) := by decide +kernel
theorem d_7_writerAt_30 : decode prog_9_method_9_code 30 = .ok (.ireturn, 1) := by decide +kernel
theorem d_11_by_0 : decode prog_1_method_36_code 0 = .ok (.aload_n 0, 1) := by decide +kernel
theorem d_11_by_1 : decode prog_1_method_36_code 1 = .ok (.iload_n 1, 1) := by decide +kernel
theorem d_11_by_2 : decode prog_1_method_36_code 2 = .ok (.invokevirtual 120, 3) := by decide +kernel
theorem d_11_by_5 : decode prog_1_method_36_code 5 = .ok (.istore_n 3, 1) := by decide +kernel
theorem d_11_by_6 : decode prog_1_method_36_code 6 = .ok (.aload_n 0, 1) := by decide +kernel
theorem d_11_by_7 : decode prog_1_method_36_code 7 = .ok (.iload_n 2, 1) := by decide +kernel
theorem d_11_by_8 : decode prog_1_method_36_code 8 = .ok (.invokevirtual 113, 3) := by decide +kernel
theorem d_11_by_11 : decode prog_1_method_36_code 11 = .ok (.aload_n 0, 1) := by decide +kernel
theorem d_11_by_12 : decode prog_1_method_36_code 12 = .ok (.getfield 26, 3) := by decide +kernel
theorem d_11_by_15 : decode prog_1_method_36_code 15 = .ok (.getfield 48, 3) := by decide +kernel
theorem d_11_by_18 : decode prog_1_method_36_code 18 = .ok (.iload_n 3, 1) := by decide +kernel
theorem d_11_by_19 : decode prog_1_method_36_code 19 = .ok (.iload_n 2, 1) := by decide +kernel
theorem d_11_by_20 : decode prog_1_method_36_code 20 = .ok (.invokevirtual 299, 3) := by decide +kernel
theorem d_11_by_23 : decode prog_1_method_36_code 23 = .ok (.ireturn, 1) := by decide +kernel
theorem d_4_groupStart_0 : decode prog_6_method_19_code 0 = .ok (.iconst 0, 1) := by decide +kernel
theorem d_4_groupStart_1 : decode prog_6_method_19_code 1 = .ok (.istore 5, 2) := by decide +kernel
theorem d_4_groupStart_3 : decode prog_6_method_19_code 3 = .ok (.iconst 0, 1) := by decide +kernel
theorem d_4_groupStart_4 : decode prog_6_method_19_code 4 = .ok (.istore 6, 2) := by decide +kernel
theorem d_4_groupStart_6 : decode prog_6_method_19_code 6 = .ok (.iload 6, 2) := by decide +kernel
theorem d_4_groupStart_8 : decode prog_6_method_19_code 8 = .ok (.aload_n 2, 1) := by decide +kernel
theorem d_4_groupStart_9 : decode prog_6_method_19_code 9 = .ok (.invokevirtual 40, 3) := by decide +kernel
theorem d_4_groupStart_12 : decode prog_6_method_19_code 12 = .ok (.if_icmp .ge 34, 3) := by decide +kernel
theorem d_4_groupStart_15 : decode prog_6_method_19_code 15 = .ok (.aload_n 0, 1) := by decide +kernel
theorem d_4_groupStart_16 : decode prog_6_method_19_code 16 = .ok (.aload_n 1, 1) := by decide +kernel
theorem d_4_groupStart_17 : decode prog_6_method_19_code 17 = .ok (.aload_n 2, 1) := by decide +kernel
theorem d_4_groupStart_18 : decode prog_6_method_19_code 18 = .ok (.iload_n 3, 1) := by decide +kernel
theorem d_4_groupStart_19 : decode prog_6_method_19_code 19 = .ok (.iload 6, 2) := by decide +kernel
theorem d_4_groupStart_21 : decode prog_6_method_19_code 21 = .ok (.invokevirtual 125, 3) := by decide +kernel
theorem d_4_groupStart_24 : decode prog_6_method_19_code 24 = .ok (.ifCond .eq 16, 3) := by decide +kernel
theorem d_4_groupStart_27 : decode prog_6_method_19_code 27 = .ok (.iload 5, 2) := by decide +kernel
theorem d_4_groupStart_29 : decode prog_6_method_19_code 29 = .ok (.iload 4, 2) := by decide +kernel
theorem d_4_groupStart_31 : decode prog_6_method_19_code 31 = .ok (.if_icmp .ne 6, 3) := by decide +kernel
theorem d_4_groupStart_34 : decode prog_6_method_19_code 34 = .ok (.iload 6, 2) := by decide +kernel
theorem d_4_groupStart_36 : decode prog_6_method_19_code 36 = .ok (.ireturn, 1) := by decide +kernel
theorem d_4_groupStart_37 : decode prog_6_method_19_code 37 = .ok (.iinc 5 1, 3) := by decide +kernel
theorem d_4_groupStart_40 : decode prog_6_method_19_code 40 = .ok (.iinc 6 1, 3) := by decide +kernel
theorem d_4_groupStart_43 : decode prog_6_method_19_code 43 = .ok (.goto (-37), 3) := by decide +kernel
theorem d_4_groupStart_46 : decode prog_6_method_19_code 46 = .ok (.iconst (-1), 1) := by decide +kernel
theorem d_4_groupStart_47 : decode prog_6_method_19_code 47 = .ok (.ireturn, 1) := by decide +kernel
theorem d_11_firstOfGroup_0 : decode prog_1_method_53_code 0 = .ok (.aload_n 0, 1) := by decide +kernel
theorem d_11_firstOfGroup_1 : decode prog_1_method_53_code 1 = .ok (.getfield 33, 3) := by decide +kernel
theorem d_11_firstOfGroup_4 : decode prog_1_method_53_code 4 = .ok (.aload_n 0, 1) := by decide +kernel
theorem d_11_firstOfGroup_5 : decode prog_1_method_53_code 5 = .ok (.getfield 26, 3) := by decide +kernel
theorem d_11_firstOfGroup_8 : decode prog_1_method_53_code 8 = .ok (.getfield 48, 3) := by decide +kernel
theorem d_11_firstOfGroup_11 : decode prog_1_method_53_code 11 = .ok (.aload_n 1, 1) := by decide +kernel
theorem d_11_firstOfGroup_12 : decode prog_1_method_53_code 12 = .ok (.getfield 96, 3) := by decide +kernel
theorem d_11_firstOfGroup_15 : decode prog_1_method_53_code 15 = .ok (.iload_n 2, 1) := by decide +kernel
theorem d_11_firstOfGroup_16 : decode prog_1_method_53_code 16 = .ok (.iload_n 3, 1) := by decide +kernel
theorem d_11_firstOfGroup_17 : decode prog_1_method_53_code 17 = .ok (.invokevirtual 362, 3) := by decide +kernel
theorem d_11_firstOfGroup_20 : decode prog_1_method_53_code 20 = .ok (.istore 4, 2) := by decide +kernel
theorem d_11_firstOfGroup_22 : decode prog_1_method_53_code 22 = .ok (.iload 4, 2) := by decide +kernel
theorem d_11_firstOfGroup_24 : decode prog_1_method_53_code 24 = .ok (.iconst (-1), 1) := by decide +kernel
theorem d_11_firstOfGroup_25 : decode prog_1_method_53_code 25 = .ok (.if_icmp .ne 11, 3) := by decide +kernel
theorem d_11_firstOfGroup_28 : decode prog_1_method_53_code 28 = .ok (.new 56, 3) := by decide +kernel
theorem d_11_firstOfGroup_31 : decode prog_1_method_53_code 31 = .ok (.dup, 1) := by decide +kernel
theorem d_11_firstOfGroup_32 : decode prog_1_method_53_code 32 = .ok (.invokespecial 58, 3) := by decide +kernel
theorem d_11_firstOfGroup_35 : decode prog_1_method_53_code 35 = .ok (.athrow, 1) := by decide +kernel
theorem d_11_firstOfGroup_36 : decode prog_1_method_53_code 36 = .ok (.iload 4, 2) := by decide +kernel
theorem d_11_firstOfGroup_38 : decode prog_1_method_53_code 38 = .ok (.ireturn, 1) := by decide +kernel
theorem d_4_rowsLike_0 : decode prog_6_method_20_code 0 = .ok (.iconst 0, 1) := by decide +kernel
theorem d_4_rowsLike_1 : decode prog_6_method_20_code 1 = .ok (.istore 5, 2) := by decide +kernel
theorem d_4_rowsLike_3 : decode prog_6_method_20_code 3 = .ok (.iload 4, 2) := by decide +kernel
theorem d_4_rowsLike_5 : decode prog_6_method_20_code 5 = .ok (.istore 6, 2) := by decide +kernel
theorem d_4_rowsLike_7 : decode prog_6_method_20_code 7 = .ok (.iload 6, 2) := by decide +kernel
theorem d_4_rowsLike_9 : decode prog_6_method_20_code 9 = .ok (.aload_n 2, 1) := by decide +kernel
theorem d_4_rowsLike_10 : decode prog_6_method_20_code 10 = .ok (.invokevirtual 40, 3) := by decide +kernel
theorem d_4_rowsLike_13 : decode prog_6_method_20_code 13 = .ok (.if_icmp .ge 26, 3) := by decide +kernel
theorem d_4_rowsLike_16 : decode prog_6_method_20_code 16 = .ok (.aload_n 0, 1) := by decide +kernel
theorem d_4_rowsLike_17 : decode prog_6_method_20_code 17 = .ok (.aload_n 1, 1) := by decide +kernel
theorem d_4_rowsLike_18 : decode prog_6_method_20_code 18 = .ok (.aload_n 2, 1) := by decide +kernel
theorem d_4_rowsLike_19 : decode prog_6_method_20_code 19 = .ok (.iload_n 3, 1) := by decide +kernel
theorem d_4_rowsLike_20 : decode prog_6_method_20_code 20 = .ok (.iload 6, 2) := by decide +kernel
theorem d_4_rowsLike_22 : decode prog_6_method_20_code 22 = .ok (.iload 4, 2) := by decide +kernel
theorem d_4_rowsLike_24 : decode prog_6_method_20_code 24 = .ok (.invokevirtual 121, 3) := by decide +kernel
theorem d_4_rowsLike_27 : decode prog_6_method_20_code 27 = .ok (.ifCond .eq 6, 3) := by decide +kernel
theorem d_4_rowsLike_30 : decode prog_6_method_20_code 30 = .ok (.iinc 5 1, 3) := by decide +kernel
theorem d_4_rowsLike_33 : decode prog_6_method_20_code 33 = .ok (.iinc 6 1, 3) := by decide +kernel
theorem d_4_rowsLike_36 : decode prog_6_method_20_code 36 = .ok (.goto (-29), 3) := by decide +kernel
theorem d_4_rowsLike_39 : decode prog_6_method_20_code 39 = .ok (.iload 5, 2) := by decide +kernel
theorem d_4_rowsLike_41 : decode prog_6_method_20_code 41 = .ok (.ireturn, 1) := by decide +kernel
theorem d_4_lastLike_0 : decode prog_6_method_21_code 0 = .ok (.iload 4, 2) := by decide +kernel
theorem d_4_lastLike_2 : decode prog_6_method_21_code 2 = .ok (.istore 5, 2) := by decide +kernel
theorem d_4_lastLike_4 : decode prog_6_method_21_code 4 = .ok (.iload 4, 2) := by decide +kernel
theorem d_4_lastLike_6 : decode prog_6_method_21_code 6 = .ok (.istore 6, 2) := by decide +kernel
theorem d_4_lastLike_8 : decode prog_6_method_21_code 8 = .ok (.iload 6, 2) := by decide +kernel
theorem d_4_lastLike_10 : decode prog_6_method_21_code 10 = .ok (.aload_n 2, 1) := by decide +kernel
theorem d_4_lastLike_11 : decode prog_6_method_21_code 11 = .ok (.invokevirtual 40, 3) := by decide +kernel
theorem d_4_lastLike_14 : decode prog_6_method_21_code 14 = .ok (.if_icmp .ge 27, 3) := by decide +kernel
theorem d_4_lastLike_17 : decode prog_6_method_21_code 17 = .ok (.aload_n 0, 1) := by decide +kernel
theorem d_4_lastLike_18 : decode prog_6_method_21_code 18 = .ok (.aload_n 1, 1) := by decide +kernel
theorem d_4_lastLike_19 : decode prog_6_method_21_code 19 = .ok (.aload_n 2, 1) := by decide +kernel
theorem d_4_lastLike_20 : decode prog_6_method_21_code 20 = .ok (.iload_n 3, 1) := by decide +kernel
theorem d_4_lastLike_21 : decode prog_6_method_21_code 21 = .ok (.iload 6, 2) := by decide +kernel
theorem d_4_lastLike_23 : decode prog_6_method_21_code 23 = .ok (.iload 4, 2) := by decide +kernel
theorem d_4_lastLike_25 : decode prog_6_method_21_code 25 = .ok (.invokevirtual 121, 3) := by decide +kernel
theorem d_4_lastLike_28 : decode prog_6_method_21_code 28 = .ok (.ifCond .eq 7, 3) := by decide +kernel
theorem d_4_lastLike_31 : decode prog_6_method_21_code 31 = .ok (.iload 6, 2) := by decide +kernel
theorem d_4_lastLike_33 : decode prog_6_method_21_code 33 = .ok (.istore 5, 2) := by decide +kernel
theorem d_4_lastLike_35 : decode prog_6_method_21_code 35 = .ok (.iinc 6 1, 3) := by decide +kernel
theorem d_4_lastLike_38 : decode prog_6_method_21_code 38 = .ok (.goto (-30), 3) := by decide +kernel
theorem d_4_lastLike_41 : decode prog_6_method_21_code 41 = .ok (.iload 5, 2) := by decide +kernel
theorem d_4_lastLike_43 : decode prog_6_method_21_code 43 = .ok (.ireturn, 1) := by decide +kernel
theorem d_11_group_0 : decode prog_1_method_37_code 0 = .ok (.aload_n 0, 1) := by decide +kernel
theorem d_11_group_1 : decode prog_1_method_37_code 1 = .ok (.iload_n 1, 1) := by decide +kernel
theorem d_11_group_2 : decode prog_1_method_37_code 2 = .ok (.invokevirtual 73, 3) := by decide +kernel
theorem d_11_group_5 : decode prog_1_method_37_code 5 = .ok (.astore 5, 2) := by decide +kernel
theorem d_11_group_7 : decode prog_1_method_37_code 7 = .ok (.aload_n 0, 1) := by decide +kernel
theorem d_11_group_8 : decode prog_1_method_37_code 8 = .ok (.iload_n 2, 1) := by decide +kernel
theorem d_11_group_9 : decode prog_1_method_37_code 9 = .ok (.invokevirtual 113, 3) := by decide +kernel
theorem d_11_group_12 : decode prog_1_method_37_code 12 = .ok (.iload 4, 2) := by decide +kernel
theorem d_11_group_14 : decode prog_1_method_37_code 14 = .ok (.ifCond .lt 9, 3) := by decide +kernel
theorem d_11_group_17 : decode prog_1_method_37_code 17 = .ok (.iload 4, 2) := by decide +kernel
theorem d_11_group_19 : decode prog_1_method_37_code 19 = .ok (.iconst 3, 1) := by decide +kernel
theorem d_11_group_20 : decode prog_1_method_37_code 20 = .ok (.if_icmp .le 11, 3) := by decide +kernel
theorem d_11_group_23 : decode prog_1_method_37_code 23 = .ok (.new 151, 3) := by decide +kernel
theorem d_11_group_26 : decode prog_1_method_37_code 26 = .ok (.dup, 1) := by decide +kernel
theorem d_11_group_27 : decode prog_1_method_37_code 27 = .ok (.invokespecial 153, 3) := by decide +kernel
theorem d_11_group_30 : decode prog_1_method_37_code 30 = .ok (.athrow, 1) := by decide +kernel
theorem d_11_group_31 : decode prog_1_method_37_code 31 = .ok (.aload_n 0, 1) := by decide +kernel
theorem d_11_group_32 : decode prog_1_method_37_code 32 = .ok (.aload 5, 2) := by decide +kernel
theorem d_11_group_34 : decode prog_1_method_37_code 34 = .ok (.iload_n 2, 1) := by decide +kernel
theorem d_11_group_35 : decode prog_1_method_37_code 35 = .ok (.iload_n 3, 1) := by decide +kernel
theorem d_11_group_36 : decode prog_1_method_37_code 36 = .ok (.invokevirtual 302, 3) := by decide +kernel
theorem d_11_group_39 : decode prog_1_method_37_code 39 = .ok (.istore 6, 2) := by decide +kernel
theorem d_11_group_41 : decode prog_1_method_37_code 41 = .ok (.iload 4, 2) := by decide +kernel
theorem d_11_group_43 : decode prog_1_method_37_code 43 = .ok (.tableswitch 73 0 2 #[25, 47, 70], 25) := by decide +kernel
theorem d_11_group_68 : decode prog_1_method_37_code 68 = .ok (.aload_n 0, 1) := by decide +kernel
theorem d_11_group_69 : decode prog_1_method_37_code 69 = .ok (.getfield 26, 3) := by decide +kernel
theorem d_11_group_72 : decode prog_1_method_37_code 72 = .ok (.getfield 48, 3) := by decide +kernel
theorem d_11_group_75 : decode prog_1_method_37_code 75 = .ok (.aload 5, 2) := by decide +kernel
theorem d_11_group_77 : decode prog_1_method_37_code 77 = .ok (.getfield 96, 3) := by decide +kernel
theorem d_11_group_80 : decode prog_1_method_37_code 80 = .ok (.iload 6, 2) := by decide +kernel
theorem d_11_group_82 : decode prog_1_method_37_code 82 = .ok (.invokevirtual 130, 3) := by decide +kernel
theorem d_11_group_85 : decode prog_1_method_37_code 85 = .ok (.iload_n 2, 1) := by decide +kernel
theorem d_11_group_86 : decode prog_1_method_37_code 86 = .ok (.invokevirtual 123, 3) := by decide +kernel
theorem d_11_group_89 : decode prog_1_method_37_code 89 = .ok (.ireturn, 1) := by decide +kernel
theorem d_11_group_90 : decode prog_1_method_37_code 90 = .ok (.aload_n 0, 1) := by decide +kernel
theorem d_11_group_91 : decode prog_1_method_37_code 91 = .ok (.getfield 33, 3) := by decide +kernel
theorem d_11_group_94 : decode prog_1_method_37_code 94 = .ok (.aload_n 0, 1) := by decide +kernel
theorem d_11_group_95 : decode prog_1_method_37_code 95 = .ok (.getfield 26, 3) := by decide +kernel
theorem d_11_group_98 : decode prog_1_method_37_code 98 = .ok (.getfield 48, 3) := by decide +kernel
theorem d_11_group_101 : decode prog_1_method_37_code 101 = .ok (.aload 5, 2) := by decide +kernel
theorem d_11_group_103 : decode prog_1_method_37_code 103 = .ok (.getfield 96, 3) := by decide +kernel
theorem d_11_group_106 : decode prog_1_method_37_code 106 = .ok (.iload_n 2, 1) := by decide +kernel
theorem d_11_group_107 : decode prog_1_method_37_code 107 = .ok (.iload 6, 2) := by decide +kernel
theorem d_11_group_109 : decode prog_1_method_37_code 109 = .ok (.invokevirtual 306, 3) := by decide +kernel
theorem d_11_group_112 : decode prog_1_method_37_code 112 = .ok (.ireturn, 1) := by decide +kernel
theorem d_11_group_113 : decode prog_1_method_37_code 113 = .ok (.iload 6, 2) := by decide +kernel
theorem d_11_group_115 : decode prog_1_method_37_code 115 = .ok (.ireturn, 1) := by decide +kernel
theorem d_11_group_116 : decode prog_1_method_37_code 116 = .ok (.aload_n 0, 1) := by decide +kernel
theorem d_11_group_117 : decode prog_1_method_37_code 117 = .ok (.getfield 33, 3) := by decide +kernel
theorem d_11_group_120 : decode prog_1_method_37_code 120 = .ok (.aload_n 0, 1) := by decide +kernel
theorem d_11_group_121 : decode prog_1_method_37_code 121 = .ok (.getfield 26, 3) := by decide +kernel
theorem d_11_group_124 : decode prog_1_method_37_code 124 = .ok (.getfield 48, 3) := by decide +kernel
theorem d_11_group_127 : decode prog_1_method_37_code 127 = .ok (.aload 5, 2) := by decide +kernel
theorem d_11_group_129 : decode prog_1_method_37_code 129 = .ok (.getfield 96, 3) := by decide +kernel
theorem d_11_group_132 : decode prog_1_method_37_code 132 = .ok (.iload_n 2, 1) := by decide +kernel
theorem d_11_group_133 : decode prog_1_method_37_code 133 = .ok (.iload 6, 2) := by decide +kernel
theorem d_11_group_135 : decode prog_1_method_37_code 135 = .ok (.invokevirtual 310, 3) := by decide +kernel
theorem d_11_group_138 : decode prog_1_method_37_code 138 = .ok (.ireturn, 1) := by decide +kernel
theorem d_4_sumLike_0 : decode prog_6_method_22_code 0 = .ok (.iconst 0, 1) := by decide +kernel
theorem d_4_sumLike_1 : decode prog_6_method_22_code 1 = .ok (.istore 6, 2) := by decide +kernel
theorem d_4_sumLike_3 : decode prog_6_method_22_code 3 = .ok (.iload 4, 2) := by decide +kernel
theorem d_4_sumLike_5 : decode prog_6_method_22_code 5 = .ok (.istore 7, 2) := by decide +kernel
theorem d_4_sumLike_7 : decode prog_6_method_22_code 7 = .ok (.iload 7, 2) := by decide +kernel
theorem d_4_sumLike_9 : decode prog_6_method_22_code 9 = .ok (.aload_n 2, 1) := by decide +kernel
theorem d_4_sumLike_10 : decode prog_6_method_22_code 10 = .ok (.invokevirtual 40, 3) := by decide +kernel
theorem d_4_sumLike_13 : decode prog_6_method_22_code 13 = .ok (.if_icmp .ge 51, 3) := by decide +kernel
theorem d_4_sumLike_16 : decode prog_6_method_22_code 16 = .ok (.aload_n 1, 1) := by decide +kernel
theorem d_4_sumLike_17 : decode prog_6_method_22_code 17 = .ok (.aload_n 2, 1) := by decide +kernel
theorem d_4_sumLike_18 : decode prog_6_method_22_code 18 = .ok (.iload 7, 2) := by decide +kernel
theorem d_4_sumLike_20 : decode prog_6_method_22_code 20 = .ok (.invokevirtual 47, 3) := by decide +kernel
theorem d_4_sumLike_23 : decode prog_6_method_22_code 23 = .ok (.iload 5, 2) := by decide +kernel
theorem d_4_sumLike_25 : decode prog_6_method_22_code 25 = .ok (.invokevirtual 117, 3) := by decide +kernel
theorem d_4_sumLike_28 : decode prog_6_method_22_code 28 = .ok (.istore 8, 2) := by decide +kernel
theorem d_4_sumLike_30 : decode prog_6_method_22_code 30 = .ok (.iload 8, 2) := by decide +kernel
theorem d_4_sumLike_32 : decode prog_6_method_22_code 32 = .ok (.ldc 120, 2) := by decide +kernel
theorem d_4_sumLike_34 : decode prog_6_method_22_code 34 = .ok (.if_icmp .eq 24, 3) := by decide +kernel
theorem d_4_sumLike_37 : decode prog_6_method_22_code 37 = .ok (.aload_n 0, 1) := by decide +kernel
theorem d_4_sumLike_38 : decode prog_6_method_22_code 38 = .ok (.aload_n 1, 1) := by decide +kernel
theorem d_4_sumLike_39 : decode prog_6_method_22_code 39 = .ok (.aload_n 2, 1) := by decide +kernel
theorem d_4_sumLike_40 : decode prog_6_method_22_code 40 = .ok (.iload_n 3, 1) := by decide +kernel
theorem d_4_sumLike_41 : decode prog_6_method_22_code 41 = .ok (.iload 7, 2) := by decide +kernel
theorem d_4_sumLike_43 : decode prog_6_method_22_code 43 = .ok (.iload 4, 2) := by decide +kernel
theorem d_4_sumLike_45 : decode prog_6_method_22_code 45 = .ok (.invokevirtual 121, 3) := by decide +kernel
theorem d_4_sumLike_48 : decode prog_6_method_22_code 48 = .ok (.ifCond .eq 10, 3) := by decide +kernel
theorem d_4_sumLike_51 : decode prog_6_method_22_code 51 = .ok (.iload 6, 2) := by decide +kernel
theorem d_4_sumLike_53 : decode prog_6_method_22_code 53 = .ok (.iload 8, 2) := by decide +kernel
theorem d_4_sumLike_55 : decode prog_6_method_22_code 55 = .ok (.iadd, 1) := by decide +kernel
theorem d_4_sumLike_56 : decode prog_6_method_22_code 56 = .ok (.istore 6, 2) := by decide +kernel
theorem d_4_sumLike_58 : decode prog_6_method_22_code 58 = .ok (.iinc 7 1, 3) := by decide +kernel
theorem d_4_sumLike_61 : decode prog_6_method_22_code 61 = .ok (.goto (-54), 3) := by decide +kernel
theorem d_4_sumLike_64 : decode prog_6_method_22_code 64 = .ok (.iload 6, 2) := by decide +kernel
theorem d_4_sumLike_66 : decode prog_6_method_22_code 66 = .ok (.ireturn, 1) := by decide +kernel
theorem d_11_total_0 : decode prog_1_method_38_code 0 = .ok (.aload_n 0, 1) := by decide +kernel
theorem d_11_total_1 : decode prog_1_method_38_code 1 = .ok (.iload_n 1, 1) := by decide +kernel
theorem d_11_total_2 : decode prog_1_method_38_code 2 = .ok (.invokevirtual 73, 3) := by decide +kernel
theorem d_11_total_5 : decode prog_1_method_38_code 5 = .ok (.astore 5, 2) := by decide +kernel
theorem d_11_total_7 : decode prog_1_method_38_code 7 = .ok (.aload_n 0, 1) := by decide +kernel
theorem d_11_total_8 : decode prog_1_method_38_code 8 = .ok (.iload_n 2, 1) := by decide +kernel
theorem d_11_total_9 : decode prog_1_method_38_code 9 = .ok (.invokevirtual 113, 3) := by decide +kernel
theorem d_11_total_12 : decode prog_1_method_38_code 12 = .ok (.aload_n 0, 1) := by decide +kernel
theorem d_11_total_13 : decode prog_1_method_38_code 13 = .ok (.iload 4, 2) := by decide +kernel
theorem d_11_total_15 : decode prog_1_method_38_code 15 = .ok (.invokevirtual 113, 3) := by decide +kernel
theorem d_11_total_18 : decode prog_1_method_38_code 18 = .ok (.aload_n 0, 1) := by decide +kernel
theorem d_11_total_19 : decode prog_1_method_38_code 19 = .ok (.iload 4, 2) := by decide +kernel
theorem d_11_total_21 : decode prog_1_method_38_code 21 = .ok (.invokevirtual 289, 3) := by decide +kernel
theorem d_11_total_24 : decode prog_1_method_38_code 24 = .ok (.aload_n 0, 1) := by decide +kernel
theorem d_11_total_25 : decode prog_1_method_38_code 25 = .ok (.aload 5, 2) := by decide +kernel
theorem d_11_total_27 : decode prog_1_method_38_code 27 = .ok (.iload_n 2, 1) := by decide +kernel
theorem d_11_total_28 : decode prog_1_method_38_code 28 = .ok (.iload_n 3, 1) := by decide +kernel
theorem d_11_total_29 : decode prog_1_method_38_code 29 = .ok (.invokevirtual 302, 3) := by decide +kernel
theorem d_11_total_32 : decode prog_1_method_38_code 32 = .ok (.istore 6, 2) := by decide +kernel
theorem d_11_total_34 : decode prog_1_method_38_code 34 = .ok (.aload_n 0, 1) := by decide +kernel
theorem d_11_total_35 : decode prog_1_method_38_code 35 = .ok (.getfield 33, 3) := by decide +kernel
theorem d_11_total_38 : decode prog_1_method_38_code 38 = .ok (.aload_n 0, 1) := by decide +kernel
theorem d_11_total_39 : decode prog_1_method_38_code 39 = .ok (.getfield 26, 3) := by decide +kernel
theorem d_11_total_42 : decode prog_1_method_38_code 42 = .ok (.getfield 48, 3) := by decide +kernel
theorem d_11_total_45 : decode prog_1_method_38_code 45 = .ok (.aload 5, 2) := by decide +kernel
theorem d_11_total_47 : decode prog_1_method_38_code 47 = .ok (.getfield 96, 3) := by decide +kernel
theorem d_11_total_50 : decode prog_1_method_38_code 50 = .ok (.iload_n 2, 1) := by decide +kernel
theorem d_11_total_51 : decode prog_1_method_38_code 51 = .ok (.iload 6, 2) := by decide +kernel
theorem d_11_total_53 : decode prog_1_method_38_code 53 = .ok (.iload 4, 2) := by decide +kernel
theorem d_11_total_55 : decode prog_1_method_38_code 55 = .ok (.invokevirtual 313, 3) := by decide +kernel
theorem d_11_total_58 : decode prog_1_method_38_code 58 = .ok (.ireturn, 1) := by decide +kernel
theorem d_4_middleOf_0 : decode prog_6_method_23_code 0 = .ok (.iconst 0, 1) := by decide +kernel
theorem d_4_middleOf_1 : decode prog_6_method_23_code 1 = .ok (.istore 4, 2) := by decide +kernel
theorem d_4_middleOf_3 : decode prog_6_method_23_code 3 = .ok (.iconst 0, 1) := by decide +kernel
theorem d_4_middleOf_4 : decode prog_6_method_23_code 4 = .ok (.istore 5, 2) := by decide +kernel
theorem d_4_middleOf_6 : decode prog_6_method_23_code 6 = .ok (.iload 5, 2) := by decide +kernel
theorem d_4_middleOf_8 : decode prog_6_method_23_code 8 = .ok (.aload_n 2, 1) := by decide +kernel
theorem d_4_middleOf_9 : decode prog_6_method_23_code 9 = .ok (.invokevirtual 40, 3) := by decide +kernel
theorem d_4_middleOf_12 : decode prog_6_method_23_code 12 = .ok (.if_icmp .ge 93, 3) := by decide +kernel
theorem d_4_middleOf_15 : decode prog_6_method_23_code 15 = .ok (.iload 4, 2) := by decide +kernel
theorem d_4_middleOf_17 : decode prog_6_method_23_code 17 = .ok (.bipush 24, 2) := by decide +kernel
theorem d_4_middleOf_19 : decode prog_6_method_23_code 19 = .ok (.if_icmp .ge 86, 3) := by decide +kernel
theorem d_4_middleOf_22 : decode prog_6_method_23_code 22 = .ok (.aload_n 1, 1) := by decide +kernel
theorem d_4_middleOf_23 : decode prog_6_method_23_code 23 = .ok (.aload_n 2, 1) := by decide +kernel
theorem d_4_middleOf_24 : decode prog_6_method_23_code 24 = .ok (.iload 5, 2) := by decide +kernel
theorem d_4_middleOf_26 : decode prog_6_method_23_code 26 = .ok (.invokevirtual 47, 3) := by decide +kernel
theorem d_4_middleOf_29 : decode prog_6_method_23_code 29 = .ok (.iload_n 3, 1) := by decide +kernel
theorem d_4_middleOf_30 : decode prog_6_method_23_code 30 = .ok (.invokevirtual 117, 3) := by decide +kernel
theorem d_4_middleOf_33 : decode prog_6_method_23_code 33 = .ok (.istore 6, 2) := by decide +kernel
theorem d_4_middleOf_35 : decode prog_6_method_23_code 35 = .ok (.iload 6, 2) := by decide +kernel
theorem d_4_middleOf_37 : decode prog_6_method_23_code 37 = .ok (.ldc 120, 2) := by decide +kernel
theorem d_4_middleOf_39 : decode prog_6_method_23_code 39 = .ok (.if_icmp .eq 60, 3) := by decide +kernel
theorem d_4_middleOf_42 : decode prog_6_method_23_code 42 = .ok (.iload 4, 2) := by decide +kernel
theorem d_4_middleOf_44 : decode prog_6_method_23_code 44 = .ok (.istore 7, 2) := by decide +kernel
theorem d_4_middleOf_46 : decode prog_6_method_23_code 46 = .ok (.iload 7, 2) := by decide +kernel
theorem d_4_middleOf_48 : decode prog_6_method_23_code 48 = .ok (.ifCond .le 39, 3) := by decide +kernel
theorem d_4_middleOf_51 : decode prog_6_method_23_code 51 = .ok (.aload_n 0, 1) := by decide +kernel
theorem d_4_middleOf_52 : decode prog_6_method_23_code 52 = .ok (.getfield 25, 3) := by decide +kernel
theorem d_4_middleOf_55 : decode prog_6_method_23_code 55 = .ok (.iload 7, 2) := by decide +kernel
theorem d_4_middleOf_57 : decode prog_6_method_23_code 57 = .ok (.iconst 1, 1) := by decide +kernel
theorem d_4_middleOf_58 : decode prog_6_method_23_code 58 = .ok (.isub, 1) := by decide +kernel
theorem d_4_middleOf_59 : decode prog_6_method_23_code 59 = .ok (.iaload, 1) := by decide +kernel
theorem d_4_middleOf_60 : decode prog_6_method_23_code 60 = .ok (.iload 6, 2) := by decide +kernel
theorem d_4_middleOf_62 : decode prog_6_method_23_code 62 = .ok (.if_icmp .le 25, 3) := by decide +kernel
theorem d_4_middleOf_65 : decode prog_6_method_23_code 65 = .ok (.aload_n 0, 1) := by decide +kernel
theorem d_4_middleOf_66 : decode prog_6_method_23_code 66 = .ok (.getfield 25, 3) := by decide +kernel
theorem d_4_middleOf_69 : decode prog_6_method_23_code 69 = .ok (.iload 7, 2) := by decide +kernel
theorem d_4_middleOf_71 : decode prog_6_method_23_code 71 = .ok (.aload_n 0, 1) := by decide +kernel
theorem d_4_middleOf_72 : decode prog_6_method_23_code 72 = .ok (.getfield 25, 3) := by decide +kernel
theorem d_4_middleOf_75 : decode prog_6_method_23_code 75 = .ok (.iload 7, 2) := by decide +kernel
theorem d_4_middleOf_77 : decode prog_6_method_23_code 77 = .ok (.iconst 1, 1) := by decide +kernel
theorem d_4_middleOf_78 : decode prog_6_method_23_code 78 = .ok (.isub, 1) := by decide +kernel
theorem d_4_middleOf_79 : decode prog_6_method_23_code 79 = .ok (.iaload, 1) := by decide +kernel
theorem d_4_middleOf_80 : decode prog_6_method_23_code 80 = .ok (.iastore, 1) := by decide +kernel
theorem d_4_middleOf_81 : decode prog_6_method_23_code 81 = .ok (.iinc 7 (-1), 3) := by decide +kernel
theorem d_4_middleOf_84 : decode prog_6_method_23_code 84 = .ok (.goto (-38), 3) := by decide +kernel
theorem d_4_middleOf_87 : decode prog_6_method_23_code 87 = .ok (.aload_n 0, 1) := by decide +kernel
theorem d_4_middleOf_88 : decode prog_6_method_23_code 88 = .ok (.getfield 25, 3) := by decide +kernel
theorem d_4_middleOf_91 : decode prog_6_method_23_code 91 = .ok (.iload 7, 2) := by decide +kernel
theorem d_4_middleOf_93 : decode prog_6_method_23_code 93 = .ok (.iload 6, 2) := by decide +kernel
theorem d_4_middleOf_95 : decode prog_6_method_23_code 95 = .ok (.iastore, 1) := by decide +kernel
theorem d_4_middleOf_96 : decode prog_6_method_23_code 96 = .ok (.iinc 4 1, 3) := by decide +kernel
theorem d_4_middleOf_99 : decode prog_6_method_23_code 99 = .ok (.iinc 5 1, 3) := by decide +kernel
theorem d_4_middleOf_102 : decode prog_6_method_23_code 102 = .ok (.goto (-96), 3) := by decide +kernel
theorem d_4_middleOf_105 : decode prog_6_method_23_code 105 = .ok (.iload 4, 2) := by decide +kernel
theorem d_4_middleOf_107 : decode prog_6_method_23_code 107 = .ok (.ifCond .ne 8, 3) := by decide +kernel
theorem d_4_middleOf_110 : decode prog_6_method_23_code 110 = .ok (.ldc 120, 2) := by decide +kernel
theorem d_4_middleOf_112 : decode prog_6_method_23_code 112 = .ok (.goto 14, 3) := by decide +kernel
theorem d_4_middleOf_115 : decode prog_6_method_23_code 115 = .ok (.aload_n 0, 1) := by decide +kernel
theorem d_4_middleOf_116 : decode prog_6_method_23_code 116 = .ok (.getfield 25, 3) := by decide +kernel
theorem d_4_middleOf_119 : decode prog_6_method_23_code 119 = .ok (.iload 4, 2) := by decide +kernel
theorem d_4_middleOf_121 : decode prog_6_method_23_code 121 = .ok (.iconst 1, 1) := by decide +kernel
theorem d_4_middleOf_122 : decode prog_6_method_23_code 122 = .ok (.isub, 1) := by decide +kernel
theorem d_4_middleOf_123 : decode prog_6_method_23_code 123 = .ok (.iconst 2, 1) := by decide +kernel
theorem d_4_middleOf_124 : decode prog_6_method_23_code 124 = .ok (.idiv, 1) := by decide +kernel
theorem d_4_middleOf_125 : decode prog_6_method_23_code 125 = .ok (.iaload, 1) := by decide +kernel
theorem d_4_middleOf_126 : decode prog_6_method_23_code 126 = .ok (.ireturn, 1) := by decide +kernel
theorem d_11_middle_0 : decode prog_1_method_39_code 0 = .ok (.aload_n 0, 1) := by decide +kernel
theorem d_11_middle_1 : decode prog_1_method_39_code 1 = .ok (.iload_n 1, 1) := by decide +kernel
theorem d_11_middle_2 : decode prog_1_method_39_code 2 = .ok (.invokevirtual 73, 3) := by decide +kernel
theorem d_11_middle_5 : decode prog_1_method_39_code 5 = .ok (.astore_n 3, 1) := by decide +kernel
theorem d_11_middle_6 : decode prog_1_method_39_code 6 = .ok (.aload_n 0, 1) := by decide +kernel
theorem d_11_middle_7 : decode prog_1_method_39_code 7 = .ok (.iload_n 2, 1) := by decide +kernel
theorem d_11_middle_8 : decode prog_1_method_39_code 8 = .ok (.invokevirtual 113, 3) := by decide +kernel
theorem d_11_middle_11 : decode prog_1_method_39_code 11 = .ok (.aload_n 0, 1) := by decide +kernel
theorem d_11_middle_12 : decode prog_1_method_39_code 12 = .ok (.getfield 33, 3) := by decide +kernel
theorem d_11_middle_15 : decode prog_1_method_39_code 15 = .ok (.aload_n 0, 1) := by decide +kernel
theorem d_11_middle_16 : decode prog_1_method_39_code 16 = .ok (.getfield 26, 3) := by decide +kernel
theorem d_11_middle_19 : decode prog_1_method_39_code 19 = .ok (.getfield 48, 3) := by decide +kernel
theorem d_11_middle_22 : decode prog_1_method_39_code 22 = .ok (.aload_n 3, 1) := by decide +kernel
theorem d_11_middle_23 : decode prog_1_method_39_code 23 = .ok (.getfield 96, 3) := by decide +kernel
theorem d_11_middle_26 : decode prog_1_method_39_code 26 = .ok (.iload_n 2, 1) := by decide +kernel
theorem d_11_middle_27 : decode prog_1_method_39_code 27 = .ok (.invokevirtual 317, 3) := by decide +kernel
theorem d_11_middle_30 : decode prog_1_method_39_code 30 = .ok (.ireturn, 1) := by decide +kernel
theorem d_4_isSeenAlike_0 : decode prog_6_method_25_code 0 = .ok (.iconst 0, 1) := by decide +kernel
theorem d_4_isSeenAlike_1 : decode prog_6_method_25_code 1 = .ok (.istore 5, 2) := by decide +kernel
theorem d_4_isSeenAlike_3 : decode prog_6_method_25_code 3 = .ok (.iload 5, 2) := by decide +kernel
theorem d_4_isSeenAlike_5 : decode prog_6_method_25_code 5 = .ok (.aload_n 1, 1) := by decide +kernel
theorem d_4_isSeenAlike_6 : decode prog_6_method_25_code 6 = .ok (.getfield 107, 3) := by decide +kernel
theorem d_4_isSeenAlike_9 : decode prog_6_method_25_code 9 = .ok (.if_icmp .ge 40, 3) := by decide +kernel
theorem d_4_isSeenAlike_12 : decode prog_6_method_25_code 12 = .ok (.aload_n 2, 1) := by decide +kernel
theorem d_4_isSeenAlike_13 : decode prog_6_method_25_code 13 = .ok (.getfield 28, 3) := by decide +kernel
theorem d_4_isSeenAlike_16 : decode prog_6_method_25_code 16 = .ok (.iload 5, 2) := by decide +kernel
theorem d_4_isSeenAlike_18 : decode prog_6_method_25_code 18 = .ok (.invokevirtual 132, 3) := by decide +kernel
theorem d_4_isSeenAlike_21 : decode prog_6_method_25_code 21 = .ok (.ifCond .ne 22, 3) := by decide +kernel
theorem d_4_isSeenAlike_24 : decode prog_6_method_25_code 24 = .ok (.aload_n 0, 1) := by decide +kernel
theorem d_4_isSeenAlike_25 : decode prog_6_method_25_code 25 = .ok (.aload_n 1, 1) := by decide +kernel
theorem d_4_isSeenAlike_26 : decode prog_6_method_25_code 26 = .ok (.aload_n 2, 1) := by decide +kernel
theorem d_4_isSeenAlike_27 : decode prog_6_method_25_code 27 = .ok (.getfield 44, 3) := by decide +kernel
theorem d_4_isSeenAlike_30 : decode prog_6_method_25_code 30 = .ok (.iload 5, 2) := by decide +kernel
theorem d_4_isSeenAlike_32 : decode prog_6_method_25_code 32 = .ok (.iload_n 3, 1) := by decide +kernel
theorem d_4_isSeenAlike_33 : decode prog_6_method_25_code 33 = .ok (.iload 4, 2) := by decide +kernel
theorem d_4_isSeenAlike_35 : decode prog_6_method_25_code 35 = .ok (.invokevirtual 121, 3) := by decide +kernel
theorem d_4_isSeenAlike_38 : decode prog_6_method_25_code 38 = .ok (.ifCond .ne 5, 3) := by decide +kernel
theorem d_4_isSeenAlike_41 : decode prog_6_method_25_code 41 = .ok (.iconst 0, 1) := by decide +kernel
theorem d_4_isSeenAlike_42 : decode prog_6_method_25_code 42 = .ok (.ireturn, 1) := by decide +kernel
theorem d_4_isSeenAlike_43 : decode prog_6_method_25_code 43 = .ok (.iinc 5 1, 3) := by decide +kernel
theorem d_4_isSeenAlike_46 : decode prog_6_method_25_code 46 = .ok (.goto (-43), 3) := by decide +kernel
theorem d_4_isSeenAlike_49 : decode prog_6_method_25_code 49 = .ok (.iconst 1, 1) := by decide +kernel
theorem d_4_isSeenAlike_50 : decode prog_6_method_25_code 50 = .ok (.ireturn, 1) := by decide +kernel
theorem d_4_repeatedBits_0 : decode prog_6_method_24_code 0 = .ok (.iconst 0, 1) := by decide +kernel
theorem d_4_repeatedBits_1 : decode prog_6_method_24_code 1 = .ok (.istore_n 3, 1) := by decide +kernel
theorem d_4_repeatedBits_2 : decode prog_6_method_24_code 2 = .ok (.iconst 1, 1) := by decide +kernel
theorem d_4_repeatedBits_3 : decode prog_6_method_24_code 3 = .ok (.istore 4, 2) := by decide +kernel
theorem d_4_repeatedBits_5 : decode prog_6_method_24_code 5 = .ok (.iload 4, 2) := by decide +kernel
theorem d_4_repeatedBits_7 : decode prog_6_method_24_code 7 = .ok (.aload_n 2, 1) := by decide +kernel
theorem d_4_repeatedBits_8 : decode prog_6_method_24_code 8 = .ok (.getfield 44, 3) := by decide +kernel
theorem d_4_repeatedBits_11 : decode prog_6_method_24_code 11 = .ok (.invokevirtual 40, 3) := by decide +kernel
theorem d_4_repeatedBits_14 : decode prog_6_method_24_code 14 = .ok (.if_icmp .ge 45, 3) := by decide +kernel
theorem d_4_repeatedBits_17 : decode prog_6_method_24_code 17 = .ok (.iconst 0, 1) := by decide +kernel
theorem d_4_repeatedBits_18 : decode prog_6_method_24_code 18 = .ok (.istore 5, 2) := by decide +kernel
theorem d_4_repeatedBits_20 : decode prog_6_method_24_code 20 = .ok (.iload 5, 2) := by decide +kernel
theorem d_4_repeatedBits_22 : decode prog_6_method_24_code 22 = .ok (.iload 4, 2) := by decide +kernel
theorem d_4_repeatedBits_24 : decode prog_6_method_24_code 24 = .ok (.if_icmp .ge 29, 3) := by decide +kernel
theorem d_4_repeatedBits_27 : decode prog_6_method_24_code 27 = .ok (.aload_n 0, 1) := by decide +kernel
theorem d_4_repeatedBits_28 : decode prog_6_method_24_code 28 = .ok (.aload_n 1, 1) := by decide +kernel
theorem d_4_repeatedBits_29 : decode prog_6_method_24_code 29 = .ok (.aload_n 2, 1) := by decide +kernel
theorem d_4_repeatedBits_30 : decode prog_6_method_24_code 30 = .ok (.iload 4, 2) := by decide +kernel
theorem d_4_repeatedBits_32 : decode prog_6_method_24_code 32 = .ok (.iload 5, 2) := by decide +kernel
theorem d_4_repeatedBits_34 : decode prog_6_method_24_code 34 = .ok (.invokevirtual 128, 3) := by decide +kernel
theorem d_4_repeatedBits_37 : decode prog_6_method_24_code 37 = .ok (.ifCond .eq 10, 3) := by decide +kernel
theorem d_4_repeatedBits_40 : decode prog_6_method_24_code 40 = .ok (.iload_n 3, 1) := by decide +kernel
theorem d_4_repeatedBits_41 : decode prog_6_method_24_code 41 = .ok (.iconst 1, 1) := by decide +kernel
theorem d_4_repeatedBits_42 : decode prog_6_method_24_code 42 = .ok (.iload 4, 2) := by decide +kernel
theorem d_4_repeatedBits_44 : decode prog_6_method_24_code 44 = .ok (.ishl, 1) := by decide +kernel
theorem d_4_repeatedBits_45 : decode prog_6_method_24_code 45 = .ok (.ior, 1) := by decide +kernel
theorem d_4_repeatedBits_46 : decode prog_6_method_24_code 46 = .ok (.istore_n 3, 1) := by decide +kernel
theorem d_4_repeatedBits_47 : decode prog_6_method_24_code 47 = .ok (.iinc 5 1, 3) := by decide +kernel
theorem d_4_repeatedBits_50 : decode prog_6_method_24_code 50 = .ok (.goto (-30), 3) := by decide +kernel
theorem d_4_repeatedBits_53 : decode prog_6_method_24_code 53 = .ok (.iinc 4 1, 3) := by decide +kernel
theorem d_4_repeatedBits_56 : decode prog_6_method_24_code 56 = .ok (.goto (-51), 3) := by decide +kernel
theorem d_4_repeatedBits_59 : decode prog_6_method_24_code 59 = .ok (.iload_n 3, 1) := by decide +kernel
theorem d_4_repeatedBits_60 : decode prog_6_method_24_code 60 = .ok (.ireturn, 1) := by decide +kernel
theorem d_11_twice_0 : decode prog_1_method_40_code 0 = .ok (.aload_n 0, 1) := by decide +kernel
theorem d_11_twice_1 : decode prog_1_method_40_code 1 = .ok (.getfield 33, 3) := by decide +kernel
theorem d_11_twice_4 : decode prog_1_method_40_code 4 = .ok (.aload_n 0, 1) := by decide +kernel
theorem d_11_twice_5 : decode prog_1_method_40_code 5 = .ok (.getfield 26, 3) := by decide +kernel
theorem d_11_twice_8 : decode prog_1_method_40_code 8 = .ok (.getfield 48, 3) := by decide +kernel
theorem d_11_twice_11 : decode prog_1_method_40_code 11 = .ok (.aload_n 0, 1) := by decide +kernel
theorem d_11_twice_12 : decode prog_1_method_40_code 12 = .ok (.iload_n 1, 1) := by decide +kernel
theorem d_11_twice_13 : decode prog_1_method_40_code 13 = .ok (.invokevirtual 73, 3) := by decide +kernel
theorem d_11_twice_16 : decode prog_1_method_40_code 16 = .ok (.invokevirtual 320, 3) := by decide +kernel
theorem d_11_twice_19 : decode prog_1_method_40_code 19 = .ok (.ireturn, 1) := by decide +kernel
theorem d_11_barred_0 : decode prog_1_method_41_code 0 = .ok (.aload_n 0, 1) := by decide +kernel
theorem d_11_barred_1 : decode prog_1_method_41_code 1 = .ok (.iload_n 1, 1) := by decide +kernel
theorem d_11_barred_2 : decode prog_1_method_41_code 2 = .ok (.invokevirtual 73, 3) := by decide +kernel
theorem d_11_barred_5 : decode prog_1_method_41_code 5 = .ok (.invokevirtual 233, 3) := by decide +kernel
theorem d_11_barred_8 : decode prog_1_method_41_code 8 = .ok (.astore_n 2, 1) := by decide +kernel
theorem d_11_barred_9 : decode prog_1_method_41_code 9 = .ok (.aload_n 2, 1) := by decide +kernel
theorem d_11_barred_10 : decode prog_1_method_41_code 10 = .ok (.ifnonnull 7, 3) := by decide +kernel
theorem d_11_barred_13 : decode prog_1_method_41_code 13 = .ok (.iconst (-1), 1) := by decide +kernel
theorem d_11_barred_14 : decode prog_1_method_41_code 14 = .ok (.goto 14, 3) := by decide +kernel
theorem d_11_barred_17 : decode prog_1_method_41_code 17 = .ok (.aload_n 2, 1) := by decide +kernel
theorem d_11_barred_18 : decode prog_1_method_41_code 18 = .ok (.aload_n 0, 1) := by decide +kernel
theorem d_11_barred_19 : decode prog_1_method_41_code 19 = .ok (.getfield 26, 3) := by decide +kernel
theorem d_11_barred_22 : decode prog_1_method_41_code 22 = .ok (.getfield 48, 3) := by decide +kernel
theorem d_11_barred_25 : decode prog_1_method_41_code 25 = .ok (.invokevirtual 237, 3) := by decide +kernel
theorem d_11_barred_28 : decode prog_1_method_41_code 28 = .ok (.ireturn, 1) := by decide +kernel
theorem d_11_find_0 : decode prog_1_method_42_code 0 = .ok (.aload_n 0, 1) := by decide +kernel
theorem d_11_find_1 : decode prog_1_method_42_code 1 = .ok (.iload_n 1, 1) := by decide +kernel
theorem d_11_find_2 : decode prog_1_method_42_code 2 = .ok (.invokevirtual 73, 3) := by decide +kernel
theorem d_11_find_5 : decode prog_1_method_42_code 5 = .ok (.astore 5, 2) := by decide +kernel
theorem d_11_find_7 : decode prog_1_method_42_code 7 = .ok (.aload_n 0, 1) := by decide +kernel
theorem d_11_find_8 : decode prog_1_method_42_code 8 = .ok (.iload_n 2, 1) := by decide +kernel
theorem d_11_find_9 : decode prog_1_method_42_code 9 = .ok (.invokevirtual 113, 3) := by decide +kernel
theorem d_11_find_12 : decode prog_1_method_42_code 12 = .ok (.iload 4, 2) := by decide +kernel
theorem d_11_find_14 : decode prog_1_method_42_code 14 = .ok (.ifCond .lt 18, 3) := by decide +kernel
theorem d_11_find_17 : decode prog_1_method_42_code 17 = .ok (.aload_n 0, 1) := by decide +kernel
theorem d_11_find_18 : decode prog_1_method_42_code 18 = .ok (.getfield 26, 3) := by decide +kernel
theorem d_11_find_21 : decode prog_1_method_42_code 21 = .ok (.getfield 48, 3) := by decide +kernel
theorem d_11_find_24 : decode prog_1_method_42_code 24 = .ok (.iload_n 2, 1) := by decide +kernel
theorem d_11_find_25 : decode prog_1_method_42_code 25 = .ok (.iload_n 3, 1) := by decide +kernel
theorem d_11_find_26 : decode prog_1_method_42_code 26 = .ok (.invokevirtual 184, 3) := by decide +kernel
theorem d_11_find_29 : decode prog_1_method_42_code 29 = .ok (.ifCond .ne 11, 3) := by decide +kernel
theorem d_11_find_32 : decode prog_1_method_42_code 32 = .ok (.new 56, 3) := by decide +kernel
theorem d_11_find_35 : decode prog_1_method_42_code 35 = .ok (.dup, 1) := by decide +kernel
theorem d_11_find_36 : decode prog_1_method_42_code 36 = .ok (.invokespecial 58, 3) := by decide +kernel
theorem d_11_find_39 : decode prog_1_method_42_code 39 = .ok (.athrow, 1) := by decide +kernel
theorem d_11_find_40 : decode prog_1_method_42_code 40 = .ok (.iload 4, 2) := by decide +kernel
theorem d_11_find_42 : decode prog_1_method_42_code 42 = .ok (.istore 6, 2) := by decide +kernel
theorem d_11_find_44 : decode prog_1_method_42_code 44 = .ok (.iload 6, 2) := by decide +kernel
theorem d_11_find_46 : decode prog_1_method_42_code 46 = .ok (.aload 5, 2) := by decide +kernel
theorem d_11_find_48 : decode prog_1_method_42_code 48 = .ok (.getfield 96, 3) := by decide +kernel
theorem d_11_find_51 : decode prog_1_method_42_code 51 = .ok (.invokevirtual 104, 3) := by decide +kernel
theorem d_11_find_54 : decode prog_1_method_42_code 54 = .ok (.if_icmp .ge 37, 3) := by decide +kernel
theorem d_11_find_57 : decode prog_1_method_42_code 57 = .ok (.aload_n 0, 1) := by decide +kernel
theorem d_11_find_58 : decode prog_1_method_42_code 58 = .ok (.getfield 26, 3) := by decide +kernel
theorem d_11_find_61 : decode prog_1_method_42_code 61 = .ok (.getfield 48, 3) := by decide +kernel
theorem d_11_find_64 : decode prog_1_method_42_code 64 = .ok (.aload 5, 2) := by decide +kernel
theorem d_11_find_66 : decode prog_1_method_42_code 66 = .ok (.getfield 96, 3) := by decide +kernel
theorem d_11_find_69 : decode prog_1_method_42_code 69 = .ok (.iload 6, 2) := by decide +kernel
theorem d_11_find_71 : decode prog_1_method_42_code 71 = .ok (.invokevirtual 130, 3) := by decide +kernel
theorem d_11_find_74 : decode prog_1_method_42_code 74 = .ok (.iload_n 2, 1) := by decide +kernel
theorem d_11_find_75 : decode prog_1_method_42_code 75 = .ok (.invokevirtual 123, 3) := by decide +kernel
theorem d_11_find_78 : decode prog_1_method_42_code 78 = .ok (.iload_n 3, 1) := by decide +kernel
theorem d_11_find_79 : decode prog_1_method_42_code 79 = .ok (.if_icmp .ne 6, 3) := by decide +kernel
theorem d_11_find_82 : decode prog_1_method_42_code 82 = .ok (.iload 6, 2) := by decide +kernel
theorem d_11_find_84 : decode prog_1_method_42_code 84 = .ok (.ireturn, 1) := by decide +kernel
theorem d_11_find_85 : decode prog_1_method_42_code 85 = .ok (.iinc 6 1, 3) := by decide +kernel
theorem d_11_find_88 : decode prog_1_method_42_code 88 = .ok (.goto (-44), 3) := by decide +kernel
theorem d_11_find_91 : decode prog_1_method_42_code 91 = .ok (.iconst (-1), 1) := by decide +kernel
theorem d_11_find_92 : decode prog_1_method_42_code 92 = .ok (.ireturn, 1) := by decide +kernel
theorem d_3_partOf_0 : decode prog_5_method_3_code 0 = .ok (.iload_n 1, 1) := by decide +kernel
theorem d_3_partOf_1 : decode prog_5_method_3_code 1 = .ok (.ifCond .lt 20, 3) := by decide +kernel
theorem d_3_partOf_4 : decode prog_5_method_3_code 4 = .ok (.iload_n 1, 1) := by decide +kernel
theorem d_3_partOf_5 : decode prog_5_method_3_code 5 = .ok (.aload_n 0, 1) := by decide +kernel
theorem d_3_partOf_6 : decode prog_5_method_3_code 6 = .ok (.getfield 19, 3) := by decide +kernel
theorem d_3_partOf_9 : decode prog_5_method_3_code 9 = .ok (.if_icmp .ge 12, 3) := by decide +kernel
theorem d_3_partOf_12 : decode prog_5_method_3_code 12 = .ok (.iload_n 2, 1) := by decide +kernel
theorem d_3_partOf_13 : decode prog_5_method_3_code 13 = .ok (.ifCond .lt 8, 3) := by decide +kernel
theorem d_3_partOf_16 : decode prog_5_method_3_code 16 = .ok (.iload_n 2, 1) := by decide +kernel
theorem d_3_partOf_17 : decode prog_5_method_3_code 17 = .ok (.iconst 5, 1) := by decide +kernel
theorem d_3_partOf_18 : decode prog_5_method_3_code 18 = .ok (.if_icmp .lt 5, 3) := by decide +kernel
theorem d_3_partOf_21 : decode prog_5_method_3_code 21 = .ok (.iconst (-1), 1) := by decide +kernel
theorem d_3_partOf_22 : decode prog_5_method_3_code 22 = .ok (.ireturn, 1) := by decide +kernel
theorem d_3_partOf_23 : decode prog_5_method_3_code 23 = .ok (.aload_n 0, 1) := by decide +kernel
theorem d_3_partOf_24 : decode prog_5_method_3_code 24 = .ok (.getfield 11, 3) := by decide +kernel
theorem d_3_partOf_27 : decode prog_5_method_3_code 27 = .ok (.aload_n 0, 1) := by decide +kernel
theorem d_3_partOf_28 : decode prog_5_method_3_code 28 = .ok (.getfield 15, 3) := by decide +kernel
theorem d_3_partOf_31 : decode prog_5_method_3_code 31 = .ok (.iconst 1, 1) := by decide +kernel
theorem d_3_partOf_32 : decode prog_5_method_3_code 32 = .ok (.isub, 1) := by decide +kernel
theorem d_3_partOf_33 : decode prog_5_method_3_code 33 = .ok (.iload_n 1, 1) := by decide +kernel
theorem d_3_partOf_34 : decode prog_5_method_3_code 34 = .ok (.isub, 1) := by decide +kernel
theorem d_3_partOf_35 : decode prog_5_method_3_code 35 = .ok (.bipush 40, 2) := by decide +kernel
theorem d_3_partOf_37 : decode prog_5_method_3_code 37 = .ok (.invokestatic 28, 3) := by decide +kernel
theorem d_3_partOf_40 : decode prog_5_method_3_code 40 = .ok (.iconst 5, 1) := by decide +kernel
theorem d_3_partOf_41 : decode prog_5_method_3_code 41 = .ok (.imul, 1) := by decide +kernel
theorem d_3_partOf_42 : decode prog_5_method_3_code 42 = .ok (.iload_n 2, 1) := by decide +kernel
theorem d_3_partOf_43 : decode prog_5_method_3_code 43 = .ok (.iadd, 1) := by decide +kernel
theorem d_3_partOf_44 : decode prog_5_method_3_code 44 = .ok (.iaload, 1) := by decide +kernel
theorem d_3_partOf_45 : decode prog_5_method_3_code 45 = .ok (.ireturn, 1) := by decide +kernel
theorem d_11_log_0 : decode prog_1_method_43_code 0 = .ok (.iload_n 2, 1) := by decide +kernel
theorem d_11_log_1 : decode prog_1_method_43_code 1 = .ok (.ifCond .lt 8, 3) := by decide +kernel
theorem d_11_log_4 : decode prog_1_method_43_code 4 = .ok (.iload_n 2, 1) := by decide +kernel
theorem d_11_log_5 : decode prog_1_method_43_code 5 = .ok (.iconst 5, 1) := by decide +kernel
theorem d_11_log_6 : decode prog_1_method_43_code 6 = .ok (.if_icmp .lt 11, 3) := by decide +kernel
theorem d_11_log_9 : decode prog_1_method_43_code 9 = .ok (.new 151, 3) := by decide +kernel
theorem d_11_log_12 : decode prog_1_method_43_code 12 = .ok (.dup, 1) := by decide +kernel
theorem d_11_log_13 : decode prog_1_method_43_code 13 = .ok (.invokespecial 153, 3) := by decide +kernel
theorem d_11_log_16 : decode prog_1_method_43_code 16 = .ok (.athrow, 1) := by decide +kernel
theorem d_11_log_17 : decode prog_1_method_43_code 17 = .ok (.aload_n 0, 1) := by decide +kernel
theorem d_11_log_18 : decode prog_1_method_43_code 18 = .ok (.getfield 26, 3) := by decide +kernel
theorem d_11_log_21 : decode prog_1_method_43_code 21 = .ok (.getfield 326, 3) := by decide +kernel
theorem d_11_log_24 : decode prog_1_method_43_code 24 = .ok (.iload_n 1, 1) := by decide +kernel
theorem d_11_log_25 : decode prog_1_method_43_code 25 = .ok (.iload_n 2, 1) := by decide +kernel
theorem d_11_log_26 : decode prog_1_method_43_code 26 = .ok (.invokevirtual 330, 3) := by decide +kernel
theorem d_11_log_29 : decode prog_1_method_43_code 29 = .ok (.ireturn, 1) := by decide +kernel
theorem d_12_thrown_0 : decode prog_14_method_1_code 0 = .ok (.aload_n 0, 1) := by decide +kernel
theorem d_12_thrown_1 : decode prog_14_method_1_code 1 = .ok (.getfield 3, 3) := by decide +kernel
theorem d_12_thrown_4 : decode prog_14_method_1_code 4 = .ok (.ireturn, 1) := by decide +kernel
theorem d_12_image_0 : decode prog_14_method_6_code 0 = .ok (.aload_n 0, 1) := by decide +kernel
theorem d_12_image_1 : decode prog_14_method_6_code 1 = .ok (.iconst 0, 1) := by decide +kernel
theorem d_12_image_2 : decode prog_14_method_6_code 2 = .ok (.putfield 3, 3) := by decide +kernel
theorem d_12_image_5 : decode prog_14_method_6_code 5 = .ok (.iconst 0, 1) := by decide +kernel
theorem d_12_image_6 : decode prog_14_method_6_code 6 = .ok (.istore_n 1, 1) := by decide +kernel
theorem d_12_image_7 : decode prog_14_method_6_code 7 = .ok (.iload_n 1, 1) := by decide +kernel
theorem d_12_image_8 : decode prog_14_method_6_code 8 = .ok (.sipush 8954, 3) := by decide +kernel
theorem d_12_image_11 : decode prog_14_method_6_code 11 = .ok (.if_icmp .ge 21, 3) := by decide +kernel
theorem d_12_image_14 : decode prog_14_method_6_code 14 = .ok (.aload_n 0, 1) := by decide +kernel
theorem d_12_image_15 : decode prog_14_method_6_code 15 = .ok (.getfield 17, 3) := by decide +kernel
theorem d_12_image_18 : decode prog_14_method_6_code 18 = .ok (.iload_n 1, 1) := by decide +kernel
theorem d_12_image_19 : decode prog_14_method_6_code 19 = .ok (.aload_n 0, 1) := by decide +kernel
theorem d_12_image_20 : decode prog_14_method_6_code 20 = .ok (.getfield 13, 3) := by decide +kernel
theorem d_12_image_23 : decode prog_14_method_6_code 23 = .ok (.iload_n 1, 1) := by decide +kernel
theorem d_12_image_24 : decode prog_14_method_6_code 24 = .ok (.iaload, 1) := by decide +kernel
theorem d_12_image_25 : decode prog_14_method_6_code 25 = .ok (.iastore, 1) := by decide +kernel
theorem d_12_image_26 : decode prog_14_method_6_code 26 = .ok (.iinc 1 1, 3) := by decide +kernel
theorem d_12_image_29 : decode prog_14_method_6_code 29 = .ok (.goto (-22), 3) := by decide +kernel
theorem d_12_image_32 : decode prog_14_method_6_code 32 = .ok (.aload_n 0, 1) := by decide +kernel
theorem d_12_image_33 : decode prog_14_method_6_code 33 = .ok (.iconst 1, 1) := by decide +kernel
theorem d_12_image_34 : decode prog_14_method_6_code 34 = .ok (.putfield 48, 3) := by decide +kernel
theorem d_12_image_37 : decode prog_14_method_6_code 37 = .ok (.return_, 1) := by decide +kernel
theorem d_12_back_0 : decode prog_14_method_7_code 0 = .ok (.aload_n 0, 1) := by decide +kernel
theorem d_12_back_1 : decode prog_14_method_7_code 1 = .ok (.iconst 0, 1) := by decide +kernel
theorem d_12_back_2 : decode prog_14_method_7_code 2 = .ok (.putfield 3, 3) := by decide +kernel
theorem d_12_back_5 : decode prog_14_method_7_code 5 = .ok (.aload_n 0, 1) := by decide +kernel
theorem d_12_back_6 : decode prog_14_method_7_code 6 = .ok (.getfield 48, 3) := by decide +kernel
theorem d_12_back_9 : decode prog_14_method_7_code 9 = .ok (.ifCond .ne 5, 3) := by decide +kernel
theorem d_12_back_12 : decode prog_14_method_7_code 12 = .ok (.iconst 0, 1) := by decide +kernel
theorem d_12_back_13 : decode prog_14_method_7_code 13 = .ok (.ireturn, 1) := by decide +kernel
theorem d_12_back_14 : decode prog_14_method_7_code 14 = .ok (.iconst 0, 1) := by decide +kernel
theorem d_12_back_15 : decode prog_14_method_7_code 15 = .ok (.istore_n 1, 1) := by decide +kernel
theorem d_12_back_16 : decode prog_14_method_7_code 16 = .ok (.iload_n 1, 1) := by decide +kernel
theorem d_12_back_17 : decode prog_14_method_7_code 17 = .ok (.sipush 8954, 3) := by decide +kernel
theorem d_12_back_20 : decode prog_14_method_7_code 20 = .ok (.if_icmp .ge 21, 3) := by decide +kernel
theorem d_12_back_23 : decode prog_14_method_7_code 23 = .ok (.aload_n 0, 1) := by decide +kernel
theorem d_12_back_24 : decode prog_14_method_7_code 24 = .ok (.getfield 13, 3) := by decide +kernel
theorem d_12_back_27 : decode prog_14_method_7_code 27 = .ok (.iload_n 1, 1) := by decide +kernel
theorem d_12_back_28 : decode prog_14_method_7_code 28 = .ok (.aload_n 0, 1) := by decide +kernel
theorem d_12_back_29 : decode prog_14_method_7_code 29 = .ok (.getfield 17, 3) := by decide +kernel
theorem d_12_back_32 : decode prog_14_method_7_code 32 = .ok (.iload_n 1, 1) := by decide +kernel
theorem d_12_back_33 : decode prog_14_method_7_code 33 = .ok (.iaload, 1) := by decide +kernel
theorem d_12_back_34 : decode prog_14_method_7_code 34 = .ok (.iastore, 1) := by decide +kernel
theorem d_12_back_35 : decode prog_14_method_7_code 35 = .ok (.iinc 1 1, 3) := by decide +kernel
theorem d_12_back_38 : decode prog_14_method_7_code 38 = .ok (.goto (-22), 3) := by decide +kernel
theorem d_12_back_41 : decode prog_14_method_7_code 41 = .ok (.iconst 1, 1) := by decide +kernel
theorem d_12_back_42 : decode prog_14_method_7_code 42 = .ok (.ireturn, 1) := by decide +kernel
theorem d_12_feed_0 : decode prog_14_method_27_code 0 = .ok (.aload_n 0, 1) := by decide +kernel
theorem d_12_feed_1 : decode prog_14_method_27_code 1 = .ok (.iconst 0, 1) := by decide +kernel
theorem d_12_feed_2 : decode prog_14_method_27_code 2 = .ok (.putfield 3, 3) := by decide +kernel
theorem d_12_feed_5 : decode prog_14_method_27_code 5 = .ok (.aload_n 0, 1) := by decide +kernel
theorem d_12_feed_6 : decode prog_14_method_27_code 6 = .ok (.getfield 85, 3) := by decide +kernel
theorem d_12_feed_9 : decode prog_14_method_27_code 9 = .ok (.bipush 20, 2) := by decide +kernel
theorem d_12_feed_11 : decode prog_14_method_27_code 11 = .ok (.iadd, 1) := by decide +kernel
theorem d_12_feed_12 : decode prog_14_method_27_code 12 = .ok (.sipush 400, 3) := by decide +kernel
theorem d_12_feed_15 : decode prog_14_method_27_code 15 = .ok (.if_icmp .le 5, 3) := by decide +kernel
theorem d_12_feed_18 : decode prog_14_method_27_code 18 = .ok (.iconst (-1), 1) := by decide +kernel
theorem d_12_feed_19 : decode prog_14_method_27_code 19 = .ok (.ireturn, 1) := by decide +kernel
theorem d_12_feed_20 : decode prog_14_method_27_code 20 = .ok (.aload_n 0, 1) := by decide +kernel
theorem d_12_feed_21 : decode prog_14_method_27_code 21 = .ok (.getfield 30, 3) := by decide +kernel
theorem d_12_feed_24 : decode prog_14_method_27_code 24 = .ok (.iconst 0, 1) := by decide +kernel
theorem d_12_feed_25 : decode prog_14_method_27_code 25 = .ok (.iload_n 1, 1) := by decide +kernel
theorem d_12_feed_26 : decode prog_14_method_27_code 26 = .ok (.iastore, 1) := by decide +kernel
theorem d_12_feed_27 : decode prog_14_method_27_code 27 = .ok (.aload_n 0, 1) := by decide +kernel
theorem d_12_feed_28 : decode prog_14_method_27_code 28 = .ok (.getfield 30, 3) := by decide +kernel
theorem d_12_feed_31 : decode prog_14_method_27_code 31 = .ok (.iconst 1, 1) := by decide +kernel
theorem d_12_feed_32 : decode prog_14_method_27_code 32 = .ok (.iload_n 2, 1) := by decide +kernel
theorem d_12_feed_33 : decode prog_14_method_27_code 33 = .ok (.iastore, 1) := by decide +kernel
theorem d_12_feed_34 : decode prog_14_method_27_code 34 = .ok (.aload_n 0, 1) := by decide +kernel
theorem d_12_feed_35 : decode prog_14_method_27_code 35 = .ok (.getfield 30, 3) := by decide +kernel
theorem d_12_feed_38 : decode prog_14_method_27_code 38 = .ok (.iconst 2, 1) := by decide +kernel
theorem d_12_feed_39 : decode prog_14_method_27_code 39 = .ok (.iload_n 3, 1) := by decide +kernel
theorem d_12_feed_40 : decode prog_14_method_27_code 40 = .ok (.iastore, 1) := by decide +kernel
theorem d_12_feed_41 : decode prog_14_method_27_code 41 = .ok (.aload_n 0, 1) := by decide +kernel
theorem d_12_feed_42 : decode prog_14_method_27_code 42 = .ok (.getfield 30, 3) := by decide +kernel
theorem d_12_feed_45 : decode prog_14_method_27_code 45 = .ok (.iconst 3, 1) := by decide +kernel
theorem d_12_feed_46 : decode prog_14_method_27_code 46 = .ok (.iload 4, 2) := by decide +kernel
theorem d_12_feed_48 : decode prog_14_method_27_code 48 = .ok (.iastore, 1) := by decide +kernel
theorem d_12_feed_49 : decode prog_14_method_27_code 49 = .ok (.aload_n 0, 1) := by decide +kernel
theorem d_12_feed_50 : decode prog_14_method_27_code 50 = .ok (.getfield 30, 3) := by decide +kernel
theorem d_12_feed_53 : decode prog_14_method_27_code 53 = .ok (.iconst 4, 1) := by decide +kernel
theorem d_12_feed_54 : decode prog_14_method_27_code 54 = .ok (.iload 5, 2) := by decide +kernel
theorem d_12_feed_56 : decode prog_14_method_27_code 56 = .ok (.iastore, 1) := by decide +kernel
theorem d_12_feed_57 : decode prog_14_method_27_code 57 = .ok (.iconst 0, 1) := by decide +kernel
theorem d_12_feed_58 : decode prog_14_method_27_code 58 = .ok (.istore 6, 2) := by decide +kernel
theorem d_12_feed_60 : decode prog_14_method_27_code 60 = .ok (.iload 6, 2) := by decide +kernel
theorem d_12_feed_62 : decode prog_14_method_27_code 62 = .ok (.bipush 20, 2) := by decide +kernel
theorem d_12_feed_64 : decode prog_14_method_27_code 64 = .ok (.if_icmp .ge 42, 3) := by decide +kernel
theorem d_12_feed_67 : decode prog_14_method_27_code 67 = .ok (.aload_n 0, 1) := by decide +kernel
theorem d_12_feed_68 : decode prog_14_method_27_code 68 = .ok (.getfield 23, 3) := by decide +kernel
theorem d_12_feed_71 : decode prog_14_method_27_code 71 = .ok (.aload_n 0, 1) := by decide +kernel
theorem d_12_feed_72 : decode prog_14_method_27_code 72 = .ok (.getfield 85, 3) := by decide +kernel
theorem d_12_feed_75 : decode prog_14_method_27_code 75 = .ok (.iload 6, 2) := by decide +kernel
theorem d_12_feed_77 : decode prog_14_method_27_code 77 = .ok (.iadd, 1) := by decide +kernel
theorem d_12_feed_78 : decode prog_14_method_27_code 78 = .ok (.aload_n 0, 1) := by decide +kernel
theorem d_12_feed_79 : decode prog_14_method_27_code 79 = .ok (.getfield 30, 3) := by decide +kernel
theorem d_12_feed_82 : decode prog_14_method_27_code 82 = .ok (.iload 6, 2) := by decide +kernel
theorem d_12_feed_84 : decode prog_14_method_27_code 84 = .ok (.iconst 4, 1) := by decide +kernel
theorem d_12_feed_85 : decode prog_14_method_27_code 85 = .ok (.idiv, 1) := by decide +kernel
theorem d_12_feed_86 : decode prog_14_method_27_code 86 = .ok (.iaload, 1) := by decide +kernel
theorem d_12_feed_87 : decode prog_14_method_27_code 87 = .ok (.bipush 24, 2) := by decide +kernel
theorem d_12_feed_89 : decode prog_14_method_27_code 89 = .ok (.bipush 8, 2) := by decide +kernel
theorem d_12_feed_91 : decode prog_14_method_27_code 91 = .ok (.iload 6, 2) := by decide +kernel
theorem d_12_feed_93 : decode prog_14_method_27_code 93 = .ok (.iconst 4, 1) := by decide +kernel
theorem d_12_feed_94 : decode prog_14_method_27_code 94 = .ok (.irem, 1) := by decide +kernel
theorem d_12_feed_95 : decode prog_14_method_27_code 95 = .ok (.imul, 1) := by decide +kernel
theorem d_12_feed_96 : decode prog_14_method_27_code 96 = .ok (.isub, 1) := by decide +kernel
theorem d_12_feed_97 : decode prog_14_method_27_code 97 = .ok (.ishr, 1) := by decide +kernel
theorem d_12_feed_98 : decode prog_14_method_27_code 98 = .ok (.i2b, 1) := by decide +kernel
theorem d_12_feed_99 : decode prog_14_method_27_code 99 = .ok (.bastore, 1) := by decide +kernel
theorem d_12_feed_100 : decode prog_14_method_27_code 100 = .ok (.iinc 6 1, 3) := by decide +kernel
theorem d_12_feed_103 : decode prog_14_method_27_code 103 = .ok (.goto (-43), 3) := by decide +kernel
theorem d_12_feed_106 : decode prog_14_method_27_code 106 = .ok (.aload_n 0, 1) := by decide +kernel
theorem d_12_feed_107 : decode prog_14_method_27_code 107 = .ok (.dup, 1) := by decide +kernel
theorem d_12_feed_108 : decode prog_14_method_27_code 108 = .ok (.getfield 85, 3) := by decide +kernel
theorem d_12_feed_111 : decode prog_14_method_27_code 111 = .ok (.bipush 20, 2) := by decide +kernel
theorem d_12_feed_113 : decode prog_14_method_27_code 113 = .ok (.iadd, 1) := by decide +kernel
theorem d_12_feed_114 : decode prog_14_method_27_code 114 = .ok (.putfield 85, 3) := by decide +kernel
theorem d_12_feed_117 : decode prog_14_method_27_code 117 = .ok (.aload_n 0, 1) := by decide +kernel
theorem d_12_feed_118 : decode prog_14_method_27_code 118 = .ok (.getfield 85, 3) := by decide +kernel
theorem d_12_feed_121 : decode prog_14_method_27_code 121 = .ok (.ireturn, 1) := by decide +kernel
theorem d_12_end_0 : decode prog_14_method_28_code 0 = .ok (.aload_n 0, 1) := by decide +kernel
theorem d_12_end_1 : decode prog_14_method_28_code 1 = .ok (.iconst 0, 1) := by decide +kernel
theorem d_12_end_2 : decode prog_14_method_28_code 2 = .ok (.putfield 3, 3) := by decide +kernel
theorem d_12_end_5 : decode prog_14_method_28_code 5 = .ok (.iload_n 1, 1) := by decide +kernel
theorem d_12_end_6 : decode prog_14_method_28_code 6 = .ok (.ifCond .lt 11, 3) := by decide +kernel
theorem d_12_end_9 : decode prog_14_method_28_code 9 = .ok (.iload_n 1, 1) := by decide +kernel
theorem d_12_end_10 : decode prog_14_method_28_code 10 = .ok (.aload_n 0, 1) := by decide +kernel
theorem d_12_end_11 : decode prog_14_method_28_code 11 = .ok (.getfield 85, 3) := by decide +kernel
theorem d_12_end_14 : decode prog_14_method_28_code 14 = .ok (.if_icmp .le 5, 3) := by decide +kernel
theorem d_12_end_17 : decode prog_14_method_28_code 17 = .ok (.iconst 0, 1) := by decide +kernel
theorem d_12_end_18 : decode prog_14_method_28_code 18 = .ok (.ireturn, 1) := by decide +kernel
theorem d_12_end_19 : decode prog_14_method_28_code 19 = .ok (.aload_n 0, 1) := by decide +kernel
theorem d_12_end_20 : decode prog_14_method_28_code 20 = .ok (.iload_n 1, 1) := by decide +kernel
theorem d_12_end_21 : decode prog_14_method_28_code 21 = .ok (.putfield 85, 3) := by decide +kernel
theorem d_12_end_24 : decode prog_14_method_28_code 24 = .ok (.iconst 1, 1) := by decide +kernel
theorem d_12_end_25 : decode prog_14_method_28_code 25 = .ok (.ireturn, 1) := by decide +kernel
theorem d_12_fault_0 : decode prog_14_method_39_code 0 = .ok (.aload_n 0, 1) := by decide +kernel
theorem d_12_fault_1 : decode prog_14_method_39_code 1 = .ok (.iconst 0, 1) := by decide +kernel
theorem d_12_fault_2 : decode prog_14_method_39_code 2 = .ok (.putfield 3, 3) := by decide +kernel
theorem d_12_fault_5 : decode prog_14_method_39_code 5 = .ok (.aload_n 0, 1) := by decide +kernel
theorem d_12_fault_6 : decode prog_14_method_39_code 6 = .ok (.getfield 27, 3) := by decide +kernel
theorem d_12_fault_9 : decode prog_14_method_39_code 9 = .ok (.ireturn, 1) := by decide +kernel
theorem d_12_uses_0 : decode prog_14_method_29_code 0 = .ok (.aload_n 0, 1) := by decide +kernel
theorem d_12_uses_1 : decode prog_14_method_29_code 1 = .ok (.iconst 0, 1) := by decide +kernel
theorem d_12_uses_2 : decode prog_14_method_29_code 2 = .ok (.putfield 3, 3) := by decide +kernel
theorem d_12_uses_5 : decode prog_14_method_29_code 5 = .ok (.aload_n 0, 1) := by decide +kernel
theorem d_12_uses_6 : decode prog_14_method_29_code 6 = .ok (.aload_n 0, 1) := by decide +kernel
theorem d_12_uses_7 : decode prog_14_method_29_code 7 = .ok (.getfield 85, 3) := by decide +kernel
theorem d_12_uses_10 : decode prog_14_method_29_code 10 = .ok (.putfield 88, 3) := by decide +kernel
theorem d_12_uses_13 : decode prog_14_method_29_code 13 = .ok (.aload_n 0, 1) := by decide +kernel
theorem d_12_uses_14 : decode prog_14_method_29_code 14 = .ok (.iconst 0, 1) := by decide +kernel
theorem d_12_uses_15 : decode prog_14_method_29_code 15 = .ok (.putfield 85, 3) := by decide +kernel
theorem d_12_uses_18 : decode prog_14_method_29_code 18 = .ok (.aload_n 0, 1) := by decide +kernel
theorem d_12_uses_19 : decode prog_14_method_29_code 19 = .ok (.iconst 0, 1) := by decide +kernel
theorem d_12_uses_20 : decode prog_14_method_29_code 20 = .ok (.putfield 91, 3) := by decide +kernel
theorem d_12_uses_23 : decode prog_14_method_29_code 23 = .ok (.return_, 1) := by decide +kernel
theorem d_12_keepsAll_0 : decode prog_14_method_8_code 0 = .ok (.iconst 0, 1) := by decide +kernel
theorem d_12_keepsAll_1 : decode prog_14_method_8_code 1 = .ok (.istore_n 1, 1) := by decide +kernel
theorem d_12_keepsAll_2 : decode prog_14_method_8_code 2 = .ok (.iload_n 1, 1) := by decide +kernel
theorem d_12_keepsAll_3 : decode prog_14_method_8_code 3 = .ok (.sipush 8954, 3) := by decide +kernel
theorem d_12_keepsAll_6 : decode prog_14_method_8_code 6 = .ok (.if_icmp .ge 21, 3) := by decide +kernel
theorem d_12_keepsAll_9 : decode prog_14_method_8_code 9 = .ok (.aload_n 0, 1) := by decide +kernel
theorem d_12_keepsAll_10 : decode prog_14_method_8_code 10 = .ok (.getfield 20, 3) := by decide +kernel
theorem d_12_keepsAll_13 : decode prog_14_method_8_code 13 = .ok (.iload_n 1, 1) := by decide +kernel
theorem d_12_keepsAll_14 : decode prog_14_method_8_code 14 = .ok (.aload_n 0, 1) := by decide +kernel
theorem d_12_keepsAll_15 : decode prog_14_method_8_code 15 = .ok (.getfield 13, 3) := by decide +kernel
theorem d_12_keepsAll_18 : decode prog_14_method_8_code 18 = .ok (.iload_n 1, 1) := by decide +kernel
theorem d_12_keepsAll_19 : decode prog_14_method_8_code 19 = .ok (.iaload, 1) := by decide +kernel
theorem d_12_keepsAll_20 : decode prog_14_method_8_code 20 = .ok (.iastore, 1) := by decide +kernel
theorem d_12_keepsAll_21 : decode prog_14_method_8_code 21 = .ok (.iinc 1 1, 3) := by decide +kernel
theorem d_12_keepsAll_24 : decode prog_14_method_8_code 24 = .ok (.goto (-22), 3) := by decide +kernel
theorem d_12_keepsAll_27 : decode prog_14_method_8_code 27 = .ok (.return_, 1) := by decide +kernel
theorem d_12_isAt_0 : decode prog_14_method_30_code 0 = .ok (.aload_n 0, 1) := by decide +kernel
theorem d_12_isAt_1 : decode prog_14_method_30_code 1 = .ok (.getfield 91, 3) := by decide +kernel
theorem d_12_isAt_4 : decode prog_14_method_30_code 4 = .ok (.aload_n 0, 1) := by decide +kernel
theorem d_12_isAt_5 : decode prog_14_method_30_code 5 = .ok (.getfield 88, 3) := by decide +kernel
theorem d_12_isAt_8 : decode prog_14_method_30_code 8 = .ok (.if_icmp .ge 33, 3) := by decide +kernel
theorem d_12_isAt_11 : decode prog_14_method_30_code 11 = .ok (.aload_n 0, 1) := by decide +kernel
theorem d_12_isAt_12 : decode prog_14_method_30_code 12 = .ok (.getfield 23, 3) := by decide +kernel
theorem d_12_isAt_15 : decode prog_14_method_30_code 15 = .ok (.aload_n 0, 1) := by decide +kernel
theorem d_12_isAt_16 : decode prog_14_method_30_code 16 = .ok (.getfield 91, 3) := by decide +kernel
theorem d_12_isAt_19 : decode prog_14_method_30_code 19 = .ok (.baload, 1) := by decide +kernel
theorem d_12_isAt_20 : decode prog_14_method_30_code 20 = .ok (.iload_n 1, 1) := by decide +kernel
theorem d_12_isAt_21 : decode prog_14_method_30_code 21 = .ok (.if_icmp .lt 20, 3) := by decide +kernel
theorem d_12_isAt_24 : decode prog_14_method_30_code 24 = .ok (.aload_n 0, 1) := by decide +kernel
theorem d_12_isAt_25 : decode prog_14_method_30_code 25 = .ok (.getfield 23, 3) := by decide +kernel
theorem d_12_isAt_28 : decode prog_14_method_30_code 28 = .ok (.aload_n 0, 1) := by decide +kernel
theorem d_12_isAt_29 : decode prog_14_method_30_code 29 = .ok (.getfield 91, 3) := by decide +kernel
theorem d_12_isAt_32 : decode prog_14_method_30_code 32 = .ok (.baload, 1) := by decide +kernel
theorem d_12_isAt_33 : decode prog_14_method_30_code 33 = .ok (.iload_n 2, 1) := by decide +kernel
theorem d_12_isAt_34 : decode prog_14_method_30_code 34 = .ok (.if_icmp .gt 7, 3) := by decide +kernel
theorem d_12_isAt_37 : decode prog_14_method_30_code 37 = .ok (.iconst 1, 1) := by decide +kernel
theorem d_12_isAt_38 : decode prog_14_method_30_code 38 = .ok (.goto 4, 3) := by decide +kernel
theorem d_12_isAt_41 : decode prog_14_method_30_code 41 = .ok (.iconst 0, 1) := by decide +kernel
theorem d_12_isAt_42 : decode prog_14_method_30_code 42 = .ok (.ireturn, 1) := by decide +kernel
theorem d_12_blanks_0 : decode prog_14_method_31_code 0 = .ok (.aload_n 0, 1) := by decide +kernel
theorem d_12_blanks_1 : decode prog_14_method_31_code 1 = .ok (.bipush 32, 2) := by decide +kernel
theorem d_12_blanks_3 : decode prog_14_method_31_code 3 = .ok (.bipush 32, 2) := by decide +kernel
theorem d_12_blanks_5 : decode prog_14_method_31_code 5 = .ok (.invokevirtual 94, 3) := by decide +kernel
theorem d_12_blanks_8 : decode prog_14_method_31_code 8 = .ok (.ifCond .eq 16, 3) := by decide +kernel
theorem d_12_blanks_11 : decode prog_14_method_31_code 11 = .ok (.aload_n 0, 1) := by decide +kernel
theorem d_12_blanks_12 : decode prog_14_method_31_code 12 = .ok (.dup, 1) := by decide +kernel
theorem d_12_blanks_13 : decode prog_14_method_31_code 13 = .ok (.getfield 91, 3) := by decide +kernel
theorem d_12_blanks_16 : decode prog_14_method_31_code 16 = .ok (.iconst 1, 1) := by decide +kernel
theorem d_12_blanks_17 : decode prog_14_method_31_code 17 = .ok (.iadd, 1) := by decide +kernel
theorem d_12_blanks_18 : decode prog_14_method_31_code 18 = .ok (.putfield 91, 3) := by decide +kernel
theorem d_12_blanks_21 : decode prog_14_method_31_code 21 = .ok (.goto (-21), 3) := by decide +kernel
theorem d_12_blanks_24 : decode prog_14_method_31_code 24 = .ok (.aload_n 0, 1) := by decide +kernel
theorem d_12_blanks_25 : decode prog_14_method_31_code 25 = .ok (.aload_n 0, 1) := by decide +kernel
theorem d_12_blanks_26 : decode prog_14_method_31_code 26 = .ok (.getfield 91, 3) := by decide +kernel
theorem d_12_blanks_29 : decode prog_14_method_31_code 29 = .ok (.putfield 98, 3) := by decide +kernel
theorem d_12_blanks_32 : decode prog_14_method_31_code 32 = .ok (.return_, 1) := by decide +kernel
theorem d_12_letters_0 : decode prog_14_method_32_code 0 = .ok (.aload_n 0, 1) := by decide +kernel
theorem d_12_letters_1 : decode prog_14_method_32_code 1 = .ok (.invokevirtual 101, 3) := by decide +kernel
theorem d_12_letters_4 : decode prog_14_method_32_code 4 = .ok (.aload_n 0, 1) := by decide +kernel
theorem d_12_letters_5 : decode prog_14_method_32_code 5 = .ok (.bipush 97, 2) := by decide +kernel
theorem d_12_letters_7 : decode prog_14_method_32_code 7 = .ok (.bipush 122, 2) := by decide +kernel
theorem d_12_letters_9 : decode prog_14_method_32_code 9 = .ok (.invokevirtual 94, 3) := by decide +kernel
theorem d_12_letters_12 : decode prog_14_method_32_code 12 = .ok (.ifCond .eq 16, 3) := by decide +kernel
theorem d_12_letters_15 : decode prog_14_method_32_code 15 = .ok (.aload_n 0, 1) := by decide +kernel
theorem d_12_letters_16 : decode prog_14_method_32_code 16 = .ok (.dup, 1) := by decide +kernel
theorem d_12_letters_17 : decode prog_14_method_32_code 17 = .ok (.getfield 91, 3) := by decide +kernel
theorem d_12_letters_20 : decode prog_14_method_32_code 20 = .ok (.iconst 1, 1) := by decide +kernel
theorem d_12_letters_21 : decode prog_14_method_32_code 21 = .ok (.iadd, 1) := by decide +kernel
theorem d_12_letters_22 : decode prog_14_method_32_code 22 = .ok (.putfield 91, 3) := by decide +kernel
theorem d_12_letters_25 : decode prog_14_method_32_code 25 = .ok (.goto (-21), 3) := by decide +kernel
theorem d_12_letters_28 : decode prog_14_method_32_code 28 = .ok (.return_, 1) := by decide +kernel
theorem d_12_isWord_0 : decode prog_14_method_33_code 0 = .ok (.aload_n 0, 1) := by decide +kernel
theorem d_12_isWord_1 : decode prog_14_method_33_code 1 = .ok (.getfield 91, 3) := by decide +kernel
theorem d_12_isWord_4 : decode prog_14_method_33_code 4 = .ok (.aload_n 0, 1) := by decide +kernel
theorem d_12_isWord_5 : decode prog_14_method_33_code 5 = .ok (.getfield 98, 3) := by decide +kernel
theorem d_12_isWord_8 : decode prog_14_method_33_code 8 = .ok (.isub, 1) := by decide +kernel
theorem d_12_isWord_9 : decode prog_14_method_33_code 9 = .ok (.aload_n 1, 1) := by decide +kernel
theorem d_12_isWord_10 : decode prog_14_method_33_code 10 = .ok (.invokevirtual 104, 3) := by decide +kernel
theorem d_12_isWord_13 : decode prog_14_method_33_code 13 = .ok (.if_icmp .ne 7, 3) := by decide +kernel
theorem d_12_isWord_16 : decode prog_14_method_33_code 16 = .ok (.iconst 1, 1) := by decide +kernel
theorem d_12_isWord_17 : decode prog_14_method_33_code 17 = .ok (.goto 4, 3) := by decide +kernel
theorem d_12_isWord_20 : decode prog_14_method_33_code 20 = .ok (.iconst 0, 1) := by decide +kernel
theorem d_12_isWord_21 : decode prog_14_method_33_code 21 = .ok (.istore_n 2, 1) := by decide +kernel
theorem d_12_isWord_22 : decode prog_14_method_33_code 22 = .ok (.iconst 0, 1) := by decide +kernel
theorem d_12_isWord_23 : decode prog_14_method_33_code 23 = .ok (.istore_n 3, 1) := by decide +kernel
theorem d_12_isWord_24 : decode prog_14_method_33_code 24 = .ok (.iload_n 2, 1) := by decide +kernel
theorem d_12_isWord_25 : decode prog_14_method_33_code 25 = .ok (.ifCond .eq 42, 3) := by decide +kernel
theorem d_12_isWord_28 : decode prog_14_method_33_code 28 = .ok (.iload_n 3, 1) := by decide +kernel
theorem d_12_isWord_29 : decode prog_14_method_33_code 29 = .ok (.aload_n 1, 1) := by decide +kernel
theorem d_12_isWord_30 : decode prog_14_method_33_code 30 = .ok (.invokevirtual 104, 3) := by decide +kernel
theorem d_12_isWord_33 : decode prog_14_method_33_code 33 = .ok (.if_icmp .ge 34, 3) := by decide +kernel
theorem d_12_isWord_36 : decode prog_14_method_33_code 36 = .ok (.aload_n 0, 1) := by decide +kernel
theorem d_12_isWord_37 : decode prog_14_method_33_code 37 = .ok (.getfield 23, 3) := by decide +kernel
theorem d_12_isWord_40 : decode prog_14_method_33_code 40 = .ok (.aload_n 0, 1) := by decide +kernel
theorem d_12_isWord_41 : decode prog_14_method_33_code 41 = .ok (.getfield 98, 3) := by decide +kernel
theorem d_12_isWord_44 : decode prog_14_method_33_code 44 = .ok (.iload_n 3, 1) := by decide +kernel
theorem d_12_isWord_45 : decode prog_14_method_33_code 45 = .ok (.iadd, 1) := by decide +kernel
theorem d_12_isWord_46 : decode prog_14_method_33_code 46 = .ok (.baload, 1) := by decide +kernel
theorem d_12_isWord_47 : decode prog_14_method_33_code 47 = .ok (.aload_n 1, 1) := by decide +kernel
theorem d_12_isWord_48 : decode prog_14_method_33_code 48 = .ok (.iload_n 3, 1) := by decide +kernel
theorem d_12_isWord_49 : decode prog_14_method_33_code 49 = .ok (.invokevirtual 109, 3) := by decide +kernel
theorem d_12_isWord_52 : decode prog_14_method_33_code 52 = .ok (.if_icmp .ne 7, 3) := by decide +kernel
theorem d_12_isWord_55 : decode prog_14_method_33_code 55 = .ok (.iconst 1, 1) := by decide +kernel
theorem d_12_isWord_56 : decode prog_14_method_33_code 56 = .ok (.goto 4, 3) := by decide +kernel
theorem d_12_isWord_59 : decode prog_14_method_33_code 59 = .ok (.iconst 0, 1) := by decide +kernel
theorem d_12_isWord_60 : decode prog_14_method_33_code 60 = .ok (.istore_n 2, 1) := by decide +kernel
theorem d_12_isWord_61 : decode prog_14_method_33_code 61 = .ok (.iinc 3 1, 3) := by decide +kernel
theorem d_12_isWord_64 : decode prog_14_method_33_code 64 = .ok (.goto (-40), 3) := by decide +kernel
theorem d_12_isWord_67 : decode prog_14_method_33_code 67 = .ok (.iload_n 2, 1) := by decide +kernel
theorem d_12_isWord_68 : decode prog_14_method_33_code 68 = .ok (.ireturn, 1) := by decide +kernel
theorem d_12_columns_0 : decode prog_14_method_10_code 0 = .ok (.aload_n 0, 1) := by decide +kernel
theorem d_12_columns_1 : decode prog_14_method_10_code 1 = .ok (.getfield 13, 3) := by decide +kernel
theorem d_12_columns_4 : decode prog_14_method_10_code 4 = .ok (.iconst 0, 1) := by decide +kernel
theorem d_12_columns_5 : decode prog_14_method_10_code 5 = .ok (.iaload, 1) := by decide +kernel
theorem d_12_columns_6 : decode prog_14_method_10_code 6 = .ok (.ireturn, 1) := by decide +kernel
theorem d_12_isLetter_0 : decode prog_14_method_41_code 0 = .ok (.aload_n 0, 1) := by decide +kernel
theorem d_12_isLetter_1 : decode prog_14_method_41_code 1 = .ok (.invokevirtual 101, 3) := by decide +kernel
theorem d_12_isLetter_4 : decode prog_14_method_41_code 4 = .ok (.aload_n 0, 1) := by decide +kernel
theorem d_12_isLetter_5 : decode prog_14_method_41_code 5 = .ok (.bipush 97, 2) := by decide +kernel
theorem d_12_isLetter_7 : decode prog_14_method_41_code 7 = .ok (.bipush 122, 2) := by decide +kernel
theorem d_12_isLetter_9 : decode prog_14_method_41_code 9 = .ok (.invokevirtual 94, 3) := by decide +kernel
theorem d_12_isLetter_12 : decode prog_14_method_41_code 12 = .ok (.ireturn, 1) := by decide +kernel
theorem d_12_readColumns_0 : decode prog_14_method_42_code 0 = .ok (.aload_n 0, 1) := by decide +kernel
theorem d_12_readColumns_1 : decode prog_14_method_42_code 1 = .ok (.invokevirtual 60, 3) := by decide +kernel
theorem d_12_readColumns_4 : decode prog_14_method_42_code 4 = .ok (.ifCond .le 5, 3) := by decide +kernel
theorem d_12_readColumns_7 : decode prog_14_method_42_code 7 = .ok (.iconst 0, 1) := by decide +kernel
theorem d_12_readColumns_8 : decode prog_14_method_42_code 8 = .ok (.ireturn, 1) := by decide +kernel
theorem d_12_readColumns_9 : decode prog_14_method_42_code 9 = .ok (.iconst 0, 1) := by decide +kernel
theorem d_12_readColumns_10 : decode prog_14_method_42_code 10 = .ok (.istore_n 1, 1) := by decide +kernel
theorem d_12_readColumns_11 : decode prog_14_method_42_code 11 = .ok (.aload_n 0, 1) := by decide +kernel
theorem d_12_readColumns_12 : decode prog_14_method_42_code 12 = .ok (.invokevirtual 113, 3) := by decide +kernel
theorem d_12_readColumns_15 : decode prog_14_method_42_code 15 = .ok (.aload_n 0, 1) := by decide +kernel
theorem d_12_readColumns_16 : decode prog_14_method_42_code 16 = .ok (.ldc 136, 2) := by decide +kernel
theorem d_12_readColumns_18 : decode prog_14_method_42_code 18 = .ok (.invokevirtual 116, 3) := by decide +kernel
theorem d_12_readColumns_21 : decode prog_14_method_42_code 21 = .ok (.istore_n 2, 1) := by decide +kernel
theorem d_12_readColumns_22 : decode prog_14_method_42_code 22 = .ok (.iload_n 1, 1) := by decide +kernel
theorem d_12_readColumns_23 : decode prog_14_method_42_code 23 = .ok (.iconst 5, 1) := by decide +kernel
theorem d_12_readColumns_24 : decode prog_14_method_42_code 24 = .ok (.if_icmp .eq 16, 3) := by decide +kernel
theorem d_12_readColumns_27 : decode prog_14_method_42_code 27 = .ok (.iload_n 2, 1) := by decide +kernel
theorem d_12_readColumns_28 : decode prog_14_method_42_code 28 = .ok (.ifCond .ne 14, 3) := by decide +kernel
theorem d_12_readColumns_31 : decode prog_14_method_42_code 31 = .ok (.aload_n 0, 1) := by decide +kernel
theorem d_12_readColumns_32 : decode prog_14_method_42_code 32 = .ok (.ldc 138, 2) := by decide +kernel
theorem d_12_readColumns_34 : decode prog_14_method_42_code 34 = .ok (.invokevirtual 116, 3) := by decide +kernel
theorem d_12_readColumns_37 : decode prog_14_method_42_code 37 = .ok (.ifCond .ne 5, 3) := by decide +kernel
theorem d_12_readColumns_40 : decode prog_14_method_42_code 40 = .ok (.iconst 0, 1) := by decide +kernel
theorem d_12_readColumns_41 : decode prog_14_method_42_code 41 = .ok (.ireturn, 1) := by decide +kernel
theorem d_12_readColumns_42 : decode prog_14_method_42_code 42 = .ok (.aload_n 0, 1) := by decide +kernel
theorem d_12_readColumns_43 : decode prog_14_method_42_code 43 = .ok (.getfield 13, 3) := by decide +kernel
theorem d_12_readColumns_46 : decode prog_14_method_42_code 46 = .ok (.iconst 4, 1) := by decide +kernel
theorem d_12_readColumns_47 : decode prog_14_method_42_code 47 = .ok (.iload_n 1, 1) := by decide +kernel
theorem d_12_readColumns_48 : decode prog_14_method_42_code 48 = .ok (.iadd, 1) := by decide +kernel
theorem d_12_readColumns_49 : decode prog_14_method_42_code 49 = .ok (.iload_n 2, 1) := by decide +kernel
theorem d_12_readColumns_50 : decode prog_14_method_42_code 50 = .ok (.ifCond .eq 7, 3) := by decide +kernel
theorem d_12_readColumns_53 : decode prog_14_method_42_code 53 = .ok (.iconst 1, 1) := by decide +kernel
theorem d_12_readColumns_54 : decode prog_14_method_42_code 54 = .ok (.goto 4, 3) := by decide +kernel
theorem d_12_readColumns_57 : decode prog_14_method_42_code 57 = .ok (.iconst 0, 1) := by decide +kernel
theorem d_12_readColumns_58 : decode prog_14_method_42_code 58 = .ok (.iastore, 1) := by decide +kernel
theorem d_12_readColumns_59 : decode prog_14_method_42_code 59 = .ok (.iinc 1 1, 3) := by decide +kernel
theorem d_12_readColumns_62 : decode prog_14_method_42_code 62 = .ok (.aload_n 0, 1) := by decide +kernel
theorem d_12_readColumns_63 : decode prog_14_method_42_code 63 = .ok (.invokevirtual 140, 3) := by decide +kernel
theorem d_12_readColumns_66 : decode prog_14_method_42_code 66 = .ok (.ifCond .ne (-55), 3) := by decide +kernel
theorem d_12_readColumns_69 : decode prog_14_method_42_code 69 = .ok (.aload_n 0, 1) := by decide +kernel
theorem d_12_readColumns_70 : decode prog_14_method_42_code 70 = .ok (.getfield 13, 3) := by decide +kernel
theorem d_12_readColumns_73 : decode prog_14_method_42_code 73 = .ok (.iconst 0, 1) := by decide +kernel
theorem d_12_readColumns_74 : decode prog_14_method_42_code 74 = .ok (.iload_n 1, 1) := by decide +kernel
theorem d_12_readColumns_75 : decode prog_14_method_42_code 75 = .ok (.iastore, 1) := by decide +kernel
theorem d_12_readColumns_76 : decode prog_14_method_42_code 76 = .ok (.iconst 1, 1) := by decide +kernel
theorem d_12_readColumns_77 : decode prog_14_method_42_code 77 = .ok (.ireturn, 1) := by decide +kernel
theorem d_12_size_0 : decode prog_14_method_15_code 0 = .ok (.aload_n 0, 1) := by decide +kernel
theorem d_12_size_1 : decode prog_14_method_15_code 1 = .ok (.getfield 13, 3) := by decide +kernel
theorem d_12_size_4 : decode prog_14_method_15_code 4 = .ok (.iload_n 1, 1) := by decide +kernel
theorem d_12_size_5 : decode prog_14_method_15_code 5 = .ok (.iaload, 1) := by decide +kernel
theorem d_12_size_6 : decode prog_14_method_15_code 6 = .ok (.ireturn, 1) := by decide +kernel
theorem d_12_rows_0 : decode prog_14_method_16_code 0 = .ok (.aload_n 0, 1) := by decide +kernel
theorem d_12_rows_1 : decode prog_14_method_16_code 1 = .ok (.sipush 273, 3) := by decide +kernel
theorem d_12_rows_4 : decode prog_14_method_16_code 4 = .ok (.invokevirtual 64, 3) := by decide +kernel
theorem d_12_rows_7 : decode prog_14_method_16_code 7 = .ok (.ireturn, 1) := by decide +kernel
theorem d_12_comes_0 : decode prog_14_method_25_code 0 = .ok (.iconst 0, 1) := by decide +kernel
theorem d_12_comes_1 : decode prog_14_method_25_code 1 = .ok (.istore_n 1, 1) := by decide +kernel
theorem d_12_comes_2 : decode prog_14_method_25_code 2 = .ok (.aload_n 0, 1) := by decide +kernel
theorem d_12_comes_3 : decode prog_14_method_25_code 3 = .ok (.getfield 13, 3) := by decide +kernel
theorem d_12_comes_6 : decode prog_14_method_25_code 6 = .ok (.bipush 9, 2) := by decide +kernel
theorem d_12_comes_8 : decode prog_14_method_25_code 8 = .ok (.bipush 11, 2) := by decide +kernel
theorem d_12_comes_10 : decode prog_14_method_25_code 10 = .ok (.iload_n 1, 1) := by decide +kernel
theorem d_12_comes_11 : decode prog_14_method_25_code 11 = .ok (.imul, 1) := by decide +kernel
theorem d_12_comes_12 : decode prog_14_method_25_code 12 = .ok (.iadd, 1) := by decide +kernel
theorem d_12_comes_13 : decode prog_14_method_25_code 13 = .ok (.iaload, 1) := by decide +kernel
theorem d_12_comes_14 : decode prog_14_method_25_code 14 = .ok (.iconst (-1), 1) := by decide +kernel
theorem d_12_comes_15 : decode prog_14_method_25_code 15 = .ok (.if_icmp .eq 9, 3) := by decide +kernel
theorem d_12_comes_18 : decode prog_14_method_25_code 18 = .ok (.iinc 1 1, 3) := by decide +kernel
theorem d_12_comes_21 : decode prog_14_method_25_code 21 = .ok (.goto (-19), 3) := by decide +kernel
theorem d_12_comes_24 : decode prog_14_method_25_code 24 = .ok (.aload_n 0, 1) := by decide +kernel
theorem d_12_comes_25 : decode prog_14_method_25_code 25 = .ok (.getfield 13, 3) := by decide +kernel
theorem d_12_comes_28 : decode prog_14_method_25_code 28 = .ok (.iconst 2, 1) := by decide +kernel
theorem d_12_comes_29 : decode prog_14_method_25_code 29 = .ok (.iaload, 1) := by decide +kernel
theorem d_12_comes_30 : decode prog_14_method_25_code 30 = .ok (.istore_n 2, 1) := by decide +kernel
theorem d_12_comes_31 : decode prog_14_method_25_code 31 = .ok (.aload_n 0, 1) := by decide +kernel
theorem d_12_comes_32 : decode prog_14_method_25_code 32 = .ok (.getfield 13, 3) := by decide +kernel
theorem d_12_comes_35 : decode prog_14_method_25_code 35 = .ok (.bipush 9, 2) := by decide +kernel
theorem d_12_comes_37 : decode prog_14_method_25_code 37 = .ok (.bipush 11, 2) := by decide +kernel
theorem d_12_comes_39 : decode prog_14_method_25_code 39 = .ok (.iload_n 1, 1) := by decide +kernel
theorem d_12_comes_40 : decode prog_14_method_25_code 40 = .ok (.imul, 1) := by decide +kernel
theorem d_12_comes_41 : decode prog_14_method_25_code 41 = .ok (.iadd, 1) := by decide +kernel
theorem d_12_comes_42 : decode prog_14_method_25_code 42 = .ok (.iload_n 2, 1) := by decide +kernel
theorem d_12_comes_43 : decode prog_14_method_25_code 43 = .ok (.iastore, 1) := by decide +kernel
theorem d_12_comes_44 : decode prog_14_method_25_code 44 = .ok (.iconst 0, 1) := by decide +kernel
theorem d_12_comes_45 : decode prog_14_method_25_code 45 = .ok (.istore_n 3, 1) := by decide +kernel
theorem d_12_comes_46 : decode prog_14_method_25_code 46 = .ok (.iload_n 3, 1) := by decide +kernel
theorem d_12_comes_47 : decode prog_14_method_25_code 47 = .ok (.iconst 5, 1) := by decide +kernel
theorem d_12_comes_48 : decode prog_14_method_25_code 48 = .ok (.if_icmp .ge 45, 3) := by decide +kernel
theorem d_12_comes_51 : decode prog_14_method_25_code 51 = .ok (.aload_n 0, 1) := by decide +kernel
theorem d_12_comes_52 : decode prog_14_method_25_code 52 = .ok (.getfield 13, 3) := by decide +kernel
theorem d_12_comes_55 : decode prog_14_method_25_code 55 = .ok (.bipush 9, 2) := by decide +kernel
theorem d_12_comes_57 : decode prog_14_method_25_code 57 = .ok (.bipush 11, 2) := by decide +kernel
theorem d_12_comes_59 : decode prog_14_method_25_code 59 = .ok (.iload_n 1, 1) := by decide +kernel
theorem d_12_comes_60 : decode prog_14_method_25_code 60 = .ok (.imul, 1) := by decide +kernel
theorem d_12_comes_61 : decode prog_14_method_25_code 61 = .ok (.iadd, 1) := by decide +kernel
theorem d_12_comes_62 : decode prog_14_method_25_code 62 = .ok (.iconst 1, 1) := by decide +kernel
theorem d_12_comes_63 : decode prog_14_method_25_code 63 = .ok (.iadd, 1) := by decide +kernel
theorem d_12_comes_64 : decode prog_14_method_25_code 64 = .ok (.iload_n 3, 1) := by decide +kernel
theorem d_12_comes_65 : decode prog_14_method_25_code 65 = .ok (.iadd, 1) := by decide +kernel
theorem d_12_comes_66 : decode prog_14_method_25_code 66 = .ok (.ldc 84, 2) := by decide +kernel
theorem d_12_comes_68 : decode prog_14_method_25_code 68 = .ok (.iastore, 1) := by decide +kernel
theorem d_12_comes_69 : decode prog_14_method_25_code 69 = .ok (.aload_n 0, 1) := by decide +kernel
theorem d_12_comes_70 : decode prog_14_method_25_code 70 = .ok (.getfield 13, 3) := by decide +kernel
theorem d_12_comes_73 : decode prog_14_method_25_code 73 = .ok (.bipush 9, 2) := by decide +kernel
theorem d_12_comes_75 : decode prog_14_method_25_code 75 = .ok (.bipush 11, 2) := by decide +kernel
theorem d_12_comes_77 : decode prog_14_method_25_code 77 = .ok (.iload_n 1, 1) := by decide +kernel
theorem d_12_comes_78 : decode prog_14_method_25_code 78 = .ok (.imul, 1) := by decide +kernel
theorem d_12_comes_79 : decode prog_14_method_25_code 79 = .ok (.iadd, 1) := by decide +kernel
theorem d_12_comes_80 : decode prog_14_method_25_code 80 = .ok (.bipush 6, 2) := by decide +kernel
theorem d_12_comes_82 : decode prog_14_method_25_code 82 = .ok (.iadd, 1) := by decide +kernel
theorem d_12_comes_83 : decode prog_14_method_25_code 83 = .ok (.iload_n 3, 1) := by decide +kernel
theorem d_12_comes_84 : decode prog_14_method_25_code 84 = .ok (.iadd, 1) := by decide +kernel
theorem d_12_comes_85 : decode prog_14_method_25_code 85 = .ok (.iconst (-1), 1) := by decide +kernel
theorem d_12_comes_86 : decode prog_14_method_25_code 86 = .ok (.iastore, 1) := by decide +kernel
theorem d_12_comes_87 : decode prog_14_method_25_code 87 = .ok (.iinc 3 1, 3) := by decide +kernel
theorem d_12_comes_90 : decode prog_14_method_25_code 90 = .ok (.goto (-44), 3) := by decide +kernel
theorem d_12_comes_93 : decode prog_14_method_25_code 93 = .ok (.aload_n 0, 1) := by decide +kernel
theorem d_12_comes_94 : decode prog_14_method_25_code 94 = .ok (.getfield 13, 3) := by decide +kernel
theorem d_12_comes_97 : decode prog_14_method_25_code 97 = .ok (.iconst 2, 1) := by decide +kernel
theorem d_12_comes_98 : decode prog_14_method_25_code 98 = .ok (.dup2, 1) := by decide +kernel
theorem d_12_comes_99 : decode prog_14_method_25_code 99 = .ok (.iaload, 1) := by decide +kernel
theorem d_12_comes_100 : decode prog_14_method_25_code 100 = .ok (.iconst 1, 1) := by decide +kernel
theorem d_12_comes_101 : decode prog_14_method_25_code 101 = .ok (.iadd, 1) := by decide +kernel
theorem d_12_comes_102 : decode prog_14_method_25_code 102 = .ok (.iastore, 1) := by decide +kernel
theorem d_12_comes_103 : decode prog_14_method_25_code 103 = .ok (.iload_n 2, 1) := by decide +kernel
theorem d_12_comes_104 : decode prog_14_method_25_code 104 = .ok (.ireturn, 1) := by decide +kernel
theorem d_12_sign_0 : decode prog_14_method_35_code 0 = .ok (.aload_n 0, 1) := by decide +kernel
theorem d_12_sign_1 : decode prog_14_method_35_code 1 = .ok (.invokevirtual 101, 3) := by decide +kernel
theorem d_12_sign_4 : decode prog_14_method_35_code 4 = .ok (.aload_n 0, 1) := by decide +kernel
theorem d_12_sign_5 : decode prog_14_method_35_code 5 = .ok (.iload_n 1, 1) := by decide +kernel
theorem d_12_sign_6 : decode prog_14_method_35_code 6 = .ok (.iload_n 1, 1) := by decide +kernel
theorem d_12_sign_7 : decode prog_14_method_35_code 7 = .ok (.invokevirtual 94, 3) := by decide +kernel
theorem d_12_sign_10 : decode prog_14_method_35_code 10 = .ok (.ifCond .ne 5, 3) := by decide +kernel
theorem d_12_sign_13 : decode prog_14_method_35_code 13 = .ok (.iconst 0, 1) := by decide +kernel
theorem d_12_sign_14 : decode prog_14_method_35_code 14 = .ok (.ireturn, 1) := by decide +kernel
theorem d_12_sign_15 : decode prog_14_method_35_code 15 = .ok (.aload_n 0, 1) := by decide +kernel
theorem d_12_sign_16 : decode prog_14_method_35_code 16 = .ok (.dup, 1) := by decide +kernel
theorem d_12_sign_17 : decode prog_14_method_35_code 17 = .ok (.getfield 91, 3) := by decide +kernel
theorem d_12_sign_20 : decode prog_14_method_35_code 20 = .ok (.iconst 1, 1) := by decide +kernel
theorem d_12_sign_21 : decode prog_14_method_35_code 21 = .ok (.iadd, 1) := by decide +kernel
theorem d_12_sign_22 : decode prog_14_method_35_code 22 = .ok (.putfield 91, 3) := by decide +kernel
theorem d_12_sign_25 : decode prog_14_method_35_code 25 = .ok (.iconst 1, 1) := by decide +kernel
theorem d_12_sign_26 : decode prog_14_method_35_code 26 = .ok (.ireturn, 1) := by decide +kernel
theorem d_12_isWords_0 : decode prog_14_method_26_code 0 = .ok (.aload_n 0, 1) := by decide +kernel
theorem d_12_isWords_1 : decode prog_14_method_26_code 1 = .ok (.getfield 13, 3) := by decide +kernel
theorem d_12_isWords_4 : decode prog_14_method_26_code 4 = .ok (.iconst 4, 1) := by decide +kernel
theorem d_12_isWords_5 : decode prog_14_method_26_code 5 = .ok (.iload_n 1, 1) := by decide +kernel
theorem d_12_isWords_6 : decode prog_14_method_26_code 6 = .ok (.iadd, 1) := by decide +kernel
theorem d_12_isWords_7 : decode prog_14_method_26_code 7 = .ok (.iaload, 1) := by decide +kernel
theorem d_12_isWords_8 : decode prog_14_method_26_code 8 = .ok (.iconst 1, 1) := by decide +kernel
theorem d_12_isWords_9 : decode prog_14_method_26_code 9 = .ok (.if_icmp .ne 7, 3) := by decide +kernel
theorem d_12_isWords_12 : decode prog_14_method_26_code 12 = .ok (.iconst 1, 1) := by decide +kernel
theorem d_12_isWords_13 : decode prog_14_method_26_code 13 = .ok (.goto 4, 3) := by decide +kernel
theorem d_12_isWords_16 : decode prog_14_method_26_code 16 = .ok (.iconst 0, 1) := by decide +kernel
theorem d_12_isWords_17 : decode prog_14_method_26_code 17 = .ok (.ireturn, 1) := by decide +kernel
theorem d_12_in_0 : decode prog_14_method_3_code 0 = .ok (.iload_n 0, 1) := by decide +kernel
theorem d_12_in_1 : decode prog_14_method_3_code 1 = .ok (.iload_n 1, 1) := by decide +kernel
theorem d_12_in_2 : decode prog_14_method_3_code 2 = .ok (.if_icmp .lt 12, 3) := by decide +kernel
theorem d_12_in_5 : decode prog_14_method_3_code 5 = .ok (.iload_n 0, 1) := by decide +kernel
theorem d_12_in_6 : decode prog_14_method_3_code 6 = .ok (.iload_n 2, 1) := by decide +kernel
theorem d_12_in_7 : decode prog_14_method_3_code 7 = .ok (.if_icmp .gt 7, 3) := by decide +kernel
theorem d_12_in_10 : decode prog_14_method_3_code 10 = .ok (.iconst 1, 1) := by decide +kernel
theorem d_12_in_11 : decode prog_14_method_3_code 11 = .ok (.goto 4, 3) := by decide +kernel
theorem d_12_in_14 : decode prog_14_method_3_code 14 = .ok (.iconst 0, 1) := by decide +kernel
theorem d_12_in_15 : decode prog_14_method_3_code 15 = .ok (.ireturn, 1) := by decide +kernel
theorem d_12_figures_0 : decode prog_14_method_36_code 0 = .ok (.aload_n 0, 1) := by decide +kernel
theorem d_12_figures_1 : decode prog_14_method_36_code 1 = .ok (.getfield 91, 3) := by decide +kernel
theorem d_12_figures_4 : decode prog_14_method_36_code 4 = .ok (.istore 4, 2) := by decide +kernel
theorem d_12_figures_6 : decode prog_14_method_36_code 6 = .ok (.iconst 0, 1) := by decide +kernel
theorem d_12_figures_7 : decode prog_14_method_36_code 7 = .ok (.istore 5, 2) := by decide +kernel
theorem d_12_figures_9 : decode prog_14_method_36_code 9 = .ok (.aload_n 0, 1) := by decide +kernel
theorem d_12_figures_10 : decode prog_14_method_36_code 10 = .ok (.bipush 48, 2) := by decide +kernel
theorem d_12_figures_12 : decode prog_14_method_36_code 12 = .ok (.bipush 57, 2) := by decide +kernel
theorem d_12_figures_14 : decode prog_14_method_36_code 14 = .ok (.invokevirtual 94, 3) := by decide +kernel
theorem d_12_figures_17 : decode prog_14_method_36_code 17 = .ok (.ifCond .eq 52, 3) := by decide +kernel
theorem d_12_figures_20 : decode prog_14_method_36_code 20 = .ok (.aload_n 0, 1) := by decide +kernel
theorem d_12_figures_21 : decode prog_14_method_36_code 21 = .ok (.getfield 91, 3) := by decide +kernel
theorem d_12_figures_24 : decode prog_14_method_36_code 24 = .ok (.iload 4, 2) := by decide +kernel
theorem d_12_figures_26 : decode prog_14_method_36_code 26 = .ok (.isub, 1) := by decide +kernel
theorem d_12_figures_27 : decode prog_14_method_36_code 27 = .ok (.iconst 3, 1) := by decide +kernel
theorem d_12_figures_28 : decode prog_14_method_36_code 28 = .ok (.if_icmp .ge 24, 3) := by decide +kernel
theorem d_12_figures_31 : decode prog_14_method_36_code 31 = .ok (.bipush 10, 2) := by decide +kernel
theorem d_12_figures_33 : decode prog_14_method_36_code 33 = .ok (.iload 5, 2) := by decide +kernel
theorem d_12_figures_35 : decode prog_14_method_36_code 35 = .ok (.imul, 1) := by decide +kernel
theorem d_12_figures_36 : decode prog_14_method_36_code 36 = .ok (.aload_n 0, 1) := by decide +kernel
theorem d_12_figures_37 : decode prog_14_method_36_code 37 = .ok (.getfield 23, 3) := by decide +kernel
theorem d_12_figures_40 : decode prog_14_method_36_code 40 = .ok (.aload_n 0, 1) := by decide +kernel
theorem d_12_figures_41 : decode prog_14_method_36_code 41 = .ok (.getfield 91, 3) := by decide +kernel
theorem d_12_figures_44 : decode prog_14_method_36_code 44 = .ok (.baload, 1) := by decide +kernel
theorem d_12_figures_45 : decode prog_14_method_36_code 45 = .ok (.iadd, 1) := by decide +kernel
theorem d_12_figures_46 : decode prog_14_method_36_code 46 = .ok (.bipush 48, 2) := by decide +kernel
theorem d_12_figures_48 : decode prog_14_method_36_code 48 = .ok (.isub, 1) := by decide +kernel
theorem d_12_figures_49 : decode prog_14_method_36_code 49 = .ok (.goto 5, 3) := by decide +kernel
theorem d_12_figures_52 : decode prog_14_method_36_code 52 = .ok (.iload 5, 2) := by decide +kernel
theorem d_12_figures_54 : decode prog_14_method_36_code 54 = .ok (.istore 5, 2) := by decide +kernel
theorem d_12_figures_56 : decode prog_14_method_36_code 56 = .ok (.aload_n 0, 1) := by decide +kernel
theorem d_12_figures_57 : decode prog_14_method_36_code 57 = .ok (.dup, 1) := by decide +kernel
theorem d_12_figures_58 : decode prog_14_method_36_code 58 = .ok (.getfield 91, 3) := by decide +kernel
theorem d_12_figures_61 : decode prog_14_method_36_code 61 = .ok (.iconst 1, 1) := by decide +kernel
theorem d_12_figures_62 : decode prog_14_method_36_code 62 = .ok (.iadd, 1) := by decide +kernel
theorem d_12_figures_63 : decode prog_14_method_36_code 63 = .ok (.putfield 91, 3) := by decide +kernel
theorem d_12_figures_66 : decode prog_14_method_36_code 66 = .ok (.goto (-57), 3) := by decide +kernel
theorem d_12_figures_69 : decode prog_14_method_36_code 69 = .ok (.aload_n 0, 1) := by decide +kernel
theorem d_12_figures_70 : decode prog_14_method_36_code 70 = .ok (.iload_n 1, 1) := by decide +kernel
theorem d_12_figures_71 : decode prog_14_method_36_code 71 = .ok (.iload 5, 2) := by decide +kernel
theorem d_12_figures_73 : decode prog_14_method_36_code 73 = .ok (.imul, 1) := by decide +kernel
theorem d_12_figures_74 : decode prog_14_method_36_code 74 = .ok (.putfield 120, 3) := by decide +kernel
theorem d_12_figures_77 : decode prog_14_method_36_code 77 = .ok (.aload_n 0, 1) := by decide +kernel
theorem d_12_figures_78 : decode prog_14_method_36_code 78 = .ok (.getfield 91, 3) := by decide +kernel
theorem d_12_figures_81 : decode prog_14_method_36_code 81 = .ok (.iload 4, 2) := by decide +kernel
theorem d_12_figures_83 : decode prog_14_method_36_code 83 = .ok (.isub, 1) := by decide +kernel
theorem d_12_figures_84 : decode prog_14_method_36_code 84 = .ok (.iconst 1, 1) := by decide +kernel
theorem d_12_figures_85 : decode prog_14_method_36_code 85 = .ok (.iconst 3, 1) := by decide +kernel
theorem d_12_figures_86 : decode prog_14_method_36_code 86 = .ok (.invokestatic 56, 3) := by decide +kernel
theorem d_12_figures_89 : decode prog_14_method_36_code 89 = .ok (.ifCond .eq 19, 3) := by decide +kernel
theorem d_12_figures_92 : decode prog_14_method_36_code 92 = .ok (.aload_n 0, 1) := by decide +kernel
theorem d_12_figures_93 : decode prog_14_method_36_code 93 = .ok (.getfield 120, 3) := by decide +kernel
theorem d_12_figures_96 : decode prog_14_method_36_code 96 = .ok (.iload_n 2, 1) := by decide +kernel
theorem d_12_figures_97 : decode prog_14_method_36_code 97 = .ok (.iload_n 3, 1) := by decide +kernel
theorem d_12_figures_98 : decode prog_14_method_36_code 98 = .ok (.invokestatic 56, 3) := by decide +kernel
theorem d_12_figures_101 : decode prog_14_method_36_code 101 = .ok (.ifCond .eq 7, 3) := by decide +kernel
theorem d_12_figures_104 : decode prog_14_method_36_code 104 = .ok (.iconst 1, 1) := by decide +kernel
theorem d_12_figures_105 : decode prog_14_method_36_code 105 = .ok (.goto 4, 3) := by decide +kernel
theorem d_12_figures_108 : decode prog_14_method_36_code 108 = .ok (.iconst 0, 1) := by decide +kernel
theorem d_12_figures_109 : decode prog_14_method_36_code 109 = .ok (.ireturn, 1) := by decide +kernel
theorem d_12_signed_0 : decode prog_14_method_38_code 0 = .ok (.aload_n 0, 1) := by decide +kernel
theorem d_12_signed_1 : decode prog_14_method_38_code 1 = .ok (.invokevirtual 101, 3) := by decide +kernel
theorem d_12_signed_4 : decode prog_14_method_38_code 4 = .ok (.aload_n 0, 1) := by decide +kernel
theorem d_12_signed_5 : decode prog_14_method_38_code 5 = .ok (.bipush 45, 2) := by decide +kernel
theorem d_12_signed_7 : decode prog_14_method_38_code 7 = .ok (.bipush 45, 2) := by decide +kernel
theorem d_12_signed_9 : decode prog_14_method_38_code 9 = .ok (.invokevirtual 94, 3) := by decide +kernel
theorem d_12_signed_12 : decode prog_14_method_38_code 12 = .ok (.istore_n 2, 1) := by decide +kernel
theorem d_12_signed_13 : decode prog_14_method_38_code 13 = .ok (.aload_n 0, 1) := by decide +kernel
theorem d_12_signed_14 : decode prog_14_method_38_code 14 = .ok (.dup, 1) := by decide +kernel
theorem d_12_signed_15 : decode prog_14_method_38_code 15 = .ok (.getfield 91, 3) := by decide +kernel
theorem d_12_signed_18 : decode prog_14_method_38_code 18 = .ok (.iload_n 2, 1) := by decide +kernel
theorem d_12_signed_19 : decode prog_14_method_38_code 19 = .ok (.ifCond .eq 7, 3) := by decide +kernel
theorem d_12_signed_22 : decode prog_14_method_38_code 22 = .ok (.iconst 1, 1) := by decide +kernel
theorem d_12_signed_23 : decode prog_14_method_38_code 23 = .ok (.goto 4, 3) := by decide +kernel
theorem d_12_signed_26 : decode prog_14_method_38_code 26 = .ok (.iconst 0, 1) := by decide +kernel
theorem d_12_signed_27 : decode prog_14_method_38_code 27 = .ok (.iadd, 1) := by decide +kernel
theorem d_12_signed_28 : decode prog_14_method_38_code 28 = .ok (.putfield 91, 3) := by decide +kernel
theorem d_12_signed_31 : decode prog_14_method_38_code 31 = .ok (.iload_n 2, 1) := by decide +kernel
theorem d_12_signed_32 : decode prog_14_method_38_code 32 = .ok (.ifCond .eq 22, 3) := by decide +kernel
theorem d_12_signed_35 : decode prog_14_method_38_code 35 = .ok (.aload_n 0, 1) := by decide +kernel
theorem d_12_signed_36 : decode prog_14_method_38_code 36 = .ok (.bipush 48, 2) := by decide +kernel
theorem d_12_signed_38 : decode prog_14_method_38_code 38 = .ok (.bipush 57, 2) := by decide +kernel
theorem d_12_signed_40 : decode prog_14_method_38_code 40 = .ok (.invokevirtual 94, 3) := by decide +kernel
theorem d_12_signed_43 : decode prog_14_method_38_code 43 = .ok (.ifCond .ne 11, 3) := by decide +kernel
theorem d_12_signed_46 : decode prog_14_method_38_code 46 = .ok (.aload_n 0, 1) := by decide +kernel
theorem d_12_signed_47 : decode prog_14_method_38_code 47 = .ok (.aload_n 0, 1) := by decide +kernel
theorem d_12_signed_48 : decode prog_14_method_38_code 48 = .ok (.getfield 91, 3) := by decide +kernel
theorem d_12_signed_51 : decode prog_14_method_38_code 51 = .ok (.putfield 98, 3) := by decide +kernel
theorem d_12_signed_54 : decode prog_14_method_38_code 54 = .ok (.aload_n 0, 1) := by decide +kernel
theorem d_12_signed_55 : decode prog_14_method_38_code 55 = .ok (.iload_n 2, 1) := by decide +kernel
theorem d_12_signed_56 : decode prog_14_method_38_code 56 = .ok (.ifCond .eq 7, 3) := by decide +kernel
theorem d_12_signed_59 : decode prog_14_method_38_code 59 = .ok (.iconst (-1), 1) := by decide +kernel
theorem d_12_signed_60 : decode prog_14_method_38_code 60 = .ok (.goto 4, 3) := by decide +kernel
theorem d_12_signed_63 : decode prog_14_method_38_code 63 = .ok (.iconst 1, 1) := by decide +kernel
theorem d_12_signed_64 : decode prog_14_method_38_code 64 = .ok (.iload_n 1, 1) := by decide +kernel
theorem d_12_signed_65 : decode prog_14_method_38_code 65 = .ok (.sipush 999, 3) := by decide +kernel
theorem d_12_signed_68 : decode prog_14_method_38_code 68 = .ok (.invokevirtual 123, 3) := by decide +kernel
theorem d_12_signed_71 : decode prog_14_method_38_code 71 = .ok (.ireturn, 1) := by decide +kernel
theorem d_12_aValue_0 : decode prog_14_method_40_code 0 = .ok (.aload_n 0, 1) := by decide +kernel
theorem d_12_aValue_1 : decode prog_14_method_40_code 1 = .ok (.bipush 46, 2) := by decide +kernel
theorem d_12_aValue_3 : decode prog_14_method_40_code 3 = .ok (.invokevirtual 126, 3) := by decide +kernel
theorem d_12_aValue_6 : decode prog_14_method_40_code 6 = .ok (.ifCond .eq 11, 3) := by decide +kernel
theorem d_12_aValue_9 : decode prog_14_method_40_code 9 = .ok (.aload_n 0, 1) := by decide +kernel
theorem d_12_aValue_10 : decode prog_14_method_40_code 10 = .ok (.ldc 84, 2) := by decide +kernel
theorem d_12_aValue_12 : decode prog_14_method_40_code 12 = .ok (.putfield 120, 3) := by decide +kernel
theorem d_12_aValue_15 : decode prog_14_method_40_code 15 = .ok (.iconst 1, 1) := by decide +kernel
theorem d_12_aValue_16 : decode prog_14_method_40_code 16 = .ok (.ireturn, 1) := by decide +kernel
theorem d_12_aValue_17 : decode prog_14_method_40_code 17 = .ok (.aload_n 0, 1) := by decide +kernel
theorem d_12_aValue_18 : decode prog_14_method_40_code 18 = .ok (.iload_n 1, 1) := by decide +kernel
theorem d_12_aValue_19 : decode prog_14_method_40_code 19 = .ok (.invokevirtual 130, 3) := by decide +kernel
theorem d_12_aValue_22 : decode prog_14_method_40_code 22 = .ok (.ifCond .ne 11, 3) := by decide +kernel
theorem d_12_aValue_25 : decode prog_14_method_40_code 25 = .ok (.aload_n 0, 1) := by decide +kernel
theorem d_12_aValue_26 : decode prog_14_method_40_code 26 = .ok (.sipush (-999), 3) := by decide +kernel
theorem d_12_aValue_29 : decode prog_14_method_40_code 29 = .ok (.invokevirtual 133, 3) := by decide +kernel
theorem d_12_aValue_32 : decode prog_14_method_40_code 32 = .ok (.ireturn, 1) := by decide +kernel
theorem d_12_aValue_33 : decode prog_14_method_40_code 33 = .ok (.aload_n 0, 1) := by decide +kernel
theorem d_12_aValue_34 : decode prog_14_method_40_code 34 = .ok (.invokevirtual 113, 3) := by decide +kernel
theorem d_12_aValue_37 : decode prog_14_method_40_code 37 = .ok (.aload_n 0, 1) := by decide +kernel
theorem d_12_aValue_38 : decode prog_14_method_40_code 38 = .ok (.getfield 91, 3) := by decide +kernel
theorem d_12_aValue_41 : decode prog_14_method_40_code 41 = .ok (.aload_n 0, 1) := by decide +kernel
theorem d_12_aValue_42 : decode prog_14_method_40_code 42 = .ok (.getfield 98, 3) := by decide +kernel
theorem d_12_aValue_45 : decode prog_14_method_40_code 45 = .ok (.isub, 1) := by decide +kernel
theorem d_12_aValue_46 : decode prog_14_method_40_code 46 = .ok (.istore_n 2, 1) := by decide +kernel
theorem d_12_aValue_47 : decode prog_14_method_40_code 47 = .ok (.aload_n 0, 1) := by decide +kernel
theorem d_12_aValue_48 : decode prog_14_method_40_code 48 = .ok (.iconst 0, 1) := by decide +kernel
theorem d_12_aValue_49 : decode prog_14_method_40_code 49 = .ok (.putfield 120, 3) := by decide +kernel
theorem d_12_aValue_52 : decode prog_14_method_40_code 52 = .ok (.iconst 0, 1) := by decide +kernel
theorem d_12_aValue_53 : decode prog_14_method_40_code 53 = .ok (.istore_n 3, 1) := by decide +kernel
theorem d_12_aValue_54 : decode prog_14_method_40_code 54 = .ok (.iload_n 3, 1) := by decide +kernel
theorem d_12_aValue_55 : decode prog_14_method_40_code 55 = .ok (.iconst 4, 1) := by decide +kernel
theorem d_12_aValue_56 : decode prog_14_method_40_code 56 = .ok (.if_icmp .ge 46, 3) := by decide +kernel
theorem d_12_aValue_59 : decode prog_14_method_40_code 59 = .ok (.aload_n 0, 1) := by decide +kernel
theorem d_12_aValue_60 : decode prog_14_method_40_code 60 = .ok (.bipush 27, 2) := by decide +kernel
theorem d_12_aValue_62 : decode prog_14_method_40_code 62 = .ok (.aload_n 0, 1) := by decide +kernel
theorem d_12_aValue_63 : decode prog_14_method_40_code 63 = .ok (.getfield 120, 3) := by decide +kernel
theorem d_12_aValue_66 : decode prog_14_method_40_code 66 = .ok (.imul, 1) := by decide +kernel
theorem d_12_aValue_67 : decode prog_14_method_40_code 67 = .ok (.iload_n 3, 1) := by decide +kernel
theorem d_12_aValue_68 : decode prog_14_method_40_code 68 = .ok (.iload_n 2, 1) := by decide +kernel
theorem d_12_aValue_69 : decode prog_14_method_40_code 69 = .ok (.if_icmp .ge 22, 3) := by decide +kernel
theorem d_12_aValue_72 : decode prog_14_method_40_code 72 = .ok (.aload_n 0, 1) := by decide +kernel
theorem d_12_aValue_73 : decode prog_14_method_40_code 73 = .ok (.getfield 23, 3) := by decide +kernel
theorem d_12_aValue_76 : decode prog_14_method_40_code 76 = .ok (.aload_n 0, 1) := by decide +kernel
theorem d_12_aValue_77 : decode prog_14_method_40_code 77 = .ok (.getfield 98, 3) := by decide +kernel
theorem d_12_aValue_80 : decode prog_14_method_40_code 80 = .ok (.iload_n 3, 1) := by decide +kernel
theorem d_12_aValue_81 : decode prog_14_method_40_code 81 = .ok (.iadd, 1) := by decide +kernel
theorem d_12_aValue_82 : decode prog_14_method_40_code 82 = .ok (.baload, 1) := by decide +kernel
theorem d_12_aValue_83 : decode prog_14_method_40_code 83 = .ok (.bipush 97, 2) := by decide +kernel
theorem d_12_aValue_85 : decode prog_14_method_40_code 85 = .ok (.isub, 1) := by decide +kernel
theorem d_12_aValue_86 : decode prog_14_method_40_code 86 = .ok (.iconst 1, 1) := by decide +kernel
theorem d_12_aValue_87 : decode prog_14_method_40_code 87 = .ok (.iadd, 1) := by decide +kernel
theorem d_12_aValue_88 : decode prog_14_method_40_code 88 = .ok (.goto 4, 3) := by decide +kernel
theorem d_12_aValue_91 : decode prog_14_method_40_code 91 = .ok (.iconst 0, 1) := by decide +kernel
theorem d_12_aValue_92 : decode prog_14_method_40_code 92 = .ok (.iadd, 1) := by decide +kernel
theorem d_12_aValue_93 : decode prog_14_method_40_code 93 = .ok (.putfield 120, 3) := by decide +kernel
theorem d_12_aValue_96 : decode prog_14_method_40_code 96 = .ok (.iinc 3 1, 3) := by decide +kernel
theorem d_12_aValue_99 : decode prog_14_method_40_code 99 = .ok (.goto (-45), 3) := by decide +kernel
theorem d_12_aValue_102 : decode prog_14_method_40_code 102 = .ok (.iload_n 2, 1) := by decide +kernel
theorem d_12_aValue_103 : decode prog_14_method_40_code 103 = .ok (.iconst 1, 1) := by decide +kernel
theorem d_12_aValue_104 : decode prog_14_method_40_code 104 = .ok (.iconst 4, 1) := by decide +kernel
theorem d_12_aValue_105 : decode prog_14_method_40_code 105 = .ok (.invokestatic 56, 3) := by decide +kernel
theorem d_12_aValue_108 : decode prog_14_method_40_code 108 = .ok (.ireturn, 1) := by decide +kernel
theorem d_12_rowOf_0 : decode prog_14_method_23_code 0 = .ok (.iload_n 1, 1) := by decide +kernel
theorem d_12_rowOf_1 : decode prog_14_method_23_code 1 = .ok (.ifCond .ge 8, 3) := by decide +kernel
theorem d_12_rowOf_4 : decode prog_14_method_23_code 4 = .ok (.bipush 24, 2) := by decide +kernel
theorem d_12_rowOf_6 : decode prog_14_method_23_code 6 = .ok (.goto 4, 3) := by decide +kernel
theorem d_12_rowOf_9 : decode prog_14_method_23_code 9 = .ok (.iconst 0, 1) := by decide +kernel
theorem d_12_rowOf_10 : decode prog_14_method_23_code 10 = .ok (.istore_n 2, 1) := by decide +kernel
theorem d_12_rowOf_11 : decode prog_14_method_23_code 11 = .ok (.iload_n 2, 1) := by decide +kernel
theorem d_12_rowOf_12 : decode prog_14_method_23_code 12 = .ok (.bipush 24, 2) := by decide +kernel
theorem d_12_rowOf_14 : decode prog_14_method_23_code 14 = .ok (.if_icmp .ge 25, 3) := by decide +kernel
theorem d_12_rowOf_17 : decode prog_14_method_23_code 17 = .ok (.aload_n 0, 1) := by decide +kernel
theorem d_12_rowOf_18 : decode prog_14_method_23_code 18 = .ok (.getfield 13, 3) := by decide +kernel
theorem d_12_rowOf_21 : decode prog_14_method_23_code 21 = .ok (.bipush 9, 2) := by decide +kernel
theorem d_12_rowOf_23 : decode prog_14_method_23_code 23 = .ok (.bipush 11, 2) := by decide +kernel
theorem d_12_rowOf_25 : decode prog_14_method_23_code 25 = .ok (.iload_n 2, 1) := by decide +kernel
theorem d_12_rowOf_26 : decode prog_14_method_23_code 26 = .ok (.imul, 1) := by decide +kernel
theorem d_12_rowOf_27 : decode prog_14_method_23_code 27 = .ok (.iadd, 1) := by decide +kernel
theorem d_12_rowOf_28 : decode prog_14_method_23_code 28 = .ok (.iaload, 1) := by decide +kernel
theorem d_12_rowOf_29 : decode prog_14_method_23_code 29 = .ok (.iload_n 1, 1) := by decide +kernel
theorem d_12_rowOf_30 : decode prog_14_method_23_code 30 = .ok (.if_icmp .eq 9, 3) := by decide +kernel
theorem d_12_rowOf_33 : decode prog_14_method_23_code 33 = .ok (.iinc 2 1, 3) := by decide +kernel
theorem d_12_rowOf_36 : decode prog_14_method_23_code 36 = .ok (.goto (-25), 3) := by decide +kernel
theorem d_12_rowOf_39 : decode prog_14_method_23_code 39 = .ok (.iload_n 2, 1) := by decide +kernel
theorem d_12_rowOf_40 : decode prog_14_method_23_code 40 = .ok (.bipush 24, 2) := by decide +kernel
theorem d_12_rowOf_42 : decode prog_14_method_23_code 42 = .ok (.if_icmp .ne 7, 3) := by decide +kernel
theorem d_12_rowOf_45 : decode prog_14_method_23_code 45 = .ok (.iconst (-1), 1) := by decide +kernel
theorem d_12_rowOf_46 : decode prog_14_method_23_code 46 = .ok (.goto 10, 3) := by decide +kernel
theorem d_12_rowOf_49 : decode prog_14_method_23_code 49 = .ok (.bipush 9, 2) := by decide +kernel
theorem d_12_rowOf_51 : decode prog_14_method_23_code 51 = .ok (.bipush 11, 2) := by decide +kernel
theorem d_12_rowOf_53 : decode prog_14_method_23_code 53 = .ok (.iload_n 2, 1) := by decide +kernel
theorem d_12_rowOf_54 : decode prog_14_method_23_code 54 = .ok (.imul, 1) := by decide +kernel
theorem d_12_rowOf_55 : decode prog_14_method_23_code 55 = .ok (.iadd, 1) := by decide +kernel
theorem d_12_rowOf_56 : decode prog_14_method_23_code 56 = .ok (.ireturn, 1) := by decide +kernel
theorem d_12_puts_0 : decode prog_14_method_20_code 0 = .ok (.aload_n 0, 1) := by decide +kernel
theorem d_12_puts_1 : decode prog_14_method_20_code 1 = .ok (.iload_n 1, 1) := by decide +kernel
theorem d_12_puts_2 : decode prog_14_method_20_code 2 = .ok (.invokevirtual 64, 3) := by decide +kernel
theorem d_12_puts_5 : decode prog_14_method_20_code 5 = .ok (.istore 4, 2) := by decide +kernel
theorem d_12_puts_7 : decode prog_14_method_20_code 7 = .ok (.iload 4, 2) := by decide +kernel
theorem d_12_puts_9 : decode prog_14_method_20_code 9 = .ok (.iload_n 2, 1) := by decide +kernel
theorem d_12_puts_10 : decode prog_14_method_20_code 10 = .ok (.if_icmp .le 29, 3) := by decide +kernel
theorem d_12_puts_13 : decode prog_14_method_20_code 13 = .ok (.aload_n 0, 1) := by decide +kernel
theorem d_12_puts_14 : decode prog_14_method_20_code 14 = .ok (.getfield 13, 3) := by decide +kernel
theorem d_12_puts_17 : decode prog_14_method_20_code 17 = .ok (.iload_n 1, 1) := by decide +kernel
theorem d_12_puts_18 : decode prog_14_method_20_code 18 = .ok (.iconst 1, 1) := by decide +kernel
theorem d_12_puts_19 : decode prog_14_method_20_code 19 = .ok (.iadd, 1) := by decide +kernel
theorem d_12_puts_20 : decode prog_14_method_20_code 20 = .ok (.iload 4, 2) := by decide +kernel
theorem d_12_puts_22 : decode prog_14_method_20_code 22 = .ok (.iadd, 1) := by decide +kernel
theorem d_12_puts_23 : decode prog_14_method_20_code 23 = .ok (.aload_n 0, 1) := by decide +kernel
theorem d_12_puts_24 : decode prog_14_method_20_code 24 = .ok (.getfield 13, 3) := by decide +kernel
theorem d_12_puts_27 : decode prog_14_method_20_code 27 = .ok (.iload_n 1, 1) := by decide +kernel
theorem d_12_puts_28 : decode prog_14_method_20_code 28 = .ok (.iload 4, 2) := by decide +kernel
theorem d_12_puts_30 : decode prog_14_method_20_code 30 = .ok (.iadd, 1) := by decide +kernel
theorem d_12_puts_31 : decode prog_14_method_20_code 31 = .ok (.iaload, 1) := by decide +kernel
theorem d_12_puts_32 : decode prog_14_method_20_code 32 = .ok (.iastore, 1) := by decide +kernel
theorem d_12_puts_33 : decode prog_14_method_20_code 33 = .ok (.iinc 4 (-1), 3) := by decide +kernel
theorem d_12_puts_36 : decode prog_14_method_20_code 36 = .ok (.goto (-29), 3) := by decide +kernel
theorem d_12_puts_39 : decode prog_14_method_20_code 39 = .ok (.aload_n 0, 1) := by decide +kernel
theorem d_12_puts_40 : decode prog_14_method_20_code 40 = .ok (.getfield 13, 3) := by decide +kernel
theorem d_12_puts_43 : decode prog_14_method_20_code 43 = .ok (.iload_n 1, 1) := by decide +kernel
theorem d_12_puts_44 : decode prog_14_method_20_code 44 = .ok (.iconst 1, 1) := by decide +kernel
theorem d_12_puts_45 : decode prog_14_method_20_code 45 = .ok (.iadd, 1) := by decide +kernel
theorem d_12_puts_46 : decode prog_14_method_20_code 46 = .ok (.iload_n 2, 1) := by decide +kernel
theorem d_12_puts_47 : decode prog_14_method_20_code 47 = .ok (.iadd, 1) := by decide +kernel
theorem d_12_puts_48 : decode prog_14_method_20_code 48 = .ok (.iload_n 3, 1) := by decide +kernel
theorem d_12_puts_49 : decode prog_14_method_20_code 49 = .ok (.iastore, 1) := by decide +kernel
theorem d_12_puts_50 : decode prog_14_method_20_code 50 = .ok (.aload_n 0, 1) := by decide +kernel
theorem d_12_puts_51 : decode prog_14_method_20_code 51 = .ok (.getfield 13, 3) := by decide +kernel
theorem d_12_puts_54 : decode prog_14_method_20_code 54 = .ok (.iload_n 1, 1) := by decide +kernel
theorem d_12_puts_55 : decode prog_14_method_20_code 55 = .ok (.dup2, 1) := by decide +kernel
theorem d_12_puts_56 : decode prog_14_method_20_code 56 = .ok (.iaload, 1) := by decide +kernel
theorem d_12_puts_57 : decode prog_14_method_20_code 57 = .ok (.iconst 1, 1) := by decide +kernel
theorem d_12_puts_58 : decode prog_14_method_20_code 58 = .ok (.iadd, 1) := by decide +kernel
theorem d_12_puts_59 : decode prog_14_method_20_code 59 = .ok (.iastore, 1) := by decide +kernel
theorem d_12_puts_60 : decode prog_14_method_20_code 60 = .ok (.return_, 1) := by decide +kernel
theorem d_12_putsLast_0 : decode prog_14_method_21_code 0 = .ok (.aload_n 0, 1) := by decide +kernel
theorem d_12_putsLast_1 : decode prog_14_method_21_code 1 = .ok (.iload_n 1, 1) := by decide +kernel
theorem d_12_putsLast_2 : decode prog_14_method_21_code 2 = .ok (.aload_n 0, 1) := by decide +kernel
theorem d_12_putsLast_3 : decode prog_14_method_21_code 3 = .ok (.iload_n 1, 1) := by decide +kernel
theorem d_12_putsLast_4 : decode prog_14_method_21_code 4 = .ok (.invokevirtual 64, 3) := by decide +kernel
theorem d_12_putsLast_7 : decode prog_14_method_21_code 7 = .ok (.iload_n 2, 1) := by decide +kernel
theorem d_12_putsLast_8 : decode prog_14_method_21_code 8 = .ok (.invokevirtual 74, 3) := by decide +kernel
theorem d_12_putsLast_11 : decode prog_14_method_21_code 11 = .ok (.return_, 1) := by decide +kernel
theorem d_12_viewAt_0 : decode prog_14_method_11_code 0 = .ok (.sipush 298, 3) := by decide +kernel
theorem d_12_viewAt_3 : decode prog_14_method_11_code 3 = .ok (.sipush 2114, 3) := by decide +kernel
theorem d_12_viewAt_6 : decode prog_14_method_11_code 6 = .ok (.iload_n 0, 1) := by decide +kernel
theorem d_12_viewAt_7 : decode prog_14_method_11_code 7 = .ok (.imul, 1) := by decide +kernel
theorem d_12_viewAt_8 : decode prog_14_method_11_code 8 = .ok (.iadd, 1) := by decide +kernel
theorem d_12_viewAt_9 : decode prog_14_method_11_code 9 = .ok (.iload_n 1, 1) := by decide +kernel
theorem d_12_viewAt_10 : decode prog_14_method_11_code 10 = .ok (.iadd, 1) := by decide +kernel
theorem d_12_viewAt_11 : decode prog_14_method_11_code 11 = .ok (.ireturn, 1) := by decide +kernel
theorem d_12_filterAt_0 : decode prog_14_method_47_code 0 = .ok (.iload_n 0, 1) := by decide +kernel
theorem d_12_filterAt_1 : decode prog_14_method_47_code 1 = .ok (.bipush 30, 2) := by decide +kernel
theorem d_12_filterAt_3 : decode prog_14_method_47_code 3 = .ok (.bipush 31, 2) := by decide +kernel
theorem d_12_filterAt_5 : decode prog_14_method_47_code 5 = .ok (.iload_n 1, 1) := by decide +kernel
theorem d_12_filterAt_6 : decode prog_14_method_47_code 6 = .ok (.imul, 1) := by decide +kernel
theorem d_12_filterAt_7 : decode prog_14_method_47_code 7 = .ok (.iadd, 1) := by decide +kernel
theorem d_12_filterAt_8 : decode prog_14_method_47_code 8 = .ok (.invokestatic 52, 3) := by decide +kernel
theorem d_12_filterAt_11 : decode prog_14_method_47_code 11 = .ok (.ireturn, 1) := by decide +kernel
theorem d_12_cellOf_0 : decode prog_14_method_24_code 0 = .ok (.aload_n 0, 1) := by decide +kernel
theorem d_12_cellOf_1 : decode prog_14_method_24_code 1 = .ok (.getfield 13, 3) := by decide +kernel
theorem d_12_cellOf_4 : decode prog_14_method_24_code 4 = .ok (.aload_n 0, 1) := by decide +kernel
theorem d_12_cellOf_5 : decode prog_14_method_24_code 5 = .ok (.iload_n 1, 1) := by decide +kernel
theorem d_12_cellOf_6 : decode prog_14_method_24_code 6 = .ok (.invokevirtual 81, 3) := by decide +kernel
theorem d_12_cellOf_9 : decode prog_14_method_24_code 9 = .ok (.iconst 1, 1) := by decide +kernel
theorem d_12_cellOf_10 : decode prog_14_method_24_code 10 = .ok (.iadd, 1) := by decide +kernel
theorem d_12_cellOf_11 : decode prog_14_method_24_code 11 = .ok (.iload_n 2, 1) := by decide +kernel
theorem d_12_cellOf_12 : decode prog_14_method_24_code 12 = .ok (.iadd, 1) := by decide +kernel
theorem d_12_cellOf_13 : decode prog_14_method_24_code 13 = .ok (.iaload, 1) := by decide +kernel
theorem d_12_cellOf_14 : decode prog_14_method_24_code 14 = .ok (.ireturn, 1) := by decide +kernel
theorem d_12_testAt_0 : decode prog_14_method_48_code 0 = .ok (.iload_n 0, 1) := by decide +kernel
theorem d_12_testAt_1 : decode prog_14_method_48_code 1 = .ok (.iload_n 1, 1) := by decide +kernel
theorem d_12_testAt_2 : decode prog_14_method_48_code 2 = .ok (.invokestatic 189, 3) := by decide +kernel
theorem d_12_testAt_5 : decode prog_14_method_48_code 5 = .ok (.iconst 1, 1) := by decide +kernel
theorem d_12_testAt_6 : decode prog_14_method_48_code 6 = .ok (.iadd, 1) := by decide +kernel
theorem d_12_testAt_7 : decode prog_14_method_48_code 7 = .ok (.iconst 5, 1) := by decide +kernel
theorem d_12_testAt_8 : decode prog_14_method_48_code 8 = .ok (.iload_n 2, 1) := by decide +kernel
theorem d_12_testAt_9 : decode prog_14_method_48_code 9 = .ok (.imul, 1) := by decide +kernel
theorem d_12_testAt_10 : decode prog_14_method_48_code 10 = .ok (.iadd, 1) := by decide +kernel
theorem d_12_testAt_11 : decode prog_14_method_48_code 11 = .ok (.ireturn, 1) := by decide +kernel
theorem d_12_isPattern_0 : decode prog_14_method_58_code 0 = .ok (.iload_n 1, 1) := by decide +kernel
theorem d_12_isPattern_1 : decode prog_14_method_58_code 1 = .ok (.ldc 84, 2) := by decide +kernel
theorem d_12_isPattern_3 : decode prog_14_method_58_code 3 = .ok (.if_icmp .ne 5, 3) := by decide +kernel
theorem d_12_isPattern_6 : decode prog_14_method_58_code 6 = .ok (.iconst 0, 1) := by decide +kernel
theorem d_12_isPattern_7 : decode prog_14_method_58_code 7 = .ok (.ireturn, 1) := by decide +kernel
theorem d_12_isPattern_8 : decode prog_14_method_58_code 8 = .ok (.aload_n 0, 1) := by decide +kernel
theorem d_12_isPattern_9 : decode prog_14_method_58_code 9 = .ok (.getfield 13, 3) := by decide +kernel
theorem d_12_isPattern_12 : decode prog_14_method_58_code 12 = .ok (.iload_n 2, 1) := by decide +kernel
theorem d_12_isPattern_13 : decode prog_14_method_58_code 13 = .ok (.iconst 3, 1) := by decide +kernel
theorem d_12_isPattern_14 : decode prog_14_method_58_code 14 = .ok (.iadd, 1) := by decide +kernel
theorem d_12_isPattern_15 : decode prog_14_method_58_code 15 = .ok (.iaload, 1) := by decide +kernel
theorem d_12_isPattern_16 : decode prog_14_method_58_code 16 = .ok (.istore_n 3, 1) := by decide +kernel
theorem d_12_isPattern_17 : decode prog_14_method_58_code 17 = .ok (.aload_n 0, 1) := by decide +kernel
theorem d_12_isPattern_18 : decode prog_14_method_58_code 18 = .ok (.getfield 13, 3) := by decide +kernel
theorem d_12_isPattern_21 : decode prog_14_method_58_code 21 = .ok (.iload_n 2, 1) := by decide +kernel
theorem d_12_isPattern_22 : decode prog_14_method_58_code 22 = .ok (.iconst 2, 1) := by decide +kernel
theorem d_12_isPattern_23 : decode prog_14_method_58_code 23 = .ok (.iadd, 1) := by decide +kernel
theorem d_12_isPattern_24 : decode prog_14_method_58_code 24 = .ok (.iaload, 1) := by decide +kernel
theorem d_12_isPattern_25 : decode prog_14_method_58_code 25 = .ok (.istore 4, 2) := by decide +kernel
theorem d_12_isPattern_27 : decode prog_14_method_58_code 27 = .ok (.iconst 1, 1) := by decide +kernel
theorem d_12_isPattern_28 : decode prog_14_method_58_code 28 = .ok (.istore 5, 2) := by decide +kernel
theorem d_12_isPattern_30 : decode prog_14_method_58_code 30 = .ok (.iload_n 1, 1) := by decide +kernel
theorem d_12_isPattern_31 : decode prog_14_method_58_code 31 = .ok (.istore 6, 2) := by decide +kernel
theorem d_12_isPattern_33 : decode prog_14_method_58_code 33 = .ok (.iconst 0, 1) := by decide +kernel
theorem d_12_isPattern_34 : decode prog_14_method_58_code 34 = .ok (.istore 7, 2) := by decide +kernel
theorem d_12_isPattern_36 : decode prog_14_method_58_code 36 = .ok (.iconst 3, 1) := by decide +kernel
theorem d_12_isPattern_37 : decode prog_14_method_58_code 37 = .ok (.istore 8, 2) := by decide +kernel
theorem d_12_isPattern_39 : decode prog_14_method_58_code 39 = .ok (.iload 8, 2) := by decide +kernel
theorem d_12_isPattern_41 : decode prog_14_method_58_code 41 = .ok (.ifCond .lt 92, 3) := by decide +kernel
theorem d_12_isPattern_44 : decode prog_14_method_58_code 44 = .ok (.iload 6, 2) := by decide +kernel
theorem d_12_isPattern_46 : decode prog_14_method_58_code 46 = .ok (.bipush 27, 2) := by decide +kernel
theorem d_12_isPattern_48 : decode prog_14_method_58_code 48 = .ok (.irem, 1) := by decide +kernel
theorem d_12_isPattern_49 : decode prog_14_method_58_code 49 = .ok (.istore 9, 2) := by decide +kernel
theorem d_12_isPattern_51 : decode prog_14_method_58_code 51 = .ok (.iload 6, 2) := by decide +kernel
theorem d_12_isPattern_53 : decode prog_14_method_58_code 53 = .ok (.bipush 27, 2) := by decide +kernel
theorem d_12_isPattern_55 : decode prog_14_method_58_code 55 = .ok (.idiv, 1) := by decide +kernel
theorem d_12_isPattern_56 : decode prog_14_method_58_code 56 = .ok (.istore 6, 2) := by decide +kernel
theorem d_12_isPattern_58 : decode prog_14_method_58_code 58 = .ok (.iload 7, 2) := by decide +kernel
theorem d_12_isPattern_60 : decode prog_14_method_58_code 60 = .ok (.iload 9, 2) := by decide +kernel
theorem d_12_isPattern_62 : decode prog_14_method_58_code 62 = .ok (.ifCond .le 7, 3) := by decide +kernel
theorem d_12_isPattern_65 : decode prog_14_method_58_code 65 = .ok (.iconst 1, 1) := by decide +kernel
theorem d_12_isPattern_66 : decode prog_14_method_58_code 66 = .ok (.goto 4, 3) := by decide +kernel
theorem d_12_isPattern_69 : decode prog_14_method_58_code 69 = .ok (.iconst 0, 1) := by decide +kernel
theorem d_12_isPattern_70 : decode prog_14_method_58_code 70 = .ok (.iadd, 1) := by decide +kernel
theorem d_12_isPattern_71 : decode prog_14_method_58_code 71 = .ok (.istore 7, 2) := by decide +kernel
theorem d_12_isPattern_73 : decode prog_14_method_58_code 73 = .ok (.iload 8, 2) := by decide +kernel
theorem d_12_isPattern_75 : decode prog_14_method_58_code 75 = .ok (.iload_n 3, 1) := by decide +kernel
theorem d_12_isPattern_76 : decode prog_14_method_58_code 76 = .ok (.if_icmp .lt 6, 3) := by decide +kernel
theorem d_12_isPattern_79 : decode prog_14_method_58_code 79 = .ok (.goto 48, 3) := by decide +kernel
theorem d_12_isPattern_82 : decode prog_14_method_58_code 82 = .ok (.iload 4, 2) := by decide +kernel
theorem d_12_isPattern_84 : decode prog_14_method_58_code 84 = .ok (.bipush 32, 2) := by decide +kernel
theorem d_12_isPattern_86 : decode prog_14_method_58_code 86 = .ok (.irem, 1) := by decide +kernel
theorem d_12_isPattern_87 : decode prog_14_method_58_code 87 = .ok (.istore 10, 2) := by decide +kernel
theorem d_12_isPattern_89 : decode prog_14_method_58_code 89 = .ok (.iload 4, 2) := by decide +kernel
theorem d_12_isPattern_91 : decode prog_14_method_58_code 91 = .ok (.bipush 32, 2) := by decide +kernel
theorem d_12_isPattern_93 : decode prog_14_method_58_code 93 = .ok (.idiv, 1) := by decide +kernel
theorem d_12_isPattern_94 : decode prog_14_method_58_code 94 = .ok (.istore 4, 2) := by decide +kernel
theorem d_12_isPattern_96 : decode prog_14_method_58_code 96 = .ok (.iload 5, 2) := by decide +kernel
theorem d_12_isPattern_98 : decode prog_14_method_58_code 98 = .ok (.ifCond .eq 26, 3) := by decide +kernel
theorem d_12_isPattern_101 : decode prog_14_method_58_code 101 = .ok (.iload 9, 2) := by decide +kernel
theorem d_12_isPattern_103 : decode prog_14_method_58_code 103 = .ok (.ifCond .le 21, 3) := by decide +kernel
theorem d_12_isPattern_106 : decode prog_14_method_58_code 106 = .ok (.iload 10, 2) := by decide +kernel
theorem d_12_isPattern_108 : decode prog_14_method_58_code 108 = .ok (.bipush 27, 2) := by decide +kernel
theorem d_12_isPattern_110 : decode prog_14_method_58_code 110 = .ok (.if_icmp .eq 10, 3) := by decide +kernel
theorem d_12_isPattern_113 : decode prog_14_method_58_code 113 = .ok (.iload 10, 2) := by decide +kernel
theorem d_12_isPattern_115 : decode prog_14_method_58_code 115 = .ok (.iload 9, 2) := by decide +kernel
theorem d_12_isPattern_117 : decode prog_14_method_58_code 117 = .ok (.if_icmp .ne 7, 3) := by decide +kernel
theorem d_12_isPattern_120 : decode prog_14_method_58_code 120 = .ok (.iconst 1, 1) := by decide +kernel
theorem d_12_isPattern_121 : decode prog_14_method_58_code 121 = .ok (.goto 4, 3) := by decide +kernel
theorem d_12_isPattern_124 : decode prog_14_method_58_code 124 = .ok (.iconst 0, 1) := by decide +kernel
theorem d_12_isPattern_125 : decode prog_14_method_58_code 125 = .ok (.istore 5, 2) := by decide +kernel
theorem d_12_isPattern_127 : decode prog_14_method_58_code 127 = .ok (.iinc 8 (-1), 3) := by decide +kernel
theorem d_12_isPattern_130 : decode prog_14_method_58_code 130 = .ok (.goto (-91), 3) := by decide +kernel
theorem d_12_isPattern_133 : decode prog_14_method_58_code 133 = .ok (.iload 5, 2) := by decide +kernel
theorem d_12_isPattern_135 : decode prog_14_method_58_code 135 = .ok (.ifCond .eq 25, 3) := by decide +kernel
theorem d_12_isPattern_138 : decode prog_14_method_58_code 138 = .ok (.iload 7, 2) := by decide +kernel
theorem d_12_isPattern_140 : decode prog_14_method_58_code 140 = .ok (.iload_n 3, 1) := by decide +kernel
theorem d_12_isPattern_141 : decode prog_14_method_58_code 141 = .ok (.if_icmp .eq 15, 3) := by decide +kernel
theorem d_12_isPattern_144 : decode prog_14_method_58_code 144 = .ok (.aload_n 0, 1) := by decide +kernel
theorem d_12_isPattern_145 : decode prog_14_method_58_code 145 = .ok (.getfield 13, 3) := by decide +kernel
theorem d_12_isPattern_148 : decode prog_14_method_58_code 148 = .ok (.iload_n 2, 1) := by decide +kernel
theorem d_12_isPattern_149 : decode prog_14_method_58_code 149 = .ok (.iconst 4, 1) := by decide +kernel
theorem d_12_isPattern_150 : decode prog_14_method_58_code 150 = .ok (.iadd, 1) := by decide +kernel
theorem d_12_isPattern_151 : decode prog_14_method_58_code 151 = .ok (.iaload, 1) := by decide +kernel
theorem d_12_isPattern_152 : decode prog_14_method_58_code 152 = .ok (.iconst 1, 1) := by decide +kernel
theorem d_12_isPattern_153 : decode prog_14_method_58_code 153 = .ok (.if_icmp .ne 7, 3) := by decide +kernel
theorem d_12_isPattern_156 : decode prog_14_method_58_code 156 = .ok (.iconst 1, 1) := by decide +kernel
theorem d_12_isPattern_157 : decode prog_14_method_58_code 157 = .ok (.goto 4, 3) := by decide +kernel
theorem d_12_isPattern_160 : decode prog_14_method_58_code 160 = .ok (.iconst 0, 1) := by decide +kernel
theorem d_12_isPattern_161 : decode prog_14_method_58_code 161 = .ok (.ireturn, 1) := by decide +kernel
theorem d_12_isAsTest_0 : decode prog_14_method_59_code 0 = .ok (.aload_n 0, 1) := by decide +kernel
theorem d_12_isAsTest_1 : decode prog_14_method_59_code 1 = .ok (.getfield 13, 3) := by decide +kernel
theorem d_12_isAsTest_4 : decode prog_14_method_59_code 4 = .ok (.iload_n 2, 1) := by decide +kernel
theorem d_12_isAsTest_5 : decode prog_14_method_59_code 5 = .ok (.iconst 1, 1) := by decide +kernel
theorem d_12_isAsTest_6 : decode prog_14_method_59_code 6 = .ok (.iadd, 1) := by decide +kernel
theorem d_12_isAsTest_7 : decode prog_14_method_59_code 7 = .ok (.iaload, 1) := by decide +kernel
theorem d_12_isAsTest_8 : decode prog_14_method_59_code 8 = .ok (.istore_n 3, 1) := by decide +kernel
theorem d_12_isAsTest_9 : decode prog_14_method_59_code 9 = .ok (.iload_n 3, 1) := by decide +kernel
theorem d_12_isAsTest_10 : decode prog_14_method_59_code 10 = .ok (.ifCond .ne 17, 3) := by decide +kernel
theorem d_12_isAsTest_13 : decode prog_14_method_59_code 13 = .ok (.iload_n 1, 1) := by decide +kernel
theorem d_12_isAsTest_14 : decode prog_14_method_59_code 14 = .ok (.ldc 84, 2) := by decide +kernel
theorem d_12_isAsTest_16 : decode prog_14_method_59_code 16 = .ok (.if_icmp .ne 7, 3) := by decide +kernel
theorem d_12_isAsTest_19 : decode prog_14_method_59_code 19 = .ok (.iconst 1, 1) := by decide +kernel
theorem d_12_isAsTest_20 : decode prog_14_method_59_code 20 = .ok (.goto 55, 3) := by decide +kernel
theorem d_12_isAsTest_23 : decode prog_14_method_59_code 23 = .ok (.iconst 0, 1) := by decide +kernel
theorem d_12_isAsTest_24 : decode prog_14_method_59_code 24 = .ok (.goto 51, 3) := by decide +kernel
theorem d_12_isAsTest_27 : decode prog_14_method_59_code 27 = .ok (.iload_n 3, 1) := by decide +kernel
theorem d_12_isAsTest_28 : decode prog_14_method_59_code 28 = .ok (.iconst 1, 1) := by decide +kernel
theorem d_12_isAsTest_29 : decode prog_14_method_59_code 29 = .ok (.if_icmp .ne 40, 3) := by decide +kernel
theorem d_12_isAsTest_32 : decode prog_14_method_59_code 32 = .ok (.iload_n 1, 1) := by decide +kernel
theorem d_12_isAsTest_33 : decode prog_14_method_59_code 33 = .ok (.ldc 84, 2) := by decide +kernel
theorem d_12_isAsTest_35 : decode prog_14_method_59_code 35 = .ok (.if_icmp .eq 30, 3) := by decide +kernel
theorem d_12_isAsTest_38 : decode prog_14_method_59_code 38 = .ok (.iload_n 1, 1) := by decide +kernel
theorem d_12_isAsTest_39 : decode prog_14_method_59_code 39 = .ok (.aload_n 0, 1) := by decide +kernel
theorem d_12_isAsTest_40 : decode prog_14_method_59_code 40 = .ok (.getfield 13, 3) := by decide +kernel
theorem d_12_isAsTest_43 : decode prog_14_method_59_code 43 = .ok (.iload_n 2, 1) := by decide +kernel
theorem d_12_isAsTest_44 : decode prog_14_method_59_code 44 = .ok (.iconst 2, 1) := by decide +kernel
theorem d_12_isAsTest_45 : decode prog_14_method_59_code 45 = .ok (.iadd, 1) := by decide +kernel
theorem d_12_isAsTest_46 : decode prog_14_method_59_code 46 = .ok (.iaload, 1) := by decide +kernel
theorem d_12_isAsTest_47 : decode prog_14_method_59_code 47 = .ok (.aload_n 0, 1) := by decide +kernel
theorem d_12_isAsTest_48 : decode prog_14_method_59_code 48 = .ok (.getfield 13, 3) := by decide +kernel
theorem d_12_isAsTest_51 : decode prog_14_method_59_code 51 = .ok (.iload_n 2, 1) := by decide +kernel
theorem d_12_isAsTest_52 : decode prog_14_method_59_code 52 = .ok (.iconst 3, 1) := by decide +kernel
theorem d_12_isAsTest_53 : decode prog_14_method_59_code 53 = .ok (.iadd, 1) := by decide +kernel
theorem d_12_isAsTest_54 : decode prog_14_method_59_code 54 = .ok (.iaload, 1) := by decide +kernel
theorem d_12_isAsTest_55 : decode prog_14_method_59_code 55 = .ok (.invokestatic 56, 3) := by decide +kernel
theorem d_12_isAsTest_58 : decode prog_14_method_59_code 58 = .ok (.ifCond .eq 7, 3) := by decide +kernel
theorem d_12_isAsTest_61 : decode prog_14_method_59_code 61 = .ok (.iconst 1, 1) := by decide +kernel
theorem d_12_isAsTest_62 : decode prog_14_method_59_code 62 = .ok (.goto 13, 3) := by decide +kernel
theorem d_12_isAsTest_65 : decode prog_14_method_59_code 65 = .ok (.iconst 0, 1) := by decide +kernel
theorem d_12_isAsTest_66 : decode prog_14_method_59_code 66 = .ok (.goto 9, 3) := by decide +kernel
theorem d_12_isAsTest_69 : decode prog_14_method_59_code 69 = .ok (.aload_n 0, 1) := by decide +kernel
theorem d_12_isAsTest_70 : decode prog_14_method_59_code 70 = .ok (.iload_n 1, 1) := by decide +kernel
theorem d_12_isAsTest_71 : decode prog_14_method_59_code 71 = .ok (.iload_n 2, 1) := by decide +kernel
theorem d_12_isAsTest_72 : decode prog_14_method_59_code 72 = .ok (.invokevirtual 248, 3) := by decide +kernel
theorem d_12_isAsTest_75 : decode prog_14_method_59_code 75 = .ok (.istore 4, 2) := by decide +kernel
theorem d_12_isAsTest_77 : decode prog_14_method_59_code 77 = .ok (.iload 4, 2) := by decide +kernel
theorem d_12_isAsTest_79 : decode prog_14_method_59_code 79 = .ok (.aload_n 0, 1) := by decide +kernel
theorem d_12_isAsTest_80 : decode prog_14_method_59_code 80 = .ok (.getfield 13, 3) := by decide +kernel
theorem d_12_isAsTest_83 : decode prog_14_method_59_code 83 = .ok (.iload_n 2, 1) := by decide +kernel
theorem d_12_isAsTest_84 : decode prog_14_method_59_code 84 = .ok (.iconst 0, 1) := by decide +kernel
theorem d_12_isAsTest_85 : decode prog_14_method_59_code 85 = .ok (.iadd, 1) := by decide +kernel
theorem d_12_isAsTest_86 : decode prog_14_method_59_code 86 = .ok (.iaload, 1) := by decide +kernel
theorem d_12_isAsTest_87 : decode prog_14_method_59_code 87 = .ok (.iconst 1, 1) := by decide +kernel
theorem d_12_isAsTest_88 : decode prog_14_method_59_code 88 = .ok (.if_icmp .ne 7, 3) := by decide +kernel
theorem d_12_isAsTest_91 : decode prog_14_method_59_code 91 = .ok (.iconst 1, 1) := by decide +kernel
theorem d_12_isAsTest_92 : decode prog_14_method_59_code 92 = .ok (.goto 4, 3) := by decide +kernel
theorem d_12_isAsTest_95 : decode prog_14_method_59_code 95 = .ok (.iconst 0, 1) := by decide +kernel
theorem d_12_isAsTest_96 : decode prog_14_method_59_code 96 = .ok (.if_icmp .eq 7, 3) := by decide +kernel
theorem d_12_isAsTest_99 : decode prog_14_method_59_code 99 = .ok (.iconst 1, 1) := by decide +kernel
theorem d_12_isAsTest_100 : decode prog_14_method_59_code 100 = .ok (.goto 4, 3) := by decide +kernel
theorem d_12_isAsTest_103 : decode prog_14_method_59_code 103 = .ok (.iconst 0, 1) := by decide +kernel
theorem d_12_isAsTest_104 : decode prog_14_method_59_code 104 = .ok (.ireturn, 1) := by decide +kernel
theorem d_12_isAsFilter_0 : decode prog_14_method_60_code 0 = .ok (.aload_n 0, 1) := by decide +kernel
theorem d_12_isAsFilter_1 : decode prog_14_method_60_code 1 = .ok (.getfield 13, 3) := by decide +kernel
theorem d_12_isAsFilter_4 : decode prog_14_method_60_code 4 = .ok (.iload_n 1, 1) := by decide +kernel
theorem d_12_isAsFilter_5 : decode prog_14_method_60_code 5 = .ok (.iload_n 3, 1) := by decide +kernel
theorem d_12_isAsFilter_6 : decode prog_14_method_60_code 6 = .ok (.invokestatic 189, 3) := by decide +kernel
theorem d_12_isAsFilter_9 : decode prog_14_method_60_code 9 = .ok (.iaload, 1) := by decide +kernel
theorem d_12_isAsFilter_10 : decode prog_14_method_60_code 10 = .ok (.istore 4, 2) := by decide +kernel
theorem d_12_isAsFilter_12 : decode prog_14_method_60_code 12 = .ok (.iload 4, 2) := by decide +kernel
theorem d_12_isAsFilter_14 : decode prog_14_method_60_code 14 = .ok (.ifCond .ne 7, 3) := by decide +kernel
theorem d_12_isAsFilter_17 : decode prog_14_method_60_code 17 = .ok (.iconst 1, 1) := by decide +kernel
theorem d_12_isAsFilter_18 : decode prog_14_method_60_code 18 = .ok (.goto 4, 3) := by decide +kernel
theorem d_12_isAsFilter_21 : decode prog_14_method_60_code 21 = .ok (.iconst 0, 1) := by decide +kernel
theorem d_12_isAsFilter_22 : decode prog_14_method_60_code 22 = .ok (.istore 5, 2) := by decide +kernel
theorem d_12_isAsFilter_24 : decode prog_14_method_60_code 24 = .ok (.iconst 0, 1) := by decide +kernel
theorem d_12_isAsFilter_25 : decode prog_14_method_60_code 25 = .ok (.istore 6, 2) := by decide +kernel
theorem d_12_isAsFilter_27 : decode prog_14_method_60_code 27 = .ok (.iload 6, 2) := by decide +kernel
theorem d_12_isAsFilter_29 : decode prog_14_method_60_code 29 = .ok (.iload 4, 2) := by decide +kernel
theorem d_12_isAsFilter_31 : decode prog_14_method_60_code 31 = .ok (.if_icmp .ge 33, 3) := by decide +kernel
theorem d_12_isAsFilter_34 : decode prog_14_method_60_code 34 = .ok (.iload 5, 2) := by decide +kernel
theorem d_12_isAsFilter_36 : decode prog_14_method_60_code 36 = .ok (.ifCond .ne 28, 3) := by decide +kernel
theorem d_12_isAsFilter_39 : decode prog_14_method_60_code 39 = .ok (.aload_n 0, 1) := by decide +kernel
theorem d_12_isAsFilter_40 : decode prog_14_method_60_code 40 = .ok (.aload_n 0, 1) := by decide +kernel
theorem d_12_isAsFilter_41 : decode prog_14_method_60_code 41 = .ok (.iload_n 2, 1) := by decide +kernel
theorem d_12_isAsFilter_42 : decode prog_14_method_60_code 42 = .ok (.iload_n 3, 1) := by decide +kernel
theorem d_12_isAsFilter_43 : decode prog_14_method_60_code 43 = .ok (.invokevirtual 251, 3) := by decide +kernel
theorem d_12_isAsFilter_46 : decode prog_14_method_60_code 46 = .ok (.iload_n 1, 1) := by decide +kernel
theorem d_12_isAsFilter_47 : decode prog_14_method_60_code 47 = .ok (.iload_n 3, 1) := by decide +kernel
theorem d_12_isAsFilter_48 : decode prog_14_method_60_code 48 = .ok (.iload 6, 2) := by decide +kernel
theorem d_12_isAsFilter_50 : decode prog_14_method_60_code 50 = .ok (.invokestatic 217, 3) := by decide +kernel
theorem d_12_isAsFilter_53 : decode prog_14_method_60_code 53 = .ok (.invokevirtual 254, 3) := by decide +kernel
theorem d_12_isAsFilter_56 : decode prog_14_method_60_code 56 = .ok (.istore 5, 2) := by decide +kernel
theorem d_12_isAsFilter_58 : decode prog_14_method_60_code 58 = .ok (.iinc 6 1, 3) := by decide +kernel
theorem d_12_isAsFilter_61 : decode prog_14_method_60_code 61 = .ok (.goto (-34), 3) := by decide +kernel
theorem d_12_isAsFilter_64 : decode prog_14_method_60_code 64 = .ok (.iload 5, 2) := by decide +kernel
theorem d_12_isAsFilter_66 : decode prog_14_method_60_code 66 = .ok (.ireturn, 1) := by decide +kernel
theorem d_12_whyNot_0 : decode prog_14_method_61_code 0 = .ok (.iconst 0, 1) := by decide +kernel
theorem d_12_whyNot_1 : decode prog_14_method_61_code 1 = .ok (.istore_n 3, 1) := by decide +kernel
theorem d_12_whyNot_2 : decode prog_14_method_61_code 2 = .ok (.iload_n 3, 1) := by decide +kernel
theorem d_12_whyNot_3 : decode prog_14_method_61_code 3 = .ok (.aload_n 0, 1) := by decide +kernel
theorem d_12_whyNot_4 : decode prog_14_method_61_code 4 = .ok (.invokevirtual 60, 3) := by decide +kernel
theorem d_12_whyNot_7 : decode prog_14_method_61_code 7 = .ok (.if_icmp .ge 19, 3) := by decide +kernel
theorem d_12_whyNot_10 : decode prog_14_method_61_code 10 = .ok (.aload_n 0, 1) := by decide +kernel
theorem d_12_whyNot_11 : decode prog_14_method_61_code 11 = .ok (.iload_n 1, 1) := by decide +kernel
theorem d_12_whyNot_12 : decode prog_14_method_61_code 12 = .ok (.iload_n 2, 1) := by decide +kernel
theorem d_12_whyNot_13 : decode prog_14_method_61_code 13 = .ok (.iload_n 3, 1) := by decide +kernel
theorem d_12_whyNot_14 : decode prog_14_method_61_code 14 = .ok (.invokevirtual 257, 3) := by decide +kernel
theorem d_12_whyNot_17 : decode prog_14_method_61_code 17 = .ok (.ifCond .eq 9, 3) := by decide +kernel
theorem d_12_whyNot_20 : decode prog_14_method_61_code 20 = .ok (.iinc 3 1, 3) := by decide +kernel
theorem d_12_whyNot_23 : decode prog_14_method_61_code 23 = .ok (.goto (-21), 3) := by decide +kernel
theorem d_12_whyNot_26 : decode prog_14_method_61_code 26 = .ok (.iload_n 3, 1) := by decide +kernel
theorem d_12_whyNot_27 : decode prog_14_method_61_code 27 = .ok (.aload_n 0, 1) := by decide +kernel
theorem d_12_whyNot_28 : decode prog_14_method_61_code 28 = .ok (.invokevirtual 60, 3) := by decide +kernel
theorem d_12_whyNot_31 : decode prog_14_method_61_code 31 = .ok (.if_icmp .ge 7, 3) := by decide +kernel
theorem d_12_whyNot_34 : decode prog_14_method_61_code 34 = .ok (.iload_n 3, 1) := by decide +kernel
theorem d_12_whyNot_35 : decode prog_14_method_61_code 35 = .ok (.goto 4, 3) := by decide +kernel
theorem d_12_whyNot_38 : decode prog_14_method_61_code 38 = .ok (.iconst (-1), 1) := by decide +kernel
theorem d_12_whyNot_39 : decode prog_14_method_61_code 39 = .ok (.ireturn, 1) := by decide +kernel
theorem d_12_isFit_0 : decode prog_14_method_62_code 0 = .ok (.aload_n 0, 1) := by decide +kernel
theorem d_12_isFit_1 : decode prog_14_method_62_code 1 = .ok (.iload_n 1, 1) := by decide +kernel
theorem d_12_isFit_2 : decode prog_14_method_62_code 2 = .ok (.iload_n 2, 1) := by decide +kernel
theorem d_12_isFit_3 : decode prog_14_method_62_code 3 = .ok (.invokevirtual 260, 3) := by decide +kernel
theorem d_12_isFit_6 : decode prog_14_method_62_code 6 = .ok (.iconst (-1), 1) := by decide +kernel
theorem d_12_isFit_7 : decode prog_14_method_62_code 7 = .ok (.if_icmp .ne 7, 3) := by decide +kernel
theorem d_12_isFit_10 : decode prog_14_method_62_code 10 = .ok (.iconst 1, 1) := by decide +kernel
theorem d_12_isFit_11 : decode prog_14_method_62_code 11 = .ok (.goto 4, 3) := by decide +kernel
theorem d_12_isFit_14 : decode prog_14_method_62_code 14 = .ok (.iconst 0, 1) := by decide +kernel
theorem d_12_isFit_15 : decode prog_14_method_62_code 15 = .ok (.ireturn, 1) := by decide +kernel
theorem d_12_listOf_0 : decode prog_14_method_12_code 0 = .ok (.iload_n 0, 1) := by decide +kernel
theorem d_12_listOf_1 : decode prog_14_method_12_code 1 = .ok (.iconst 0, 1) := by decide +kernel
theorem d_12_listOf_2 : decode prog_14_method_12_code 2 = .ok (.invokestatic 52, 3) := by decide +kernel
theorem d_12_listOf_5 : decode prog_14_method_12_code 5 = .ok (.ireturn, 1) := by decide +kernel
theorem d_12_readRow_0 : decode prog_14_method_43_code 0 = .ok (.aload_n 0, 1) := by decide +kernel
theorem d_12_readRow_1 : decode prog_14_method_43_code 1 = .ok (.invokevirtual 60, 3) := by decide +kernel
theorem d_12_readRow_4 : decode prog_14_method_43_code 4 = .ok (.ifCond .eq 12, 3) := by decide +kernel
theorem d_12_readRow_7 : decode prog_14_method_43_code 7 = .ok (.aload_n 0, 1) := by decide +kernel
theorem d_12_readRow_8 : decode prog_14_method_43_code 8 = .ok (.invokevirtual 144, 3) := by decide +kernel
theorem d_12_readRow_11 : decode prog_14_method_43_code 11 = .ok (.bipush 24, 2) := by decide +kernel
theorem d_12_readRow_13 : decode prog_14_method_43_code 13 = .ok (.if_icmp .ne 5, 3) := by decide +kernel
theorem d_12_readRow_16 : decode prog_14_method_43_code 16 = .ok (.iconst 0, 1) := by decide +kernel
theorem d_12_readRow_17 : decode prog_14_method_43_code 17 = .ok (.ireturn, 1) := by decide +kernel
theorem d_12_readRow_18 : decode prog_14_method_43_code 18 = .ok (.aload_n 0, 1) := by decide +kernel
theorem d_12_readRow_19 : decode prog_14_method_43_code 19 = .ok (.invokevirtual 147, 3) := by decide +kernel
theorem d_12_readRow_22 : decode prog_14_method_43_code 22 = .ok (.istore_n 1, 1) := by decide +kernel
theorem d_12_readRow_23 : decode prog_14_method_43_code 23 = .ok (.iconst 0, 1) := by decide +kernel
theorem d_12_readRow_24 : decode prog_14_method_43_code 24 = .ok (.istore_n 2, 1) := by decide +kernel
theorem d_12_readRow_25 : decode prog_14_method_43_code 25 = .ok (.iload_n 2, 1) := by decide +kernel
theorem d_12_readRow_26 : decode prog_14_method_43_code 26 = .ok (.aload_n 0, 1) := by decide +kernel
theorem d_12_readRow_27 : decode prog_14_method_43_code 27 = .ok (.invokevirtual 60, 3) := by decide +kernel
theorem d_12_readRow_30 : decode prog_14_method_43_code 30 = .ok (.if_icmp .ge 37, 3) := by decide +kernel
theorem d_12_readRow_33 : decode prog_14_method_43_code 33 = .ok (.aload_n 0, 1) := by decide +kernel
theorem d_12_readRow_34 : decode prog_14_method_43_code 34 = .ok (.iload_n 2, 1) := by decide +kernel
theorem d_12_readRow_35 : decode prog_14_method_43_code 35 = .ok (.invokevirtual 150, 3) := by decide +kernel
theorem d_12_readRow_38 : decode prog_14_method_43_code 38 = .ok (.ifCond .ne 5, 3) := by decide +kernel
theorem d_12_readRow_41 : decode prog_14_method_43_code 41 = .ok (.iconst 0, 1) := by decide +kernel
theorem d_12_readRow_42 : decode prog_14_method_43_code 42 = .ok (.ireturn, 1) := by decide +kernel
theorem d_12_readRow_43 : decode prog_14_method_43_code 43 = .ok (.aload_n 0, 1) := by decide +kernel
theorem d_12_readRow_44 : decode prog_14_method_43_code 44 = .ok (.getfield 13, 3) := by decide +kernel
theorem d_12_readRow_47 : decode prog_14_method_43_code 47 = .ok (.aload_n 0, 1) := by decide +kernel
theorem d_12_readRow_48 : decode prog_14_method_43_code 48 = .ok (.iload_n 1, 1) := by decide +kernel
theorem d_12_readRow_49 : decode prog_14_method_43_code 49 = .ok (.invokevirtual 81, 3) := by decide +kernel
theorem d_12_readRow_52 : decode prog_14_method_43_code 52 = .ok (.iconst 1, 1) := by decide +kernel
theorem d_12_readRow_53 : decode prog_14_method_43_code 53 = .ok (.iadd, 1) := by decide +kernel
theorem d_12_readRow_54 : decode prog_14_method_43_code 54 = .ok (.iload_n 2, 1) := by decide +kernel
theorem d_12_readRow_55 : decode prog_14_method_43_code 55 = .ok (.iadd, 1) := by decide +kernel
theorem d_12_readRow_56 : decode prog_14_method_43_code 56 = .ok (.aload_n 0, 1) := by decide +kernel
theorem d_12_readRow_57 : decode prog_14_method_43_code 57 = .ok (.getfield 120, 3) := by decide +kernel
theorem d_12_readRow_60 : decode prog_14_method_43_code 60 = .ok (.iastore, 1) := by decide +kernel
theorem d_12_readRow_61 : decode prog_14_method_43_code 61 = .ok (.iinc 2 1, 3) := by decide +kernel
theorem d_12_readRow_64 : decode prog_14_method_43_code 64 = .ok (.goto (-39), 3) := by decide +kernel
theorem d_12_readRow_67 : decode prog_14_method_43_code 67 = .ok (.aload_n 0, 1) := by decide +kernel
theorem d_12_readRow_68 : decode prog_14_method_43_code 68 = .ok (.sipush 273, 3) := by decide +kernel
theorem d_12_readRow_71 : decode prog_14_method_43_code 71 = .ok (.iload_n 1, 1) := by decide +kernel
theorem d_12_readRow_72 : decode prog_14_method_43_code 72 = .ok (.invokevirtual 153, 3) := by decide +kernel
theorem d_12_readRow_75 : decode prog_14_method_43_code 75 = .ok (.iconst 0, 1) := by decide +kernel
theorem d_12_readRow_76 : decode prog_14_method_43_code 76 = .ok (.istore_n 2, 1) := by decide +kernel
theorem d_12_readRow_77 : decode prog_14_method_43_code 77 = .ok (.iload_n 2, 1) := by decide +kernel
theorem d_12_readRow_78 : decode prog_14_method_43_code 78 = .ok (.iconst 4, 1) := by decide +kernel
theorem d_12_readRow_79 : decode prog_14_method_43_code 79 = .ok (.if_icmp .ge 27, 3) := by decide +kernel
theorem d_12_readRow_82 : decode prog_14_method_43_code 82 = .ok (.aload_n 0, 1) := by decide +kernel
theorem d_12_readRow_83 : decode prog_14_method_43_code 83 = .ok (.iload_n 2, 1) := by decide +kernel
theorem d_12_readRow_84 : decode prog_14_method_43_code 84 = .ok (.iload_n 1, 1) := by decide +kernel
theorem d_12_readRow_85 : decode prog_14_method_43_code 85 = .ok (.invokevirtual 157, 3) := by decide +kernel
theorem d_12_readRow_88 : decode prog_14_method_43_code 88 = .ok (.ifCond .eq 12, 3) := by decide +kernel
theorem d_12_readRow_91 : decode prog_14_method_43_code 91 = .ok (.aload_n 0, 1) := by decide +kernel
theorem d_12_readRow_92 : decode prog_14_method_43_code 92 = .ok (.iload_n 2, 1) := by decide +kernel
theorem d_12_readRow_93 : decode prog_14_method_43_code 93 = .ok (.invokestatic 68, 3) := by decide +kernel
theorem d_12_readRow_96 : decode prog_14_method_43_code 96 = .ok (.iload_n 1, 1) := by decide +kernel
theorem d_12_readRow_97 : decode prog_14_method_43_code 97 = .ok (.invokevirtual 153, 3) := by decide +kernel
theorem d_12_readRow_100 : decode prog_14_method_43_code 100 = .ok (.iinc 2 1, 3) := by decide +kernel
theorem d_12_readRow_103 : decode prog_14_method_43_code 103 = .ok (.goto (-26), 3) := by decide +kernel
theorem d_12_readRow_106 : decode prog_14_method_43_code 106 = .ok (.iconst 1, 1) := by decide +kernel
theorem d_12_readRow_107 : decode prog_14_method_43_code 107 = .ok (.ireturn, 1) := by decide +kernel
theorem d_12_readSheet_0 : decode prog_14_method_44_code 0 = .ok (.aload_n 0, 1) := by decide +kernel
theorem d_12_readSheet_1 : decode prog_14_method_44_code 1 = .ok (.invokevirtual 101, 3) := by decide +kernel
theorem d_12_readSheet_4 : decode prog_14_method_44_code 4 = .ok (.aload_n 0, 1) := by decide +kernel
theorem d_12_readSheet_5 : decode prog_14_method_44_code 5 = .ok (.getfield 91, 3) := by decide +kernel
theorem d_12_readSheet_8 : decode prog_14_method_44_code 8 = .ok (.aload_n 0, 1) := by decide +kernel
theorem d_12_readSheet_9 : decode prog_14_method_44_code 9 = .ok (.getfield 88, 3) := by decide +kernel
theorem d_12_readSheet_12 : decode prog_14_method_44_code 12 = .ok (.if_icmp .ne 5, 3) := by decide +kernel
theorem d_12_readSheet_15 : decode prog_14_method_44_code 15 = .ok (.iconst 1, 1) := by decide +kernel
theorem d_12_readSheet_16 : decode prog_14_method_44_code 16 = .ok (.ireturn, 1) := by decide +kernel
theorem d_12_readSheet_17 : decode prog_14_method_44_code 17 = .ok (.iconst 0, 1) := by decide +kernel
theorem d_12_readSheet_18 : decode prog_14_method_44_code 18 = .ok (.istore_n 1, 1) := by decide +kernel
theorem d_12_readSheet_19 : decode prog_14_method_44_code 19 = .ok (.aload_n 0, 1) := by decide +kernel
theorem d_12_readSheet_20 : decode prog_14_method_44_code 20 = .ok (.invokevirtual 113, 3) := by decide +kernel
theorem d_12_readSheet_23 : decode prog_14_method_44_code 23 = .ok (.iload_n 1, 1) := by decide +kernel
theorem d_12_readSheet_24 : decode prog_14_method_44_code 24 = .ok (.bipush 14, 2) := by decide +kernel
theorem d_12_readSheet_26 : decode prog_14_method_44_code 26 = .ok (.if_icmp .eq 38, 3) := by decide +kernel
theorem d_12_readSheet_29 : decode prog_14_method_44_code 29 = .ok (.aload_n 0, 1) := by decide +kernel
theorem d_12_readSheet_30 : decode prog_14_method_44_code 30 = .ok (.ldc 160, 2) := by decide +kernel
theorem d_12_readSheet_32 : decode prog_14_method_44_code 32 = .ok (.invokevirtual 116, 3) := by decide +kernel
theorem d_12_readSheet_35 : decode prog_14_method_44_code 35 = .ok (.ifCond .eq 13, 3) := by decide +kernel
theorem d_12_readSheet_38 : decode prog_14_method_44_code 38 = .ok (.aload_n 0, 1) := by decide +kernel
theorem d_12_readSheet_39 : decode prog_14_method_44_code 39 = .ok (.invokevirtual 161, 3) := by decide +kernel
theorem d_12_readSheet_42 : decode prog_14_method_44_code 42 = .ok (.ifCond .eq 22, 3) := by decide +kernel
theorem d_12_readSheet_45 : decode prog_14_method_44_code 45 = .ok (.goto 21, 3) := by decide +kernel
theorem d_12_readSheet_48 : decode prog_14_method_44_code 48 = .ok (.aload_n 0, 1) := by decide +kernel
theorem d_12_readSheet_49 : decode prog_14_method_44_code 49 = .ok (.ldc 164, 2) := by decide +kernel
theorem d_12_readSheet_51 : decode prog_14_method_44_code 51 = .ok (.invokevirtual 116, 3) := by decide +kernel
theorem d_12_readSheet_54 : decode prog_14_method_44_code 54 = .ok (.ifCond .eq 10, 3) := by decide +kernel
theorem d_12_readSheet_57 : decode prog_14_method_44_code 57 = .ok (.aload_n 0, 1) := by decide +kernel
theorem d_12_readSheet_58 : decode prog_14_method_44_code 58 = .ok (.invokevirtual 166, 3) := by decide +kernel
theorem d_12_readSheet_61 : decode prog_14_method_44_code 61 = .ok (.ifCond .ne 5, 3) := by decide +kernel
theorem d_12_readSheet_64 : decode prog_14_method_44_code 64 = .ok (.iconst 0, 1) := by decide +kernel
theorem d_12_readSheet_65 : decode prog_14_method_44_code 65 = .ok (.ireturn, 1) := by decide +kernel
theorem d_12_readSheet_66 : decode prog_14_method_44_code 66 = .ok (.aload_n 0, 1) := by decide +kernel
theorem d_12_readSheet_67 : decode prog_14_method_44_code 67 = .ok (.bipush 59, 2) := by decide +kernel
theorem d_12_readSheet_69 : decode prog_14_method_44_code 69 = .ok (.invokevirtual 126, 3) := by decide +kernel
theorem d_12_readSheet_72 : decode prog_14_method_44_code 72 = .ok (.ifCond .eq 6, 3) := by decide +kernel
theorem d_12_readSheet_75 : decode prog_14_method_44_code 75 = .ok (.goto 20, 3) := by decide +kernel
theorem d_12_readSheet_78 : decode prog_14_method_44_code 78 = .ok (.aload_n 0, 1) := by decide +kernel
theorem d_12_readSheet_79 : decode prog_14_method_44_code 79 = .ok (.getfield 91, 3) := by decide +kernel
theorem d_12_readSheet_82 : decode prog_14_method_44_code 82 = .ok (.aload_n 0, 1) := by decide +kernel
theorem d_12_readSheet_83 : decode prog_14_method_44_code 83 = .ok (.getfield 88, 3) := by decide +kernel
theorem d_12_readSheet_86 : decode prog_14_method_44_code 86 = .ok (.if_icmp .ne 7, 3) := by decide +kernel
theorem d_12_readSheet_89 : decode prog_14_method_44_code 89 = .ok (.iconst 1, 1) := by decide +kernel
theorem d_12_readSheet_90 : decode prog_14_method_44_code 90 = .ok (.goto 4, 3) := by decide +kernel
theorem d_12_readSheet_93 : decode prog_14_method_44_code 93 = .ok (.iconst 0, 1) := by decide +kernel
theorem d_12_readSheet_94 : decode prog_14_method_44_code 94 = .ok (.ireturn, 1) := by decide +kernel
theorem d_12_readSheet_95 : decode prog_14_method_44_code 95 = .ok (.iinc 1 1, 3) := by decide +kernel
theorem d_12_readSheet_98 : decode prog_14_method_44_code 98 = .ok (.goto (-79), 3) := by decide +kernel
theorem d_12_bringsBack_0 : decode prog_14_method_9_code 0 = .ok (.iconst 0, 1) := by decide +kernel
theorem d_12_bringsBack_1 : decode prog_14_method_9_code 1 = .ok (.istore_n 1, 1) := by decide +kernel
theorem d_12_bringsBack_2 : decode prog_14_method_9_code 2 = .ok (.iload_n 1, 1) := by decide +kernel
theorem d_12_bringsBack_3 : decode prog_14_method_9_code 3 = .ok (.sipush 8954, 3) := by decide +kernel
theorem d_12_bringsBack_6 : decode prog_14_method_9_code 6 = .ok (.if_icmp .ge 21, 3) := by decide +kernel
theorem d_12_bringsBack_9 : decode prog_14_method_9_code 9 = .ok (.aload_n 0, 1) := by decide +kernel
theorem d_12_bringsBack_10 : decode prog_14_method_9_code 10 = .ok (.getfield 13, 3) := by decide +kernel
theorem d_12_bringsBack_13 : decode prog_14_method_9_code 13 = .ok (.iload_n 1, 1) := by decide +kernel
theorem d_12_bringsBack_14 : decode prog_14_method_9_code 14 = .ok (.aload_n 0, 1) := by decide +kernel
theorem d_12_bringsBack_15 : decode prog_14_method_9_code 15 = .ok (.getfield 20, 3) := by decide +kernel
theorem d_12_bringsBack_18 : decode prog_14_method_9_code 18 = .ok (.iload_n 1, 1) := by decide +kernel
theorem d_12_bringsBack_19 : decode prog_14_method_9_code 19 = .ok (.iaload, 1) := by decide +kernel
theorem d_12_bringsBack_20 : decode prog_14_method_9_code 20 = .ok (.iastore, 1) := by decide +kernel
theorem d_12_bringsBack_21 : decode prog_14_method_9_code 21 = .ok (.iinc 1 1, 3) := by decide +kernel
theorem d_12_bringsBack_24 : decode prog_14_method_9_code 24 = .ok (.goto (-22), 3) := by decide +kernel
theorem d_12_bringsBack_27 : decode prog_14_method_9_code 27 = .ok (.return_, 1) := by decide +kernel
theorem d_12_isRight_0 : decode prog_14_method_45_code 0 = .ok (.aload_n 0, 1) := by decide +kernel
theorem d_12_isRight_1 : decode prog_14_method_45_code 1 = .ok (.iload_n 1, 1) := by decide +kernel
theorem d_12_isRight_2 : decode prog_14_method_45_code 2 = .ok (.ifCond .eq 7, 3) := by decide +kernel
theorem d_12_isRight_5 : decode prog_14_method_45_code 5 = .ok (.iconst (-1), 1) := by decide +kernel
theorem d_12_isRight_6 : decode prog_14_method_45_code 6 = .ok (.goto 7, 3) := by decide +kernel
theorem d_12_isRight_9 : decode prog_14_method_45_code 9 = .ok (.aload_n 0, 1) := by decide +kernel
theorem d_12_isRight_10 : decode prog_14_method_45_code 10 = .ok (.getfield 98, 3) := by decide +kernel
theorem d_12_isRight_13 : decode prog_14_method_45_code 13 = .ok (.putfield 27, 3) := by decide +kernel
theorem d_12_isRight_16 : decode prog_14_method_45_code 16 = .ok (.iload_n 1, 1) := by decide +kernel
theorem d_12_isRight_17 : decode prog_14_method_45_code 17 = .ok (.ifCond .ne 7, 3) := by decide +kernel
theorem d_12_isRight_20 : decode prog_14_method_45_code 20 = .ok (.aload_n 0, 1) := by decide +kernel
theorem d_12_isRight_21 : decode prog_14_method_45_code 21 = .ok (.invokevirtual 169, 3) := by decide +kernel
theorem d_12_isRight_24 : decode prog_14_method_45_code 24 = .ok (.iload_n 1, 1) := by decide +kernel
theorem d_12_isRight_25 : decode prog_14_method_45_code 25 = .ok (.ireturn, 1) := by decide +kernel
theorem d_12_throwsIf_0 : decode prog_14_method_2_code 0 = .ok (.iload_n 1, 1) := by decide +kernel
theorem d_12_throwsIf_1 : decode prog_14_method_2_code 1 = .ok (.ifCond .eq 8, 3) := by decide +kernel
theorem d_12_throwsIf_4 : decode prog_14_method_2_code 4 = .ok (.aload_n 0, 1) := by decide +kernel
theorem d_12_throwsIf_5 : decode prog_14_method_2_code 5 = .ok (.iload_n 2, 1) := by decide +kernel
theorem d_12_throwsIf_6 : decode prog_14_method_2_code 6 = .ok (.putfield 3, 3) := by decide +kernel
theorem d_12_throwsIf_9 : decode prog_14_method_2_code 9 = .ok (.iload_n 1, 1) := by decide +kernel
theorem d_12_throwsIf_10 : decode prog_14_method_2_code 10 = .ok (.ireturn, 1) := by decide +kernel
theorem d_12_sheet_0 : decode prog_14_method_46_code 0 = .ok (.aload_n 0, 1) := by decide +kernel
theorem d_12_sheet_1 : decode prog_14_method_46_code 1 = .ok (.invokevirtual 172, 3) := by decide +kernel
theorem d_12_sheet_4 : decode prog_14_method_46_code 4 = .ok (.aload_n 0, 1) := by decide +kernel
theorem d_12_sheet_5 : decode prog_14_method_46_code 5 = .ok (.invokevirtual 175, 3) := by decide +kernel
theorem d_12_sheet_8 : decode prog_14_method_46_code 8 = .ok (.aload_n 0, 1) := by decide +kernel
theorem d_12_sheet_9 : decode prog_14_method_46_code 9 = .ok (.aload_n 0, 1) := by decide +kernel
theorem d_12_sheet_10 : decode prog_14_method_46_code 10 = .ok (.aload_n 0, 1) := by decide +kernel
theorem d_12_sheet_11 : decode prog_14_method_46_code 11 = .ok (.invokevirtual 178, 3) := by decide +kernel
theorem d_12_sheet_14 : decode prog_14_method_46_code 14 = .ok (.invokevirtual 181, 3) := by decide +kernel
theorem d_12_sheet_17 : decode prog_14_method_46_code 17 = .ok (.ifCond .ne 7, 3) := by decide +kernel
theorem d_12_sheet_20 : decode prog_14_method_46_code 20 = .ok (.iconst 1, 1) := by decide +kernel
theorem d_12_sheet_21 : decode prog_14_method_46_code 21 = .ok (.goto 4, 3) := by decide +kernel
theorem d_12_sheet_24 : decode prog_14_method_46_code 24 = .ok (.iconst 0, 1) := by decide +kernel
theorem d_12_sheet_25 : decode prog_14_method_46_code 25 = .ok (.iconst 1, 1) := by decide +kernel
theorem d_12_sheet_26 : decode prog_14_method_46_code 26 = .ok (.invokevirtual 185, 3) := by decide +kernel
theorem d_12_sheet_29 : decode prog_14_method_46_code 29 = .ok (.ifCond .eq 5, 3) := by decide +kernel
theorem d_12_sheet_32 : decode prog_14_method_46_code 32 = .ok (.iconst 0, 1) := by decide +kernel
theorem d_12_sheet_33 : decode prog_14_method_46_code 33 = .ok (.ireturn, 1) := by decide +kernel
theorem d_12_sheet_34 : decode prog_14_method_46_code 34 = .ok (.aload_n 0, 1) := by decide +kernel
theorem d_12_sheet_35 : decode prog_14_method_46_code 35 = .ok (.aload_n 0, 1) := by decide +kernel
theorem d_12_sheet_36 : decode prog_14_method_46_code 36 = .ok (.getfield 13, 3) := by decide +kernel
theorem d_12_sheet_39 : decode prog_14_method_46_code 39 = .ok (.iconst 1, 1) := by decide +kernel
theorem d_12_sheet_40 : decode prog_14_method_46_code 40 = .ok (.iaload, 1) := by decide +kernel
theorem d_12_sheet_41 : decode prog_14_method_46_code 41 = .ok (.bipush 12, 2) := by decide +kernel
theorem d_12_sheet_43 : decode prog_14_method_46_code 43 = .ok (.if_icmp .ne 7, 3) := by decide +kernel
theorem d_12_sheet_46 : decode prog_14_method_46_code 46 = .ok (.iconst 1, 1) := by decide +kernel
theorem d_12_sheet_47 : decode prog_14_method_46_code 47 = .ok (.goto 4, 3) := by decide +kernel
theorem d_12_sheet_50 : decode prog_14_method_46_code 50 = .ok (.iconst 0, 1) := by decide +kernel
theorem d_12_sheet_51 : decode prog_14_method_46_code 51 = .ok (.iconst 2, 1) := by decide +kernel
theorem d_12_sheet_52 : decode prog_14_method_46_code 52 = .ok (.invokevirtual 185, 3) := by decide +kernel
theorem d_12_sheet_55 : decode prog_14_method_46_code 55 = .ok (.ifCond .eq 9, 3) := by decide +kernel
theorem d_12_sheet_58 : decode prog_14_method_46_code 58 = .ok (.aload_n 0, 1) := by decide +kernel
theorem d_12_sheet_59 : decode prog_14_method_46_code 59 = .ok (.invokevirtual 169, 3) := by decide +kernel
theorem d_12_sheet_62 : decode prog_14_method_46_code 62 = .ok (.iconst 0, 1) := by decide +kernel
theorem d_12_sheet_63 : decode prog_14_method_46_code 63 = .ok (.ireturn, 1) := by decide +kernel
theorem d_12_sheet_64 : decode prog_14_method_46_code 64 = .ok (.aload_n 0, 1) := by decide +kernel
theorem d_12_sheet_65 : decode prog_14_method_46_code 65 = .ok (.getfield 13, 3) := by decide +kernel
theorem d_12_sheet_68 : decode prog_14_method_46_code 68 = .ok (.iconst 1, 1) := by decide +kernel
theorem d_12_sheet_69 : decode prog_14_method_46_code 69 = .ok (.dup2, 1) := by decide +kernel
theorem d_12_sheet_70 : decode prog_14_method_46_code 70 = .ok (.iaload, 1) := by decide +kernel
theorem d_12_sheet_71 : decode prog_14_method_46_code 71 = .ok (.iconst 1, 1) := by decide +kernel
theorem d_12_sheet_72 : decode prog_14_method_46_code 72 = .ok (.iadd, 1) := by decide +kernel
theorem d_12_sheet_73 : decode prog_14_method_46_code 73 = .ok (.iastore, 1) := by decide +kernel
theorem d_12_sheet_74 : decode prog_14_method_46_code 74 = .ok (.aload_n 0, 1) := by decide +kernel
theorem d_12_sheet_75 : decode prog_14_method_46_code 75 = .ok (.getfield 13, 3) := by decide +kernel
theorem d_12_sheet_78 : decode prog_14_method_46_code 78 = .ok (.iconst 1, 1) := by decide +kernel
theorem d_12_sheet_79 : decode prog_14_method_46_code 79 = .ok (.iaload, 1) := by decide +kernel
theorem d_12_sheet_80 : decode prog_14_method_46_code 80 = .ok (.ireturn, 1) := by decide +kernel
theorem d_12_noView_0 : decode prog_14_method_13_code 0 = .ok (.iload_n 0, 1) := by decide +kernel
theorem d_12_noView_1 : decode prog_14_method_13_code 1 = .ok (.iconst 0, 1) := by decide +kernel
theorem d_12_noView_2 : decode prog_14_method_13_code 2 = .ok (.iconst 3, 1) := by decide +kernel
theorem d_12_noView_3 : decode prog_14_method_13_code 3 = .ok (.invokestatic 56, 3) := by decide +kernel
theorem d_12_noView_6 : decode prog_14_method_13_code 6 = .ok (.ifCond .ne 7, 3) := by decide +kernel
theorem d_12_noView_9 : decode prog_14_method_13_code 9 = .ok (.iconst 1, 1) := by decide +kernel
theorem d_12_noView_10 : decode prog_14_method_13_code 10 = .ok (.goto 4, 3) := by decide +kernel
theorem d_12_noView_13 : decode prog_14_method_13_code 13 = .ok (.iconst 0, 1) := by decide +kernel
theorem d_12_noView_14 : decode prog_14_method_13_code 14 = .ok (.ireturn, 1) := by decide +kernel
theorem d_12_passes_0 : decode prog_14_method_34_code 0 = .ok (.aload_n 0, 1) := by decide +kernel
theorem d_12_passes_1 : decode prog_14_method_34_code 1 = .ok (.invokevirtual 113, 3) := by decide +kernel
theorem d_12_passes_4 : decode prog_14_method_34_code 4 = .ok (.aload_n 0, 1) := by decide +kernel
theorem d_12_passes_5 : decode prog_14_method_34_code 5 = .ok (.aload_n 1, 1) := by decide +kernel
theorem d_12_passes_6 : decode prog_14_method_34_code 6 = .ok (.invokevirtual 116, 3) := by decide +kernel
theorem d_12_passes_9 : decode prog_14_method_34_code 9 = .ok (.ifCond .eq 5, 3) := by decide +kernel
theorem d_12_passes_12 : decode prog_14_method_34_code 12 = .ok (.iconst 1, 1) := by decide +kernel
theorem d_12_passes_13 : decode prog_14_method_34_code 13 = .ok (.ireturn, 1) := by decide +kernel
theorem d_12_passes_14 : decode prog_14_method_34_code 14 = .ok (.aload_n 0, 1) := by decide +kernel
theorem d_12_passes_15 : decode prog_14_method_34_code 15 = .ok (.aload_n 0, 1) := by decide +kernel
theorem d_12_passes_16 : decode prog_14_method_34_code 16 = .ok (.getfield 98, 3) := by decide +kernel
theorem d_12_passes_19 : decode prog_14_method_34_code 19 = .ok (.putfield 91, 3) := by decide +kernel
theorem d_12_passes_22 : decode prog_14_method_34_code 22 = .ok (.iconst 0, 1) := by decide +kernel
theorem d_12_passes_23 : decode prog_14_method_34_code 23 = .ok (.ireturn, 1) := by decide +kernel
theorem d_12_number_0 : decode prog_14_method_37_code 0 = .ok (.aload_n 0, 1) := by decide +kernel
theorem d_12_number_1 : decode prog_14_method_37_code 1 = .ok (.invokevirtual 101, 3) := by decide +kernel
theorem d_12_number_4 : decode prog_14_method_37_code 4 = .ok (.aload_n 0, 1) := by decide +kernel
theorem d_12_number_5 : decode prog_14_method_37_code 5 = .ok (.iconst 1, 1) := by decide +kernel
theorem d_12_number_6 : decode prog_14_method_37_code 6 = .ok (.iload_n 1, 1) := by decide +kernel
theorem d_12_number_7 : decode prog_14_method_37_code 7 = .ok (.iload_n 2, 1) := by decide +kernel
theorem d_12_number_8 : decode prog_14_method_37_code 8 = .ok (.invokevirtual 123, 3) := by decide +kernel
theorem d_12_number_11 : decode prog_14_method_37_code 11 = .ok (.ireturn, 1) := by decide +kernel
theorem d_12_readSort_0 : decode prog_14_method_53_code 0 = .ok (.aload_n 0, 1) := by decide +kernel
theorem d_12_readSort_1 : decode prog_14_method_53_code 1 = .ok (.getfield 13, 3) := by decide +kernel
theorem d_12_readSort_4 : decode prog_14_method_53_code 4 = .ok (.iload_n 1, 1) := by decide +kernel
theorem d_12_readSort_5 : decode prog_14_method_53_code 5 = .ok (.bipush 25, 2) := by decide +kernel
theorem d_12_readSort_7 : decode prog_14_method_53_code 7 = .ok (.invokestatic 52, 3) := by decide +kernel
theorem d_12_readSort_10 : decode prog_14_method_53_code 10 = .ok (.iaload, 1) := by decide +kernel
theorem d_12_readSort_11 : decode prog_14_method_53_code 11 = .ok (.istore_n 3, 1) := by decide +kernel
theorem d_12_readSort_12 : decode prog_14_method_53_code 12 = .ok (.iload_n 3, 1) := by decide +kernel
theorem d_12_readSort_13 : decode prog_14_method_53_code 13 = .ok (.iconst 3, 1) := by decide +kernel
theorem d_12_readSort_14 : decode prog_14_method_53_code 14 = .ok (.if_icmp .eq 17, 3) := by decide +kernel
theorem d_12_readSort_17 : decode prog_14_method_53_code 17 = .ok (.aload_n 0, 1) := by decide +kernel
theorem d_12_readSort_18 : decode prog_14_method_53_code 18 = .ok (.iconst 0, 1) := by decide +kernel
theorem d_12_readSort_19 : decode prog_14_method_53_code 19 = .ok (.aload_n 0, 1) := by decide +kernel
theorem d_12_readSort_20 : decode prog_14_method_53_code 20 = .ok (.invokevirtual 60, 3) := by decide +kernel
theorem d_12_readSort_23 : decode prog_14_method_53_code 23 = .ok (.iconst 1, 1) := by decide +kernel
theorem d_12_readSort_24 : decode prog_14_method_53_code 24 = .ok (.isub, 1) := by decide +kernel
theorem d_12_readSort_25 : decode prog_14_method_53_code 25 = .ok (.invokevirtual 215, 3) := by decide +kernel
theorem d_12_readSort_28 : decode prog_14_method_53_code 28 = .ok (.ifCond .ne 5, 3) := by decide +kernel
theorem d_12_readSort_31 : decode prog_14_method_53_code 31 = .ok (.iconst 0, 1) := by decide +kernel
theorem d_12_readSort_32 : decode prog_14_method_53_code 32 = .ok (.ireturn, 1) := by decide +kernel
theorem d_12_readSort_33 : decode prog_14_method_53_code 33 = .ok (.iconst 0, 1) := by decide +kernel
theorem d_12_readSort_34 : decode prog_14_method_53_code 34 = .ok (.istore 4, 2) := by decide +kernel
theorem d_12_readSort_36 : decode prog_14_method_53_code 36 = .ok (.iload 4, 2) := by decide +kernel
theorem d_12_readSort_38 : decode prog_14_method_53_code 38 = .ok (.iload_n 3, 1) := by decide +kernel
theorem d_12_readSort_39 : decode prog_14_method_53_code 39 = .ok (.if_icmp .ge 34, 3) := by decide +kernel
theorem d_12_readSort_42 : decode prog_14_method_53_code 42 = .ok (.aload_n 0, 1) := by decide +kernel
theorem d_12_readSort_43 : decode prog_14_method_53_code 43 = .ok (.getfield 13, 3) := by decide +kernel
theorem d_12_readSort_46 : decode prog_14_method_53_code 46 = .ok (.iload_n 1, 1) := by decide +kernel
theorem d_12_readSort_47 : decode prog_14_method_53_code 47 = .ok (.bipush 26, 2) := by decide +kernel
theorem d_12_readSort_49 : decode prog_14_method_53_code 49 = .ok (.iload 4, 2) := by decide +kernel
theorem d_12_readSort_51 : decode prog_14_method_53_code 51 = .ok (.iadd, 1) := by decide +kernel
theorem d_12_readSort_52 : decode prog_14_method_53_code 52 = .ok (.invokestatic 52, 3) := by decide +kernel
theorem d_12_readSort_55 : decode prog_14_method_53_code 55 = .ok (.iaload, 1) := by decide +kernel
theorem d_12_readSort_56 : decode prog_14_method_53_code 56 = .ok (.iconst 2, 1) := by decide +kernel
theorem d_12_readSort_57 : decode prog_14_method_53_code 57 = .ok (.idiv, 1) := by decide +kernel
theorem d_12_readSort_58 : decode prog_14_method_53_code 58 = .ok (.aload_n 0, 1) := by decide +kernel
theorem d_12_readSort_59 : decode prog_14_method_53_code 59 = .ok (.getfield 120, 3) := by decide +kernel
theorem d_12_readSort_62 : decode prog_14_method_53_code 62 = .ok (.if_icmp .ne 5, 3) := by decide +kernel
theorem d_12_readSort_65 : decode prog_14_method_53_code 65 = .ok (.iconst 0, 1) := by decide +kernel
theorem d_12_readSort_66 : decode prog_14_method_53_code 66 = .ok (.ireturn, 1) := by decide +kernel
theorem d_12_readSort_67 : decode prog_14_method_53_code 67 = .ok (.iinc 4 1, 3) := by decide +kernel
theorem d_12_readSort_70 : decode prog_14_method_53_code 70 = .ok (.goto (-34), 3) := by decide +kernel
theorem d_12_readSort_73 : decode prog_14_method_53_code 73 = .ok (.aload_n 0, 1) := by decide +kernel
theorem d_12_readSort_74 : decode prog_14_method_53_code 74 = .ok (.getfield 13, 3) := by decide +kernel
theorem d_12_readSort_77 : decode prog_14_method_53_code 77 = .ok (.iload_n 1, 1) := by decide +kernel
theorem d_12_readSort_78 : decode prog_14_method_53_code 78 = .ok (.bipush 26, 2) := by decide +kernel
theorem d_12_readSort_80 : decode prog_14_method_53_code 80 = .ok (.iload_n 3, 1) := by decide +kernel
theorem d_12_readSort_81 : decode prog_14_method_53_code 81 = .ok (.iadd, 1) := by decide +kernel
theorem d_12_readSort_82 : decode prog_14_method_53_code 82 = .ok (.invokestatic 52, 3) := by decide +kernel
theorem d_12_readSort_85 : decode prog_14_method_53_code 85 = .ok (.iconst 2, 1) := by decide +kernel
theorem d_12_readSort_86 : decode prog_14_method_53_code 86 = .ok (.aload_n 0, 1) := by decide +kernel
theorem d_12_readSort_87 : decode prog_14_method_53_code 87 = .ok (.getfield 120, 3) := by decide +kernel
theorem d_12_readSort_90 : decode prog_14_method_53_code 90 = .ok (.imul, 1) := by decide +kernel
theorem d_12_readSort_91 : decode prog_14_method_53_code 91 = .ok (.iload_n 2, 1) := by decide +kernel
theorem d_12_readSort_92 : decode prog_14_method_53_code 92 = .ok (.iadd, 1) := by decide +kernel
theorem d_12_readSort_93 : decode prog_14_method_53_code 93 = .ok (.iastore, 1) := by decide +kernel
theorem d_12_readSort_94 : decode prog_14_method_53_code 94 = .ok (.aload_n 0, 1) := by decide +kernel
theorem d_12_readSort_95 : decode prog_14_method_53_code 95 = .ok (.getfield 13, 3) := by decide +kernel
theorem d_12_readSort_98 : decode prog_14_method_53_code 98 = .ok (.iload_n 1, 1) := by decide +kernel
theorem d_12_readSort_99 : decode prog_14_method_53_code 99 = .ok (.bipush 25, 2) := by decide +kernel
theorem d_12_readSort_101 : decode prog_14_method_53_code 101 = .ok (.invokestatic 52, 3) := by decide +kernel
theorem d_12_readSort_104 : decode prog_14_method_53_code 104 = .ok (.dup2, 1) := by decide +kernel
theorem d_12_readSort_105 : decode prog_14_method_53_code 105 = .ok (.iaload, 1) := by decide +kernel
theorem d_12_readSort_106 : decode prog_14_method_53_code 106 = .ok (.iconst 1, 1) := by decide +kernel
theorem d_12_readSort_107 : decode prog_14_method_53_code 107 = .ok (.iadd, 1) := by decide +kernel
theorem d_12_readSort_108 : decode prog_14_method_53_code 108 = .ok (.iastore, 1) := by decide +kernel
theorem d_12_readSort_109 : decode prog_14_method_53_code 109 = .ok (.iconst 1, 1) := by decide +kernel
theorem d_12_readSort_110 : decode prog_14_method_53_code 110 = .ok (.ireturn, 1) := by decide +kernel
theorem d_12_has_0 : decode prog_14_method_4_code 0 = .ok (.iload_n 0, 1) := by decide +kernel
theorem d_12_has_1 : decode prog_14_method_4_code 1 = .ok (.iload_n 1, 1) := by decide +kernel
theorem d_12_has_2 : decode prog_14_method_4_code 2 = .ok (.ishr, 1) := by decide +kernel
theorem d_12_has_3 : decode prog_14_method_4_code 3 = .ok (.iconst 1, 1) := by decide +kernel
theorem d_12_has_4 : decode prog_14_method_4_code 4 = .ok (.iand, 1) := by decide +kernel
theorem d_12_has_5 : decode prog_14_method_4_code 5 = .ok (.iconst 1, 1) := by decide +kernel
theorem d_12_has_6 : decode prog_14_method_4_code 6 = .ok (.if_icmp .ne 7, 3) := by decide +kernel
theorem d_12_has_9 : decode prog_14_method_4_code 9 = .ok (.iconst 1, 1) := by decide +kernel
theorem d_12_has_10 : decode prog_14_method_4_code 10 = .ok (.goto 4, 3) := by decide +kernel
theorem d_12_has_13 : decode prog_14_method_4_code 13 = .ok (.iconst 0, 1) := by decide +kernel
theorem d_12_has_14 : decode prog_14_method_4_code 14 = .ok (.ireturn, 1) := by decide +kernel
theorem d_12_readHide_0 : decode prog_14_method_54_code 0 = .ok (.aload_n 0, 1) := by decide +kernel
theorem d_12_readHide_1 : decode prog_14_method_54_code 1 = .ok (.iconst 0, 1) := by decide +kernel
theorem d_12_readHide_2 : decode prog_14_method_54_code 2 = .ok (.aload_n 0, 1) := by decide +kernel
theorem d_12_readHide_3 : decode prog_14_method_54_code 3 = .ok (.invokevirtual 60, 3) := by decide +kernel
theorem d_12_readHide_6 : decode prog_14_method_54_code 6 = .ok (.iconst 1, 1) := by decide +kernel
theorem d_12_readHide_7 : decode prog_14_method_54_code 7 = .ok (.isub, 1) := by decide +kernel
theorem d_12_readHide_8 : decode prog_14_method_54_code 8 = .ok (.invokevirtual 215, 3) := by decide +kernel
theorem d_12_readHide_11 : decode prog_14_method_54_code 11 = .ok (.ifCond .eq 24, 3) := by decide +kernel
theorem d_12_readHide_14 : decode prog_14_method_54_code 14 = .ok (.aload_n 0, 1) := by decide +kernel
theorem d_12_readHide_15 : decode prog_14_method_54_code 15 = .ok (.getfield 13, 3) := by decide +kernel
theorem d_12_readHide_18 : decode prog_14_method_54_code 18 = .ok (.iload_n 1, 1) := by decide +kernel
theorem d_12_readHide_19 : decode prog_14_method_54_code 19 = .ok (.bipush 29, 2) := by decide +kernel
theorem d_12_readHide_21 : decode prog_14_method_54_code 21 = .ok (.invokestatic 52, 3) := by decide +kernel
theorem d_12_readHide_24 : decode prog_14_method_54_code 24 = .ok (.iaload, 1) := by decide +kernel
theorem d_12_readHide_25 : decode prog_14_method_54_code 25 = .ok (.aload_n 0, 1) := by decide +kernel
theorem d_12_readHide_26 : decode prog_14_method_54_code 26 = .ok (.getfield 120, 3) := by decide +kernel
theorem d_12_readHide_29 : decode prog_14_method_54_code 29 = .ok (.invokestatic 224, 3) := by decide +kernel
theorem d_12_readHide_32 : decode prog_14_method_54_code 32 = .ok (.ifCond .eq 5, 3) := by decide +kernel
theorem d_12_readHide_35 : decode prog_14_method_54_code 35 = .ok (.iconst 0, 1) := by decide +kernel
theorem d_12_readHide_36 : decode prog_14_method_54_code 36 = .ok (.ireturn, 1) := by decide +kernel
theorem d_12_readHide_37 : decode prog_14_method_54_code 37 = .ok (.aload_n 0, 1) := by decide +kernel
theorem d_12_readHide_38 : decode prog_14_method_54_code 38 = .ok (.getfield 13, 3) := by decide +kernel
theorem d_12_readHide_41 : decode prog_14_method_54_code 41 = .ok (.iload_n 1, 1) := by decide +kernel
theorem d_12_readHide_42 : decode prog_14_method_54_code 42 = .ok (.bipush 29, 2) := by decide +kernel
theorem d_12_readHide_44 : decode prog_14_method_54_code 44 = .ok (.invokestatic 52, 3) := by decide +kernel
theorem d_12_readHide_47 : decode prog_14_method_54_code 47 = .ok (.dup2, 1) := by decide +kernel
theorem d_12_readHide_48 : decode prog_14_method_54_code 48 = .ok (.iaload, 1) := by decide +kernel
theorem d_12_readHide_49 : decode prog_14_method_54_code 49 = .ok (.iconst 1, 1) := by decide +kernel
theorem d_12_readHide_50 : decode prog_14_method_54_code 50 = .ok (.aload_n 0, 1) := by decide +kernel
theorem d_12_readHide_51 : decode prog_14_method_54_code 51 = .ok (.getfield 120, 3) := by decide +kernel
theorem d_12_readHide_54 : decode prog_14_method_54_code 54 = .ok (.ishl, 1) := by decide +kernel
theorem d_12_readHide_55 : decode prog_14_method_54_code 55 = .ok (.ior, 1) := by decide +kernel
theorem d_12_readHide_56 : decode prog_14_method_54_code 56 = .ok (.iastore, 1) := by decide +kernel
theorem d_12_readHide_57 : decode prog_14_method_54_code 57 = .ok (.iconst 1, 1) := by decide +kernel
theorem d_12_readHide_58 : decode prog_14_method_54_code 58 = .ok (.ireturn, 1) := by decide +kernel
theorem d_12_isAWord_0 : decode prog_14_method_49_code 0 = .ok (.aload_n 0, 1) := by decide +kernel
theorem d_12_isAWord_1 : decode prog_14_method_49_code 1 = .ok (.ldc 192, 2) := by decide +kernel
theorem d_12_isAWord_3 : decode prog_14_method_49_code 3 = .ok (.invokevirtual 116, 3) := by decide +kernel
theorem d_12_isAWord_6 : decode prog_14_method_49_code 6 = .ok (.ifCond .ne 57, 3) := by decide +kernel
theorem d_12_isAWord_9 : decode prog_14_method_49_code 9 = .ok (.aload_n 0, 1) := by decide +kernel
theorem d_12_isAWord_10 : decode prog_14_method_49_code 10 = .ok (.ldc 194, 2) := by decide +kernel
theorem d_12_isAWord_12 : decode prog_14_method_49_code 12 = .ok (.invokevirtual 116, 3) := by decide +kernel
theorem d_12_isAWord_15 : decode prog_14_method_49_code 15 = .ok (.ifCond .ne 48, 3) := by decide +kernel
theorem d_12_isAWord_18 : decode prog_14_method_49_code 18 = .ok (.aload_n 0, 1) := by decide +kernel
theorem d_12_isAWord_19 : decode prog_14_method_49_code 19 = .ok (.ldc 196, 2) := by decide +kernel
theorem d_12_isAWord_21 : decode prog_14_method_49_code 21 = .ok (.invokevirtual 116, 3) := by decide +kernel
theorem d_12_isAWord_24 : decode prog_14_method_49_code 24 = .ok (.ifCond .ne 39, 3) := by decide +kernel
theorem d_12_isAWord_27 : decode prog_14_method_49_code 27 = .ok (.aload_n 0, 1) := by decide +kernel
theorem d_12_isAWord_28 : decode prog_14_method_49_code 28 = .ok (.ldc 198, 2) := by decide +kernel
theorem d_12_isAWord_30 : decode prog_14_method_49_code 30 = .ok (.invokevirtual 116, 3) := by decide +kernel
theorem d_12_isAWord_33 : decode prog_14_method_49_code 33 = .ok (.ifCond .ne 30, 3) := by decide +kernel
theorem d_12_isAWord_36 : decode prog_14_method_49_code 36 = .ok (.aload_n 0, 1) := by decide +kernel
theorem d_12_isAWord_37 : decode prog_14_method_49_code 37 = .ok (.ldc 200, 2) := by decide +kernel
theorem d_12_isAWord_39 : decode prog_14_method_49_code 39 = .ok (.invokevirtual 116, 3) := by decide +kernel
theorem d_12_isAWord_42 : decode prog_14_method_49_code 42 = .ok (.ifCond .ne 21, 3) := by decide +kernel
theorem d_12_isAWord_45 : decode prog_14_method_49_code 45 = .ok (.aload_n 0, 1) := by decide +kernel
theorem d_12_isAWord_46 : decode prog_14_method_49_code 46 = .ok (.ldc 202, 2) := by decide +kernel
theorem d_12_isAWord_48 : decode prog_14_method_49_code 48 = .ok (.invokevirtual 116, 3) := by decide +kernel
theorem d_12_isAWord_51 : decode prog_14_method_49_code 51 = .ok (.ifCond .ne 12, 3) := by decide +kernel
theorem d_12_isAWord_54 : decode prog_14_method_49_code 54 = .ok (.aload_n 0, 1) := by decide +kernel
theorem d_12_isAWord_55 : decode prog_14_method_49_code 55 = .ok (.ldc 204, 2) := by decide +kernel
theorem d_12_isAWord_57 : decode prog_14_method_49_code 57 = .ok (.invokevirtual 116, 3) := by decide +kernel
theorem d_12_isAWord_60 : decode prog_14_method_49_code 60 = .ok (.ifCond .eq 7, 3) := by decide +kernel
theorem d_12_isAWord_63 : decode prog_14_method_49_code 63 = .ok (.iconst 1, 1) := by decide +kernel
theorem d_12_isAWord_64 : decode prog_14_method_49_code 64 = .ok (.goto 4, 3) := by decide +kernel
theorem d_12_isAWord_67 : decode prog_14_method_49_code 67 = .ok (.iconst 0, 1) := by decide +kernel
theorem d_12_isAWord_68 : decode prog_14_method_49_code 68 = .ok (.ireturn, 1) := by decide +kernel
theorem d_12_readPattern_0 : decode prog_14_method_50_code 0 = .ok (.aload_n 0, 1) := by decide +kernel
theorem d_12_readPattern_1 : decode prog_14_method_50_code 1 = .ok (.invokevirtual 113, 3) := by decide +kernel
theorem d_12_readPattern_4 : decode prog_14_method_50_code 4 = .ok (.aload_n 0, 1) := by decide +kernel
theorem d_12_readPattern_5 : decode prog_14_method_50_code 5 = .ok (.invokevirtual 206, 3) := by decide +kernel
theorem d_12_readPattern_8 : decode prog_14_method_50_code 8 = .ok (.ifCond .eq 5, 3) := by decide +kernel
theorem d_12_readPattern_11 : decode prog_14_method_50_code 11 = .ok (.iconst 0, 1) := by decide +kernel
theorem d_12_readPattern_12 : decode prog_14_method_50_code 12 = .ok (.ireturn, 1) := by decide +kernel
theorem d_12_readPattern_13 : decode prog_14_method_50_code 13 = .ok (.aload_n 0, 1) := by decide +kernel
theorem d_12_readPattern_14 : decode prog_14_method_50_code 14 = .ok (.aload_n 0, 1) := by decide +kernel
theorem d_12_readPattern_15 : decode prog_14_method_50_code 15 = .ok (.getfield 98, 3) := by decide +kernel
theorem d_12_readPattern_18 : decode prog_14_method_50_code 18 = .ok (.putfield 91, 3) := by decide +kernel
theorem d_12_readPattern_21 : decode prog_14_method_50_code 21 = .ok (.iconst 0, 1) := by decide +kernel
theorem d_12_readPattern_22 : decode prog_14_method_50_code 22 = .ok (.istore_n 2, 1) := by decide +kernel
theorem d_12_readPattern_23 : decode prog_14_method_50_code 23 = .ok (.iconst 0, 1) := by decide +kernel
theorem d_12_readPattern_24 : decode prog_14_method_50_code 24 = .ok (.istore_n 3, 1) := by decide +kernel
theorem d_12_readPattern_25 : decode prog_14_method_50_code 25 = .ok (.aload_n 0, 1) := by decide +kernel
theorem d_12_readPattern_26 : decode prog_14_method_50_code 26 = .ok (.bipush 97, 2) := by decide +kernel
theorem d_12_readPattern_28 : decode prog_14_method_50_code 28 = .ok (.bipush 122, 2) := by decide +kernel
theorem d_12_readPattern_30 : decode prog_14_method_50_code 30 = .ok (.invokevirtual 94, 3) := by decide +kernel
theorem d_12_readPattern_33 : decode prog_14_method_50_code 33 = .ok (.ifCond .ne 14, 3) := by decide +kernel
theorem d_12_readPattern_36 : decode prog_14_method_50_code 36 = .ok (.aload_n 0, 1) := by decide +kernel
theorem d_12_readPattern_37 : decode prog_14_method_50_code 37 = .ok (.bipush 63, 2) := by decide +kernel
theorem d_12_readPattern_39 : decode prog_14_method_50_code 39 = .ok (.bipush 63, 2) := by decide +kernel
theorem d_12_readPattern_41 : decode prog_14_method_50_code 41 = .ok (.invokevirtual 94, 3) := by decide +kernel
theorem d_12_readPattern_44 : decode prog_14_method_50_code 44 = .ok (.ifCond .eq 60, 3) := by decide +kernel
theorem d_12_readPattern_47 : decode prog_14_method_50_code 47 = .ok (.iload_n 2, 1) := by decide +kernel
theorem d_12_readPattern_48 : decode prog_14_method_50_code 48 = .ok (.iconst 4, 1) := by decide +kernel
theorem d_12_readPattern_49 : decode prog_14_method_50_code 49 = .ok (.if_icmp .ge 39, 3) := by decide +kernel
theorem d_12_readPattern_52 : decode prog_14_method_50_code 52 = .ok (.bipush 32, 2) := by decide +kernel
theorem d_12_readPattern_54 : decode prog_14_method_50_code 54 = .ok (.iload_n 3, 1) := by decide +kernel
theorem d_12_readPattern_55 : decode prog_14_method_50_code 55 = .ok (.imul, 1) := by decide +kernel
theorem d_12_readPattern_56 : decode prog_14_method_50_code 56 = .ok (.aload_n 0, 1) := by decide +kernel
theorem d_12_readPattern_57 : decode prog_14_method_50_code 57 = .ok (.bipush 63, 2) := by decide +kernel
theorem d_12_readPattern_59 : decode prog_14_method_50_code 59 = .ok (.bipush 63, 2) := by decide +kernel
theorem d_12_readPattern_61 : decode prog_14_method_50_code 61 = .ok (.invokevirtual 94, 3) := by decide +kernel
theorem d_12_readPattern_64 : decode prog_14_method_50_code 64 = .ok (.ifCond .eq 8, 3) := by decide +kernel
theorem d_12_readPattern_67 : decode prog_14_method_50_code 67 = .ok (.bipush 27, 2) := by decide +kernel
theorem d_12_readPattern_69 : decode prog_14_method_50_code 69 = .ok (.goto 17, 3) := by decide +kernel
theorem d_12_readPattern_72 : decode prog_14_method_50_code 72 = .ok (.aload_n 0, 1) := by decide +kernel
theorem d_12_readPattern_73 : decode prog_14_method_50_code 73 = .ok (.getfield 23, 3) := by decide +kernel
theorem d_12_readPattern_76 : decode prog_14_method_50_code 76 = .ok (.aload_n 0, 1) := by decide +kernel
theorem d_12_readPattern_77 : decode prog_14_method_50_code 77 = .ok (.getfield 91, 3) := by decide +kernel
theorem d_12_readPattern_80 : decode prog_14_method_50_code 80 = .ok (.baload, 1) := by decide +kernel
theorem d_12_readPattern_81 : decode prog_14_method_50_code 81 = .ok (.bipush 97, 2) := by decide +kernel
theorem d_12_readPattern_83 : decode prog_14_method_50_code 83 = .ok (.isub, 1) := by decide +kernel
theorem d_12_readPattern_84 : decode prog_14_method_50_code 84 = .ok (.iconst 1, 1) := by decide +kernel
theorem d_12_readPattern_85 : decode prog_14_method_50_code 85 = .ok (.iadd, 1) := by decide +kernel
theorem d_12_readPattern_86 : decode prog_14_method_50_code 86 = .ok (.iadd, 1) := by decide +kernel
theorem d_12_readPattern_87 : decode prog_14_method_50_code 87 = .ok (.istore_n 3, 1) := by decide +kernel
theorem d_12_readPattern_88 : decode prog_14_method_50_code 88 = .ok (.iinc 2 1, 3) := by decide +kernel
theorem d_12_readPattern_91 : decode prog_14_method_50_code 91 = .ok (.aload_n 0, 1) := by decide +kernel
theorem d_12_readPattern_92 : decode prog_14_method_50_code 92 = .ok (.dup, 1) := by decide +kernel
theorem d_12_readPattern_93 : decode prog_14_method_50_code 93 = .ok (.getfield 91, 3) := by decide +kernel
theorem d_12_readPattern_96 : decode prog_14_method_50_code 96 = .ok (.iconst 1, 1) := by decide +kernel
theorem d_12_readPattern_97 : decode prog_14_method_50_code 97 = .ok (.iadd, 1) := by decide +kernel
theorem d_12_readPattern_98 : decode prog_14_method_50_code 98 = .ok (.putfield 91, 3) := by decide +kernel
theorem d_12_readPattern_101 : decode prog_14_method_50_code 101 = .ok (.goto (-76), 3) := by decide +kernel
theorem d_12_readPattern_104 : decode prog_14_method_50_code 104 = .ok (.aload_n 0, 1) := by decide +kernel
theorem d_12_readPattern_105 : decode prog_14_method_50_code 105 = .ok (.bipush 42, 2) := by decide +kernel
theorem d_12_readPattern_107 : decode prog_14_method_50_code 107 = .ok (.bipush 42, 2) := by decide +kernel
theorem d_12_readPattern_109 : decode prog_14_method_50_code 109 = .ok (.invokevirtual 94, 3) := by decide +kernel
theorem d_12_readPattern_112 : decode prog_14_method_50_code 112 = .ok (.istore 4, 2) := by decide +kernel
theorem d_12_readPattern_114 : decode prog_14_method_50_code 114 = .ok (.aload_n 0, 1) := by decide +kernel
theorem d_12_readPattern_115 : decode prog_14_method_50_code 115 = .ok (.dup, 1) := by decide +kernel
theorem d_12_readPattern_116 : decode prog_14_method_50_code 116 = .ok (.getfield 91, 3) := by decide +kernel
theorem d_12_readPattern_119 : decode prog_14_method_50_code 119 = .ok (.iload 4, 2) := by decide +kernel
theorem d_12_readPattern_121 : decode prog_14_method_50_code 121 = .ok (.ifCond .eq 7, 3) := by decide +kernel
theorem d_12_readPattern_124 : decode prog_14_method_50_code 124 = .ok (.iconst 1, 1) := by decide +kernel
theorem d_12_readPattern_125 : decode prog_14_method_50_code 125 = .ok (.goto 4, 3) := by decide +kernel
theorem d_12_readPattern_128 : decode prog_14_method_50_code 128 = .ok (.iconst 0, 1) := by decide +kernel
theorem d_12_readPattern_129 : decode prog_14_method_50_code 129 = .ok (.iadd, 1) := by decide +kernel
theorem d_12_readPattern_130 : decode prog_14_method_50_code 130 = .ok (.putfield 91, 3) := by decide +kernel
theorem d_12_readPattern_133 : decode prog_14_method_50_code 133 = .ok (.aload_n 0, 1) := by decide +kernel
theorem d_12_readPattern_134 : decode prog_14_method_50_code 134 = .ok (.getfield 13, 3) := by decide +kernel
theorem d_12_readPattern_137 : decode prog_14_method_50_code 137 = .ok (.iload_n 1, 1) := by decide +kernel
theorem d_12_readPattern_138 : decode prog_14_method_50_code 138 = .ok (.iconst 1, 1) := by decide +kernel
theorem d_12_readPattern_139 : decode prog_14_method_50_code 139 = .ok (.iadd, 1) := by decide +kernel
theorem d_12_readPattern_140 : decode prog_14_method_50_code 140 = .ok (.iconst 2, 1) := by decide +kernel
theorem d_12_readPattern_141 : decode prog_14_method_50_code 141 = .ok (.iastore, 1) := by decide +kernel
theorem d_12_readPattern_142 : decode prog_14_method_50_code 142 = .ok (.aload_n 0, 1) := by decide +kernel
theorem d_12_readPattern_143 : decode prog_14_method_50_code 143 = .ok (.getfield 13, 3) := by decide +kernel
theorem d_12_readPattern_146 : decode prog_14_method_50_code 146 = .ok (.iload_n 1, 1) := by decide +kernel
theorem d_12_readPattern_147 : decode prog_14_method_50_code 147 = .ok (.iconst 2, 1) := by decide +kernel
theorem d_12_readPattern_148 : decode prog_14_method_50_code 148 = .ok (.iadd, 1) := by decide +kernel
theorem d_12_readPattern_149 : decode prog_14_method_50_code 149 = .ok (.iload_n 3, 1) := by decide +kernel
theorem d_12_readPattern_150 : decode prog_14_method_50_code 150 = .ok (.iastore, 1) := by decide +kernel
theorem d_12_readPattern_151 : decode prog_14_method_50_code 151 = .ok (.aload_n 0, 1) := by decide +kernel
theorem d_12_readPattern_152 : decode prog_14_method_50_code 152 = .ok (.getfield 13, 3) := by decide +kernel
theorem d_12_readPattern_155 : decode prog_14_method_50_code 155 = .ok (.iload_n 1, 1) := by decide +kernel
theorem d_12_readPattern_156 : decode prog_14_method_50_code 156 = .ok (.iconst 3, 1) := by decide +kernel
theorem d_12_readPattern_157 : decode prog_14_method_50_code 157 = .ok (.iadd, 1) := by decide +kernel
theorem d_12_readPattern_158 : decode prog_14_method_50_code 158 = .ok (.iload_n 2, 1) := by decide +kernel
theorem d_12_readPattern_159 : decode prog_14_method_50_code 159 = .ok (.iastore, 1) := by decide +kernel
theorem d_12_readPattern_160 : decode prog_14_method_50_code 160 = .ok (.aload_n 0, 1) := by decide +kernel
theorem d_12_readPattern_161 : decode prog_14_method_50_code 161 = .ok (.getfield 13, 3) := by decide +kernel
theorem d_12_readPattern_164 : decode prog_14_method_50_code 164 = .ok (.iload_n 1, 1) := by decide +kernel
theorem d_12_readPattern_165 : decode prog_14_method_50_code 165 = .ok (.iconst 4, 1) := by decide +kernel
theorem d_12_readPattern_166 : decode prog_14_method_50_code 166 = .ok (.iadd, 1) := by decide +kernel
theorem d_12_readPattern_167 : decode prog_14_method_50_code 167 = .ok (.iload 4, 2) := by decide +kernel
theorem d_12_readPattern_169 : decode prog_14_method_50_code 169 = .ok (.ifCond .eq 7, 3) := by decide +kernel
theorem d_12_readPattern_172 : decode prog_14_method_50_code 172 = .ok (.iconst 1, 1) := by decide +kernel
theorem d_12_readPattern_173 : decode prog_14_method_50_code 173 = .ok (.goto 4, 3) := by decide +kernel
theorem d_12_readPattern_176 : decode prog_14_method_50_code 176 = .ok (.iconst 0, 1) := by decide +kernel
theorem d_12_readPattern_177 : decode prog_14_method_50_code 177 = .ok (.iastore, 1) := by decide +kernel
theorem d_12_readPattern_178 : decode prog_14_method_50_code 178 = .ok (.iload_n 2, 1) := by decide +kernel
theorem d_12_readPattern_179 : decode prog_14_method_50_code 179 = .ok (.iconst 4, 1) := by decide +kernel
theorem d_12_readPattern_180 : decode prog_14_method_50_code 180 = .ok (.if_icmp .gt 16, 3) := by decide +kernel
theorem d_12_readPattern_183 : decode prog_14_method_50_code 183 = .ok (.iload_n 2, 1) := by decide +kernel
theorem d_12_readPattern_184 : decode prog_14_method_50_code 184 = .ok (.ifCond .gt 8, 3) := by decide +kernel
theorem d_12_readPattern_187 : decode prog_14_method_50_code 187 = .ok (.iload 4, 2) := by decide +kernel
theorem d_12_readPattern_189 : decode prog_14_method_50_code 189 = .ok (.ifCond .eq 7, 3) := by decide +kernel
theorem d_12_readPattern_192 : decode prog_14_method_50_code 192 = .ok (.iconst 1, 1) := by decide +kernel
theorem d_12_readPattern_193 : decode prog_14_method_50_code 193 = .ok (.goto 4, 3) := by decide +kernel
theorem d_12_readPattern_196 : decode prog_14_method_50_code 196 = .ok (.iconst 0, 1) := by decide +kernel
theorem d_12_readPattern_197 : decode prog_14_method_50_code 197 = .ok (.ireturn, 1) := by decide +kernel
theorem d_12_readTest_0 : decode prog_14_method_51_code 0 = .ok (.iconst 0, 1) := by decide +kernel
theorem d_12_readTest_1 : decode prog_14_method_51_code 1 = .ok (.istore_n 3, 1) := by decide +kernel
theorem d_12_readTest_2 : decode prog_14_method_51_code 2 = .ok (.aload_n 0, 1) := by decide +kernel
theorem d_12_readTest_3 : decode prog_14_method_51_code 3 = .ok (.ldc 196, 2) := by decide +kernel
theorem d_12_readTest_5 : decode prog_14_method_51_code 5 = .ok (.invokevirtual 209, 3) := by decide +kernel
theorem d_12_readTest_8 : decode prog_14_method_51_code 8 = .ok (.ifCond .eq 16, 3) := by decide +kernel
theorem d_12_readTest_11 : decode prog_14_method_51_code 11 = .ok (.iload_n 3, 1) := by decide +kernel
theorem d_12_readTest_12 : decode prog_14_method_51_code 12 = .ok (.iconst 4, 1) := by decide +kernel
theorem d_12_readTest_13 : decode prog_14_method_51_code 13 = .ok (.if_icmp .ne 5, 3) := by decide +kernel
theorem d_12_readTest_16 : decode prog_14_method_51_code 16 = .ok (.iconst 0, 1) := by decide +kernel
theorem d_12_readTest_17 : decode prog_14_method_51_code 17 = .ok (.ireturn, 1) := by decide +kernel
theorem d_12_readTest_18 : decode prog_14_method_51_code 18 = .ok (.iinc 3 1, 3) := by decide +kernel
theorem d_12_readTest_21 : decode prog_14_method_51_code 21 = .ok (.goto (-19), 3) := by decide +kernel
theorem d_12_readTest_24 : decode prog_14_method_51_code 24 = .ok (.aload_n 0, 1) := by decide +kernel
theorem d_12_readTest_25 : decode prog_14_method_51_code 25 = .ok (.getfield 13, 3) := by decide +kernel
theorem d_12_readTest_28 : decode prog_14_method_51_code 28 = .ok (.iload_n 2, 1) := by decide +kernel
theorem d_12_readTest_29 : decode prog_14_method_51_code 29 = .ok (.iconst 0, 1) := by decide +kernel
theorem d_12_readTest_30 : decode prog_14_method_51_code 30 = .ok (.iadd, 1) := by decide +kernel
theorem d_12_readTest_31 : decode prog_14_method_51_code 31 = .ok (.iload_n 3, 1) := by decide +kernel
theorem d_12_readTest_32 : decode prog_14_method_51_code 32 = .ok (.iconst 2, 1) := by decide +kernel
theorem d_12_readTest_33 : decode prog_14_method_51_code 33 = .ok (.irem, 1) := by decide +kernel
theorem d_12_readTest_34 : decode prog_14_method_51_code 34 = .ok (.iastore, 1) := by decide +kernel
theorem d_12_readTest_35 : decode prog_14_method_51_code 35 = .ok (.aload_n 0, 1) := by decide +kernel
theorem d_12_readTest_36 : decode prog_14_method_51_code 36 = .ok (.getfield 13, 3) := by decide +kernel
theorem d_12_readTest_39 : decode prog_14_method_51_code 39 = .ok (.iload_n 2, 1) := by decide +kernel
theorem d_12_readTest_40 : decode prog_14_method_51_code 40 = .ok (.iconst 1, 1) := by decide +kernel
theorem d_12_readTest_41 : decode prog_14_method_51_code 41 = .ok (.iadd, 1) := by decide +kernel
theorem d_12_readTest_42 : decode prog_14_method_51_code 42 = .ok (.iconst 0, 1) := by decide +kernel
theorem d_12_readTest_43 : decode prog_14_method_51_code 43 = .ok (.iastore, 1) := by decide +kernel
theorem d_12_readTest_44 : decode prog_14_method_51_code 44 = .ok (.aload_n 0, 1) := by decide +kernel
theorem d_12_readTest_45 : decode prog_14_method_51_code 45 = .ok (.ldc 198, 2) := by decide +kernel
theorem d_12_readTest_47 : decode prog_14_method_51_code 47 = .ok (.invokevirtual 209, 3) := by decide +kernel
theorem d_12_readTest_50 : decode prog_14_method_51_code 50 = .ok (.ifCond .eq 5, 3) := by decide +kernel
theorem d_12_readTest_53 : decode prog_14_method_51_code 53 = .ok (.iconst 1, 1) := by decide +kernel
theorem d_12_readTest_54 : decode prog_14_method_51_code 54 = .ok (.ireturn, 1) := by decide +kernel
theorem d_12_readTest_55 : decode prog_14_method_51_code 55 = .ok (.aload_n 0, 1) := by decide +kernel
theorem d_12_readTest_56 : decode prog_14_method_51_code 56 = .ok (.iload_n 1, 1) := by decide +kernel
theorem d_12_readTest_57 : decode prog_14_method_51_code 57 = .ok (.invokevirtual 130, 3) := by decide +kernel
theorem d_12_readTest_60 : decode prog_14_method_51_code 60 = .ok (.ifCond .eq 9, 3) := by decide +kernel
theorem d_12_readTest_63 : decode prog_14_method_51_code 63 = .ok (.aload_n 0, 1) := by decide +kernel
theorem d_12_readTest_64 : decode prog_14_method_51_code 64 = .ok (.iload_n 2, 1) := by decide +kernel
theorem d_12_readTest_65 : decode prog_14_method_51_code 65 = .ok (.invokevirtual 212, 3) := by decide +kernel
theorem d_12_readTest_68 : decode prog_14_method_51_code 68 = .ok (.ireturn, 1) := by decide +kernel
theorem d_12_readTest_69 : decode prog_14_method_51_code 69 = .ok (.aload_n 0, 1) := by decide +kernel
theorem d_12_readTest_70 : decode prog_14_method_51_code 70 = .ok (.sipush (-999), 3) := by decide +kernel
theorem d_12_readTest_73 : decode prog_14_method_51_code 73 = .ok (.invokevirtual 133, 3) := by decide +kernel
theorem d_12_readTest_76 : decode prog_14_method_51_code 76 = .ok (.ifCond .ne 5, 3) := by decide +kernel
theorem d_12_readTest_79 : decode prog_14_method_51_code 79 = .ok (.iconst 0, 1) := by decide +kernel
theorem d_12_readTest_80 : decode prog_14_method_51_code 80 = .ok (.ireturn, 1) := by decide +kernel
theorem d_12_readTest_81 : decode prog_14_method_51_code 81 = .ok (.aload_n 0, 1) := by decide +kernel
theorem d_12_readTest_82 : decode prog_14_method_51_code 82 = .ok (.getfield 13, 3) := by decide +kernel
theorem d_12_readTest_85 : decode prog_14_method_51_code 85 = .ok (.iload_n 2, 1) := by decide +kernel
theorem d_12_readTest_86 : decode prog_14_method_51_code 86 = .ok (.iconst 1, 1) := by decide +kernel
theorem d_12_readTest_87 : decode prog_14_method_51_code 87 = .ok (.iadd, 1) := by decide +kernel
theorem d_12_readTest_88 : decode prog_14_method_51_code 88 = .ok (.iconst 1, 1) := by decide +kernel
theorem d_12_readTest_89 : decode prog_14_method_51_code 89 = .ok (.iastore, 1) := by decide +kernel
theorem d_12_readTest_90 : decode prog_14_method_51_code 90 = .ok (.aload_n 0, 1) := by decide +kernel
theorem d_12_readTest_91 : decode prog_14_method_51_code 91 = .ok (.getfield 13, 3) := by decide +kernel
theorem d_12_readTest_94 : decode prog_14_method_51_code 94 = .ok (.iload_n 2, 1) := by decide +kernel
theorem d_12_readTest_95 : decode prog_14_method_51_code 95 = .ok (.iconst 2, 1) := by decide +kernel
theorem d_12_readTest_96 : decode prog_14_method_51_code 96 = .ok (.iadd, 1) := by decide +kernel
theorem d_12_readTest_97 : decode prog_14_method_51_code 97 = .ok (.aload_n 0, 1) := by decide +kernel
theorem d_12_readTest_98 : decode prog_14_method_51_code 98 = .ok (.getfield 120, 3) := by decide +kernel
theorem d_12_readTest_101 : decode prog_14_method_51_code 101 = .ok (.iastore, 1) := by decide +kernel
theorem d_12_readTest_102 : decode prog_14_method_51_code 102 = .ok (.aload_n 0, 1) := by decide +kernel
theorem d_12_readTest_103 : decode prog_14_method_51_code 103 = .ok (.getfield 13, 3) := by decide +kernel
theorem d_12_readTest_106 : decode prog_14_method_51_code 106 = .ok (.iload_n 2, 1) := by decide +kernel
theorem d_12_readTest_107 : decode prog_14_method_51_code 107 = .ok (.iconst 3, 1) := by decide +kernel
theorem d_12_readTest_108 : decode prog_14_method_51_code 108 = .ok (.iadd, 1) := by decide +kernel
theorem d_12_readTest_109 : decode prog_14_method_51_code 109 = .ok (.aload_n 0, 1) := by decide +kernel
theorem d_12_readTest_110 : decode prog_14_method_51_code 110 = .ok (.getfield 120, 3) := by decide +kernel
theorem d_12_readTest_113 : decode prog_14_method_51_code 113 = .ok (.iastore, 1) := by decide +kernel
theorem d_12_readTest_114 : decode prog_14_method_51_code 114 = .ok (.aload_n 0, 1) := by decide +kernel
theorem d_12_readTest_115 : decode prog_14_method_51_code 115 = .ok (.ldc 194, 2) := by decide +kernel
theorem d_12_readTest_117 : decode prog_14_method_51_code 117 = .ok (.invokevirtual 209, 3) := by decide +kernel
theorem d_12_readTest_120 : decode prog_14_method_51_code 120 = .ok (.ifCond .ne 5, 3) := by decide +kernel
theorem d_12_readTest_123 : decode prog_14_method_51_code 123 = .ok (.iconst 1, 1) := by decide +kernel
theorem d_12_readTest_124 : decode prog_14_method_51_code 124 = .ok (.ireturn, 1) := by decide +kernel
theorem d_12_readTest_125 : decode prog_14_method_51_code 125 = .ok (.aload_n 0, 1) := by decide +kernel
theorem d_12_readTest_126 : decode prog_14_method_51_code 126 = .ok (.aload_n 0, 1) := by decide +kernel
theorem d_12_readTest_127 : decode prog_14_method_51_code 127 = .ok (.getfield 120, 3) := by decide +kernel
theorem d_12_readTest_130 : decode prog_14_method_51_code 130 = .ok (.invokevirtual 133, 3) := by decide +kernel
theorem d_12_readTest_133 : decode prog_14_method_51_code 133 = .ok (.istore 4, 2) := by decide +kernel
theorem d_12_readTest_135 : decode prog_14_method_51_code 135 = .ok (.aload_n 0, 1) := by decide +kernel
theorem d_12_readTest_136 : decode prog_14_method_51_code 136 = .ok (.getfield 13, 3) := by decide +kernel
theorem d_12_readTest_139 : decode prog_14_method_51_code 139 = .ok (.iload_n 2, 1) := by decide +kernel
theorem d_12_readTest_140 : decode prog_14_method_51_code 140 = .ok (.iconst 3, 1) := by decide +kernel
theorem d_12_readTest_141 : decode prog_14_method_51_code 141 = .ok (.iadd, 1) := by decide +kernel
theorem d_12_readTest_142 : decode prog_14_method_51_code 142 = .ok (.aload_n 0, 1) := by decide +kernel
theorem d_12_readTest_143 : decode prog_14_method_51_code 143 = .ok (.getfield 120, 3) := by decide +kernel
theorem d_12_readTest_146 : decode prog_14_method_51_code 146 = .ok (.iastore, 1) := by decide +kernel
theorem d_12_readTest_147 : decode prog_14_method_51_code 147 = .ok (.iload 4, 2) := by decide +kernel
theorem d_12_readTest_149 : decode prog_14_method_51_code 149 = .ok (.ireturn, 1) := by decide +kernel
theorem d_12_readFilter_0 : decode prog_14_method_52_code 0 = .ok (.aload_n 0, 1) := by decide +kernel
theorem d_12_readFilter_1 : decode prog_14_method_52_code 1 = .ok (.iconst 0, 1) := by decide +kernel
theorem d_12_readFilter_2 : decode prog_14_method_52_code 2 = .ok (.aload_n 0, 1) := by decide +kernel
theorem d_12_readFilter_3 : decode prog_14_method_52_code 3 = .ok (.invokevirtual 60, 3) := by decide +kernel
theorem d_12_readFilter_6 : decode prog_14_method_52_code 6 = .ok (.iconst 1, 1) := by decide +kernel
theorem d_12_readFilter_7 : decode prog_14_method_52_code 7 = .ok (.isub, 1) := by decide +kernel
theorem d_12_readFilter_8 : decode prog_14_method_52_code 8 = .ok (.invokevirtual 215, 3) := by decide +kernel
theorem d_12_readFilter_11 : decode prog_14_method_52_code 11 = .ok (.ifCond .ne 5, 3) := by decide +kernel
theorem d_12_readFilter_14 : decode prog_14_method_52_code 14 = .ok (.iconst 0, 1) := by decide +kernel
theorem d_12_readFilter_15 : decode prog_14_method_52_code 15 = .ok (.ireturn, 1) := by decide +kernel
theorem d_12_readFilter_16 : decode prog_14_method_52_code 16 = .ok (.aload_n 0, 1) := by decide +kernel
theorem d_12_readFilter_17 : decode prog_14_method_52_code 17 = .ok (.getfield 120, 3) := by decide +kernel
theorem d_12_readFilter_20 : decode prog_14_method_52_code 20 = .ok (.istore_n 2, 1) := by decide +kernel
theorem d_12_readFilter_21 : decode prog_14_method_52_code 21 = .ok (.aload_n 0, 1) := by decide +kernel
theorem d_12_readFilter_22 : decode prog_14_method_52_code 22 = .ok (.getfield 13, 3) := by decide +kernel
theorem d_12_readFilter_25 : decode prog_14_method_52_code 25 = .ok (.iload_n 1, 1) := by decide +kernel
theorem d_12_readFilter_26 : decode prog_14_method_52_code 26 = .ok (.iload_n 2, 1) := by decide +kernel
theorem d_12_readFilter_27 : decode prog_14_method_52_code 27 = .ok (.invokestatic 189, 3) := by decide +kernel
theorem d_12_readFilter_30 : decode prog_14_method_52_code 30 = .ok (.iaload, 1) := by decide +kernel
theorem d_12_readFilter_31 : decode prog_14_method_52_code 31 = .ok (.ifCond .gt 12, 3) := by decide +kernel
theorem d_12_readFilter_34 : decode prog_14_method_52_code 34 = .ok (.aload_n 0, 1) := by decide +kernel
theorem d_12_readFilter_35 : decode prog_14_method_52_code 35 = .ok (.bipush 58, 2) := by decide +kernel
theorem d_12_readFilter_37 : decode prog_14_method_52_code 37 = .ok (.invokevirtual 126, 3) := by decide +kernel
theorem d_12_readFilter_40 : decode prog_14_method_52_code 40 = .ok (.ifCond .ne 5, 3) := by decide +kernel
theorem d_12_readFilter_43 : decode prog_14_method_52_code 43 = .ok (.iconst 0, 1) := by decide +kernel
theorem d_12_readFilter_44 : decode prog_14_method_52_code 44 = .ok (.ireturn, 1) := by decide +kernel
theorem d_12_readFilter_45 : decode prog_14_method_52_code 45 = .ok (.iconst 0, 1) := by decide +kernel
theorem d_12_readFilter_46 : decode prog_14_method_52_code 46 = .ok (.istore_n 3, 1) := by decide +kernel
theorem d_12_readFilter_47 : decode prog_14_method_52_code 47 = .ok (.aload_n 0, 1) := by decide +kernel
theorem d_12_readFilter_48 : decode prog_14_method_52_code 48 = .ok (.invokevirtual 101, 3) := by decide +kernel
theorem d_12_readFilter_51 : decode prog_14_method_52_code 51 = .ok (.iload_n 3, 1) := by decide +kernel
theorem d_12_readFilter_52 : decode prog_14_method_52_code 52 = .ok (.bipush 6, 2) := by decide +kernel
theorem d_12_readFilter_54 : decode prog_14_method_52_code 54 = .ok (.if_icmp .eq 17, 3) := by decide +kernel
theorem d_12_readFilter_57 : decode prog_14_method_52_code 57 = .ok (.aload_n 0, 1) := by decide +kernel
theorem d_12_readFilter_58 : decode prog_14_method_52_code 58 = .ok (.iload_n 2, 1) := by decide +kernel
theorem d_12_readFilter_59 : decode prog_14_method_52_code 59 = .ok (.iload_n 1, 1) := by decide +kernel
theorem d_12_readFilter_60 : decode prog_14_method_52_code 60 = .ok (.iload_n 2, 1) := by decide +kernel
theorem d_12_readFilter_61 : decode prog_14_method_52_code 61 = .ok (.iload_n 3, 1) := by decide +kernel
theorem d_12_readFilter_62 : decode prog_14_method_52_code 62 = .ok (.invokestatic 217, 3) := by decide +kernel
theorem d_12_readFilter_65 : decode prog_14_method_52_code 65 = .ok (.invokevirtual 221, 3) := by decide +kernel
theorem d_12_readFilter_68 : decode prog_14_method_52_code 68 = .ok (.ifCond .ne 5, 3) := by decide +kernel
theorem d_12_readFilter_71 : decode prog_14_method_52_code 71 = .ok (.iconst 0, 1) := by decide +kernel
theorem d_12_readFilter_72 : decode prog_14_method_52_code 72 = .ok (.ireturn, 1) := by decide +kernel
theorem d_12_readFilter_73 : decode prog_14_method_52_code 73 = .ok (.iinc 3 1, 3) := by decide +kernel
theorem d_12_readFilter_76 : decode prog_14_method_52_code 76 = .ok (.aload_n 0, 1) := by decide +kernel
theorem d_12_readFilter_77 : decode prog_14_method_52_code 77 = .ok (.ldc 192, 2) := by decide +kernel
theorem d_12_readFilter_79 : decode prog_14_method_52_code 79 = .ok (.invokevirtual 209, 3) := by decide +kernel
theorem d_12_readFilter_82 : decode prog_14_method_52_code 82 = .ok (.ifCond .ne (-35), 3) := by decide +kernel
theorem d_12_readFilter_85 : decode prog_14_method_52_code 85 = .ok (.aload_n 0, 1) := by decide +kernel
theorem d_12_readFilter_86 : decode prog_14_method_52_code 86 = .ok (.getfield 13, 3) := by decide +kernel
theorem d_12_readFilter_89 : decode prog_14_method_52_code 89 = .ok (.iload_n 1, 1) := by decide +kernel
theorem d_12_readFilter_90 : decode prog_14_method_52_code 90 = .ok (.iload_n 2, 1) := by decide +kernel
theorem d_12_readFilter_91 : decode prog_14_method_52_code 91 = .ok (.invokestatic 189, 3) := by decide +kernel
theorem d_12_readFilter_94 : decode prog_14_method_52_code 94 = .ok (.iload_n 3, 1) := by decide +kernel
theorem d_12_readFilter_95 : decode prog_14_method_52_code 95 = .ok (.iastore, 1) := by decide +kernel
theorem d_12_readFilter_96 : decode prog_14_method_52_code 96 = .ok (.iconst 1, 1) := by decide +kernel
theorem d_12_readFilter_97 : decode prog_14_method_52_code 97 = .ok (.ireturn, 1) := by decide +kernel
theorem d_12_readPart_0 : decode prog_14_method_55_code 0 = .ok (.aload_n 0, 1) := by decide +kernel
theorem d_12_readPart_1 : decode prog_14_method_55_code 1 = .ok (.ldc 200, 2) := by decide +kernel
theorem d_12_readPart_3 : decode prog_14_method_55_code 3 = .ok (.invokevirtual 209, 3) := by decide +kernel
theorem d_12_readPart_6 : decode prog_14_method_55_code 6 = .ok (.ifCond .eq 10, 3) := by decide +kernel
theorem d_12_readPart_9 : decode prog_14_method_55_code 9 = .ok (.aload_n 0, 1) := by decide +kernel
theorem d_12_readPart_10 : decode prog_14_method_55_code 10 = .ok (.iload_n 1, 1) := by decide +kernel
theorem d_12_readPart_11 : decode prog_14_method_55_code 11 = .ok (.iconst 0, 1) := by decide +kernel
theorem d_12_readPart_12 : decode prog_14_method_55_code 12 = .ok (.invokevirtual 227, 3) := by decide +kernel
theorem d_12_readPart_15 : decode prog_14_method_55_code 15 = .ok (.ireturn, 1) := by decide +kernel
theorem d_12_readPart_16 : decode prog_14_method_55_code 16 = .ok (.aload_n 0, 1) := by decide +kernel
theorem d_12_readPart_17 : decode prog_14_method_55_code 17 = .ok (.ldc 202, 2) := by decide +kernel
theorem d_12_readPart_19 : decode prog_14_method_55_code 19 = .ok (.invokevirtual 209, 3) := by decide +kernel
theorem d_12_readPart_22 : decode prog_14_method_55_code 22 = .ok (.ifCond .eq 10, 3) := by decide +kernel
theorem d_12_readPart_25 : decode prog_14_method_55_code 25 = .ok (.aload_n 0, 1) := by decide +kernel
theorem d_12_readPart_26 : decode prog_14_method_55_code 26 = .ok (.iload_n 1, 1) := by decide +kernel
theorem d_12_readPart_27 : decode prog_14_method_55_code 27 = .ok (.iconst 1, 1) := by decide +kernel
theorem d_12_readPart_28 : decode prog_14_method_55_code 28 = .ok (.invokevirtual 227, 3) := by decide +kernel
theorem d_12_readPart_31 : decode prog_14_method_55_code 31 = .ok (.ireturn, 1) := by decide +kernel
theorem d_12_readPart_32 : decode prog_14_method_55_code 32 = .ok (.aload_n 0, 1) := by decide +kernel
theorem d_12_readPart_33 : decode prog_14_method_55_code 33 = .ok (.ldc 204, 2) := by decide +kernel
theorem d_12_readPart_35 : decode prog_14_method_55_code 35 = .ok (.invokevirtual 209, 3) := by decide +kernel
theorem d_12_readPart_38 : decode prog_14_method_55_code 38 = .ok (.ifCond .eq 11, 3) := by decide +kernel
theorem d_12_readPart_41 : decode prog_14_method_55_code 41 = .ok (.aload_n 0, 1) := by decide +kernel
theorem d_12_readPart_42 : decode prog_14_method_55_code 42 = .ok (.iload_n 1, 1) := by decide +kernel
theorem d_12_readPart_43 : decode prog_14_method_55_code 43 = .ok (.invokevirtual 230, 3) := by decide +kernel
theorem d_12_readPart_46 : decode prog_14_method_55_code 46 = .ok (.goto 8, 3) := by decide +kernel
theorem d_12_readPart_49 : decode prog_14_method_55_code 49 = .ok (.aload_n 0, 1) := by decide +kernel
theorem d_12_readPart_50 : decode prog_14_method_55_code 50 = .ok (.iload_n 1, 1) := by decide +kernel
theorem d_12_readPart_51 : decode prog_14_method_55_code 51 = .ok (.invokevirtual 233, 3) := by decide +kernel
theorem d_12_readPart_54 : decode prog_14_method_55_code 54 = .ok (.ireturn, 1) := by decide +kernel
theorem d_12_readView_0 : decode prog_14_method_56_code 0 = .ok (.bipush 25, 2) := by decide +kernel
theorem d_12_readView_2 : decode prog_14_method_56_code 2 = .ok (.istore_n 2, 1) := by decide +kernel
theorem d_12_readView_3 : decode prog_14_method_56_code 3 = .ok (.iload_n 2, 1) := by decide +kernel
theorem d_12_readView_4 : decode prog_14_method_56_code 4 = .ok (.sipush 185, 3) := by decide +kernel
theorem d_12_readView_7 : decode prog_14_method_56_code 7 = .ok (.if_icmp .ge 20, 3) := by decide +kernel
theorem d_12_readView_10 : decode prog_14_method_56_code 10 = .ok (.aload_n 0, 1) := by decide +kernel
theorem d_12_readView_11 : decode prog_14_method_56_code 11 = .ok (.getfield 13, 3) := by decide +kernel
theorem d_12_readView_14 : decode prog_14_method_56_code 14 = .ok (.iload_n 1, 1) := by decide +kernel
theorem d_12_readView_15 : decode prog_14_method_56_code 15 = .ok (.iload_n 2, 1) := by decide +kernel
theorem d_12_readView_16 : decode prog_14_method_56_code 16 = .ok (.invokestatic 52, 3) := by decide +kernel
theorem d_12_readView_19 : decode prog_14_method_56_code 19 = .ok (.iconst 0, 1) := by decide +kernel
theorem d_12_readView_20 : decode prog_14_method_56_code 20 = .ok (.iastore, 1) := by decide +kernel
theorem d_12_readView_21 : decode prog_14_method_56_code 21 = .ok (.iinc 2 1, 3) := by decide +kernel
theorem d_12_readView_24 : decode prog_14_method_56_code 24 = .ok (.goto (-21), 3) := by decide +kernel
theorem d_12_readView_27 : decode prog_14_method_56_code 27 = .ok (.aload_n 0, 1) := by decide +kernel
theorem d_12_readView_28 : decode prog_14_method_56_code 28 = .ok (.invokevirtual 101, 3) := by decide +kernel
theorem d_12_readView_31 : decode prog_14_method_56_code 31 = .ok (.aload_n 0, 1) := by decide +kernel
theorem d_12_readView_32 : decode prog_14_method_56_code 32 = .ok (.getfield 91, 3) := by decide +kernel
theorem d_12_readView_35 : decode prog_14_method_56_code 35 = .ok (.aload_n 0, 1) := by decide +kernel
theorem d_12_readView_36 : decode prog_14_method_56_code 36 = .ok (.getfield 88, 3) := by decide +kernel
theorem d_12_readView_39 : decode prog_14_method_56_code 39 = .ok (.if_icmp .ne 5, 3) := by decide +kernel
theorem d_12_readView_42 : decode prog_14_method_56_code 42 = .ok (.iconst 1, 1) := by decide +kernel
theorem d_12_readView_43 : decode prog_14_method_56_code 43 = .ok (.ireturn, 1) := by decide +kernel
theorem d_12_readView_44 : decode prog_14_method_56_code 44 = .ok (.aload_n 0, 1) := by decide +kernel
theorem d_12_readView_45 : decode prog_14_method_56_code 45 = .ok (.iload_n 1, 1) := by decide +kernel
theorem d_12_readView_46 : decode prog_14_method_56_code 46 = .ok (.invokevirtual 236, 3) := by decide +kernel
theorem d_12_readView_49 : decode prog_14_method_56_code 49 = .ok (.ifCond .ne 5, 3) := by decide +kernel
theorem d_12_readView_52 : decode prog_14_method_56_code 52 = .ok (.iconst 0, 1) := by decide +kernel
theorem d_12_readView_53 : decode prog_14_method_56_code 53 = .ok (.ireturn, 1) := by decide +kernel
theorem d_12_readView_54 : decode prog_14_method_56_code 54 = .ok (.aload_n 0, 1) := by decide +kernel
theorem d_12_readView_55 : decode prog_14_method_56_code 55 = .ok (.bipush 59, 2) := by decide +kernel
theorem d_12_readView_57 : decode prog_14_method_56_code 57 = .ok (.invokevirtual 126, 3) := by decide +kernel
theorem d_12_readView_60 : decode prog_14_method_56_code 60 = .ok (.ifCond .ne (-16), 3) := by decide +kernel
theorem d_12_readView_63 : decode prog_14_method_56_code 63 = .ok (.aload_n 0, 1) := by decide +kernel
theorem d_12_readView_64 : decode prog_14_method_56_code 64 = .ok (.getfield 91, 3) := by decide +kernel
theorem d_12_readView_67 : decode prog_14_method_56_code 67 = .ok (.aload_n 0, 1) := by decide +kernel
theorem d_12_readView_68 : decode prog_14_method_56_code 68 = .ok (.getfield 88, 3) := by decide +kernel
theorem d_12_readView_71 : decode prog_14_method_56_code 71 = .ok (.if_icmp .ne 7, 3) := by decide +kernel
theorem d_12_readView_74 : decode prog_14_method_56_code 74 = .ok (.iconst 1, 1) := by decide +kernel
theorem d_12_readView_75 : decode prog_14_method_56_code 75 = .ok (.goto 4, 3) := by decide +kernel
theorem d_12_readView_78 : decode prog_14_method_56_code 78 = .ok (.iconst 0, 1) := by decide +kernel
theorem d_12_readView_79 : decode prog_14_method_56_code 79 = .ok (.ireturn, 1) := by decide +kernel
theorem d_12_keyAt_0 : decode prog_14_method_18_code 0 = .ok (.aload_n 0, 1) := by decide +kernel
theorem d_12_keyAt_1 : decode prog_14_method_18_code 1 = .ok (.getfield 13, 3) := by decide +kernel
theorem d_12_keyAt_4 : decode prog_14_method_18_code 4 = .ok (.iload_n 1, 1) := by decide +kernel
theorem d_12_keyAt_5 : decode prog_14_method_18_code 5 = .ok (.iconst 1, 1) := by decide +kernel
theorem d_12_keyAt_6 : decode prog_14_method_18_code 6 = .ok (.iadd, 1) := by decide +kernel
theorem d_12_keyAt_7 : decode prog_14_method_18_code 7 = .ok (.iload_n 2, 1) := by decide +kernel
theorem d_12_keyAt_8 : decode prog_14_method_18_code 8 = .ok (.iadd, 1) := by decide +kernel
theorem d_12_keyAt_9 : decode prog_14_method_18_code 9 = .ok (.iaload, 1) := by decide +kernel
theorem d_12_keyAt_10 : decode prog_14_method_18_code 10 = .ok (.ireturn, 1) := by decide +kernel
theorem d_12_bySort_0 : decode prog_14_method_63_code 0 = .ok (.aload_n 0, 1) := by decide +kernel
theorem d_12_bySort_1 : decode prog_14_method_63_code 1 = .ok (.iload_n 2, 1) := by decide +kernel
theorem d_12_bySort_2 : decode prog_14_method_63_code 2 = .ok (.iload_n 1, 1) := by decide +kernel
theorem d_12_bySort_3 : decode prog_14_method_63_code 3 = .ok (.iconst 2, 1) := by decide +kernel
theorem d_12_bySort_4 : decode prog_14_method_63_code 4 = .ok (.idiv, 1) := by decide +kernel
theorem d_12_bySort_5 : decode prog_14_method_63_code 5 = .ok (.invokevirtual 251, 3) := by decide +kernel
theorem d_12_bySort_8 : decode prog_14_method_63_code 8 = .ok (.istore 4, 2) := by decide +kernel
theorem d_12_bySort_10 : decode prog_14_method_63_code 10 = .ok (.aload_n 0, 1) := by decide +kernel
theorem d_12_bySort_11 : decode prog_14_method_63_code 11 = .ok (.iload_n 3, 1) := by decide +kernel
theorem d_12_bySort_12 : decode prog_14_method_63_code 12 = .ok (.iload_n 1, 1) := by decide +kernel
theorem d_12_bySort_13 : decode prog_14_method_63_code 13 = .ok (.iconst 2, 1) := by decide +kernel
theorem d_12_bySort_14 : decode prog_14_method_63_code 14 = .ok (.idiv, 1) := by decide +kernel
theorem d_12_bySort_15 : decode prog_14_method_63_code 15 = .ok (.invokevirtual 251, 3) := by decide +kernel
theorem d_12_bySort_18 : decode prog_14_method_63_code 18 = .ok (.istore 5, 2) := by decide +kernel
theorem d_12_bySort_20 : decode prog_14_method_63_code 20 = .ok (.iload 4, 2) := by decide +kernel
theorem d_12_bySort_22 : decode prog_14_method_63_code 22 = .ok (.iload 5, 2) := by decide +kernel
theorem d_12_bySort_24 : decode prog_14_method_63_code 24 = .ok (.if_icmp .ne 5, 3) := by decide +kernel
theorem d_12_bySort_27 : decode prog_14_method_63_code 27 = .ok (.iconst 0, 1) := by decide +kernel
theorem d_12_bySort_28 : decode prog_14_method_63_code 28 = .ok (.ireturn, 1) := by decide +kernel
theorem d_12_bySort_29 : decode prog_14_method_63_code 29 = .ok (.iload 4, 2) := by decide +kernel
theorem d_12_bySort_31 : decode prog_14_method_63_code 31 = .ok (.ldc 84, 2) := by decide +kernel
theorem d_12_bySort_33 : decode prog_14_method_63_code 33 = .ok (.if_icmp .eq 10, 3) := by decide +kernel
theorem d_12_bySort_36 : decode prog_14_method_63_code 36 = .ok (.iload 5, 2) := by decide +kernel
theorem d_12_bySort_38 : decode prog_14_method_63_code 38 = .ok (.ldc 84, 2) := by decide +kernel
theorem d_12_bySort_40 : decode prog_14_method_63_code 40 = .ok (.if_icmp .ne 16, 3) := by decide +kernel
theorem d_12_bySort_43 : decode prog_14_method_63_code 43 = .ok (.iload 4, 2) := by decide +kernel
theorem d_12_bySort_45 : decode prog_14_method_63_code 45 = .ok (.ldc 84, 2) := by decide +kernel
theorem d_12_bySort_47 : decode prog_14_method_63_code 47 = .ok (.if_icmp .ne 7, 3) := by decide +kernel
theorem d_12_bySort_50 : decode prog_14_method_63_code 50 = .ok (.iconst 1, 1) := by decide +kernel
theorem d_12_bySort_51 : decode prog_14_method_63_code 51 = .ok (.goto 4, 3) := by decide +kernel
theorem d_12_bySort_54 : decode prog_14_method_63_code 54 = .ok (.iconst (-1), 1) := by decide +kernel
theorem d_12_bySort_55 : decode prog_14_method_63_code 55 = .ok (.ireturn, 1) := by decide +kernel
theorem d_12_bySort_56 : decode prog_14_method_63_code 56 = .ok (.iload 4, 2) := by decide +kernel
theorem d_12_bySort_58 : decode prog_14_method_63_code 58 = .ok (.iload 5, 2) := by decide +kernel
theorem d_12_bySort_60 : decode prog_14_method_63_code 60 = .ok (.if_icmp .le 7, 3) := by decide +kernel
theorem d_12_bySort_63 : decode prog_14_method_63_code 63 = .ok (.iconst 1, 1) := by decide +kernel
theorem d_12_bySort_64 : decode prog_14_method_63_code 64 = .ok (.goto 4, 3) := by decide +kernel
theorem d_12_bySort_67 : decode prog_14_method_63_code 67 = .ok (.iconst 0, 1) := by decide +kernel
theorem d_12_bySort_68 : decode prog_14_method_63_code 68 = .ok (.iload_n 1, 1) := by decide +kernel
theorem d_12_bySort_69 : decode prog_14_method_63_code 69 = .ok (.iconst 2, 1) := by decide +kernel
theorem d_12_bySort_70 : decode prog_14_method_63_code 70 = .ok (.irem, 1) := by decide +kernel
theorem d_12_bySort_71 : decode prog_14_method_63_code 71 = .ok (.ifCond .ne 7, 3) := by decide +kernel
theorem d_12_bySort_74 : decode prog_14_method_63_code 74 = .ok (.iconst 1, 1) := by decide +kernel
theorem d_12_bySort_75 : decode prog_14_method_63_code 75 = .ok (.goto 4, 3) := by decide +kernel
theorem d_12_bySort_78 : decode prog_14_method_63_code 78 = .ok (.iconst 0, 1) := by decide +kernel
theorem d_12_bySort_79 : decode prog_14_method_63_code 79 = .ok (.if_icmp .ne 7, 3) := by decide +kernel
theorem d_12_bySort_82 : decode prog_14_method_63_code 82 = .ok (.iconst 1, 1) := by decide +kernel
theorem d_12_bySort_83 : decode prog_14_method_63_code 83 = .ok (.goto 4, 3) := by decide +kernel
theorem d_12_bySort_86 : decode prog_14_method_63_code 86 = .ok (.iconst (-1), 1) := by decide +kernel
theorem d_12_bySort_87 : decode prog_14_method_63_code 87 = .ok (.ireturn, 1) := by decide +kernel
theorem d_12_placeIn_0 : decode prog_14_method_19_code 0 = .ok (.iconst 0, 1) := by decide +kernel
theorem d_12_placeIn_1 : decode prog_14_method_19_code 1 = .ok (.istore_n 3, 1) := by decide +kernel
theorem d_12_placeIn_2 : decode prog_14_method_19_code 2 = .ok (.iload_n 3, 1) := by decide +kernel
theorem d_12_placeIn_3 : decode prog_14_method_19_code 3 = .ok (.aload_n 0, 1) := by decide +kernel
theorem d_12_placeIn_4 : decode prog_14_method_19_code 4 = .ok (.iload_n 1, 1) := by decide +kernel
theorem d_12_placeIn_5 : decode prog_14_method_19_code 5 = .ok (.invokevirtual 64, 3) := by decide +kernel
theorem d_12_placeIn_8 : decode prog_14_method_19_code 8 = .ok (.if_icmp .ge 19, 3) := by decide +kernel
theorem d_12_placeIn_11 : decode prog_14_method_19_code 11 = .ok (.aload_n 0, 1) := by decide +kernel
theorem d_12_placeIn_12 : decode prog_14_method_19_code 12 = .ok (.iload_n 1, 1) := by decide +kernel
theorem d_12_placeIn_13 : decode prog_14_method_19_code 13 = .ok (.iload_n 3, 1) := by decide +kernel
theorem d_12_placeIn_14 : decode prog_14_method_19_code 14 = .ok (.invokevirtual 71, 3) := by decide +kernel
theorem d_12_placeIn_17 : decode prog_14_method_19_code 17 = .ok (.iload_n 2, 1) := by decide +kernel
theorem d_12_placeIn_18 : decode prog_14_method_19_code 18 = .ok (.if_icmp .eq 9, 3) := by decide +kernel
theorem d_12_placeIn_21 : decode prog_14_method_19_code 21 = .ok (.iinc 3 1, 3) := by decide +kernel
theorem d_12_placeIn_24 : decode prog_14_method_19_code 24 = .ok (.goto (-22), 3) := by decide +kernel
theorem d_12_placeIn_27 : decode prog_14_method_19_code 27 = .ok (.iload_n 3, 1) := by decide +kernel
theorem d_12_placeIn_28 : decode prog_14_method_19_code 28 = .ok (.aload_n 0, 1) := by decide +kernel
theorem d_12_placeIn_29 : decode prog_14_method_19_code 29 = .ok (.iload_n 1, 1) := by decide +kernel
theorem d_12_placeIn_30 : decode prog_14_method_19_code 30 = .ok (.invokevirtual 64, 3) := by decide +kernel
theorem d_12_placeIn_33 : decode prog_14_method_19_code 33 = .ok (.if_icmp .ge 7, 3) := by decide +kernel
theorem d_12_placeIn_36 : decode prog_14_method_19_code 36 = .ok (.iload_n 3, 1) := by decide +kernel
theorem d_12_placeIn_37 : decode prog_14_method_19_code 37 = .ok (.goto 4, 3) := by decide +kernel
theorem d_12_placeIn_40 : decode prog_14_method_19_code 40 = .ok (.iconst (-1), 1) := by decide +kernel
theorem d_12_placeIn_41 : decode prog_14_method_19_code 41 = .ok (.ireturn, 1) := by decide +kernel
theorem d_12_bySorts_0 : decode prog_14_method_64_code 0 = .ok (.iconst 0, 1) := by decide +kernel
theorem d_12_bySorts_1 : decode prog_14_method_64_code 1 = .ok (.istore 5, 2) := by decide +kernel
theorem d_12_bySorts_3 : decode prog_14_method_64_code 3 = .ok (.iconst 0, 1) := by decide +kernel
theorem d_12_bySorts_4 : decode prog_14_method_64_code 4 = .ok (.istore 6, 2) := by decide +kernel
theorem d_12_bySorts_6 : decode prog_14_method_64_code 6 = .ok (.iload 6, 2) := by decide +kernel
theorem d_12_bySorts_8 : decode prog_14_method_64_code 8 = .ok (.iload_n 2, 1) := by decide +kernel
theorem d_12_bySorts_9 : decode prog_14_method_64_code 9 = .ok (.if_icmp .ge 32, 3) := by decide +kernel
theorem d_12_bySorts_12 : decode prog_14_method_64_code 12 = .ok (.iload 5, 2) := by decide +kernel
theorem d_12_bySorts_14 : decode prog_14_method_64_code 14 = .ok (.ifCond .ne 27, 3) := by decide +kernel
theorem d_12_bySorts_17 : decode prog_14_method_64_code 17 = .ok (.aload_n 0, 1) := by decide +kernel
theorem d_12_bySorts_18 : decode prog_14_method_64_code 18 = .ok (.aload_n 0, 1) := by decide +kernel
theorem d_12_bySorts_19 : decode prog_14_method_64_code 19 = .ok (.getfield 13, 3) := by decide +kernel
theorem d_12_bySorts_22 : decode prog_14_method_64_code 22 = .ok (.iload_n 1, 1) := by decide +kernel
theorem d_12_bySorts_23 : decode prog_14_method_64_code 23 = .ok (.iload 6, 2) := by decide +kernel
theorem d_12_bySorts_25 : decode prog_14_method_64_code 25 = .ok (.iadd, 1) := by decide +kernel
theorem d_12_bySorts_26 : decode prog_14_method_64_code 26 = .ok (.iaload, 1) := by decide +kernel
theorem d_12_bySorts_27 : decode prog_14_method_64_code 27 = .ok (.iload_n 3, 1) := by decide +kernel
theorem d_12_bySorts_28 : decode prog_14_method_64_code 28 = .ok (.iload 4, 2) := by decide +kernel
theorem d_12_bySorts_30 : decode prog_14_method_64_code 30 = .ok (.invokevirtual 263, 3) := by decide +kernel
theorem d_12_bySorts_33 : decode prog_14_method_64_code 33 = .ok (.istore 5, 2) := by decide +kernel
theorem d_12_bySorts_35 : decode prog_14_method_64_code 35 = .ok (.iinc 6 1, 3) := by decide +kernel
theorem d_12_bySorts_38 : decode prog_14_method_64_code 38 = .ok (.goto (-32), 3) := by decide +kernel
theorem d_12_bySorts_41 : decode prog_14_method_64_code 41 = .ok (.iload 5, 2) := by decide +kernel
theorem d_12_bySorts_43 : decode prog_14_method_64_code 43 = .ok (.ifCond .eq 8, 3) := by decide +kernel
theorem d_12_bySorts_46 : decode prog_14_method_64_code 46 = .ok (.iload 5, 2) := by decide +kernel
theorem d_12_bySorts_48 : decode prog_14_method_64_code 48 = .ok (.goto 28, 3) := by decide +kernel
theorem d_12_bySorts_51 : decode prog_14_method_64_code 51 = .ok (.aload_n 0, 1) := by decide +kernel
theorem d_12_bySorts_52 : decode prog_14_method_64_code 52 = .ok (.sipush 273, 3) := by decide +kernel
theorem d_12_bySorts_55 : decode prog_14_method_64_code 55 = .ok (.iload_n 3, 1) := by decide +kernel
theorem d_12_bySorts_56 : decode prog_14_method_64_code 56 = .ok (.invokevirtual 78, 3) := by decide +kernel
theorem d_12_bySorts_59 : decode prog_14_method_64_code 59 = .ok (.aload_n 0, 1) := by decide +kernel
theorem d_12_bySorts_60 : decode prog_14_method_64_code 60 = .ok (.sipush 273, 3) := by decide +kernel
theorem d_12_bySorts_63 : decode prog_14_method_64_code 63 = .ok (.iload 4, 2) := by decide +kernel
theorem d_12_bySorts_65 : decode prog_14_method_64_code 65 = .ok (.invokevirtual 78, 3) := by decide +kernel
theorem d_12_bySorts_68 : decode prog_14_method_64_code 68 = .ok (.if_icmp .le 7, 3) := by decide +kernel
theorem d_12_bySorts_71 : decode prog_14_method_64_code 71 = .ok (.iconst 1, 1) := by decide +kernel
theorem d_12_bySorts_72 : decode prog_14_method_64_code 72 = .ok (.goto 4, 3) := by decide +kernel
theorem d_12_bySorts_75 : decode prog_14_method_64_code 75 = .ok (.iconst (-1), 1) := by decide +kernel
theorem d_12_bySorts_76 : decode prog_14_method_64_code 76 = .ok (.ireturn, 1) := by decide +kernel
theorem d_12_laysFresh_0 : decode prog_14_method_65_code 0 = .ok (.iconst 0, 1) := by decide +kernel
theorem d_12_laysFresh_1 : decode prog_14_method_65_code 1 = .ok (.istore_n 2, 1) := by decide +kernel
theorem d_12_laysFresh_2 : decode prog_14_method_65_code 2 = .ok (.iconst 0, 1) := by decide +kernel
theorem d_12_laysFresh_3 : decode prog_14_method_65_code 3 = .ok (.istore_n 3, 1) := by decide +kernel
theorem d_12_laysFresh_4 : decode prog_14_method_65_code 4 = .ok (.iload_n 3, 1) := by decide +kernel
theorem d_12_laysFresh_5 : decode prog_14_method_65_code 5 = .ok (.aload_n 0, 1) := by decide +kernel
theorem d_12_laysFresh_6 : decode prog_14_method_65_code 6 = .ok (.invokevirtual 144, 3) := by decide +kernel
theorem d_12_laysFresh_9 : decode prog_14_method_65_code 9 = .ok (.if_icmp .ge 109, 3) := by decide +kernel
theorem d_12_laysFresh_12 : decode prog_14_method_65_code 12 = .ok (.aload_n 0, 1) := by decide +kernel
theorem d_12_laysFresh_13 : decode prog_14_method_65_code 13 = .ok (.sipush 273, 3) := by decide +kernel
theorem d_12_laysFresh_16 : decode prog_14_method_65_code 16 = .ok (.iload_n 3, 1) := by decide +kernel
theorem d_12_laysFresh_17 : decode prog_14_method_65_code 17 = .ok (.invokevirtual 71, 3) := by decide +kernel
theorem d_12_laysFresh_20 : decode prog_14_method_65_code 20 = .ok (.istore 4, 2) := by decide +kernel
theorem d_12_laysFresh_22 : decode prog_14_method_65_code 22 = .ok (.aload_n 0, 1) := by decide +kernel
theorem d_12_laysFresh_23 : decode prog_14_method_65_code 23 = .ok (.iload_n 1, 1) := by decide +kernel
theorem d_12_laysFresh_24 : decode prog_14_method_65_code 24 = .ok (.iload 4, 2) := by decide +kernel
theorem d_12_laysFresh_26 : decode prog_14_method_65_code 26 = .ok (.invokevirtual 157, 3) := by decide +kernel
theorem d_12_laysFresh_29 : decode prog_14_method_65_code 29 = .ok (.ifCond .ne 6, 3) := by decide +kernel
theorem d_12_laysFresh_32 : decode prog_14_method_65_code 32 = .ok (.goto 80, 3) := by decide +kernel
theorem d_12_laysFresh_35 : decode prog_14_method_65_code 35 = .ok (.iload_n 2, 1) := by decide +kernel
theorem d_12_laysFresh_36 : decode prog_14_method_65_code 36 = .ok (.istore 5, 2) := by decide +kernel
theorem d_12_laysFresh_38 : decode prog_14_method_65_code 38 = .ok (.iload 5, 2) := by decide +kernel
theorem d_12_laysFresh_40 : decode prog_14_method_65_code 40 = .ok (.ifCond .le 60, 3) := by decide +kernel
theorem d_12_laysFresh_43 : decode prog_14_method_65_code 43 = .ok (.aload_n 0, 1) := by decide +kernel
theorem d_12_laysFresh_44 : decode prog_14_method_65_code 44 = .ok (.iload_n 1, 1) := by decide +kernel
theorem d_12_laysFresh_45 : decode prog_14_method_65_code 45 = .ok (.bipush 26, 2) := by decide +kernel
theorem d_12_laysFresh_47 : decode prog_14_method_65_code 47 = .ok (.invokestatic 52, 3) := by decide +kernel
theorem d_12_laysFresh_50 : decode prog_14_method_65_code 50 = .ok (.aload_n 0, 1) := by decide +kernel
theorem d_12_laysFresh_51 : decode prog_14_method_65_code 51 = .ok (.getfield 13, 3) := by decide +kernel
theorem d_12_laysFresh_54 : decode prog_14_method_65_code 54 = .ok (.iload_n 1, 1) := by decide +kernel
theorem d_12_laysFresh_55 : decode prog_14_method_65_code 55 = .ok (.bipush 25, 2) := by decide +kernel
theorem d_12_laysFresh_57 : decode prog_14_method_65_code 57 = .ok (.invokestatic 52, 3) := by decide +kernel
theorem d_12_laysFresh_60 : decode prog_14_method_65_code 60 = .ok (.iaload, 1) := by decide +kernel
theorem d_12_laysFresh_61 : decode prog_14_method_65_code 61 = .ok (.aload_n 0, 1) := by decide +kernel
theorem d_12_laysFresh_62 : decode prog_14_method_65_code 62 = .ok (.getfield 33, 3) := by decide +kernel
theorem d_12_laysFresh_65 : decode prog_14_method_65_code 65 = .ok (.iload 5, 2) := by decide +kernel
theorem d_12_laysFresh_67 : decode prog_14_method_65_code 67 = .ok (.iconst 1, 1) := by decide +kernel
theorem d_12_laysFresh_68 : decode prog_14_method_65_code 68 = .ok (.isub, 1) := by decide +kernel
theorem d_12_laysFresh_69 : decode prog_14_method_65_code 69 = .ok (.iaload, 1) := by decide +kernel
theorem d_12_laysFresh_70 : decode prog_14_method_65_code 70 = .ok (.iload 4, 2) := by decide +kernel
theorem d_12_laysFresh_72 : decode prog_14_method_65_code 72 = .ok (.invokevirtual 266, 3) := by decide +kernel
theorem d_12_laysFresh_75 : decode prog_14_method_65_code 75 = .ok (.ifCond .le 25, 3) := by decide +kernel
theorem d_12_laysFresh_78 : decode prog_14_method_65_code 78 = .ok (.aload_n 0, 1) := by decide +kernel
theorem d_12_laysFresh_79 : decode prog_14_method_65_code 79 = .ok (.getfield 33, 3) := by decide +kernel
theorem d_12_laysFresh_82 : decode prog_14_method_65_code 82 = .ok (.iload 5, 2) := by decide +kernel
theorem d_12_laysFresh_84 : decode prog_14_method_65_code 84 = .ok (.aload_n 0, 1) := by decide +kernel
theorem d_12_laysFresh_85 : decode prog_14_method_65_code 85 = .ok (.getfield 33, 3) := by decide +kernel
theorem d_12_laysFresh_88 : decode prog_14_method_65_code 88 = .ok (.iload 5, 2) := by decide +kernel
theorem d_12_laysFresh_90 : decode prog_14_method_65_code 90 = .ok (.iconst 1, 1) := by decide +kernel
theorem d_12_laysFresh_91 : decode prog_14_method_65_code 91 = .ok (.isub, 1) := by decide +kernel
theorem d_12_laysFresh_92 : decode prog_14_method_65_code 92 = .ok (.iaload, 1) := by decide +kernel
theorem d_12_laysFresh_93 : decode prog_14_method_65_code 93 = .ok (.iastore, 1) := by decide +kernel
theorem d_12_laysFresh_94 : decode prog_14_method_65_code 94 = .ok (.iinc 5 (-1), 3) := by decide +kernel
theorem d_12_laysFresh_97 : decode prog_14_method_65_code 97 = .ok (.goto (-59), 3) := by decide +kernel
theorem d_12_laysFresh_100 : decode prog_14_method_65_code 100 = .ok (.aload_n 0, 1) := by decide +kernel
theorem d_12_laysFresh_101 : decode prog_14_method_65_code 101 = .ok (.getfield 33, 3) := by decide +kernel
theorem d_12_laysFresh_104 : decode prog_14_method_65_code 104 = .ok (.iload 5, 2) := by decide +kernel
theorem d_12_laysFresh_106 : decode prog_14_method_65_code 106 = .ok (.iload 4, 2) := by decide +kernel
theorem d_12_laysFresh_108 : decode prog_14_method_65_code 108 = .ok (.iastore, 1) := by decide +kernel
theorem d_12_laysFresh_109 : decode prog_14_method_65_code 109 = .ok (.iinc 2 1, 3) := by decide +kernel
theorem d_12_laysFresh_112 : decode prog_14_method_65_code 112 = .ok (.iinc 3 1, 3) := by decide +kernel
theorem d_12_laysFresh_115 : decode prog_14_method_65_code 115 = .ok (.goto (-111), 3) := by decide +kernel
theorem d_12_laysFresh_118 : decode prog_14_method_65_code 118 = .ok (.iload_n 2, 1) := by decide +kernel
theorem d_12_laysFresh_119 : decode prog_14_method_65_code 119 = .ok (.ireturn, 1) := by decide +kernel
theorem d_12_isRefreshed_0 : decode prog_14_method_67_code 0 = .ok (.iload_n 1, 1) := by decide +kernel
theorem d_12_isRefreshed_1 : decode prog_14_method_67_code 1 = .ok (.invokestatic 68, 3) := by decide +kernel
theorem d_12_isRefreshed_4 : decode prog_14_method_67_code 4 = .ok (.istore_n 2, 1) := by decide +kernel
theorem d_12_isRefreshed_5 : decode prog_14_method_67_code 5 = .ok (.aload_n 0, 1) := by decide +kernel
theorem d_12_isRefreshed_6 : decode prog_14_method_67_code 6 = .ok (.iload_n 1, 1) := by decide +kernel
theorem d_12_isRefreshed_7 : decode prog_14_method_67_code 7 = .ok (.invokevirtual 270, 3) := by decide +kernel
theorem d_12_isRefreshed_10 : decode prog_14_method_67_code 10 = .ok (.istore_n 3, 1) := by decide +kernel
theorem d_12_isRefreshed_11 : decode prog_14_method_67_code 11 = .ok (.iconst 0, 1) := by decide +kernel
theorem d_12_isRefreshed_12 : decode prog_14_method_67_code 12 = .ok (.istore 4, 2) := by decide +kernel
theorem d_12_isRefreshed_14 : decode prog_14_method_67_code 14 = .ok (.iconst 0, 1) := by decide +kernel
theorem d_12_isRefreshed_15 : decode prog_14_method_67_code 15 = .ok (.istore 5, 2) := by decide +kernel
theorem d_12_isRefreshed_17 : decode prog_14_method_67_code 17 = .ok (.iload 5, 2) := by decide +kernel
theorem d_12_isRefreshed_19 : decode prog_14_method_67_code 19 = .ok (.iload_n 3, 1) := by decide +kernel
theorem d_12_isRefreshed_20 : decode prog_14_method_67_code 20 = .ok (.if_icmp .ge 35, 3) := by decide +kernel
theorem d_12_isRefreshed_23 : decode prog_14_method_67_code 23 = .ok (.iload 4, 2) := by decide +kernel
theorem d_12_isRefreshed_25 : decode prog_14_method_67_code 25 = .ok (.aload_n 0, 1) := by decide +kernel
theorem d_12_isRefreshed_26 : decode prog_14_method_67_code 26 = .ok (.iload_n 2, 1) := by decide +kernel
theorem d_12_isRefreshed_27 : decode prog_14_method_67_code 27 = .ok (.aload_n 0, 1) := by decide +kernel
theorem d_12_isRefreshed_28 : decode prog_14_method_67_code 28 = .ok (.getfield 33, 3) := by decide +kernel
theorem d_12_isRefreshed_31 : decode prog_14_method_67_code 31 = .ok (.iload 5, 2) := by decide +kernel
theorem d_12_isRefreshed_33 : decode prog_14_method_67_code 33 = .ok (.iaload, 1) := by decide +kernel
theorem d_12_isRefreshed_34 : decode prog_14_method_67_code 34 = .ok (.invokevirtual 78, 3) := by decide +kernel
theorem d_12_isRefreshed_37 : decode prog_14_method_67_code 37 = .ok (.iconst (-1), 1) := by decide +kernel
theorem d_12_isRefreshed_38 : decode prog_14_method_67_code 38 = .ok (.if_icmp .ne 7, 3) := by decide +kernel
theorem d_12_isRefreshed_41 : decode prog_14_method_67_code 41 = .ok (.iconst 0, 1) := by decide +kernel
theorem d_12_isRefreshed_42 : decode prog_14_method_67_code 42 = .ok (.goto 4, 3) := by decide +kernel
theorem d_12_isRefreshed_45 : decode prog_14_method_67_code 45 = .ok (.iconst 1, 1) := by decide +kernel
theorem d_12_isRefreshed_46 : decode prog_14_method_67_code 46 = .ok (.iadd, 1) := by decide +kernel
theorem d_12_isRefreshed_47 : decode prog_14_method_67_code 47 = .ok (.istore 4, 2) := by decide +kernel
theorem d_12_isRefreshed_49 : decode prog_14_method_67_code 49 = .ok (.iinc 5 1, 3) := by decide +kernel
theorem d_12_isRefreshed_52 : decode prog_14_method_67_code 52 = .ok (.goto (-35), 3) := by decide +kernel
theorem d_12_isRefreshed_55 : decode prog_14_method_67_code 55 = .ok (.iload_n 3, 1) := by decide +kernel
theorem d_12_isRefreshed_56 : decode prog_14_method_67_code 56 = .ok (.iload 4, 2) := by decide +kernel
theorem d_12_isRefreshed_58 : decode prog_14_method_67_code 58 = .ok (.isub, 1) := by decide +kernel
theorem d_12_isRefreshed_59 : decode prog_14_method_67_code 59 = .ok (.aload_n 0, 1) := by decide +kernel
theorem d_12_isRefreshed_60 : decode prog_14_method_67_code 60 = .ok (.iload_n 2, 1) := by decide +kernel
theorem d_12_isRefreshed_61 : decode prog_14_method_67_code 61 = .ok (.invokevirtual 64, 3) := by decide +kernel
theorem d_12_isRefreshed_64 : decode prog_14_method_67_code 64 = .ok (.iadd, 1) := by decide +kernel
theorem d_12_isRefreshed_65 : decode prog_14_method_67_code 65 = .ok (.iload 4, 2) := by decide +kernel
theorem d_12_isRefreshed_67 : decode prog_14_method_67_code 67 = .ok (.isub, 1) := by decide +kernel
theorem d_12_isRefreshed_68 : decode prog_14_method_67_code 68 = .ok (.istore 5, 2) := by decide +kernel
theorem d_12_isRefreshed_70 : decode prog_14_method_67_code 70 = .ok (.aload_n 0, 1) := by decide +kernel
theorem d_12_isRefreshed_71 : decode prog_14_method_67_code 71 = .ok (.getfield 13, 3) := by decide +kernel
theorem d_12_isRefreshed_74 : decode prog_14_method_67_code 74 = .ok (.iload_n 2, 1) := by decide +kernel
theorem d_12_isRefreshed_75 : decode prog_14_method_67_code 75 = .ok (.iload_n 3, 1) := by decide +kernel
theorem d_12_isRefreshed_76 : decode prog_14_method_67_code 76 = .ok (.iastore, 1) := by decide +kernel
theorem d_12_isRefreshed_77 : decode prog_14_method_67_code 77 = .ok (.iconst 0, 1) := by decide +kernel
theorem d_12_isRefreshed_78 : decode prog_14_method_67_code 78 = .ok (.istore 6, 2) := by decide +kernel
theorem d_12_isRefreshed_80 : decode prog_14_method_67_code 80 = .ok (.iload 6, 2) := by decide +kernel
theorem d_12_isRefreshed_82 : decode prog_14_method_67_code 82 = .ok (.iload_n 3, 1) := by decide +kernel
theorem d_12_isRefreshed_83 : decode prog_14_method_67_code 83 = .ok (.if_icmp .ge 27, 3) := by decide +kernel
theorem d_12_isRefreshed_86 : decode prog_14_method_67_code 86 = .ok (.aload_n 0, 1) := by decide +kernel
theorem d_12_isRefreshed_87 : decode prog_14_method_67_code 87 = .ok (.getfield 13, 3) := by decide +kernel
theorem d_12_isRefreshed_90 : decode prog_14_method_67_code 90 = .ok (.iload_n 2, 1) := by decide +kernel
theorem d_12_isRefreshed_91 : decode prog_14_method_67_code 91 = .ok (.iconst 1, 1) := by decide +kernel
theorem d_12_isRefreshed_92 : decode prog_14_method_67_code 92 = .ok (.iadd, 1) := by decide +kernel
theorem d_12_isRefreshed_93 : decode prog_14_method_67_code 93 = .ok (.iload 6, 2) := by decide +kernel
theorem d_12_isRefreshed_95 : decode prog_14_method_67_code 95 = .ok (.iadd, 1) := by decide +kernel
theorem d_12_isRefreshed_96 : decode prog_14_method_67_code 96 = .ok (.aload_n 0, 1) := by decide +kernel
theorem d_12_isRefreshed_97 : decode prog_14_method_67_code 97 = .ok (.getfield 33, 3) := by decide +kernel
theorem d_12_isRefreshed_100 : decode prog_14_method_67_code 100 = .ok (.iload 6, 2) := by decide +kernel
theorem d_12_isRefreshed_102 : decode prog_14_method_67_code 102 = .ok (.iaload, 1) := by decide +kernel
theorem d_12_isRefreshed_103 : decode prog_14_method_67_code 103 = .ok (.iastore, 1) := by decide +kernel
theorem d_12_isRefreshed_104 : decode prog_14_method_67_code 104 = .ok (.iinc 6 1, 3) := by decide +kernel
theorem d_12_isRefreshed_107 : decode prog_14_method_67_code 107 = .ok (.goto (-27), 3) := by decide +kernel
theorem d_12_isRefreshed_110 : decode prog_14_method_67_code 110 = .ok (.iload 5, 2) := by decide +kernel
theorem d_12_isRefreshed_112 : decode prog_14_method_67_code 112 = .ok (.ireturn, 1) := by decide +kernel
theorem d_12_view_0 : decode prog_14_method_57_code 0 = .ok (.aload_n 0, 1) := by decide +kernel
theorem d_12_view_1 : decode prog_14_method_57_code 1 = .ok (.invokevirtual 172, 3) := by decide +kernel
theorem d_12_view_4 : decode prog_14_method_57_code 4 = .ok (.aload_n 0, 1) := by decide +kernel
theorem d_12_view_5 : decode prog_14_method_57_code 5 = .ok (.iload_n 1, 1) := by decide +kernel
theorem d_12_view_6 : decode prog_14_method_57_code 6 = .ok (.invokestatic 239, 3) := by decide +kernel
theorem d_12_view_9 : decode prog_14_method_57_code 9 = .ok (.iconst 1, 1) := by decide +kernel
theorem d_12_view_10 : decode prog_14_method_57_code 10 = .ok (.invokevirtual 185, 3) := by decide +kernel
theorem d_12_view_13 : decode prog_14_method_57_code 13 = .ok (.ifCond .eq 5, 3) := by decide +kernel
theorem d_12_view_16 : decode prog_14_method_57_code 16 = .ok (.iconst 0, 1) := by decide +kernel
theorem d_12_view_17 : decode prog_14_method_57_code 17 = .ok (.ireturn, 1) := by decide +kernel
theorem d_12_view_18 : decode prog_14_method_57_code 18 = .ok (.aload_n 0, 1) := by decide +kernel
theorem d_12_view_19 : decode prog_14_method_57_code 19 = .ok (.invokevirtual 175, 3) := by decide +kernel
theorem d_12_view_22 : decode prog_14_method_57_code 22 = .ok (.aload_n 0, 1) := by decide +kernel
theorem d_12_view_23 : decode prog_14_method_57_code 23 = .ok (.aload_n 0, 1) := by decide +kernel
theorem d_12_view_24 : decode prog_14_method_57_code 24 = .ok (.aload_n 0, 1) := by decide +kernel
theorem d_12_view_25 : decode prog_14_method_57_code 25 = .ok (.iload_n 1, 1) := by decide +kernel
theorem d_12_view_26 : decode prog_14_method_57_code 26 = .ok (.invokevirtual 242, 3) := by decide +kernel
theorem d_12_view_29 : decode prog_14_method_57_code 29 = .ok (.invokevirtual 181, 3) := by decide +kernel
theorem d_12_view_32 : decode prog_14_method_57_code 32 = .ok (.ifCond .ne 7, 3) := by decide +kernel
theorem d_12_view_35 : decode prog_14_method_57_code 35 = .ok (.iconst 1, 1) := by decide +kernel
theorem d_12_view_36 : decode prog_14_method_57_code 36 = .ok (.goto 4, 3) := by decide +kernel
theorem d_12_view_39 : decode prog_14_method_57_code 39 = .ok (.iconst 0, 1) := by decide +kernel
theorem d_12_view_40 : decode prog_14_method_57_code 40 = .ok (.iconst 2, 1) := by decide +kernel
theorem d_12_view_41 : decode prog_14_method_57_code 41 = .ok (.invokevirtual 185, 3) := by decide +kernel
theorem d_12_view_44 : decode prog_14_method_57_code 44 = .ok (.ifCond .eq 5, 3) := by decide +kernel
theorem d_12_view_47 : decode prog_14_method_57_code 47 = .ok (.iconst 0, 1) := by decide +kernel
theorem d_12_view_48 : decode prog_14_method_57_code 48 = .ok (.ireturn, 1) := by decide +kernel
theorem d_12_view_49 : decode prog_14_method_57_code 49 = .ok (.aload_n 0, 1) := by decide +kernel
theorem d_12_view_50 : decode prog_14_method_57_code 50 = .ok (.iload_n 1, 1) := by decide +kernel
theorem d_12_view_51 : decode prog_14_method_57_code 51 = .ok (.invokevirtual 245, 3) := by decide +kernel
theorem d_12_view_54 : decode prog_14_method_57_code 54 = .ok (.pop, 1) := by decide +kernel
theorem d_12_view_55 : decode prog_14_method_57_code 55 = .ok (.aload_n 0, 1) := by decide +kernel
theorem d_12_view_56 : decode prog_14_method_57_code 56 = .ok (.iload_n 1, 1) := by decide +kernel
theorem d_12_view_57 : decode prog_14_method_57_code 57 = .ok (.invokestatic 68, 3) := by decide +kernel
theorem d_12_view_60 : decode prog_14_method_57_code 60 = .ok (.invokevirtual 64, 3) := by decide +kernel
theorem d_12_view_63 : decode prog_14_method_57_code 63 = .ok (.ireturn, 1) := by decide +kernel
theorem d_12_refresh_0 : decode prog_14_method_68_code 0 = .ok (.aload_n 0, 1) := by decide +kernel
theorem d_12_refresh_1 : decode prog_14_method_68_code 1 = .ok (.iconst 0, 1) := by decide +kernel
theorem d_12_refresh_2 : decode prog_14_method_68_code 2 = .ok (.putfield 3, 3) := by decide +kernel
theorem d_12_refresh_5 : decode prog_14_method_68_code 5 = .ok (.aload_n 0, 1) := by decide +kernel
theorem d_12_refresh_6 : decode prog_14_method_68_code 6 = .ok (.iload_n 1, 1) := by decide +kernel
theorem d_12_refresh_7 : decode prog_14_method_68_code 7 = .ok (.invokestatic 239, 3) := by decide +kernel
theorem d_12_refresh_10 : decode prog_14_method_68_code 10 = .ok (.iconst 1, 1) := by decide +kernel
theorem d_12_refresh_11 : decode prog_14_method_68_code 11 = .ok (.invokevirtual 185, 3) := by decide +kernel
theorem d_12_refresh_14 : decode prog_14_method_68_code 14 = .ok (.ifCond .eq 7, 3) := by decide +kernel
theorem d_12_refresh_17 : decode prog_14_method_68_code 17 = .ok (.iconst 0, 1) := by decide +kernel
theorem d_12_refresh_18 : decode prog_14_method_68_code 18 = .ok (.goto 8, 3) := by decide +kernel
theorem d_12_refresh_21 : decode prog_14_method_68_code 21 = .ok (.aload_n 0, 1) := by decide +kernel
theorem d_12_refresh_22 : decode prog_14_method_68_code 22 = .ok (.iload_n 1, 1) := by decide +kernel
theorem d_12_refresh_23 : decode prog_14_method_68_code 23 = .ok (.invokevirtual 245, 3) := by decide +kernel
theorem d_12_refresh_26 : decode prog_14_method_68_code 26 = .ok (.ireturn, 1) := by decide +kernel
theorem d_12_noPlace_0 : decode prog_14_method_17_code 0 = .ok (.iload_n 2, 1) := by decide +kernel
theorem d_12_noPlace_1 : decode prog_14_method_17_code 1 = .ok (.iconst 0, 1) := by decide +kernel
theorem d_12_noPlace_2 : decode prog_14_method_17_code 2 = .ok (.aload_n 0, 1) := by decide +kernel
theorem d_12_noPlace_3 : decode prog_14_method_17_code 3 = .ok (.iload_n 1, 1) := by decide +kernel
theorem d_12_noPlace_4 : decode prog_14_method_17_code 4 = .ok (.invokestatic 68, 3) := by decide +kernel
theorem d_12_noPlace_7 : decode prog_14_method_17_code 7 = .ok (.invokevirtual 64, 3) := by decide +kernel
theorem d_12_noPlace_10 : decode prog_14_method_17_code 10 = .ok (.iconst 1, 1) := by decide +kernel
theorem d_12_noPlace_11 : decode prog_14_method_17_code 11 = .ok (.isub, 1) := by decide +kernel
theorem d_12_noPlace_12 : decode prog_14_method_17_code 12 = .ok (.invokestatic 56, 3) := by decide +kernel
theorem d_12_noPlace_15 : decode prog_14_method_17_code 15 = .ok (.ifCond .ne 7, 3) := by decide +kernel
theorem d_12_noPlace_18 : decode prog_14_method_17_code 18 = .ok (.iconst 1, 1) := by decide +kernel
theorem d_12_noPlace_19 : decode prog_14_method_17_code 19 = .ok (.goto 4, 3) := by decide +kernel
theorem d_12_noPlace_22 : decode prog_14_method_17_code 22 = .ok (.iconst 0, 1) := by decide +kernel
theorem d_12_noPlace_23 : decode prog_14_method_17_code 23 = .ok (.ireturn, 1) := by decide +kernel
theorem d_12_noColumn_0 : decode prog_14_method_14_code 0 = .ok (.iload_n 1, 1) := by decide +kernel
theorem d_12_noColumn_1 : decode prog_14_method_14_code 1 = .ok (.iconst 0, 1) := by decide +kernel
theorem d_12_noColumn_2 : decode prog_14_method_14_code 2 = .ok (.aload_n 0, 1) := by decide +kernel
theorem d_12_noColumn_3 : decode prog_14_method_14_code 3 = .ok (.invokevirtual 60, 3) := by decide +kernel
theorem d_12_noColumn_6 : decode prog_14_method_14_code 6 = .ok (.iconst 1, 1) := by decide +kernel
theorem d_12_noColumn_7 : decode prog_14_method_14_code 7 = .ok (.isub, 1) := by decide +kernel
theorem d_12_noColumn_8 : decode prog_14_method_14_code 8 = .ok (.invokestatic 56, 3) := by decide +kernel
theorem d_12_noColumn_11 : decode prog_14_method_14_code 11 = .ok (.ifCond .ne 7, 3) := by decide +kernel
theorem d_12_noColumn_14 : decode prog_14_method_14_code 14 = .ok (.iconst 1, 1) := by decide +kernel
theorem d_12_noColumn_15 : decode prog_14_method_14_code 15 = .ok (.goto 4, 3) := by decide +kernel
theorem d_12_noColumn_18 : decode prog_14_method_14_code 18 = .ok (.iconst 0, 1) := by decide +kernel
theorem d_12_noColumn_19 : decode prog_14_method_14_code 19 = .ok (.ireturn, 1) := by decide +kernel
theorem d_12_noCell_0 : decode prog_14_method_74_code 0 = .ok (.aload_n 0, 1) := by decide +kernel
theorem d_12_noCell_1 : decode prog_14_method_74_code 1 = .ok (.iload_n 1, 1) := by decide +kernel
theorem d_12_noCell_2 : decode prog_14_method_74_code 2 = .ok (.invokestatic 239, 3) := by decide +kernel
theorem d_12_noCell_5 : decode prog_14_method_74_code 5 = .ok (.ifCond .ne 20, 3) := by decide +kernel
theorem d_12_noCell_8 : decode prog_14_method_74_code 8 = .ok (.aload_n 0, 1) := by decide +kernel
theorem d_12_noCell_9 : decode prog_14_method_74_code 9 = .ok (.iload_n 1, 1) := by decide +kernel
theorem d_12_noCell_10 : decode prog_14_method_74_code 10 = .ok (.iload_n 2, 1) := by decide +kernel
theorem d_12_noCell_11 : decode prog_14_method_74_code 11 = .ok (.invokevirtual 285, 3) := by decide +kernel
theorem d_12_noCell_14 : decode prog_14_method_74_code 14 = .ok (.ifCond .ne 11, 3) := by decide +kernel
theorem d_12_noCell_17 : decode prog_14_method_74_code 17 = .ok (.aload_n 0, 1) := by decide +kernel
theorem d_12_noCell_18 : decode prog_14_method_74_code 18 = .ok (.iload_n 3, 1) := by decide +kernel
theorem d_12_noCell_19 : decode prog_14_method_74_code 19 = .ok (.invokevirtual 288, 3) := by decide +kernel
theorem d_12_noCell_22 : decode prog_14_method_74_code 22 = .ok (.ifCond .eq 7, 3) := by decide +kernel
theorem d_12_noCell_25 : decode prog_14_method_74_code 25 = .ok (.iconst 1, 1) := by decide +kernel
theorem d_12_noCell_26 : decode prog_14_method_74_code 26 = .ok (.goto 4, 3) := by decide +kernel
theorem d_12_noCell_29 : decode prog_14_method_74_code 29 = .ok (.iconst 0, 1) := by decide +kernel
theorem d_12_noCell_30 : decode prog_14_method_74_code 30 = .ok (.iconst 1, 1) := by decide +kernel
theorem d_12_noCell_31 : decode prog_14_method_74_code 31 = .ok (.invokevirtual 185, 3) := by decide +kernel
theorem d_12_noCell_34 : decode prog_14_method_74_code 34 = .ok (.ireturn, 1) := by decide +kernel
theorem d_12_isHidden_0 : decode prog_14_method_73_code 0 = .ok (.aload_n 0, 1) := by decide +kernel
theorem d_12_isHidden_1 : decode prog_14_method_73_code 1 = .ok (.getfield 13, 3) := by decide +kernel
theorem d_12_isHidden_4 : decode prog_14_method_73_code 4 = .ok (.iload_n 1, 1) := by decide +kernel
theorem d_12_isHidden_5 : decode prog_14_method_73_code 5 = .ok (.bipush 29, 2) := by decide +kernel
theorem d_12_isHidden_7 : decode prog_14_method_73_code 7 = .ok (.invokestatic 52, 3) := by decide +kernel
theorem d_12_isHidden_10 : decode prog_14_method_73_code 10 = .ok (.iaload, 1) := by decide +kernel
theorem d_12_isHidden_11 : decode prog_14_method_73_code 11 = .ok (.iload_n 2, 1) := by decide +kernel
theorem d_12_isHidden_12 : decode prog_14_method_73_code 12 = .ok (.invokestatic 224, 3) := by decide +kernel
theorem d_12_isHidden_15 : decode prog_14_method_73_code 15 = .ok (.ireturn, 1) := by decide +kernel
theorem d_12_isValue_0 : decode prog_14_method_75_code 0 = .ok (.aload_n 0, 1) := by decide +kernel
theorem d_12_isValue_1 : decode prog_14_method_75_code 1 = .ok (.iload_n 1, 1) := by decide +kernel
theorem d_12_isValue_2 : decode prog_14_method_75_code 2 = .ok (.invokevirtual 130, 3) := by decide +kernel
theorem d_12_isValue_5 : decode prog_14_method_75_code 5 = .ok (.ifCond .ne 14, 3) := by decide +kernel
theorem d_12_isValue_8 : decode prog_14_method_75_code 8 = .ok (.iload_n 2, 1) := by decide +kernel
theorem d_12_isValue_9 : decode prog_14_method_75_code 9 = .ok (.sipush (-999), 3) := by decide +kernel
theorem d_12_isValue_12 : decode prog_14_method_75_code 12 = .ok (.sipush 999, 3) := by decide +kernel
theorem d_12_isValue_15 : decode prog_14_method_75_code 15 = .ok (.invokestatic 56, 3) := by decide +kernel
theorem d_12_isValue_18 : decode prog_14_method_75_code 18 = .ok (.ireturn, 1) := by decide +kernel
theorem d_12_isValue_19 : decode prog_14_method_75_code 19 = .ok (.iload_n 2, 1) := by decide +kernel
theorem d_12_isValue_20 : decode prog_14_method_75_code 20 = .ok (.sipush 19683, 3) := by decide +kernel
theorem d_12_isValue_23 : decode prog_14_method_75_code 23 = .ok (.ldc_w 291, 3) := by decide +kernel
theorem d_12_isValue_26 : decode prog_14_method_75_code 26 = .ok (.invokestatic 56, 3) := by decide +kernel
theorem d_12_isValue_29 : decode prog_14_method_75_code 29 = .ok (.ifCond .ne 5, 3) := by decide +kernel
theorem d_12_isValue_32 : decode prog_14_method_75_code 32 = .ok (.iconst 0, 1) := by decide +kernel
theorem d_12_isValue_33 : decode prog_14_method_75_code 33 = .ok (.ireturn, 1) := by decide +kernel
theorem d_12_isValue_34 : decode prog_14_method_75_code 34 = .ok (.iconst 1, 1) := by decide +kernel
theorem d_12_isValue_35 : decode prog_14_method_75_code 35 = .ok (.istore_n 3, 1) := by decide +kernel
theorem d_12_isValue_36 : decode prog_14_method_75_code 36 = .ok (.iconst 1, 1) := by decide +kernel
theorem d_12_isValue_37 : decode prog_14_method_75_code 37 = .ok (.istore 4, 2) := by decide +kernel
theorem d_12_isValue_39 : decode prog_14_method_75_code 39 = .ok (.iload_n 2, 1) := by decide +kernel
theorem d_12_isValue_40 : decode prog_14_method_75_code 40 = .ok (.istore 5, 2) := by decide +kernel
theorem d_12_isValue_42 : decode prog_14_method_75_code 42 = .ok (.iload 5, 2) := by decide +kernel
theorem d_12_isValue_44 : decode prog_14_method_75_code 44 = .ok (.ifCond .le 56, 3) := by decide +kernel
theorem d_12_isValue_47 : decode prog_14_method_75_code 47 = .ok (.iload_n 3, 1) := by decide +kernel
theorem d_12_isValue_48 : decode prog_14_method_75_code 48 = .ok (.ifCond .eq 20, 3) := by decide +kernel
theorem d_12_isValue_51 : decode prog_14_method_75_code 51 = .ok (.iload 4, 2) := by decide +kernel
theorem d_12_isValue_53 : decode prog_14_method_75_code 53 = .ok (.ifCond .ne 11, 3) := by decide +kernel
theorem d_12_isValue_56 : decode prog_14_method_75_code 56 = .ok (.iload 5, 2) := by decide +kernel
theorem d_12_isValue_58 : decode prog_14_method_75_code 58 = .ok (.bipush 27, 2) := by decide +kernel
theorem d_12_isValue_60 : decode prog_14_method_75_code 60 = .ok (.irem, 1) := by decide +kernel
theorem d_12_isValue_61 : decode prog_14_method_75_code 61 = .ok (.ifCond .le 7, 3) := by decide +kernel
theorem d_12_isValue_64 : decode prog_14_method_75_code 64 = .ok (.iconst 1, 1) := by decide +kernel
theorem d_12_isValue_65 : decode prog_14_method_75_code 65 = .ok (.goto 4, 3) := by decide +kernel
theorem d_12_isValue_68 : decode prog_14_method_75_code 68 = .ok (.iconst 0, 1) := by decide +kernel
theorem d_12_isValue_69 : decode prog_14_method_75_code 69 = .ok (.istore_n 3, 1) := by decide +kernel
theorem d_12_isValue_70 : decode prog_14_method_75_code 70 = .ok (.iload 4, 2) := by decide +kernel
theorem d_12_isValue_72 : decode prog_14_method_75_code 72 = .ok (.ifCond .eq 15, 3) := by decide +kernel
theorem d_12_isValue_75 : decode prog_14_method_75_code 75 = .ok (.iload 5, 2) := by decide +kernel
theorem d_12_isValue_77 : decode prog_14_method_75_code 77 = .ok (.bipush 27, 2) := by decide +kernel
theorem d_12_isValue_79 : decode prog_14_method_75_code 79 = .ok (.irem, 1) := by decide +kernel
theorem d_12_isValue_80 : decode prog_14_method_75_code 80 = .ok (.ifCond .ne 7, 3) := by decide +kernel
theorem d_12_isValue_83 : decode prog_14_method_75_code 83 = .ok (.iconst 1, 1) := by decide +kernel
theorem d_12_isValue_84 : decode prog_14_method_75_code 84 = .ok (.goto 4, 3) := by decide +kernel
theorem d_12_isValue_87 : decode prog_14_method_75_code 87 = .ok (.iconst 0, 1) := by decide +kernel
theorem d_12_isValue_88 : decode prog_14_method_75_code 88 = .ok (.istore 4, 2) := by decide +kernel
theorem d_12_isValue_90 : decode prog_14_method_75_code 90 = .ok (.iload 5, 2) := by decide +kernel
theorem d_12_isValue_92 : decode prog_14_method_75_code 92 = .ok (.bipush 27, 2) := by decide +kernel
theorem d_12_isValue_94 : decode prog_14_method_75_code 94 = .ok (.idiv, 1) := by decide +kernel
theorem d_12_isValue_95 : decode prog_14_method_75_code 95 = .ok (.istore 5, 2) := by decide +kernel
theorem d_12_isValue_97 : decode prog_14_method_75_code 97 = .ok (.goto (-55), 3) := by decide +kernel
theorem d_12_isValue_100 : decode prog_14_method_75_code 100 = .ok (.iload_n 3, 1) := by decide +kernel
theorem d_12_isValue_101 : decode prog_14_method_75_code 101 = .ok (.ireturn, 1) := by decide +kernel
theorem d_12_isTold_0 : decode prog_14_method_70_code 0 = .ok (.sipush 199, 3) := by decide +kernel
theorem d_12_isTold_3 : decode prog_14_method_70_code 3 = .ok (.istore 6, 2) := by decide +kernel
theorem d_12_isTold_5 : decode prog_14_method_70_code 5 = .ok (.iload 6, 2) := by decide +kernel
theorem d_12_isTold_7 : decode prog_14_method_70_code 7 = .ok (.iconst 5, 1) := by decide +kernel
theorem d_12_isTold_8 : decode prog_14_method_70_code 8 = .ok (.if_icmp .lt 33, 3) := by decide +kernel
theorem d_12_isTold_11 : decode prog_14_method_70_code 11 = .ok (.aload_n 0, 1) := by decide +kernel
theorem d_12_isTold_12 : decode prog_14_method_70_code 12 = .ok (.getfield 13, 3) := by decide +kernel
theorem d_12_isTold_15 : decode prog_14_method_70_code 15 = .ok (.sipush 8754, 3) := by decide +kernel
theorem d_12_isTold_18 : decode prog_14_method_70_code 18 = .ok (.iload 6, 2) := by decide +kernel
theorem d_12_isTold_20 : decode prog_14_method_70_code 20 = .ok (.iadd, 1) := by decide +kernel
theorem d_12_isTold_21 : decode prog_14_method_70_code 21 = .ok (.aload_n 0, 1) := by decide +kernel
theorem d_12_isTold_22 : decode prog_14_method_70_code 22 = .ok (.getfield 13, 3) := by decide +kernel
theorem d_12_isTold_25 : decode prog_14_method_70_code 25 = .ok (.sipush 8754, 3) := by decide +kernel
theorem d_12_isTold_28 : decode prog_14_method_70_code 28 = .ok (.iload 6, 2) := by decide +kernel
theorem d_12_isTold_30 : decode prog_14_method_70_code 30 = .ok (.iadd, 1) := by decide +kernel
theorem d_12_isTold_31 : decode prog_14_method_70_code 31 = .ok (.iconst 5, 1) := by decide +kernel
theorem d_12_isTold_32 : decode prog_14_method_70_code 32 = .ok (.isub, 1) := by decide +kernel
theorem d_12_isTold_33 : decode prog_14_method_70_code 33 = .ok (.iaload, 1) := by decide +kernel
theorem d_12_isTold_34 : decode prog_14_method_70_code 34 = .ok (.iastore, 1) := by decide +kernel
theorem d_12_isTold_35 : decode prog_14_method_70_code 35 = .ok (.iinc 6 (-1), 3) := by decide +kernel
theorem d_12_isTold_38 : decode prog_14_method_70_code 38 = .ok (.goto (-33), 3) := by decide +kernel
theorem d_12_isTold_41 : decode prog_14_method_70_code 41 = .ok (.aload_n 0, 1) := by decide +kernel
theorem d_12_isTold_42 : decode prog_14_method_70_code 42 = .ok (.getfield 13, 3) := by decide +kernel
theorem d_12_isTold_45 : decode prog_14_method_70_code 45 = .ok (.sipush 8754, 3) := by decide +kernel
theorem d_12_isTold_48 : decode prog_14_method_70_code 48 = .ok (.iload_n 1, 1) := by decide +kernel
theorem d_12_isTold_49 : decode prog_14_method_70_code 49 = .ok (.iastore, 1) := by decide +kernel
theorem d_12_isTold_50 : decode prog_14_method_70_code 50 = .ok (.aload_n 0, 1) := by decide +kernel
theorem d_12_isTold_51 : decode prog_14_method_70_code 51 = .ok (.getfield 13, 3) := by decide +kernel
theorem d_12_isTold_54 : decode prog_14_method_70_code 54 = .ok (.sipush 8755, 3) := by decide +kernel
theorem d_12_isTold_57 : decode prog_14_method_70_code 57 = .ok (.iload_n 2, 1) := by decide +kernel
theorem d_12_isTold_58 : decode prog_14_method_70_code 58 = .ok (.iastore, 1) := by decide +kernel
theorem d_12_isTold_59 : decode prog_14_method_70_code 59 = .ok (.aload_n 0, 1) := by decide +kernel
theorem d_12_isTold_60 : decode prog_14_method_70_code 60 = .ok (.getfield 13, 3) := by decide +kernel
theorem d_12_isTold_63 : decode prog_14_method_70_code 63 = .ok (.sipush 8756, 3) := by decide +kernel
theorem d_12_isTold_66 : decode prog_14_method_70_code 66 = .ok (.iload_n 3, 1) := by decide +kernel
theorem d_12_isTold_67 : decode prog_14_method_70_code 67 = .ok (.iastore, 1) := by decide +kernel
theorem d_12_isTold_68 : decode prog_14_method_70_code 68 = .ok (.aload_n 0, 1) := by decide +kernel
theorem d_12_isTold_69 : decode prog_14_method_70_code 69 = .ok (.getfield 13, 3) := by decide +kernel
theorem d_12_isTold_72 : decode prog_14_method_70_code 72 = .ok (.sipush 8757, 3) := by decide +kernel
theorem d_12_isTold_75 : decode prog_14_method_70_code 75 = .ok (.iload 4, 2) := by decide +kernel
theorem d_12_isTold_77 : decode prog_14_method_70_code 77 = .ok (.iastore, 1) := by decide +kernel
theorem d_12_isTold_78 : decode prog_14_method_70_code 78 = .ok (.aload_n 0, 1) := by decide +kernel
theorem d_12_isTold_79 : decode prog_14_method_70_code 79 = .ok (.getfield 13, 3) := by decide +kernel
theorem d_12_isTold_82 : decode prog_14_method_70_code 82 = .ok (.sipush 8758, 3) := by decide +kernel
theorem d_12_isTold_85 : decode prog_14_method_70_code 85 = .ok (.iload 5, 2) := by decide +kernel
theorem d_12_isTold_87 : decode prog_14_method_70_code 87 = .ok (.iastore, 1) := by decide +kernel
theorem d_12_isTold_88 : decode prog_14_method_70_code 88 = .ok (.aload_n 0, 1) := by decide +kernel
theorem d_12_isTold_89 : decode prog_14_method_70_code 89 = .ok (.getfield 13, 3) := by decide +kernel
theorem d_12_isTold_92 : decode prog_14_method_70_code 92 = .ok (.iconst 3, 1) := by decide +kernel
theorem d_12_isTold_93 : decode prog_14_method_70_code 93 = .ok (.bipush 40, 2) := by decide +kernel
theorem d_12_isTold_95 : decode prog_14_method_70_code 95 = .ok (.aload_n 0, 1) := by decide +kernel
theorem d_12_isTold_96 : decode prog_14_method_70_code 96 = .ok (.getfield 13, 3) := by decide +kernel
theorem d_12_isTold_99 : decode prog_14_method_70_code 99 = .ok (.iconst 3, 1) := by decide +kernel
theorem d_12_isTold_100 : decode prog_14_method_70_code 100 = .ok (.iaload, 1) := by decide +kernel
theorem d_12_isTold_101 : decode prog_14_method_70_code 101 = .ok (.iconst 1, 1) := by decide +kernel
theorem d_12_isTold_102 : decode prog_14_method_70_code 102 = .ok (.iadd, 1) := by decide +kernel
theorem d_12_isTold_103 : decode prog_14_method_70_code 103 = .ok (.invokestatic 273, 3) := by decide +kernel
theorem d_12_isTold_106 : decode prog_14_method_70_code 106 = .ok (.iastore, 1) := by decide +kernel
theorem d_12_isTold_107 : decode prog_14_method_70_code 107 = .ok (.return_, 1) := by decide +kernel
theorem d_12_alters_0 : decode prog_14_method_71_code 0 = .ok (.aload_n 0, 1) := by decide +kernel
theorem d_12_alters_1 : decode prog_14_method_71_code 1 = .ok (.iload_n 2, 1) := by decide +kernel
theorem d_12_alters_2 : decode prog_14_method_71_code 2 = .ok (.iload_n 3, 1) := by decide +kernel
theorem d_12_alters_3 : decode prog_14_method_71_code 3 = .ok (.invokevirtual 251, 3) := by decide +kernel
theorem d_12_alters_6 : decode prog_14_method_71_code 6 = .ok (.istore 5, 2) := by decide +kernel
theorem d_12_alters_8 : decode prog_14_method_71_code 8 = .ok (.iload 5, 2) := by decide +kernel
theorem d_12_alters_10 : decode prog_14_method_71_code 10 = .ok (.iload 4, 2) := by decide +kernel
theorem d_12_alters_12 : decode prog_14_method_71_code 12 = .ok (.if_icmp .ne 4, 3) := by decide +kernel
theorem d_12_alters_15 : decode prog_14_method_71_code 15 = .ok (.return_, 1) := by decide +kernel
theorem d_12_alters_16 : decode prog_14_method_71_code 16 = .ok (.aload_n 0, 1) := by decide +kernel
theorem d_12_alters_17 : decode prog_14_method_71_code 17 = .ok (.getfield 13, 3) := by decide +kernel
theorem d_12_alters_20 : decode prog_14_method_71_code 20 = .ok (.aload_n 0, 1) := by decide +kernel
theorem d_12_alters_21 : decode prog_14_method_71_code 21 = .ok (.iload_n 2, 1) := by decide +kernel
theorem d_12_alters_22 : decode prog_14_method_71_code 22 = .ok (.invokevirtual 81, 3) := by decide +kernel
theorem d_12_alters_25 : decode prog_14_method_71_code 25 = .ok (.iconst 1, 1) := by decide +kernel
theorem d_12_alters_26 : decode prog_14_method_71_code 26 = .ok (.iadd, 1) := by decide +kernel
theorem d_12_alters_27 : decode prog_14_method_71_code 27 = .ok (.iload_n 3, 1) := by decide +kernel
theorem d_12_alters_28 : decode prog_14_method_71_code 28 = .ok (.iadd, 1) := by decide +kernel
theorem d_12_alters_29 : decode prog_14_method_71_code 29 = .ok (.iload 4, 2) := by decide +kernel
theorem d_12_alters_31 : decode prog_14_method_71_code 31 = .ok (.iastore, 1) := by decide +kernel
theorem d_12_alters_32 : decode prog_14_method_71_code 32 = .ok (.aload_n 0, 1) := by decide +kernel
theorem d_12_alters_33 : decode prog_14_method_71_code 33 = .ok (.getfield 13, 3) := by decide +kernel
theorem d_12_alters_36 : decode prog_14_method_71_code 36 = .ok (.aload_n 0, 1) := by decide +kernel
theorem d_12_alters_37 : decode prog_14_method_71_code 37 = .ok (.iload_n 2, 1) := by decide +kernel
theorem d_12_alters_38 : decode prog_14_method_71_code 38 = .ok (.invokevirtual 81, 3) := by decide +kernel
theorem d_12_alters_41 : decode prog_14_method_71_code 41 = .ok (.bipush 6, 2) := by decide +kernel
theorem d_12_alters_43 : decode prog_14_method_71_code 43 = .ok (.iadd, 1) := by decide +kernel
theorem d_12_alters_44 : decode prog_14_method_71_code 44 = .ok (.iload_n 3, 1) := by decide +kernel
theorem d_12_alters_45 : decode prog_14_method_71_code 45 = .ok (.iadd, 1) := by decide +kernel
theorem d_12_alters_46 : decode prog_14_method_71_code 46 = .ok (.iload_n 1, 1) := by decide +kernel
theorem d_12_alters_47 : decode prog_14_method_71_code 47 = .ok (.iastore, 1) := by decide +kernel
theorem d_12_alters_48 : decode prog_14_method_71_code 48 = .ok (.iconst 1, 1) := by decide +kernel
theorem d_12_alters_49 : decode prog_14_method_71_code 49 = .ok (.iconst 4, 1) := by decide +kernel
theorem d_12_alters_50 : decode prog_14_method_71_code 50 = .ok (.aload_n 0, 1) := by decide +kernel
theorem d_12_alters_51 : decode prog_14_method_71_code 51 = .ok (.getfield 36, 3) := by decide +kernel
theorem d_12_alters_54 : decode prog_14_method_71_code 54 = .ok (.iconst 0, 1) := by decide +kernel
theorem d_12_alters_55 : decode prog_14_method_71_code 55 = .ok (.iaload, 1) := by decide +kernel
theorem d_12_alters_56 : decode prog_14_method_71_code 56 = .ok (.imul, 1) := by decide +kernel
theorem d_12_alters_57 : decode prog_14_method_71_code 57 = .ok (.iadd, 1) := by decide +kernel
theorem d_12_alters_58 : decode prog_14_method_71_code 58 = .ok (.istore 6, 2) := by decide +kernel
theorem d_12_alters_60 : decode prog_14_method_71_code 60 = .ok (.aload_n 0, 1) := by decide +kernel
theorem d_12_alters_61 : decode prog_14_method_71_code 61 = .ok (.getfield 36, 3) := by decide +kernel
theorem d_12_alters_64 : decode prog_14_method_71_code 64 = .ok (.iload 6, 2) := by decide +kernel
theorem d_12_alters_66 : decode prog_14_method_71_code 66 = .ok (.iload_n 2, 1) := by decide +kernel
theorem d_12_alters_67 : decode prog_14_method_71_code 67 = .ok (.iastore, 1) := by decide +kernel
theorem d_12_alters_68 : decode prog_14_method_71_code 68 = .ok (.aload_n 0, 1) := by decide +kernel
theorem d_12_alters_69 : decode prog_14_method_71_code 69 = .ok (.getfield 36, 3) := by decide +kernel
theorem d_12_alters_72 : decode prog_14_method_71_code 72 = .ok (.iload 6, 2) := by decide +kernel
theorem d_12_alters_74 : decode prog_14_method_71_code 74 = .ok (.iconst 1, 1) := by decide +kernel
theorem d_12_alters_75 : decode prog_14_method_71_code 75 = .ok (.iadd, 1) := by decide +kernel
theorem d_12_alters_76 : decode prog_14_method_71_code 76 = .ok (.iload_n 3, 1) := by decide +kernel
theorem d_12_alters_77 : decode prog_14_method_71_code 77 = .ok (.iastore, 1) := by decide +kernel
theorem d_12_alters_78 : decode prog_14_method_71_code 78 = .ok (.aload_n 0, 1) := by decide +kernel
theorem d_12_alters_79 : decode prog_14_method_71_code 79 = .ok (.getfield 36, 3) := by decide +kernel
theorem d_12_alters_82 : decode prog_14_method_71_code 82 = .ok (.iload 6, 2) := by decide +kernel
theorem d_12_alters_84 : decode prog_14_method_71_code 84 = .ok (.iconst 2, 1) := by decide +kernel
theorem d_12_alters_85 : decode prog_14_method_71_code 85 = .ok (.iadd, 1) := by decide +kernel
theorem d_12_alters_86 : decode prog_14_method_71_code 86 = .ok (.iload 5, 2) := by decide +kernel
theorem d_12_alters_88 : decode prog_14_method_71_code 88 = .ok (.iastore, 1) := by decide +kernel
theorem d_12_alters_89 : decode prog_14_method_71_code 89 = .ok (.aload_n 0, 1) := by decide +kernel
theorem d_12_alters_90 : decode prog_14_method_71_code 90 = .ok (.getfield 36, 3) := by decide +kernel
theorem d_12_alters_93 : decode prog_14_method_71_code 93 = .ok (.iload 6, 2) := by decide +kernel
theorem d_12_alters_95 : decode prog_14_method_71_code 95 = .ok (.iconst 3, 1) := by decide +kernel
theorem d_12_alters_96 : decode prog_14_method_71_code 96 = .ok (.iadd, 1) := by decide +kernel
theorem d_12_alters_97 : decode prog_14_method_71_code 97 = .ok (.iload 4, 2) := by decide +kernel
theorem d_12_alters_99 : decode prog_14_method_71_code 99 = .ok (.iastore, 1) := by decide +kernel
theorem d_12_alters_100 : decode prog_14_method_71_code 100 = .ok (.aload_n 0, 1) := by decide +kernel
theorem d_12_alters_101 : decode prog_14_method_71_code 101 = .ok (.getfield 36, 3) := by decide +kernel
theorem d_12_alters_104 : decode prog_14_method_71_code 104 = .ok (.iconst 0, 1) := by decide +kernel
theorem d_12_alters_105 : decode prog_14_method_71_code 105 = .ok (.dup2, 1) := by decide +kernel
theorem d_12_alters_106 : decode prog_14_method_71_code 106 = .ok (.iaload, 1) := by decide +kernel
theorem d_12_alters_107 : decode prog_14_method_71_code 107 = .ok (.iconst 1, 1) := by decide +kernel
theorem d_12_alters_108 : decode prog_14_method_71_code 108 = .ok (.iadd, 1) := by decide +kernel
theorem d_12_alters_109 : decode prog_14_method_71_code 109 = .ok (.iastore, 1) := by decide +kernel
theorem d_12_alters_110 : decode prog_14_method_71_code 110 = .ok (.aload_n 0, 1) := by decide +kernel
theorem d_12_alters_111 : decode prog_14_method_71_code 111 = .ok (.iload_n 1, 1) := by decide +kernel
theorem d_12_alters_112 : decode prog_14_method_71_code 112 = .ok (.iload_n 2, 1) := by decide +kernel
theorem d_12_alters_113 : decode prog_14_method_71_code 113 = .ok (.iload_n 3, 1) := by decide +kernel
theorem d_12_alters_114 : decode prog_14_method_71_code 114 = .ok (.iload 5, 2) := by decide +kernel
theorem d_12_alters_116 : decode prog_14_method_71_code 116 = .ok (.iload 4, 2) := by decide +kernel
theorem d_12_alters_118 : decode prog_14_method_71_code 118 = .ok (.invokevirtual 278, 3) := by decide +kernel
theorem d_12_alters_121 : decode prog_14_method_71_code 121 = .ok (.return_, 1) := by decide +kernel
theorem d_12_editAt_0 : decode prog_14_method_69_code 0 = .ok (.iload_n 0, 1) := by decide +kernel
theorem d_12_editAt_1 : decode prog_14_method_69_code 1 = .ok (.sipush 186, 3) := by decide +kernel
theorem d_12_editAt_4 : decode prog_14_method_69_code 4 = .ok (.sipush 241, 3) := by decide +kernel
theorem d_12_editAt_7 : decode prog_14_method_69_code 7 = .ok (.iload_n 1, 1) := by decide +kernel
theorem d_12_editAt_8 : decode prog_14_method_69_code 8 = .ok (.imul, 1) := by decide +kernel
theorem d_12_editAt_9 : decode prog_14_method_69_code 9 = .ok (.iadd, 1) := by decide +kernel
theorem d_12_editAt_10 : decode prog_14_method_69_code 10 = .ok (.invokestatic 52, 3) := by decide +kernel
theorem d_12_editAt_13 : decode prog_14_method_69_code 13 = .ok (.ireturn, 1) := by decide +kernel
theorem d_12_isEdit_0 : decode prog_14_method_72_code 0 = .ok (.aload_n 0, 1) := by decide +kernel
theorem d_12_isEdit_1 : decode prog_14_method_72_code 1 = .ok (.getfield 36, 3) := by decide +kernel
theorem d_12_isEdit_4 : decode prog_14_method_72_code 4 = .ok (.iconst 0, 1) := by decide +kernel
theorem d_12_isEdit_5 : decode prog_14_method_72_code 5 = .ok (.iaload, 1) := by decide +kernel
theorem d_12_isEdit_6 : decode prog_14_method_72_code 6 = .ok (.ifCond .ne 5, 3) := by decide +kernel
theorem d_12_isEdit_9 : decode prog_14_method_72_code 9 = .ok (.iconst 0, 1) := by decide +kernel
theorem d_12_isEdit_10 : decode prog_14_method_72_code 10 = .ok (.ireturn, 1) := by decide +kernel
theorem d_12_isEdit_11 : decode prog_14_method_72_code 11 = .ok (.aload_n 0, 1) := by decide +kernel
theorem d_12_isEdit_12 : decode prog_14_method_72_code 12 = .ok (.getfield 13, 3) := by decide +kernel
theorem d_12_isEdit_15 : decode prog_14_method_72_code 15 = .ok (.iload_n 1, 1) := by decide +kernel
theorem d_12_isEdit_16 : decode prog_14_method_72_code 16 = .ok (.sipush 185, 3) := by decide +kernel
theorem d_12_isEdit_19 : decode prog_14_method_72_code 19 = .ok (.invokestatic 52, 3) := by decide +kernel
theorem d_12_isEdit_22 : decode prog_14_method_72_code 22 = .ok (.iaload, 1) := by decide +kernel
theorem d_12_isEdit_23 : decode prog_14_method_72_code 23 = .ok (.istore_n 2, 1) := by decide +kernel
theorem d_12_isEdit_24 : decode prog_14_method_72_code 24 = .ok (.iload_n 2, 1) := by decide +kernel
theorem d_12_isEdit_25 : decode prog_14_method_72_code 25 = .ok (.bipush 8, 2) := by decide +kernel
theorem d_12_isEdit_27 : decode prog_14_method_72_code 27 = .ok (.if_icmp .ne 45, 3) := by decide +kernel
theorem d_12_isEdit_30 : decode prog_14_method_72_code 30 = .ok (.iconst 0, 1) := by decide +kernel
theorem d_12_isEdit_31 : decode prog_14_method_72_code 31 = .ok (.istore_n 3, 1) := by decide +kernel
theorem d_12_isEdit_32 : decode prog_14_method_72_code 32 = .ok (.iload_n 3, 1) := by decide +kernel
theorem d_12_isEdit_33 : decode prog_14_method_72_code 33 = .ok (.sipush 1687, 3) := by decide +kernel
theorem d_12_isEdit_36 : decode prog_14_method_72_code 36 = .ok (.if_icmp .ge 33, 3) := by decide +kernel
theorem d_12_isEdit_39 : decode prog_14_method_72_code 39 = .ok (.aload_n 0, 1) := by decide +kernel
theorem d_12_isEdit_40 : decode prog_14_method_72_code 40 = .ok (.getfield 13, 3) := by decide +kernel
theorem d_12_isEdit_43 : decode prog_14_method_72_code 43 = .ok (.iload_n 1, 1) := by decide +kernel
theorem d_12_isEdit_44 : decode prog_14_method_72_code 44 = .ok (.iconst 0, 1) := by decide +kernel
theorem d_12_isEdit_45 : decode prog_14_method_72_code 45 = .ok (.invokestatic 282, 3) := by decide +kernel
theorem d_12_isEdit_48 : decode prog_14_method_72_code 48 = .ok (.iload_n 3, 1) := by decide +kernel
theorem d_12_isEdit_49 : decode prog_14_method_72_code 49 = .ok (.iadd, 1) := by decide +kernel
theorem d_12_isEdit_50 : decode prog_14_method_72_code 50 = .ok (.aload_n 0, 1) := by decide +kernel
theorem d_12_isEdit_51 : decode prog_14_method_72_code 51 = .ok (.getfield 13, 3) := by decide +kernel
theorem d_12_isEdit_54 : decode prog_14_method_72_code 54 = .ok (.iload_n 1, 1) := by decide +kernel
theorem d_12_isEdit_55 : decode prog_14_method_72_code 55 = .ok (.iconst 1, 1) := by decide +kernel
theorem d_12_isEdit_56 : decode prog_14_method_72_code 56 = .ok (.invokestatic 282, 3) := by decide +kernel
theorem d_12_isEdit_59 : decode prog_14_method_72_code 59 = .ok (.iload_n 3, 1) := by decide +kernel
theorem d_12_isEdit_60 : decode prog_14_method_72_code 60 = .ok (.iadd, 1) := by decide +kernel
theorem d_12_isEdit_61 : decode prog_14_method_72_code 61 = .ok (.iaload, 1) := by decide +kernel
theorem d_12_isEdit_62 : decode prog_14_method_72_code 62 = .ok (.iastore, 1) := by decide +kernel
theorem d_12_isEdit_63 : decode prog_14_method_72_code 63 = .ok (.iinc 3 1, 3) := by decide +kernel
theorem d_12_isEdit_66 : decode prog_14_method_72_code 66 = .ok (.goto (-34), 3) := by decide +kernel
theorem d_12_isEdit_69 : decode prog_14_method_72_code 69 = .ok (.iinc 2 (-1), 3) := by decide +kernel
theorem d_12_isEdit_72 : decode prog_14_method_72_code 72 = .ok (.iconst 0, 1) := by decide +kernel
theorem d_12_isEdit_73 : decode prog_14_method_72_code 73 = .ok (.istore_n 3, 1) := by decide +kernel
theorem d_12_isEdit_74 : decode prog_14_method_72_code 74 = .ok (.iload_n 3, 1) := by decide +kernel
theorem d_12_isEdit_75 : decode prog_14_method_72_code 75 = .ok (.sipush 241, 3) := by decide +kernel
theorem d_12_isEdit_78 : decode prog_14_method_72_code 78 = .ok (.if_icmp .ge 27, 3) := by decide +kernel
theorem d_12_isEdit_81 : decode prog_14_method_72_code 81 = .ok (.aload_n 0, 1) := by decide +kernel
theorem d_12_isEdit_82 : decode prog_14_method_72_code 82 = .ok (.getfield 13, 3) := by decide +kernel
theorem d_12_isEdit_85 : decode prog_14_method_72_code 85 = .ok (.iload_n 1, 1) := by decide +kernel
theorem d_12_isEdit_86 : decode prog_14_method_72_code 86 = .ok (.iload_n 2, 1) := by decide +kernel
theorem d_12_isEdit_87 : decode prog_14_method_72_code 87 = .ok (.invokestatic 282, 3) := by decide +kernel
theorem d_12_isEdit_90 : decode prog_14_method_72_code 90 = .ok (.iload_n 3, 1) := by decide +kernel
theorem d_12_isEdit_91 : decode prog_14_method_72_code 91 = .ok (.iadd, 1) := by decide +kernel
theorem d_12_isEdit_92 : decode prog_14_method_72_code 92 = .ok (.aload_n 0, 1) := by decide +kernel
theorem d_12_isEdit_93 : decode prog_14_method_72_code 93 = .ok (.getfield 36, 3) := by decide +kernel
theorem d_12_isEdit_96 : decode prog_14_method_72_code 96 = .ok (.iload_n 3, 1) := by decide +kernel
theorem d_12_isEdit_97 : decode prog_14_method_72_code 97 = .ok (.iaload, 1) := by decide +kernel
theorem d_12_isEdit_98 : decode prog_14_method_72_code 98 = .ok (.iastore, 1) := by decide +kernel
theorem d_12_isEdit_99 : decode prog_14_method_72_code 99 = .ok (.iinc 3 1, 3) := by decide +kernel
theorem d_12_isEdit_102 : decode prog_14_method_72_code 102 = .ok (.goto (-28), 3) := by decide +kernel
theorem d_12_isEdit_105 : decode prog_14_method_72_code 105 = .ok (.aload_n 0, 1) := by decide +kernel
theorem d_12_isEdit_106 : decode prog_14_method_72_code 106 = .ok (.getfield 13, 3) := by decide +kernel
theorem d_12_isEdit_109 : decode prog_14_method_72_code 109 = .ok (.iload_n 1, 1) := by decide +kernel
theorem d_12_isEdit_110 : decode prog_14_method_72_code 110 = .ok (.sipush 185, 3) := by decide +kernel
theorem d_12_isEdit_113 : decode prog_14_method_72_code 113 = .ok (.invokestatic 52, 3) := by decide +kernel
theorem d_12_isEdit_116 : decode prog_14_method_72_code 116 = .ok (.iload_n 2, 1) := by decide +kernel
theorem d_12_isEdit_117 : decode prog_14_method_72_code 117 = .ok (.iconst 1, 1) := by decide +kernel
theorem d_12_isEdit_118 : decode prog_14_method_72_code 118 = .ok (.iadd, 1) := by decide +kernel
theorem d_12_isEdit_119 : decode prog_14_method_72_code 119 = .ok (.iastore, 1) := by decide +kernel
theorem d_12_isEdit_120 : decode prog_14_method_72_code 120 = .ok (.aload_n 0, 1) := by decide +kernel
theorem d_12_isEdit_121 : decode prog_14_method_72_code 121 = .ok (.getfield 36, 3) := by decide +kernel
theorem d_12_isEdit_124 : decode prog_14_method_72_code 124 = .ok (.iconst 0, 1) := by decide +kernel
theorem d_12_isEdit_125 : decode prog_14_method_72_code 125 = .ok (.iaload, 1) := by decide +kernel
theorem d_12_isEdit_126 : decode prog_14_method_72_code 126 = .ok (.ireturn, 1) := by decide +kernel
theorem d_12_set_0 : decode prog_14_method_76_code 0 = .ok (.aload_n 0, 1) := by decide +kernel
theorem d_12_set_1 : decode prog_14_method_76_code 1 = .ok (.iconst 0, 1) := by decide +kernel
theorem d_12_set_2 : decode prog_14_method_76_code 2 = .ok (.putfield 3, 3) := by decide +kernel
theorem d_12_set_5 : decode prog_14_method_76_code 5 = .ok (.aload_n 0, 1) := by decide +kernel
theorem d_12_set_6 : decode prog_14_method_76_code 6 = .ok (.iload_n 1, 1) := by decide +kernel
theorem d_12_set_7 : decode prog_14_method_76_code 7 = .ok (.iload_n 2, 1) := by decide +kernel
theorem d_12_set_8 : decode prog_14_method_76_code 8 = .ok (.iload_n 3, 1) := by decide +kernel
theorem d_12_set_9 : decode prog_14_method_76_code 9 = .ok (.invokevirtual 292, 3) := by decide +kernel
theorem d_12_set_12 : decode prog_14_method_76_code 12 = .ok (.ifCond .ne 40, 3) := by decide +kernel
theorem d_12_set_15 : decode prog_14_method_76_code 15 = .ok (.aload_n 0, 1) := by decide +kernel
theorem d_12_set_16 : decode prog_14_method_76_code 16 = .ok (.aload_n 0, 1) := by decide +kernel
theorem d_12_set_17 : decode prog_14_method_76_code 17 = .ok (.iload_n 1, 1) := by decide +kernel
theorem d_12_set_18 : decode prog_14_method_76_code 18 = .ok (.iload_n 3, 1) := by decide +kernel
theorem d_12_set_19 : decode prog_14_method_76_code 19 = .ok (.invokevirtual 295, 3) := by decide +kernel
theorem d_12_set_22 : decode prog_14_method_76_code 22 = .ok (.iconst 2, 1) := by decide +kernel
theorem d_12_set_23 : decode prog_14_method_76_code 23 = .ok (.invokevirtual 185, 3) := by decide +kernel
theorem d_12_set_26 : decode prog_14_method_76_code 26 = .ok (.ifCond .ne 26, 3) := by decide +kernel
theorem d_12_set_29 : decode prog_14_method_76_code 29 = .ok (.aload_n 0, 1) := by decide +kernel
theorem d_12_set_30 : decode prog_14_method_76_code 30 = .ok (.aload_n 0, 1) := by decide +kernel
theorem d_12_set_31 : decode prog_14_method_76_code 31 = .ok (.iload_n 3, 1) := by decide +kernel
theorem d_12_set_32 : decode prog_14_method_76_code 32 = .ok (.iload 4, 2) := by decide +kernel
theorem d_12_set_34 : decode prog_14_method_76_code 34 = .ok (.invokevirtual 298, 3) := by decide +kernel
theorem d_12_set_37 : decode prog_14_method_76_code 37 = .ok (.ifCond .ne 7, 3) := by decide +kernel
theorem d_12_set_40 : decode prog_14_method_76_code 40 = .ok (.iconst 1, 1) := by decide +kernel
theorem d_12_set_41 : decode prog_14_method_76_code 41 = .ok (.goto 4, 3) := by decide +kernel
theorem d_12_set_44 : decode prog_14_method_76_code 44 = .ok (.iconst 0, 1) := by decide +kernel
theorem d_12_set_45 : decode prog_14_method_76_code 45 = .ok (.iconst 3, 1) := by decide +kernel
theorem d_12_set_46 : decode prog_14_method_76_code 46 = .ok (.invokevirtual 185, 3) := by decide +kernel
theorem d_12_set_49 : decode prog_14_method_76_code 49 = .ok (.ifCond .eq 5, 3) := by decide +kernel
theorem d_12_set_52 : decode prog_14_method_76_code 52 = .ok (.iconst 0, 1) := by decide +kernel
theorem d_12_set_53 : decode prog_14_method_76_code 53 = .ok (.ireturn, 1) := by decide +kernel
theorem d_12_set_54 : decode prog_14_method_76_code 54 = .ok (.aload_n 0, 1) := by decide +kernel
theorem d_12_set_55 : decode prog_14_method_76_code 55 = .ok (.iload_n 1, 1) := by decide +kernel
theorem d_12_set_56 : decode prog_14_method_76_code 56 = .ok (.invokestatic 68, 3) := by decide +kernel
theorem d_12_set_59 : decode prog_14_method_76_code 59 = .ok (.iload_n 2, 1) := by decide +kernel
theorem d_12_set_60 : decode prog_14_method_76_code 60 = .ok (.invokevirtual 71, 3) := by decide +kernel
theorem d_12_set_63 : decode prog_14_method_76_code 63 = .ok (.istore 5, 2) := by decide +kernel
theorem d_12_set_65 : decode prog_14_method_76_code 65 = .ok (.aload_n 0, 1) := by decide +kernel
theorem d_12_set_66 : decode prog_14_method_76_code 66 = .ok (.getfield 36, 3) := by decide +kernel
theorem d_12_set_69 : decode prog_14_method_76_code 69 = .ok (.iconst 0, 1) := by decide +kernel
theorem d_12_set_70 : decode prog_14_method_76_code 70 = .ok (.iconst 0, 1) := by decide +kernel
theorem d_12_set_71 : decode prog_14_method_76_code 71 = .ok (.iastore, 1) := by decide +kernel
theorem d_12_set_72 : decode prog_14_method_76_code 72 = .ok (.aload_n 0, 1) := by decide +kernel
theorem d_12_set_73 : decode prog_14_method_76_code 73 = .ok (.iload_n 1, 1) := by decide +kernel
theorem d_12_set_74 : decode prog_14_method_76_code 74 = .ok (.iload 5, 2) := by decide +kernel
theorem d_12_set_76 : decode prog_14_method_76_code 76 = .ok (.iload_n 3, 1) := by decide +kernel
theorem d_12_set_77 : decode prog_14_method_76_code 77 = .ok (.iload 4, 2) := by decide +kernel
theorem d_12_set_79 : decode prog_14_method_76_code 79 = .ok (.invokevirtual 301, 3) := by decide +kernel
theorem d_12_set_82 : decode prog_14_method_76_code 82 = .ok (.aload_n 0, 1) := by decide +kernel
theorem d_12_set_83 : decode prog_14_method_76_code 83 = .ok (.iload_n 1, 1) := by decide +kernel
theorem d_12_set_84 : decode prog_14_method_76_code 84 = .ok (.invokevirtual 305, 3) := by decide +kernel
theorem d_12_set_87 : decode prog_14_method_76_code 87 = .ok (.pop, 1) := by decide +kernel
theorem d_12_set_88 : decode prog_14_method_76_code 88 = .ok (.iload 5, 2) := by decide +kernel
theorem d_12_set_90 : decode prog_14_method_76_code 90 = .ok (.ireturn, 1) := by decide +kernel
theorem d_12_clear_0 : decode prog_14_method_77_code 0 = .ok (.aload_n 0, 1) := by decide +kernel
theorem d_12_clear_1 : decode prog_14_method_77_code 1 = .ok (.iconst 0, 1) := by decide +kernel
theorem d_12_clear_2 : decode prog_14_method_77_code 2 = .ok (.putfield 3, 3) := by decide +kernel
theorem d_12_clear_5 : decode prog_14_method_77_code 5 = .ok (.aload_n 0, 1) := by decide +kernel
theorem d_12_clear_6 : decode prog_14_method_77_code 6 = .ok (.iload_n 1, 1) := by decide +kernel
theorem d_12_clear_7 : decode prog_14_method_77_code 7 = .ok (.iload_n 2, 1) := by decide +kernel
theorem d_12_clear_8 : decode prog_14_method_77_code 8 = .ok (.iload_n 3, 1) := by decide +kernel
theorem d_12_clear_9 : decode prog_14_method_77_code 9 = .ok (.invokevirtual 292, 3) := by decide +kernel
theorem d_12_clear_12 : decode prog_14_method_77_code 12 = .ok (.ifCond .ne 17, 3) := by decide +kernel
theorem d_12_clear_15 : decode prog_14_method_77_code 15 = .ok (.aload_n 0, 1) := by decide +kernel
theorem d_12_clear_16 : decode prog_14_method_77_code 16 = .ok (.aload_n 0, 1) := by decide +kernel
theorem d_12_clear_17 : decode prog_14_method_77_code 17 = .ok (.iload_n 1, 1) := by decide +kernel
theorem d_12_clear_18 : decode prog_14_method_77_code 18 = .ok (.iload_n 3, 1) := by decide +kernel
theorem d_12_clear_19 : decode prog_14_method_77_code 19 = .ok (.invokevirtual 295, 3) := by decide +kernel
theorem d_12_clear_22 : decode prog_14_method_77_code 22 = .ok (.iconst 2, 1) := by decide +kernel
theorem d_12_clear_23 : decode prog_14_method_77_code 23 = .ok (.invokevirtual 185, 3) := by decide +kernel
theorem d_12_clear_26 : decode prog_14_method_77_code 26 = .ok (.ifCond .eq 5, 3) := by decide +kernel
theorem d_12_clear_29 : decode prog_14_method_77_code 29 = .ok (.iconst 0, 1) := by decide +kernel
theorem d_12_clear_30 : decode prog_14_method_77_code 30 = .ok (.ireturn, 1) := by decide +kernel
theorem d_12_clear_31 : decode prog_14_method_77_code 31 = .ok (.aload_n 0, 1) := by decide +kernel
theorem d_12_clear_32 : decode prog_14_method_77_code 32 = .ok (.iload_n 1, 1) := by decide +kernel
theorem d_12_clear_33 : decode prog_14_method_77_code 33 = .ok (.invokestatic 68, 3) := by decide +kernel
theorem d_12_clear_36 : decode prog_14_method_77_code 36 = .ok (.iload_n 2, 1) := by decide +kernel
theorem d_12_clear_37 : decode prog_14_method_77_code 37 = .ok (.invokevirtual 71, 3) := by decide +kernel
theorem d_12_clear_40 : decode prog_14_method_77_code 40 = .ok (.istore 4, 2) := by decide +kernel
theorem d_12_clear_42 : decode prog_14_method_77_code 42 = .ok (.aload_n 0, 1) := by decide +kernel
theorem d_12_clear_43 : decode prog_14_method_77_code 43 = .ok (.getfield 36, 3) := by decide +kernel
theorem d_12_clear_46 : decode prog_14_method_77_code 46 = .ok (.iconst 0, 1) := by decide +kernel
theorem d_12_clear_47 : decode prog_14_method_77_code 47 = .ok (.iconst 0, 1) := by decide +kernel
theorem d_12_clear_48 : decode prog_14_method_77_code 48 = .ok (.iastore, 1) := by decide +kernel
theorem d_12_clear_49 : decode prog_14_method_77_code 49 = .ok (.aload_n 0, 1) := by decide +kernel
theorem d_12_clear_50 : decode prog_14_method_77_code 50 = .ok (.iload_n 1, 1) := by decide +kernel
theorem d_12_clear_51 : decode prog_14_method_77_code 51 = .ok (.iload 4, 2) := by decide +kernel
theorem d_12_clear_53 : decode prog_14_method_77_code 53 = .ok (.iload_n 3, 1) := by decide +kernel
theorem d_12_clear_54 : decode prog_14_method_77_code 54 = .ok (.ldc 84, 2) := by decide +kernel
theorem d_12_clear_56 : decode prog_14_method_77_code 56 = .ok (.invokevirtual 301, 3) := by decide +kernel
theorem d_12_clear_59 : decode prog_14_method_77_code 59 = .ok (.aload_n 0, 1) := by decide +kernel
theorem d_12_clear_60 : decode prog_14_method_77_code 60 = .ok (.iload_n 1, 1) := by decide +kernel
theorem d_12_clear_61 : decode prog_14_method_77_code 61 = .ok (.invokevirtual 305, 3) := by decide +kernel
theorem d_12_clear_64 : decode prog_14_method_77_code 64 = .ok (.pop, 1) := by decide +kernel
theorem d_12_clear_65 : decode prog_14_method_77_code 65 = .ok (.iload 4, 2) := by decide +kernel
theorem d_12_clear_67 : decode prog_14_method_77_code 67 = .ok (.ireturn, 1) := by decide +kernel
theorem d_12_fill_0 : decode prog_14_method_78_code 0 = .ok (.aload_n 0, 1) := by decide +kernel
theorem d_12_fill_1 : decode prog_14_method_78_code 1 = .ok (.iconst 0, 1) := by decide +kernel
theorem d_12_fill_2 : decode prog_14_method_78_code 2 = .ok (.putfield 3, 3) := by decide +kernel
theorem d_12_fill_5 : decode prog_14_method_78_code 5 = .ok (.aload_n 0, 1) := by decide +kernel
theorem d_12_fill_6 : decode prog_14_method_78_code 6 = .ok (.iload_n 1, 1) := by decide +kernel
theorem d_12_fill_7 : decode prog_14_method_78_code 7 = .ok (.iload_n 2, 1) := by decide +kernel
theorem d_12_fill_8 : decode prog_14_method_78_code 8 = .ok (.iload 4, 2) := by decide +kernel
theorem d_12_fill_10 : decode prog_14_method_78_code 10 = .ok (.invokevirtual 292, 3) := by decide +kernel
theorem d_12_fill_13 : decode prog_14_method_78_code 13 = .ok (.ifCond .ne 50, 3) := by decide +kernel
theorem d_12_fill_16 : decode prog_14_method_78_code 16 = .ok (.aload_n 0, 1) := by decide +kernel
theorem d_12_fill_17 : decode prog_14_method_78_code 17 = .ok (.aload_n 0, 1) := by decide +kernel
theorem d_12_fill_18 : decode prog_14_method_78_code 18 = .ok (.iload_n 1, 1) := by decide +kernel
theorem d_12_fill_19 : decode prog_14_method_78_code 19 = .ok (.iload_n 3, 1) := by decide +kernel
theorem d_12_fill_20 : decode prog_14_method_78_code 20 = .ok (.invokevirtual 285, 3) := by decide +kernel
theorem d_12_fill_23 : decode prog_14_method_78_code 23 = .ok (.iconst 1, 1) := by decide +kernel
theorem d_12_fill_24 : decode prog_14_method_78_code 24 = .ok (.invokevirtual 185, 3) := by decide +kernel
theorem d_12_fill_27 : decode prog_14_method_78_code 27 = .ok (.ifCond .ne 36, 3) := by decide +kernel
theorem d_12_fill_30 : decode prog_14_method_78_code 30 = .ok (.aload_n 0, 1) := by decide +kernel
theorem d_12_fill_31 : decode prog_14_method_78_code 31 = .ok (.iload_n 3, 1) := by decide +kernel
theorem d_12_fill_32 : decode prog_14_method_78_code 32 = .ok (.iload_n 2, 1) := by decide +kernel
theorem d_12_fill_33 : decode prog_14_method_78_code 33 = .ok (.if_icmp .ge 7, 3) := by decide +kernel
theorem d_12_fill_36 : decode prog_14_method_78_code 36 = .ok (.iconst 1, 1) := by decide +kernel
theorem d_12_fill_37 : decode prog_14_method_78_code 37 = .ok (.goto 4, 3) := by decide +kernel
theorem d_12_fill_40 : decode prog_14_method_78_code 40 = .ok (.iconst 0, 1) := by decide +kernel
theorem d_12_fill_41 : decode prog_14_method_78_code 41 = .ok (.iconst 2, 1) := by decide +kernel
theorem d_12_fill_42 : decode prog_14_method_78_code 42 = .ok (.invokevirtual 185, 3) := by decide +kernel
theorem d_12_fill_45 : decode prog_14_method_78_code 45 = .ok (.ifCond .ne 18, 3) := by decide +kernel
theorem d_12_fill_48 : decode prog_14_method_78_code 48 = .ok (.aload_n 0, 1) := by decide +kernel
theorem d_12_fill_49 : decode prog_14_method_78_code 49 = .ok (.aload_n 0, 1) := by decide +kernel
theorem d_12_fill_50 : decode prog_14_method_78_code 50 = .ok (.iload_n 1, 1) := by decide +kernel
theorem d_12_fill_51 : decode prog_14_method_78_code 51 = .ok (.iload 4, 2) := by decide +kernel
theorem d_12_fill_53 : decode prog_14_method_78_code 53 = .ok (.invokevirtual 295, 3) := by decide +kernel
theorem d_12_fill_56 : decode prog_14_method_78_code 56 = .ok (.iconst 3, 1) := by decide +kernel
theorem d_12_fill_57 : decode prog_14_method_78_code 57 = .ok (.invokevirtual 185, 3) := by decide +kernel
theorem d_12_fill_60 : decode prog_14_method_78_code 60 = .ok (.ifCond .eq 5, 3) := by decide +kernel
theorem d_12_fill_63 : decode prog_14_method_78_code 63 = .ok (.iconst 0, 1) := by decide +kernel
theorem d_12_fill_64 : decode prog_14_method_78_code 64 = .ok (.ireturn, 1) := by decide +kernel
theorem d_12_fill_65 : decode prog_14_method_78_code 65 = .ok (.aload_n 0, 1) := by decide +kernel
theorem d_12_fill_66 : decode prog_14_method_78_code 66 = .ok (.getfield 36, 3) := by decide +kernel
theorem d_12_fill_69 : decode prog_14_method_78_code 69 = .ok (.iconst 0, 1) := by decide +kernel
theorem d_12_fill_70 : decode prog_14_method_78_code 70 = .ok (.iconst 0, 1) := by decide +kernel
theorem d_12_fill_71 : decode prog_14_method_78_code 71 = .ok (.iastore, 1) := by decide +kernel
theorem d_12_fill_72 : decode prog_14_method_78_code 72 = .ok (.aload_n 0, 1) := by decide +kernel
theorem d_12_fill_73 : decode prog_14_method_78_code 73 = .ok (.aload_n 0, 1) := by decide +kernel
theorem d_12_fill_74 : decode prog_14_method_78_code 74 = .ok (.iload_n 1, 1) := by decide +kernel
theorem d_12_fill_75 : decode prog_14_method_78_code 75 = .ok (.invokestatic 68, 3) := by decide +kernel
theorem d_12_fill_78 : decode prog_14_method_78_code 78 = .ok (.iload_n 2, 1) := by decide +kernel
theorem d_12_fill_79 : decode prog_14_method_78_code 79 = .ok (.invokevirtual 71, 3) := by decide +kernel
theorem d_12_fill_82 : decode prog_14_method_78_code 82 = .ok (.iload 4, 2) := by decide +kernel
theorem d_12_fill_84 : decode prog_14_method_78_code 84 = .ok (.invokevirtual 251, 3) := by decide +kernel
theorem d_12_fill_87 : decode prog_14_method_78_code 87 = .ok (.istore 5, 2) := by decide +kernel
theorem d_12_fill_89 : decode prog_14_method_78_code 89 = .ok (.iload_n 2, 1) := by decide +kernel
theorem d_12_fill_90 : decode prog_14_method_78_code 90 = .ok (.iconst 1, 1) := by decide +kernel
theorem d_12_fill_91 : decode prog_14_method_78_code 91 = .ok (.iadd, 1) := by decide +kernel
theorem d_12_fill_92 : decode prog_14_method_78_code 92 = .ok (.istore 6, 2) := by decide +kernel
theorem d_12_fill_94 : decode prog_14_method_78_code 94 = .ok (.iload 6, 2) := by decide +kernel
theorem d_12_fill_96 : decode prog_14_method_78_code 96 = .ok (.iload_n 3, 1) := by decide +kernel
theorem d_12_fill_97 : decode prog_14_method_78_code 97 = .ok (.if_icmp .gt 28, 3) := by decide +kernel
theorem d_12_fill_100 : decode prog_14_method_78_code 100 = .ok (.aload_n 0, 1) := by decide +kernel
theorem d_12_fill_101 : decode prog_14_method_78_code 101 = .ok (.iload_n 1, 1) := by decide +kernel
theorem d_12_fill_102 : decode prog_14_method_78_code 102 = .ok (.aload_n 0, 1) := by decide +kernel
theorem d_12_fill_103 : decode prog_14_method_78_code 103 = .ok (.iload_n 1, 1) := by decide +kernel
theorem d_12_fill_104 : decode prog_14_method_78_code 104 = .ok (.invokestatic 68, 3) := by decide +kernel
theorem d_12_fill_107 : decode prog_14_method_78_code 107 = .ok (.iload 6, 2) := by decide +kernel
theorem d_12_fill_109 : decode prog_14_method_78_code 109 = .ok (.invokevirtual 71, 3) := by decide +kernel
theorem d_12_fill_112 : decode prog_14_method_78_code 112 = .ok (.iload 4, 2) := by decide +kernel
theorem d_12_fill_114 : decode prog_14_method_78_code 114 = .ok (.iload 5, 2) := by decide +kernel
theorem d_12_fill_116 : decode prog_14_method_78_code 116 = .ok (.invokevirtual 301, 3) := by decide +kernel
theorem d_12_fill_119 : decode prog_14_method_78_code 119 = .ok (.iinc 6 1, 3) := by decide +kernel
theorem d_12_fill_122 : decode prog_14_method_78_code 122 = .ok (.goto (-28), 3) := by decide +kernel
theorem d_12_fill_125 : decode prog_14_method_78_code 125 = .ok (.aload_n 0, 1) := by decide +kernel
theorem d_12_fill_126 : decode prog_14_method_78_code 126 = .ok (.iload_n 1, 1) := by decide +kernel
theorem d_12_fill_127 : decode prog_14_method_78_code 127 = .ok (.invokevirtual 305, 3) := by decide +kernel
theorem d_12_fill_130 : decode prog_14_method_78_code 130 = .ok (.ireturn, 1) := by decide +kernel
theorem d_12_isNone_0 : decode prog_14_method_79_code 0 = .ok (.iload_n 2, 1) := by decide +kernel
theorem d_12_isNone_1 : decode prog_14_method_79_code 1 = .ok (.ldc 84, 2) := by decide +kernel
theorem d_12_isNone_3 : decode prog_14_method_79_code 3 = .ok (.if_icmp .eq 16, 3) := by decide +kernel
theorem d_12_isNone_6 : decode prog_14_method_79_code 6 = .ok (.aload_n 0, 1) := by decide +kernel
theorem d_12_isNone_7 : decode prog_14_method_79_code 7 = .ok (.iload_n 1, 1) := by decide +kernel
theorem d_12_isNone_8 : decode prog_14_method_79_code 8 = .ok (.iload_n 2, 1) := by decide +kernel
theorem d_12_isNone_9 : decode prog_14_method_79_code 9 = .ok (.invokevirtual 298, 3) := by decide +kernel
theorem d_12_isNone_12 : decode prog_14_method_79_code 12 = .ok (.ifCond .ne 7, 3) := by decide +kernel
theorem d_12_isNone_15 : decode prog_14_method_79_code 15 = .ok (.iconst 1, 1) := by decide +kernel
theorem d_12_isNone_16 : decode prog_14_method_79_code 16 = .ok (.goto 4, 3) := by decide +kernel
theorem d_12_isNone_19 : decode prog_14_method_79_code 19 = .ok (.iconst 0, 1) := by decide +kernel
theorem d_12_isNone_20 : decode prog_14_method_79_code 20 = .ok (.ireturn, 1) := by decide +kernel
theorem d_12_valueAt_0 : decode prog_14_method_114_code 0 = .ok (.aload_n 0, 1) := by decide +kernel
theorem d_12_valueAt_1 : decode prog_14_method_114_code 1 = .ok (.aload_n 0, 1) := by decide +kernel
theorem d_12_valueAt_2 : decode prog_14_method_114_code 2 = .ok (.iload_n 1, 1) := by decide +kernel
theorem d_12_valueAt_3 : decode prog_14_method_114_code 3 = .ok (.invokestatic 68, 3) := by decide +kernel
theorem d_12_valueAt_6 : decode prog_14_method_114_code 6 = .ok (.iload_n 2, 1) := by decide +kernel
theorem d_12_valueAt_7 : decode prog_14_method_114_code 7 = .ok (.invokevirtual 71, 3) := by decide +kernel
theorem d_12_valueAt_10 : decode prog_14_method_114_code 10 = .ok (.iload_n 3, 1) := by decide +kernel
theorem d_12_valueAt_11 : decode prog_14_method_114_code 11 = .ok (.invokevirtual 251, 3) := by decide +kernel
theorem d_12_valueAt_14 : decode prog_14_method_114_code 14 = .ok (.ireturn, 1) := by decide +kernel
theorem d_12_replace_0 : decode prog_14_method_80_code 0 = .ok (.aload_n 0, 1) := by decide +kernel
theorem d_12_replace_1 : decode prog_14_method_80_code 1 = .ok (.iconst 0, 1) := by decide +kernel
theorem d_12_replace_2 : decode prog_14_method_80_code 2 = .ok (.putfield 3, 3) := by decide +kernel
theorem d_12_replace_5 : decode prog_14_method_80_code 5 = .ok (.aload_n 0, 1) := by decide +kernel
theorem d_12_replace_6 : decode prog_14_method_80_code 6 = .ok (.iload_n 1, 1) := by decide +kernel
theorem d_12_replace_7 : decode prog_14_method_80_code 7 = .ok (.invokestatic 239, 3) := by decide +kernel
theorem d_12_replace_10 : decode prog_14_method_80_code 10 = .ok (.ifCond .ne 11, 3) := by decide +kernel
theorem d_12_replace_13 : decode prog_14_method_80_code 13 = .ok (.aload_n 0, 1) := by decide +kernel
theorem d_12_replace_14 : decode prog_14_method_80_code 14 = .ok (.iload_n 2, 1) := by decide +kernel
theorem d_12_replace_15 : decode prog_14_method_80_code 15 = .ok (.invokevirtual 288, 3) := by decide +kernel
theorem d_12_replace_18 : decode prog_14_method_80_code 18 = .ok (.ifCond .eq 7, 3) := by decide +kernel
theorem d_12_replace_21 : decode prog_14_method_80_code 21 = .ok (.iconst 1, 1) := by decide +kernel
theorem d_12_replace_22 : decode prog_14_method_80_code 22 = .ok (.goto 4, 3) := by decide +kernel
theorem d_12_replace_25 : decode prog_14_method_80_code 25 = .ok (.iconst 0, 1) := by decide +kernel
theorem d_12_replace_26 : decode prog_14_method_80_code 26 = .ok (.iconst 1, 1) := by decide +kernel
theorem d_12_replace_27 : decode prog_14_method_80_code 27 = .ok (.invokevirtual 185, 3) := by decide +kernel
theorem d_12_replace_30 : decode prog_14_method_80_code 30 = .ok (.ifCond .ne 49, 3) := by decide +kernel
theorem d_12_replace_33 : decode prog_14_method_80_code 33 = .ok (.aload_n 0, 1) := by decide +kernel
theorem d_12_replace_34 : decode prog_14_method_80_code 34 = .ok (.aload_n 0, 1) := by decide +kernel
theorem d_12_replace_35 : decode prog_14_method_80_code 35 = .ok (.iload_n 1, 1) := by decide +kernel
theorem d_12_replace_36 : decode prog_14_method_80_code 36 = .ok (.iload_n 2, 1) := by decide +kernel
theorem d_12_replace_37 : decode prog_14_method_80_code 37 = .ok (.invokevirtual 295, 3) := by decide +kernel
theorem d_12_replace_40 : decode prog_14_method_80_code 40 = .ok (.iconst 2, 1) := by decide +kernel
theorem d_12_replace_41 : decode prog_14_method_80_code 41 = .ok (.invokevirtual 185, 3) := by decide +kernel
theorem d_12_replace_44 : decode prog_14_method_80_code 44 = .ok (.ifCond .ne 35, 3) := by decide +kernel
theorem d_12_replace_47 : decode prog_14_method_80_code 47 = .ok (.aload_n 0, 1) := by decide +kernel
theorem d_12_replace_48 : decode prog_14_method_80_code 48 = .ok (.aload_n 0, 1) := by decide +kernel
theorem d_12_replace_49 : decode prog_14_method_80_code 49 = .ok (.iload_n 2, 1) := by decide +kernel
theorem d_12_replace_50 : decode prog_14_method_80_code 50 = .ok (.iload_n 3, 1) := by decide +kernel
theorem d_12_replace_51 : decode prog_14_method_80_code 51 = .ok (.invokevirtual 308, 3) := by decide +kernel
theorem d_12_replace_54 : decode prog_14_method_80_code 54 = .ok (.ifCond .ne 13, 3) := by decide +kernel
theorem d_12_replace_57 : decode prog_14_method_80_code 57 = .ok (.aload_n 0, 1) := by decide +kernel
theorem d_12_replace_58 : decode prog_14_method_80_code 58 = .ok (.iload_n 2, 1) := by decide +kernel
theorem d_12_replace_59 : decode prog_14_method_80_code 59 = .ok (.iload 4, 2) := by decide +kernel
theorem d_12_replace_61 : decode prog_14_method_80_code 61 = .ok (.invokevirtual 308, 3) := by decide +kernel
theorem d_12_replace_64 : decode prog_14_method_80_code 64 = .ok (.ifCond .eq 7, 3) := by decide +kernel
theorem d_12_replace_67 : decode prog_14_method_80_code 67 = .ok (.iconst 1, 1) := by decide +kernel
theorem d_12_replace_68 : decode prog_14_method_80_code 68 = .ok (.goto 4, 3) := by decide +kernel
theorem d_12_replace_71 : decode prog_14_method_80_code 71 = .ok (.iconst 0, 1) := by decide +kernel
theorem d_12_replace_72 : decode prog_14_method_80_code 72 = .ok (.iconst 3, 1) := by decide +kernel
theorem d_12_replace_73 : decode prog_14_method_80_code 73 = .ok (.invokevirtual 185, 3) := by decide +kernel
theorem d_12_replace_76 : decode prog_14_method_80_code 76 = .ok (.ifCond .eq 5, 3) := by decide +kernel
theorem d_12_replace_79 : decode prog_14_method_80_code 79 = .ok (.iconst 0, 1) := by decide +kernel
theorem d_12_replace_80 : decode prog_14_method_80_code 80 = .ok (.ireturn, 1) := by decide +kernel
theorem d_12_replace_81 : decode prog_14_method_80_code 81 = .ok (.aload_n 0, 1) := by decide +kernel
theorem d_12_replace_82 : decode prog_14_method_80_code 82 = .ok (.getfield 36, 3) := by decide +kernel
theorem d_12_replace_85 : decode prog_14_method_80_code 85 = .ok (.iconst 0, 1) := by decide +kernel
theorem d_12_replace_86 : decode prog_14_method_80_code 86 = .ok (.iconst 0, 1) := by decide +kernel
theorem d_12_replace_87 : decode prog_14_method_80_code 87 = .ok (.iastore, 1) := by decide +kernel
theorem d_12_replace_88 : decode prog_14_method_80_code 88 = .ok (.iconst 0, 1) := by decide +kernel
theorem d_12_replace_89 : decode prog_14_method_80_code 89 = .ok (.istore 5, 2) := by decide +kernel
theorem d_12_replace_91 : decode prog_14_method_80_code 91 = .ok (.iload 5, 2) := by decide +kernel
theorem d_12_replace_93 : decode prog_14_method_80_code 93 = .ok (.aload_n 0, 1) := by decide +kernel
theorem d_12_replace_94 : decode prog_14_method_80_code 94 = .ok (.iload_n 1, 1) := by decide +kernel
theorem d_12_replace_95 : decode prog_14_method_80_code 95 = .ok (.invokestatic 68, 3) := by decide +kernel
theorem d_12_replace_98 : decode prog_14_method_80_code 98 = .ok (.invokevirtual 64, 3) := by decide +kernel
theorem d_12_replace_101 : decode prog_14_method_80_code 101 = .ok (.if_icmp .ge 39, 3) := by decide +kernel
theorem d_12_replace_104 : decode prog_14_method_80_code 104 = .ok (.aload_n 0, 1) := by decide +kernel
theorem d_12_replace_105 : decode prog_14_method_80_code 105 = .ok (.iload_n 1, 1) := by decide +kernel
theorem d_12_replace_106 : decode prog_14_method_80_code 106 = .ok (.iload 5, 2) := by decide +kernel
theorem d_12_replace_108 : decode prog_14_method_80_code 108 = .ok (.iload_n 2, 1) := by decide +kernel
theorem d_12_replace_109 : decode prog_14_method_80_code 109 = .ok (.invokevirtual 311, 3) := by decide +kernel
theorem d_12_replace_112 : decode prog_14_method_80_code 112 = .ok (.iload_n 3, 1) := by decide +kernel
theorem d_12_replace_113 : decode prog_14_method_80_code 113 = .ok (.if_icmp .ne 21, 3) := by decide +kernel
theorem d_12_replace_116 : decode prog_14_method_80_code 116 = .ok (.aload_n 0, 1) := by decide +kernel
theorem d_12_replace_117 : decode prog_14_method_80_code 117 = .ok (.iload_n 1, 1) := by decide +kernel
theorem d_12_replace_118 : decode prog_14_method_80_code 118 = .ok (.aload_n 0, 1) := by decide +kernel
theorem d_12_replace_119 : decode prog_14_method_80_code 119 = .ok (.iload_n 1, 1) := by decide +kernel
theorem d_12_replace_120 : decode prog_14_method_80_code 120 = .ok (.invokestatic 68, 3) := by decide +kernel
theorem d_12_replace_123 : decode prog_14_method_80_code 123 = .ok (.iload 5, 2) := by decide +kernel
theorem d_12_replace_125 : decode prog_14_method_80_code 125 = .ok (.invokevirtual 71, 3) := by decide +kernel
theorem d_12_replace_128 : decode prog_14_method_80_code 128 = .ok (.iload_n 2, 1) := by decide +kernel
theorem d_12_replace_129 : decode prog_14_method_80_code 129 = .ok (.iload 4, 2) := by decide +kernel
theorem d_12_replace_131 : decode prog_14_method_80_code 131 = .ok (.invokevirtual 301, 3) := by decide +kernel
theorem d_12_replace_134 : decode prog_14_method_80_code 134 = .ok (.iinc 5 1, 3) := by decide +kernel
theorem d_12_replace_137 : decode prog_14_method_80_code 137 = .ok (.goto (-46), 3) := by decide +kernel
theorem d_12_replace_140 : decode prog_14_method_80_code 140 = .ok (.aload_n 0, 1) := by decide +kernel
theorem d_12_replace_141 : decode prog_14_method_80_code 141 = .ok (.iload_n 1, 1) := by decide +kernel
theorem d_12_replace_142 : decode prog_14_method_80_code 142 = .ok (.invokevirtual 305, 3) := by decide +kernel
theorem d_12_replace_145 : decode prog_14_method_80_code 145 = .ok (.ireturn, 1) := by decide +kernel
theorem d_12_swap_0 : decode prog_14_method_81_code 0 = .ok (.aload_n 0, 1) := by decide +kernel
theorem d_12_swap_1 : decode prog_14_method_81_code 1 = .ok (.iconst 0, 1) := by decide +kernel
theorem d_12_swap_2 : decode prog_14_method_81_code 2 = .ok (.putfield 3, 3) := by decide +kernel
theorem d_12_swap_5 : decode prog_14_method_81_code 5 = .ok (.aload_n 0, 1) := by decide +kernel
theorem d_12_swap_6 : decode prog_14_method_81_code 6 = .ok (.iload_n 1, 1) := by decide +kernel
theorem d_12_swap_7 : decode prog_14_method_81_code 7 = .ok (.iload_n 2, 1) := by decide +kernel
theorem d_12_swap_8 : decode prog_14_method_81_code 8 = .ok (.iload 4, 2) := by decide +kernel
theorem d_12_swap_10 : decode prog_14_method_81_code 10 = .ok (.invokevirtual 292, 3) := by decide +kernel
theorem d_12_swap_13 : decode prog_14_method_81_code 13 = .ok (.ifCond .ne 50, 3) := by decide +kernel
theorem d_12_swap_16 : decode prog_14_method_81_code 16 = .ok (.aload_n 0, 1) := by decide +kernel
theorem d_12_swap_17 : decode prog_14_method_81_code 17 = .ok (.aload_n 0, 1) := by decide +kernel
theorem d_12_swap_18 : decode prog_14_method_81_code 18 = .ok (.iload_n 1, 1) := by decide +kernel
theorem d_12_swap_19 : decode prog_14_method_81_code 19 = .ok (.iload_n 3, 1) := by decide +kernel
theorem d_12_swap_20 : decode prog_14_method_81_code 20 = .ok (.invokevirtual 285, 3) := by decide +kernel
theorem d_12_swap_23 : decode prog_14_method_81_code 23 = .ok (.iconst 1, 1) := by decide +kernel
theorem d_12_swap_24 : decode prog_14_method_81_code 24 = .ok (.invokevirtual 185, 3) := by decide +kernel
theorem d_12_swap_27 : decode prog_14_method_81_code 27 = .ok (.ifCond .ne 36, 3) := by decide +kernel
theorem d_12_swap_30 : decode prog_14_method_81_code 30 = .ok (.aload_n 0, 1) := by decide +kernel
theorem d_12_swap_31 : decode prog_14_method_81_code 31 = .ok (.iload_n 2, 1) := by decide +kernel
theorem d_12_swap_32 : decode prog_14_method_81_code 32 = .ok (.iload_n 3, 1) := by decide +kernel
theorem d_12_swap_33 : decode prog_14_method_81_code 33 = .ok (.if_icmp .ne 7, 3) := by decide +kernel
theorem d_12_swap_36 : decode prog_14_method_81_code 36 = .ok (.iconst 1, 1) := by decide +kernel
theorem d_12_swap_37 : decode prog_14_method_81_code 37 = .ok (.goto 4, 3) := by decide +kernel
theorem d_12_swap_40 : decode prog_14_method_81_code 40 = .ok (.iconst 0, 1) := by decide +kernel
theorem d_12_swap_41 : decode prog_14_method_81_code 41 = .ok (.iconst 2, 1) := by decide +kernel
theorem d_12_swap_42 : decode prog_14_method_81_code 42 = .ok (.invokevirtual 185, 3) := by decide +kernel
theorem d_12_swap_45 : decode prog_14_method_81_code 45 = .ok (.ifCond .ne 18, 3) := by decide +kernel
theorem d_12_swap_48 : decode prog_14_method_81_code 48 = .ok (.aload_n 0, 1) := by decide +kernel
theorem d_12_swap_49 : decode prog_14_method_81_code 49 = .ok (.aload_n 0, 1) := by decide +kernel
theorem d_12_swap_50 : decode prog_14_method_81_code 50 = .ok (.iload_n 1, 1) := by decide +kernel
theorem d_12_swap_51 : decode prog_14_method_81_code 51 = .ok (.iload 4, 2) := by decide +kernel
theorem d_12_swap_53 : decode prog_14_method_81_code 53 = .ok (.invokevirtual 295, 3) := by decide +kernel
theorem d_12_swap_56 : decode prog_14_method_81_code 56 = .ok (.iconst 3, 1) := by decide +kernel
theorem d_12_swap_57 : decode prog_14_method_81_code 57 = .ok (.invokevirtual 185, 3) := by decide +kernel
theorem d_12_swap_60 : decode prog_14_method_81_code 60 = .ok (.ifCond .eq 5, 3) := by decide +kernel
theorem d_12_swap_63 : decode prog_14_method_81_code 63 = .ok (.iconst 0, 1) := by decide +kernel
theorem d_12_swap_64 : decode prog_14_method_81_code 64 = .ok (.ireturn, 1) := by decide +kernel
theorem d_12_swap_65 : decode prog_14_method_81_code 65 = .ok (.aload_n 0, 1) := by decide +kernel
theorem d_12_swap_66 : decode prog_14_method_81_code 66 = .ok (.getfield 36, 3) := by decide +kernel
theorem d_12_swap_69 : decode prog_14_method_81_code 69 = .ok (.iconst 0, 1) := by decide +kernel
theorem d_12_swap_70 : decode prog_14_method_81_code 70 = .ok (.iconst 0, 1) := by decide +kernel
theorem d_12_swap_71 : decode prog_14_method_81_code 71 = .ok (.iastore, 1) := by decide +kernel
theorem d_12_swap_72 : decode prog_14_method_81_code 72 = .ok (.aload_n 0, 1) := by decide +kernel
theorem d_12_swap_73 : decode prog_14_method_81_code 73 = .ok (.iload_n 1, 1) := by decide +kernel
theorem d_12_swap_74 : decode prog_14_method_81_code 74 = .ok (.iload_n 2, 1) := by decide +kernel
theorem d_12_swap_75 : decode prog_14_method_81_code 75 = .ok (.iload 4, 2) := by decide +kernel
theorem d_12_swap_77 : decode prog_14_method_81_code 77 = .ok (.invokevirtual 311, 3) := by decide +kernel
theorem d_12_swap_80 : decode prog_14_method_81_code 80 = .ok (.istore 5, 2) := by decide +kernel
theorem d_12_swap_82 : decode prog_14_method_81_code 82 = .ok (.aload_n 0, 1) := by decide +kernel
theorem d_12_swap_83 : decode prog_14_method_81_code 83 = .ok (.iload_n 1, 1) := by decide +kernel
theorem d_12_swap_84 : decode prog_14_method_81_code 84 = .ok (.iload_n 3, 1) := by decide +kernel
theorem d_12_swap_85 : decode prog_14_method_81_code 85 = .ok (.iload 4, 2) := by decide +kernel
theorem d_12_swap_87 : decode prog_14_method_81_code 87 = .ok (.invokevirtual 311, 3) := by decide +kernel
theorem d_12_swap_90 : decode prog_14_method_81_code 90 = .ok (.istore 6, 2) := by decide +kernel
theorem d_12_swap_92 : decode prog_14_method_81_code 92 = .ok (.aload_n 0, 1) := by decide +kernel
theorem d_12_swap_93 : decode prog_14_method_81_code 93 = .ok (.iload_n 1, 1) := by decide +kernel
theorem d_12_swap_94 : decode prog_14_method_81_code 94 = .ok (.aload_n 0, 1) := by decide +kernel
theorem d_12_swap_95 : decode prog_14_method_81_code 95 = .ok (.iload_n 1, 1) := by decide +kernel
theorem d_12_swap_96 : decode prog_14_method_81_code 96 = .ok (.invokestatic 68, 3) := by decide +kernel
theorem d_12_swap_99 : decode prog_14_method_81_code 99 = .ok (.iload_n 2, 1) := by decide +kernel
theorem d_12_swap_100 : decode prog_14_method_81_code 100 = .ok (.invokevirtual 71, 3) := by decide +kernel
theorem d_12_swap_103 : decode prog_14_method_81_code 103 = .ok (.iload 4, 2) := by decide +kernel
theorem d_12_swap_105 : decode prog_14_method_81_code 105 = .ok (.iload 6, 2) := by decide +kernel
theorem d_12_swap_107 : decode prog_14_method_81_code 107 = .ok (.invokevirtual 301, 3) := by decide +kernel
theorem d_12_swap_110 : decode prog_14_method_81_code 110 = .ok (.aload_n 0, 1) := by decide +kernel
theorem d_12_swap_111 : decode prog_14_method_81_code 111 = .ok (.iload_n 1, 1) := by decide +kernel
theorem d_12_swap_112 : decode prog_14_method_81_code 112 = .ok (.aload_n 0, 1) := by decide +kernel
theorem d_12_swap_113 : decode prog_14_method_81_code 113 = .ok (.iload_n 1, 1) := by decide +kernel
theorem d_12_swap_114 : decode prog_14_method_81_code 114 = .ok (.invokestatic 68, 3) := by decide +kernel
theorem d_12_swap_117 : decode prog_14_method_81_code 117 = .ok (.iload_n 3, 1) := by decide +kernel
theorem d_12_swap_118 : decode prog_14_method_81_code 118 = .ok (.invokevirtual 71, 3) := by decide +kernel
theorem d_12_swap_121 : decode prog_14_method_81_code 121 = .ok (.iload 4, 2) := by decide +kernel
theorem d_12_swap_123 : decode prog_14_method_81_code 123 = .ok (.iload 5, 2) := by decide +kernel
theorem d_12_swap_125 : decode prog_14_method_81_code 125 = .ok (.invokevirtual 301, 3) := by decide +kernel
theorem d_12_swap_128 : decode prog_14_method_81_code 128 = .ok (.aload_n 0, 1) := by decide +kernel
theorem d_12_swap_129 : decode prog_14_method_81_code 129 = .ok (.iload_n 1, 1) := by decide +kernel
theorem d_12_swap_130 : decode prog_14_method_81_code 130 = .ok (.invokevirtual 305, 3) := by decide +kernel
theorem d_12_swap_133 : decode prog_14_method_81_code 133 = .ok (.ireturn, 1) := by decide +kernel
theorem d_12_seenFrom_0 : decode prog_14_method_82_code 0 = .ok (.iload_n 2, 1) := by decide +kernel
theorem d_12_seenFrom_1 : decode prog_14_method_82_code 1 = .ok (.istore_n 3, 1) := by decide +kernel
theorem d_12_seenFrom_2 : decode prog_14_method_82_code 2 = .ok (.iload_n 3, 1) := by decide +kernel
theorem d_12_seenFrom_3 : decode prog_14_method_82_code 3 = .ok (.aload_n 0, 1) := by decide +kernel
theorem d_12_seenFrom_4 : decode prog_14_method_82_code 4 = .ok (.invokevirtual 60, 3) := by decide +kernel
theorem d_12_seenFrom_7 : decode prog_14_method_82_code 7 = .ok (.if_icmp .ge 18, 3) := by decide +kernel
theorem d_12_seenFrom_10 : decode prog_14_method_82_code 10 = .ok (.aload_n 0, 1) := by decide +kernel
theorem d_12_seenFrom_11 : decode prog_14_method_82_code 11 = .ok (.iload_n 1, 1) := by decide +kernel
theorem d_12_seenFrom_12 : decode prog_14_method_82_code 12 = .ok (.iload_n 3, 1) := by decide +kernel
theorem d_12_seenFrom_13 : decode prog_14_method_82_code 13 = .ok (.invokevirtual 295, 3) := by decide +kernel
theorem d_12_seenFrom_16 : decode prog_14_method_82_code 16 = .ok (.ifCond .eq 9, 3) := by decide +kernel
theorem d_12_seenFrom_19 : decode prog_14_method_82_code 19 = .ok (.iinc 3 1, 3) := by decide +kernel
theorem d_12_seenFrom_22 : decode prog_14_method_82_code 22 = .ok (.goto (-20), 3) := by decide +kernel
theorem d_12_seenFrom_25 : decode prog_14_method_82_code 25 = .ok (.iload_n 3, 1) := by decide +kernel
theorem d_12_seenFrom_26 : decode prog_14_method_82_code 26 = .ok (.ireturn, 1) := by decide +kernel
theorem d_12_readGrid_0 : decode prog_14_method_83_code 0 = .ok (.bipush 6, 2) := by decide +kernel
theorem d_12_readGrid_2 : decode prog_14_method_83_code 2 = .ok (.aload_n 0, 1) := by decide +kernel
theorem d_12_readGrid_3 : decode prog_14_method_83_code 3 = .ok (.getfield 314, 3) := by decide +kernel
theorem d_12_readGrid_6 : decode prog_14_method_83_code 6 = .ok (.imul, 1) := by decide +kernel
theorem d_12_readGrid_7 : decode prog_14_method_83_code 7 = .ok (.istore_n 3, 1) := by decide +kernel
theorem d_12_readGrid_8 : decode prog_14_method_83_code 8 = .ok (.iconst 0, 1) := by decide +kernel
theorem d_12_readGrid_9 : decode prog_14_method_83_code 9 = .ok (.istore 4, 2) := by decide +kernel
theorem d_12_readGrid_11 : decode prog_14_method_83_code 11 = .ok (.iload_n 2, 1) := by decide +kernel
theorem d_12_readGrid_12 : decode prog_14_method_83_code 12 = .ok (.istore 5, 2) := by decide +kernel
theorem d_12_readGrid_14 : decode prog_14_method_83_code 14 = .ok (.aload_n 0, 1) := by decide +kernel
theorem d_12_readGrid_15 : decode prog_14_method_83_code 15 = .ok (.invokevirtual 101, 3) := by decide +kernel
theorem d_12_readGrid_18 : decode prog_14_method_83_code 18 = .ok (.iload 5, 2) := by decide +kernel
theorem d_12_readGrid_20 : decode prog_14_method_83_code 20 = .ok (.aload_n 0, 1) := by decide +kernel
theorem d_12_readGrid_21 : decode prog_14_method_83_code 21 = .ok (.invokevirtual 60, 3) := by decide +kernel
theorem d_12_readGrid_24 : decode prog_14_method_83_code 24 = .ok (.if_icmp .ge 12, 3) := by decide +kernel
theorem d_12_readGrid_27 : decode prog_14_method_83_code 27 = .ok (.aload_n 0, 1) := by decide +kernel
theorem d_12_readGrid_28 : decode prog_14_method_83_code 28 = .ok (.iload 5, 2) := by decide +kernel
theorem d_12_readGrid_30 : decode prog_14_method_83_code 30 = .ok (.invokevirtual 150, 3) := by decide +kernel
theorem d_12_readGrid_33 : decode prog_14_method_83_code 33 = .ok (.ifCond .ne 5, 3) := by decide +kernel
theorem d_12_readGrid_36 : decode prog_14_method_83_code 36 = .ok (.iconst 0, 1) := by decide +kernel
theorem d_12_readGrid_37 : decode prog_14_method_83_code 37 = .ok (.ireturn, 1) := by decide +kernel
theorem d_12_readGrid_38 : decode prog_14_method_83_code 38 = .ok (.aload_n 0, 1) := by decide +kernel
theorem d_12_readGrid_39 : decode prog_14_method_83_code 39 = .ok (.getfield 39, 3) := by decide +kernel
theorem d_12_readGrid_42 : decode prog_14_method_83_code 42 = .ok (.iload_n 3, 1) := by decide +kernel
theorem d_12_readGrid_43 : decode prog_14_method_83_code 43 = .ok (.iconst 1, 1) := by decide +kernel
theorem d_12_readGrid_44 : decode prog_14_method_83_code 44 = .ok (.iadd, 1) := by decide +kernel
theorem d_12_readGrid_45 : decode prog_14_method_83_code 45 = .ok (.iload 4, 2) := by decide +kernel
theorem d_12_readGrid_47 : decode prog_14_method_83_code 47 = .ok (.iadd, 1) := by decide +kernel
theorem d_12_readGrid_48 : decode prog_14_method_83_code 48 = .ok (.aload_n 0, 1) := by decide +kernel
theorem d_12_readGrid_49 : decode prog_14_method_83_code 49 = .ok (.getfield 120, 3) := by decide +kernel
theorem d_12_readGrid_52 : decode prog_14_method_83_code 52 = .ok (.iastore, 1) := by decide +kernel
theorem d_12_readGrid_53 : decode prog_14_method_83_code 53 = .ok (.iinc 4 1, 3) := by decide +kernel
theorem d_12_readGrid_56 : decode prog_14_method_83_code 56 = .ok (.aload_n 0, 1) := by decide +kernel
theorem d_12_readGrid_57 : decode prog_14_method_83_code 57 = .ok (.iload_n 1, 1) := by decide +kernel
theorem d_12_readGrid_58 : decode prog_14_method_83_code 58 = .ok (.iload 5, 2) := by decide +kernel
theorem d_12_readGrid_60 : decode prog_14_method_83_code 60 = .ok (.iconst 1, 1) := by decide +kernel
theorem d_12_readGrid_61 : decode prog_14_method_83_code 61 = .ok (.iadd, 1) := by decide +kernel
theorem d_12_readGrid_62 : decode prog_14_method_83_code 62 = .ok (.invokevirtual 317, 3) := by decide +kernel
theorem d_12_readGrid_65 : decode prog_14_method_83_code 65 = .ok (.istore 5, 2) := by decide +kernel
theorem d_12_readGrid_67 : decode prog_14_method_83_code 67 = .ok (.aload_n 0, 1) := by decide +kernel
theorem d_12_readGrid_68 : decode prog_14_method_83_code 68 = .ok (.bipush 44, 2) := by decide +kernel
theorem d_12_readGrid_70 : decode prog_14_method_83_code 70 = .ok (.invokevirtual 126, 3) := by decide +kernel
theorem d_12_readGrid_73 : decode prog_14_method_83_code 73 = .ok (.ifCond .ne (-59), 3) := by decide +kernel
theorem d_12_readGrid_76 : decode prog_14_method_83_code 76 = .ok (.aload_n 0, 1) := by decide +kernel
theorem d_12_readGrid_77 : decode prog_14_method_83_code 77 = .ok (.getfield 39, 3) := by decide +kernel
theorem d_12_readGrid_80 : decode prog_14_method_83_code 80 = .ok (.iload_n 3, 1) := by decide +kernel
theorem d_12_readGrid_81 : decode prog_14_method_83_code 81 = .ok (.iload 4, 2) := by decide +kernel
theorem d_12_readGrid_83 : decode prog_14_method_83_code 83 = .ok (.iastore, 1) := by decide +kernel
theorem d_12_readGrid_84 : decode prog_14_method_83_code 84 = .ok (.aload_n 0, 1) := by decide +kernel
theorem d_12_readGrid_85 : decode prog_14_method_83_code 85 = .ok (.dup, 1) := by decide +kernel
theorem d_12_readGrid_86 : decode prog_14_method_83_code 86 = .ok (.getfield 314, 3) := by decide +kernel
theorem d_12_readGrid_89 : decode prog_14_method_83_code 89 = .ok (.iconst 1, 1) := by decide +kernel
theorem d_12_readGrid_90 : decode prog_14_method_83_code 90 = .ok (.iadd, 1) := by decide +kernel
theorem d_12_readGrid_91 : decode prog_14_method_83_code 91 = .ok (.putfield 314, 3) := by decide +kernel
theorem d_12_readGrid_94 : decode prog_14_method_83_code 94 = .ok (.iconst 1, 1) := by decide +kernel
theorem d_12_readGrid_95 : decode prog_14_method_83_code 95 = .ok (.ireturn, 1) := by decide +kernel
theorem d_12_readGrids_0 : decode prog_14_method_84_code 0 = .ok (.aload_n 0, 1) := by decide +kernel
theorem d_12_readGrids_1 : decode prog_14_method_84_code 1 = .ok (.iconst 0, 1) := by decide +kernel
theorem d_12_readGrids_2 : decode prog_14_method_84_code 2 = .ok (.putfield 314, 3) := by decide +kernel
theorem d_12_readGrids_5 : decode prog_14_method_84_code 5 = .ok (.aload_n 0, 1) := by decide +kernel
theorem d_12_readGrids_6 : decode prog_14_method_84_code 6 = .ok (.invokevirtual 101, 3) := by decide +kernel
theorem d_12_readGrids_9 : decode prog_14_method_84_code 9 = .ok (.aload_n 0, 1) := by decide +kernel
theorem d_12_readGrids_10 : decode prog_14_method_84_code 10 = .ok (.getfield 314, 3) := by decide +kernel
theorem d_12_readGrids_13 : decode prog_14_method_84_code 13 = .ok (.bipush 12, 2) := by decide +kernel
theorem d_12_readGrids_15 : decode prog_14_method_84_code 15 = .ok (.if_icmp .eq 12, 3) := by decide +kernel
theorem d_12_readGrids_18 : decode prog_14_method_84_code 18 = .ok (.aload_n 0, 1) := by decide +kernel
theorem d_12_readGrids_19 : decode prog_14_method_84_code 19 = .ok (.iload_n 1, 1) := by decide +kernel
theorem d_12_readGrids_20 : decode prog_14_method_84_code 20 = .ok (.iload_n 2, 1) := by decide +kernel
theorem d_12_readGrids_21 : decode prog_14_method_84_code 21 = .ok (.invokevirtual 320, 3) := by decide +kernel
theorem d_12_readGrids_24 : decode prog_14_method_84_code 24 = .ok (.ifCond .ne 5, 3) := by decide +kernel
theorem d_12_readGrids_27 : decode prog_14_method_84_code 27 = .ok (.iconst 0, 1) := by decide +kernel
theorem d_12_readGrids_28 : decode prog_14_method_84_code 28 = .ok (.ireturn, 1) := by decide +kernel
theorem d_12_readGrids_29 : decode prog_14_method_84_code 29 = .ok (.aload_n 0, 1) := by decide +kernel
theorem d_12_readGrids_30 : decode prog_14_method_84_code 30 = .ok (.bipush 59, 2) := by decide +kernel
theorem d_12_readGrids_32 : decode prog_14_method_84_code 32 = .ok (.invokevirtual 126, 3) := by decide +kernel
theorem d_12_readGrids_35 : decode prog_14_method_84_code 35 = .ok (.ifCond .ne (-30), 3) := by decide +kernel
theorem d_12_readGrids_38 : decode prog_14_method_84_code 38 = .ok (.aload_n 0, 1) := by decide +kernel
theorem d_12_readGrids_39 : decode prog_14_method_84_code 39 = .ok (.getfield 91, 3) := by decide +kernel
theorem d_12_readGrids_42 : decode prog_14_method_84_code 42 = .ok (.aload_n 0, 1) := by decide +kernel
theorem d_12_readGrids_43 : decode prog_14_method_84_code 43 = .ok (.getfield 88, 3) := by decide +kernel
theorem d_12_readGrids_46 : decode prog_14_method_84_code 46 = .ok (.if_icmp .ne 7, 3) := by decide +kernel
theorem d_12_readGrids_49 : decode prog_14_method_84_code 49 = .ok (.iconst 1, 1) := by decide +kernel
theorem d_12_readGrids_50 : decode prog_14_method_84_code 50 = .ok (.goto 4, 3) := by decide +kernel
theorem d_12_readGrids_53 : decode prog_14_method_84_code 53 = .ok (.iconst 0, 1) := by decide +kernel
theorem d_12_readGrids_54 : decode prog_14_method_84_code 54 = .ok (.ireturn, 1) := by decide +kernel
theorem d_12_isPasted_0 : decode prog_14_method_85_code 0 = .ok (.iload_n 3, 1) := by decide +kernel
theorem d_12_isPasted_1 : decode prog_14_method_85_code 1 = .ok (.istore 5, 2) := by decide +kernel
theorem d_12_isPasted_3 : decode prog_14_method_85_code 3 = .ok (.iconst 0, 1) := by decide +kernel
theorem d_12_isPasted_4 : decode prog_14_method_85_code 4 = .ok (.istore 6, 2) := by decide +kernel
theorem d_12_isPasted_6 : decode prog_14_method_85_code 6 = .ok (.iload 6, 2) := by decide +kernel
theorem d_12_isPasted_8 : decode prog_14_method_85_code 8 = .ok (.aload_n 0, 1) := by decide +kernel
theorem d_12_isPasted_9 : decode prog_14_method_85_code 9 = .ok (.getfield 39, 3) := by decide +kernel
theorem d_12_isPasted_12 : decode prog_14_method_85_code 12 = .ok (.bipush 6, 2) := by decide +kernel
theorem d_12_isPasted_14 : decode prog_14_method_85_code 14 = .ok (.iload 4, 2) := by decide +kernel
theorem d_12_isPasted_16 : decode prog_14_method_85_code 16 = .ok (.imul, 1) := by decide +kernel
theorem d_12_isPasted_17 : decode prog_14_method_85_code 17 = .ok (.iaload, 1) := by decide +kernel
theorem d_12_isPasted_18 : decode prog_14_method_85_code 18 = .ok (.if_icmp .ge 43, 3) := by decide +kernel
theorem d_12_isPasted_21 : decode prog_14_method_85_code 21 = .ok (.aload_n 0, 1) := by decide +kernel
theorem d_12_isPasted_22 : decode prog_14_method_85_code 22 = .ok (.iload_n 1, 1) := by decide +kernel
theorem d_12_isPasted_23 : decode prog_14_method_85_code 23 = .ok (.iload_n 2, 1) := by decide +kernel
theorem d_12_isPasted_24 : decode prog_14_method_85_code 24 = .ok (.iload 5, 2) := by decide +kernel
theorem d_12_isPasted_26 : decode prog_14_method_85_code 26 = .ok (.aload_n 0, 1) := by decide +kernel
theorem d_12_isPasted_27 : decode prog_14_method_85_code 27 = .ok (.getfield 39, 3) := by decide +kernel
theorem d_12_isPasted_30 : decode prog_14_method_85_code 30 = .ok (.bipush 6, 2) := by decide +kernel
theorem d_12_isPasted_32 : decode prog_14_method_85_code 32 = .ok (.iload 4, 2) := by decide +kernel
theorem d_12_isPasted_34 : decode prog_14_method_85_code 34 = .ok (.imul, 1) := by decide +kernel
theorem d_12_isPasted_35 : decode prog_14_method_85_code 35 = .ok (.iconst 1, 1) := by decide +kernel
theorem d_12_isPasted_36 : decode prog_14_method_85_code 36 = .ok (.iadd, 1) := by decide +kernel
theorem d_12_isPasted_37 : decode prog_14_method_85_code 37 = .ok (.iload 6, 2) := by decide +kernel
theorem d_12_isPasted_39 : decode prog_14_method_85_code 39 = .ok (.iadd, 1) := by decide +kernel
theorem d_12_isPasted_40 : decode prog_14_method_85_code 40 = .ok (.iaload, 1) := by decide +kernel
theorem d_12_isPasted_41 : decode prog_14_method_85_code 41 = .ok (.invokevirtual 301, 3) := by decide +kernel
theorem d_12_isPasted_44 : decode prog_14_method_85_code 44 = .ok (.aload_n 0, 1) := by decide +kernel
theorem d_12_isPasted_45 : decode prog_14_method_85_code 45 = .ok (.iload_n 1, 1) := by decide +kernel
theorem d_12_isPasted_46 : decode prog_14_method_85_code 46 = .ok (.iload 5, 2) := by decide +kernel
theorem d_12_isPasted_48 : decode prog_14_method_85_code 48 = .ok (.iconst 1, 1) := by decide +kernel
theorem d_12_isPasted_49 : decode prog_14_method_85_code 49 = .ok (.iadd, 1) := by decide +kernel
theorem d_12_isPasted_50 : decode prog_14_method_85_code 50 = .ok (.invokevirtual 317, 3) := by decide +kernel
theorem d_12_isPasted_53 : decode prog_14_method_85_code 53 = .ok (.istore 5, 2) := by decide +kernel
theorem d_12_isPasted_55 : decode prog_14_method_85_code 55 = .ok (.iinc 6 1, 3) := by decide +kernel
theorem d_12_isPasted_58 : decode prog_14_method_85_code 58 = .ok (.goto (-52), 3) := by decide +kernel
theorem d_12_isPasted_61 : decode prog_14_method_85_code 61 = .ok (.return_, 1) := by decide +kernel
theorem d_12_paste_0 : decode prog_14_method_86_code 0 = .ok (.aload_n 0, 1) := by decide +kernel
theorem d_12_paste_1 : decode prog_14_method_86_code 1 = .ok (.invokevirtual 172, 3) := by decide +kernel
theorem d_12_paste_4 : decode prog_14_method_86_code 4 = .ok (.aload_n 0, 1) := by decide +kernel
theorem d_12_paste_5 : decode prog_14_method_86_code 5 = .ok (.iload_n 1, 1) := by decide +kernel
theorem d_12_paste_6 : decode prog_14_method_86_code 6 = .ok (.iload_n 2, 1) := by decide +kernel
theorem d_12_paste_7 : decode prog_14_method_86_code 7 = .ok (.iload_n 3, 1) := by decide +kernel
theorem d_12_paste_8 : decode prog_14_method_86_code 8 = .ok (.invokevirtual 292, 3) := by decide +kernel
theorem d_12_paste_11 : decode prog_14_method_86_code 11 = .ok (.ifCond .ne 17, 3) := by decide +kernel
theorem d_12_paste_14 : decode prog_14_method_86_code 14 = .ok (.aload_n 0, 1) := by decide +kernel
theorem d_12_paste_15 : decode prog_14_method_86_code 15 = .ok (.aload_n 0, 1) := by decide +kernel
theorem d_12_paste_16 : decode prog_14_method_86_code 16 = .ok (.iload_n 1, 1) := by decide +kernel
theorem d_12_paste_17 : decode prog_14_method_86_code 17 = .ok (.iload_n 3, 1) := by decide +kernel
theorem d_12_paste_18 : decode prog_14_method_86_code 18 = .ok (.invokevirtual 295, 3) := by decide +kernel
theorem d_12_paste_21 : decode prog_14_method_86_code 21 = .ok (.iconst 2, 1) := by decide +kernel
theorem d_12_paste_22 : decode prog_14_method_86_code 22 = .ok (.invokevirtual 185, 3) := by decide +kernel
theorem d_12_paste_25 : decode prog_14_method_86_code 25 = .ok (.ifCond .eq 5, 3) := by decide +kernel
theorem d_12_paste_28 : decode prog_14_method_86_code 28 = .ok (.iconst 0, 1) := by decide +kernel
theorem d_12_paste_29 : decode prog_14_method_86_code 29 = .ok (.ireturn, 1) := by decide +kernel
theorem d_12_paste_30 : decode prog_14_method_86_code 30 = .ok (.aload_n 0, 1) := by decide +kernel
theorem d_12_paste_31 : decode prog_14_method_86_code 31 = .ok (.iload_n 1, 1) := by decide +kernel
theorem d_12_paste_32 : decode prog_14_method_86_code 32 = .ok (.iload_n 3, 1) := by decide +kernel
theorem d_12_paste_33 : decode prog_14_method_86_code 33 = .ok (.invokevirtual 323, 3) := by decide +kernel
theorem d_12_paste_36 : decode prog_14_method_86_code 36 = .ok (.istore 4, 2) := by decide +kernel
theorem d_12_paste_38 : decode prog_14_method_86_code 38 = .ok (.aload_n 0, 1) := by decide +kernel
theorem d_12_paste_39 : decode prog_14_method_86_code 39 = .ok (.iload 4, 2) := by decide +kernel
theorem d_12_paste_41 : decode prog_14_method_86_code 41 = .ok (.ifCond .eq 7, 3) := by decide +kernel
theorem d_12_paste_44 : decode prog_14_method_86_code 44 = .ok (.iconst (-1), 1) := by decide +kernel
theorem d_12_paste_45 : decode prog_14_method_86_code 45 = .ok (.goto 7, 3) := by decide +kernel
theorem d_12_paste_48 : decode prog_14_method_86_code 48 = .ok (.aload_n 0, 1) := by decide +kernel
theorem d_12_paste_49 : decode prog_14_method_86_code 49 = .ok (.getfield 98, 3) := by decide +kernel
theorem d_12_paste_52 : decode prog_14_method_86_code 52 = .ok (.putfield 27, 3) := by decide +kernel
theorem d_12_paste_55 : decode prog_14_method_86_code 55 = .ok (.aload_n 0, 1) := by decide +kernel
theorem d_12_paste_56 : decode prog_14_method_86_code 56 = .ok (.iload_n 1, 1) := by decide +kernel
theorem d_12_paste_57 : decode prog_14_method_86_code 57 = .ok (.invokestatic 68, 3) := by decide +kernel
theorem d_12_paste_60 : decode prog_14_method_86_code 60 = .ok (.invokevirtual 64, 3) := by decide +kernel
theorem d_12_paste_63 : decode prog_14_method_86_code 63 = .ok (.istore 5, 2) := by decide +kernel
theorem d_12_paste_65 : decode prog_14_method_86_code 65 = .ok (.aload_n 0, 1) := by decide +kernel
theorem d_12_paste_66 : decode prog_14_method_86_code 66 = .ok (.iload 4, 2) := by decide +kernel
theorem d_12_paste_68 : decode prog_14_method_86_code 68 = .ok (.ifCond .ne 7, 3) := by decide +kernel
theorem d_12_paste_71 : decode prog_14_method_86_code 71 = .ok (.iconst 1, 1) := by decide +kernel
theorem d_12_paste_72 : decode prog_14_method_86_code 72 = .ok (.goto 4, 3) := by decide +kernel
theorem d_12_paste_75 : decode prog_14_method_86_code 75 = .ok (.iconst 0, 1) := by decide +kernel
theorem d_12_paste_76 : decode prog_14_method_86_code 76 = .ok (.iconst 3, 1) := by decide +kernel
theorem d_12_paste_77 : decode prog_14_method_86_code 77 = .ok (.invokevirtual 185, 3) := by decide +kernel
theorem d_12_paste_80 : decode prog_14_method_86_code 80 = .ok (.ifCond .ne 39, 3) := by decide +kernel
theorem d_12_paste_83 : decode prog_14_method_86_code 83 = .ok (.aload_n 0, 1) := by decide +kernel
theorem d_12_paste_84 : decode prog_14_method_86_code 84 = .ok (.aload_n 0, 1) := by decide +kernel
theorem d_12_paste_85 : decode prog_14_method_86_code 85 = .ok (.invokevirtual 144, 3) := by decide +kernel
theorem d_12_paste_88 : decode prog_14_method_86_code 88 = .ok (.iconst 0, 1) := by decide +kernel
theorem d_12_paste_89 : decode prog_14_method_86_code 89 = .ok (.iload_n 2, 1) := by decide +kernel
theorem d_12_paste_90 : decode prog_14_method_86_code 90 = .ok (.aload_n 0, 1) := by decide +kernel
theorem d_12_paste_91 : decode prog_14_method_86_code 91 = .ok (.getfield 314, 3) := by decide +kernel
theorem d_12_paste_94 : decode prog_14_method_86_code 94 = .ok (.iadd, 1) := by decide +kernel
theorem d_12_paste_95 : decode prog_14_method_86_code 95 = .ok (.iload 5, 2) := by decide +kernel
theorem d_12_paste_97 : decode prog_14_method_86_code 97 = .ok (.isub, 1) := by decide +kernel
theorem d_12_paste_98 : decode prog_14_method_86_code 98 = .ok (.invokestatic 326, 3) := by decide +kernel
theorem d_12_paste_101 : decode prog_14_method_86_code 101 = .ok (.iadd, 1) := by decide +kernel
theorem d_12_paste_102 : decode prog_14_method_86_code 102 = .ok (.bipush 24, 2) := by decide +kernel
theorem d_12_paste_104 : decode prog_14_method_86_code 104 = .ok (.if_icmp .le 7, 3) := by decide +kernel
theorem d_12_paste_107 : decode prog_14_method_86_code 107 = .ok (.iconst 1, 1) := by decide +kernel
theorem d_12_paste_108 : decode prog_14_method_86_code 108 = .ok (.goto 4, 3) := by decide +kernel
theorem d_12_paste_111 : decode prog_14_method_86_code 111 = .ok (.iconst 0, 1) := by decide +kernel
theorem d_12_paste_112 : decode prog_14_method_86_code 112 = .ok (.iconst 4, 1) := by decide +kernel
theorem d_12_paste_113 : decode prog_14_method_86_code 113 = .ok (.invokevirtual 185, 3) := by decide +kernel
theorem d_12_paste_116 : decode prog_14_method_86_code 116 = .ok (.ifCond .eq 5, 3) := by decide +kernel
theorem d_12_paste_119 : decode prog_14_method_86_code 119 = .ok (.iconst 0, 1) := by decide +kernel
theorem d_12_paste_120 : decode prog_14_method_86_code 120 = .ok (.ireturn, 1) := by decide +kernel
theorem d_12_paste_121 : decode prog_14_method_86_code 121 = .ok (.aload_n 0, 1) := by decide +kernel
theorem d_12_paste_122 : decode prog_14_method_86_code 122 = .ok (.getfield 36, 3) := by decide +kernel
theorem d_12_paste_125 : decode prog_14_method_86_code 125 = .ok (.iconst 0, 1) := by decide +kernel
theorem d_12_paste_126 : decode prog_14_method_86_code 126 = .ok (.iconst 0, 1) := by decide +kernel
theorem d_12_paste_127 : decode prog_14_method_86_code 127 = .ok (.iastore, 1) := by decide +kernel
theorem d_12_paste_128 : decode prog_14_method_86_code 128 = .ok (.aload_n 0, 1) := by decide +kernel
theorem d_12_paste_129 : decode prog_14_method_86_code 129 = .ok (.getfield 13, 3) := by decide +kernel
theorem d_12_paste_132 : decode prog_14_method_86_code 132 = .ok (.iconst 2, 1) := by decide +kernel
theorem d_12_paste_133 : decode prog_14_method_86_code 133 = .ok (.iaload, 1) := by decide +kernel
theorem d_12_paste_134 : decode prog_14_method_86_code 134 = .ok (.istore 6, 2) := by decide +kernel
theorem d_12_paste_136 : decode prog_14_method_86_code 136 = .ok (.iconst 0, 1) := by decide +kernel
theorem d_12_paste_137 : decode prog_14_method_86_code 137 = .ok (.istore 7, 2) := by decide +kernel
theorem d_12_paste_139 : decode prog_14_method_86_code 139 = .ok (.iload 7, 2) := by decide +kernel
theorem d_12_paste_141 : decode prog_14_method_86_code 141 = .ok (.aload_n 0, 1) := by decide +kernel
theorem d_12_paste_142 : decode prog_14_method_86_code 142 = .ok (.getfield 314, 3) := by decide +kernel
theorem d_12_paste_145 : decode prog_14_method_86_code 145 = .ok (.if_icmp .ge 63, 3) := by decide +kernel
theorem d_12_paste_148 : decode prog_14_method_86_code 148 = .ok (.iload_n 2, 1) := by decide +kernel
theorem d_12_paste_149 : decode prog_14_method_86_code 149 = .ok (.iload 7, 2) := by decide +kernel
theorem d_12_paste_151 : decode prog_14_method_86_code 151 = .ok (.iadd, 1) := by decide +kernel
theorem d_12_paste_152 : decode prog_14_method_86_code 152 = .ok (.iload 5, 2) := by decide +kernel
theorem d_12_paste_154 : decode prog_14_method_86_code 154 = .ok (.if_icmp .lt 28, 3) := by decide +kernel
theorem d_12_paste_157 : decode prog_14_method_86_code 157 = .ok (.aload_n 0, 1) := by decide +kernel
theorem d_12_paste_158 : decode prog_14_method_86_code 158 = .ok (.invokevirtual 147, 3) := by decide +kernel
theorem d_12_paste_161 : decode prog_14_method_86_code 161 = .ok (.istore 8, 2) := by decide +kernel
theorem d_12_paste_163 : decode prog_14_method_86_code 163 = .ok (.aload_n 0, 1) := by decide +kernel
theorem d_12_paste_164 : decode prog_14_method_86_code 164 = .ok (.sipush 273, 3) := by decide +kernel
theorem d_12_paste_167 : decode prog_14_method_86_code 167 = .ok (.iload 8, 2) := by decide +kernel
theorem d_12_paste_169 : decode prog_14_method_86_code 169 = .ok (.invokevirtual 153, 3) := by decide +kernel
theorem d_12_paste_172 : decode prog_14_method_86_code 172 = .ok (.aload_n 0, 1) := by decide +kernel
theorem d_12_paste_173 : decode prog_14_method_86_code 173 = .ok (.iload_n 1, 1) := by decide +kernel
theorem d_12_paste_174 : decode prog_14_method_86_code 174 = .ok (.invokestatic 68, 3) := by decide +kernel
theorem d_12_paste_177 : decode prog_14_method_86_code 177 = .ok (.iload 8, 2) := by decide +kernel
theorem d_12_paste_179 : decode prog_14_method_86_code 179 = .ok (.invokevirtual 153, 3) := by decide +kernel
theorem d_12_paste_208 : decode prog_14_method_86_code 208 = .ok (.iload 6, 2) := by decide +kernel
theorem d_12_paste_210 : decode prog_14_method_86_code 210 = .ok (.istore 7, 2) := by decide +kernel
theorem d_12_paste_212 : decode prog_14_method_86_code 212 = .ok (.iload 7, 2) := by decide +kernel
theorem d_12_paste_214 : decode prog_14_method_86_code 214 = .ok (.aload_n 0, 1) := by decide +kernel
theorem d_12_paste_215 : decode prog_14_method_86_code 215 = .ok (.getfield 13, 3) := by decide +kernel
theorem d_12_paste_218 : decode prog_14_method_86_code 218 = .ok (.iconst 2, 1) := by decide +kernel
theorem d_12_paste_219 : decode prog_14_method_86_code 219 = .ok (.iaload, 1) := by decide +kernel
theorem d_12_paste_220 : decode prog_14_method_86_code 220 = .ok (.if_icmp .ge 52, 3) := by decide +kernel
theorem d_12_paste_223 : decode prog_14_method_86_code 223 = .ok (.iconst 0, 1) := by decide +kernel
theorem d_12_paste_224 : decode prog_14_method_86_code 224 = .ok (.istore 8, 2) := by decide +kernel
theorem d_12_paste_226 : decode prog_14_method_86_code 226 = .ok (.iload 8, 2) := by decide +kernel
theorem d_12_paste_228 : decode prog_14_method_86_code 228 = .ok (.iconst 4, 1) := by decide +kernel
theorem d_12_paste_229 : decode prog_14_method_86_code 229 = .ok (.if_icmp .ge 37, 3) := by decide +kernel
theorem d_12_paste_232 : decode prog_14_method_86_code 232 = .ok (.iload 8, 2) := by decide +kernel
theorem d_12_paste_234 : decode prog_14_method_86_code 234 = .ok (.iload_n 1, 1) := by decide +kernel
theorem d_12_paste_235 : decode prog_14_method_86_code 235 = .ok (.if_icmp .eq 25, 3) := by decide +kernel
theorem d_12_paste_238 : decode prog_14_method_86_code 238 = .ok (.aload_n 0, 1) := by decide +kernel
theorem d_12_paste_239 : decode prog_14_method_86_code 239 = .ok (.iload 8, 2) := by decide +kernel
theorem d_12_paste_241 : decode prog_14_method_86_code 241 = .ok (.iload 7, 2) := by decide +kernel
theorem d_12_paste_243 : decode prog_14_method_86_code 243 = .ok (.invokevirtual 157, 3) := by decide +kernel
theorem d_12_paste_246 : decode prog_14_method_86_code 246 = .ok (.ifCond .eq 14, 3) := by decide +kernel
theorem d_12_paste_249 : decode prog_14_method_86_code 249 = .ok (.aload_n 0, 1) := by decide +kernel
theorem d_12_paste_250 : decode prog_14_method_86_code 250 = .ok (.iload 8, 2) := by decide +kernel
theorem d_12_paste_252 : decode prog_14_method_86_code 252 = .ok (.invokestatic 68, 3) := by decide +kernel
theorem d_12_paste_255 : decode prog_14_method_86_code 255 = .ok (.iload 7, 2) := by decide +kernel
theorem d_12_paste_257 : decode prog_14_method_86_code 257 = .ok (.invokevirtual 153, 3) := by decide +kernel
theorem d_12_paste_260 : decode prog_14_method_86_code 260 = .ok (.iinc 8 1, 3) := by decide +kernel
theorem d_12_paste_263 : decode prog_14_method_86_code 263 = .ok (.goto (-37), 3) := by decide +kernel
theorem d_12_paste_266 : decode prog_14_method_86_code 266 = .ok (.iinc 7 1, 3) := by decide +kernel
theorem d_12_paste_269 : decode prog_14_method_86_code 269 = .ok (.goto (-57), 3) := by decide +kernel
theorem d_12_paste_272 : decode prog_14_method_86_code 272 = .ok (.aload_n 0, 1) := by decide +kernel
theorem d_12_paste_273 : decode prog_14_method_86_code 273 = .ok (.iload_n 1, 1) := by decide +kernel
theorem d_12_paste_274 : decode prog_14_method_86_code 274 = .ok (.invokevirtual 305, 3) := by decide +kernel
theorem d_12_paste_277 : decode prog_14_method_86_code 277 = .ok (.ireturn, 1) := by decide +kernel
theorem d_12_stands_0 : decode prog_14_method_87_code 0 = .ok (.aload_n 0, 1) := by decide +kernel
theorem d_12_stands_1 : decode prog_14_method_87_code 1 = .ok (.aload_n 0, 1) := by decide +kernel
theorem d_12_stands_2 : decode prog_14_method_87_code 2 = .ok (.getfield 13, 3) := by decide +kernel
theorem d_12_stands_5 : decode prog_14_method_87_code 5 = .ok (.iload_n 1, 1) := by decide +kernel
theorem d_12_stands_6 : decode prog_14_method_87_code 6 = .ok (.iaload, 1) := by decide +kernel
theorem d_12_stands_7 : decode prog_14_method_87_code 7 = .ok (.invokevirtual 81, 3) := by decide +kernel
theorem d_12_stands_10 : decode prog_14_method_87_code 10 = .ok (.istore_n 2, 1) := by decide +kernel
theorem d_12_stands_11 : decode prog_14_method_87_code 11 = .ok (.iload_n 2, 1) := by decide +kernel
theorem d_12_stands_12 : decode prog_14_method_87_code 12 = .ok (.iconst (-1), 1) := by decide +kernel
theorem d_12_stands_13 : decode prog_14_method_87_code 13 = .ok (.if_icmp .eq 35, 3) := by decide +kernel
theorem d_12_stands_16 : decode prog_14_method_87_code 16 = .ok (.aload_n 0, 1) := by decide +kernel
theorem d_12_stands_17 : decode prog_14_method_87_code 17 = .ok (.getfield 13, 3) := by decide +kernel
theorem d_12_stands_20 : decode prog_14_method_87_code 20 = .ok (.iload_n 2, 1) := by decide +kernel
theorem d_12_stands_21 : decode prog_14_method_87_code 21 = .ok (.iconst 1, 1) := by decide +kernel
theorem d_12_stands_22 : decode prog_14_method_87_code 22 = .ok (.iadd, 1) := by decide +kernel
theorem d_12_stands_23 : decode prog_14_method_87_code 23 = .ok (.aload_n 0, 1) := by decide +kernel
theorem d_12_stands_24 : decode prog_14_method_87_code 24 = .ok (.getfield 13, 3) := by decide +kernel
theorem d_12_stands_27 : decode prog_14_method_87_code 27 = .ok (.iload_n 1, 1) := by decide +kernel
theorem d_12_stands_28 : decode prog_14_method_87_code 28 = .ok (.iconst 1, 1) := by decide +kernel
theorem d_12_stands_29 : decode prog_14_method_87_code 29 = .ok (.iadd, 1) := by decide +kernel
theorem d_12_stands_30 : decode prog_14_method_87_code 30 = .ok (.iaload, 1) := by decide +kernel
theorem d_12_stands_31 : decode prog_14_method_87_code 31 = .ok (.iadd, 1) := by decide +kernel
theorem d_12_stands_32 : decode prog_14_method_87_code 32 = .ok (.iaload, 1) := by decide +kernel
theorem d_12_stands_33 : decode prog_14_method_87_code 33 = .ok (.aload_n 0, 1) := by decide +kernel
theorem d_12_stands_34 : decode prog_14_method_87_code 34 = .ok (.getfield 13, 3) := by decide +kernel
theorem d_12_stands_37 : decode prog_14_method_87_code 37 = .ok (.iload_n 1, 1) := by decide +kernel
theorem d_12_stands_38 : decode prog_14_method_87_code 38 = .ok (.iconst 3, 1) := by decide +kernel
theorem d_12_stands_39 : decode prog_14_method_87_code 39 = .ok (.iadd, 1) := by decide +kernel
theorem d_12_stands_40 : decode prog_14_method_87_code 40 = .ok (.iaload, 1) := by decide +kernel
theorem d_12_stands_41 : decode prog_14_method_87_code 41 = .ok (.if_icmp .ne 7, 3) := by decide +kernel
theorem d_12_stands_44 : decode prog_14_method_87_code 44 = .ok (.iconst 1, 1) := by decide +kernel
theorem d_12_stands_45 : decode prog_14_method_87_code 45 = .ok (.goto 4, 3) := by decide +kernel
theorem d_12_stands_48 : decode prog_14_method_87_code 48 = .ok (.iconst 0, 1) := by decide +kernel
theorem d_12_stands_49 : decode prog_14_method_87_code 49 = .ok (.ireturn, 1) := by decide +kernel
theorem d_12_firstBar_0 : decode prog_14_method_88_code 0 = .ok (.iconst 0, 1) := by decide +kernel
theorem d_12_firstBar_1 : decode prog_14_method_88_code 1 = .ok (.istore_n 2, 1) := by decide +kernel
theorem d_12_firstBar_2 : decode prog_14_method_88_code 2 = .ok (.iload_n 2, 1) := by decide +kernel
theorem d_12_firstBar_3 : decode prog_14_method_88_code 3 = .ok (.aload_n 0, 1) := by decide +kernel
theorem d_12_firstBar_4 : decode prog_14_method_88_code 4 = .ok (.getfield 13, 3) := by decide +kernel
theorem d_12_firstBar_7 : decode prog_14_method_88_code 7 = .ok (.iload_n 1, 1) := by decide +kernel
theorem d_12_firstBar_8 : decode prog_14_method_88_code 8 = .ok (.iaload, 1) := by decide +kernel
theorem d_12_firstBar_9 : decode prog_14_method_88_code 9 = .ok (.if_icmp .ge 23, 3) := by decide +kernel
theorem d_12_firstBar_12 : decode prog_14_method_88_code 12 = .ok (.aload_n 0, 1) := by decide +kernel
theorem d_12_firstBar_13 : decode prog_14_method_88_code 13 = .ok (.iload_n 1, 1) := by decide +kernel
theorem d_12_firstBar_14 : decode prog_14_method_88_code 14 = .ok (.iconst 1, 1) := by decide +kernel
theorem d_12_firstBar_15 : decode prog_14_method_88_code 15 = .ok (.iadd, 1) := by decide +kernel
theorem d_12_firstBar_16 : decode prog_14_method_88_code 16 = .ok (.iconst 4, 1) := by decide +kernel
theorem d_12_firstBar_17 : decode prog_14_method_88_code 17 = .ok (.iload_n 2, 1) := by decide +kernel
theorem d_12_firstBar_18 : decode prog_14_method_88_code 18 = .ok (.imul, 1) := by decide +kernel
theorem d_12_firstBar_19 : decode prog_14_method_88_code 19 = .ok (.iadd, 1) := by decide +kernel
theorem d_12_firstBar_20 : decode prog_14_method_88_code 20 = .ok (.invokevirtual 332, 3) := by decide +kernel
theorem d_12_firstBar_23 : decode prog_14_method_88_code 23 = .ok (.ifCond .eq 9, 3) := by decide +kernel
theorem d_12_firstBar_26 : decode prog_14_method_88_code 26 = .ok (.iinc 2 1, 3) := by decide +kernel
theorem d_12_firstBar_29 : decode prog_14_method_88_code 29 = .ok (.goto (-27), 3) := by decide +kernel
theorem d_12_firstBar_32 : decode prog_14_method_88_code 32 = .ok (.iload_n 2, 1) := by decide +kernel
theorem d_12_firstBar_33 : decode prog_14_method_88_code 33 = .ok (.aload_n 0, 1) := by decide +kernel
theorem d_12_firstBar_34 : decode prog_14_method_88_code 34 = .ok (.getfield 13, 3) := by decide +kernel
theorem d_12_firstBar_37 : decode prog_14_method_88_code 37 = .ok (.iload_n 1, 1) := by decide +kernel
theorem d_12_firstBar_38 : decode prog_14_method_88_code 38 = .ok (.iaload, 1) := by decide +kernel
theorem d_12_firstBar_39 : decode prog_14_method_88_code 39 = .ok (.if_icmp .ge 13, 3) := by decide +kernel
theorem d_12_firstBar_42 : decode prog_14_method_88_code 42 = .ok (.iload_n 1, 1) := by decide +kernel
theorem d_12_firstBar_43 : decode prog_14_method_88_code 43 = .ok (.iconst 1, 1) := by decide +kernel
theorem d_12_firstBar_44 : decode prog_14_method_88_code 44 = .ok (.iadd, 1) := by decide +kernel
theorem d_12_firstBar_45 : decode prog_14_method_88_code 45 = .ok (.iconst 4, 1) := by decide +kernel
theorem d_12_firstBar_46 : decode prog_14_method_88_code 46 = .ok (.iload_n 2, 1) := by decide +kernel
theorem d_12_firstBar_47 : decode prog_14_method_88_code 47 = .ok (.imul, 1) := by decide +kernel
theorem d_12_firstBar_48 : decode prog_14_method_88_code 48 = .ok (.iadd, 1) := by decide +kernel
theorem d_12_firstBar_49 : decode prog_14_method_88_code 49 = .ok (.goto 4, 3) := by decide +kernel
theorem d_12_firstBar_52 : decode prog_14_method_88_code 52 = .ok (.iconst (-1), 1) := by decide +kernel
theorem d_12_firstBar_53 : decode prog_14_method_88_code 53 = .ok (.ireturn, 1) := by decide +kernel
theorem d_12_barred_0 : decode prog_14_method_89_code 0 = .ok (.aload_n 0, 1) := by decide +kernel
theorem d_12_barred_1 : decode prog_14_method_89_code 1 = .ok (.iconst 0, 1) := by decide +kernel
theorem d_12_barred_2 : decode prog_14_method_89_code 2 = .ok (.putfield 3, 3) := by decide +kernel
theorem d_12_barred_5 : decode prog_14_method_89_code 5 = .ok (.aload_n 0, 1) := by decide +kernel
theorem d_12_barred_6 : decode prog_14_method_89_code 6 = .ok (.iload_n 1, 1) := by decide +kernel
theorem d_12_barred_7 : decode prog_14_method_89_code 7 = .ok (.invokestatic 239, 3) := by decide +kernel
theorem d_12_barred_10 : decode prog_14_method_89_code 10 = .ok (.iconst 1, 1) := by decide +kernel
theorem d_12_barred_11 : decode prog_14_method_89_code 11 = .ok (.invokevirtual 185, 3) := by decide +kernel
theorem d_12_barred_14 : decode prog_14_method_89_code 14 = .ok (.ifCond .eq 5, 3) := by decide +kernel
theorem d_12_barred_17 : decode prog_14_method_89_code 17 = .ok (.iconst 0, 1) := by decide +kernel
theorem d_12_barred_18 : decode prog_14_method_89_code 18 = .ok (.ireturn, 1) := by decide +kernel
theorem d_12_barred_19 : decode prog_14_method_89_code 19 = .ok (.aload_n 0, 1) := by decide +kernel
theorem d_12_barred_20 : decode prog_14_method_89_code 20 = .ok (.getfield 13, 3) := by decide +kernel
theorem d_12_barred_23 : decode prog_14_method_89_code 23 = .ok (.iload_n 1, 1) := by decide +kernel
theorem d_12_barred_24 : decode prog_14_method_89_code 24 = .ok (.sipush 185, 3) := by decide +kernel
theorem d_12_barred_27 : decode prog_14_method_89_code 27 = .ok (.invokestatic 52, 3) := by decide +kernel
theorem d_12_barred_30 : decode prog_14_method_89_code 30 = .ok (.iaload, 1) := by decide +kernel
theorem d_12_barred_31 : decode prog_14_method_89_code 31 = .ok (.istore_n 2, 1) := by decide +kernel
theorem d_12_barred_32 : decode prog_14_method_89_code 32 = .ok (.iload_n 2, 1) := by decide +kernel
theorem d_12_barred_33 : decode prog_14_method_89_code 33 = .ok (.ifCond .ne 7, 3) := by decide +kernel
theorem d_12_barred_36 : decode prog_14_method_89_code 36 = .ok (.iconst (-1), 1) := by decide +kernel
theorem d_12_barred_37 : decode prog_14_method_89_code 37 = .ok (.goto 14, 3) := by decide +kernel
theorem d_12_barred_40 : decode prog_14_method_89_code 40 = .ok (.aload_n 0, 1) := by decide +kernel
theorem d_12_barred_41 : decode prog_14_method_89_code 41 = .ok (.iload_n 1, 1) := by decide +kernel
theorem d_12_barred_42 : decode prog_14_method_89_code 42 = .ok (.iload_n 2, 1) := by decide +kernel
theorem d_12_barred_43 : decode prog_14_method_89_code 43 = .ok (.iconst 1, 1) := by decide +kernel
theorem d_12_barred_44 : decode prog_14_method_89_code 44 = .ok (.isub, 1) := by decide +kernel
theorem d_12_barred_45 : decode prog_14_method_89_code 45 = .ok (.invokestatic 282, 3) := by decide +kernel
theorem d_12_barred_48 : decode prog_14_method_89_code 48 = .ok (.invokevirtual 335, 3) := by decide +kernel
theorem d_12_barred_51 : decode prog_14_method_89_code 51 = .ok (.istore_n 3, 1) := by decide +kernel
theorem d_12_barred_52 : decode prog_14_method_89_code 52 = .ok (.iload_n 3, 1) := by decide +kernel
theorem d_12_barred_53 : decode prog_14_method_89_code 53 = .ok (.iconst (-1), 1) := by decide +kernel
theorem d_12_barred_54 : decode prog_14_method_89_code 54 = .ok (.if_icmp .ne 7, 3) := by decide +kernel
theorem d_12_barred_57 : decode prog_14_method_89_code 57 = .ok (.iconst (-1), 1) := by decide +kernel
theorem d_12_barred_58 : decode prog_14_method_89_code 58 = .ok (.goto 9, 3) := by decide +kernel
theorem d_12_barred_61 : decode prog_14_method_89_code 61 = .ok (.aload_n 0, 1) := by decide +kernel
theorem d_12_barred_62 : decode prog_14_method_89_code 62 = .ok (.getfield 13, 3) := by decide +kernel
theorem d_12_barred_65 : decode prog_14_method_89_code 65 = .ok (.iload_n 3, 1) := by decide +kernel
theorem d_12_barred_66 : decode prog_14_method_89_code 66 = .ok (.iaload, 1) := by decide +kernel
theorem d_12_barred_67 : decode prog_14_method_89_code 67 = .ok (.ireturn, 1) := by decide +kernel
theorem d_12_undo_0 : decode prog_14_method_90_code 0 = .ok (.aload_n 0, 1) := by decide +kernel
theorem d_12_undo_1 : decode prog_14_method_90_code 1 = .ok (.iconst 0, 1) := by decide +kernel
theorem d_12_undo_2 : decode prog_14_method_90_code 2 = .ok (.putfield 3, 3) := by decide +kernel
theorem d_12_undo_5 : decode prog_14_method_90_code 5 = .ok (.aload_n 0, 1) := by decide +kernel
theorem d_12_undo_6 : decode prog_14_method_90_code 6 = .ok (.iload_n 1, 1) := by decide +kernel
theorem d_12_undo_7 : decode prog_14_method_90_code 7 = .ok (.invokestatic 239, 3) := by decide +kernel
theorem d_12_undo_10 : decode prog_14_method_90_code 10 = .ok (.iconst 1, 1) := by decide +kernel
theorem d_12_undo_11 : decode prog_14_method_90_code 11 = .ok (.invokevirtual 185, 3) := by decide +kernel
theorem d_12_undo_14 : decode prog_14_method_90_code 14 = .ok (.ifCond .eq 5, 3) := by decide +kernel
theorem d_12_undo_17 : decode prog_14_method_90_code 17 = .ok (.iconst 0, 1) := by decide +kernel
theorem d_12_undo_18 : decode prog_14_method_90_code 18 = .ok (.ireturn, 1) := by decide +kernel
theorem d_12_undo_19 : decode prog_14_method_90_code 19 = .ok (.aload_n 0, 1) := by decide +kernel
theorem d_12_undo_20 : decode prog_14_method_90_code 20 = .ok (.getfield 13, 3) := by decide +kernel
theorem d_12_undo_23 : decode prog_14_method_90_code 23 = .ok (.iload_n 1, 1) := by decide +kernel
theorem d_12_undo_24 : decode prog_14_method_90_code 24 = .ok (.sipush 185, 3) := by decide +kernel
theorem d_12_undo_27 : decode prog_14_method_90_code 27 = .ok (.invokestatic 52, 3) := by decide +kernel
theorem d_12_undo_30 : decode prog_14_method_90_code 30 = .ok (.iaload, 1) := by decide +kernel
theorem d_12_undo_31 : decode prog_14_method_90_code 31 = .ok (.istore_n 2, 1) := by decide +kernel
theorem d_12_undo_32 : decode prog_14_method_90_code 32 = .ok (.aload_n 0, 1) := by decide +kernel
theorem d_12_undo_33 : decode prog_14_method_90_code 33 = .ok (.iload_n 2, 1) := by decide +kernel
theorem d_12_undo_34 : decode prog_14_method_90_code 34 = .ok (.ifCond .eq 18, 3) := by decide +kernel
theorem d_12_undo_37 : decode prog_14_method_90_code 37 = .ok (.aload_n 0, 1) := by decide +kernel
theorem d_12_undo_38 : decode prog_14_method_90_code 38 = .ok (.iload_n 1, 1) := by decide +kernel
theorem d_12_undo_39 : decode prog_14_method_90_code 39 = .ok (.iload_n 2, 1) := by decide +kernel
theorem d_12_undo_40 : decode prog_14_method_90_code 40 = .ok (.iconst 1, 1) := by decide +kernel
theorem d_12_undo_41 : decode prog_14_method_90_code 41 = .ok (.isub, 1) := by decide +kernel
theorem d_12_undo_42 : decode prog_14_method_90_code 42 = .ok (.invokestatic 282, 3) := by decide +kernel
theorem d_12_undo_45 : decode prog_14_method_90_code 45 = .ok (.invokevirtual 335, 3) := by decide +kernel
theorem d_12_undo_48 : decode prog_14_method_90_code 48 = .ok (.iconst (-1), 1) := by decide +kernel
theorem d_12_undo_49 : decode prog_14_method_90_code 49 = .ok (.if_icmp .eq 7, 3) := by decide +kernel
theorem d_12_undo_52 : decode prog_14_method_90_code 52 = .ok (.iconst 1, 1) := by decide +kernel
theorem d_12_undo_53 : decode prog_14_method_90_code 53 = .ok (.goto 4, 3) := by decide +kernel
theorem d_12_undo_56 : decode prog_14_method_90_code 56 = .ok (.iconst 0, 1) := by decide +kernel
theorem d_12_undo_57 : decode prog_14_method_90_code 57 = .ok (.iconst 2, 1) := by decide +kernel
theorem d_12_undo_58 : decode prog_14_method_90_code 58 = .ok (.invokevirtual 185, 3) := by decide +kernel
theorem d_12_undo_61 : decode prog_14_method_90_code 61 = .ok (.ifCond .eq 5, 3) := by decide +kernel
theorem d_12_undo_64 : decode prog_14_method_90_code 64 = .ok (.iconst 0, 1) := by decide +kernel
theorem d_12_undo_65 : decode prog_14_method_90_code 65 = .ok (.ireturn, 1) := by decide +kernel
theorem d_12_undo_66 : decode prog_14_method_90_code 66 = .ok (.iload_n 1, 1) := by decide +kernel
theorem d_12_undo_67 : decode prog_14_method_90_code 67 = .ok (.iload_n 2, 1) := by decide +kernel
theorem d_12_undo_68 : decode prog_14_method_90_code 68 = .ok (.iconst 1, 1) := by decide +kernel
theorem d_12_undo_69 : decode prog_14_method_90_code 69 = .ok (.isub, 1) := by decide +kernel
theorem d_12_undo_70 : decode prog_14_method_90_code 70 = .ok (.invokestatic 282, 3) := by decide +kernel
theorem d_12_undo_73 : decode prog_14_method_90_code 73 = .ok (.istore_n 3, 1) := by decide +kernel
theorem d_12_undo_74 : decode prog_14_method_90_code 74 = .ok (.aload_n 0, 1) := by decide +kernel
theorem d_12_undo_75 : decode prog_14_method_90_code 75 = .ok (.getfield 13, 3) := by decide +kernel
theorem d_12_undo_78 : decode prog_14_method_90_code 78 = .ok (.iload_n 1, 1) := by decide +kernel
theorem d_12_undo_79 : decode prog_14_method_90_code 79 = .ok (.sipush 185, 3) := by decide +kernel
theorem d_12_undo_82 : decode prog_14_method_90_code 82 = .ok (.invokestatic 52, 3) := by decide +kernel
theorem d_12_undo_85 : decode prog_14_method_90_code 85 = .ok (.iload_n 2, 1) := by decide +kernel
theorem d_12_undo_86 : decode prog_14_method_90_code 86 = .ok (.iconst 1, 1) := by decide +kernel
theorem d_12_undo_87 : decode prog_14_method_90_code 87 = .ok (.isub, 1) := by decide +kernel
theorem d_12_undo_88 : decode prog_14_method_90_code 88 = .ok (.iastore, 1) := by decide +kernel
theorem d_12_undo_89 : decode prog_14_method_90_code 89 = .ok (.aload_n 0, 1) := by decide +kernel
theorem d_12_undo_90 : decode prog_14_method_90_code 90 = .ok (.getfield 36, 3) := by decide +kernel
theorem d_12_undo_93 : decode prog_14_method_90_code 93 = .ok (.iconst 0, 1) := by decide +kernel
theorem d_12_undo_94 : decode prog_14_method_90_code 94 = .ok (.iconst 0, 1) := by decide +kernel
theorem d_12_undo_95 : decode prog_14_method_90_code 95 = .ok (.iastore, 1) := by decide +kernel
theorem d_12_undo_96 : decode prog_14_method_90_code 96 = .ok (.iconst 0, 1) := by decide +kernel
theorem d_12_undo_97 : decode prog_14_method_90_code 97 = .ok (.istore 4, 2) := by decide +kernel
theorem d_12_undo_99 : decode prog_14_method_90_code 99 = .ok (.iload 4, 2) := by decide +kernel
theorem d_12_undo_101 : decode prog_14_method_90_code 101 = .ok (.aload_n 0, 1) := by decide +kernel
theorem d_12_undo_102 : decode prog_14_method_90_code 102 = .ok (.getfield 13, 3) := by decide +kernel
theorem d_12_undo_105 : decode prog_14_method_90_code 105 = .ok (.iload_n 3, 1) := by decide +kernel
theorem d_12_undo_106 : decode prog_14_method_90_code 106 = .ok (.iaload, 1) := by decide +kernel
theorem d_12_undo_107 : decode prog_14_method_90_code 107 = .ok (.if_icmp .ge 49, 3) := by decide +kernel
theorem d_12_undo_110 : decode prog_14_method_90_code 110 = .ok (.iload_n 3, 1) := by decide +kernel
theorem d_12_undo_111 : decode prog_14_method_90_code 111 = .ok (.iconst 1, 1) := by decide +kernel
theorem d_12_undo_112 : decode prog_14_method_90_code 112 = .ok (.iadd, 1) := by decide +kernel
theorem d_12_undo_113 : decode prog_14_method_90_code 113 = .ok (.iconst 4, 1) := by decide +kernel
theorem d_12_undo_114 : decode prog_14_method_90_code 114 = .ok (.iload 4, 2) := by decide +kernel
theorem d_12_undo_116 : decode prog_14_method_90_code 116 = .ok (.imul, 1) := by decide +kernel
theorem d_12_undo_117 : decode prog_14_method_90_code 117 = .ok (.iadd, 1) := by decide +kernel
theorem d_12_undo_118 : decode prog_14_method_90_code 118 = .ok (.istore 5, 2) := by decide +kernel
theorem d_12_undo_120 : decode prog_14_method_90_code 120 = .ok (.aload_n 0, 1) := by decide +kernel
theorem d_12_undo_121 : decode prog_14_method_90_code 121 = .ok (.iload_n 1, 1) := by decide +kernel
theorem d_12_undo_122 : decode prog_14_method_90_code 122 = .ok (.aload_n 0, 1) := by decide +kernel
theorem d_12_undo_123 : decode prog_14_method_90_code 123 = .ok (.getfield 13, 3) := by decide +kernel
theorem d_12_undo_126 : decode prog_14_method_90_code 126 = .ok (.iload 5, 2) := by decide +kernel
theorem d_12_undo_128 : decode prog_14_method_90_code 128 = .ok (.iaload, 1) := by decide +kernel
theorem d_12_undo_129 : decode prog_14_method_90_code 129 = .ok (.aload_n 0, 1) := by decide +kernel
theorem d_12_undo_130 : decode prog_14_method_90_code 130 = .ok (.getfield 13, 3) := by decide +kernel
theorem d_12_undo_133 : decode prog_14_method_90_code 133 = .ok (.iload 5, 2) := by decide +kernel
theorem d_12_undo_135 : decode prog_14_method_90_code 135 = .ok (.iconst 1, 1) := by decide +kernel
theorem d_12_undo_136 : decode prog_14_method_90_code 136 = .ok (.iadd, 1) := by decide +kernel
theorem d_12_undo_137 : decode prog_14_method_90_code 137 = .ok (.iaload, 1) := by decide +kernel
theorem d_12_undo_138 : decode prog_14_method_90_code 138 = .ok (.aload_n 0, 1) := by decide +kernel
theorem d_12_undo_139 : decode prog_14_method_90_code 139 = .ok (.getfield 13, 3) := by decide +kernel
theorem d_12_undo_142 : decode prog_14_method_90_code 142 = .ok (.iload 5, 2) := by decide +kernel
theorem d_12_undo_144 : decode prog_14_method_90_code 144 = .ok (.iconst 2, 1) := by decide +kernel
theorem d_12_undo_145 : decode prog_14_method_90_code 145 = .ok (.iadd, 1) := by decide +kernel
theorem d_12_undo_146 : decode prog_14_method_90_code 146 = .ok (.iaload, 1) := by decide +kernel
theorem d_12_undo_147 : decode prog_14_method_90_code 147 = .ok (.invokevirtual 301, 3) := by decide +kernel
theorem d_12_undo_150 : decode prog_14_method_90_code 150 = .ok (.iinc 4 1, 3) := by decide +kernel
theorem d_12_undo_153 : decode prog_14_method_90_code 153 = .ok (.goto (-54), 3) := by decide +kernel
theorem d_12_undo_156 : decode prog_14_method_90_code 156 = .ok (.aload_n 0, 1) := by decide +kernel
theorem d_12_undo_157 : decode prog_14_method_90_code 157 = .ok (.getfield 36, 3) := by decide +kernel
theorem d_12_undo_160 : decode prog_14_method_90_code 160 = .ok (.iconst 0, 1) := by decide +kernel
theorem d_12_undo_161 : decode prog_14_method_90_code 161 = .ok (.iaload, 1) := by decide +kernel
theorem d_12_undo_162 : decode prog_14_method_90_code 162 = .ok (.ireturn, 1) := by decide +kernel
theorem d_12_add_0 : decode prog_14_method_91_code 0 = .ok (.aload_n 0, 1) := by decide +kernel
theorem d_12_add_1 : decode prog_14_method_91_code 1 = .ok (.iconst 0, 1) := by decide +kernel
theorem d_12_add_2 : decode prog_14_method_91_code 2 = .ok (.putfield 3, 3) := by decide +kernel
theorem d_12_add_5 : decode prog_14_method_91_code 5 = .ok (.aload_n 0, 1) := by decide +kernel
theorem d_12_add_6 : decode prog_14_method_91_code 6 = .ok (.iload_n 1, 1) := by decide +kernel
theorem d_12_add_7 : decode prog_14_method_91_code 7 = .ok (.invokestatic 239, 3) := by decide +kernel
theorem d_12_add_10 : decode prog_14_method_91_code 10 = .ok (.ifCond .ne 17, 3) := by decide +kernel
theorem d_12_add_13 : decode prog_14_method_91_code 13 = .ok (.iload_n 2, 1) := by decide +kernel
theorem d_12_add_14 : decode prog_14_method_91_code 14 = .ok (.iconst (-1), 1) := by decide +kernel
theorem d_12_add_15 : decode prog_14_method_91_code 15 = .ok (.if_icmp .eq 16, 3) := by decide +kernel
theorem d_12_add_18 : decode prog_14_method_91_code 18 = .ok (.aload_n 0, 1) := by decide +kernel
theorem d_12_add_19 : decode prog_14_method_91_code 19 = .ok (.iload_n 1, 1) := by decide +kernel
theorem d_12_add_20 : decode prog_14_method_91_code 20 = .ok (.iload_n 2, 1) := by decide +kernel
theorem d_12_add_21 : decode prog_14_method_91_code 21 = .ok (.invokevirtual 285, 3) := by decide +kernel
theorem d_12_add_24 : decode prog_14_method_91_code 24 = .ok (.ifCond .eq 7, 3) := by decide +kernel
theorem d_12_add_27 : decode prog_14_method_91_code 27 = .ok (.iconst 1, 1) := by decide +kernel
theorem d_12_add_28 : decode prog_14_method_91_code 28 = .ok (.goto 4, 3) := by decide +kernel
theorem d_12_add_31 : decode prog_14_method_91_code 31 = .ok (.iconst 0, 1) := by decide +kernel
theorem d_12_add_32 : decode prog_14_method_91_code 32 = .ok (.iconst 1, 1) := by decide +kernel
theorem d_12_add_33 : decode prog_14_method_91_code 33 = .ok (.invokevirtual 185, 3) := by decide +kernel
theorem d_12_add_36 : decode prog_14_method_91_code 36 = .ok (.ifCond .ne 32, 3) := by decide +kernel
theorem d_12_add_39 : decode prog_14_method_91_code 39 = .ok (.aload_n 0, 1) := by decide +kernel
theorem d_12_add_40 : decode prog_14_method_91_code 40 = .ok (.aload_n 0, 1) := by decide +kernel
theorem d_12_add_41 : decode prog_14_method_91_code 41 = .ok (.invokevirtual 60, 3) := by decide +kernel
theorem d_12_add_44 : decode prog_14_method_91_code 44 = .ok (.ifCond .eq 12, 3) := by decide +kernel
theorem d_12_add_47 : decode prog_14_method_91_code 47 = .ok (.aload_n 0, 1) := by decide +kernel
theorem d_12_add_48 : decode prog_14_method_91_code 48 = .ok (.invokevirtual 144, 3) := by decide +kernel
theorem d_12_add_51 : decode prog_14_method_91_code 51 = .ok (.bipush 24, 2) := by decide +kernel
theorem d_12_add_53 : decode prog_14_method_91_code 53 = .ok (.if_icmp .ne 7, 3) := by decide +kernel
theorem d_12_add_56 : decode prog_14_method_91_code 56 = .ok (.iconst 1, 1) := by decide +kernel
theorem d_12_add_57 : decode prog_14_method_91_code 57 = .ok (.goto 4, 3) := by decide +kernel
theorem d_12_add_60 : decode prog_14_method_91_code 60 = .ok (.iconst 0, 1) := by decide +kernel
theorem d_12_add_61 : decode prog_14_method_91_code 61 = .ok (.iconst 2, 1) := by decide +kernel
theorem d_12_add_62 : decode prog_14_method_91_code 62 = .ok (.invokevirtual 185, 3) := by decide +kernel
theorem d_12_add_65 : decode prog_14_method_91_code 65 = .ok (.ifCond .eq 5, 3) := by decide +kernel
theorem d_12_add_68 : decode prog_14_method_91_code 68 = .ok (.iconst 0, 1) := by decide +kernel
theorem d_12_add_69 : decode prog_14_method_91_code 69 = .ok (.ireturn, 1) := by decide +kernel
theorem d_12_add_70 : decode prog_14_method_91_code 70 = .ok (.iload_n 1, 1) := by decide +kernel
theorem d_12_add_71 : decode prog_14_method_91_code 71 = .ok (.invokestatic 68, 3) := by decide +kernel
theorem d_12_add_74 : decode prog_14_method_91_code 74 = .ok (.istore_n 3, 1) := by decide +kernel
theorem d_12_add_75 : decode prog_14_method_91_code 75 = .ok (.iload_n 2, 1) := by decide +kernel
theorem d_12_add_76 : decode prog_14_method_91_code 76 = .ok (.iconst (-1), 1) := by decide +kernel
theorem d_12_add_77 : decode prog_14_method_91_code 77 = .ok (.if_icmp .ne 7, 3) := by decide +kernel
theorem d_12_add_80 : decode prog_14_method_91_code 80 = .ok (.iconst 0, 1) := by decide +kernel
theorem d_12_add_81 : decode prog_14_method_91_code 81 = .ok (.goto 18, 3) := by decide +kernel
theorem d_12_add_84 : decode prog_14_method_91_code 84 = .ok (.aload_n 0, 1) := by decide +kernel
theorem d_12_add_85 : decode prog_14_method_91_code 85 = .ok (.sipush 273, 3) := by decide +kernel
theorem d_12_add_88 : decode prog_14_method_91_code 88 = .ok (.aload_n 0, 1) := by decide +kernel
theorem d_12_add_89 : decode prog_14_method_91_code 89 = .ok (.iload_n 3, 1) := by decide +kernel
theorem d_12_add_90 : decode prog_14_method_91_code 90 = .ok (.iload_n 2, 1) := by decide +kernel
theorem d_12_add_91 : decode prog_14_method_91_code 91 = .ok (.invokevirtual 71, 3) := by decide +kernel
theorem d_12_add_94 : decode prog_14_method_91_code 94 = .ok (.invokevirtual 78, 3) := by decide +kernel
theorem d_12_add_97 : decode prog_14_method_91_code 97 = .ok (.iconst 1, 1) := by decide +kernel
theorem d_12_add_98 : decode prog_14_method_91_code 98 = .ok (.iadd, 1) := by decide +kernel
theorem d_12_takes_0 : decode prog_14_method_22_code 0 = .ok (.aload_n 0, 1) := by decide +kernel
theorem d_12_takes_1 : decode prog_14_method_22_code 1 = .ok (.iload_n 1, 1) := by decide +kernel
theorem d_12_takes_2 : decode prog_14_method_22_code 2 = .ok (.iload_n 2, 1) := by decide +kernel
theorem d_12_takes_3 : decode prog_14_method_22_code 3 = .ok (.invokevirtual 78, 3) := by decide +kernel
theorem d_12_takes_6 : decode prog_14_method_22_code 6 = .ok (.istore_n 3, 1) := by decide +kernel
theorem d_12_takes_7 : decode prog_14_method_22_code 7 = .ok (.iload_n 3, 1) := by decide +kernel
theorem d_12_takes_8 : decode prog_14_method_22_code 8 = .ok (.iconst (-1), 1) := by decide +kernel
theorem d_12_takes_9 : decode prog_14_method_22_code 9 = .ok (.if_icmp .ne 4, 3) := by decide +kernel
theorem d_12_takes_12 : decode prog_14_method_22_code 12 = .ok (.return_, 1) := by decide +kernel
theorem d_12_takes_13 : decode prog_14_method_22_code 13 = .ok (.iload_n 3, 1) := by decide +kernel
theorem d_12_takes_14 : decode prog_14_method_22_code 14 = .ok (.istore 4, 2) := by decide +kernel
theorem d_12_takes_16 : decode prog_14_method_22_code 16 = .ok (.iload 4, 2) := by decide +kernel
theorem d_12_takes_18 : decode prog_14_method_22_code 18 = .ok (.iconst 1, 1) := by decide +kernel
theorem d_12_takes_19 : decode prog_14_method_22_code 19 = .ok (.iadd, 1) := by decide +kernel
theorem d_12_takes_20 : decode prog_14_method_22_code 20 = .ok (.aload_n 0, 1) := by decide +kernel
theorem d_12_takes_21 : decode prog_14_method_22_code 21 = .ok (.iload_n 1, 1) := by decide +kernel
theorem d_12_takes_22 : decode prog_14_method_22_code 22 = .ok (.invokevirtual 64, 3) := by decide +kernel
theorem d_12_takes_25 : decode prog_14_method_22_code 25 = .ok (.if_icmp .ge 31, 3) := by decide +kernel
theorem d_12_takes_28 : decode prog_14_method_22_code 28 = .ok (.aload_n 0, 1) := by decide +kernel
theorem d_12_takes_29 : decode prog_14_method_22_code 29 = .ok (.getfield 13, 3) := by decide +kernel
theorem d_12_takes_32 : decode prog_14_method_22_code 32 = .ok (.iload_n 1, 1) := by decide +kernel
theorem d_12_takes_33 : decode prog_14_method_22_code 33 = .ok (.iconst 1, 1) := by decide +kernel
theorem d_12_takes_34 : decode prog_14_method_22_code 34 = .ok (.iadd, 1) := by decide +kernel
theorem d_12_takes_35 : decode prog_14_method_22_code 35 = .ok (.iload 4, 2) := by decide +kernel
theorem d_12_takes_37 : decode prog_14_method_22_code 37 = .ok (.iadd, 1) := by decide +kernel
theorem d_12_takes_38 : decode prog_14_method_22_code 38 = .ok (.aload_n 0, 1) := by decide +kernel
theorem d_12_takes_39 : decode prog_14_method_22_code 39 = .ok (.getfield 13, 3) := by decide +kernel
theorem d_12_takes_42 : decode prog_14_method_22_code 42 = .ok (.iload_n 1, 1) := by decide +kernel
theorem d_12_takes_43 : decode prog_14_method_22_code 43 = .ok (.iconst 2, 1) := by decide +kernel
theorem d_12_takes_44 : decode prog_14_method_22_code 44 = .ok (.iadd, 1) := by decide +kernel
theorem d_12_takes_45 : decode prog_14_method_22_code 45 = .ok (.iload 4, 2) := by decide +kernel
theorem d_12_takes_47 : decode prog_14_method_22_code 47 = .ok (.iadd, 1) := by decide +kernel
theorem d_12_takes_48 : decode prog_14_method_22_code 48 = .ok (.iaload, 1) := by decide +kernel
theorem d_12_takes_49 : decode prog_14_method_22_code 49 = .ok (.iastore, 1) := by decide +kernel
theorem d_12_takes_50 : decode prog_14_method_22_code 50 = .ok (.iinc 4 1, 3) := by decide +kernel
theorem d_12_takes_53 : decode prog_14_method_22_code 53 = .ok (.goto (-37), 3) := by decide +kernel
theorem d_12_takes_56 : decode prog_14_method_22_code 56 = .ok (.aload_n 0, 1) := by decide +kernel
theorem d_12_takes_57 : decode prog_14_method_22_code 57 = .ok (.getfield 13, 3) := by decide +kernel
theorem d_12_takes_60 : decode prog_14_method_22_code 60 = .ok (.iload_n 1, 1) := by decide +kernel
theorem d_12_takes_61 : decode prog_14_method_22_code 61 = .ok (.dup2, 1) := by decide +kernel
theorem d_12_takes_62 : decode prog_14_method_22_code 62 = .ok (.iaload, 1) := by decide +kernel
theorem d_12_takes_63 : decode prog_14_method_22_code 63 = .ok (.iconst 1, 1) := by decide +kernel
theorem d_12_takes_64 : decode prog_14_method_22_code 64 = .ok (.isub, 1) := by decide +kernel
theorem d_12_takes_65 : decode prog_14_method_22_code 65 = .ok (.iastore, 1) := by decide +kernel
theorem d_12_takes_66 : decode prog_14_method_22_code 66 = .ok (.return_, 1) := by decide +kernel
theorem d_12_drop_0 : decode prog_14_method_92_code 0 = .ok (.aload_n 0, 1) := by decide +kernel
theorem d_12_drop_1 : decode prog_14_method_92_code 1 = .ok (.iconst 0, 1) := by decide +kernel
theorem d_12_drop_2 : decode prog_14_method_92_code 2 = .ok (.putfield 3, 3) := by decide +kernel
theorem d_12_drop_5 : decode prog_14_method_92_code 5 = .ok (.aload_n 0, 1) := by decide +kernel
theorem d_12_drop_6 : decode prog_14_method_92_code 6 = .ok (.iload_n 1, 1) := by decide +kernel
theorem d_12_drop_7 : decode prog_14_method_92_code 7 = .ok (.invokestatic 239, 3) := by decide +kernel
theorem d_12_drop_10 : decode prog_14_method_92_code 10 = .ok (.ifCond .ne 12, 3) := by decide +kernel
theorem d_12_drop_13 : decode prog_14_method_92_code 13 = .ok (.aload_n 0, 1) := by decide +kernel
theorem d_12_drop_14 : decode prog_14_method_92_code 14 = .ok (.iload_n 1, 1) := by decide +kernel
theorem d_12_drop_15 : decode prog_14_method_92_code 15 = .ok (.iload_n 2, 1) := by decide +kernel
theorem d_12_drop_16 : decode prog_14_method_92_code 16 = .ok (.invokevirtual 285, 3) := by decide +kernel
theorem d_12_drop_19 : decode prog_14_method_92_code 19 = .ok (.ifCond .eq 7, 3) := by decide +kernel
theorem d_12_drop_22 : decode prog_14_method_92_code 22 = .ok (.iconst 1, 1) := by decide +kernel
theorem d_12_drop_23 : decode prog_14_method_92_code 23 = .ok (.goto 4, 3) := by decide +kernel
theorem d_12_drop_26 : decode prog_14_method_92_code 26 = .ok (.iconst 0, 1) := by decide +kernel
theorem d_12_drop_27 : decode prog_14_method_92_code 27 = .ok (.iconst 1, 1) := by decide +kernel
theorem d_12_drop_28 : decode prog_14_method_92_code 28 = .ok (.invokevirtual 185, 3) := by decide +kernel
theorem d_12_drop_31 : decode prog_14_method_92_code 31 = .ok (.ifCond .eq 5, 3) := by decide +kernel
theorem d_12_drop_34 : decode prog_14_method_92_code 34 = .ok (.iconst 0, 1) := by decide +kernel
theorem d_12_drop_35 : decode prog_14_method_92_code 35 = .ok (.ireturn, 1) := by decide +kernel
theorem d_12_drop_36 : decode prog_14_method_92_code 36 = .ok (.aload_n 0, 1) := by decide +kernel
theorem d_12_drop_37 : decode prog_14_method_92_code 37 = .ok (.iload_n 1, 1) := by decide +kernel
theorem d_12_drop_38 : decode prog_14_method_92_code 38 = .ok (.invokestatic 68, 3) := by decide +kernel
theorem d_12_drop_41 : decode prog_14_method_92_code 41 = .ok (.iload_n 2, 1) := by decide +kernel
theorem d_12_drop_42 : decode prog_14_method_92_code 42 = .ok (.invokevirtual 71, 3) := by decide +kernel
theorem d_12_drop_45 : decode prog_14_method_92_code 45 = .ok (.istore_n 3, 1) := by decide +kernel
theorem d_12_drop_46 : decode prog_14_method_92_code 46 = .ok (.aload_n 0, 1) := by decide +kernel
theorem d_12_drop_47 : decode prog_14_method_92_code 47 = .ok (.sipush 273, 3) := by decide +kernel
theorem d_12_drop_50 : decode prog_14_method_92_code 50 = .ok (.iload_n 3, 1) := by decide +kernel
theorem d_12_drop_51 : decode prog_14_method_92_code 51 = .ok (.invokevirtual 338, 3) := by decide +kernel
theorem d_12_drop_54 : decode prog_14_method_92_code 54 = .ok (.iconst 0, 1) := by decide +kernel
theorem d_12_drop_55 : decode prog_14_method_92_code 55 = .ok (.istore 4, 2) := by decide +kernel
theorem d_12_drop_57 : decode prog_14_method_92_code 57 = .ok (.iload 4, 2) := by decide +kernel
theorem d_12_drop_59 : decode prog_14_method_92_code 59 = .ok (.iconst 4, 1) := by decide +kernel
theorem d_12_drop_60 : decode prog_14_method_92_code 60 = .ok (.if_icmp .ge 19, 3) := by decide +kernel
theorem d_12_drop_63 : decode prog_14_method_92_code 63 = .ok (.aload_n 0, 1) := by decide +kernel
theorem d_12_drop_64 : decode prog_14_method_92_code 64 = .ok (.iload 4, 2) := by decide +kernel
theorem d_12_drop_66 : decode prog_14_method_92_code 66 = .ok (.invokestatic 68, 3) := by decide +kernel
theorem d_12_drop_69 : decode prog_14_method_92_code 69 = .ok (.iload_n 3, 1) := by decide +kernel
theorem d_12_drop_70 : decode prog_14_method_92_code 70 = .ok (.invokevirtual 338, 3) := by decide +kernel
theorem d_12_drop_73 : decode prog_14_method_92_code 73 = .ok (.iinc 4 1, 3) := by decide +kernel
theorem d_12_drop_76 : decode prog_14_method_92_code 76 = .ok (.goto (-19), 3) := by decide +kernel
theorem d_12_drop_79 : decode prog_14_method_92_code 79 = .ok (.aload_n 0, 1) := by decide +kernel
theorem d_12_drop_80 : decode prog_14_method_92_code 80 = .ok (.getfield 13, 3) := by decide +kernel
theorem d_12_drop_83 : decode prog_14_method_92_code 83 = .ok (.aload_n 0, 1) := by decide +kernel
theorem d_12_drop_84 : decode prog_14_method_92_code 84 = .ok (.iload_n 3, 1) := by decide +kernel
theorem d_12_drop_85 : decode prog_14_method_92_code 85 = .ok (.invokevirtual 81, 3) := by decide +kernel
theorem d_12_drop_88 : decode prog_14_method_92_code 88 = .ok (.iconst (-1), 1) := by decide +kernel
theorem d_12_drop_89 : decode prog_14_method_92_code 89 = .ok (.iastore, 1) := by decide +kernel
theorem d_12_drop_90 : decode prog_14_method_92_code 90 = .ok (.iload_n 3, 1) := by decide +kernel
theorem d_12_drop_91 : decode prog_14_method_92_code 91 = .ok (.ireturn, 1) := by decide +kernel
theorem d_12_drag_0 : decode prog_14_method_93_code 0 = .ok (.aload_n 0, 1) := by decide +kernel
theorem d_12_drag_1 : decode prog_14_method_93_code 1 = .ok (.iconst 0, 1) := by decide +kernel
theorem d_12_drag_2 : decode prog_14_method_93_code 2 = .ok (.putfield 3, 3) := by decide +kernel
theorem d_12_drag_5 : decode prog_14_method_93_code 5 = .ok (.aload_n 0, 1) := by decide +kernel
theorem d_12_drag_6 : decode prog_14_method_93_code 6 = .ok (.iload_n 1, 1) := by decide +kernel
theorem d_12_drag_7 : decode prog_14_method_93_code 7 = .ok (.invokestatic 239, 3) := by decide +kernel
theorem d_12_drag_10 : decode prog_14_method_93_code 10 = .ok (.ifCond .ne 21, 3) := by decide +kernel
theorem d_12_drag_13 : decode prog_14_method_93_code 13 = .ok (.aload_n 0, 1) := by decide +kernel
theorem d_12_drag_14 : decode prog_14_method_93_code 14 = .ok (.iload_n 1, 1) := by decide +kernel
theorem d_12_drag_15 : decode prog_14_method_93_code 15 = .ok (.iload_n 2, 1) := by decide +kernel
theorem d_12_drag_16 : decode prog_14_method_93_code 16 = .ok (.invokevirtual 285, 3) := by decide +kernel
theorem d_12_drag_19 : decode prog_14_method_93_code 19 = .ok (.ifCond .ne 12, 3) := by decide +kernel
theorem d_12_drag_22 : decode prog_14_method_93_code 22 = .ok (.aload_n 0, 1) := by decide +kernel
theorem d_12_drag_23 : decode prog_14_method_93_code 23 = .ok (.iload_n 1, 1) := by decide +kernel
theorem d_12_drag_24 : decode prog_14_method_93_code 24 = .ok (.iload_n 3, 1) := by decide +kernel
theorem d_12_drag_25 : decode prog_14_method_93_code 25 = .ok (.invokevirtual 285, 3) := by decide +kernel
theorem d_12_drag_28 : decode prog_14_method_93_code 28 = .ok (.ifCond .eq 7, 3) := by decide +kernel
theorem d_12_drag_31 : decode prog_14_method_93_code 31 = .ok (.iconst 1, 1) := by decide +kernel
theorem d_12_drag_32 : decode prog_14_method_93_code 32 = .ok (.goto 4, 3) := by decide +kernel
theorem d_12_drag_35 : decode prog_14_method_93_code 35 = .ok (.iconst 0, 1) := by decide +kernel
theorem d_12_drag_36 : decode prog_14_method_93_code 36 = .ok (.iconst 1, 1) := by decide +kernel
theorem d_12_drag_37 : decode prog_14_method_93_code 37 = .ok (.invokevirtual 185, 3) := by decide +kernel
theorem d_12_drag_40 : decode prog_14_method_93_code 40 = .ok (.ifCond .ne 21, 3) := by decide +kernel
theorem d_12_drag_43 : decode prog_14_method_93_code 43 = .ok (.aload_n 0, 1) := by decide +kernel
theorem d_12_drag_44 : decode prog_14_method_93_code 44 = .ok (.iload_n 2, 1) := by decide +kernel
theorem d_12_drag_45 : decode prog_14_method_93_code 45 = .ok (.iload_n 3, 1) := by decide +kernel
theorem d_12_drag_46 : decode prog_14_method_93_code 46 = .ok (.if_icmp .ne 7, 3) := by decide +kernel
theorem d_12_drag_49 : decode prog_14_method_93_code 49 = .ok (.iconst 1, 1) := by decide +kernel
theorem d_12_drag_50 : decode prog_14_method_93_code 50 = .ok (.goto 4, 3) := by decide +kernel
theorem d_12_drag_53 : decode prog_14_method_93_code 53 = .ok (.iconst 0, 1) := by decide +kernel
theorem d_12_drag_54 : decode prog_14_method_93_code 54 = .ok (.iconst 2, 1) := by decide +kernel
theorem d_12_drag_55 : decode prog_14_method_93_code 55 = .ok (.invokevirtual 185, 3) := by decide +kernel
theorem d_12_drag_58 : decode prog_14_method_93_code 58 = .ok (.ifCond .eq 5, 3) := by decide +kernel
theorem d_12_drag_61 : decode prog_14_method_93_code 61 = .ok (.iconst 0, 1) := by decide +kernel
theorem d_12_drag_62 : decode prog_14_method_93_code 62 = .ok (.ireturn, 1) := by decide +kernel
theorem d_12_drag_63 : decode prog_14_method_93_code 63 = .ok (.iload_n 1, 1) := by decide +kernel
theorem d_12_drag_64 : decode prog_14_method_93_code 64 = .ok (.invokestatic 68, 3) := by decide +kernel
theorem d_12_drag_67 : decode prog_14_method_93_code 67 = .ok (.istore 4, 2) := by decide +kernel
theorem d_12_drag_69 : decode prog_14_method_93_code 69 = .ok (.aload_n 0, 1) := by decide +kernel
theorem d_12_drag_70 : decode prog_14_method_93_code 70 = .ok (.iload 4, 2) := by decide +kernel
theorem d_12_drag_72 : decode prog_14_method_93_code 72 = .ok (.iload_n 2, 1) := by decide +kernel
theorem d_12_drag_73 : decode prog_14_method_93_code 73 = .ok (.invokevirtual 71, 3) := by decide +kernel
theorem d_12_drag_76 : decode prog_14_method_93_code 76 = .ok (.istore 5, 2) := by decide +kernel
theorem d_12_drag_78 : decode prog_14_method_93_code 78 = .ok (.aload_n 0, 1) := by decide +kernel
theorem d_12_drag_79 : decode prog_14_method_93_code 79 = .ok (.iload 4, 2) := by decide +kernel
theorem d_12_drag_81 : decode prog_14_method_93_code 81 = .ok (.iload 5, 2) := by decide +kernel
theorem d_12_drag_83 : decode prog_14_method_93_code 83 = .ok (.invokevirtual 338, 3) := by decide +kernel
theorem d_12_drag_86 : decode prog_14_method_93_code 86 = .ok (.aload_n 0, 1) := by decide +kernel
theorem d_12_drag_87 : decode prog_14_method_93_code 87 = .ok (.iload 4, 2) := by decide +kernel
theorem d_12_drag_89 : decode prog_14_method_93_code 89 = .ok (.iload_n 3, 1) := by decide +kernel
theorem d_12_drag_90 : decode prog_14_method_93_code 90 = .ok (.iload 5, 2) := by decide +kernel
theorem d_12_drag_92 : decode prog_14_method_93_code 92 = .ok (.invokevirtual 74, 3) := by decide +kernel
theorem d_12_drag_95 : decode prog_14_method_93_code 95 = .ok (.aload_n 0, 1) := by decide +kernel
theorem d_12_drag_96 : decode prog_14_method_93_code 96 = .ok (.sipush 273, 3) := by decide +kernel
theorem d_12_drag_99 : decode prog_14_method_93_code 99 = .ok (.iload 5, 2) := by decide +kernel
theorem d_12_drag_101 : decode prog_14_method_93_code 101 = .ok (.invokevirtual 338, 3) := by decide +kernel
theorem d_12_drag_104 : decode prog_14_method_93_code 104 = .ok (.aload_n 0, 1) := by decide +kernel
theorem d_12_drag_105 : decode prog_14_method_93_code 105 = .ok (.sipush 273, 3) := by decide +kernel
theorem d_12_drag_108 : decode prog_14_method_93_code 108 = .ok (.iload_n 3, 1) := by decide +kernel
theorem d_12_drag_109 : decode prog_14_method_93_code 109 = .ok (.ifCond .le 24, 3) := by decide +kernel
theorem d_12_drag_112 : decode prog_14_method_93_code 112 = .ok (.aload_n 0, 1) := by decide +kernel
theorem d_12_drag_113 : decode prog_14_method_93_code 113 = .ok (.sipush 273, 3) := by decide +kernel
theorem d_12_drag_116 : decode prog_14_method_93_code 116 = .ok (.aload_n 0, 1) := by decide +kernel
theorem d_12_drag_117 : decode prog_14_method_93_code 117 = .ok (.iload 4, 2) := by decide +kernel
theorem d_12_drag_119 : decode prog_14_method_93_code 119 = .ok (.iload_n 3, 1) := by decide +kernel
theorem d_12_drag_120 : decode prog_14_method_93_code 120 = .ok (.iconst 1, 1) := by decide +kernel
theorem d_12_drag_121 : decode prog_14_method_93_code 121 = .ok (.isub, 1) := by decide +kernel
theorem d_12_drag_122 : decode prog_14_method_93_code 122 = .ok (.invokevirtual 71, 3) := by decide +kernel
theorem d_12_drag_125 : decode prog_14_method_93_code 125 = .ok (.invokevirtual 78, 3) := by decide +kernel
theorem d_12_drag_128 : decode prog_14_method_93_code 128 = .ok (.iconst 1, 1) := by decide +kernel
theorem d_12_drag_129 : decode prog_14_method_93_code 129 = .ok (.iadd, 1) := by decide +kernel
theorem d_12_drag_130 : decode prog_14_method_93_code 130 = .ok (.goto 17, 3) := by decide +kernel
theorem d_12_drag_133 : decode prog_14_method_93_code 133 = .ok (.aload_n 0, 1) := by decide +kernel
theorem d_12_drag_134 : decode prog_14_method_93_code 134 = .ok (.sipush 273, 3) := by decide +kernel
theorem d_12_drag_137 : decode prog_14_method_93_code 137 = .ok (.aload_n 0, 1) := by decide +kernel
theorem d_12_drag_138 : decode prog_14_method_93_code 138 = .ok (.iload 4, 2) := by decide +kernel
theorem d_12_drag_140 : decode prog_14_method_93_code 140 = .ok (.iconst 1, 1) := by decide +kernel
theorem d_12_drag_141 : decode prog_14_method_93_code 141 = .ok (.invokevirtual 71, 3) := by decide +kernel
theorem d_12_drag_144 : decode prog_14_method_93_code 144 = .ok (.invokevirtual 78, 3) := by decide +kernel
theorem d_12_drag_147 : decode prog_14_method_93_code 147 = .ok (.iload 5, 2) := by decide +kernel
theorem d_12_drag_149 : decode prog_14_method_93_code 149 = .ok (.invokevirtual 74, 3) := by decide +kernel
theorem d_12_drag_152 : decode prog_14_method_93_code 152 = .ok (.iload 5, 2) := by decide +kernel
theorem d_12_drag_154 : decode prog_14_method_93_code 154 = .ok (.ireturn, 1) := by decide +kernel
theorem d_12_kind_0 : decode prog_14_method_94_code 0 = .ok (.aload_n 0, 1) := by decide +kernel
theorem d_12_kind_1 : decode prog_14_method_94_code 1 = .ok (.iconst 0, 1) := by decide +kernel
theorem d_12_kind_2 : decode prog_14_method_94_code 2 = .ok (.putfield 3, 3) := by decide +kernel
theorem d_12_kind_5 : decode prog_14_method_94_code 5 = .ok (.aload_n 0, 1) := by decide +kernel
theorem d_12_kind_6 : decode prog_14_method_94_code 6 = .ok (.aload_n 0, 1) := by decide +kernel
theorem d_12_kind_7 : decode prog_14_method_94_code 7 = .ok (.iload_n 1, 1) := by decide +kernel
theorem d_12_kind_8 : decode prog_14_method_94_code 8 = .ok (.invokevirtual 288, 3) := by decide +kernel
theorem d_12_kind_11 : decode prog_14_method_94_code 11 = .ok (.iconst 1, 1) := by decide +kernel
theorem d_12_kind_12 : decode prog_14_method_94_code 12 = .ok (.invokevirtual 185, 3) := by decide +kernel
theorem d_12_kind_15 : decode prog_14_method_94_code 15 = .ok (.ifCond .eq 7, 3) := by decide +kernel
theorem d_12_kind_18 : decode prog_14_method_94_code 18 = .ok (.iconst 0, 1) := by decide +kernel
theorem d_12_kind_19 : decode prog_14_method_94_code 19 = .ok (.goto 11, 3) := by decide +kernel
theorem d_12_kind_22 : decode prog_14_method_94_code 22 = .ok (.aload_n 0, 1) := by decide +kernel
theorem d_12_kind_23 : decode prog_14_method_94_code 23 = .ok (.getfield 13, 3) := by decide +kernel
theorem d_12_kind_26 : decode prog_14_method_94_code 26 = .ok (.iconst 4, 1) := by decide +kernel
theorem d_12_kind_27 : decode prog_14_method_94_code 27 = .ok (.iload_n 1, 1) := by decide +kernel
theorem d_12_kind_28 : decode prog_14_method_94_code 28 = .ok (.iadd, 1) := by decide +kernel
theorem d_12_kind_29 : decode prog_14_method_94_code 29 = .ok (.iaload, 1) := by decide +kernel
theorem d_12_kind_30 : decode prog_14_method_94_code 30 = .ok (.ireturn, 1) := by decide +kernel
theorem d_12_cell_0 : decode prog_14_method_95_code 0 = .ok (.aload_n 0, 1) := by decide +kernel
theorem d_12_cell_1 : decode prog_14_method_95_code 1 = .ok (.iconst 0, 1) := by decide +kernel
theorem d_12_cell_2 : decode prog_14_method_95_code 2 = .ok (.putfield 3, 3) := by decide +kernel
theorem d_12_cell_5 : decode prog_14_method_95_code 5 = .ok (.aload_n 0, 1) := by decide +kernel
theorem d_12_cell_6 : decode prog_14_method_95_code 6 = .ok (.aload_n 0, 1) := by decide +kernel
theorem d_12_cell_7 : decode prog_14_method_95_code 7 = .ok (.iload_n 1, 1) := by decide +kernel
theorem d_12_cell_8 : decode prog_14_method_95_code 8 = .ok (.invokevirtual 81, 3) := by decide +kernel
theorem d_12_cell_11 : decode prog_14_method_95_code 11 = .ok (.iconst (-1), 1) := by decide +kernel
theorem d_12_cell_12 : decode prog_14_method_95_code 12 = .ok (.if_icmp .eq 11, 3) := by decide +kernel
theorem d_12_cell_15 : decode prog_14_method_95_code 15 = .ok (.aload_n 0, 1) := by decide +kernel
theorem d_12_cell_16 : decode prog_14_method_95_code 16 = .ok (.iload_n 2, 1) := by decide +kernel
theorem d_12_cell_17 : decode prog_14_method_95_code 17 = .ok (.invokevirtual 288, 3) := by decide +kernel
theorem d_12_cell_20 : decode prog_14_method_95_code 20 = .ok (.ifCond .eq 7, 3) := by decide +kernel
theorem d_12_cell_23 : decode prog_14_method_95_code 23 = .ok (.iconst 1, 1) := by decide +kernel
theorem d_12_cell_24 : decode prog_14_method_95_code 24 = .ok (.goto 4, 3) := by decide +kernel
theorem d_12_cell_27 : decode prog_14_method_95_code 27 = .ok (.iconst 0, 1) := by decide +kernel
theorem d_12_cell_28 : decode prog_14_method_95_code 28 = .ok (.iconst 1, 1) := by decide +kernel
theorem d_12_cell_29 : decode prog_14_method_95_code 29 = .ok (.invokevirtual 185, 3) := by decide +kernel
theorem d_12_cell_32 : decode prog_14_method_95_code 32 = .ok (.ifCond .eq 7, 3) := by decide +kernel
theorem d_12_cell_35 : decode prog_14_method_95_code 35 = .ok (.iconst 0, 1) := by decide +kernel
theorem d_12_cell_36 : decode prog_14_method_95_code 36 = .ok (.goto 9, 3) := by decide +kernel
theorem d_12_cell_39 : decode prog_14_method_95_code 39 = .ok (.aload_n 0, 1) := by decide +kernel
theorem d_12_cell_40 : decode prog_14_method_95_code 40 = .ok (.iload_n 1, 1) := by decide +kernel
theorem d_12_cell_41 : decode prog_14_method_95_code 41 = .ok (.iload_n 2, 1) := by decide +kernel
theorem d_12_cell_42 : decode prog_14_method_95_code 42 = .ok (.invokevirtual 251, 3) := by decide +kernel
theorem d_12_cell_45 : decode prog_14_method_95_code 45 = .ok (.ireturn, 1) := by decide +kernel
theorem d_12_order_0 : decode prog_14_method_96_code 0 = .ok (.aload_n 0, 1) := by decide +kernel
theorem d_12_order_1 : decode prog_14_method_96_code 1 = .ok (.iconst 0, 1) := by decide +kernel
theorem d_12_order_2 : decode prog_14_method_96_code 2 = .ok (.putfield 3, 3) := by decide +kernel
theorem d_12_order_5 : decode prog_14_method_96_code 5 = .ok (.iload_n 1, 1) := by decide +kernel
theorem d_12_order_6 : decode prog_14_method_96_code 6 = .ok (.iconst 0, 1) := by decide +kernel
theorem d_12_order_7 : decode prog_14_method_96_code 7 = .ok (.aload_n 0, 1) := by decide +kernel
theorem d_12_order_8 : decode prog_14_method_96_code 8 = .ok (.invokevirtual 144, 3) := by decide +kernel
theorem d_12_order_11 : decode prog_14_method_96_code 11 = .ok (.iconst 1, 1) := by decide +kernel
theorem d_12_order_12 : decode prog_14_method_96_code 12 = .ok (.isub, 1) := by decide +kernel
theorem d_12_order_13 : decode prog_14_method_96_code 13 = .ok (.invokestatic 56, 3) := by decide +kernel
theorem d_12_order_16 : decode prog_14_method_96_code 16 = .ok (.ifCond .eq 14, 3) := by decide +kernel
theorem d_12_order_19 : decode prog_14_method_96_code 19 = .ok (.aload_n 0, 1) := by decide +kernel
theorem d_12_order_20 : decode prog_14_method_96_code 20 = .ok (.sipush 273, 3) := by decide +kernel
theorem d_12_order_23 : decode prog_14_method_96_code 23 = .ok (.iload_n 1, 1) := by decide +kernel
theorem d_12_order_24 : decode prog_14_method_96_code 24 = .ok (.invokevirtual 71, 3) := by decide +kernel
theorem d_12_order_27 : decode prog_14_method_96_code 27 = .ok (.goto 4, 3) := by decide +kernel
theorem d_12_order_30 : decode prog_14_method_96_code 30 = .ok (.iconst (-1), 1) := by decide +kernel
theorem d_12_order_31 : decode prog_14_method_96_code 31 = .ok (.ireturn, 1) := by decide +kernel
theorem d_12_row_0 : decode prog_14_method_97_code 0 = .ok (.aload_n 0, 1) := by decide +kernel
theorem d_12_row_1 : decode prog_14_method_97_code 1 = .ok (.iconst 0, 1) := by decide +kernel
theorem d_12_row_2 : decode prog_14_method_97_code 2 = .ok (.putfield 3, 3) := by decide +kernel
theorem d_12_row_5 : decode prog_14_method_97_code 5 = .ok (.aload_n 0, 1) := by decide +kernel
theorem d_12_row_6 : decode prog_14_method_97_code 6 = .ok (.iload_n 1, 1) := by decide +kernel
theorem d_12_row_7 : decode prog_14_method_97_code 7 = .ok (.invokestatic 239, 3) := by decide +kernel
theorem d_12_row_10 : decode prog_14_method_97_code 10 = .ok (.iconst 1, 1) := by decide +kernel
theorem d_12_row_11 : decode prog_14_method_97_code 11 = .ok (.invokevirtual 185, 3) := by decide +kernel
theorem d_12_row_14 : decode prog_14_method_97_code 14 = .ok (.ifCond .eq 5, 3) := by decide +kernel
theorem d_12_row_17 : decode prog_14_method_97_code 17 = .ok (.iconst 0, 1) := by decide +kernel
theorem d_12_row_18 : decode prog_14_method_97_code 18 = .ok (.ireturn, 1) := by decide +kernel
theorem d_12_row_19 : decode prog_14_method_97_code 19 = .ok (.aload_n 0, 1) := by decide +kernel
theorem d_12_row_20 : decode prog_14_method_97_code 20 = .ok (.iload_n 1, 1) := by decide +kernel
theorem d_12_row_21 : decode prog_14_method_97_code 21 = .ok (.iload_n 2, 1) := by decide +kernel
theorem d_12_row_22 : decode prog_14_method_97_code 22 = .ok (.invokevirtual 285, 3) := by decide +kernel
theorem d_12_row_25 : decode prog_14_method_97_code 25 = .ok (.ifCond .eq 7, 3) := by decide +kernel
theorem d_12_row_28 : decode prog_14_method_97_code 28 = .ok (.iconst (-1), 1) := by decide +kernel
theorem d_12_row_29 : decode prog_14_method_97_code 29 = .ok (.goto 12, 3) := by decide +kernel
theorem d_12_row_32 : decode prog_14_method_97_code 32 = .ok (.aload_n 0, 1) := by decide +kernel
theorem d_12_row_33 : decode prog_14_method_97_code 33 = .ok (.iload_n 1, 1) := by decide +kernel
theorem d_12_row_34 : decode prog_14_method_97_code 34 = .ok (.invokestatic 68, 3) := by decide +kernel
theorem d_12_row_37 : decode prog_14_method_97_code 37 = .ok (.iload_n 2, 1) := by decide +kernel
theorem d_12_row_38 : decode prog_14_method_97_code 38 = .ok (.invokevirtual 71, 3) := by decide +kernel
theorem d_12_row_41 : decode prog_14_method_97_code 41 = .ok (.ireturn, 1) := by decide +kernel
theorem d_12_noKey_0 : decode prog_14_method_98_code 0 = .ok (.aload_n 0, 1) := by decide +kernel
theorem d_12_noKey_1 : decode prog_14_method_98_code 1 = .ok (.iconst 0, 1) := by decide +kernel
theorem d_12_noKey_2 : decode prog_14_method_98_code 2 = .ok (.putfield 3, 3) := by decide +kernel
theorem d_12_noKey_5 : decode prog_14_method_98_code 5 = .ok (.aload_n 0, 1) := by decide +kernel
theorem d_12_noKey_6 : decode prog_14_method_98_code 6 = .ok (.iload_n 1, 1) := by decide +kernel
theorem d_12_noKey_7 : decode prog_14_method_98_code 7 = .ok (.invokestatic 239, 3) := by decide +kernel
theorem d_12_noKey_10 : decode prog_14_method_98_code 10 = .ok (.ifCond .ne 12, 3) := by decide +kernel
theorem d_12_noKey_13 : decode prog_14_method_98_code 13 = .ok (.aload_n 0, 1) := by decide +kernel
theorem d_12_noKey_14 : decode prog_14_method_98_code 14 = .ok (.iload_n 2, 1) := by decide +kernel
theorem d_12_noKey_15 : decode prog_14_method_98_code 15 = .ok (.invokevirtual 81, 3) := by decide +kernel
theorem d_12_noKey_18 : decode prog_14_method_98_code 18 = .ok (.iconst (-1), 1) := by decide +kernel
theorem d_12_noKey_19 : decode prog_14_method_98_code 19 = .ok (.if_icmp .ne 7, 3) := by decide +kernel
theorem d_12_noKey_22 : decode prog_14_method_98_code 22 = .ok (.iconst 1, 1) := by decide +kernel
theorem d_12_noKey_23 : decode prog_14_method_98_code 23 = .ok (.goto 4, 3) := by decide +kernel
theorem d_12_noKey_26 : decode prog_14_method_98_code 26 = .ok (.iconst 0, 1) := by decide +kernel
theorem d_12_noKey_27 : decode prog_14_method_98_code 27 = .ok (.iconst 1, 1) := by decide +kernel
theorem d_12_noKey_28 : decode prog_14_method_98_code 28 = .ok (.invokevirtual 185, 3) := by decide +kernel
theorem d_12_noKey_31 : decode prog_14_method_98_code 31 = .ok (.ireturn, 1) := by decide +kernel
theorem d_12_place_0 : decode prog_14_method_99_code 0 = .ok (.aload_n 0, 1) := by decide +kernel
theorem d_12_place_1 : decode prog_14_method_99_code 1 = .ok (.iload_n 1, 1) := by decide +kernel
theorem d_12_place_2 : decode prog_14_method_99_code 2 = .ok (.iload_n 2, 1) := by decide +kernel
theorem d_12_place_3 : decode prog_14_method_99_code 3 = .ok (.invokevirtual 341, 3) := by decide +kernel
theorem d_12_place_6 : decode prog_14_method_99_code 6 = .ok (.ifCond .eq 7, 3) := by decide +kernel
theorem d_12_place_9 : decode prog_14_method_99_code 9 = .ok (.iconst 0, 1) := by decide +kernel
theorem d_12_place_10 : decode prog_14_method_99_code 10 = .ok (.goto 12, 3) := by decide +kernel
theorem d_12_place_13 : decode prog_14_method_99_code 13 = .ok (.aload_n 0, 1) := by decide +kernel
theorem d_12_place_14 : decode prog_14_method_99_code 14 = .ok (.iload_n 1, 1) := by decide +kernel
theorem d_12_place_15 : decode prog_14_method_99_code 15 = .ok (.invokestatic 68, 3) := by decide +kernel
theorem d_12_place_18 : decode prog_14_method_99_code 18 = .ok (.iload_n 2, 1) := by decide +kernel
theorem d_12_place_19 : decode prog_14_method_99_code 19 = .ok (.invokevirtual 78, 3) := by decide +kernel
theorem d_12_place_22 : decode prog_14_method_99_code 22 = .ok (.ireturn, 1) := by decide +kernel
theorem d_12_about_0 : decode prog_14_method_100_code 0 = .ok (.aload_n 0, 1) := by decide +kernel
theorem d_12_about_1 : decode prog_14_method_100_code 1 = .ok (.iconst 0, 1) := by decide +kernel
theorem d_12_about_2 : decode prog_14_method_100_code 2 = .ok (.putfield 3, 3) := by decide +kernel
theorem d_12_about_5 : decode prog_14_method_100_code 5 = .ok (.aload_n 0, 1) := by decide +kernel
theorem d_12_about_6 : decode prog_14_method_100_code 6 = .ok (.iload_n 1, 1) := by decide +kernel
theorem d_12_about_7 : decode prog_14_method_100_code 7 = .ok (.invokestatic 239, 3) := by decide +kernel
theorem d_12_about_10 : decode prog_14_method_100_code 10 = .ok (.iconst 1, 1) := by decide +kernel
theorem d_12_about_11 : decode prog_14_method_100_code 11 = .ok (.invokevirtual 185, 3) := by decide +kernel
theorem d_12_about_14 : decode prog_14_method_100_code 14 = .ok (.ifCond .ne 25, 3) := by decide +kernel
theorem d_12_about_17 : decode prog_14_method_100_code 17 = .ok (.aload_n 0, 1) := by decide +kernel
theorem d_12_about_18 : decode prog_14_method_100_code 18 = .ok (.iload_n 2, 1) := by decide +kernel
theorem d_12_about_19 : decode prog_14_method_100_code 19 = .ok (.iconst 0, 1) := by decide +kernel
theorem d_12_about_20 : decode prog_14_method_100_code 20 = .ok (.iconst 4, 1) := by decide +kernel
theorem d_12_about_21 : decode prog_14_method_100_code 21 = .ok (.invokestatic 56, 3) := by decide +kernel
theorem d_12_about_24 : decode prog_14_method_100_code 24 = .ok (.ifCond .ne 7, 3) := by decide +kernel
theorem d_12_about_27 : decode prog_14_method_100_code 27 = .ok (.iconst 1, 1) := by decide +kernel
theorem d_12_about_28 : decode prog_14_method_100_code 28 = .ok (.goto 4, 3) := by decide +kernel
theorem d_12_about_31 : decode prog_14_method_100_code 31 = .ok (.iconst 0, 1) := by decide +kernel
theorem d_12_about_32 : decode prog_14_method_100_code 32 = .ok (.iconst 2, 1) := by decide +kernel
theorem d_12_about_33 : decode prog_14_method_100_code 33 = .ok (.invokevirtual 185, 3) := by decide +kernel
theorem d_12_about_36 : decode prog_14_method_100_code 36 = .ok (.ifCond .eq 5, 3) := by decide +kernel
theorem d_12_about_39 : decode prog_14_method_100_code 39 = .ok (.iconst 0, 1) := by decide +kernel
theorem d_12_about_40 : decode prog_14_method_100_code 40 = .ok (.ireturn, 1) := by decide +kernel
theorem d_12_about_41 : decode prog_14_method_100_code 41 = .ok (.iload_n 2, 1) := by decide +kernel
theorem d_12_about_42 : decode prog_14_method_100_code 42 = .ok (.tableswitch 107 0 3 #[30, 39, 51, 63], 30) := by decide +kernel
theorem d_12_about_72 : decode prog_14_method_100_code 72 = .ok (.aload_n 0, 1) := by decide +kernel
theorem d_12_about_73 : decode prog_14_method_100_code 73 = .ok (.iload_n 1, 1) := by decide +kernel
theorem d_12_about_74 : decode prog_14_method_100_code 74 = .ok (.invokestatic 68, 3) := by decide +kernel
theorem d_12_about_77 : decode prog_14_method_100_code 77 = .ok (.invokevirtual 64, 3) := by decide +kernel
theorem d_12_about_80 : decode prog_14_method_100_code 80 = .ok (.ireturn, 1) := by decide +kernel
theorem d_12_about_81 : decode prog_14_method_100_code 81 = .ok (.aload_n 0, 1) := by decide +kernel
theorem d_12_about_82 : decode prog_14_method_100_code 82 = .ok (.getfield 13, 3) := by decide +kernel
theorem d_12_about_85 : decode prog_14_method_100_code 85 = .ok (.iload_n 1, 1) := by decide +kernel
theorem d_12_about_86 : decode prog_14_method_100_code 86 = .ok (.bipush 25, 2) := by decide +kernel
theorem d_12_about_88 : decode prog_14_method_100_code 88 = .ok (.invokestatic 52, 3) := by decide +kernel
theorem d_12_about_91 : decode prog_14_method_100_code 91 = .ok (.iaload, 1) := by decide +kernel
theorem d_12_about_92 : decode prog_14_method_100_code 92 = .ok (.ireturn, 1) := by decide +kernel
theorem d_12_about_93 : decode prog_14_method_100_code 93 = .ok (.aload_n 0, 1) := by decide +kernel
theorem d_12_about_94 : decode prog_14_method_100_code 94 = .ok (.getfield 13, 3) := by decide +kernel
theorem d_12_about_97 : decode prog_14_method_100_code 97 = .ok (.iload_n 1, 1) := by decide +kernel
theorem d_12_about_98 : decode prog_14_method_100_code 98 = .ok (.bipush 29, 2) := by decide +kernel
theorem d_12_about_100 : decode prog_14_method_100_code 100 = .ok (.invokestatic 52, 3) := by decide +kernel
theorem d_12_about_103 : decode prog_14_method_100_code 103 = .ok (.iaload, 1) := by decide +kernel
theorem d_12_about_104 : decode prog_14_method_100_code 104 = .ok (.ireturn, 1) := by decide +kernel
theorem d_12_about_105 : decode prog_14_method_100_code 105 = .ok (.iconst 0, 1) := by decide +kernel
theorem d_12_about_106 : decode prog_14_method_100_code 106 = .ok (.istore_n 3, 1) := by decide +kernel
theorem d_12_about_107 : decode prog_14_method_100_code 107 = .ok (.iconst 0, 1) := by decide +kernel
theorem d_12_about_108 : decode prog_14_method_100_code 108 = .ok (.istore 4, 2) := by decide +kernel
theorem d_12_about_110 : decode prog_14_method_100_code 110 = .ok (.iload 4, 2) := by decide +kernel
theorem d_12_about_112 : decode prog_14_method_100_code 112 = .ok (.iconst 5, 1) := by decide +kernel
theorem d_12_about_113 : decode prog_14_method_100_code 113 = .ok (.if_icmp .ge 34, 3) := by decide +kernel
theorem d_12_about_116 : decode prog_14_method_100_code 116 = .ok (.iload_n 3, 1) := by decide +kernel
theorem d_12_about_117 : decode prog_14_method_100_code 117 = .ok (.aload_n 0, 1) := by decide +kernel
theorem d_12_about_118 : decode prog_14_method_100_code 118 = .ok (.getfield 13, 3) := by decide +kernel
theorem d_12_about_121 : decode prog_14_method_100_code 121 = .ok (.iload_n 1, 1) := by decide +kernel
theorem d_12_about_122 : decode prog_14_method_100_code 122 = .ok (.iload 4, 2) := by decide +kernel
theorem d_12_about_124 : decode prog_14_method_100_code 124 = .ok (.invokestatic 189, 3) := by decide +kernel
theorem d_12_about_127 : decode prog_14_method_100_code 127 = .ok (.iaload, 1) := by decide +kernel
theorem d_12_about_128 : decode prog_14_method_100_code 128 = .ok (.ifCond .le 10, 3) := by decide +kernel
theorem d_12_about_131 : decode prog_14_method_100_code 131 = .ok (.iconst 1, 1) := by decide +kernel
theorem d_12_about_132 : decode prog_14_method_100_code 132 = .ok (.iload 4, 2) := by decide +kernel
theorem d_12_about_134 : decode prog_14_method_100_code 134 = .ok (.ishl, 1) := by decide +kernel
theorem d_12_about_135 : decode prog_14_method_100_code 135 = .ok (.goto 4, 3) := by decide +kernel
theorem d_12_about_138 : decode prog_14_method_100_code 138 = .ok (.iconst 0, 1) := by decide +kernel
theorem d_12_about_139 : decode prog_14_method_100_code 139 = .ok (.ior, 1) := by decide +kernel
theorem d_12_about_140 : decode prog_14_method_100_code 140 = .ok (.istore_n 3, 1) := by decide +kernel
theorem d_12_about_141 : decode prog_14_method_100_code 141 = .ok (.iinc 4 1, 3) := by decide +kernel
theorem d_12_about_144 : decode prog_14_method_100_code 144 = .ok (.goto (-34), 3) := by decide +kernel
theorem d_12_about_147 : decode prog_14_method_100_code 147 = .ok (.iload_n 3, 1) := by decide +kernel
theorem d_12_about_148 : decode prog_14_method_100_code 148 = .ok (.ireturn, 1) := by decide +kernel
theorem d_12_about_149 : decode prog_14_method_100_code 149 = .ok (.aload_n 0, 1) := by decide +kernel
theorem d_12_about_150 : decode prog_14_method_100_code 150 = .ok (.getfield 13, 3) := by decide +kernel
theorem d_12_about_153 : decode prog_14_method_100_code 153 = .ok (.iload_n 1, 1) := by decide +kernel
theorem d_12_about_154 : decode prog_14_method_100_code 154 = .ok (.sipush 185, 3) := by decide +kernel
theorem d_12_about_157 : decode prog_14_method_100_code 157 = .ok (.invokestatic 52, 3) := by decide +kernel
theorem d_12_about_160 : decode prog_14_method_100_code 160 = .ok (.iaload, 1) := by decide +kernel
theorem d_12_about_161 : decode prog_14_method_100_code 161 = .ok (.ireturn, 1) := by decide +kernel
theorem d_12_sorts_0 : decode prog_14_method_101_code 0 = .ok (.aload_n 0, 1) := by decide +kernel
theorem d_12_sorts_1 : decode prog_14_method_101_code 1 = .ok (.iconst 0, 1) := by decide +kernel
theorem d_12_sorts_2 : decode prog_14_method_101_code 2 = .ok (.putfield 3, 3) := by decide +kernel
theorem d_12_sorts_5 : decode prog_14_method_101_code 5 = .ok (.aload_n 0, 1) := by decide +kernel
theorem d_12_sorts_6 : decode prog_14_method_101_code 6 = .ok (.iload_n 1, 1) := by decide +kernel
theorem d_12_sorts_7 : decode prog_14_method_101_code 7 = .ok (.invokestatic 239, 3) := by decide +kernel
theorem d_12_sorts_10 : decode prog_14_method_101_code 10 = .ok (.iconst 1, 1) := by decide +kernel
theorem d_12_sorts_11 : decode prog_14_method_101_code 11 = .ok (.invokevirtual 185, 3) := by decide +kernel
theorem d_12_sorts_14 : decode prog_14_method_101_code 14 = .ok (.ifCond .eq 5, 3) := by decide +kernel
theorem d_12_sorts_17 : decode prog_14_method_101_code 17 = .ok (.iconst 0, 1) := by decide +kernel
theorem d_12_sorts_18 : decode prog_14_method_101_code 18 = .ok (.ireturn, 1) := by decide +kernel
theorem d_12_sorts_19 : decode prog_14_method_101_code 19 = .ok (.iload_n 2, 1) := by decide +kernel
theorem d_12_sorts_20 : decode prog_14_method_101_code 20 = .ok (.iconst 0, 1) := by decide +kernel
theorem d_12_sorts_21 : decode prog_14_method_101_code 21 = .ok (.aload_n 0, 1) := by decide +kernel
theorem d_12_sorts_22 : decode prog_14_method_101_code 22 = .ok (.getfield 13, 3) := by decide +kernel
theorem d_12_sorts_25 : decode prog_14_method_101_code 25 = .ok (.iload_n 1, 1) := by decide +kernel
theorem d_12_sorts_26 : decode prog_14_method_101_code 26 = .ok (.bipush 25, 2) := by decide +kernel
theorem d_12_sorts_28 : decode prog_14_method_101_code 28 = .ok (.invokestatic 52, 3) := by decide +kernel
theorem d_12_sorts_31 : decode prog_14_method_101_code 31 = .ok (.iaload, 1) := by decide +kernel
theorem d_12_sorts_32 : decode prog_14_method_101_code 32 = .ok (.iconst 1, 1) := by decide +kernel
theorem d_12_sorts_33 : decode prog_14_method_101_code 33 = .ok (.isub, 1) := by decide +kernel
theorem d_12_sorts_34 : decode prog_14_method_101_code 34 = .ok (.invokestatic 56, 3) := by decide +kernel
theorem d_12_sorts_37 : decode prog_14_method_101_code 37 = .ok (.ifCond .eq 19, 3) := by decide +kernel
theorem d_12_sorts_40 : decode prog_14_method_101_code 40 = .ok (.aload_n 0, 1) := by decide +kernel
theorem d_12_sorts_41 : decode prog_14_method_101_code 41 = .ok (.getfield 13, 3) := by decide +kernel
theorem d_12_sorts_44 : decode prog_14_method_101_code 44 = .ok (.iload_n 1, 1) := by decide +kernel
theorem d_12_sorts_45 : decode prog_14_method_101_code 45 = .ok (.bipush 26, 2) := by decide +kernel
theorem d_12_sorts_47 : decode prog_14_method_101_code 47 = .ok (.iload_n 2, 1) := by decide +kernel
theorem d_12_sorts_48 : decode prog_14_method_101_code 48 = .ok (.iadd, 1) := by decide +kernel
theorem d_12_sorts_49 : decode prog_14_method_101_code 49 = .ok (.invokestatic 52, 3) := by decide +kernel
theorem d_12_sorts_52 : decode prog_14_method_101_code 52 = .ok (.iaload, 1) := by decide +kernel
theorem d_12_sorts_53 : decode prog_14_method_101_code 53 = .ok (.goto 4, 3) := by decide +kernel
theorem d_12_sorts_56 : decode prog_14_method_101_code 56 = .ok (.iconst (-1), 1) := by decide +kernel
theorem d_12_sorts_57 : decode prog_14_method_101_code 57 = .ok (.ireturn, 1) := by decide +kernel
theorem d_12_fits_0 : decode prog_14_method_102_code 0 = .ok (.aload_n 0, 1) := by decide +kernel
theorem d_12_fits_1 : decode prog_14_method_102_code 1 = .ok (.iload_n 1, 1) := by decide +kernel
theorem d_12_fits_2 : decode prog_14_method_102_code 2 = .ok (.iload_n 2, 1) := by decide +kernel
theorem d_12_fits_3 : decode prog_14_method_102_code 3 = .ok (.invokevirtual 341, 3) := by decide +kernel
theorem d_12_fits_6 : decode prog_14_method_102_code 6 = .ok (.ifCond .ne 16, 3) := by decide +kernel
theorem d_12_fits_9 : decode prog_14_method_102_code 9 = .ok (.aload_n 0, 1) := by decide +kernel
theorem d_12_fits_10 : decode prog_14_method_102_code 10 = .ok (.iload_n 1, 1) := by decide +kernel
theorem d_12_fits_11 : decode prog_14_method_102_code 11 = .ok (.iload_n 2, 1) := by decide +kernel
theorem d_12_fits_12 : decode prog_14_method_102_code 12 = .ok (.invokevirtual 157, 3) := by decide +kernel
theorem d_12_fits_15 : decode prog_14_method_102_code 15 = .ok (.ifCond .eq 7, 3) := by decide +kernel
theorem d_12_fits_18 : decode prog_14_method_102_code 18 = .ok (.iconst 1, 1) := by decide +kernel
theorem d_12_fits_19 : decode prog_14_method_102_code 19 = .ok (.goto 4, 3) := by decide +kernel
theorem d_12_fits_22 : decode prog_14_method_102_code 22 = .ok (.iconst 0, 1) := by decide +kernel
theorem d_12_fits_23 : decode prog_14_method_102_code 23 = .ok (.ireturn, 1) := by decide +kernel
theorem d_12_why_0 : decode prog_14_method_103_code 0 = .ok (.aload_n 0, 1) := by decide +kernel
theorem d_12_why_1 : decode prog_14_method_103_code 1 = .ok (.iload_n 1, 1) := by decide +kernel
theorem d_12_why_2 : decode prog_14_method_103_code 2 = .ok (.iload_n 2, 1) := by decide +kernel
theorem d_12_why_3 : decode prog_14_method_103_code 3 = .ok (.invokevirtual 341, 3) := by decide +kernel
theorem d_12_why_6 : decode prog_14_method_103_code 6 = .ok (.ifCond .eq 7, 3) := by decide +kernel
theorem d_12_why_9 : decode prog_14_method_103_code 9 = .ok (.iconst 0, 1) := by decide +kernel
theorem d_12_why_10 : decode prog_14_method_103_code 10 = .ok (.goto 9, 3) := by decide +kernel
theorem d_12_why_13 : decode prog_14_method_103_code 13 = .ok (.aload_n 0, 1) := by decide +kernel
theorem d_12_why_14 : decode prog_14_method_103_code 14 = .ok (.iload_n 1, 1) := by decide +kernel
theorem d_12_why_15 : decode prog_14_method_103_code 15 = .ok (.iload_n 2, 1) := by decide +kernel
theorem d_12_why_16 : decode prog_14_method_103_code 16 = .ok (.invokevirtual 260, 3) := by decide +kernel
theorem d_12_why_19 : decode prog_14_method_103_code 19 = .ok (.ireturn, 1) := by decide +kernel
theorem d_12_stale_0 : decode prog_14_method_104_code 0 = .ok (.aload_n 0, 1) := by decide +kernel
theorem d_12_stale_1 : decode prog_14_method_104_code 1 = .ok (.iconst 0, 1) := by decide +kernel
theorem d_12_stale_2 : decode prog_14_method_104_code 2 = .ok (.putfield 3, 3) := by decide +kernel
theorem d_12_stale_5 : decode prog_14_method_104_code 5 = .ok (.aload_n 0, 1) := by decide +kernel
theorem d_12_stale_6 : decode prog_14_method_104_code 6 = .ok (.iload_n 1, 1) := by decide +kernel
theorem d_12_stale_7 : decode prog_14_method_104_code 7 = .ok (.invokestatic 239, 3) := by decide +kernel
theorem d_12_stale_10 : decode prog_14_method_104_code 10 = .ok (.iconst 1, 1) := by decide +kernel
theorem d_12_stale_11 : decode prog_14_method_104_code 11 = .ok (.invokevirtual 185, 3) := by decide +kernel
theorem d_12_stale_14 : decode prog_14_method_104_code 14 = .ok (.ifCond .eq 5, 3) := by decide +kernel
theorem d_12_stale_17 : decode prog_14_method_104_code 17 = .ok (.iconst 0, 1) := by decide +kernel
theorem d_12_stale_18 : decode prog_14_method_104_code 18 = .ok (.ireturn, 1) := by decide +kernel
theorem d_12_stale_19 : decode prog_14_method_104_code 19 = .ok (.iconst 0, 1) := by decide +kernel
theorem d_12_stale_20 : decode prog_14_method_104_code 20 = .ok (.istore_n 2, 1) := by decide +kernel
theorem d_12_stale_21 : decode prog_14_method_104_code 21 = .ok (.iconst 0, 1) := by decide +kernel
theorem d_12_stale_22 : decode prog_14_method_104_code 22 = .ok (.istore_n 3, 1) := by decide +kernel
theorem d_12_stale_23 : decode prog_14_method_104_code 23 = .ok (.iload_n 3, 1) := by decide +kernel
theorem d_12_stale_24 : decode prog_14_method_104_code 24 = .ok (.aload_n 0, 1) := by decide +kernel
theorem d_12_stale_25 : decode prog_14_method_104_code 25 = .ok (.iload_n 1, 1) := by decide +kernel
theorem d_12_stale_26 : decode prog_14_method_104_code 26 = .ok (.invokestatic 68, 3) := by decide +kernel
theorem d_12_stale_29 : decode prog_14_method_104_code 29 = .ok (.invokevirtual 64, 3) := by decide +kernel
theorem d_12_stale_32 : decode prog_14_method_104_code 32 = .ok (.if_icmp .ge 36, 3) := by decide +kernel
theorem d_12_stale_35 : decode prog_14_method_104_code 35 = .ok (.iload_n 2, 1) := by decide +kernel
theorem d_12_stale_36 : decode prog_14_method_104_code 36 = .ok (.aload_n 0, 1) := by decide +kernel
theorem d_12_stale_37 : decode prog_14_method_104_code 37 = .ok (.iload_n 1, 1) := by decide +kernel
theorem d_12_stale_38 : decode prog_14_method_104_code 38 = .ok (.aload_n 0, 1) := by decide +kernel
theorem d_12_stale_39 : decode prog_14_method_104_code 39 = .ok (.iload_n 1, 1) := by decide +kernel
theorem d_12_stale_40 : decode prog_14_method_104_code 40 = .ok (.invokestatic 68, 3) := by decide +kernel
theorem d_12_stale_43 : decode prog_14_method_104_code 43 = .ok (.iload_n 3, 1) := by decide +kernel
theorem d_12_stale_44 : decode prog_14_method_104_code 44 = .ok (.invokevirtual 71, 3) := by decide +kernel
theorem d_12_stale_47 : decode prog_14_method_104_code 47 = .ok (.invokevirtual 157, 3) := by decide +kernel
theorem d_12_stale_50 : decode prog_14_method_104_code 50 = .ok (.ifCond .eq 7, 3) := by decide +kernel
theorem d_12_stale_53 : decode prog_14_method_104_code 53 = .ok (.iconst 0, 1) := by decide +kernel
theorem d_12_stale_54 : decode prog_14_method_104_code 54 = .ok (.goto 6, 3) := by decide +kernel
theorem d_12_stale_57 : decode prog_14_method_104_code 57 = .ok (.iconst 1, 1) := by decide +kernel
theorem d_12_stale_58 : decode prog_14_method_104_code 58 = .ok (.iload_n 3, 1) := by decide +kernel
theorem d_12_stale_59 : decode prog_14_method_104_code 59 = .ok (.ishl, 1) := by decide +kernel
theorem d_12_stale_60 : decode prog_14_method_104_code 60 = .ok (.ior, 1) := by decide +kernel
theorem d_12_stale_61 : decode prog_14_method_104_code 61 = .ok (.istore_n 2, 1) := by decide +kernel
theorem d_12_stale_62 : decode prog_14_method_104_code 62 = .ok (.iinc 3 1, 3) := by decide +kernel
theorem d_12_stale_65 : decode prog_14_method_104_code 65 = .ok (.goto (-42), 3) := by decide +kernel
theorem d_12_stale_68 : decode prog_14_method_104_code 68 = .ok (.iload_n 2, 1) := by decide +kernel
theorem d_12_stale_69 : decode prog_14_method_104_code 69 = .ok (.ireturn, 1) := by decide +kernel
theorem d_12_pending_0 : decode prog_14_method_105_code 0 = .ok (.aload_n 0, 1) := by decide +kernel
theorem d_12_pending_1 : decode prog_14_method_105_code 1 = .ok (.iconst 0, 1) := by decide +kernel
theorem d_12_pending_2 : decode prog_14_method_105_code 2 = .ok (.putfield 3, 3) := by decide +kernel
theorem d_12_pending_5 : decode prog_14_method_105_code 5 = .ok (.aload_n 0, 1) := by decide +kernel
theorem d_12_pending_6 : decode prog_14_method_105_code 6 = .ok (.iload_n 1, 1) := by decide +kernel
theorem d_12_pending_7 : decode prog_14_method_105_code 7 = .ok (.invokestatic 239, 3) := by decide +kernel
theorem d_12_pending_10 : decode prog_14_method_105_code 10 = .ok (.iconst 1, 1) := by decide +kernel
theorem d_12_pending_11 : decode prog_14_method_105_code 11 = .ok (.invokevirtual 185, 3) := by decide +kernel
theorem d_12_pending_14 : decode prog_14_method_105_code 14 = .ok (.ifCond .eq 5, 3) := by decide +kernel
theorem d_12_pending_17 : decode prog_14_method_105_code 17 = .ok (.iconst 0, 1) := by decide +kernel
theorem d_12_pending_18 : decode prog_14_method_105_code 18 = .ok (.ireturn, 1) := by decide +kernel
theorem d_12_pending_19 : decode prog_14_method_105_code 19 = .ok (.iconst 0, 1) := by decide +kernel
theorem d_12_pending_20 : decode prog_14_method_105_code 20 = .ok (.istore_n 2, 1) := by decide +kernel
theorem d_12_pending_21 : decode prog_14_method_105_code 21 = .ok (.iconst 0, 1) := by decide +kernel
theorem d_12_pending_22 : decode prog_14_method_105_code 22 = .ok (.istore_n 3, 1) := by decide +kernel
theorem d_12_pending_23 : decode prog_14_method_105_code 23 = .ok (.iload_n 3, 1) := by decide +kernel
theorem d_12_pending_24 : decode prog_14_method_105_code 24 = .ok (.aload_n 0, 1) := by decide +kernel
theorem d_12_pending_25 : decode prog_14_method_105_code 25 = .ok (.invokevirtual 144, 3) := by decide +kernel
theorem d_12_pending_28 : decode prog_14_method_105_code 28 = .ok (.if_icmp .ge 55, 3) := by decide +kernel
theorem d_12_pending_31 : decode prog_14_method_105_code 31 = .ok (.iload_n 2, 1) := by decide +kernel
theorem d_12_pending_32 : decode prog_14_method_105_code 32 = .ok (.aload_n 0, 1) := by decide +kernel
theorem d_12_pending_33 : decode prog_14_method_105_code 33 = .ok (.iload_n 1, 1) := by decide +kernel
theorem d_12_pending_34 : decode prog_14_method_105_code 34 = .ok (.aload_n 0, 1) := by decide +kernel
theorem d_12_pending_35 : decode prog_14_method_105_code 35 = .ok (.sipush 273, 3) := by decide +kernel
theorem d_12_pending_38 : decode prog_14_method_105_code 38 = .ok (.iload_n 3, 1) := by decide +kernel
theorem d_12_pending_39 : decode prog_14_method_105_code 39 = .ok (.invokevirtual 71, 3) := by decide +kernel
theorem d_12_pending_42 : decode prog_14_method_105_code 42 = .ok (.invokevirtual 157, 3) := by decide +kernel
theorem d_12_pending_45 : decode prog_14_method_105_code 45 = .ok (.ifCond .eq 29, 3) := by decide +kernel
theorem d_12_pending_48 : decode prog_14_method_105_code 48 = .ok (.aload_n 0, 1) := by decide +kernel
theorem d_12_pending_49 : decode prog_14_method_105_code 49 = .ok (.iload_n 1, 1) := by decide +kernel
theorem d_12_pending_50 : decode prog_14_method_105_code 50 = .ok (.invokestatic 68, 3) := by decide +kernel
theorem d_12_pending_53 : decode prog_14_method_105_code 53 = .ok (.aload_n 0, 1) := by decide +kernel
theorem d_12_pending_54 : decode prog_14_method_105_code 54 = .ok (.sipush 273, 3) := by decide +kernel
theorem d_12_pending_57 : decode prog_14_method_105_code 57 = .ok (.iload_n 3, 1) := by decide +kernel
theorem d_12_pending_58 : decode prog_14_method_105_code 58 = .ok (.invokevirtual 71, 3) := by decide +kernel
theorem d_12_pending_61 : decode prog_14_method_105_code 61 = .ok (.invokevirtual 78, 3) := by decide +kernel
theorem d_12_pending_64 : decode prog_14_method_105_code 64 = .ok (.iconst (-1), 1) := by decide +kernel
theorem d_12_pending_65 : decode prog_14_method_105_code 65 = .ok (.if_icmp .ne 9, 3) := by decide +kernel
theorem d_12_pending_68 : decode prog_14_method_105_code 68 = .ok (.iconst 1, 1) := by decide +kernel
theorem d_12_pending_69 : decode prog_14_method_105_code 69 = .ok (.iload_n 3, 1) := by decide +kernel
theorem d_12_pending_70 : decode prog_14_method_105_code 70 = .ok (.ishl, 1) := by decide +kernel
theorem d_12_pending_71 : decode prog_14_method_105_code 71 = .ok (.goto 4, 3) := by decide +kernel
theorem d_12_pending_74 : decode prog_14_method_105_code 74 = .ok (.iconst 0, 1) := by decide +kernel
theorem d_12_pending_75 : decode prog_14_method_105_code 75 = .ok (.ior, 1) := by decide +kernel
theorem d_12_pending_76 : decode prog_14_method_105_code 76 = .ok (.istore_n 2, 1) := by decide +kernel
theorem d_12_pending_77 : decode prog_14_method_105_code 77 = .ok (.iinc 3 1, 3) := by decide +kernel
theorem d_12_pending_80 : decode prog_14_method_105_code 80 = .ok (.goto (-57), 3) := by decide +kernel
theorem d_12_pending_83 : decode prog_14_method_105_code 83 = .ok (.iload_n 2, 1) := by decide +kernel
theorem d_12_pending_84 : decode prog_14_method_105_code 84 = .ok (.ireturn, 1) := by decide +kernel
theorem d_12_rankOf_0 : decode prog_14_method_66_code 0 = .ok (.iconst 0, 1) := by decide +kernel
theorem d_12_rankOf_1 : decode prog_14_method_66_code 1 = .ok (.istore_n 3, 1) := by decide +kernel
theorem d_12_rankOf_2 : decode prog_14_method_66_code 2 = .ok (.iload_n 3, 1) := by decide +kernel
theorem d_12_rankOf_3 : decode prog_14_method_66_code 3 = .ok (.iload_n 1, 1) := by decide +kernel
theorem d_12_rankOf_4 : decode prog_14_method_66_code 4 = .ok (.if_icmp .ge 19, 3) := by decide +kernel
theorem d_12_rankOf_7 : decode prog_14_method_66_code 7 = .ok (.aload_n 0, 1) := by decide +kernel
theorem d_12_rankOf_8 : decode prog_14_method_66_code 8 = .ok (.getfield 33, 3) := by decide +kernel
theorem d_12_rankOf_11 : decode prog_14_method_66_code 11 = .ok (.iload_n 3, 1) := by decide +kernel
theorem d_12_rankOf_12 : decode prog_14_method_66_code 12 = .ok (.iaload, 1) := by decide +kernel
theorem d_12_rankOf_13 : decode prog_14_method_66_code 13 = .ok (.iload_n 2, 1) := by decide +kernel
theorem d_12_rankOf_14 : decode prog_14_method_66_code 14 = .ok (.if_icmp .eq 9, 3) := by decide +kernel
theorem d_12_rankOf_17 : decode prog_14_method_66_code 17 = .ok (.iinc 3 1, 3) := by decide +kernel
theorem d_12_rankOf_20 : decode prog_14_method_66_code 20 = .ok (.goto (-18), 3) := by decide +kernel
theorem d_12_rankOf_23 : decode prog_14_method_66_code 23 = .ok (.iload_n 3, 1) := by decide +kernel
theorem d_12_rankOf_24 : decode prog_14_method_66_code 24 = .ok (.iload_n 1, 1) := by decide +kernel
theorem d_12_rankOf_25 : decode prog_14_method_66_code 25 = .ok (.if_icmp .ge 7, 3) := by decide +kernel
theorem d_12_rankOf_28 : decode prog_14_method_66_code 28 = .ok (.iload_n 3, 1) := by decide +kernel
theorem d_12_rankOf_29 : decode prog_14_method_66_code 29 = .ok (.goto 4, 3) := by decide +kernel
theorem d_12_rankOf_32 : decode prog_14_method_66_code 32 = .ok (.iconst (-1), 1) := by decide +kernel
theorem d_12_rankOf_33 : decode prog_14_method_66_code 33 = .ok (.ireturn, 1) := by decide +kernel
theorem d_12_rank_0 : decode prog_14_method_106_code 0 = .ok (.aload_n 0, 1) := by decide +kernel
theorem d_12_rank_1 : decode prog_14_method_106_code 1 = .ok (.iload_n 1, 1) := by decide +kernel
theorem d_12_rank_2 : decode prog_14_method_106_code 2 = .ok (.iload_n 2, 1) := by decide +kernel
theorem d_12_rank_3 : decode prog_14_method_106_code 3 = .ok (.invokevirtual 341, 3) := by decide +kernel
theorem d_12_rank_6 : decode prog_14_method_106_code 6 = .ok (.ifCond .eq 7, 3) := by decide +kernel
theorem d_12_rank_9 : decode prog_14_method_106_code 9 = .ok (.iconst 0, 1) := by decide +kernel
theorem d_12_rank_10 : decode prog_14_method_106_code 10 = .ok (.goto 13, 3) := by decide +kernel
theorem d_12_rank_13 : decode prog_14_method_106_code 13 = .ok (.aload_n 0, 1) := by decide +kernel
theorem d_12_rank_14 : decode prog_14_method_106_code 14 = .ok (.aload_n 0, 1) := by decide +kernel
theorem d_12_rank_15 : decode prog_14_method_106_code 15 = .ok (.iload_n 1, 1) := by decide +kernel
theorem d_12_rank_16 : decode prog_14_method_106_code 16 = .ok (.invokevirtual 270, 3) := by decide +kernel
theorem d_12_rank_19 : decode prog_14_method_106_code 19 = .ok (.iload_n 2, 1) := by decide +kernel
theorem d_12_rank_20 : decode prog_14_method_106_code 20 = .ok (.invokevirtual 344, 3) := by decide +kernel
theorem d_12_rank_23 : decode prog_14_method_106_code 23 = .ok (.ireturn, 1) := by decide +kernel
theorem d_12_moves_0 : decode prog_14_method_107_code 0 = .ok (.aload_n 0, 1) := by decide +kernel
theorem d_12_moves_1 : decode prog_14_method_107_code 1 = .ok (.iconst 0, 1) := by decide +kernel
theorem d_12_moves_2 : decode prog_14_method_107_code 2 = .ok (.putfield 3, 3) := by decide +kernel
theorem d_12_moves_5 : decode prog_14_method_107_code 5 = .ok (.aload_n 0, 1) := by decide +kernel
theorem d_12_moves_6 : decode prog_14_method_107_code 6 = .ok (.iload_n 1, 1) := by decide +kernel
theorem d_12_moves_7 : decode prog_14_method_107_code 7 = .ok (.invokestatic 239, 3) := by decide +kernel
theorem d_12_moves_10 : decode prog_14_method_107_code 10 = .ok (.iconst 1, 1) := by decide +kernel
theorem d_12_moves_11 : decode prog_14_method_107_code 11 = .ok (.invokevirtual 185, 3) := by decide +kernel
theorem d_12_moves_14 : decode prog_14_method_107_code 14 = .ok (.ifCond .eq 5, 3) := by decide +kernel
theorem d_12_moves_17 : decode prog_14_method_107_code 17 = .ok (.iconst 0, 1) := by decide +kernel
theorem d_12_moves_18 : decode prog_14_method_107_code 18 = .ok (.ireturn, 1) := by decide +kernel
theorem d_12_moves_19 : decode prog_14_method_107_code 19 = .ok (.iload_n 1, 1) := by decide +kernel
theorem d_12_moves_20 : decode prog_14_method_107_code 20 = .ok (.invokestatic 68, 3) := by decide +kernel
theorem d_12_moves_23 : decode prog_14_method_107_code 23 = .ok (.istore_n 2, 1) := by decide +kernel
theorem d_12_moves_24 : decode prog_14_method_107_code 24 = .ok (.aload_n 0, 1) := by decide +kernel
theorem d_12_moves_25 : decode prog_14_method_107_code 25 = .ok (.iload_n 1, 1) := by decide +kernel
theorem d_12_moves_26 : decode prog_14_method_107_code 26 = .ok (.invokevirtual 270, 3) := by decide +kernel
theorem d_12_moves_29 : decode prog_14_method_107_code 29 = .ok (.istore_n 3, 1) := by decide +kernel
theorem d_12_moves_30 : decode prog_14_method_107_code 30 = .ok (.iconst 0, 1) := by decide +kernel
theorem d_12_moves_31 : decode prog_14_method_107_code 31 = .ok (.istore 4, 2) := by decide +kernel
theorem d_12_moves_33 : decode prog_14_method_107_code 33 = .ok (.iconst 0, 1) := by decide +kernel
theorem d_12_moves_34 : decode prog_14_method_107_code 34 = .ok (.istore 5, 2) := by decide +kernel
theorem d_12_moves_36 : decode prog_14_method_107_code 36 = .ok (.iconst 0, 1) := by decide +kernel
theorem d_12_moves_37 : decode prog_14_method_107_code 37 = .ok (.istore 6, 2) := by decide +kernel
theorem d_12_moves_39 : decode prog_14_method_107_code 39 = .ok (.iload 6, 2) := by decide +kernel
theorem d_12_moves_41 : decode prog_14_method_107_code 41 = .ok (.aload_n 0, 1) := by decide +kernel
theorem d_12_moves_42 : decode prog_14_method_107_code 42 = .ok (.iload_n 2, 1) := by decide +kernel
theorem d_12_moves_43 : decode prog_14_method_107_code 43 = .ok (.invokevirtual 64, 3) := by decide +kernel
theorem d_12_moves_46 : decode prog_14_method_107_code 46 = .ok (.if_icmp .ge 132, 3) := by decide +kernel
theorem d_12_moves_49 : decode prog_14_method_107_code 49 = .ok (.aload_n 0, 1) := by decide +kernel
theorem d_12_moves_50 : decode prog_14_method_107_code 50 = .ok (.iload_n 3, 1) := by decide +kernel
theorem d_12_moves_51 : decode prog_14_method_107_code 51 = .ok (.aload_n 0, 1) := by decide +kernel
theorem d_12_moves_52 : decode prog_14_method_107_code 52 = .ok (.iload_n 2, 1) := by decide +kernel
theorem d_12_moves_53 : decode prog_14_method_107_code 53 = .ok (.iload 6, 2) := by decide +kernel
theorem d_12_moves_55 : decode prog_14_method_107_code 55 = .ok (.invokevirtual 71, 3) := by decide +kernel
theorem d_12_moves_58 : decode prog_14_method_107_code 58 = .ok (.invokevirtual 344, 3) := by decide +kernel
theorem d_12_moves_61 : decode prog_14_method_107_code 61 = .ok (.istore 7, 2) := by decide +kernel
theorem d_12_moves_63 : decode prog_14_method_107_code 63 = .ok (.aload_n 0, 1) := by decide +kernel
theorem d_12_moves_64 : decode prog_14_method_107_code 64 = .ok (.getfield 42, 3) := by decide +kernel
theorem d_12_moves_67 : decode prog_14_method_107_code 67 = .ok (.iload 6, 2) := by decide +kernel
theorem d_12_moves_69 : decode prog_14_method_107_code 69 = .ok (.iconst 0, 1) := by decide +kernel
theorem d_12_moves_70 : decode prog_14_method_107_code 70 = .ok (.iastore, 1) := by decide +kernel
theorem d_12_moves_71 : decode prog_14_method_107_code 71 = .ok (.iload 7, 2) := by decide +kernel
theorem d_12_moves_73 : decode prog_14_method_107_code 73 = .ok (.iconst (-1), 1) := by decide +kernel
theorem d_12_moves_74 : decode prog_14_method_107_code 74 = .ok (.if_icmp .ne 6, 3) := by decide +kernel
theorem d_12_moves_77 : decode prog_14_method_107_code 77 = .ok (.goto 95, 3) := by decide +kernel
theorem d_12_moves_80 : decode prog_14_method_107_code 80 = .ok (.iinc 4 1, 3) := by decide +kernel
theorem d_12_moves_83 : decode prog_14_method_107_code 83 = .ok (.iconst 0, 1) := by decide +kernel
theorem d_12_moves_84 : decode prog_14_method_107_code 84 = .ok (.istore 8, 2) := by decide +kernel
theorem d_12_moves_86 : decode prog_14_method_107_code 86 = .ok (.iload 8, 2) := by decide +kernel
theorem d_12_moves_88 : decode prog_14_method_107_code 88 = .ok (.iload 6, 2) := by decide +kernel
theorem d_12_moves_90 : decode prog_14_method_107_code 90 = .ok (.if_icmp .ge 57, 3) := by decide +kernel
theorem d_12_moves_93 : decode prog_14_method_107_code 93 = .ok (.aload_n 0, 1) := by decide +kernel
theorem d_12_moves_94 : decode prog_14_method_107_code 94 = .ok (.getfield 42, 3) := by decide +kernel
theorem d_12_moves_97 : decode prog_14_method_107_code 97 = .ok (.iload 8, 2) := by decide +kernel
theorem d_12_moves_99 : decode prog_14_method_107_code 99 = .ok (.iaload, 1) := by decide +kernel
theorem d_12_moves_100 : decode prog_14_method_107_code 100 = .ok (.aload_n 0, 1) := by decide +kernel
theorem d_12_moves_101 : decode prog_14_method_107_code 101 = .ok (.getfield 42, 3) := by decide +kernel
theorem d_12_moves_104 : decode prog_14_method_107_code 104 = .ok (.iload 6, 2) := by decide +kernel
theorem d_12_moves_106 : decode prog_14_method_107_code 106 = .ok (.iaload, 1) := by decide +kernel
theorem d_12_moves_107 : decode prog_14_method_107_code 107 = .ok (.if_icmp .le 34, 3) := by decide +kernel
theorem d_12_moves_110 : decode prog_14_method_107_code 110 = .ok (.aload_n 0, 1) := by decide +kernel
theorem d_12_moves_111 : decode prog_14_method_107_code 111 = .ok (.iload_n 3, 1) := by decide +kernel
theorem d_12_moves_112 : decode prog_14_method_107_code 112 = .ok (.aload_n 0, 1) := by decide +kernel
theorem d_12_moves_113 : decode prog_14_method_107_code 113 = .ok (.iload_n 2, 1) := by decide +kernel
theorem d_12_moves_114 : decode prog_14_method_107_code 114 = .ok (.iload 8, 2) := by decide +kernel
theorem d_12_moves_116 : decode prog_14_method_107_code 116 = .ok (.invokevirtual 71, 3) := by decide +kernel
theorem d_12_moves_119 : decode prog_14_method_107_code 119 = .ok (.invokevirtual 344, 3) := by decide +kernel
theorem d_12_moves_122 : decode prog_14_method_107_code 122 = .ok (.iload 7, 2) := by decide +kernel
theorem d_12_moves_124 : decode prog_14_method_107_code 124 = .ok (.if_icmp .ge 17, 3) := by decide +kernel
theorem d_12_moves_127 : decode prog_14_method_107_code 127 = .ok (.aload_n 0, 1) := by decide +kernel
theorem d_12_moves_128 : decode prog_14_method_107_code 128 = .ok (.getfield 42, 3) := by decide +kernel
theorem d_12_moves_131 : decode prog_14_method_107_code 131 = .ok (.iload 6, 2) := by decide +kernel
theorem d_12_moves_133 : decode prog_14_method_107_code 133 = .ok (.aload_n 0, 1) := by decide +kernel
theorem d_12_moves_134 : decode prog_14_method_107_code 134 = .ok (.getfield 42, 3) := by decide +kernel
theorem d_12_moves_137 : decode prog_14_method_107_code 137 = .ok (.iload 8, 2) := by decide +kernel
theorem d_12_moves_139 : decode prog_14_method_107_code 139 = .ok (.iaload, 1) := by decide +kernel
theorem d_12_moves_140 : decode prog_14_method_107_code 140 = .ok (.iastore, 1) := by decide +kernel
theorem d_12_moves_141 : decode prog_14_method_107_code 141 = .ok (.iinc 8 1, 3) := by decide +kernel
theorem d_12_moves_144 : decode prog_14_method_107_code 144 = .ok (.goto (-58), 3) := by decide +kernel
theorem d_12_moves_147 : decode prog_14_method_107_code 147 = .ok (.aload_n 0, 1) := by decide +kernel
theorem d_12_moves_148 : decode prog_14_method_107_code 148 = .ok (.getfield 42, 3) := by decide +kernel
theorem d_12_moves_151 : decode prog_14_method_107_code 151 = .ok (.iload 6, 2) := by decide +kernel
theorem d_12_moves_153 : decode prog_14_method_107_code 153 = .ok (.dup2, 1) := by decide +kernel
theorem d_12_moves_154 : decode prog_14_method_107_code 154 = .ok (.iaload, 1) := by decide +kernel
theorem d_12_moves_155 : decode prog_14_method_107_code 155 = .ok (.iconst 1, 1) := by decide +kernel
theorem d_12_moves_156 : decode prog_14_method_107_code 156 = .ok (.iadd, 1) := by decide +kernel
theorem d_12_moves_157 : decode prog_14_method_107_code 157 = .ok (.iastore, 1) := by decide +kernel
theorem d_12_moves_158 : decode prog_14_method_107_code 158 = .ok (.iload 5, 2) := by decide +kernel
theorem d_12_moves_160 : decode prog_14_method_107_code 160 = .ok (.aload_n 0, 1) := by decide +kernel
theorem d_12_moves_161 : decode prog_14_method_107_code 161 = .ok (.getfield 42, 3) := by decide +kernel
theorem d_12_moves_164 : decode prog_14_method_107_code 164 = .ok (.iload 6, 2) := by decide +kernel
theorem d_12_moves_166 : decode prog_14_method_107_code 166 = .ok (.iaload, 1) := by decide +kernel
theorem d_12_moves_167 : decode prog_14_method_107_code 167 = .ok (.invokestatic 326, 3) := by decide +kernel
theorem d_12_moves_170 : decode prog_14_method_107_code 170 = .ok (.istore 5, 2) := by decide +kernel
theorem d_12_moves_172 : decode prog_14_method_107_code 172 = .ok (.iinc 6 1, 3) := by decide +kernel
theorem d_12_moves_175 : decode prog_14_method_107_code 175 = .ok (.goto (-136), 3) := by decide +kernel
theorem d_12_moves_178 : decode prog_14_method_107_code 178 = .ok (.iload 4, 2) := by decide +kernel
theorem d_12_moves_180 : decode prog_14_method_107_code 180 = .ok (.iload 5, 2) := by decide +kernel
theorem d_12_moves_182 : decode prog_14_method_107_code 182 = .ok (.isub, 1) := by decide +kernel
theorem d_12_moves_183 : decode prog_14_method_107_code 183 = .ok (.ireturn, 1) := by decide +kernel
theorem d_12_unlike_0 : decode prog_14_method_108_code 0 = .ok (.aload_n 0, 1) := by decide +kernel
theorem d_12_unlike_1 : decode prog_14_method_108_code 1 = .ok (.iconst 0, 1) := by decide +kernel
theorem d_12_unlike_2 : decode prog_14_method_108_code 2 = .ok (.putfield 3, 3) := by decide +kernel
theorem d_12_unlike_5 : decode prog_14_method_108_code 5 = .ok (.aload_n 0, 1) := by decide +kernel
theorem d_12_unlike_6 : decode prog_14_method_108_code 6 = .ok (.iload_n 1, 1) := by decide +kernel
theorem d_12_unlike_7 : decode prog_14_method_108_code 7 = .ok (.invokestatic 239, 3) := by decide +kernel
theorem d_12_unlike_10 : decode prog_14_method_108_code 10 = .ok (.ifCond .ne 10, 3) := by decide +kernel
theorem d_12_unlike_13 : decode prog_14_method_108_code 13 = .ok (.iload_n 2, 1) := by decide +kernel
theorem d_12_unlike_14 : decode prog_14_method_108_code 14 = .ok (.invokestatic 239, 3) := by decide +kernel
theorem d_12_unlike_17 : decode prog_14_method_108_code 17 = .ok (.ifCond .eq 7, 3) := by decide +kernel
theorem d_12_unlike_20 : decode prog_14_method_108_code 20 = .ok (.iconst 1, 1) := by decide +kernel
theorem d_12_unlike_21 : decode prog_14_method_108_code 21 = .ok (.goto 4, 3) := by decide +kernel
theorem d_12_unlike_24 : decode prog_14_method_108_code 24 = .ok (.iconst 0, 1) := by decide +kernel
theorem d_12_unlike_25 : decode prog_14_method_108_code 25 = .ok (.iconst 1, 1) := by decide +kernel
theorem d_12_unlike_26 : decode prog_14_method_108_code 26 = .ok (.invokevirtual 185, 3) := by decide +kernel
theorem d_12_unlike_29 : decode prog_14_method_108_code 29 = .ok (.ifCond .ne 21, 3) := by decide +kernel
theorem d_12_unlike_32 : decode prog_14_method_108_code 32 = .ok (.aload_n 0, 1) := by decide +kernel
theorem d_12_unlike_33 : decode prog_14_method_108_code 33 = .ok (.iload_n 1, 1) := by decide +kernel
theorem d_12_unlike_34 : decode prog_14_method_108_code 34 = .ok (.iload_n 2, 1) := by decide +kernel
theorem d_12_unlike_35 : decode prog_14_method_108_code 35 = .ok (.if_icmp .ne 7, 3) := by decide +kernel
theorem d_12_unlike_38 : decode prog_14_method_108_code 38 = .ok (.iconst 1, 1) := by decide +kernel
theorem d_12_unlike_39 : decode prog_14_method_108_code 39 = .ok (.goto 4, 3) := by decide +kernel
theorem d_12_unlike_42 : decode prog_14_method_108_code 42 = .ok (.iconst 0, 1) := by decide +kernel
theorem d_12_unlike_43 : decode prog_14_method_108_code 43 = .ok (.iconst 2, 1) := by decide +kernel
theorem d_12_unlike_44 : decode prog_14_method_108_code 44 = .ok (.invokevirtual 185, 3) := by decide +kernel
theorem d_12_unlike_47 : decode prog_14_method_108_code 47 = .ok (.ifCond .eq 5, 3) := by decide +kernel
theorem d_12_unlike_50 : decode prog_14_method_108_code 50 = .ok (.iconst 0, 1) := by decide +kernel
theorem d_12_unlike_51 : decode prog_14_method_108_code 51 = .ok (.ireturn, 1) := by decide +kernel
theorem d_12_unlike_52 : decode prog_14_method_108_code 52 = .ok (.iload_n 1, 1) := by decide +kernel
theorem d_12_unlike_53 : decode prog_14_method_108_code 53 = .ok (.invokestatic 68, 3) := by decide +kernel
theorem d_12_unlike_56 : decode prog_14_method_108_code 56 = .ok (.istore_n 3, 1) := by decide +kernel
theorem d_12_unlike_57 : decode prog_14_method_108_code 57 = .ok (.iconst 0, 1) := by decide +kernel
theorem d_12_unlike_58 : decode prog_14_method_108_code 58 = .ok (.istore 4, 2) := by decide +kernel
theorem d_12_unlike_60 : decode prog_14_method_108_code 60 = .ok (.iconst 0, 1) := by decide +kernel
theorem d_12_unlike_61 : decode prog_14_method_108_code 61 = .ok (.istore 5, 2) := by decide +kernel
theorem d_12_unlike_63 : decode prog_14_method_108_code 63 = .ok (.iload 5, 2) := by decide +kernel
theorem d_12_unlike_65 : decode prog_14_method_108_code 65 = .ok (.aload_n 0, 1) := by decide +kernel
theorem d_12_unlike_66 : decode prog_14_method_108_code 66 = .ok (.iload_n 3, 1) := by decide +kernel
theorem d_12_unlike_67 : decode prog_14_method_108_code 67 = .ok (.invokevirtual 64, 3) := by decide +kernel
theorem d_12_unlike_70 : decode prog_14_method_108_code 70 = .ok (.if_icmp .ge 94, 3) := by decide +kernel
theorem d_12_unlike_73 : decode prog_14_method_108_code 73 = .ok (.iload 5, 2) := by decide +kernel
theorem d_12_unlike_75 : decode prog_14_method_108_code 75 = .ok (.iconst 1, 1) := by decide +kernel
theorem d_12_unlike_76 : decode prog_14_method_108_code 76 = .ok (.iadd, 1) := by decide +kernel
theorem d_12_unlike_77 : decode prog_14_method_108_code 77 = .ok (.istore 6, 2) := by decide +kernel
theorem d_12_unlike_79 : decode prog_14_method_108_code 79 = .ok (.iload 6, 2) := by decide +kernel
theorem d_12_unlike_81 : decode prog_14_method_108_code 81 = .ok (.aload_n 0, 1) := by decide +kernel
theorem d_12_unlike_82 : decode prog_14_method_108_code 82 = .ok (.iload_n 3, 1) := by decide +kernel
theorem d_12_unlike_83 : decode prog_14_method_108_code 83 = .ok (.invokevirtual 64, 3) := by decide +kernel
theorem d_12_unlike_86 : decode prog_14_method_108_code 86 = .ok (.if_icmp .ge 72, 3) := by decide +kernel
theorem d_12_unlike_89 : decode prog_14_method_108_code 89 = .ok (.aload_n 0, 1) := by decide +kernel
theorem d_12_unlike_90 : decode prog_14_method_108_code 90 = .ok (.iload_n 2, 1) := by decide +kernel
theorem d_12_unlike_91 : decode prog_14_method_108_code 91 = .ok (.invokestatic 68, 3) := by decide +kernel
theorem d_12_unlike_94 : decode prog_14_method_108_code 94 = .ok (.aload_n 0, 1) := by decide +kernel
theorem d_12_unlike_95 : decode prog_14_method_108_code 95 = .ok (.iload_n 3, 1) := by decide +kernel
theorem d_12_unlike_96 : decode prog_14_method_108_code 96 = .ok (.iload 5, 2) := by decide +kernel
theorem d_12_unlike_98 : decode prog_14_method_108_code 98 = .ok (.invokevirtual 71, 3) := by decide +kernel
theorem d_12_unlike_101 : decode prog_14_method_108_code 101 = .ok (.invokevirtual 78, 3) := by decide +kernel
theorem d_12_unlike_104 : decode prog_14_method_108_code 104 = .ok (.istore 7, 2) := by decide +kernel
theorem d_12_unlike_106 : decode prog_14_method_108_code 106 = .ok (.aload_n 0, 1) := by decide +kernel
theorem d_12_unlike_107 : decode prog_14_method_108_code 107 = .ok (.iload_n 2, 1) := by decide +kernel
theorem d_12_unlike_108 : decode prog_14_method_108_code 108 = .ok (.invokestatic 68, 3) := by decide +kernel
theorem d_12_unlike_111 : decode prog_14_method_108_code 111 = .ok (.aload_n 0, 1) := by decide +kernel
theorem d_12_unlike_112 : decode prog_14_method_108_code 112 = .ok (.iload_n 3, 1) := by decide +kernel
theorem d_12_unlike_113 : decode prog_14_method_108_code 113 = .ok (.iload 6, 2) := by decide +kernel
theorem d_12_unlike_115 : decode prog_14_method_108_code 115 = .ok (.invokevirtual 71, 3) := by decide +kernel
theorem d_12_unlike_118 : decode prog_14_method_108_code 118 = .ok (.invokevirtual 78, 3) := by decide +kernel
theorem d_12_unlike_121 : decode prog_14_method_108_code 121 = .ok (.istore 8, 2) := by decide +kernel
theorem d_12_unlike_123 : decode prog_14_method_108_code 123 = .ok (.iload 4, 2) := by decide +kernel
theorem d_12_unlike_125 : decode prog_14_method_108_code 125 = .ok (.iload 7, 2) := by decide +kernel
theorem d_12_unlike_127 : decode prog_14_method_108_code 127 = .ok (.iconst (-1), 1) := by decide +kernel
theorem d_12_unlike_128 : decode prog_14_method_108_code 128 = .ok (.if_icmp .eq 20, 3) := by decide +kernel
theorem d_12_unlike_131 : decode prog_14_method_108_code 131 = .ok (.iload 8, 2) := by decide +kernel
theorem d_12_unlike_133 : decode prog_14_method_108_code 133 = .ok (.iconst (-1), 1) := by decide +kernel
theorem d_12_unlike_134 : decode prog_14_method_108_code 134 = .ok (.if_icmp .eq 14, 3) := by decide +kernel
theorem d_12_unlike_137 : decode prog_14_method_108_code 137 = .ok (.iload 7, 2) := by decide +kernel
theorem d_12_unlike_139 : decode prog_14_method_108_code 139 = .ok (.iload 8, 2) := by decide +kernel
theorem d_12_unlike_141 : decode prog_14_method_108_code 141 = .ok (.if_icmp .le 7, 3) := by decide +kernel
theorem d_12_unlike_144 : decode prog_14_method_108_code 144 = .ok (.iconst 1, 1) := by decide +kernel
theorem d_12_unlike_145 : decode prog_14_method_108_code 145 = .ok (.goto 4, 3) := by decide +kernel
theorem d_12_unlike_148 : decode prog_14_method_108_code 148 = .ok (.iconst 0, 1) := by decide +kernel
theorem d_12_unlike_149 : decode prog_14_method_108_code 149 = .ok (.iadd, 1) := by decide +kernel
theorem d_12_unlike_150 : decode prog_14_method_108_code 150 = .ok (.istore 4, 2) := by decide +kernel
theorem d_12_unlike_152 : decode prog_14_method_108_code 152 = .ok (.iinc 6 1, 3) := by decide +kernel
theorem d_12_unlike_155 : decode prog_14_method_108_code 155 = .ok (.goto (-76), 3) := by decide +kernel
theorem d_12_unlike_158 : decode prog_14_method_108_code 158 = .ok (.iinc 5 1, 3) := by decide +kernel
theorem d_12_unlike_161 : decode prog_14_method_108_code 161 = .ok (.goto (-98), 3) := by decide +kernel
theorem d_12_unlike_164 : decode prog_14_method_108_code 164 = .ok (.iload 4, 2) := by decide +kernel
theorem d_12_unlike_166 : decode prog_14_method_108_code 166 = .ok (.ireturn, 1) := by decide +kernel
theorem d_12_byTried_0 : decode prog_14_method_110_code 0 = .ok (.iconst 0, 1) := by decide +kernel
theorem d_12_byTried_1 : decode prog_14_method_110_code 1 = .ok (.istore 4, 2) := by decide +kernel
theorem d_12_byTried_3 : decode prog_14_method_110_code 3 = .ok (.iconst 0, 1) := by decide +kernel
theorem d_12_byTried_4 : decode prog_14_method_110_code 4 = .ok (.istore 5, 2) := by decide +kernel
theorem d_12_byTried_6 : decode prog_14_method_110_code 6 = .ok (.iload 5, 2) := by decide +kernel
theorem d_12_byTried_8 : decode prog_14_method_110_code 8 = .ok (.iload_n 1, 1) := by decide +kernel
theorem d_12_byTried_9 : decode prog_14_method_110_code 9 = .ok (.if_icmp .ge 29, 3) := by decide +kernel
theorem d_12_byTried_12 : decode prog_14_method_110_code 12 = .ok (.iload 4, 2) := by decide +kernel
theorem d_12_byTried_14 : decode prog_14_method_110_code 14 = .ok (.ifCond .ne 24, 3) := by decide +kernel
theorem d_12_byTried_17 : decode prog_14_method_110_code 17 = .ok (.aload_n 0, 1) := by decide +kernel
theorem d_12_byTried_18 : decode prog_14_method_110_code 18 = .ok (.aload_n 0, 1) := by decide +kernel
theorem d_12_byTried_19 : decode prog_14_method_110_code 19 = .ok (.getfield 45, 3) := by decide +kernel
theorem d_12_byTried_22 : decode prog_14_method_110_code 22 = .ok (.iload 5, 2) := by decide +kernel
theorem d_12_byTried_24 : decode prog_14_method_110_code 24 = .ok (.iaload, 1) := by decide +kernel
theorem d_12_byTried_25 : decode prog_14_method_110_code 25 = .ok (.iload_n 2, 1) := by decide +kernel
theorem d_12_byTried_26 : decode prog_14_method_110_code 26 = .ok (.iload_n 3, 1) := by decide +kernel
theorem d_12_byTried_27 : decode prog_14_method_110_code 27 = .ok (.invokevirtual 263, 3) := by decide +kernel
theorem d_12_byTried_30 : decode prog_14_method_110_code 30 = .ok (.istore 4, 2) := by decide +kernel
theorem d_12_byTried_32 : decode prog_14_method_110_code 32 = .ok (.iinc 5 1, 3) := by decide +kernel
theorem d_12_byTried_35 : decode prog_14_method_110_code 35 = .ok (.goto (-29), 3) := by decide +kernel
theorem d_12_byTried_38 : decode prog_14_method_110_code 38 = .ok (.iload 4, 2) := by decide +kernel
theorem d_12_byTried_40 : decode prog_14_method_110_code 40 = .ok (.ifCond .eq 8, 3) := by decide +kernel
theorem d_12_byTried_43 : decode prog_14_method_110_code 43 = .ok (.iload 4, 2) := by decide +kernel
theorem d_12_byTried_45 : decode prog_14_method_110_code 45 = .ok (.goto 27, 3) := by decide +kernel
theorem d_12_byTried_48 : decode prog_14_method_110_code 48 = .ok (.aload_n 0, 1) := by decide +kernel
theorem d_12_byTried_49 : decode prog_14_method_110_code 49 = .ok (.sipush 273, 3) := by decide +kernel
theorem d_12_byTried_52 : decode prog_14_method_110_code 52 = .ok (.iload_n 2, 1) := by decide +kernel
theorem d_12_byTried_53 : decode prog_14_method_110_code 53 = .ok (.invokevirtual 78, 3) := by decide +kernel
theorem d_12_byTried_56 : decode prog_14_method_110_code 56 = .ok (.aload_n 0, 1) := by decide +kernel
theorem d_12_byTried_57 : decode prog_14_method_110_code 57 = .ok (.sipush 273, 3) := by decide +kernel
theorem d_12_byTried_60 : decode prog_14_method_110_code 60 = .ok (.iload_n 3, 1) := by decide +kernel
theorem d_12_byTried_61 : decode prog_14_method_110_code 61 = .ok (.invokevirtual 78, 3) := by decide +kernel
theorem d_12_byTried_64 : decode prog_14_method_110_code 64 = .ok (.if_icmp .le 7, 3) := by decide +kernel
theorem d_12_byTried_67 : decode prog_14_method_110_code 67 = .ok (.iconst 1, 1) := by decide +kernel
theorem d_12_byTried_68 : decode prog_14_method_110_code 68 = .ok (.goto 4, 3) := by decide +kernel
theorem d_12_byTried_71 : decode prog_14_method_110_code 71 = .ok (.iconst (-1), 1) := by decide +kernel
theorem d_12_byTried_72 : decode prog_14_method_110_code 72 = .ok (.ireturn, 1) := by decide +kernel
theorem d_12_isSorted_0 : decode prog_14_method_109_code 0 = .ok (.iconst 1, 1) := by decide +kernel
theorem d_12_isSorted_1 : decode prog_14_method_109_code 1 = .ok (.istore_n 3, 1) := by decide +kernel
theorem d_12_isSorted_2 : decode prog_14_method_109_code 2 = .ok (.iconst 0, 1) := by decide +kernel
theorem d_12_isSorted_3 : decode prog_14_method_109_code 3 = .ok (.istore 4, 2) := by decide +kernel
theorem d_12_isSorted_5 : decode prog_14_method_109_code 5 = .ok (.iload 4, 2) := by decide +kernel
theorem d_12_isSorted_7 : decode prog_14_method_109_code 7 = .ok (.iconst 1, 1) := by decide +kernel
theorem d_12_isSorted_8 : decode prog_14_method_109_code 8 = .ok (.iadd, 1) := by decide +kernel
theorem d_12_isSorted_9 : decode prog_14_method_109_code 9 = .ok (.aload_n 0, 1) := by decide +kernel
theorem d_12_isSorted_10 : decode prog_14_method_109_code 10 = .ok (.iload_n 1, 1) := by decide +kernel
theorem d_12_isSorted_11 : decode prog_14_method_109_code 11 = .ok (.invokevirtual 64, 3) := by decide +kernel
theorem d_12_isSorted_14 : decode prog_14_method_109_code 14 = .ok (.if_icmp .ge 43, 3) := by decide +kernel
theorem d_12_isSorted_17 : decode prog_14_method_109_code 17 = .ok (.iload_n 3, 1) := by decide +kernel
theorem d_12_isSorted_18 : decode prog_14_method_109_code 18 = .ok (.ifCond .eq 39, 3) := by decide +kernel
theorem d_12_isSorted_21 : decode prog_14_method_109_code 21 = .ok (.aload_n 0, 1) := by decide +kernel
theorem d_12_isSorted_22 : decode prog_14_method_109_code 22 = .ok (.iload_n 2, 1) := by decide +kernel
theorem d_12_isSorted_23 : decode prog_14_method_109_code 23 = .ok (.aload_n 0, 1) := by decide +kernel
theorem d_12_isSorted_24 : decode prog_14_method_109_code 24 = .ok (.iload_n 1, 1) := by decide +kernel
theorem d_12_isSorted_25 : decode prog_14_method_109_code 25 = .ok (.iload 4, 2) := by decide +kernel
theorem d_12_isSorted_27 : decode prog_14_method_109_code 27 = .ok (.invokevirtual 71, 3) := by decide +kernel
theorem d_12_isSorted_30 : decode prog_14_method_109_code 30 = .ok (.aload_n 0, 1) := by decide +kernel
theorem d_12_isSorted_31 : decode prog_14_method_109_code 31 = .ok (.iload_n 1, 1) := by decide +kernel
theorem d_12_isSorted_32 : decode prog_14_method_109_code 32 = .ok (.iload 4, 2) := by decide +kernel
theorem d_12_isSorted_34 : decode prog_14_method_109_code 34 = .ok (.iconst 1, 1) := by decide +kernel
theorem d_12_isSorted_35 : decode prog_14_method_109_code 35 = .ok (.iadd, 1) := by decide +kernel
theorem d_12_isSorted_36 : decode prog_14_method_109_code 36 = .ok (.invokevirtual 71, 3) := by decide +kernel
theorem d_12_isSorted_39 : decode prog_14_method_109_code 39 = .ok (.invokevirtual 347, 3) := by decide +kernel
theorem d_12_isSorted_42 : decode prog_14_method_109_code 42 = .ok (.ifCond .ge 7, 3) := by decide +kernel
theorem d_12_isSorted_45 : decode prog_14_method_109_code 45 = .ok (.iconst 1, 1) := by decide +kernel
theorem d_12_isSorted_46 : decode prog_14_method_109_code 46 = .ok (.goto 4, 3) := by decide +kernel
theorem d_12_isSorted_49 : decode prog_14_method_109_code 49 = .ok (.iconst 0, 1) := by decide +kernel
theorem d_12_isSorted_50 : decode prog_14_method_109_code 50 = .ok (.istore_n 3, 1) := by decide +kernel
theorem d_12_isSorted_51 : decode prog_14_method_109_code 51 = .ok (.iinc 4 1, 3) := by decide +kernel
theorem d_12_isSorted_54 : decode prog_14_method_109_code 54 = .ok (.goto (-49), 3) := by decide +kernel
theorem d_12_isSorted_57 : decode prog_14_method_109_code 57 = .ok (.iload_n 3, 1) := by decide +kernel
theorem d_12_isSorted_58 : decode prog_14_method_109_code 58 = .ok (.ireturn, 1) := by decide +kernel
theorem d_12_sortsTelling_0 : decode prog_14_method_111_code 0 = .ok (.aload_n 0, 1) := by decide +kernel
theorem d_12_sortsTelling_1 : decode prog_14_method_111_code 1 = .ok (.iload_n 1, 1) := by decide +kernel
theorem d_12_sortsTelling_2 : decode prog_14_method_111_code 2 = .ok (.iconst 0, 1) := by decide +kernel
theorem d_12_sortsTelling_3 : decode prog_14_method_111_code 3 = .ok (.invokevirtual 350, 3) := by decide +kernel
theorem d_12_sortsTelling_6 : decode prog_14_method_111_code 6 = .ok (.ifCond .eq 5, 3) := by decide +kernel
theorem d_12_sortsTelling_9 : decode prog_14_method_111_code 9 = .ok (.iconst 0, 1) := by decide +kernel
theorem d_12_sortsTelling_10 : decode prog_14_method_111_code 10 = .ok (.ireturn, 1) := by decide +kernel
theorem d_12_sortsTelling_11 : decode prog_14_method_111_code 11 = .ok (.iconst 2, 1) := by decide +kernel
theorem d_12_sortsTelling_12 : decode prog_14_method_111_code 12 = .ok (.aload_n 0, 1) := by decide +kernel
theorem d_12_sortsTelling_13 : decode prog_14_method_111_code 13 = .ok (.invokevirtual 60, 3) := by decide +kernel
theorem d_12_sortsTelling_16 : decode prog_14_method_111_code 16 = .ok (.imul, 1) := by decide +kernel
theorem d_12_sortsTelling_17 : decode prog_14_method_111_code 17 = .ok (.istore_n 2, 1) := by decide +kernel
theorem d_12_sortsTelling_18 : decode prog_14_method_111_code 18 = .ok (.iconst 0, 1) := by decide +kernel
theorem d_12_sortsTelling_19 : decode prog_14_method_111_code 19 = .ok (.istore_n 3, 1) := by decide +kernel
theorem d_12_sortsTelling_20 : decode prog_14_method_111_code 20 = .ok (.iload_n 3, 1) := by decide +kernel
theorem d_12_sortsTelling_21 : decode prog_14_method_111_code 21 = .ok (.iload_n 2, 1) := by decide +kernel
theorem d_12_sortsTelling_22 : decode prog_14_method_111_code 22 = .ok (.if_icmp .ge 27, 3) := by decide +kernel
theorem d_12_sortsTelling_25 : decode prog_14_method_111_code 25 = .ok (.aload_n 0, 1) := by decide +kernel
theorem d_12_sortsTelling_26 : decode prog_14_method_111_code 26 = .ok (.getfield 45, 3) := by decide +kernel
theorem d_12_sortsTelling_29 : decode prog_14_method_111_code 29 = .ok (.iconst 0, 1) := by decide +kernel
theorem d_12_sortsTelling_30 : decode prog_14_method_111_code 30 = .ok (.iload_n 3, 1) := by decide +kernel
theorem d_12_sortsTelling_31 : decode prog_14_method_111_code 31 = .ok (.iastore, 1) := by decide +kernel
theorem d_12_sortsTelling_32 : decode prog_14_method_111_code 32 = .ok (.aload_n 0, 1) := by decide +kernel
theorem d_12_sortsTelling_33 : decode prog_14_method_111_code 33 = .ok (.iload_n 1, 1) := by decide +kernel
theorem d_12_sortsTelling_34 : decode prog_14_method_111_code 34 = .ok (.iconst 1, 1) := by decide +kernel
theorem d_12_sortsTelling_35 : decode prog_14_method_111_code 35 = .ok (.invokevirtual 350, 3) := by decide +kernel
theorem d_12_sortsTelling_38 : decode prog_14_method_111_code 38 = .ok (.ifCond .eq 5, 3) := by decide +kernel
theorem d_12_sortsTelling_41 : decode prog_14_method_111_code 41 = .ok (.iconst 1, 1) := by decide +kernel
theorem d_12_sortsTelling_42 : decode prog_14_method_111_code 42 = .ok (.ireturn, 1) := by decide +kernel
theorem d_12_sortsTelling_43 : decode prog_14_method_111_code 43 = .ok (.iinc 3 1, 3) := by decide +kernel
theorem d_12_sortsTelling_46 : decode prog_14_method_111_code 46 = .ok (.goto (-26), 3) := by decide +kernel
theorem d_12_sortsTelling_49 : decode prog_14_method_111_code 49 = .ok (.iconst 0, 1) := by decide +kernel
theorem d_12_sortsTelling_50 : decode prog_14_method_111_code 50 = .ok (.istore_n 3, 1) := by decide +kernel
theorem d_12_sortsTelling_51 : decode prog_14_method_111_code 51 = .ok (.iload_n 3, 1) := by decide +kernel
theorem d_12_sortsTelling_52 : decode prog_14_method_111_code 52 = .ok (.iload_n 2, 1) := by decide +kernel
theorem d_12_sortsTelling_53 : decode prog_14_method_111_code 53 = .ok (.if_icmp .ge 60, 3) := by decide +kernel
theorem d_12_sortsTelling_56 : decode prog_14_method_111_code 56 = .ok (.iconst 0, 1) := by decide +kernel
theorem d_12_sortsTelling_57 : decode prog_14_method_111_code 57 = .ok (.istore 4, 2) := by decide +kernel
theorem d_12_sortsTelling_59 : decode prog_14_method_111_code 59 = .ok (.iload 4, 2) := by decide +kernel
theorem d_12_sortsTelling_61 : decode prog_14_method_111_code 61 = .ok (.iload_n 2, 1) := by decide +kernel
theorem d_12_sortsTelling_62 : decode prog_14_method_111_code 62 = .ok (.if_icmp .ge 45, 3) := by decide +kernel
theorem d_12_sortsTelling_65 : decode prog_14_method_111_code 65 = .ok (.aload_n 0, 1) := by decide +kernel
theorem d_12_sortsTelling_66 : decode prog_14_method_111_code 66 = .ok (.getfield 45, 3) := by decide +kernel
theorem d_12_sortsTelling_69 : decode prog_14_method_111_code 69 = .ok (.iconst 0, 1) := by decide +kernel
theorem d_12_sortsTelling_70 : decode prog_14_method_111_code 70 = .ok (.iload_n 3, 1) := by decide +kernel
theorem d_12_sortsTelling_71 : decode prog_14_method_111_code 71 = .ok (.iastore, 1) := by decide +kernel
theorem d_12_sortsTelling_72 : decode prog_14_method_111_code 72 = .ok (.aload_n 0, 1) := by decide +kernel
theorem d_12_sortsTelling_73 : decode prog_14_method_111_code 73 = .ok (.getfield 45, 3) := by decide +kernel
theorem d_12_sortsTelling_76 : decode prog_14_method_111_code 76 = .ok (.iconst 1, 1) := by decide +kernel
theorem d_12_sortsTelling_77 : decode prog_14_method_111_code 77 = .ok (.iload 4, 2) := by decide +kernel
theorem d_12_sortsTelling_79 : decode prog_14_method_111_code 79 = .ok (.iastore, 1) := by decide +kernel
theorem d_12_sortsTelling_80 : decode prog_14_method_111_code 80 = .ok (.iload_n 3, 1) := by decide +kernel
theorem d_12_sortsTelling_81 : decode prog_14_method_111_code 81 = .ok (.iconst 2, 1) := by decide +kernel
theorem d_12_sortsTelling_82 : decode prog_14_method_111_code 82 = .ok (.idiv, 1) := by decide +kernel
theorem d_12_sortsTelling_83 : decode prog_14_method_111_code 83 = .ok (.iload 4, 2) := by decide +kernel
theorem d_12_sortsTelling_85 : decode prog_14_method_111_code 85 = .ok (.iconst 2, 1) := by decide +kernel
theorem d_12_sortsTelling_86 : decode prog_14_method_111_code 86 = .ok (.idiv, 1) := by decide +kernel
theorem d_12_sortsTelling_87 : decode prog_14_method_111_code 87 = .ok (.if_icmp .eq 14, 3) := by decide +kernel
theorem d_12_sortsTelling_90 : decode prog_14_method_111_code 90 = .ok (.aload_n 0, 1) := by decide +kernel
theorem d_12_sortsTelling_91 : decode prog_14_method_111_code 91 = .ok (.iload_n 1, 1) := by decide +kernel
theorem d_12_sortsTelling_92 : decode prog_14_method_111_code 92 = .ok (.iconst 2, 1) := by decide +kernel
theorem d_12_sortsTelling_93 : decode prog_14_method_111_code 93 = .ok (.invokevirtual 350, 3) := by decide +kernel
theorem d_12_sortsTelling_96 : decode prog_14_method_111_code 96 = .ok (.ifCond .eq 5, 3) := by decide +kernel
theorem d_12_sortsTelling_99 : decode prog_14_method_111_code 99 = .ok (.iconst 2, 1) := by decide +kernel
theorem d_12_sortsTelling_100 : decode prog_14_method_111_code 100 = .ok (.ireturn, 1) := by decide +kernel
theorem d_12_sortsTelling_101 : decode prog_14_method_111_code 101 = .ok (.iinc 4 1, 3) := by decide +kernel
theorem d_12_sortsTelling_104 : decode prog_14_method_111_code 104 = .ok (.goto (-45), 3) := by decide +kernel
theorem d_12_sortsTelling_107 : decode prog_14_method_111_code 107 = .ok (.iinc 3 1, 3) := by decide +kernel
theorem d_12_sortsTelling_110 : decode prog_14_method_111_code 110 = .ok (.goto (-59), 3) := by decide +kernel
theorem d_12_sortsTelling_113 : decode prog_14_method_111_code 113 = .ok (.iconst (-1), 1) := by decide +kernel
theorem d_12_sortsTelling_114 : decode prog_14_method_111_code 114 = .ok (.ireturn, 1) := by decide +kernel
theorem d_12_told_0 : decode prog_14_method_112_code 0 = .ok (.aload_n 0, 1) := by decide +kernel
theorem d_12_told_1 : decode prog_14_method_112_code 1 = .ok (.iconst 0, 1) := by decide +kernel
theorem d_12_told_2 : decode prog_14_method_112_code 2 = .ok (.putfield 3, 3) := by decide +kernel
theorem d_12_told_5 : decode prog_14_method_112_code 5 = .ok (.aload_n 0, 1) := by decide +kernel
theorem d_12_told_6 : decode prog_14_method_112_code 6 = .ok (.iload_n 1, 1) := by decide +kernel
theorem d_12_told_7 : decode prog_14_method_112_code 7 = .ok (.invokestatic 239, 3) := by decide +kernel
theorem d_12_told_10 : decode prog_14_method_112_code 10 = .ok (.iconst 1, 1) := by decide +kernel
theorem d_12_told_11 : decode prog_14_method_112_code 11 = .ok (.invokevirtual 185, 3) := by decide +kernel
theorem d_12_told_14 : decode prog_14_method_112_code 14 = .ok (.ifCond .eq 5, 3) := by decide +kernel
theorem d_12_told_17 : decode prog_14_method_112_code 17 = .ok (.iconst 0, 1) := by decide +kernel
theorem d_12_told_18 : decode prog_14_method_112_code 18 = .ok (.ireturn, 1) := by decide +kernel
theorem d_12_told_19 : decode prog_14_method_112_code 19 = .ok (.aload_n 0, 1) := by decide +kernel
theorem d_12_told_20 : decode prog_14_method_112_code 20 = .ok (.iload_n 1, 1) := by decide +kernel
theorem d_12_told_21 : decode prog_14_method_112_code 21 = .ok (.invokestatic 68, 3) := by decide +kernel
theorem d_12_told_24 : decode prog_14_method_112_code 24 = .ok (.invokevirtual 353, 3) := by decide +kernel
theorem d_12_told_27 : decode prog_14_method_112_code 27 = .ok (.istore_n 3, 1) := by decide +kernel
theorem d_12_told_28 : decode prog_14_method_112_code 28 = .ok (.iload_n 2, 1) := by decide +kernel
theorem d_12_told_29 : decode prog_14_method_112_code 29 = .ok (.iconst (-1), 1) := by decide +kernel
theorem d_12_told_30 : decode prog_14_method_112_code 30 = .ok (.if_icmp .ne 7, 3) := by decide +kernel
theorem d_12_told_33 : decode prog_14_method_112_code 33 = .ok (.iload_n 3, 1) := by decide +kernel
theorem d_12_told_34 : decode prog_14_method_112_code 34 = .ok (.goto 24, 3) := by decide +kernel
theorem d_12_told_37 : decode prog_14_method_112_code 37 = .ok (.iload_n 2, 1) := by decide +kernel
theorem d_12_told_38 : decode prog_14_method_112_code 38 = .ok (.iconst 0, 1) := by decide +kernel
theorem d_12_told_39 : decode prog_14_method_112_code 39 = .ok (.iload_n 3, 1) := by decide +kernel
theorem d_12_told_40 : decode prog_14_method_112_code 40 = .ok (.iconst 1, 1) := by decide +kernel
theorem d_12_told_41 : decode prog_14_method_112_code 41 = .ok (.isub, 1) := by decide +kernel
theorem d_12_told_42 : decode prog_14_method_112_code 42 = .ok (.invokestatic 56, 3) := by decide +kernel
theorem d_12_told_45 : decode prog_14_method_112_code 45 = .ok (.ifCond .eq 12, 3) := by decide +kernel
theorem d_12_told_48 : decode prog_14_method_112_code 48 = .ok (.aload_n 0, 1) := by decide +kernel
theorem d_12_told_49 : decode prog_14_method_112_code 49 = .ok (.getfield 45, 3) := by decide +kernel
theorem d_12_told_52 : decode prog_14_method_112_code 52 = .ok (.iload_n 2, 1) := by decide +kernel
theorem d_12_told_53 : decode prog_14_method_112_code 53 = .ok (.iaload, 1) := by decide +kernel
theorem d_12_told_54 : decode prog_14_method_112_code 54 = .ok (.goto 4, 3) := by decide +kernel
theorem d_12_told_57 : decode prog_14_method_112_code 57 = .ok (.iconst (-1), 1) := by decide +kernel
theorem d_12_told_58 : decode prog_14_method_112_code 58 = .ok (.ireturn, 1) := by decide +kernel
theorem d_12_between_0 : decode prog_14_method_113_code 0 = .ok (.aload_n 0, 1) := by decide +kernel
theorem d_12_between_1 : decode prog_14_method_113_code 1 = .ok (.iconst 0, 1) := by decide +kernel
theorem d_12_between_2 : decode prog_14_method_113_code 2 = .ok (.putfield 3, 3) := by decide +kernel
theorem d_12_between_5 : decode prog_14_method_113_code 5 = .ok (.aload_n 0, 1) := by decide +kernel
theorem d_12_between_6 : decode prog_14_method_113_code 6 = .ok (.iload_n 1, 1) := by decide +kernel
theorem d_12_between_7 : decode prog_14_method_113_code 7 = .ok (.invokestatic 239, 3) := by decide +kernel
theorem d_12_between_10 : decode prog_14_method_113_code 10 = .ok (.ifCond .ne 21, 3) := by decide +kernel
theorem d_12_between_13 : decode prog_14_method_113_code 13 = .ok (.aload_n 0, 1) := by decide +kernel
theorem d_12_between_14 : decode prog_14_method_113_code 14 = .ok (.iload_n 1, 1) := by decide +kernel
theorem d_12_between_15 : decode prog_14_method_113_code 15 = .ok (.iload_n 2, 1) := by decide +kernel
theorem d_12_between_16 : decode prog_14_method_113_code 16 = .ok (.invokevirtual 285, 3) := by decide +kernel
theorem d_12_between_19 : decode prog_14_method_113_code 19 = .ok (.ifCond .ne 12, 3) := by decide +kernel
theorem d_12_between_22 : decode prog_14_method_113_code 22 = .ok (.aload_n 0, 1) := by decide +kernel
theorem d_12_between_23 : decode prog_14_method_113_code 23 = .ok (.iload_n 1, 1) := by decide +kernel
theorem d_12_between_24 : decode prog_14_method_113_code 24 = .ok (.iload_n 3, 1) := by decide +kernel
theorem d_12_between_25 : decode prog_14_method_113_code 25 = .ok (.invokevirtual 285, 3) := by decide +kernel
theorem d_12_between_28 : decode prog_14_method_113_code 28 = .ok (.ifCond .eq 7, 3) := by decide +kernel
theorem d_12_between_31 : decode prog_14_method_113_code 31 = .ok (.iconst 1, 1) := by decide +kernel
theorem d_12_between_32 : decode prog_14_method_113_code 32 = .ok (.goto 4, 3) := by decide +kernel
theorem d_12_between_35 : decode prog_14_method_113_code 35 = .ok (.iconst 0, 1) := by decide +kernel
theorem d_12_between_36 : decode prog_14_method_113_code 36 = .ok (.iconst 1, 1) := by decide +kernel
theorem d_12_between_37 : decode prog_14_method_113_code 37 = .ok (.invokevirtual 185, 3) := by decide +kernel
theorem d_12_between_40 : decode prog_14_method_113_code 40 = .ok (.ifCond .ne 21, 3) := by decide +kernel
theorem d_12_between_43 : decode prog_14_method_113_code 43 = .ok (.aload_n 0, 1) := by decide +kernel
theorem d_12_between_44 : decode prog_14_method_113_code 44 = .ok (.iload_n 2, 1) := by decide +kernel
theorem d_12_between_45 : decode prog_14_method_113_code 45 = .ok (.iload_n 3, 1) := by decide +kernel
theorem d_12_between_46 : decode prog_14_method_113_code 46 = .ok (.if_icmp .ne 7, 3) := by decide +kernel
theorem d_12_between_49 : decode prog_14_method_113_code 49 = .ok (.iconst 1, 1) := by decide +kernel
theorem d_12_between_50 : decode prog_14_method_113_code 50 = .ok (.goto 4, 3) := by decide +kernel
theorem d_12_between_53 : decode prog_14_method_113_code 53 = .ok (.iconst 0, 1) := by decide +kernel
theorem d_12_between_54 : decode prog_14_method_113_code 54 = .ok (.iconst 2, 1) := by decide +kernel
theorem d_12_between_55 : decode prog_14_method_113_code 55 = .ok (.invokevirtual 185, 3) := by decide +kernel
theorem d_12_between_58 : decode prog_14_method_113_code 58 = .ok (.ifCond .eq 5, 3) := by decide +kernel
theorem d_12_between_61 : decode prog_14_method_113_code 61 = .ok (.iconst 0, 1) := by decide +kernel
theorem d_12_between_62 : decode prog_14_method_113_code 62 = .ok (.ireturn, 1) := by decide +kernel
theorem d_12_between_63 : decode prog_14_method_113_code 63 = .ok (.iload_n 1, 1) := by decide +kernel
theorem d_12_between_64 : decode prog_14_method_113_code 64 = .ok (.invokestatic 68, 3) := by decide +kernel
theorem d_12_between_67 : decode prog_14_method_113_code 67 = .ok (.istore 4, 2) := by decide +kernel
theorem d_12_between_69 : decode prog_14_method_113_code 69 = .ok (.aload_n 0, 1) := by decide +kernel
theorem d_12_between_70 : decode prog_14_method_113_code 70 = .ok (.sipush 273, 3) := by decide +kernel
theorem d_12_between_73 : decode prog_14_method_113_code 73 = .ok (.aload_n 0, 1) := by decide +kernel
theorem d_12_between_74 : decode prog_14_method_113_code 74 = .ok (.iload 4, 2) := by decide +kernel
theorem d_12_between_76 : decode prog_14_method_113_code 76 = .ok (.iload_n 2, 1) := by decide +kernel
theorem d_12_between_77 : decode prog_14_method_113_code 77 = .ok (.invokevirtual 71, 3) := by decide +kernel
theorem d_12_between_80 : decode prog_14_method_113_code 80 = .ok (.invokevirtual 78, 3) := by decide +kernel
theorem d_12_between_83 : decode prog_14_method_113_code 83 = .ok (.istore 5, 2) := by decide +kernel
theorem d_12_between_85 : decode prog_14_method_113_code 85 = .ok (.aload_n 0, 1) := by decide +kernel
theorem d_12_between_86 : decode prog_14_method_113_code 86 = .ok (.sipush 273, 3) := by decide +kernel
theorem d_12_between_89 : decode prog_14_method_113_code 89 = .ok (.aload_n 0, 1) := by decide +kernel
theorem d_12_between_90 : decode prog_14_method_113_code 90 = .ok (.iload 4, 2) := by decide +kernel
theorem d_12_between_92 : decode prog_14_method_113_code 92 = .ok (.iload_n 3, 1) := by decide +kernel
theorem d_12_between_93 : decode prog_14_method_113_code 93 = .ok (.invokevirtual 71, 3) := by decide +kernel
theorem d_12_between_96 : decode prog_14_method_113_code 96 = .ok (.invokevirtual 78, 3) := by decide +kernel
theorem d_12_between_99 : decode prog_14_method_113_code 99 = .ok (.istore 6, 2) := by decide +kernel
theorem d_12_between_101 : decode prog_14_method_113_code 101 = .ok (.iconst 0, 1) := by decide +kernel
theorem d_12_between_102 : decode prog_14_method_113_code 102 = .ok (.istore 7, 2) := by decide +kernel
theorem d_12_between_104 : decode prog_14_method_113_code 104 = .ok (.iload 5, 2) := by decide +kernel
theorem d_12_between_106 : decode prog_14_method_113_code 106 = .ok (.iload 6, 2) := by decide +kernel
theorem d_12_between_108 : decode prog_14_method_113_code 108 = .ok (.invokestatic 273, 3) := by decide +kernel
theorem d_12_between_111 : decode prog_14_method_113_code 111 = .ok (.iconst 1, 1) := by decide +kernel
theorem d_12_between_112 : decode prog_14_method_113_code 112 = .ok (.iadd, 1) := by decide +kernel
theorem d_12_between_113 : decode prog_14_method_113_code 113 = .ok (.istore 8, 2) := by decide +kernel
theorem d_12_between_115 : decode prog_14_method_113_code 115 = .ok (.iload 8, 2) := by decide +kernel
theorem d_12_between_117 : decode prog_14_method_113_code 117 = .ok (.iload 5, 2) := by decide +kernel
theorem d_12_between_119 : decode prog_14_method_113_code 119 = .ok (.iload 6, 2) := by decide +kernel
theorem d_12_between_121 : decode prog_14_method_113_code 121 = .ok (.invokestatic 326, 3) := by decide +kernel
theorem d_12_between_124 : decode prog_14_method_113_code 124 = .ok (.if_icmp .ge 38, 3) := by decide +kernel
theorem d_12_between_127 : decode prog_14_method_113_code 127 = .ok (.iload 7, 2) := by decide +kernel
theorem d_12_between_129 : decode prog_14_method_113_code 129 = .ok (.aload_n 0, 1) := by decide +kernel
theorem d_12_between_130 : decode prog_14_method_113_code 130 = .ok (.iload 4, 2) := by decide +kernel
theorem d_12_between_132 : decode prog_14_method_113_code 132 = .ok (.aload_n 0, 1) := by decide +kernel
theorem d_12_between_133 : decode prog_14_method_113_code 133 = .ok (.sipush 273, 3) := by decide +kernel
theorem d_12_between_136 : decode prog_14_method_113_code 136 = .ok (.iload 8, 2) := by decide +kernel
theorem d_12_between_138 : decode prog_14_method_113_code 138 = .ok (.invokevirtual 71, 3) := by decide +kernel
theorem d_12_between_141 : decode prog_14_method_113_code 141 = .ok (.invokevirtual 78, 3) := by decide +kernel
theorem d_12_between_144 : decode prog_14_method_113_code 144 = .ok (.iconst (-1), 1) := by decide +kernel
theorem d_12_between_145 : decode prog_14_method_113_code 145 = .ok (.if_icmp .ne 7, 3) := by decide +kernel
theorem d_12_between_148 : decode prog_14_method_113_code 148 = .ok (.iconst 1, 1) := by decide +kernel
theorem d_12_between_149 : decode prog_14_method_113_code 149 = .ok (.goto 4, 3) := by decide +kernel
theorem d_12_between_152 : decode prog_14_method_113_code 152 = .ok (.iconst 0, 1) := by decide +kernel
theorem d_12_between_153 : decode prog_14_method_113_code 153 = .ok (.iadd, 1) := by decide +kernel
theorem d_12_between_154 : decode prog_14_method_113_code 154 = .ok (.istore 7, 2) := by decide +kernel
theorem d_12_between_156 : decode prog_14_method_113_code 156 = .ok (.iinc 8 1, 3) := by decide +kernel
theorem d_12_between_159 : decode prog_14_method_113_code 159 = .ok (.goto (-44), 3) := by decide +kernel
theorem d_12_between_162 : decode prog_14_method_113_code 162 = .ok (.iload 7, 2) := by decide +kernel
theorem d_12_between_164 : decode prog_14_method_113_code 164 = .ok (.ireturn, 1) := by decide +kernel
theorem d_12_sum_0 : decode prog_14_method_115_code 0 = .ok (.aload_n 0, 1) := by decide +kernel
theorem d_12_sum_1 : decode prog_14_method_115_code 1 = .ok (.iconst 0, 1) := by decide +kernel
theorem d_12_sum_2 : decode prog_14_method_115_code 2 = .ok (.putfield 3, 3) := by decide +kernel
theorem d_12_sum_5 : decode prog_14_method_115_code 5 = .ok (.aload_n 0, 1) := by decide +kernel
theorem d_12_sum_6 : decode prog_14_method_115_code 6 = .ok (.iload_n 1, 1) := by decide +kernel
theorem d_12_sum_7 : decode prog_14_method_115_code 7 = .ok (.invokestatic 239, 3) := by decide +kernel
theorem d_12_sum_10 : decode prog_14_method_115_code 10 = .ok (.ifCond .ne 11, 3) := by decide +kernel
theorem d_12_sum_13 : decode prog_14_method_115_code 13 = .ok (.aload_n 0, 1) := by decide +kernel
theorem d_12_sum_14 : decode prog_14_method_115_code 14 = .ok (.iload_n 2, 1) := by decide +kernel
theorem d_12_sum_15 : decode prog_14_method_115_code 15 = .ok (.invokevirtual 288, 3) := by decide +kernel
theorem d_12_sum_18 : decode prog_14_method_115_code 18 = .ok (.ifCond .eq 7, 3) := by decide +kernel
theorem d_12_sum_21 : decode prog_14_method_115_code 21 = .ok (.iconst 1, 1) := by decide +kernel
theorem d_12_sum_22 : decode prog_14_method_115_code 22 = .ok (.goto 4, 3) := by decide +kernel
theorem d_12_sum_25 : decode prog_14_method_115_code 25 = .ok (.iconst 0, 1) := by decide +kernel
theorem d_12_sum_26 : decode prog_14_method_115_code 26 = .ok (.iconst 1, 1) := by decide +kernel
theorem d_12_sum_27 : decode prog_14_method_115_code 27 = .ok (.invokevirtual 185, 3) := by decide +kernel
theorem d_12_sum_30 : decode prog_14_method_115_code 30 = .ok (.ifCond .ne 16, 3) := by decide +kernel
theorem d_12_sum_33 : decode prog_14_method_115_code 33 = .ok (.aload_n 0, 1) := by decide +kernel
theorem d_12_sum_34 : decode prog_14_method_115_code 34 = .ok (.aload_n 0, 1) := by decide +kernel
theorem d_12_sum_35 : decode prog_14_method_115_code 35 = .ok (.iload_n 2, 1) := by decide +kernel
theorem d_12_sum_36 : decode prog_14_method_115_code 36 = .ok (.invokevirtual 130, 3) := by decide +kernel
theorem d_12_sum_39 : decode prog_14_method_115_code 39 = .ok (.iconst 2, 1) := by decide +kernel
theorem d_12_sum_40 : decode prog_14_method_115_code 40 = .ok (.invokevirtual 185, 3) := by decide +kernel
theorem d_12_sum_43 : decode prog_14_method_115_code 43 = .ok (.ifCond .eq 5, 3) := by decide +kernel
theorem d_12_sum_46 : decode prog_14_method_115_code 46 = .ok (.iconst 0, 1) := by decide +kernel
theorem d_12_sum_47 : decode prog_14_method_115_code 47 = .ok (.ireturn, 1) := by decide +kernel
theorem d_12_sum_48 : decode prog_14_method_115_code 48 = .ok (.iconst 0, 1) := by decide +kernel
theorem d_12_sum_49 : decode prog_14_method_115_code 49 = .ok (.istore_n 3, 1) := by decide +kernel
theorem d_12_sum_50 : decode prog_14_method_115_code 50 = .ok (.iconst 0, 1) := by decide +kernel
theorem d_12_sum_51 : decode prog_14_method_115_code 51 = .ok (.istore 4, 2) := by decide +kernel
theorem d_12_sum_53 : decode prog_14_method_115_code 53 = .ok (.iload 4, 2) := by decide +kernel
theorem d_12_sum_55 : decode prog_14_method_115_code 55 = .ok (.aload_n 0, 1) := by decide +kernel
theorem d_12_sum_56 : decode prog_14_method_115_code 56 = .ok (.iload_n 1, 1) := by decide +kernel
theorem d_12_sum_57 : decode prog_14_method_115_code 57 = .ok (.invokestatic 68, 3) := by decide +kernel
theorem d_12_sum_60 : decode prog_14_method_115_code 60 = .ok (.invokevirtual 64, 3) := by decide +kernel
theorem d_12_sum_63 : decode prog_14_method_115_code 63 = .ok (.if_icmp .ge 37, 3) := by decide +kernel
theorem d_12_sum_66 : decode prog_14_method_115_code 66 = .ok (.iload_n 3, 1) := by decide +kernel
theorem d_12_sum_67 : decode prog_14_method_115_code 67 = .ok (.aload_n 0, 1) := by decide +kernel
theorem d_12_sum_68 : decode prog_14_method_115_code 68 = .ok (.iload_n 1, 1) := by decide +kernel
theorem d_12_sum_69 : decode prog_14_method_115_code 69 = .ok (.iload 4, 2) := by decide +kernel
theorem d_12_sum_71 : decode prog_14_method_115_code 71 = .ok (.iload_n 2, 1) := by decide +kernel
theorem d_12_sum_72 : decode prog_14_method_115_code 72 = .ok (.invokevirtual 311, 3) := by decide +kernel
theorem d_12_sum_75 : decode prog_14_method_115_code 75 = .ok (.ldc 84, 2) := by decide +kernel
theorem d_12_sum_77 : decode prog_14_method_115_code 77 = .ok (.if_icmp .ne 7, 3) := by decide +kernel
theorem d_12_sum_80 : decode prog_14_method_115_code 80 = .ok (.iconst 0, 1) := by decide +kernel
theorem d_12_sum_81 : decode prog_14_method_115_code 81 = .ok (.goto 11, 3) := by decide +kernel
theorem d_12_sum_84 : decode prog_14_method_115_code 84 = .ok (.aload_n 0, 1) := by decide +kernel
theorem d_12_sum_85 : decode prog_14_method_115_code 85 = .ok (.iload_n 1, 1) := by decide +kernel
theorem d_12_sum_86 : decode prog_14_method_115_code 86 = .ok (.iload 4, 2) := by decide +kernel
theorem d_12_sum_88 : decode prog_14_method_115_code 88 = .ok (.iload_n 2, 1) := by decide +kernel
theorem d_12_sum_89 : decode prog_14_method_115_code 89 = .ok (.invokevirtual 311, 3) := by decide +kernel
theorem d_12_sum_92 : decode prog_14_method_115_code 92 = .ok (.iadd, 1) := by decide +kernel
theorem d_12_sum_93 : decode prog_14_method_115_code 93 = .ok (.istore_n 3, 1) := by decide +kernel
theorem d_12_sum_94 : decode prog_14_method_115_code 94 = .ok (.iinc 4 1, 3) := by decide +kernel
theorem d_12_sum_97 : decode prog_14_method_115_code 97 = .ok (.goto (-44), 3) := by decide +kernel
theorem d_12_sum_100 : decode prog_14_method_115_code 100 = .ok (.iload_n 3, 1) := by decide +kernel
theorem d_12_sum_101 : decode prog_14_method_115_code 101 = .ok (.ireturn, 1) := by decide +kernel
theorem d_12_firstPlace_0 : decode prog_14_method_116_code 0 = .ok (.iload 4, 2) := by decide +kernel
theorem d_12_firstPlace_2 : decode prog_14_method_116_code 2 = .ok (.istore 5, 2) := by decide +kernel
theorem d_12_firstPlace_4 : decode prog_14_method_116_code 4 = .ok (.iload 5, 2) := by decide +kernel
theorem d_12_firstPlace_6 : decode prog_14_method_116_code 6 = .ok (.aload_n 0, 1) := by decide +kernel
theorem d_12_firstPlace_7 : decode prog_14_method_116_code 7 = .ok (.iload_n 1, 1) := by decide +kernel
theorem d_12_firstPlace_8 : decode prog_14_method_116_code 8 = .ok (.invokestatic 68, 3) := by decide +kernel
theorem d_12_firstPlace_11 : decode prog_14_method_116_code 11 = .ok (.invokevirtual 64, 3) := by decide +kernel
theorem d_12_firstPlace_14 : decode prog_14_method_116_code 14 = .ok (.if_icmp .ge 21, 3) := by decide +kernel
theorem d_12_firstPlace_17 : decode prog_14_method_116_code 17 = .ok (.aload_n 0, 1) := by decide +kernel
theorem d_12_firstPlace_18 : decode prog_14_method_116_code 18 = .ok (.iload_n 1, 1) := by decide +kernel
theorem d_12_firstPlace_19 : decode prog_14_method_116_code 19 = .ok (.iload 5, 2) := by decide +kernel
theorem d_12_firstPlace_21 : decode prog_14_method_116_code 21 = .ok (.iload_n 2, 1) := by decide +kernel
theorem d_12_firstPlace_22 : decode prog_14_method_116_code 22 = .ok (.invokevirtual 311, 3) := by decide +kernel
theorem d_12_firstPlace_25 : decode prog_14_method_116_code 25 = .ok (.iload_n 3, 1) := by decide +kernel
theorem d_12_firstPlace_26 : decode prog_14_method_116_code 26 = .ok (.if_icmp .eq 9, 3) := by decide +kernel
theorem d_12_firstPlace_29 : decode prog_14_method_116_code 29 = .ok (.iinc 5 1, 3) := by decide +kernel
theorem d_12_firstPlace_32 : decode prog_14_method_116_code 32 = .ok (.goto (-28), 3) := by decide +kernel
theorem d_12_firstPlace_35 : decode prog_14_method_116_code 35 = .ok (.iload 5, 2) := by decide +kernel
theorem d_12_firstPlace_37 : decode prog_14_method_116_code 37 = .ok (.aload_n 0, 1) := by decide +kernel
theorem d_12_firstPlace_38 : decode prog_14_method_116_code 38 = .ok (.iload_n 1, 1) := by decide +kernel
theorem d_12_firstPlace_39 : decode prog_14_method_116_code 39 = .ok (.invokestatic 68, 3) := by decide +kernel
theorem d_12_firstPlace_42 : decode prog_14_method_116_code 42 = .ok (.invokevirtual 64, 3) := by decide +kernel
theorem d_12_firstPlace_45 : decode prog_14_method_116_code 45 = .ok (.if_icmp .ge 8, 3) := by decide +kernel
theorem d_12_firstPlace_48 : decode prog_14_method_116_code 48 = .ok (.iload 5, 2) := by decide +kernel
theorem d_12_firstPlace_50 : decode prog_14_method_116_code 50 = .ok (.goto 4, 3) := by decide +kernel
theorem d_12_firstPlace_53 : decode prog_14_method_116_code 53 = .ok (.iconst (-1), 1) := by decide +kernel
theorem d_12_firstPlace_54 : decode prog_14_method_116_code 54 = .ok (.ireturn, 1) := by decide +kernel
theorem d_12_kinds_0 : decode prog_14_method_117_code 0 = .ok (.aload_n 0, 1) := by decide +kernel
theorem d_12_kinds_1 : decode prog_14_method_117_code 1 = .ok (.iconst 0, 1) := by decide +kernel
theorem d_12_kinds_2 : decode prog_14_method_117_code 2 = .ok (.putfield 3, 3) := by decide +kernel
theorem d_12_kinds_5 : decode prog_14_method_117_code 5 = .ok (.aload_n 0, 1) := by decide +kernel
theorem d_12_kinds_6 : decode prog_14_method_117_code 6 = .ok (.iload_n 1, 1) := by decide +kernel
theorem d_12_kinds_7 : decode prog_14_method_117_code 7 = .ok (.invokestatic 239, 3) := by decide +kernel
theorem d_12_kinds_10 : decode prog_14_method_117_code 10 = .ok (.ifCond .ne 11, 3) := by decide +kernel
theorem d_12_kinds_13 : decode prog_14_method_117_code 13 = .ok (.aload_n 0, 1) := by decide +kernel
theorem d_12_kinds_14 : decode prog_14_method_117_code 14 = .ok (.iload_n 2, 1) := by decide +kernel
theorem d_12_kinds_15 : decode prog_14_method_117_code 15 = .ok (.invokevirtual 288, 3) := by decide +kernel
theorem d_12_kinds_18 : decode prog_14_method_117_code 18 = .ok (.ifCond .eq 7, 3) := by decide +kernel
theorem d_12_kinds_21 : decode prog_14_method_117_code 21 = .ok (.iconst 1, 1) := by decide +kernel
theorem d_12_kinds_22 : decode prog_14_method_117_code 22 = .ok (.goto 4, 3) := by decide +kernel
theorem d_12_kinds_25 : decode prog_14_method_117_code 25 = .ok (.iconst 0, 1) := by decide +kernel
theorem d_12_kinds_26 : decode prog_14_method_117_code 26 = .ok (.iconst 1, 1) := by decide +kernel
theorem d_12_kinds_27 : decode prog_14_method_117_code 27 = .ok (.invokevirtual 185, 3) := by decide +kernel
theorem d_12_kinds_30 : decode prog_14_method_117_code 30 = .ok (.ifCond .eq 5, 3) := by decide +kernel
theorem d_12_kinds_33 : decode prog_14_method_117_code 33 = .ok (.iconst 0, 1) := by decide +kernel
theorem d_12_kinds_34 : decode prog_14_method_117_code 34 = .ok (.ireturn, 1) := by decide +kernel
theorem d_12_kinds_35 : decode prog_14_method_117_code 35 = .ok (.iconst 0, 1) := by decide +kernel
theorem d_12_kinds_36 : decode prog_14_method_117_code 36 = .ok (.istore_n 3, 1) := by decide +kernel
theorem d_12_kinds_37 : decode prog_14_method_117_code 37 = .ok (.iconst 0, 1) := by decide +kernel
theorem d_12_kinds_38 : decode prog_14_method_117_code 38 = .ok (.istore 4, 2) := by decide +kernel
theorem d_12_kinds_40 : decode prog_14_method_117_code 40 = .ok (.iload 4, 2) := by decide +kernel
theorem d_12_kinds_42 : decode prog_14_method_117_code 42 = .ok (.aload_n 0, 1) := by decide +kernel
theorem d_12_kinds_43 : decode prog_14_method_117_code 43 = .ok (.iload_n 1, 1) := by decide +kernel
theorem d_12_kinds_44 : decode prog_14_method_117_code 44 = .ok (.invokestatic 68, 3) := by decide +kernel
theorem d_12_kinds_47 : decode prog_14_method_117_code 47 = .ok (.invokevirtual 64, 3) := by decide +kernel
theorem d_12_kinds_50 : decode prog_14_method_117_code 50 = .ok (.if_icmp .ge 37, 3) := by decide +kernel
theorem d_12_kinds_53 : decode prog_14_method_117_code 53 = .ok (.iload_n 3, 1) := by decide +kernel
theorem d_12_kinds_54 : decode prog_14_method_117_code 54 = .ok (.aload_n 0, 1) := by decide +kernel
theorem d_12_kinds_55 : decode prog_14_method_117_code 55 = .ok (.iload_n 1, 1) := by decide +kernel
theorem d_12_kinds_56 : decode prog_14_method_117_code 56 = .ok (.iload_n 2, 1) := by decide +kernel
theorem d_12_kinds_57 : decode prog_14_method_117_code 57 = .ok (.aload_n 0, 1) := by decide +kernel
theorem d_12_kinds_58 : decode prog_14_method_117_code 58 = .ok (.iload_n 1, 1) := by decide +kernel
theorem d_12_kinds_59 : decode prog_14_method_117_code 59 = .ok (.iload 4, 2) := by decide +kernel
theorem d_12_kinds_61 : decode prog_14_method_117_code 61 = .ok (.iload_n 2, 1) := by decide +kernel
theorem d_12_kinds_62 : decode prog_14_method_117_code 62 = .ok (.invokevirtual 311, 3) := by decide +kernel
theorem d_12_kinds_65 : decode prog_14_method_117_code 65 = .ok (.iconst 0, 1) := by decide +kernel
theorem d_12_kinds_66 : decode prog_14_method_117_code 66 = .ok (.invokevirtual 356, 3) := by decide +kernel
theorem d_12_kinds_69 : decode prog_14_method_117_code 69 = .ok (.iload 4, 2) := by decide +kernel
theorem d_12_kinds_71 : decode prog_14_method_117_code 71 = .ok (.if_icmp .ne 7, 3) := by decide +kernel
theorem d_12_kinds_74 : decode prog_14_method_117_code 74 = .ok (.iconst 1, 1) := by decide +kernel
theorem d_12_kinds_75 : decode prog_14_method_117_code 75 = .ok (.goto 4, 3) := by decide +kernel
theorem d_12_kinds_78 : decode prog_14_method_117_code 78 = .ok (.iconst 0, 1) := by decide +kernel
theorem d_12_kinds_79 : decode prog_14_method_117_code 79 = .ok (.iadd, 1) := by decide +kernel
theorem d_12_kinds_80 : decode prog_14_method_117_code 80 = .ok (.istore_n 3, 1) := by decide +kernel
theorem d_12_kinds_81 : decode prog_14_method_117_code 81 = .ok (.iinc 4 1, 3) := by decide +kernel
theorem d_12_kinds_84 : decode prog_14_method_117_code 84 = .ok (.goto (-44), 3) := by decide +kernel
theorem d_12_kinds_87 : decode prog_14_method_117_code 87 = .ok (.iload_n 3, 1) := by decide +kernel
theorem d_12_kinds_88 : decode prog_14_method_117_code 88 = .ok (.ireturn, 1) := by decide +kernel
theorem d_12_by_0 : decode prog_14_method_118_code 0 = .ok (.aload_n 0, 1) := by decide +kernel
theorem d_12_by_1 : decode prog_14_method_118_code 1 = .ok (.iconst 0, 1) := by decide +kernel
theorem d_12_by_2 : decode prog_14_method_118_code 2 = .ok (.putfield 3, 3) := by decide +kernel
theorem d_12_by_5 : decode prog_14_method_118_code 5 = .ok (.aload_n 0, 1) := by decide +kernel
theorem d_12_by_6 : decode prog_14_method_118_code 6 = .ok (.aload_n 0, 1) := by decide +kernel
theorem d_12_by_7 : decode prog_14_method_118_code 7 = .ok (.iload_n 1, 1) := by decide +kernel
theorem d_12_by_8 : decode prog_14_method_118_code 8 = .ok (.invokevirtual 81, 3) := by decide +kernel
theorem d_12_by_11 : decode prog_14_method_118_code 11 = .ok (.iconst (-1), 1) := by decide +kernel
theorem d_12_by_12 : decode prog_14_method_118_code 12 = .ok (.if_icmp .eq 11, 3) := by decide +kernel
theorem d_12_by_15 : decode prog_14_method_118_code 15 = .ok (.aload_n 0, 1) := by decide +kernel
theorem d_12_by_16 : decode prog_14_method_118_code 16 = .ok (.iload_n 2, 1) := by decide +kernel
theorem d_12_by_17 : decode prog_14_method_118_code 17 = .ok (.invokevirtual 288, 3) := by decide +kernel
theorem d_12_by_20 : decode prog_14_method_118_code 20 = .ok (.ifCond .eq 7, 3) := by decide +kernel
theorem d_12_by_23 : decode prog_14_method_118_code 23 = .ok (.iconst 1, 1) := by decide +kernel
theorem d_12_by_24 : decode prog_14_method_118_code 24 = .ok (.goto 4, 3) := by decide +kernel
theorem d_12_by_27 : decode prog_14_method_118_code 27 = .ok (.iconst 0, 1) := by decide +kernel
theorem d_12_by_28 : decode prog_14_method_118_code 28 = .ok (.iconst 1, 1) := by decide +kernel
theorem d_12_by_29 : decode prog_14_method_118_code 29 = .ok (.invokevirtual 185, 3) := by decide +kernel
theorem d_12_by_32 : decode prog_14_method_118_code 32 = .ok (.ifCond .eq 7, 3) := by decide +kernel
theorem d_12_by_35 : decode prog_14_method_118_code 35 = .ok (.iconst 0, 1) := by decide +kernel
theorem d_12_by_36 : decode prog_14_method_118_code 36 = .ok (.goto 18, 3) := by decide +kernel
theorem d_12_by_39 : decode prog_14_method_118_code 39 = .ok (.aload_n 0, 1) := by decide +kernel
theorem d_12_by_40 : decode prog_14_method_118_code 40 = .ok (.getfield 13, 3) := by decide +kernel
theorem d_12_by_43 : decode prog_14_method_118_code 43 = .ok (.aload_n 0, 1) := by decide +kernel
theorem d_12_by_44 : decode prog_14_method_118_code 44 = .ok (.iload_n 1, 1) := by decide +kernel
theorem d_12_by_45 : decode prog_14_method_118_code 45 = .ok (.invokevirtual 81, 3) := by decide +kernel
theorem d_12_by_48 : decode prog_14_method_118_code 48 = .ok (.bipush 6, 2) := by decide +kernel
theorem d_12_by_50 : decode prog_14_method_118_code 50 = .ok (.iadd, 1) := by decide +kernel
theorem d_12_by_51 : decode prog_14_method_118_code 51 = .ok (.iload_n 2, 1) := by decide +kernel
theorem d_12_by_52 : decode prog_14_method_118_code 52 = .ok (.iadd, 1) := by decide +kernel
theorem d_12_by_53 : decode prog_14_method_118_code 53 = .ok (.iaload, 1) := by decide +kernel
theorem d_12_by_54 : decode prog_14_method_118_code 54 = .ok (.ireturn, 1) := by decide +kernel
theorem d_12_isFirst_0 : decode prog_14_method_119_code 0 = .ok (.aload_n 0, 1) := by decide +kernel
theorem d_12_isFirst_1 : decode prog_14_method_119_code 1 = .ok (.iload_n 1, 1) := by decide +kernel
theorem d_12_isFirst_2 : decode prog_14_method_119_code 2 = .ok (.iload_n 2, 1) := by decide +kernel
theorem d_12_isFirst_3 : decode prog_14_method_119_code 3 = .ok (.aload_n 0, 1) := by decide +kernel
theorem d_12_isFirst_4 : decode prog_14_method_119_code 4 = .ok (.iload_n 1, 1) := by decide +kernel
theorem d_12_isFirst_5 : decode prog_14_method_119_code 5 = .ok (.iload_n 3, 1) := by decide +kernel
theorem d_12_isFirst_6 : decode prog_14_method_119_code 6 = .ok (.iload_n 2, 1) := by decide +kernel
theorem d_12_isFirst_7 : decode prog_14_method_119_code 7 = .ok (.invokevirtual 311, 3) := by decide +kernel
theorem d_12_isFirst_10 : decode prog_14_method_119_code 10 = .ok (.iconst 0, 1) := by decide +kernel
theorem d_12_isFirst_11 : decode prog_14_method_119_code 11 = .ok (.invokevirtual 356, 3) := by decide +kernel
theorem d_12_isFirst_14 : decode prog_14_method_119_code 14 = .ok (.iload_n 3, 1) := by decide +kernel
theorem d_12_isFirst_15 : decode prog_14_method_119_code 15 = .ok (.if_icmp .ne 7, 3) := by decide +kernel
theorem d_12_isFirst_18 : decode prog_14_method_119_code 18 = .ok (.iconst 1, 1) := by decide +kernel
theorem d_12_isFirst_19 : decode prog_14_method_119_code 19 = .ok (.goto 4, 3) := by decide +kernel
theorem d_12_isFirst_22 : decode prog_14_method_119_code 22 = .ok (.iconst 0, 1) := by decide +kernel
theorem d_12_isFirst_23 : decode prog_14_method_119_code 23 = .ok (.ireturn, 1) := by decide +kernel
theorem d_12_groupAt_0 : decode prog_14_method_120_code 0 = .ok (.iload_n 3, 1) := by decide +kernel
theorem d_12_groupAt_1 : decode prog_14_method_120_code 1 = .ok (.istore 4, 2) := by decide +kernel
theorem d_12_groupAt_3 : decode prog_14_method_120_code 3 = .ok (.iconst 0, 1) := by decide +kernel
theorem d_12_groupAt_4 : decode prog_14_method_120_code 4 = .ok (.istore 5, 2) := by decide +kernel
theorem d_12_groupAt_6 : decode prog_14_method_120_code 6 = .ok (.iload 5, 2) := by decide +kernel
theorem d_12_groupAt_8 : decode prog_14_method_120_code 8 = .ok (.aload_n 0, 1) := by decide +kernel
theorem d_12_groupAt_9 : decode prog_14_method_120_code 9 = .ok (.iload_n 1, 1) := by decide +kernel
theorem d_12_groupAt_10 : decode prog_14_method_120_code 10 = .ok (.invokestatic 68, 3) := by decide +kernel
theorem d_12_groupAt_13 : decode prog_14_method_120_code 13 = .ok (.invokevirtual 64, 3) := by decide +kernel
theorem d_12_groupAt_16 : decode prog_14_method_120_code 16 = .ok (.if_icmp .ge 39, 3) := by decide +kernel
theorem d_12_groupAt_19 : decode prog_14_method_120_code 19 = .ok (.iload 4, 2) := by decide +kernel
theorem d_12_groupAt_21 : decode prog_14_method_120_code 21 = .ok (.ifCond .lt 34, 3) := by decide +kernel
theorem d_12_groupAt_24 : decode prog_14_method_120_code 24 = .ok (.aload_n 0, 1) := by decide +kernel
theorem d_12_groupAt_25 : decode prog_14_method_120_code 25 = .ok (.iload_n 1, 1) := by decide +kernel
theorem d_12_groupAt_26 : decode prog_14_method_120_code 26 = .ok (.iload_n 2, 1) := by decide +kernel
theorem d_12_groupAt_27 : decode prog_14_method_120_code 27 = .ok (.iload 5, 2) := by decide +kernel
theorem d_12_groupAt_29 : decode prog_14_method_120_code 29 = .ok (.invokevirtual 359, 3) := by decide +kernel
theorem d_12_groupAt_32 : decode prog_14_method_120_code 32 = .ok (.ifCond .ne 6, 3) := by decide +kernel
theorem d_12_groupAt_35 : decode prog_14_method_120_code 35 = .ok (.goto 14, 3) := by decide +kernel
theorem d_12_groupAt_38 : decode prog_14_method_120_code 38 = .ok (.iload 4, 2) := by decide +kernel
theorem d_12_groupAt_40 : decode prog_14_method_120_code 40 = .ok (.ifCond .ne 6, 3) := by decide +kernel
theorem d_12_groupAt_43 : decode prog_14_method_120_code 43 = .ok (.iload 5, 2) := by decide +kernel
theorem d_12_groupAt_45 : decode prog_14_method_120_code 45 = .ok (.ireturn, 1) := by decide +kernel
theorem d_12_groupAt_46 : decode prog_14_method_120_code 46 = .ok (.iinc 4 (-1), 3) := by decide +kernel
theorem d_12_groupAt_49 : decode prog_14_method_120_code 49 = .ok (.iinc 5 1, 3) := by decide +kernel
theorem d_12_groupAt_52 : decode prog_14_method_120_code 52 = .ok (.goto (-46), 3) := by decide +kernel
theorem d_12_groupAt_55 : decode prog_14_method_120_code 55 = .ok (.iconst (-1), 1) := by decide +kernel
theorem d_12_groupAt_56 : decode prog_14_method_120_code 56 = .ok (.ireturn, 1) := by decide +kernel
theorem d_12_group_0 : decode prog_14_method_121_code 0 = .ok (.aload_n 0, 1) := by decide +kernel
theorem d_12_group_1 : decode prog_14_method_121_code 1 = .ok (.iconst 0, 1) := by decide +kernel
theorem d_12_group_2 : decode prog_14_method_121_code 2 = .ok (.putfield 3, 3) := by decide +kernel
theorem d_12_group_5 : decode prog_14_method_121_code 5 = .ok (.aload_n 0, 1) := by decide +kernel
theorem d_12_group_6 : decode prog_14_method_121_code 6 = .ok (.iload_n 1, 1) := by decide +kernel
theorem d_12_group_7 : decode prog_14_method_121_code 7 = .ok (.invokestatic 239, 3) := by decide +kernel
theorem d_12_group_10 : decode prog_14_method_121_code 10 = .ok (.ifCond .ne 11, 3) := by decide +kernel
theorem d_12_group_13 : decode prog_14_method_121_code 13 = .ok (.aload_n 0, 1) := by decide +kernel
theorem d_12_group_14 : decode prog_14_method_121_code 14 = .ok (.iload_n 2, 1) := by decide +kernel
theorem d_12_group_15 : decode prog_14_method_121_code 15 = .ok (.invokevirtual 288, 3) := by decide +kernel
theorem d_12_group_18 : decode prog_14_method_121_code 18 = .ok (.ifCond .eq 7, 3) := by decide +kernel
theorem d_12_group_21 : decode prog_14_method_121_code 21 = .ok (.iconst 1, 1) := by decide +kernel
theorem d_12_group_22 : decode prog_14_method_121_code 22 = .ok (.goto 4, 3) := by decide +kernel
theorem d_12_group_25 : decode prog_14_method_121_code 25 = .ok (.iconst 0, 1) := by decide +kernel
theorem d_12_group_26 : decode prog_14_method_121_code 26 = .ok (.iconst 1, 1) := by decide +kernel
theorem d_12_group_27 : decode prog_14_method_121_code 27 = .ok (.invokevirtual 185, 3) := by decide +kernel
theorem d_12_group_30 : decode prog_14_method_121_code 30 = .ok (.ifCond .ne 26, 3) := by decide +kernel
theorem d_12_group_33 : decode prog_14_method_121_code 33 = .ok (.aload_n 0, 1) := by decide +kernel
theorem d_12_group_34 : decode prog_14_method_121_code 34 = .ok (.iload 4, 2) := by decide +kernel
theorem d_12_group_36 : decode prog_14_method_121_code 36 = .ok (.iconst 0, 1) := by decide +kernel
theorem d_12_group_37 : decode prog_14_method_121_code 37 = .ok (.iconst 3, 1) := by decide +kernel
theorem d_12_group_38 : decode prog_14_method_121_code 38 = .ok (.invokestatic 56, 3) := by decide +kernel
theorem d_12_group_41 : decode prog_14_method_121_code 41 = .ok (.ifCond .ne 7, 3) := by decide +kernel
theorem d_12_group_44 : decode prog_14_method_121_code 44 = .ok (.iconst 1, 1) := by decide +kernel
theorem d_12_group_45 : decode prog_14_method_121_code 45 = .ok (.goto 4, 3) := by decide +kernel
theorem d_12_group_48 : decode prog_14_method_121_code 48 = .ok (.iconst 0, 1) := by decide +kernel
theorem d_12_group_49 : decode prog_14_method_121_code 49 = .ok (.iconst 2, 1) := by decide +kernel
theorem d_12_group_50 : decode prog_14_method_121_code 50 = .ok (.invokevirtual 185, 3) := by decide +kernel
theorem d_12_group_53 : decode prog_14_method_121_code 53 = .ok (.ifCond .eq 5, 3) := by decide +kernel
theorem d_12_group_56 : decode prog_14_method_121_code 56 = .ok (.iconst 0, 1) := by decide +kernel
theorem d_12_group_57 : decode prog_14_method_121_code 57 = .ok (.ireturn, 1) := by decide +kernel
theorem d_12_group_58 : decode prog_14_method_121_code 58 = .ok (.aload_n 0, 1) := by decide +kernel
theorem d_12_group_59 : decode prog_14_method_121_code 59 = .ok (.iload_n 1, 1) := by decide +kernel
theorem d_12_group_60 : decode prog_14_method_121_code 60 = .ok (.iload_n 2, 1) := by decide +kernel
theorem d_12_group_61 : decode prog_14_method_121_code 61 = .ok (.iload_n 3, 1) := by decide +kernel
theorem d_12_group_62 : decode prog_14_method_121_code 62 = .ok (.invokevirtual 362, 3) := by decide +kernel
theorem d_12_group_65 : decode prog_14_method_121_code 65 = .ok (.istore 5, 2) := by decide +kernel
theorem d_12_group_67 : decode prog_14_method_121_code 67 = .ok (.aload_n 0, 1) := by decide +kernel
theorem d_12_group_68 : decode prog_14_method_121_code 68 = .ok (.iload 5, 2) := by decide +kernel
theorem d_12_group_70 : decode prog_14_method_121_code 70 = .ok (.iconst (-1), 1) := by decide +kernel
theorem d_12_group_71 : decode prog_14_method_121_code 71 = .ok (.if_icmp .ne 7, 3) := by decide +kernel
theorem d_12_group_74 : decode prog_14_method_121_code 74 = .ok (.iconst 1, 1) := by decide +kernel
theorem d_12_group_75 : decode prog_14_method_121_code 75 = .ok (.goto 4, 3) := by decide +kernel
theorem d_12_group_78 : decode prog_14_method_121_code 78 = .ok (.iconst 0, 1) := by decide +kernel
theorem d_12_total_0 : decode prog_14_method_122_code 0 = .ok (.aload_n 0, 1) := by decide +kernel
theorem d_12_total_1 : decode prog_14_method_122_code 1 = .ok (.iconst 0, 1) := by decide +kernel
theorem d_12_total_2 : decode prog_14_method_122_code 2 = .ok (.putfield 3, 3) := by decide +kernel
theorem d_12_total_5 : decode prog_14_method_122_code 5 = .ok (.aload_n 0, 1) := by decide +kernel
theorem d_12_total_6 : decode prog_14_method_122_code 6 = .ok (.iload_n 1, 1) := by decide +kernel
theorem d_12_total_7 : decode prog_14_method_122_code 7 = .ok (.invokestatic 239, 3) := by decide +kernel
theorem d_12_total_10 : decode prog_14_method_122_code 10 = .ok (.ifCond .ne 20, 3) := by decide +kernel
theorem d_12_total_13 : decode prog_14_method_122_code 13 = .ok (.aload_n 0, 1) := by decide +kernel
theorem d_12_total_14 : decode prog_14_method_122_code 14 = .ok (.iload_n 2, 1) := by decide +kernel
theorem d_12_total_15 : decode prog_14_method_122_code 15 = .ok (.invokevirtual 288, 3) := by decide +kernel
theorem d_12_total_18 : decode prog_14_method_122_code 18 = .ok (.ifCond .ne 12, 3) := by decide +kernel
theorem d_12_total_21 : decode prog_14_method_122_code 21 = .ok (.aload_n 0, 1) := by decide +kernel
theorem d_12_total_22 : decode prog_14_method_122_code 22 = .ok (.iload 4, 2) := by decide +kernel
theorem d_12_total_24 : decode prog_14_method_122_code 24 = .ok (.invokevirtual 288, 3) := by decide +kernel
theorem d_12_total_27 : decode prog_14_method_122_code 27 = .ok (.ifCond .eq 7, 3) := by decide +kernel
theorem d_12_total_30 : decode prog_14_method_122_code 30 = .ok (.iconst 1, 1) := by decide +kernel
theorem d_12_total_31 : decode prog_14_method_122_code 31 = .ok (.goto 4, 3) := by decide +kernel
theorem d_12_total_34 : decode prog_14_method_122_code 34 = .ok (.iconst 0, 1) := by decide +kernel
theorem d_12_total_35 : decode prog_14_method_122_code 35 = .ok (.iconst 1, 1) := by decide +kernel
theorem d_12_total_36 : decode prog_14_method_122_code 36 = .ok (.invokevirtual 185, 3) := by decide +kernel
theorem d_12_total_39 : decode prog_14_method_122_code 39 = .ok (.ifCond .ne 17, 3) := by decide +kernel
theorem d_12_total_42 : decode prog_14_method_122_code 42 = .ok (.aload_n 0, 1) := by decide +kernel
theorem d_12_total_43 : decode prog_14_method_122_code 43 = .ok (.aload_n 0, 1) := by decide +kernel
theorem d_12_total_44 : decode prog_14_method_122_code 44 = .ok (.iload 4, 2) := by decide +kernel
theorem d_12_total_46 : decode prog_14_method_122_code 46 = .ok (.invokevirtual 130, 3) := by decide +kernel
theorem d_12_total_49 : decode prog_14_method_122_code 49 = .ok (.iconst 2, 1) := by decide +kernel
theorem d_12_total_50 : decode prog_14_method_122_code 50 = .ok (.invokevirtual 185, 3) := by decide +kernel
theorem d_12_total_53 : decode prog_14_method_122_code 53 = .ok (.ifCond .eq 5, 3) := by decide +kernel
theorem d_12_total_56 : decode prog_14_method_122_code 56 = .ok (.iconst 0, 1) := by decide +kernel
theorem d_12_total_57 : decode prog_14_method_122_code 57 = .ok (.ireturn, 1) := by decide +kernel
theorem d_12_total_58 : decode prog_14_method_122_code 58 = .ok (.aload_n 0, 1) := by decide +kernel
theorem d_12_total_59 : decode prog_14_method_122_code 59 = .ok (.iload_n 1, 1) := by decide +kernel
theorem d_12_total_60 : decode prog_14_method_122_code 60 = .ok (.iload_n 2, 1) := by decide +kernel
theorem d_12_total_61 : decode prog_14_method_122_code 61 = .ok (.iload_n 3, 1) := by decide +kernel
theorem d_12_total_62 : decode prog_14_method_122_code 62 = .ok (.invokevirtual 362, 3) := by decide +kernel
theorem d_12_total_65 : decode prog_14_method_122_code 65 = .ok (.istore 5, 2) := by decide +kernel
theorem d_12_total_67 : decode prog_14_method_122_code 67 = .ok (.aload_n 0, 1) := by decide +kernel
theorem d_12_total_68 : decode prog_14_method_122_code 68 = .ok (.iload 5, 2) := by decide +kernel
theorem d_12_total_70 : decode prog_14_method_122_code 70 = .ok (.iconst (-1), 1) := by decide +kernel
theorem d_12_total_71 : decode prog_14_method_122_code 71 = .ok (.if_icmp .ne 7, 3) := by decide +kernel
theorem d_12_total_74 : decode prog_14_method_122_code 74 = .ok (.iconst 1, 1) := by decide +kernel
theorem d_12_total_75 : decode prog_14_method_122_code 75 = .ok (.goto 4, 3) := by decide +kernel
theorem d_12_total_78 : decode prog_14_method_122_code 78 = .ok (.iconst 0, 1) := by decide +kernel
theorem d_12_total_79 : decode prog_14_method_122_code 79 = .ok (.iconst 3, 1) := by decide +kernel
theorem d_12_total_80 : decode prog_14_method_122_code 80 = .ok (.invokevirtual 185, 3) := by decide +kernel
theorem d_12_total_83 : decode prog_14_method_122_code 83 = .ok (.ifCond .eq 5, 3) := by decide +kernel
theorem d_12_total_86 : decode prog_14_method_122_code 86 = .ok (.iconst 0, 1) := by decide +kernel
theorem d_12_total_87 : decode prog_14_method_122_code 87 = .ok (.ireturn, 1) := by decide +kernel
theorem d_12_total_88 : decode prog_14_method_122_code 88 = .ok (.iconst 0, 1) := by decide +kernel
theorem d_12_total_89 : decode prog_14_method_122_code 89 = .ok (.istore 6, 2) := by decide +kernel
theorem d_12_total_91 : decode prog_14_method_122_code 91 = .ok (.iload 5, 2) := by decide +kernel
theorem d_12_total_93 : decode prog_14_method_122_code 93 = .ok (.istore 7, 2) := by decide +kernel
theorem d_12_total_95 : decode prog_14_method_122_code 95 = .ok (.iload 7, 2) := by decide +kernel
theorem d_12_total_97 : decode prog_14_method_122_code 97 = .ok (.aload_n 0, 1) := by decide +kernel
theorem d_12_total_98 : decode prog_14_method_122_code 98 = .ok (.iload_n 1, 1) := by decide +kernel
theorem d_12_total_99 : decode prog_14_method_122_code 99 = .ok (.invokestatic 68, 3) := by decide +kernel
theorem d_12_total_102 : decode prog_14_method_122_code 102 = .ok (.invokevirtual 64, 3) := by decide +kernel
theorem d_12_total_105 : decode prog_14_method_122_code 105 = .ok (.if_icmp .ge 72, 3) := by decide +kernel
theorem d_12_total_108 : decode prog_14_method_122_code 108 = .ok (.aload_n 0, 1) := by decide +kernel
theorem d_12_total_109 : decode prog_14_method_122_code 109 = .ok (.iload_n 1, 1) := by decide +kernel
theorem d_12_total_110 : decode prog_14_method_122_code 110 = .ok (.iload 7, 2) := by decide +kernel
theorem d_12_total_112 : decode prog_14_method_122_code 112 = .ok (.iload_n 2, 1) := by decide +kernel
theorem d_12_total_113 : decode prog_14_method_122_code 113 = .ok (.invokevirtual 311, 3) := by decide +kernel
theorem d_12_total_116 : decode prog_14_method_122_code 116 = .ok (.aload_n 0, 1) := by decide +kernel
theorem d_12_total_117 : decode prog_14_method_122_code 117 = .ok (.iload_n 1, 1) := by decide +kernel
theorem d_12_total_118 : decode prog_14_method_122_code 118 = .ok (.iload 5, 2) := by decide +kernel
theorem d_12_total_120 : decode prog_14_method_122_code 120 = .ok (.iload_n 2, 1) := by decide +kernel
theorem d_12_total_121 : decode prog_14_method_122_code 121 = .ok (.invokevirtual 311, 3) := by decide +kernel
theorem d_12_total_124 : decode prog_14_method_122_code 124 = .ok (.if_icmp .ne 21, 3) := by decide +kernel
theorem d_12_total_127 : decode prog_14_method_122_code 127 = .ok (.aload_n 0, 1) := by decide +kernel
theorem d_12_total_128 : decode prog_14_method_122_code 128 = .ok (.iload_n 1, 1) := by decide +kernel
theorem d_12_total_129 : decode prog_14_method_122_code 129 = .ok (.iload 7, 2) := by decide +kernel
theorem d_12_total_131 : decode prog_14_method_122_code 131 = .ok (.iload 4, 2) := by decide +kernel
theorem d_12_total_133 : decode prog_14_method_122_code 133 = .ok (.invokevirtual 311, 3) := by decide +kernel
theorem d_12_total_136 : decode prog_14_method_122_code 136 = .ok (.ldc 84, 2) := by decide +kernel
theorem d_12_total_138 : decode prog_14_method_122_code 138 = .ok (.if_icmp .eq 7, 3) := by decide +kernel
theorem d_12_total_141 : decode prog_14_method_122_code 141 = .ok (.iconst 1, 1) := by decide +kernel
theorem d_12_total_142 : decode prog_14_method_122_code 142 = .ok (.goto 4, 3) := by decide +kernel
theorem d_12_total_145 : decode prog_14_method_122_code 145 = .ok (.iconst 0, 1) := by decide +kernel
theorem d_12_total_146 : decode prog_14_method_122_code 146 = .ok (.istore 8, 2) := by decide +kernel
theorem d_12_total_148 : decode prog_14_method_122_code 148 = .ok (.iload 6, 2) := by decide +kernel
theorem d_12_total_150 : decode prog_14_method_122_code 150 = .ok (.iload 8, 2) := by decide +kernel
theorem d_12_total_152 : decode prog_14_method_122_code 152 = .ok (.ifCond .eq 15, 3) := by decide +kernel
theorem d_12_total_155 : decode prog_14_method_122_code 155 = .ok (.aload_n 0, 1) := by decide +kernel
theorem d_12_total_156 : decode prog_14_method_122_code 156 = .ok (.iload_n 1, 1) := by decide +kernel
theorem d_12_total_157 : decode prog_14_method_122_code 157 = .ok (.iload 7, 2) := by decide +kernel
theorem d_12_total_159 : decode prog_14_method_122_code 159 = .ok (.iload 4, 2) := by decide +kernel
theorem d_12_total_161 : decode prog_14_method_122_code 161 = .ok (.invokevirtual 311, 3) := by decide +kernel
theorem d_12_total_164 : decode prog_14_method_122_code 164 = .ok (.goto 4, 3) := by decide +kernel
theorem d_12_total_167 : decode prog_14_method_122_code 167 = .ok (.iconst 0, 1) := by decide +kernel
theorem d_12_total_168 : decode prog_14_method_122_code 168 = .ok (.iadd, 1) := by decide +kernel
theorem d_12_total_169 : decode prog_14_method_122_code 169 = .ok (.istore 6, 2) := by decide +kernel
theorem d_12_total_171 : decode prog_14_method_122_code 171 = .ok (.iinc 7 1, 3) := by decide +kernel
theorem d_12_total_174 : decode prog_14_method_122_code 174 = .ok (.goto (-79), 3) := by decide +kernel
theorem d_12_total_177 : decode prog_14_method_122_code 177 = .ok (.iload 6, 2) := by decide +kernel
theorem d_12_total_179 : decode prog_14_method_122_code 179 = .ok (.ireturn, 1) := by decide +kernel
theorem d_12_upTo_0 : decode prog_14_method_123_code 0 = .ok (.iconst 0, 1) := by decide +kernel
theorem d_12_upTo_1 : decode prog_14_method_123_code 1 = .ok (.istore 5, 2) := by decide +kernel
theorem d_12_upTo_3 : decode prog_14_method_123_code 3 = .ok (.iconst 0, 1) := by decide +kernel
theorem d_12_upTo_4 : decode prog_14_method_123_code 4 = .ok (.istore 6, 2) := by decide +kernel
theorem d_12_upTo_6 : decode prog_14_method_123_code 6 = .ok (.iload 6, 2) := by decide +kernel
theorem d_12_upTo_8 : decode prog_14_method_123_code 8 = .ok (.aload_n 0, 1) := by decide +kernel
theorem d_12_upTo_9 : decode prog_14_method_123_code 9 = .ok (.iload_n 1, 1) := by decide +kernel
theorem d_12_upTo_10 : decode prog_14_method_123_code 10 = .ok (.invokestatic 68, 3) := by decide +kernel
theorem d_12_upTo_13 : decode prog_14_method_123_code 13 = .ok (.invokevirtual 64, 3) := by decide +kernel
theorem d_12_upTo_16 : decode prog_14_method_123_code 16 = .ok (.if_icmp .ge 53, 3) := by decide +kernel
theorem d_12_upTo_19 : decode prog_14_method_123_code 19 = .ok (.aload_n 0, 1) := by decide +kernel
theorem d_12_upTo_20 : decode prog_14_method_123_code 20 = .ok (.iload_n 1, 1) := by decide +kernel
theorem d_12_upTo_21 : decode prog_14_method_123_code 21 = .ok (.iload 6, 2) := by decide +kernel
theorem d_12_upTo_23 : decode prog_14_method_123_code 23 = .ok (.iload_n 2, 1) := by decide +kernel
theorem d_12_upTo_24 : decode prog_14_method_123_code 24 = .ok (.invokevirtual 311, 3) := by decide +kernel
theorem d_12_upTo_27 : decode prog_14_method_123_code 27 = .ok (.istore 7, 2) := by decide +kernel
theorem d_12_upTo_29 : decode prog_14_method_123_code 29 = .ok (.iload 5, 2) := by decide +kernel
theorem d_12_upTo_31 : decode prog_14_method_123_code 31 = .ok (.iload 7, 2) := by decide +kernel
theorem d_12_upTo_33 : decode prog_14_method_123_code 33 = .ok (.ldc 84, 2) := by decide +kernel
theorem d_12_upTo_35 : decode prog_14_method_123_code 35 = .ok (.if_icmp .eq 24, 3) := by decide +kernel
theorem d_12_upTo_38 : decode prog_14_method_123_code 38 = .ok (.iload 7, 2) := by decide +kernel
theorem d_12_upTo_40 : decode prog_14_method_123_code 40 = .ok (.iload_n 3, 1) := by decide +kernel
theorem d_12_upTo_41 : decode prog_14_method_123_code 41 = .ok (.if_icmp .lt 14, 3) := by decide +kernel
theorem d_12_upTo_44 : decode prog_14_method_123_code 44 = .ok (.iload 4, 2) := by decide +kernel
theorem d_12_upTo_46 : decode prog_14_method_123_code 46 = .ok (.ifCond .eq 13, 3) := by decide +kernel
theorem d_12_upTo_49 : decode prog_14_method_123_code 49 = .ok (.iload 7, 2) := by decide +kernel
theorem d_12_upTo_51 : decode prog_14_method_123_code 51 = .ok (.iload_n 3, 1) := by decide +kernel
theorem d_12_upTo_52 : decode prog_14_method_123_code 52 = .ok (.if_icmp .ne 7, 3) := by decide +kernel
theorem d_12_upTo_55 : decode prog_14_method_123_code 55 = .ok (.iconst 1, 1) := by decide +kernel
theorem d_12_upTo_56 : decode prog_14_method_123_code 56 = .ok (.goto 4, 3) := by decide +kernel
theorem d_12_upTo_59 : decode prog_14_method_123_code 59 = .ok (.iconst 0, 1) := by decide +kernel
theorem d_12_upTo_60 : decode prog_14_method_123_code 60 = .ok (.iadd, 1) := by decide +kernel
theorem d_12_upTo_61 : decode prog_14_method_123_code 61 = .ok (.istore 5, 2) := by decide +kernel
theorem d_12_upTo_63 : decode prog_14_method_123_code 63 = .ok (.iinc 6 1, 3) := by decide +kernel
theorem d_12_upTo_66 : decode prog_14_method_123_code 66 = .ok (.goto (-60), 3) := by decide +kernel
theorem d_12_upTo_69 : decode prog_14_method_123_code 69 = .ok (.iload 5, 2) := by decide +kernel
theorem d_12_upTo_71 : decode prog_14_method_123_code 71 = .ok (.ireturn, 1) := by decide +kernel
theorem d_12_middle_0 : decode prog_14_method_124_code 0 = .ok (.aload_n 0, 1) := by decide +kernel
theorem d_12_middle_1 : decode prog_14_method_124_code 1 = .ok (.iconst 0, 1) := by decide +kernel
theorem d_12_middle_2 : decode prog_14_method_124_code 2 = .ok (.putfield 3, 3) := by decide +kernel
theorem d_12_middle_5 : decode prog_14_method_124_code 5 = .ok (.aload_n 0, 1) := by decide +kernel
theorem d_12_middle_6 : decode prog_14_method_124_code 6 = .ok (.iload_n 1, 1) := by decide +kernel
theorem d_12_middle_7 : decode prog_14_method_124_code 7 = .ok (.invokestatic 239, 3) := by decide +kernel
theorem d_12_middle_10 : decode prog_14_method_124_code 10 = .ok (.ifCond .ne 11, 3) := by decide +kernel
theorem d_12_middle_13 : decode prog_14_method_124_code 13 = .ok (.aload_n 0, 1) := by decide +kernel
theorem d_12_middle_14 : decode prog_14_method_124_code 14 = .ok (.iload_n 2, 1) := by decide +kernel
theorem d_12_middle_15 : decode prog_14_method_124_code 15 = .ok (.invokevirtual 288, 3) := by decide +kernel
theorem d_12_middle_18 : decode prog_14_method_124_code 18 = .ok (.ifCond .eq 7, 3) := by decide +kernel
theorem d_12_middle_21 : decode prog_14_method_124_code 21 = .ok (.iconst 1, 1) := by decide +kernel
theorem d_12_middle_22 : decode prog_14_method_124_code 22 = .ok (.goto 4, 3) := by decide +kernel
theorem d_12_middle_25 : decode prog_14_method_124_code 25 = .ok (.iconst 0, 1) := by decide +kernel
theorem d_12_middle_26 : decode prog_14_method_124_code 26 = .ok (.iconst 1, 1) := by decide +kernel
theorem d_12_middle_27 : decode prog_14_method_124_code 27 = .ok (.invokevirtual 185, 3) := by decide +kernel
theorem d_12_middle_30 : decode prog_14_method_124_code 30 = .ok (.ifCond .eq 5, 3) := by decide +kernel
theorem d_12_middle_33 : decode prog_14_method_124_code 33 = .ok (.iconst 0, 1) := by decide +kernel
theorem d_12_middle_34 : decode prog_14_method_124_code 34 = .ok (.ireturn, 1) := by decide +kernel
theorem d_12_middle_35 : decode prog_14_method_124_code 35 = .ok (.iconst 0, 1) := by decide +kernel
theorem d_12_middle_36 : decode prog_14_method_124_code 36 = .ok (.istore_n 3, 1) := by decide +kernel
theorem d_12_middle_37 : decode prog_14_method_124_code 37 = .ok (.iconst 0, 1) := by decide +kernel
theorem d_12_middle_38 : decode prog_14_method_124_code 38 = .ok (.istore 4, 2) := by decide +kernel
theorem d_12_middle_40 : decode prog_14_method_124_code 40 = .ok (.iload 4, 2) := by decide +kernel
theorem d_12_middle_42 : decode prog_14_method_124_code 42 = .ok (.aload_n 0, 1) := by decide +kernel
theorem d_12_middle_43 : decode prog_14_method_124_code 43 = .ok (.iload_n 1, 1) := by decide +kernel
theorem d_12_middle_44 : decode prog_14_method_124_code 44 = .ok (.invokestatic 68, 3) := by decide +kernel
theorem d_12_middle_47 : decode prog_14_method_124_code 47 = .ok (.invokevirtual 64, 3) := by decide +kernel
theorem d_12_middle_50 : decode prog_14_method_124_code 50 = .ok (.if_icmp .ge 30, 3) := by decide +kernel
theorem d_12_middle_53 : decode prog_14_method_124_code 53 = .ok (.iload_n 3, 1) := by decide +kernel
theorem d_12_middle_54 : decode prog_14_method_124_code 54 = .ok (.aload_n 0, 1) := by decide +kernel
theorem d_12_middle_55 : decode prog_14_method_124_code 55 = .ok (.iload_n 1, 1) := by decide +kernel
theorem d_12_middle_56 : decode prog_14_method_124_code 56 = .ok (.iload 4, 2) := by decide +kernel
theorem d_12_middle_58 : decode prog_14_method_124_code 58 = .ok (.iload_n 2, 1) := by decide +kernel
theorem d_12_middle_59 : decode prog_14_method_124_code 59 = .ok (.invokevirtual 311, 3) := by decide +kernel
theorem d_12_middle_62 : decode prog_14_method_124_code 62 = .ok (.ldc 84, 2) := by decide +kernel
theorem d_12_middle_64 : decode prog_14_method_124_code 64 = .ok (.if_icmp .ne 7, 3) := by decide +kernel
theorem d_12_middle_67 : decode prog_14_method_124_code 67 = .ok (.iconst 0, 1) := by decide +kernel
theorem d_12_middle_68 : decode prog_14_method_124_code 68 = .ok (.goto 4, 3) := by decide +kernel
theorem d_12_middle_71 : decode prog_14_method_124_code 71 = .ok (.iconst 1, 1) := by decide +kernel
theorem d_12_middle_72 : decode prog_14_method_124_code 72 = .ok (.iadd, 1) := by decide +kernel
theorem d_12_middle_73 : decode prog_14_method_124_code 73 = .ok (.istore_n 3, 1) := by decide +kernel
theorem d_12_middle_74 : decode prog_14_method_124_code 74 = .ok (.iinc 4 1, 3) := by decide +kernel
theorem d_12_middle_77 : decode prog_14_method_124_code 77 = .ok (.goto (-37), 3) := by decide +kernel
theorem d_12_middle_80 : decode prog_14_method_124_code 80 = .ok (.iload_n 3, 1) := by decide +kernel
theorem d_12_middle_81 : decode prog_14_method_124_code 81 = .ok (.iconst 1, 1) := by decide +kernel
theorem d_12_middle_82 : decode prog_14_method_124_code 82 = .ok (.isub, 1) := by decide +kernel
theorem d_12_middle_83 : decode prog_14_method_124_code 83 = .ok (.iconst 2, 1) := by decide +kernel
theorem d_12_middle_84 : decode prog_14_method_124_code 84 = .ok (.idiv, 1) := by decide +kernel
theorem d_12_middle_85 : decode prog_14_method_124_code 85 = .ok (.istore 4, 2) := by decide +kernel
theorem d_12_middle_87 : decode prog_14_method_124_code 87 = .ok (.iconst 0, 1) := by decide +kernel
theorem d_12_middle_88 : decode prog_14_method_124_code 88 = .ok (.istore 5, 2) := by decide +kernel
theorem d_12_middle_90 : decode prog_14_method_124_code 90 = .ok (.iload 5, 2) := by decide +kernel
theorem d_12_middle_92 : decode prog_14_method_124_code 92 = .ok (.aload_n 0, 1) := by decide +kernel
theorem d_12_middle_93 : decode prog_14_method_124_code 93 = .ok (.iload_n 1, 1) := by decide +kernel
theorem d_12_middle_94 : decode prog_14_method_124_code 94 = .ok (.invokestatic 68, 3) := by decide +kernel
theorem d_12_middle_97 : decode prog_14_method_124_code 97 = .ok (.invokevirtual 64, 3) := by decide +kernel
theorem d_12_middle_100 : decode prog_14_method_124_code 100 = .ok (.if_icmp .ge 61, 3) := by decide +kernel
theorem d_12_middle_103 : decode prog_14_method_124_code 103 = .ok (.iload_n 3, 1) := by decide +kernel
theorem d_12_middle_104 : decode prog_14_method_124_code 104 = .ok (.ifCond .le 57, 3) := by decide +kernel
theorem d_12_middle_107 : decode prog_14_method_124_code 107 = .ok (.aload_n 0, 1) := by decide +kernel
theorem d_12_middle_108 : decode prog_14_method_124_code 108 = .ok (.iload_n 1, 1) := by decide +kernel
theorem d_12_middle_109 : decode prog_14_method_124_code 109 = .ok (.iload 5, 2) := by decide +kernel
theorem d_12_middle_111 : decode prog_14_method_124_code 111 = .ok (.iload_n 2, 1) := by decide +kernel
theorem d_12_middle_112 : decode prog_14_method_124_code 112 = .ok (.invokevirtual 311, 3) := by decide +kernel
theorem d_12_middle_115 : decode prog_14_method_124_code 115 = .ok (.istore 6, 2) := by decide +kernel
theorem d_12_middle_117 : decode prog_14_method_124_code 117 = .ok (.iload 6, 2) := by decide +kernel
theorem d_12_middle_119 : decode prog_14_method_124_code 119 = .ok (.ldc 84, 2) := by decide +kernel
theorem d_12_middle_121 : decode prog_14_method_124_code 121 = .ok (.if_icmp .eq 34, 3) := by decide +kernel
theorem d_12_middle_124 : decode prog_14_method_124_code 124 = .ok (.aload_n 0, 1) := by decide +kernel
theorem d_12_middle_125 : decode prog_14_method_124_code 125 = .ok (.iload_n 1, 1) := by decide +kernel
theorem d_12_middle_126 : decode prog_14_method_124_code 126 = .ok (.iload_n 2, 1) := by decide +kernel
theorem d_12_middle_127 : decode prog_14_method_124_code 127 = .ok (.iload 6, 2) := by decide +kernel
theorem d_12_middle_129 : decode prog_14_method_124_code 129 = .ok (.iconst 0, 1) := by decide +kernel
theorem d_12_middle_130 : decode prog_14_method_124_code 130 = .ok (.invokevirtual 365, 3) := by decide +kernel
theorem d_12_middle_133 : decode prog_14_method_124_code 133 = .ok (.iload 4, 2) := by decide +kernel
theorem d_12_middle_135 : decode prog_14_method_124_code 135 = .ok (.if_icmp .gt 20, 3) := by decide +kernel
theorem d_12_middle_138 : decode prog_14_method_124_code 138 = .ok (.aload_n 0, 1) := by decide +kernel
theorem d_12_middle_139 : decode prog_14_method_124_code 139 = .ok (.iload_n 1, 1) := by decide +kernel
theorem d_12_middle_140 : decode prog_14_method_124_code 140 = .ok (.iload_n 2, 1) := by decide +kernel
theorem d_12_middle_141 : decode prog_14_method_124_code 141 = .ok (.iload 6, 2) := by decide +kernel
theorem d_12_middle_143 : decode prog_14_method_124_code 143 = .ok (.iconst 1, 1) := by decide +kernel
theorem d_12_middle_144 : decode prog_14_method_124_code 144 = .ok (.invokevirtual 365, 3) := by decide +kernel
theorem d_12_middle_147 : decode prog_14_method_124_code 147 = .ok (.iload 4, 2) := by decide +kernel
theorem d_12_middle_149 : decode prog_14_method_124_code 149 = .ok (.if_icmp .le 6, 3) := by decide +kernel
theorem d_12_middle_152 : decode prog_14_method_124_code 152 = .ok (.iload 6, 2) := by decide +kernel
theorem d_12_middle_154 : decode prog_14_method_124_code 154 = .ok (.ireturn, 1) := by decide +kernel
theorem d_12_middle_155 : decode prog_14_method_124_code 155 = .ok (.iinc 5 1, 3) := by decide +kernel
theorem d_12_middle_158 : decode prog_14_method_124_code 158 = .ok (.goto (-68), 3) := by decide +kernel
theorem d_12_middle_161 : decode prog_14_method_124_code 161 = .ok (.ldc 84, 2) := by decide +kernel
theorem d_12_middle_163 : decode prog_14_method_124_code 163 = .ok (.ireturn, 1) := by decide +kernel
theorem d_12_areTwins_0 : decode prog_14_method_125_code 0 = .ok (.iconst 1, 1) := by decide +kernel
theorem d_12_areTwins_1 : decode prog_14_method_125_code 1 = .ok (.istore 4, 2) := by decide +kernel
theorem d_12_areTwins_3 : decode prog_14_method_125_code 3 = .ok (.iconst 0, 1) := by decide +kernel
theorem d_12_areTwins_4 : decode prog_14_method_125_code 4 = .ok (.istore 5, 2) := by decide +kernel
theorem d_12_areTwins_6 : decode prog_14_method_125_code 6 = .ok (.iload 5, 2) := by decide +kernel
theorem d_12_areTwins_8 : decode prog_14_method_125_code 8 = .ok (.aload_n 0, 1) := by decide +kernel
theorem d_12_areTwins_9 : decode prog_14_method_125_code 9 = .ok (.invokevirtual 60, 3) := by decide +kernel
theorem d_12_areTwins_12 : decode prog_14_method_125_code 12 = .ok (.if_icmp .ge 50, 3) := by decide +kernel
theorem d_12_areTwins_15 : decode prog_14_method_125_code 15 = .ok (.iload 4, 2) := by decide +kernel
theorem d_12_areTwins_17 : decode prog_14_method_125_code 17 = .ok (.ifCond .eq 45, 3) := by decide +kernel
theorem d_12_areTwins_20 : decode prog_14_method_125_code 20 = .ok (.aload_n 0, 1) := by decide +kernel
theorem d_12_areTwins_21 : decode prog_14_method_125_code 21 = .ok (.iload_n 1, 1) := by decide +kernel
theorem d_12_areTwins_22 : decode prog_14_method_125_code 22 = .ok (.iload 5, 2) := by decide +kernel
theorem d_12_areTwins_24 : decode prog_14_method_125_code 24 = .ok (.invokevirtual 295, 3) := by decide +kernel
theorem d_12_areTwins_27 : decode prog_14_method_125_code 27 = .ok (.ifCond .ne 22, 3) := by decide +kernel
theorem d_12_areTwins_30 : decode prog_14_method_125_code 30 = .ok (.aload_n 0, 1) := by decide +kernel
theorem d_12_areTwins_31 : decode prog_14_method_125_code 31 = .ok (.iload_n 1, 1) := by decide +kernel
theorem d_12_areTwins_32 : decode prog_14_method_125_code 32 = .ok (.iload_n 2, 1) := by decide +kernel
theorem d_12_areTwins_33 : decode prog_14_method_125_code 33 = .ok (.iload 5, 2) := by decide +kernel
theorem d_12_areTwins_35 : decode prog_14_method_125_code 35 = .ok (.invokevirtual 311, 3) := by decide +kernel
theorem d_12_areTwins_38 : decode prog_14_method_125_code 38 = .ok (.aload_n 0, 1) := by decide +kernel
theorem d_12_areTwins_39 : decode prog_14_method_125_code 39 = .ok (.iload_n 1, 1) := by decide +kernel
theorem d_12_areTwins_40 : decode prog_14_method_125_code 40 = .ok (.iload_n 3, 1) := by decide +kernel
theorem d_12_areTwins_41 : decode prog_14_method_125_code 41 = .ok (.iload 5, 2) := by decide +kernel
theorem d_12_areTwins_43 : decode prog_14_method_125_code 43 = .ok (.invokevirtual 311, 3) := by decide +kernel
theorem d_12_areTwins_46 : decode prog_14_method_125_code 46 = .ok (.if_icmp .ne 7, 3) := by decide +kernel
theorem d_12_areTwins_49 : decode prog_14_method_125_code 49 = .ok (.iconst 1, 1) := by decide +kernel
theorem d_12_areTwins_50 : decode prog_14_method_125_code 50 = .ok (.goto 4, 3) := by decide +kernel
theorem d_12_areTwins_53 : decode prog_14_method_125_code 53 = .ok (.iconst 0, 1) := by decide +kernel
theorem d_12_areTwins_54 : decode prog_14_method_125_code 54 = .ok (.istore 4, 2) := by decide +kernel
theorem d_12_areTwins_56 : decode prog_14_method_125_code 56 = .ok (.iinc 5 1, 3) := by decide +kernel
theorem d_12_areTwins_59 : decode prog_14_method_125_code 59 = .ok (.goto (-53), 3) := by decide +kernel
theorem d_12_areTwins_62 : decode prog_14_method_125_code 62 = .ok (.iload 4, 2) := by decide +kernel
theorem d_12_areTwins_64 : decode prog_14_method_125_code 64 = .ok (.ireturn, 1) := by decide +kernel
theorem d_12_twice_0 : decode prog_14_method_126_code 0 = .ok (.aload_n 0, 1) := by decide +kernel
theorem d_12_twice_1 : decode prog_14_method_126_code 1 = .ok (.iconst 0, 1) := by decide +kernel
theorem d_12_twice_2 : decode prog_14_method_126_code 2 = .ok (.putfield 3, 3) := by decide +kernel
theorem d_12_twice_5 : decode prog_14_method_126_code 5 = .ok (.aload_n 0, 1) := by decide +kernel
theorem d_12_twice_6 : decode prog_14_method_126_code 6 = .ok (.iload_n 1, 1) := by decide +kernel
theorem d_12_twice_7 : decode prog_14_method_126_code 7 = .ok (.invokestatic 239, 3) := by decide +kernel
theorem d_12_twice_10 : decode prog_14_method_126_code 10 = .ok (.iconst 1, 1) := by decide +kernel
theorem d_12_twice_11 : decode prog_14_method_126_code 11 = .ok (.invokevirtual 185, 3) := by decide +kernel
theorem d_12_twice_14 : decode prog_14_method_126_code 14 = .ok (.ifCond .eq 5, 3) := by decide +kernel
theorem d_12_twice_17 : decode prog_14_method_126_code 17 = .ok (.iconst 0, 1) := by decide +kernel
theorem d_12_twice_18 : decode prog_14_method_126_code 18 = .ok (.ireturn, 1) := by decide +kernel
theorem d_12_twice_19 : decode prog_14_method_126_code 19 = .ok (.iconst 0, 1) := by decide +kernel
theorem d_12_twice_20 : decode prog_14_method_126_code 20 = .ok (.istore_n 2, 1) := by decide +kernel
theorem d_12_twice_21 : decode prog_14_method_126_code 21 = .ok (.iconst 0, 1) := by decide +kernel
theorem d_12_twice_22 : decode prog_14_method_126_code 22 = .ok (.istore_n 3, 1) := by decide +kernel
theorem d_12_twice_23 : decode prog_14_method_126_code 23 = .ok (.iload_n 3, 1) := by decide +kernel
theorem d_12_twice_24 : decode prog_14_method_126_code 24 = .ok (.aload_n 0, 1) := by decide +kernel
theorem d_12_twice_25 : decode prog_14_method_126_code 25 = .ok (.iload_n 1, 1) := by decide +kernel
theorem d_12_twice_26 : decode prog_14_method_126_code 26 = .ok (.invokestatic 68, 3) := by decide +kernel
theorem d_12_twice_29 : decode prog_14_method_126_code 29 = .ok (.invokevirtual 64, 3) := by decide +kernel
theorem d_12_twice_32 : decode prog_14_method_126_code 32 = .ok (.if_icmp .ge 45, 3) := by decide +kernel
theorem d_12_twice_35 : decode prog_14_method_126_code 35 = .ok (.iconst 0, 1) := by decide +kernel
theorem d_12_twice_36 : decode prog_14_method_126_code 36 = .ok (.istore 4, 2) := by decide +kernel
theorem d_12_twice_38 : decode prog_14_method_126_code 38 = .ok (.iload 4, 2) := by decide +kernel
theorem d_12_twice_40 : decode prog_14_method_126_code 40 = .ok (.iload_n 3, 1) := by decide +kernel
theorem d_12_twice_41 : decode prog_14_method_126_code 41 = .ok (.if_icmp .ge 30, 3) := by decide +kernel
theorem d_12_twice_44 : decode prog_14_method_126_code 44 = .ok (.iload_n 2, 1) := by decide +kernel
theorem d_12_twice_45 : decode prog_14_method_126_code 45 = .ok (.aload_n 0, 1) := by decide +kernel
theorem d_12_twice_46 : decode prog_14_method_126_code 46 = .ok (.iload_n 1, 1) := by decide +kernel
theorem d_12_twice_47 : decode prog_14_method_126_code 47 = .ok (.iload_n 3, 1) := by decide +kernel
theorem d_12_twice_48 : decode prog_14_method_126_code 48 = .ok (.iload 4, 2) := by decide +kernel
theorem d_12_twice_50 : decode prog_14_method_126_code 50 = .ok (.invokevirtual 369, 3) := by decide +kernel
theorem d_12_twice_53 : decode prog_14_method_126_code 53 = .ok (.ifCond .eq 9, 3) := by decide +kernel
theorem d_12_twice_56 : decode prog_14_method_126_code 56 = .ok (.iconst 1, 1) := by decide +kernel
theorem d_12_twice_57 : decode prog_14_method_126_code 57 = .ok (.iload_n 3, 1) := by decide +kernel
theorem d_12_twice_58 : decode prog_14_method_126_code 58 = .ok (.ishl, 1) := by decide +kernel
theorem d_12_twice_59 : decode prog_14_method_126_code 59 = .ok (.goto 4, 3) := by decide +kernel
theorem d_12_twice_62 : decode prog_14_method_126_code 62 = .ok (.iconst 0, 1) := by decide +kernel
theorem d_12_twice_63 : decode prog_14_method_126_code 63 = .ok (.ior, 1) := by decide +kernel
theorem d_12_twice_64 : decode prog_14_method_126_code 64 = .ok (.istore_n 2, 1) := by decide +kernel
theorem d_12_twice_65 : decode prog_14_method_126_code 65 = .ok (.iinc 4 1, 3) := by decide +kernel
theorem d_12_twice_68 : decode prog_14_method_126_code 68 = .ok (.goto (-30), 3) := by decide +kernel
theorem d_12_twice_71 : decode prog_14_method_126_code 71 = .ok (.iinc 3 1, 3) := by decide +kernel
theorem d_12_twice_74 : decode prog_14_method_126_code 74 = .ok (.goto (-51), 3) := by decide +kernel
theorem d_12_twice_77 : decode prog_14_method_126_code 77 = .ok (.iload_n 2, 1) := by decide +kernel
theorem d_12_twice_78 : decode prog_14_method_126_code 78 = .ok (.ireturn, 1) := by decide +kernel
theorem d_12_find_0 : decode prog_14_method_127_code 0 = .ok (.aload_n 0, 1) := by decide +kernel
theorem d_12_find_1 : decode prog_14_method_127_code 1 = .ok (.iconst 0, 1) := by decide +kernel
theorem d_12_find_2 : decode prog_14_method_127_code 2 = .ok (.putfield 3, 3) := by decide +kernel
theorem d_12_find_5 : decode prog_14_method_127_code 5 = .ok (.aload_n 0, 1) := by decide +kernel
theorem d_12_find_6 : decode prog_14_method_127_code 6 = .ok (.iload_n 1, 1) := by decide +kernel
theorem d_12_find_7 : decode prog_14_method_127_code 7 = .ok (.invokestatic 239, 3) := by decide +kernel
theorem d_12_find_10 : decode prog_14_method_127_code 10 = .ok (.ifCond .ne 11, 3) := by decide +kernel
theorem d_12_find_13 : decode prog_14_method_127_code 13 = .ok (.aload_n 0, 1) := by decide +kernel
theorem d_12_find_14 : decode prog_14_method_127_code 14 = .ok (.iload_n 2, 1) := by decide +kernel
theorem d_12_find_15 : decode prog_14_method_127_code 15 = .ok (.invokevirtual 288, 3) := by decide +kernel
theorem d_12_find_18 : decode prog_14_method_127_code 18 = .ok (.ifCond .eq 7, 3) := by decide +kernel
theorem d_12_find_21 : decode prog_14_method_127_code 21 = .ok (.iconst 1, 1) := by decide +kernel
theorem d_12_find_22 : decode prog_14_method_127_code 22 = .ok (.goto 4, 3) := by decide +kernel
theorem d_12_find_25 : decode prog_14_method_127_code 25 = .ok (.iconst 0, 1) := by decide +kernel
theorem d_12_find_26 : decode prog_14_method_127_code 26 = .ok (.iconst 1, 1) := by decide +kernel
theorem d_12_find_27 : decode prog_14_method_127_code 27 = .ok (.invokevirtual 185, 3) := by decide +kernel
theorem d_12_find_30 : decode prog_14_method_127_code 30 = .ok (.ifCond .ne 36, 3) := by decide +kernel
theorem d_12_find_33 : decode prog_14_method_127_code 33 = .ok (.aload_n 0, 1) := by decide +kernel
theorem d_12_find_34 : decode prog_14_method_127_code 34 = .ok (.iload 4, 2) := by decide +kernel
theorem d_12_find_36 : decode prog_14_method_127_code 36 = .ok (.ifCond .lt 18, 3) := by decide +kernel
theorem d_12_find_39 : decode prog_14_method_127_code 39 = .ok (.iload_n 3, 1) := by decide +kernel
theorem d_12_find_40 : decode prog_14_method_127_code 40 = .ok (.ldc 84, 2) := by decide +kernel
theorem d_12_find_42 : decode prog_14_method_127_code 42 = .ok (.if_icmp .eq 16, 3) := by decide +kernel
theorem d_12_find_45 : decode prog_14_method_127_code 45 = .ok (.aload_n 0, 1) := by decide +kernel
theorem d_12_find_46 : decode prog_14_method_127_code 46 = .ok (.iload_n 2, 1) := by decide +kernel
theorem d_12_find_47 : decode prog_14_method_127_code 47 = .ok (.iload_n 3, 1) := by decide +kernel
theorem d_12_find_48 : decode prog_14_method_127_code 48 = .ok (.invokevirtual 298, 3) := by decide +kernel
theorem d_12_find_51 : decode prog_14_method_127_code 51 = .ok (.ifCond .ne 7, 3) := by decide +kernel
theorem d_12_find_54 : decode prog_14_method_127_code 54 = .ok (.iconst 1, 1) := by decide +kernel
theorem d_12_find_55 : decode prog_14_method_127_code 55 = .ok (.goto 4, 3) := by decide +kernel
theorem d_12_find_58 : decode prog_14_method_127_code 58 = .ok (.iconst 0, 1) := by decide +kernel
theorem d_12_find_59 : decode prog_14_method_127_code 59 = .ok (.iconst 2, 1) := by decide +kernel
theorem d_12_find_60 : decode prog_14_method_127_code 60 = .ok (.invokevirtual 185, 3) := by decide +kernel
theorem d_12_find_63 : decode prog_14_method_127_code 63 = .ok (.ifCond .eq 5, 3) := by decide +kernel
theorem d_12_find_66 : decode prog_14_method_127_code 66 = .ok (.iconst 0, 1) := by decide +kernel
theorem d_12_find_67 : decode prog_14_method_127_code 67 = .ok (.ireturn, 1) := by decide +kernel
theorem d_12_find_68 : decode prog_14_method_127_code 68 = .ok (.aload_n 0, 1) := by decide +kernel
theorem d_12_find_69 : decode prog_14_method_127_code 69 = .ok (.iload_n 1, 1) := by decide +kernel
theorem d_12_find_70 : decode prog_14_method_127_code 70 = .ok (.iload_n 2, 1) := by decide +kernel
theorem d_12_find_71 : decode prog_14_method_127_code 71 = .ok (.iload_n 3, 1) := by decide +kernel
theorem d_12_find_72 : decode prog_14_method_127_code 72 = .ok (.iload 4, 2) := by decide +kernel
theorem d_12_find_74 : decode prog_14_method_127_code 74 = .ok (.invokevirtual 356, 3) := by decide +kernel
theorem d_12_find_77 : decode prog_14_method_127_code 77 = .ok (.ireturn, 1) := by decide +kernel
theorem d_12_log_0 : decode prog_14_method_128_code 0 = .ok (.aload_n 0, 1) := by decide +kernel
theorem d_12_log_1 : decode prog_14_method_128_code 1 = .ok (.iconst 0, 1) := by decide +kernel
theorem d_12_log_2 : decode prog_14_method_128_code 2 = .ok (.putfield 3, 3) := by decide +kernel
theorem d_12_log_5 : decode prog_14_method_128_code 5 = .ok (.aload_n 0, 1) := by decide +kernel
theorem d_12_log_6 : decode prog_14_method_128_code 6 = .ok (.iload_n 2, 1) := by decide +kernel
theorem d_12_log_7 : decode prog_14_method_128_code 7 = .ok (.iconst 0, 1) := by decide +kernel
theorem d_12_log_8 : decode prog_14_method_128_code 8 = .ok (.iconst 4, 1) := by decide +kernel
theorem d_12_log_9 : decode prog_14_method_128_code 9 = .ok (.invokestatic 56, 3) := by decide +kernel
theorem d_12_log_12 : decode prog_14_method_128_code 12 = .ok (.ifCond .ne 7, 3) := by decide +kernel
theorem d_12_log_15 : decode prog_14_method_128_code 15 = .ok (.iconst 1, 1) := by decide +kernel
theorem d_12_log_16 : decode prog_14_method_128_code 16 = .ok (.goto 4, 3) := by decide +kernel
theorem d_12_log_19 : decode prog_14_method_128_code 19 = .ok (.iconst 0, 1) := by decide +kernel
theorem d_12_log_20 : decode prog_14_method_128_code 20 = .ok (.iconst 1, 1) := by decide +kernel
theorem d_12_log_21 : decode prog_14_method_128_code 21 = .ok (.invokevirtual 185, 3) := by decide +kernel
theorem d_12_log_24 : decode prog_14_method_128_code 24 = .ok (.ifCond .eq 5, 3) := by decide +kernel
theorem d_12_log_27 : decode prog_14_method_128_code 27 = .ok (.iconst 0, 1) := by decide +kernel
theorem d_12_log_28 : decode prog_14_method_128_code 28 = .ok (.ireturn, 1) := by decide +kernel
theorem d_12_log_29 : decode prog_14_method_128_code 29 = .ok (.iload_n 1, 1) := by decide +kernel
theorem d_12_log_30 : decode prog_14_method_128_code 30 = .ok (.iconst 0, 1) := by decide +kernel
theorem d_12_log_31 : decode prog_14_method_128_code 31 = .ok (.aload_n 0, 1) := by decide +kernel
theorem d_12_log_32 : decode prog_14_method_128_code 32 = .ok (.getfield 13, 3) := by decide +kernel
theorem d_12_log_35 : decode prog_14_method_128_code 35 = .ok (.iconst 3, 1) := by decide +kernel
theorem d_12_log_36 : decode prog_14_method_128_code 36 = .ok (.iaload, 1) := by decide +kernel
theorem d_12_log_37 : decode prog_14_method_128_code 37 = .ok (.iconst 1, 1) := by decide +kernel
theorem d_12_log_38 : decode prog_14_method_128_code 38 = .ok (.isub, 1) := by decide +kernel
theorem d_12_log_39 : decode prog_14_method_128_code 39 = .ok (.invokestatic 56, 3) := by decide +kernel
theorem d_12_log_42 : decode prog_14_method_128_code 42 = .ok (.ifCond .eq 20, 3) := by decide +kernel
theorem d_12_log_45 : decode prog_14_method_128_code 45 = .ok (.aload_n 0, 1) := by decide +kernel
theorem d_12_log_46 : decode prog_14_method_128_code 46 = .ok (.getfield 13, 3) := by decide +kernel
theorem d_12_log_49 : decode prog_14_method_128_code 49 = .ok (.sipush 8754, 3) := by decide +kernel
theorem d_12_log_52 : decode prog_14_method_128_code 52 = .ok (.iconst 5, 1) := by decide +kernel
theorem d_12_log_53 : decode prog_14_method_128_code 53 = .ok (.iload_n 1, 1) := by decide +kernel
theorem d_12_log_54 : decode prog_14_method_128_code 54 = .ok (.imul, 1) := by decide +kernel
theorem d_12_log_55 : decode prog_14_method_128_code 55 = .ok (.iadd, 1) := by decide +kernel
theorem d_12_log_56 : decode prog_14_method_128_code 56 = .ok (.iload_n 2, 1) := by decide +kernel
theorem d_12_log_57 : decode prog_14_method_128_code 57 = .ok (.iadd, 1) := by decide +kernel
theorem d_12_log_58 : decode prog_14_method_128_code 58 = .ok (.iaload, 1) := by decide +kernel
theorem d_12_log_59 : decode prog_14_method_128_code 59 = .ok (.goto 4, 3) := by decide +kernel
theorem d_12_log_62 : decode prog_14_method_128_code 62 = .ok (.iconst (-1), 1) := by decide +kernel
theorem d_12_log_63 : decode prog_14_method_128_code 63 = .ok (.ireturn, 1) := by decide +kernel
theorem d_12_count_0 : decode prog_14_method_129_code 0 = .ok (.aload_n 0, 1) := by decide +kernel
theorem d_12_count_1 : decode prog_14_method_129_code 1 = .ok (.iconst 0, 1) := by decide +kernel
theorem d_12_count_2 : decode prog_14_method_129_code 2 = .ok (.putfield 3, 3) := by decide +kernel
theorem d_12_count_5 : decode prog_14_method_129_code 5 = .ok (.iload_n 1, 1) := by decide +kernel
theorem d_12_count_6 : decode prog_14_method_129_code 6 = .ok (.tableswitch 65 0 4 #[34, 39, 44, 51, 58], 34) := by decide +kernel
theorem d_12_count_40 : decode prog_14_method_129_code 40 = .ok (.aload_n 0, 1) := by decide +kernel
theorem d_12_count_41 : decode prog_14_method_129_code 41 = .ok (.invokevirtual 60, 3) := by decide +kernel
theorem d_12_count_44 : decode prog_14_method_129_code 44 = .ok (.ireturn, 1) := by decide +kernel
theorem d_12_count_45 : decode prog_14_method_129_code 45 = .ok (.aload_n 0, 1) := by decide +kernel
theorem d_12_count_46 : decode prog_14_method_129_code 46 = .ok (.invokevirtual 144, 3) := by decide +kernel
theorem d_12_count_49 : decode prog_14_method_129_code 49 = .ok (.ireturn, 1) := by decide +kernel
theorem d_12_count_50 : decode prog_14_method_129_code 50 = .ok (.aload_n 0, 1) := by decide +kernel
theorem d_12_count_51 : decode prog_14_method_129_code 51 = .ok (.getfield 13, 3) := by decide +kernel
theorem d_12_count_54 : decode prog_14_method_129_code 54 = .ok (.iconst 1, 1) := by decide +kernel
theorem d_12_count_55 : decode prog_14_method_129_code 55 = .ok (.iaload, 1) := by decide +kernel
theorem d_12_count_56 : decode prog_14_method_129_code 56 = .ok (.ireturn, 1) := by decide +kernel
theorem d_12_count_57 : decode prog_14_method_129_code 57 = .ok (.aload_n 0, 1) := by decide +kernel
theorem d_12_count_58 : decode prog_14_method_129_code 58 = .ok (.getfield 13, 3) := by decide +kernel
theorem d_12_count_61 : decode prog_14_method_129_code 61 = .ok (.iconst 2, 1) := by decide +kernel
theorem d_12_count_62 : decode prog_14_method_129_code 62 = .ok (.iaload, 1) := by decide +kernel
theorem d_12_count_63 : decode prog_14_method_129_code 63 = .ok (.ireturn, 1) := by decide +kernel
theorem d_12_count_64 : decode prog_14_method_129_code 64 = .ok (.aload_n 0, 1) := by decide +kernel
theorem d_12_count_65 : decode prog_14_method_129_code 65 = .ok (.getfield 13, 3) := by decide +kernel
theorem d_12_count_68 : decode prog_14_method_129_code 68 = .ok (.iconst 3, 1) := by decide +kernel
theorem d_12_count_69 : decode prog_14_method_129_code 69 = .ok (.iaload, 1) := by decide +kernel
theorem d_12_count_70 : decode prog_14_method_129_code 70 = .ok (.ireturn, 1) := by decide +kernel
theorem d_12_count_71 : decode prog_14_method_129_code 71 = .ok (.iconst (-1), 1) := by decide +kernel
theorem d_12_count_72 : decode prog_14_method_129_code 72 = .ok (.ireturn, 1) := by decide +kernel
