theorem dX0_init_0 : decode cX0_init 0 = .ok (.aload_n 0, 1) := by decide +kernel
theorem dX0_init_1 : decode cX0_init 1 = .ok (.invokespecial 3, 3) := by decide +kernel
theorem dX0_init_4 : decode cX0_init 4 = .ok (.aload_n 0, 1) := by decide +kernel
theorem dX0_init_5 : decode cX0_init 5 = .ok (.bipush 6, 2) := by decide +kernel
theorem dX0_init_7 : decode cX0_init 7 = .ok (.newarray .int, 2) := by decide +kernel
theorem dX0_init_9 : decode cX0_init 9 = .ok (.putfield 9, 3) := by decide +kernel
theorem dX0_init_12 : decode cX0_init 12 = .ok (.aload_n 0, 1) := by decide +kernel
theorem dX0_init_13 : decode cX0_init 13 = .ok (.bipush 6, 2) := by decide +kernel
theorem dX0_init_15 : decode cX0_init 15 = .ok (.newarray .int, 2) := by decide +kernel
theorem dX0_init_17 : decode cX0_init 17 = .ok (.putfield 15, 3) := by decide +kernel
theorem dX0_init_20 : decode cX0_init 20 = .ok (.aload_n 0, 1) := by decide +kernel
theorem dX0_init_21 : decode cX0_init 21 = .ok (.bipush 6, 2) := by decide +kernel
theorem dX0_init_23 : decode cX0_init 23 = .ok (.newarray .int, 2) := by decide +kernel
theorem dX0_init_25 : decode cX0_init 25 = .ok (.putfield 18, 3) := by decide +kernel
theorem dX0_init_28 : decode cX0_init 28 = .ok (.aload_n 0, 1) := by decide +kernel
theorem dX0_init_29 : decode cX0_init 29 = .ok (.bipush 6, 2) := by decide +kernel
theorem dX0_init_31 : decode cX0_init 31 = .ok (.newarray .int, 2) := by decide +kernel
theorem dX0_init_33 : decode cX0_init 33 = .ok (.putfield 21, 3) := by decide +kernel
theorem dX0_init_36 : decode cX0_init 36 = .ok (.aload_n 0, 1) := by decide +kernel
theorem dX0_init_37 : decode cX0_init 37 = .ok (.iconst 0, 1) := by decide +kernel
theorem dX0_init_38 : decode cX0_init 38 = .ok (.putfield 24, 3) := by decide +kernel
theorem dX0_init_41 : decode cX0_init 41 = .ok (.return_, 1) := by decide +kernel
theorem dX1_init_0 : decode cX1_init 0 = .ok (.aload_n 0, 1) := by decide +kernel
theorem dX1_init_1 : decode cX1_init 1 = .ok (.invokespecial 3, 3) := by decide +kernel
theorem dX1_init_4 : decode cX1_init 4 = .ok (.aload_n 0, 1) := by decide +kernel
theorem dX1_init_5 : decode cX1_init 5 = .ok (.bipush 8, 2) := by decide +kernel
theorem dX1_init_7 : decode cX1_init 7 = .ok (.newarray .int, 2) := by decide +kernel
theorem dX1_init_9 : decode cX1_init 9 = .ok (.putfield 9, 3) := by decide +kernel
theorem dX1_init_12 : decode cX1_init 12 = .ok (.aload_n 0, 1) := by decide +kernel
theorem dX1_init_13 : decode cX1_init 13 = .ok (.bipush 8, 2) := by decide +kernel
theorem dX1_init_15 : decode cX1_init 15 = .ok (.newarray .int, 2) := by decide +kernel
theorem dX1_init_17 : decode cX1_init 17 = .ok (.putfield 15, 3) := by decide +kernel
theorem dX1_init_20 : decode cX1_init 20 = .ok (.aload_n 0, 1) := by decide +kernel
theorem dX1_init_21 : decode cX1_init 21 = .ok (.bipush 8, 2) := by decide +kernel
theorem dX1_init_23 : decode cX1_init 23 = .ok (.newarray .int, 2) := by decide +kernel
theorem dX1_init_25 : decode cX1_init 25 = .ok (.putfield 18, 3) := by decide +kernel
theorem dX1_init_28 : decode cX1_init 28 = .ok (.aload_n 0, 1) := by decide +kernel
theorem dX1_init_29 : decode cX1_init 29 = .ok (.bipush 8, 2) := by decide +kernel
theorem dX1_init_31 : decode cX1_init 31 = .ok (.newarray .int, 2) := by decide +kernel
theorem dX1_init_33 : decode cX1_init 33 = .ok (.putfield 21, 3) := by decide +kernel
theorem dX1_init_36 : decode cX1_init 36 = .ok (.aload_n 0, 1) := by decide +kernel
theorem dX1_init_37 : decode cX1_init 37 = .ok (.bipush 8, 2) := by decide +kernel
theorem dX1_init_39 : decode cX1_init 39 = .ok (.newarray .int, 2) := by decide +kernel
theorem dX1_init_41 : decode cX1_init 41 = .ok (.putfield 24, 3) := by decide +kernel
theorem dX1_init_44 : decode cX1_init 44 = .ok (.aload_n 0, 1) := by decide +kernel
theorem dX1_init_45 : decode cX1_init 45 = .ok (.bipush 8, 2) := by decide +kernel
theorem dX1_init_47 : decode cX1_init 47 = .ok (.newarray .int, 2) := by decide +kernel
theorem dX1_init_49 : decode cX1_init 49 = .ok (.putfield 27, 3) := by decide +kernel
theorem dX1_init_52 : decode cX1_init 52 = .ok (.aload_n 0, 1) := by decide +kernel
theorem dX1_init_53 : decode cX1_init 53 = .ok (.bipush 8, 2) := by decide +kernel
theorem dX1_init_55 : decode cX1_init 55 = .ok (.newarray .int, 2) := by decide +kernel
theorem dX1_init_57 : decode cX1_init 57 = .ok (.putfield 30, 3) := by decide +kernel
theorem dX1_init_60 : decode cX1_init 60 = .ok (.aload_n 0, 1) := by decide +kernel
theorem dX1_init_61 : decode cX1_init 61 = .ok (.iconst 0, 1) := by decide +kernel
theorem dX1_init_62 : decode cX1_init 62 = .ok (.putfield 33, 3) := by decide +kernel
theorem dX1_init_65 : decode cX1_init 65 = .ok (.return_, 1) := by decide +kernel
theorem dX2_init_0 : decode cX2_init 0 = .ok (.aload_n 0, 1) := by decide +kernel
theorem dX2_init_1 : decode cX2_init 1 = .ok (.invokespecial 3, 3) := by decide +kernel
theorem dX2_init_4 : decode cX2_init 4 = .ok (.aload_n 0, 1) := by decide +kernel
theorem dX2_init_5 : decode cX2_init 5 = .ok (.sipush 720, 3) := by decide +kernel
theorem dX2_init_8 : decode cX2_init 8 = .ok (.newarray .int, 2) := by decide +kernel
theorem dX2_init_10 : decode cX2_init 10 = .ok (.putfield 9, 3) := by decide +kernel
theorem dX2_init_13 : decode cX2_init 13 = .ok (.aload_n 0, 1) := by decide +kernel
theorem dX2_init_14 : decode cX2_init 14 = .ok (.sipush 720, 3) := by decide +kernel
theorem dX2_init_17 : decode cX2_init 17 = .ok (.newarray .int, 2) := by decide +kernel
theorem dX2_init_19 : decode cX2_init 19 = .ok (.putfield 15, 3) := by decide +kernel
theorem dX2_init_22 : decode cX2_init 22 = .ok (.aload_n 0, 1) := by decide +kernel
theorem dX2_init_23 : decode cX2_init 23 = .ok (.sipush 720, 3) := by decide +kernel
theorem dX2_init_26 : decode cX2_init 26 = .ok (.newarray .int, 2) := by decide +kernel
theorem dX2_init_28 : decode cX2_init 28 = .ok (.putfield 18, 3) := by decide +kernel
theorem dX2_init_31 : decode cX2_init 31 = .ok (.aload_n 0, 1) := by decide +kernel
theorem dX2_init_32 : decode cX2_init 32 = .ok (.iconst 0, 1) := by decide +kernel
theorem dX2_init_33 : decode cX2_init 33 = .ok (.putfield 21, 3) := by decide +kernel
theorem dX2_init_36 : decode cX2_init 36 = .ok (.aload_n 0, 1) := by decide +kernel
theorem dX2_init_37 : decode cX2_init 37 = .ok (.iconst 0, 1) := by decide +kernel
theorem dX2_init_38 : decode cX2_init 38 = .ok (.putfield 25, 3) := by decide +kernel
theorem dX2_init_41 : decode cX2_init 41 = .ok (.aload_n 0, 1) := by decide +kernel
theorem dX2_init_42 : decode cX2_init 42 = .ok (.iconst 0, 1) := by decide +kernel
theorem dX2_init_43 : decode cX2_init 43 = .ok (.putfield 28, 3) := by decide +kernel
theorem dX2_init_46 : decode cX2_init 46 = .ok (.return_, 1) := by decide +kernel
theorem dX3_init_0 : decode cX3_init 0 = .ok (.aload_n 0, 1) := by decide +kernel
theorem dX3_init_1 : decode cX3_init 1 = .ok (.invokespecial 1, 3) := by decide +kernel
theorem dX3_init_4 : decode cX3_init 4 = .ok (.aload_n 0, 1) := by decide +kernel
theorem dX3_init_5 : decode cX3_init 5 = .ok (.sipush 200, 3) := by decide +kernel
theorem dX3_init_8 : decode cX3_init 8 = .ok (.putfield 7, 3) := by decide +kernel
theorem dX3_init_11 : decode cX3_init 11 = .ok (.aload_n 0, 1) := by decide +kernel
theorem dX3_init_12 : decode cX3_init 12 = .ok (.bipush 40, 2) := by decide +kernel
theorem dX3_init_14 : decode cX3_init 14 = .ok (.putfield 13, 3) := by decide +kernel
theorem dX3_init_17 : decode cX3_init 17 = .ok (.aload_n 0, 1) := by decide +kernel
theorem dX3_init_18 : decode cX3_init 18 = .ok (.bipush 10, 2) := by decide +kernel
theorem dX3_init_20 : decode cX3_init 20 = .ok (.putfield 16, 3) := by decide +kernel
theorem dX3_init_23 : decode cX3_init 23 = .ok (.return_, 1) := by decide +kernel
theorem dX4_init_0 : decode cX4_init 0 = .ok (.aload_n 0, 1) := by decide +kernel
theorem dX4_init_1 : decode cX4_init 1 = .ok (.invokespecial 3, 3) := by decide +kernel
theorem dX4_init_4 : decode cX4_init 4 = .ok (.aload_n 0, 1) := by decide +kernel
theorem dX4_init_5 : decode cX4_init 5 = .ok (.bipush 6, 2) := by decide +kernel
theorem dX4_init_7 : decode cX4_init 7 = .ok (.newarray .int, 2) := by decide +kernel
theorem dX4_init_9 : decode cX4_init 9 = .ok (.putfield 9, 3) := by decide +kernel
theorem dX4_init_12 : decode cX4_init 12 = .ok (.aload_n 0, 1) := by decide +kernel
theorem dX4_init_13 : decode cX4_init 13 = .ok (.bipush 6, 2) := by decide +kernel
theorem dX4_init_15 : decode cX4_init 15 = .ok (.newarray .int, 2) := by decide +kernel
theorem dX4_init_17 : decode cX4_init 17 = .ok (.putfield 15, 3) := by decide +kernel
theorem dX4_init_20 : decode cX4_init 20 = .ok (.aload_n 0, 1) := by decide +kernel
theorem dX4_init_21 : decode cX4_init 21 = .ok (.iconst 0, 1) := by decide +kernel
theorem dX4_init_22 : decode cX4_init 22 = .ok (.putfield 18, 3) := by decide +kernel
theorem dX4_init_25 : decode cX4_init 25 = .ok (.return_, 1) := by decide +kernel
theorem dX3_levelAt_0 : decode cX3_levelAt 0 = .ok (.aload_n 0, 1) := by decide +kernel
theorem dX3_levelAt_1 : decode cX3_levelAt 1 = .ok (.getfield 7, 3) := by decide +kernel
theorem dX3_levelAt_4 : decode cX3_levelAt 4 = .ok (.aload_n 0, 1) := by decide +kernel
theorem dX3_levelAt_5 : decode cX3_levelAt 5 = .ok (.getfield 13, 3) := by decide +kernel
theorem dX3_levelAt_8 : decode cX3_levelAt 8 = .ok (.iconst 3, 1) := by decide +kernel
theorem dX3_levelAt_9 : decode cX3_levelAt 9 = .ok (.bipush 6, 2) := by decide +kernel
theorem dX3_levelAt_11 : decode cX3_levelAt 11 = .ok (.iload_n 1, 1) := by decide +kernel
theorem dX3_levelAt_12 : decode cX3_levelAt 12 = .ok (.bipush 12, 2) := by decide +kernel
theorem dX3_levelAt_14 : decode cX3_levelAt 14 = .ok (.irem, 1) := by decide +kernel
theorem dX3_levelAt_15 : decode cX3_levelAt 15 = .ok (.isub, 1) := by decide +kernel
theorem dX3_levelAt_16 : decode cX3_levelAt 16 = .ok (.invokestatic 19, 3) := by decide +kernel
theorem dX3_levelAt_19 : decode cX3_levelAt 19 = .ok (.isub, 1) := by decide +kernel
theorem dX3_levelAt_20 : decode cX3_levelAt 20 = .ok (.imul, 1) := by decide +kernel
theorem dX3_levelAt_21 : decode cX3_levelAt 21 = .ok (.iadd, 1) := by decide +kernel
theorem dX3_levelAt_22 : decode cX3_levelAt 22 = .ok (.aload_n 0, 1) := by decide +kernel
theorem dX3_levelAt_23 : decode cX3_levelAt 23 = .ok (.getfield 16, 3) := by decide +kernel
theorem dX3_levelAt_26 : decode cX3_levelAt 26 = .ok (.bipush 6, 2) := by decide +kernel
theorem dX3_levelAt_28 : decode cX3_levelAt 28 = .ok (.bipush 12, 2) := by decide +kernel
theorem dX3_levelAt_30 : decode cX3_levelAt 30 = .ok (.iload_n 1, 1) := by decide +kernel
theorem dX3_levelAt_31 : decode cX3_levelAt 31 = .ok (.bipush 25, 2) := by decide +kernel
theorem dX3_levelAt_33 : decode cX3_levelAt 33 = .ok (.irem, 1) := by decide +kernel
theorem dX3_levelAt_34 : decode cX3_levelAt 34 = .ok (.isub, 1) := by decide +kernel
theorem dX3_levelAt_35 : decode cX3_levelAt 35 = .ok (.invokestatic 19, 3) := by decide +kernel
theorem dX3_levelAt_38 : decode cX3_levelAt 38 = .ok (.isub, 1) := by decide +kernel
theorem dX3_levelAt_39 : decode cX3_levelAt 39 = .ok (.imul, 1) := by decide +kernel
theorem dX3_levelAt_40 : decode cX3_levelAt 40 = .ok (.iadd, 1) := by decide +kernel
theorem dX3_levelAt_41 : decode cX3_levelAt 41 = .ok (.ireturn, 1) := by decide +kernel
theorem dX4_badAt_0 : decode cX4_badAt 0 = .ok (.iconst 0, 1) := by decide +kernel
theorem dX4_badAt_1 : decode cX4_badAt 1 = .ok (.istore_n 2, 1) := by decide +kernel
theorem dX4_badAt_2 : decode cX4_badAt 2 = .ok (.iload_n 2, 1) := by decide +kernel
theorem dX4_badAt_3 : decode cX4_badAt 3 = .ok (.aload_n 0, 1) := by decide +kernel
theorem dX4_badAt_4 : decode cX4_badAt 4 = .ok (.getfield 18, 3) := by decide +kernel
theorem dX4_badAt_7 : decode cX4_badAt 7 = .ok (.if_icmp .ge 31, 3) := by decide +kernel
theorem dX4_badAt_10 : decode cX4_badAt 10 = .ok (.aload_n 0, 1) := by decide +kernel
theorem dX4_badAt_11 : decode cX4_badAt 11 = .ok (.getfield 9, 3) := by decide +kernel
theorem dX4_badAt_14 : decode cX4_badAt 14 = .ok (.iload_n 2, 1) := by decide +kernel
theorem dX4_badAt_15 : decode cX4_badAt 15 = .ok (.iaload, 1) := by decide +kernel
theorem dX4_badAt_16 : decode cX4_badAt 16 = .ok (.iload_n 1, 1) := by decide +kernel
theorem dX4_badAt_17 : decode cX4_badAt 17 = .ok (.if_icmp .gt 15, 3) := by decide +kernel
theorem dX4_badAt_20 : decode cX4_badAt 20 = .ok (.iload_n 1, 1) := by decide +kernel
theorem dX4_badAt_21 : decode cX4_badAt 21 = .ok (.aload_n 0, 1) := by decide +kernel
theorem dX4_badAt_22 : decode cX4_badAt 22 = .ok (.getfield 15, 3) := by decide +kernel
theorem dX4_badAt_25 : decode cX4_badAt 25 = .ok (.iload_n 2, 1) := by decide +kernel
theorem dX4_badAt_26 : decode cX4_badAt 26 = .ok (.iaload, 1) := by decide +kernel
theorem dX4_badAt_27 : decode cX4_badAt 27 = .ok (.if_icmp .ge 5, 3) := by decide +kernel
theorem dX4_badAt_30 : decode cX4_badAt 30 = .ok (.iconst 1, 1) := by decide +kernel
theorem dX4_badAt_31 : decode cX4_badAt 31 = .ok (.ireturn, 1) := by decide +kernel
theorem dX4_badAt_32 : decode cX4_badAt 32 = .ok (.iinc 2 1, 3) := by decide +kernel
theorem dX4_badAt_35 : decode cX4_badAt 35 = .ok (.goto (-33), 3) := by decide +kernel
theorem dX4_badAt_38 : decode cX4_badAt 38 = .ok (.iconst 0, 1) := by decide +kernel
theorem dX4_badAt_39 : decode cX4_badAt 39 = .ok (.ireturn, 1) := by decide +kernel
theorem dX0_has_0 : decode cX0_has 0 = .ok (.iload_n 1, 1) := by decide +kernel
theorem dX0_has_1 : decode cX0_has 1 = .ok (.ifCond .lt 15, 3) := by decide +kernel
theorem dX0_has_4 : decode cX0_has 4 = .ok (.iload_n 1, 1) := by decide +kernel
theorem dX0_has_5 : decode cX0_has 5 = .ok (.aload_n 0, 1) := by decide +kernel
theorem dX0_has_6 : decode cX0_has 6 = .ok (.getfield 24, 3) := by decide +kernel
theorem dX0_has_9 : decode cX0_has 9 = .ok (.if_icmp .ge 7, 3) := by decide +kernel
theorem dX0_has_12 : decode cX0_has 12 = .ok (.iconst 1, 1) := by decide +kernel
theorem dX0_has_13 : decode cX0_has 13 = .ok (.goto 4, 3) := by decide +kernel
theorem dX0_has_16 : decode cX0_has 16 = .ok (.iconst 0, 1) := by decide +kernel
theorem dX0_has_17 : decode cX0_has 17 = .ok (.ireturn, 1) := by decide +kernel
theorem dX1_has_0 : decode cX1_has 0 = .ok (.iload_n 1, 1) := by decide +kernel
theorem dX1_has_1 : decode cX1_has 1 = .ok (.ifCond .lt 15, 3) := by decide +kernel
theorem dX1_has_4 : decode cX1_has 4 = .ok (.iload_n 1, 1) := by decide +kernel
theorem dX1_has_5 : decode cX1_has 5 = .ok (.aload_n 0, 1) := by decide +kernel
theorem dX1_has_6 : decode cX1_has 6 = .ok (.getfield 33, 3) := by decide +kernel
theorem dX1_has_9 : decode cX1_has 9 = .ok (.if_icmp .ge 7, 3) := by decide +kernel
theorem dX1_has_12 : decode cX1_has 12 = .ok (.iconst 1, 1) := by decide +kernel
theorem dX1_has_13 : decode cX1_has 13 = .ok (.goto 4, 3) := by decide +kernel
theorem dX1_has_16 : decode cX1_has 16 = .ok (.iconst 0, 1) := by decide +kernel
theorem dX1_has_17 : decode cX1_has 17 = .ok (.ireturn, 1) := by decide +kernel
theorem dX0_append_0 : decode cX0_append 0 = .ok (.aload_n 0, 1) := by decide +kernel
theorem dX0_append_1 : decode cX0_append 1 = .ok (.getfield 24, 3) := by decide +kernel
theorem dX0_append_4 : decode cX0_append 4 = .ok (.istore 4, 2) := by decide +kernel
theorem dX0_append_6 : decode cX0_append 6 = .ok (.iload 4, 2) := by decide +kernel
theorem dX0_append_8 : decode cX0_append 8 = .ok (.bipush 6, 2) := by decide +kernel
theorem dX0_append_10 : decode cX0_append 10 = .ok (.if_icmp .ge 66, 3) := by decide +kernel
theorem dX0_append_13 : decode cX0_append 13 = .ok (.aload_n 0, 1) := by decide +kernel
theorem dX0_append_14 : decode cX0_append 14 = .ok (.getfield 9, 3) := by decide +kernel
theorem dX0_append_17 : decode cX0_append 17 = .ok (.iload 4, 2) := by decide +kernel
theorem dX0_append_19 : decode cX0_append 19 = .ok (.iload_n 2, 1) := by decide +kernel
theorem dX0_append_20 : decode cX0_append 20 = .ok (.iastore, 1) := by decide +kernel
theorem dX0_append_21 : decode cX0_append 21 = .ok (.aload_n 0, 1) := by decide +kernel
theorem dX0_append_22 : decode cX0_append 22 = .ok (.getfield 15, 3) := by decide +kernel
theorem dX0_append_25 : decode cX0_append 25 = .ok (.iload 4, 2) := by decide +kernel
theorem dX0_append_27 : decode cX0_append 27 = .ok (.iload_n 3, 1) := by decide +kernel
theorem dX0_append_28 : decode cX0_append 28 = .ok (.iastore, 1) := by decide +kernel
theorem dX0_append_29 : decode cX0_append 29 = .ok (.aload_n 0, 1) := by decide +kernel
theorem dX0_append_30 : decode cX0_append 30 = .ok (.getfield 18, 3) := by decide +kernel
theorem dX0_append_33 : decode cX0_append 33 = .ok (.iload 4, 2) := by decide +kernel
theorem dX0_append_35 : decode cX0_append 35 = .ok (.aload_n 0, 1) := by decide +kernel
theorem dX0_append_36 : decode cX0_append 36 = .ok (.iload_n 1, 1) := by decide +kernel
theorem dX0_append_37 : decode cX0_append 37 = .ok (.invokevirtual 28, 3) := by decide +kernel
theorem dX0_append_40 : decode cX0_append 40 = .ok (.ifCond .eq 16, 3) := by decide +kernel
theorem dX0_append_43 : decode cX0_append 43 = .ok (.aload_n 0, 1) := by decide +kernel
theorem dX0_append_44 : decode cX0_append 44 = .ok (.getfield 18, 3) := by decide +kernel
theorem dX0_append_47 : decode cX0_append 47 = .ok (.iload_n 1, 1) := by decide +kernel
theorem dX0_append_48 : decode cX0_append 48 = .ok (.iaload, 1) := by decide +kernel
theorem dX0_append_49 : decode cX0_append 49 = .ok (.iconst 1, 1) := by decide +kernel
theorem dX0_append_50 : decode cX0_append 50 = .ok (.iload_n 1, 1) := by decide +kernel
theorem dX0_append_51 : decode cX0_append 51 = .ok (.ishl, 1) := by decide +kernel
theorem dX0_append_52 : decode cX0_append 52 = .ok (.ior, 1) := by decide +kernel
theorem dX0_append_53 : decode cX0_append 53 = .ok (.goto 4, 3) := by decide +kernel
theorem dX0_append_56 : decode cX0_append 56 = .ok (.iconst 0, 1) := by decide +kernel
theorem dX0_append_57 : decode cX0_append 57 = .ok (.iastore, 1) := by decide +kernel
theorem dX0_append_58 : decode cX0_append 58 = .ok (.aload_n 0, 1) := by decide +kernel
theorem dX0_append_59 : decode cX0_append 59 = .ok (.getfield 21, 3) := by decide +kernel
theorem dX0_append_62 : decode cX0_append 62 = .ok (.iload 4, 2) := by decide +kernel
theorem dX0_append_64 : decode cX0_append 64 = .ok (.iconst (-1), 1) := by decide +kernel
theorem dX0_append_65 : decode cX0_append 65 = .ok (.iastore, 1) := by decide +kernel
theorem dX0_append_66 : decode cX0_append 66 = .ok (.aload_n 0, 1) := by decide +kernel
theorem dX0_append_67 : decode cX0_append 67 = .ok (.dup, 1) := by decide +kernel
theorem dX0_append_68 : decode cX0_append 68 = .ok (.getfield 24, 3) := by decide +kernel
theorem dX0_append_71 : decode cX0_append 71 = .ok (.iconst 1, 1) := by decide +kernel
theorem dX0_append_72 : decode cX0_append 72 = .ok (.iadd, 1) := by decide +kernel
theorem dX0_append_73 : decode cX0_append 73 = .ok (.putfield 24, 3) := by decide +kernel
theorem dX0_append_76 : decode cX0_append 76 = .ok (.iload 4, 2) := by decide +kernel
theorem dX0_append_78 : decode cX0_append 78 = .ok (.ireturn, 1) := by decide +kernel
theorem dX1_append_0 : decode cX1_append 0 = .ok (.aload_n 0, 1) := by decide +kernel
theorem dX1_append_1 : decode cX1_append 1 = .ok (.getfield 33, 3) := by decide +kernel
theorem dX1_append_4 : decode cX1_append 4 = .ok (.istore 5, 2) := by decide +kernel
theorem dX1_append_6 : decode cX1_append 6 = .ok (.iload 5, 2) := by decide +kernel
theorem dX1_append_8 : decode cX1_append 8 = .ok (.bipush 8, 2) := by decide +kernel
theorem dX1_append_10 : decode cX1_append 10 = .ok (.if_icmp .ge 54, 3) := by decide +kernel
theorem dX1_append_13 : decode cX1_append 13 = .ok (.aload_n 0, 1) := by decide +kernel
theorem dX1_append_14 : decode cX1_append 14 = .ok (.getfield 9, 3) := by decide +kernel
theorem dX1_append_17 : decode cX1_append 17 = .ok (.iload 5, 2) := by decide +kernel
theorem dX1_append_19 : decode cX1_append 19 = .ok (.iload_n 1, 1) := by decide +kernel
theorem dX1_append_20 : decode cX1_append 20 = .ok (.iastore, 1) := by decide +kernel
theorem dX1_append_21 : decode cX1_append 21 = .ok (.aload_n 0, 1) := by decide +kernel
theorem dX1_append_22 : decode cX1_append 22 = .ok (.getfield 15, 3) := by decide +kernel
theorem dX1_append_25 : decode cX1_append 25 = .ok (.iload 5, 2) := by decide +kernel
theorem dX1_append_27 : decode cX1_append 27 = .ok (.iload_n 2, 1) := by decide +kernel
theorem dX1_append_28 : decode cX1_append 28 = .ok (.iastore, 1) := by decide +kernel
theorem dX1_append_29 : decode cX1_append 29 = .ok (.aload_n 0, 1) := by decide +kernel
theorem dX1_append_30 : decode cX1_append 30 = .ok (.getfield 18, 3) := by decide +kernel
theorem dX1_append_33 : decode cX1_append 33 = .ok (.iload 5, 2) := by decide +kernel
theorem dX1_append_35 : decode cX1_append 35 = .ok (.iload_n 3, 1) := by decide +kernel
theorem dX1_append_36 : decode cX1_append 36 = .ok (.iastore, 1) := by decide +kernel
theorem dX1_append_37 : decode cX1_append 37 = .ok (.aload_n 0, 1) := by decide +kernel
theorem dX1_append_38 : decode cX1_append 38 = .ok (.getfield 21, 3) := by decide +kernel
theorem dX1_append_41 : decode cX1_append 41 = .ok (.iload 5, 2) := by decide +kernel
theorem dX1_append_43 : decode cX1_append 43 = .ok (.iload 4, 2) := by decide +kernel
theorem dX1_append_45 : decode cX1_append 45 = .ok (.iastore, 1) := by decide +kernel
theorem dX1_append_46 : decode cX1_append 46 = .ok (.aload_n 0, 1) := by decide +kernel
theorem dX1_append_47 : decode cX1_append 47 = .ok (.getfield 24, 3) := by decide +kernel
theorem dX1_append_50 : decode cX1_append 50 = .ok (.iload 5, 2) := by decide +kernel
theorem dX1_append_52 : decode cX1_append 52 = .ok (.iconst (-1), 1) := by decide +kernel
theorem dX1_append_53 : decode cX1_append 53 = .ok (.iastore, 1) := by decide +kernel
theorem dX1_append_54 : decode cX1_append 54 = .ok (.aload_n 0, 1) := by decide +kernel
theorem dX1_append_55 : decode cX1_append 55 = .ok (.dup, 1) := by decide +kernel
theorem dX1_append_56 : decode cX1_append 56 = .ok (.getfield 33, 3) := by decide +kernel
theorem dX1_append_59 : decode cX1_append 59 = .ok (.iconst 1, 1) := by decide +kernel
theorem dX1_append_60 : decode cX1_append 60 = .ok (.iadd, 1) := by decide +kernel
theorem dX1_append_61 : decode cX1_append 61 = .ok (.putfield 33, 3) := by decide +kernel
theorem dX1_append_64 : decode cX1_append 64 = .ok (.iload 5, 2) := by decide +kernel
theorem dX1_append_66 : decode cX1_append 66 = .ok (.ireturn, 1) := by decide +kernel
theorem dX1_dryOneHour_0 : decode cX1_dryOneHour 0 = .ok (.iconst 0, 1) := by decide +kernel
theorem dX1_dryOneHour_1 : decode cX1_dryOneHour 1 = .ok (.istore_n 1, 1) := by decide +kernel
theorem dX1_dryOneHour_2 : decode cX1_dryOneHour 2 = .ok (.iload_n 1, 1) := by decide +kernel
theorem dX1_dryOneHour_3 : decode cX1_dryOneHour 3 = .ok (.aload_n 0, 1) := by decide +kernel
theorem dX1_dryOneHour_4 : decode cX1_dryOneHour 4 = .ok (.getfield 33, 3) := by decide +kernel
theorem dX1_dryOneHour_7 : decode cX1_dryOneHour 7 = .ok (.if_icmp .ge 28, 3) := by decide +kernel
theorem dX1_dryOneHour_10 : decode cX1_dryOneHour 10 = .ok (.aload_n 0, 1) := by decide +kernel
theorem dX1_dryOneHour_11 : decode cX1_dryOneHour 11 = .ok (.getfield 27, 3) := by decide +kernel
theorem dX1_dryOneHour_14 : decode cX1_dryOneHour 14 = .ok (.iload_n 1, 1) := by decide +kernel
theorem dX1_dryOneHour_15 : decode cX1_dryOneHour 15 = .ok (.iaload, 1) := by decide +kernel
theorem dX1_dryOneHour_16 : decode cX1_dryOneHour 16 = .ok (.ifCond .le 13, 3) := by decide +kernel
theorem dX1_dryOneHour_19 : decode cX1_dryOneHour 19 = .ok (.aload_n 0, 1) := by decide +kernel
theorem dX1_dryOneHour_20 : decode cX1_dryOneHour 20 = .ok (.getfield 27, 3) := by decide +kernel
theorem dX1_dryOneHour_23 : decode cX1_dryOneHour 23 = .ok (.iload_n 1, 1) := by decide +kernel
theorem dX1_dryOneHour_24 : decode cX1_dryOneHour 24 = .ok (.dup2, 1) := by decide +kernel
theorem dX1_dryOneHour_25 : decode cX1_dryOneHour 25 = .ok (.iaload, 1) := by decide +kernel
theorem dX1_dryOneHour_26 : decode cX1_dryOneHour 26 = .ok (.iconst 1, 1) := by decide +kernel
theorem dX1_dryOneHour_27 : decode cX1_dryOneHour 27 = .ok (.isub, 1) := by decide +kernel
theorem dX1_dryOneHour_28 : decode cX1_dryOneHour 28 = .ok (.iastore, 1) := by decide +kernel
theorem dX1_dryOneHour_29 : decode cX1_dryOneHour 29 = .ok (.iinc 1 1, 3) := by decide +kernel
theorem dX1_dryOneHour_32 : decode cX1_dryOneHour 32 = .ok (.goto (-30), 3) := by decide +kernel
theorem dX1_dryOneHour_35 : decode cX1_dryOneHour 35 = .ok (.return_, 1) := by decide +kernel
theorem dX4_keepFrom_0 : decode cX4_keepFrom 0 = .ok (.iconst 0, 1) := by decide +kernel
theorem dX4_keepFrom_1 : decode cX4_keepFrom 1 = .ok (.istore_n 2, 1) := by decide +kernel
theorem dX4_keepFrom_2 : decode cX4_keepFrom 2 = .ok (.iconst 0, 1) := by decide +kernel
theorem dX4_keepFrom_3 : decode cX4_keepFrom 3 = .ok (.istore_n 3, 1) := by decide +kernel
theorem dX4_keepFrom_4 : decode cX4_keepFrom 4 = .ok (.iload_n 3, 1) := by decide +kernel
theorem dX4_keepFrom_5 : decode cX4_keepFrom 5 = .ok (.aload_n 0, 1) := by decide +kernel
theorem dX4_keepFrom_6 : decode cX4_keepFrom 6 = .ok (.getfield 18, 3) := by decide +kernel
theorem dX4_keepFrom_9 : decode cX4_keepFrom 9 = .ok (.if_icmp .ge 46, 3) := by decide +kernel
theorem dX4_keepFrom_12 : decode cX4_keepFrom 12 = .ok (.aload_n 0, 1) := by decide +kernel
theorem dX4_keepFrom_13 : decode cX4_keepFrom 13 = .ok (.getfield 15, 3) := by decide +kernel
theorem dX4_keepFrom_16 : decode cX4_keepFrom 16 = .ok (.iload_n 3, 1) := by decide +kernel
theorem dX4_keepFrom_17 : decode cX4_keepFrom 17 = .ok (.iaload, 1) := by decide +kernel
theorem dX4_keepFrom_18 : decode cX4_keepFrom 18 = .ok (.iload_n 1, 1) := by decide +kernel
theorem dX4_keepFrom_19 : decode cX4_keepFrom 19 = .ok (.if_icmp .le 30, 3) := by decide +kernel
theorem dX4_keepFrom_22 : decode cX4_keepFrom 22 = .ok (.aload_n 0, 1) := by decide +kernel
theorem dX4_keepFrom_23 : decode cX4_keepFrom 23 = .ok (.getfield 9, 3) := by decide +kernel
theorem dX4_keepFrom_26 : decode cX4_keepFrom 26 = .ok (.iload_n 2, 1) := by decide +kernel
theorem dX4_keepFrom_27 : decode cX4_keepFrom 27 = .ok (.aload_n 0, 1) := by decide +kernel
theorem dX4_keepFrom_28 : decode cX4_keepFrom 28 = .ok (.getfield 9, 3) := by decide +kernel
theorem dX4_keepFrom_31 : decode cX4_keepFrom 31 = .ok (.iload_n 3, 1) := by decide +kernel
theorem dX4_keepFrom_32 : decode cX4_keepFrom 32 = .ok (.iaload, 1) := by decide +kernel
theorem dX4_keepFrom_33 : decode cX4_keepFrom 33 = .ok (.iastore, 1) := by decide +kernel
theorem dX4_keepFrom_34 : decode cX4_keepFrom 34 = .ok (.aload_n 0, 1) := by decide +kernel
theorem dX4_keepFrom_35 : decode cX4_keepFrom 35 = .ok (.getfield 15, 3) := by decide +kernel
theorem dX4_keepFrom_38 : decode cX4_keepFrom 38 = .ok (.iload_n 2, 1) := by decide +kernel
theorem dX4_keepFrom_39 : decode cX4_keepFrom 39 = .ok (.aload_n 0, 1) := by decide +kernel
theorem dX4_keepFrom_40 : decode cX4_keepFrom 40 = .ok (.getfield 15, 3) := by decide +kernel
theorem dX4_keepFrom_43 : decode cX4_keepFrom 43 = .ok (.iload_n 3, 1) := by decide +kernel
theorem dX4_keepFrom_44 : decode cX4_keepFrom 44 = .ok (.iaload, 1) := by decide +kernel
theorem dX4_keepFrom_45 : decode cX4_keepFrom 45 = .ok (.iastore, 1) := by decide +kernel
theorem dX4_keepFrom_46 : decode cX4_keepFrom 46 = .ok (.iinc 2 1, 3) := by decide +kernel
theorem dX4_keepFrom_49 : decode cX4_keepFrom 49 = .ok (.iinc 3 1, 3) := by decide +kernel
theorem dX4_keepFrom_52 : decode cX4_keepFrom 52 = .ok (.goto (-48), 3) := by decide +kernel
theorem dX4_keepFrom_55 : decode cX4_keepFrom 55 = .ok (.aload_n 0, 1) := by decide +kernel
theorem dX4_keepFrom_56 : decode cX4_keepFrom 56 = .ok (.iload_n 2, 1) := by decide +kernel
theorem dX4_keepFrom_57 : decode cX4_keepFrom 57 = .ok (.putfield 18, 3) := by decide +kernel
theorem dX4_keepFrom_60 : decode cX4_keepFrom 60 = .ok (.aload_n 0, 1) := by decide +kernel
theorem dX4_keepFrom_61 : decode cX4_keepFrom 61 = .ok (.getfield 18, 3) := by decide +kernel
theorem dX4_keepFrom_64 : decode cX4_keepFrom 64 = .ok (.ireturn, 1) := by decide +kernel
theorem dX4_dryBySpans_0 : decode cX4_dryBySpans 0 = .ok (.iload_n 1, 1) := by decide +kernel
theorem dX4_dryBySpans_1 : decode cX4_dryBySpans 1 = .ok (.istore_n 3, 1) := by decide +kernel
theorem dX4_dryBySpans_2 : decode cX4_dryBySpans 2 = .ok (.iload_n 2, 1) := by decide +kernel
theorem dX4_dryBySpans_3 : decode cX4_dryBySpans 3 = .ok (.istore 4, 2) := by decide +kernel
theorem dX4_dryBySpans_5 : decode cX4_dryBySpans 5 = .ok (.iconst 0, 1) := by decide +kernel
theorem dX4_dryBySpans_6 : decode cX4_dryBySpans 6 = .ok (.istore 5, 2) := by decide +kernel
theorem dX4_dryBySpans_8 : decode cX4_dryBySpans 8 = .ok (.iload 5, 2) := by decide +kernel
theorem dX4_dryBySpans_10 : decode cX4_dryBySpans 10 = .ok (.bipush 6, 2) := by decide +kernel
theorem dX4_dryBySpans_12 : decode cX4_dryBySpans 12 = .ok (.if_icmp .gt 46, 3) := by decide +kernel
theorem dX4_dryBySpans_15 : decode cX4_dryBySpans 15 = .ok (.iload 4, 2) := by decide +kernel
theorem dX4_dryBySpans_17 : decode cX4_dryBySpans 17 = .ok (.ifCond .le 41, 3) := by decide +kernel
theorem dX4_dryBySpans_20 : decode cX4_dryBySpans 20 = .ok (.aload_n 0, 1) := by decide +kernel
theorem dX4_dryBySpans_21 : decode cX4_dryBySpans 21 = .ok (.iload_n 3, 1) := by decide +kernel
theorem dX4_dryBySpans_22 : decode cX4_dryBySpans 22 = .ok (.invokevirtual 22, 3) := by decide +kernel
theorem dX4_dryBySpans_25 : decode cX4_dryBySpans 25 = .ok (.istore_n 3, 1) := by decide +kernel
theorem dX4_dryBySpans_26 : decode cX4_dryBySpans 26 = .ok (.iload 4, 2) := by decide +kernel
theorem dX4_dryBySpans_28 : decode cX4_dryBySpans 28 = .ok (.aload_n 0, 1) := by decide +kernel
theorem dX4_dryBySpans_29 : decode cX4_dryBySpans 29 = .ok (.iload_n 3, 1) := by decide +kernel
theorem dX4_dryBySpans_30 : decode cX4_dryBySpans 30 = .ok (.invokevirtual 26, 3) := by decide +kernel
theorem dX4_dryBySpans_33 : decode cX4_dryBySpans 33 = .ok (.iload_n 3, 1) := by decide +kernel
theorem dX4_dryBySpans_34 : decode cX4_dryBySpans 34 = .ok (.isub, 1) := by decide +kernel
theorem dX4_dryBySpans_35 : decode cX4_dryBySpans 35 = .ok (.invokestatic 29, 3) := by decide +kernel
theorem dX4_dryBySpans_38 : decode cX4_dryBySpans 38 = .ok (.istore 6, 2) := by decide +kernel
theorem dX4_dryBySpans_40 : decode cX4_dryBySpans 40 = .ok (.iload_n 3, 1) := by decide +kernel
theorem dX4_dryBySpans_41 : decode cX4_dryBySpans 41 = .ok (.iload 6, 2) := by decide +kernel
theorem dX4_dryBySpans_43 : decode cX4_dryBySpans 43 = .ok (.iadd, 1) := by decide +kernel
theorem dX4_dryBySpans_44 : decode cX4_dryBySpans 44 = .ok (.istore_n 3, 1) := by decide +kernel
theorem dX4_dryBySpans_45 : decode cX4_dryBySpans 45 = .ok (.iload 4, 2) := by decide +kernel
theorem dX4_dryBySpans_47 : decode cX4_dryBySpans 47 = .ok (.iload 6, 2) := by decide +kernel
theorem dX4_dryBySpans_49 : decode cX4_dryBySpans 49 = .ok (.isub, 1) := by decide +kernel
theorem dX4_dryBySpans_50 : decode cX4_dryBySpans 50 = .ok (.istore 4, 2) := by decide +kernel
theorem dX4_dryBySpans_52 : decode cX4_dryBySpans 52 = .ok (.iinc 5 1, 3) := by decide +kernel
theorem dX4_dryBySpans_55 : decode cX4_dryBySpans 55 = .ok (.goto (-47), 3) := by decide +kernel
theorem dX4_dryBySpans_58 : decode cX4_dryBySpans 58 = .ok (.iload_n 3, 1) := by decide +kernel
theorem dX4_dryBySpans_59 : decode cX4_dryBySpans 59 = .ok (.ireturn, 1) := by decide +kernel
theorem dX4_dryHourByHour_0 : decode cX4_dryHourByHour 0 = .ok (.iload_n 1, 1) := by decide +kernel
theorem dX4_dryHourByHour_1 : decode cX4_dryHourByHour 1 = .ok (.istore_n 3, 1) := by decide +kernel
theorem dX4_dryHourByHour_2 : decode cX4_dryHourByHour 2 = .ok (.iload_n 2, 1) := by decide +kernel
theorem dX4_dryHourByHour_3 : decode cX4_dryHourByHour 3 = .ok (.istore 4, 2) := by decide +kernel
theorem dX4_dryHourByHour_5 : decode cX4_dryHourByHour 5 = .ok (.sipush 10000, 3) := by decide +kernel
theorem dX4_dryHourByHour_8 : decode cX4_dryHourByHour 8 = .ok (.iload_n 2, 1) := by decide +kernel
theorem dX4_dryHourByHour_9 : decode cX4_dryHourByHour 9 = .ok (.iadd, 1) := by decide +kernel
theorem dX4_dryHourByHour_10 : decode cX4_dryHourByHour 10 = .ok (.istore 5, 2) := by decide +kernel
theorem dX4_dryHourByHour_12 : decode cX4_dryHourByHour 12 = .ok (.iload 4, 2) := by decide +kernel
theorem dX4_dryHourByHour_14 : decode cX4_dryHourByHour 14 = .ok (.ifCond .le 26, 3) := by decide +kernel
theorem dX4_dryHourByHour_17 : decode cX4_dryHourByHour 17 = .ok (.iload_n 3, 1) := by decide +kernel
theorem dX4_dryHourByHour_18 : decode cX4_dryHourByHour 18 = .ok (.iload 5, 2) := by decide +kernel
theorem dX4_dryHourByHour_20 : decode cX4_dryHourByHour 20 = .ok (.if_icmp .ge 20, 3) := by decide +kernel
theorem dX4_dryHourByHour_23 : decode cX4_dryHourByHour 23 = .ok (.aload_n 0, 1) := by decide +kernel
theorem dX4_dryHourByHour_24 : decode cX4_dryHourByHour 24 = .ok (.iload_n 3, 1) := by decide +kernel
theorem dX4_dryHourByHour_25 : decode cX4_dryHourByHour 25 = .ok (.invokevirtual 36, 3) := by decide +kernel
theorem dX4_dryHourByHour_28 : decode cX4_dryHourByHour 28 = .ok (.ifCond .ne 6, 3) := by decide +kernel
theorem dX4_dryHourByHour_31 : decode cX4_dryHourByHour 31 = .ok (.iinc 4 (-1), 3) := by decide +kernel
theorem dX4_dryHourByHour_34 : decode cX4_dryHourByHour 34 = .ok (.iinc 3 1, 3) := by decide +kernel
theorem dX4_dryHourByHour_37 : decode cX4_dryHourByHour 37 = .ok (.goto (-25), 3) := by decide +kernel
theorem dX4_dryHourByHour_40 : decode cX4_dryHourByHour 40 = .ok (.iload_n 3, 1) := by decide +kernel
theorem dX4_dryHourByHour_41 : decode cX4_dryHourByHour 41 = .ok (.ireturn, 1) := by decide +kernel
theorem dX5_init_0 : decode cX5_init 0 = .ok (.aload_n 0, 1) := by decide +kernel
theorem dX5_init_1 : decode cX5_init 1 = .ok (.invokespecial 1, 3) := by decide +kernel
theorem dX5_init_4 : decode cX5_init 4 = .ok (.aload_n 0, 1) := by decide +kernel
theorem dX5_init_5 : decode cX5_init 5 = .ok (.new 7, 3) := by decide +kernel
theorem dX5_init_8 : decode cX5_init 8 = .ok (.dup, 1) := by decide +kernel
theorem dX5_init_9 : decode cX5_init 9 = .ok (.invokespecial 9, 3) := by decide +kernel
theorem dX5_init_12 : decode cX5_init 12 = .ok (.putfield 10, 3) := by decide +kernel
theorem dX5_init_15 : decode cX5_init 15 = .ok (.aload_n 0, 1) := by decide +kernel
theorem dX5_init_16 : decode cX5_init 16 = .ok (.new 16, 3) := by decide +kernel
theorem dX5_init_19 : decode cX5_init 19 = .ok (.dup, 1) := by decide +kernel
theorem dX5_init_20 : decode cX5_init 20 = .ok (.invokespecial 18, 3) := by decide +kernel
theorem dX5_init_23 : decode cX5_init 23 = .ok (.putfield 19, 3) := by decide +kernel
theorem dX5_init_26 : decode cX5_init 26 = .ok (.aload_n 0, 1) := by decide +kernel
theorem dX5_init_27 : decode cX5_init 27 = .ok (.new 23, 3) := by decide +kernel
theorem dX5_init_30 : decode cX5_init 30 = .ok (.dup, 1) := by decide +kernel
theorem dX5_init_31 : decode cX5_init 31 = .ok (.invokespecial 25, 3) := by decide +kernel
theorem dX5_init_34 : decode cX5_init 34 = .ok (.putfield 26, 3) := by decide +kernel
theorem dX5_init_37 : decode cX5_init 37 = .ok (.aload_n 0, 1) := by decide +kernel
theorem dX5_init_38 : decode cX5_init 38 = .ok (.new 30, 3) := by decide +kernel
theorem dX5_init_41 : decode cX5_init 41 = .ok (.dup, 1) := by decide +kernel
theorem dX5_init_42 : decode cX5_init 42 = .ok (.invokespecial 32, 3) := by decide +kernel
theorem dX5_init_45 : decode cX5_init 45 = .ok (.putfield 33, 3) := by decide +kernel
theorem dX5_init_48 : decode cX5_init 48 = .ok (.aload_n 0, 1) := by decide +kernel
theorem dX5_init_49 : decode cX5_init 49 = .ok (.new 37, 3) := by decide +kernel
theorem dX5_init_52 : decode cX5_init 52 = .ok (.dup, 1) := by decide +kernel
theorem dX5_init_53 : decode cX5_init 53 = .ok (.invokespecial 39, 3) := by decide +kernel
theorem dX5_init_56 : decode cX5_init 56 = .ok (.putfield 40, 3) := by decide +kernel
theorem dX5_init_59 : decode cX5_init 59 = .ok (.aload_n 0, 1) := by decide +kernel
theorem dX5_init_60 : decode cX5_init 60 = .ok (.bipush 100, 2) := by decide +kernel
theorem dX5_init_62 : decode cX5_init 62 = .ok (.putfield 44, 3) := by decide +kernel
theorem dX5_init_65 : decode cX5_init 65 = .ok (.aload_n 0, 1) := by decide +kernel
theorem dX5_init_66 : decode cX5_init 66 = .ok (.bipush 10, 2) := by decide +kernel
theorem dX5_init_68 : decode cX5_init 68 = .ok (.putfield 48, 3) := by decide +kernel
theorem dX5_init_71 : decode cX5_init 71 = .ok (.aload_n 0, 1) := by decide +kernel
theorem dX5_init_72 : decode cX5_init 72 = .ok (.iconst 0, 1) := by decide +kernel
theorem dX5_init_73 : decode cX5_init 73 = .ok (.putfield 51, 3) := by decide +kernel
theorem dX5_init_76 : decode cX5_init 76 = .ok (.aload_n 0, 1) := by decide +kernel
theorem dX5_init_77 : decode cX5_init 77 = .ok (.iconst (-1), 1) := by decide +kernel
theorem dX5_init_78 : decode cX5_init 78 = .ok (.putfield 54, 3) := by decide +kernel
theorem dX5_init_81 : decode cX5_init 81 = .ok (.aload_n 0, 1) := by decide +kernel
theorem dX5_init_82 : decode cX5_init 82 = .ok (.iconst 0, 1) := by decide +kernel
theorem dX5_init_83 : decode cX5_init 83 = .ok (.putfield 57, 3) := by decide +kernel
theorem dX5_init_86 : decode cX5_init 86 = .ok (.aload_n 0, 1) := by decide +kernel
theorem dX5_init_87 : decode cX5_init 87 = .ok (.lconst 0, 1) := by decide +kernel
theorem dX5_init_88 : decode cX5_init 88 = .ok (.putfield 60, 3) := by decide +kernel
theorem dX5_init_91 : decode cX5_init 91 = .ok (.return_, 1) := by decide +kernel
theorem dX5_outside_0 : decode cX5_outside 0 = .ok (.iload_n 0, 1) := by decide +kernel
theorem dX5_outside_1 : decode cX5_outside 1 = .ok (.iload_n 1, 1) := by decide +kernel
theorem dX5_outside_2 : decode cX5_outside 2 = .ok (.if_icmp .lt 8, 3) := by decide +kernel
theorem dX5_outside_5 : decode cX5_outside 5 = .ok (.iload_n 0, 1) := by decide +kernel
theorem dX5_outside_6 : decode cX5_outside 6 = .ok (.iload_n 2, 1) := by decide +kernel
theorem dX5_outside_7 : decode cX5_outside 7 = .ok (.if_icmp .le 7, 3) := by decide +kernel
theorem dX5_outside_10 : decode cX5_outside 10 = .ok (.iconst 1, 1) := by decide +kernel
theorem dX5_outside_11 : decode cX5_outside 11 = .ok (.goto 4, 3) := by decide +kernel
theorem dX5_outside_14 : decode cX5_outside 14 = .ok (.iconst 0, 1) := by decide +kernel
theorem dX5_outside_15 : decode cX5_outside 15 = .ok (.ireturn, 1) := by decide +kernel
theorem dX5_checkBoat_0 : decode cX5_checkBoat 0 = .ok (.aload_n 0, 1) := by decide +kernel
theorem dX5_checkBoat_1 : decode cX5_checkBoat 1 = .ok (.getfield 33, 3) := by decide +kernel
theorem dX5_checkBoat_4 : decode cX5_checkBoat 4 = .ok (.iload_n 1, 1) := by decide +kernel
theorem dX5_checkBoat_5 : decode cX5_checkBoat 5 = .ok (.invokevirtual 193, 3) := by decide +kernel
theorem dX5_checkBoat_8 : decode cX5_checkBoat 8 = .ok (.ifCond .ne 13, 3) := by decide +kernel
theorem dX5_checkBoat_11 : decode cX5_checkBoat 11 = .ok (.new 68, 3) := by decide +kernel
theorem dX5_checkBoat_14 : decode cX5_checkBoat 14 = .ok (.dup, 1) := by decide +kernel
theorem dX5_checkBoat_15 : decode cX5_checkBoat 15 = .ok (.ldc 252, 2) := by decide +kernel
theorem dX5_checkBoat_17 : decode cX5_checkBoat 17 = .ok (.invokespecial 72, 3) := by decide +kernel
theorem dX5_checkBoat_20 : decode cX5_checkBoat 20 = .ok (.athrow, 1) := by decide +kernel
theorem dX5_checkBoat_21 : decode cX5_checkBoat 21 = .ok (.return_, 1) := by decide +kernel
theorem dX5_checkBerth_0 : decode cX5_checkBerth 0 = .ok (.aload_n 0, 1) := by decide +kernel
theorem dX5_checkBerth_1 : decode cX5_checkBerth 1 = .ok (.getfield 26, 3) := by decide +kernel
theorem dX5_checkBerth_4 : decode cX5_checkBerth 4 = .ok (.iload_n 1, 1) := by decide +kernel
theorem dX5_checkBerth_5 : decode cX5_checkBerth 5 = .ok (.invokevirtual 64, 3) := by decide +kernel
theorem dX5_checkBerth_8 : decode cX5_checkBerth 8 = .ok (.ifCond .ne 13, 3) := by decide +kernel
theorem dX5_checkBerth_11 : decode cX5_checkBerth 11 = .ok (.new 68, 3) := by decide +kernel
theorem dX5_checkBerth_14 : decode cX5_checkBerth 14 = .ok (.dup, 1) := by decide +kernel
theorem dX5_checkBerth_15 : decode cX5_checkBerth 15 = .ok (.ldc 254, 2) := by decide +kernel
theorem dX5_checkBerth_17 : decode cX5_checkBerth 17 = .ok (.invokespecial 72, 3) := by decide +kernel
theorem dX5_checkBerth_20 : decode cX5_checkBerth 20 = .ok (.athrow, 1) := by decide +kernel
theorem dX5_checkBerth_21 : decode cX5_checkBerth 21 = .ok (.return_, 1) := by decide +kernel
theorem dX5_checkHour_0 : decode cX5_checkHour 0 = .ok (.iload_n 1, 1) := by decide +kernel
theorem dX5_checkHour_1 : decode cX5_checkHour 1 = .ok (.iconst 0, 1) := by decide +kernel
theorem dX5_checkHour_2 : decode cX5_checkHour 2 = .ok (.sipush 9999, 3) := by decide +kernel
theorem dX5_checkHour_5 : decode cX5_checkHour 5 = .ok (.invokestatic 75, 3) := by decide +kernel
theorem dX5_checkHour_8 : decode cX5_checkHour 8 = .ok (.ifCond .eq 14, 3) := by decide +kernel
theorem dX5_checkHour_11 : decode cX5_checkHour 11 = .ok (.new 79, 3) := by decide +kernel
theorem dX5_checkHour_14 : decode cX5_checkHour 14 = .ok (.dup, 1) := by decide +kernel
theorem dX5_checkHour_15 : decode cX5_checkHour 15 = .ok (.ldc_w 256, 3) := by decide +kernel
theorem dX5_checkHour_18 : decode cX5_checkHour 18 = .ok (.invokespecial 83, 3) := by decide +kernel
theorem dX5_checkHour_21 : decode cX5_checkHour 21 = .ok (.athrow, 1) := by decide +kernel
theorem dX5_checkHour_22 : decode cX5_checkHour 22 = .ok (.return_, 1) := by decide +kernel
theorem dX5_checkBoatInBerth_0 : decode cX5_checkBoatInBerth 0 = .ok (.aload_n 0, 1) := by decide +kernel
theorem dX5_checkBoatInBerth_1 : decode cX5_checkBoatInBerth 1 = .ok (.iload_n 1, 1) := by decide +kernel
theorem dX5_checkBoatInBerth_2 : decode cX5_checkBoatInBerth 2 = .ok (.invokevirtual 142, 3) := by decide +kernel
theorem dX5_checkBoatInBerth_5 : decode cX5_checkBoatInBerth 5 = .ok (.aload_n 0, 1) := by decide +kernel
theorem dX5_checkBoatInBerth_6 : decode cX5_checkBoatInBerth 6 = .ok (.getfield 26, 3) := by decide +kernel
theorem dX5_checkBoatInBerth_9 : decode cX5_checkBoatInBerth 9 = .ok (.aload_n 0, 1) := by decide +kernel
theorem dX5_checkBoatInBerth_10 : decode cX5_checkBoatInBerth 10 = .ok (.getfield 33, 3) := by decide +kernel
theorem dX5_checkBoatInBerth_13 : decode cX5_checkBoatInBerth 13 = .ok (.getfield 163, 3) := by decide +kernel
theorem dX5_checkBoatInBerth_16 : decode cX5_checkBoatInBerth 16 = .ok (.iload_n 1, 1) := by decide +kernel
theorem dX5_checkBoatInBerth_17 : decode cX5_checkBoatInBerth 17 = .ok (.iaload, 1) := by decide +kernel
theorem dX5_checkBoatInBerth_18 : decode cX5_checkBoatInBerth 18 = .ok (.invokevirtual 64, 3) := by decide +kernel
theorem dX5_checkBoatInBerth_21 : decode cX5_checkBoatInBerth 21 = .ok (.ifCond .ne 13, 3) := by decide +kernel
theorem dX5_checkBoatInBerth_24 : decode cX5_checkBoatInBerth 24 = .ok (.new 87, 3) := by decide +kernel
theorem dX5_checkBoatInBerth_27 : decode cX5_checkBoatInBerth 27 = .ok (.dup, 1) := by decide +kernel
theorem dX5_checkBoatInBerth_28 : decode cX5_checkBoatInBerth 28 = .ok (.ldc 196, 2) := by decide +kernel
theorem dX5_checkBoatInBerth_30 : decode cX5_checkBoatInBerth 30 = .ok (.invokespecial 91, 3) := by decide +kernel
theorem dX5_checkBoatInBerth_33 : decode cX5_checkBoatInBerth 33 = .ok (.athrow, 1) := by decide +kernel
theorem dX5_checkBoatInBerth_34 : decode cX5_checkBoatInBerth 34 = .ok (.return_, 1) := by decide +kernel
theorem dX5_addBerth_0 : decode cX5_addBerth 0 = .ok (.iload_n 1, 1) := by decide +kernel
theorem dX5_addBerth_1 : decode cX5_addBerth 1 = .ok (.iconst (-1), 1) := by decide +kernel
theorem dX5_addBerth_2 : decode cX5_addBerth 2 = .ok (.if_icmp .eq 24, 3) := by decide +kernel
theorem dX5_addBerth_5 : decode cX5_addBerth 5 = .ok (.aload_n 0, 1) := by decide +kernel
theorem dX5_addBerth_6 : decode cX5_addBerth 6 = .ok (.getfield 26, 3) := by decide +kernel
theorem dX5_addBerth_9 : decode cX5_addBerth 9 = .ok (.iload_n 1, 1) := by decide +kernel
theorem dX5_addBerth_10 : decode cX5_addBerth 10 = .ok (.invokevirtual 64, 3) := by decide +kernel
theorem dX5_addBerth_13 : decode cX5_addBerth 13 = .ok (.ifCond .ne 13, 3) := by decide +kernel
theorem dX5_addBerth_16 : decode cX5_addBerth 16 = .ok (.new 68, 3) := by decide +kernel
theorem dX5_addBerth_19 : decode cX5_addBerth 19 = .ok (.dup, 1) := by decide +kernel
theorem dX5_addBerth_20 : decode cX5_addBerth 20 = .ok (.ldc 70, 2) := by decide +kernel
theorem dX5_addBerth_22 : decode cX5_addBerth 22 = .ok (.invokespecial 72, 3) := by decide +kernel
theorem dX5_addBerth_25 : decode cX5_addBerth 25 = .ok (.athrow, 1) := by decide +kernel
theorem dX5_addBerth_26 : decode cX5_addBerth 26 = .ok (.iload_n 2, 1) := by decide +kernel
theorem dX5_addBerth_27 : decode cX5_addBerth 27 = .ok (.iconst 1, 1) := by decide +kernel
theorem dX5_addBerth_28 : decode cX5_addBerth 28 = .ok (.sipush 200, 3) := by decide +kernel
theorem dX5_addBerth_31 : decode cX5_addBerth 31 = .ok (.invokestatic 75, 3) := by decide +kernel
theorem dX5_addBerth_34 : decode cX5_addBerth 34 = .ok (.ifCond .ne 13, 3) := by decide +kernel
theorem dX5_addBerth_37 : decode cX5_addBerth 37 = .ok (.iload_n 3, 1) := by decide +kernel
theorem dX5_addBerth_38 : decode cX5_addBerth 38 = .ok (.iconst 1, 1) := by decide +kernel
theorem dX5_addBerth_39 : decode cX5_addBerth 39 = .ok (.bipush 40, 2) := by decide +kernel
theorem dX5_addBerth_41 : decode cX5_addBerth 41 = .ok (.invokestatic 75, 3) := by decide +kernel
theorem dX5_addBerth_44 : decode cX5_addBerth 44 = .ok (.ifCond .eq 13, 3) := by decide +kernel
theorem dX5_addBerth_47 : decode cX5_addBerth 47 = .ok (.new 79, 3) := by decide +kernel
theorem dX5_addBerth_50 : decode cX5_addBerth 50 = .ok (.dup, 1) := by decide +kernel
theorem dX5_addBerth_51 : decode cX5_addBerth 51 = .ok (.ldc 81, 2) := by decide +kernel
theorem dX5_addBerth_53 : decode cX5_addBerth 53 = .ok (.invokespecial 83, 3) := by decide +kernel
theorem dX5_addBerth_56 : decode cX5_addBerth 56 = .ok (.athrow, 1) := by decide +kernel
theorem dX5_addBerth_57 : decode cX5_addBerth 57 = .ok (.aload_n 0, 1) := by decide +kernel
theorem dX5_addBerth_58 : decode cX5_addBerth 58 = .ok (.getfield 26, 3) := by decide +kernel
theorem dX5_addBerth_61 : decode cX5_addBerth 61 = .ok (.getfield 84, 3) := by decide +kernel
theorem dX5_addBerth_64 : decode cX5_addBerth 64 = .ok (.bipush 6, 2) := by decide +kernel
theorem dX5_addBerth_66 : decode cX5_addBerth 66 = .ok (.if_icmp .lt 13, 3) := by decide +kernel
theorem dX5_addBerth_69 : decode cX5_addBerth 69 = .ok (.new 87, 3) := by decide +kernel
theorem dX5_addBerth_72 : decode cX5_addBerth 72 = .ok (.dup, 1) := by decide +kernel
theorem dX5_addBerth_73 : decode cX5_addBerth 73 = .ok (.ldc 89, 2) := by decide +kernel
theorem dX5_addBerth_75 : decode cX5_addBerth 75 = .ok (.invokespecial 91, 3) := by decide +kernel
theorem dX5_addBerth_78 : decode cX5_addBerth 78 = .ok (.athrow, 1) := by decide +kernel
theorem dX5_addBerth_79 : decode cX5_addBerth 79 = .ok (.aload_n 0, 1) := by decide +kernel
theorem dX5_addBerth_80 : decode cX5_addBerth 80 = .ok (.getfield 26, 3) := by decide +kernel
theorem dX5_addBerth_83 : decode cX5_addBerth 83 = .ok (.iload_n 1, 1) := by decide +kernel
theorem dX5_addBerth_84 : decode cX5_addBerth 84 = .ok (.iload_n 2, 1) := by decide +kernel
theorem dX5_addBerth_85 : decode cX5_addBerth 85 = .ok (.iload_n 3, 1) := by decide +kernel
theorem dX5_addBerth_86 : decode cX5_addBerth 86 = .ok (.invokevirtual 92, 3) := by decide +kernel
theorem dX5_addBerth_89 : decode cX5_addBerth 89 = .ok (.ireturn, 1) := by decide +kernel
theorem dX5_addBoat_0 : decode cX5_addBoat 0 = .ok (.iload_n 1, 1) := by decide +kernel
theorem dX5_addBoat_1 : decode cX5_addBoat 1 = .ok (.bipush 50, 2) := by decide +kernel
theorem dX5_addBoat_3 : decode cX5_addBoat 3 = .ok (.sipush 400, 3) := by decide +kernel
theorem dX5_addBoat_6 : decode cX5_addBoat 6 = .ok (.invokestatic 75, 3) := by decide +kernel
theorem dX5_addBoat_9 : decode cX5_addBoat 9 = .ok (.ifCond .ne 35, 3) := by decide +kernel
theorem dX5_addBoat_12 : decode cX5_addBoat 12 = .ok (.iload_n 2, 1) := by decide +kernel
theorem dX5_addBoat_13 : decode cX5_addBoat 13 = .ok (.iconst 1, 1) := by decide +kernel
theorem dX5_addBoat_14 : decode cX5_addBoat 14 = .ok (.sipush 200, 3) := by decide +kernel
theorem dX5_addBoat_17 : decode cX5_addBoat 17 = .ok (.invokestatic 75, 3) := by decide +kernel
theorem dX5_addBoat_20 : decode cX5_addBoat 20 = .ok (.ifCond .ne 24, 3) := by decide +kernel
theorem dX5_addBoat_23 : decode cX5_addBoat 23 = .ok (.iload_n 3, 1) := by decide +kernel
theorem dX5_addBoat_24 : decode cX5_addBoat 24 = .ok (.iconst 1, 1) := by decide +kernel
theorem dX5_addBoat_25 : decode cX5_addBoat 25 = .ok (.bipush 40, 2) := by decide +kernel
theorem dX5_addBoat_27 : decode cX5_addBoat 27 = .ok (.invokestatic 75, 3) := by decide +kernel
theorem dX5_addBoat_30 : decode cX5_addBoat 30 = .ok (.ifCond .ne 14, 3) := by decide +kernel
theorem dX5_addBoat_33 : decode cX5_addBoat 33 = .ok (.iload 4, 2) := by decide +kernel
theorem dX5_addBoat_35 : decode cX5_addBoat 35 = .ok (.iconst 0, 1) := by decide +kernel
theorem dX5_addBoat_36 : decode cX5_addBoat 36 = .ok (.bipush 9, 2) := by decide +kernel
theorem dX5_addBoat_38 : decode cX5_addBoat 38 = .ok (.invokestatic 75, 3) := by decide +kernel
theorem dX5_addBoat_41 : decode cX5_addBoat 41 = .ok (.ifCond .eq 13, 3) := by decide +kernel
theorem dX5_addBoat_44 : decode cX5_addBoat 44 = .ok (.new 79, 3) := by decide +kernel
theorem dX5_addBoat_47 : decode cX5_addBoat 47 = .ok (.dup, 1) := by decide +kernel
theorem dX5_addBoat_48 : decode cX5_addBoat 48 = .ok (.ldc 96, 2) := by decide +kernel
theorem dX5_addBoat_50 : decode cX5_addBoat 50 = .ok (.invokespecial 83, 3) := by decide +kernel
theorem dX5_addBoat_53 : decode cX5_addBoat 53 = .ok (.athrow, 1) := by decide +kernel
theorem dX5_addBoat_54 : decode cX5_addBoat 54 = .ok (.aload_n 0, 1) := by decide +kernel
theorem dX5_addBoat_55 : decode cX5_addBoat 55 = .ok (.getfield 33, 3) := by decide +kernel
theorem dX5_addBoat_58 : decode cX5_addBoat 58 = .ok (.getfield 98, 3) := by decide +kernel
theorem dX5_addBoat_61 : decode cX5_addBoat 61 = .ok (.bipush 8, 2) := by decide +kernel
theorem dX5_addBoat_63 : decode cX5_addBoat 63 = .ok (.if_icmp .lt 13, 3) := by decide +kernel
theorem dX5_addBoat_66 : decode cX5_addBoat 66 = .ok (.new 87, 3) := by decide +kernel
theorem dX5_addBoat_69 : decode cX5_addBoat 69 = .ok (.dup, 1) := by decide +kernel
theorem dX5_addBoat_70 : decode cX5_addBoat 70 = .ok (.ldc 99, 2) := by decide +kernel
theorem dX5_addBoat_72 : decode cX5_addBoat 72 = .ok (.invokespecial 91, 3) := by decide +kernel
theorem dX5_addBoat_75 : decode cX5_addBoat 75 = .ok (.athrow, 1) := by decide +kernel
theorem dX5_addBoat_76 : decode cX5_addBoat 76 = .ok (.aload_n 0, 1) := by decide +kernel
theorem dX5_addBoat_77 : decode cX5_addBoat 77 = .ok (.getfield 33, 3) := by decide +kernel
theorem dX5_addBoat_80 : decode cX5_addBoat 80 = .ok (.iload_n 1, 1) := by decide +kernel
theorem dX5_addBoat_81 : decode cX5_addBoat 81 = .ok (.iload_n 2, 1) := by decide +kernel
theorem dX5_addBoat_82 : decode cX5_addBoat 82 = .ok (.iload_n 3, 1) := by decide +kernel
theorem dX5_addBoat_83 : decode cX5_addBoat 83 = .ok (.iload 4, 2) := by decide +kernel
theorem dX5_addBoat_85 : decode cX5_addBoat 85 = .ok (.invokevirtual 101, 3) := by decide +kernel
theorem dX5_addBoat_88 : decode cX5_addBoat 88 = .ok (.ireturn, 1) := by decide +kernel
theorem dX5_setTide_0 : decode cX5_setTide 0 = .ok (.iload_n 1, 1) := by decide +kernel
theorem dX5_setTide_1 : decode cX5_setTide 1 = .ok (.iconst 0, 1) := by decide +kernel
theorem dX5_setTide_2 : decode cX5_setTide 2 = .ok (.sipush 600, 3) := by decide +kernel
theorem dX5_setTide_5 : decode cX5_setTide 5 = .ok (.invokestatic 75, 3) := by decide +kernel
theorem dX5_setTide_8 : decode cX5_setTide 8 = .ok (.ifCond .ne 23, 3) := by decide +kernel
theorem dX5_setTide_11 : decode cX5_setTide 11 = .ok (.iload_n 2, 1) := by decide +kernel
theorem dX5_setTide_12 : decode cX5_setTide 12 = .ok (.iconst 0, 1) := by decide +kernel
theorem dX5_setTide_13 : decode cX5_setTide 13 = .ok (.bipush 60, 2) := by decide +kernel
theorem dX5_setTide_15 : decode cX5_setTide 15 = .ok (.invokestatic 75, 3) := by decide +kernel
theorem dX5_setTide_18 : decode cX5_setTide 18 = .ok (.ifCond .ne 13, 3) := by decide +kernel
theorem dX5_setTide_21 : decode cX5_setTide 21 = .ok (.iload_n 3, 1) := by decide +kernel
theorem dX5_setTide_22 : decode cX5_setTide 22 = .ok (.iconst 0, 1) := by decide +kernel
theorem dX5_setTide_23 : decode cX5_setTide 23 = .ok (.bipush 30, 2) := by decide +kernel
theorem dX5_setTide_25 : decode cX5_setTide 25 = .ok (.invokestatic 75, 3) := by decide +kernel
theorem dX5_setTide_28 : decode cX5_setTide 28 = .ok (.ifCond .eq 13, 3) := by decide +kernel
theorem dX5_setTide_31 : decode cX5_setTide 31 = .ok (.new 79, 3) := by decide +kernel
theorem dX5_setTide_34 : decode cX5_setTide 34 = .ok (.dup, 1) := by decide +kernel
theorem dX5_setTide_35 : decode cX5_setTide 35 = .ok (.ldc 96, 2) := by decide +kernel
theorem dX5_setTide_37 : decode cX5_setTide 37 = .ok (.invokespecial 83, 3) := by decide +kernel
theorem dX5_setTide_40 : decode cX5_setTide 40 = .ok (.athrow, 1) := by decide +kernel
theorem dX5_setTide_41 : decode cX5_setTide 41 = .ok (.aload_n 0, 1) := by decide +kernel
theorem dX5_setTide_42 : decode cX5_setTide 42 = .ok (.getfield 10, 3) := by decide +kernel
theorem dX5_setTide_45 : decode cX5_setTide 45 = .ok (.iload_n 1, 1) := by decide +kernel
theorem dX5_setTide_46 : decode cX5_setTide 46 = .ok (.putfield 104, 3) := by decide +kernel
theorem dX5_setTide_49 : decode cX5_setTide 49 = .ok (.aload_n 0, 1) := by decide +kernel
theorem dX5_setTide_50 : decode cX5_setTide 50 = .ok (.getfield 10, 3) := by decide +kernel
theorem dX5_setTide_53 : decode cX5_setTide 53 = .ok (.iload_n 2, 1) := by decide +kernel
theorem dX5_setTide_54 : decode cX5_setTide 54 = .ok (.putfield 107, 3) := by decide +kernel
theorem dX5_setTide_57 : decode cX5_setTide 57 = .ok (.aload_n 0, 1) := by decide +kernel
theorem dX5_setTide_58 : decode cX5_setTide 58 = .ok (.getfield 10, 3) := by decide +kernel
theorem dX5_setTide_61 : decode cX5_setTide 61 = .ok (.iload_n 3, 1) := by decide +kernel
theorem dX5_setTide_62 : decode cX5_setTide 62 = .ok (.putfield 110, 3) := by decide +kernel
theorem dX5_setTide_65 : decode cX5_setTide 65 = .ok (.aload_n 0, 1) := by decide +kernel
theorem dX5_setTide_66 : decode cX5_setTide 66 = .ok (.getfield 10, 3) := by decide +kernel
theorem dX5_setTide_69 : decode cX5_setTide 69 = .ok (.aload_n 0, 1) := by decide +kernel
theorem dX5_setTide_70 : decode cX5_setTide 70 = .ok (.getfield 51, 3) := by decide +kernel
theorem dX5_setTide_73 : decode cX5_setTide 73 = .ok (.invokevirtual 113, 3) := by decide +kernel
theorem dX5_setTide_76 : decode cX5_setTide 76 = .ok (.ireturn, 1) := by decide +kernel
theorem dX5_setCradle_0 : decode cX5_setCradle 0 = .ok (.iload_n 1, 1) := by decide +kernel
theorem dX5_setCradle_1 : decode cX5_setCradle 1 = .ok (.iconst 1, 1) := by decide +kernel
theorem dX5_setCradle_2 : decode cX5_setCradle 2 = .ok (.sipush 200, 3) := by decide +kernel
theorem dX5_setCradle_5 : decode cX5_setCradle 5 = .ok (.invokestatic 75, 3) := by decide +kernel
theorem dX5_setCradle_8 : decode cX5_setCradle 8 = .ok (.ifCond .ne 13, 3) := by decide +kernel
theorem dX5_setCradle_11 : decode cX5_setCradle 11 = .ok (.iload_n 2, 1) := by decide +kernel
theorem dX5_setCradle_12 : decode cX5_setCradle 12 = .ok (.iconst 0, 1) := by decide +kernel
theorem dX5_setCradle_13 : decode cX5_setCradle 13 = .ok (.bipush 50, 2) := by decide +kernel
theorem dX5_setCradle_15 : decode cX5_setCradle 15 = .ok (.invokestatic 75, 3) := by decide +kernel
theorem dX5_setCradle_18 : decode cX5_setCradle 18 = .ok (.ifCond .eq 13, 3) := by decide +kernel
theorem dX5_setCradle_21 : decode cX5_setCradle 21 = .ok (.new 79, 3) := by decide +kernel
theorem dX5_setCradle_24 : decode cX5_setCradle 24 = .ok (.dup, 1) := by decide +kernel
theorem dX5_setCradle_25 : decode cX5_setCradle 25 = .ok (.ldc 96, 2) := by decide +kernel
theorem dX5_setCradle_27 : decode cX5_setCradle 27 = .ok (.invokespecial 83, 3) := by decide +kernel
theorem dX5_setCradle_30 : decode cX5_setCradle 30 = .ok (.athrow, 1) := by decide +kernel
theorem dX5_setCradle_31 : decode cX5_setCradle 31 = .ok (.aload_n 0, 1) := by decide +kernel
theorem dX5_setCradle_32 : decode cX5_setCradle 32 = .ok (.getfield 44, 3) := by decide +kernel
theorem dX5_setCradle_35 : decode cX5_setCradle 35 = .ok (.istore_n 3, 1) := by decide +kernel
theorem dX5_setCradle_36 : decode cX5_setCradle 36 = .ok (.aload_n 0, 1) := by decide +kernel
theorem dX5_setCradle_37 : decode cX5_setCradle 37 = .ok (.iload_n 1, 1) := by decide +kernel
theorem dX5_setCradle_38 : decode cX5_setCradle 38 = .ok (.putfield 44, 3) := by decide +kernel
theorem dX5_setCradle_41 : decode cX5_setCradle 41 = .ok (.aload_n 0, 1) := by decide +kernel
theorem dX5_setCradle_42 : decode cX5_setCradle 42 = .ok (.iload_n 2, 1) := by decide +kernel
theorem dX5_setCradle_43 : decode cX5_setCradle 43 = .ok (.putfield 48, 3) := by decide +kernel
theorem dX5_setCradle_46 : decode cX5_setCradle 46 = .ok (.iload_n 3, 1) := by decide +kernel
theorem dX5_setCradle_47 : decode cX5_setCradle 47 = .ok (.ireturn, 1) := by decide +kernel
theorem dX5_level_0 : decode cX5_level 0 = .ok (.aload_n 0, 1) := by decide +kernel
theorem dX5_level_1 : decode cX5_level 1 = .ok (.iload_n 1, 1) := by decide +kernel
theorem dX5_level_2 : decode cX5_level 2 = .ok (.invokevirtual 128, 3) := by decide +kernel
theorem dX5_level_5 : decode cX5_level 5 = .ok (.aload_n 0, 1) := by decide +kernel
theorem dX5_level_6 : decode cX5_level 6 = .ok (.getfield 10, 3) := by decide +kernel
theorem dX5_level_9 : decode cX5_level 9 = .ok (.iload_n 1, 1) := by decide +kernel
theorem dX5_level_10 : decode cX5_level 10 = .ok (.invokevirtual 113, 3) := by decide +kernel
theorem dX5_level_13 : decode cX5_level 13 = .ok (.ireturn, 1) := by decide +kernel
theorem dX5_state_0 : decode cX5_state 0 = .ok (.aload_n 0, 1) := by decide +kernel
theorem dX5_state_1 : decode cX5_state 1 = .ok (.iload_n 1, 1) := by decide +kernel
theorem dX5_state_2 : decode cX5_state 2 = .ok (.invokevirtual 142, 3) := by decide +kernel
theorem dX5_state_5 : decode cX5_state 5 = .ok (.aload_n 0, 1) := by decide +kernel
theorem dX5_state_6 : decode cX5_state 6 = .ok (.getfield 33, 3) := by decide +kernel
theorem dX5_state_9 : decode cX5_state 9 = .ok (.getfield 163, 3) := by decide +kernel
theorem dX5_state_12 : decode cX5_state 12 = .ok (.iload_n 1, 1) := by decide +kernel
theorem dX5_state_13 : decode cX5_state 13 = .ok (.iaload, 1) := by decide +kernel
theorem dX5_state_14 : decode cX5_state 14 = .ok (.iconst (-1), 1) := by decide +kernel
theorem dX5_state_15 : decode cX5_state 15 = .ok (.if_icmp .ne 6, 3) := by decide +kernel
theorem dX5_state_18 : decode cX5_state 18 = .ok (.bipush 119, 2) := by decide +kernel
theorem dX5_state_20 : decode cX5_state 20 = .ok (.ireturn, 1) := by decide +kernel
theorem dX5_state_21 : decode cX5_state 21 = .ok (.aload_n 0, 1) := by decide +kernel
theorem dX5_state_22 : decode cX5_state 22 = .ok (.getfield 33, 3) := by decide +kernel
theorem dX5_state_25 : decode cX5_state 25 = .ok (.getfield 163, 3) := by decide +kernel
theorem dX5_state_28 : decode cX5_state 28 = .ok (.iload_n 1, 1) := by decide +kernel
theorem dX5_state_29 : decode cX5_state 29 = .ok (.iaload, 1) := by decide +kernel
theorem dX5_state_30 : decode cX5_state 30 = .ok (.bipush (-2), 2) := by decide +kernel
theorem dX5_state_32 : decode cX5_state 32 = .ok (.if_icmp .ne 8, 3) := by decide +kernel
theorem dX5_state_35 : decode cX5_state 35 = .ok (.bipush 97, 2) := by decide +kernel
theorem dX5_state_37 : decode cX5_state 37 = .ok (.goto 5, 3) := by decide +kernel
theorem dX5_state_40 : decode cX5_state 40 = .ok (.bipush 98, 2) := by decide +kernel
theorem dX5_state_42 : decode cX5_state 42 = .ok (.ireturn, 1) := by decide +kernel
theorem dX5_berthOf_0 : decode cX5_berthOf 0 = .ok (.aload_n 0, 1) := by decide +kernel
theorem dX5_berthOf_1 : decode cX5_berthOf 1 = .ok (.iload_n 1, 1) := by decide +kernel
theorem dX5_berthOf_2 : decode cX5_berthOf 2 = .ok (.invokevirtual 142, 3) := by decide +kernel
theorem dX5_berthOf_5 : decode cX5_berthOf 5 = .ok (.aload_n 0, 1) := by decide +kernel
theorem dX5_berthOf_6 : decode cX5_berthOf 6 = .ok (.getfield 26, 3) := by decide +kernel
theorem dX5_berthOf_9 : decode cX5_berthOf 9 = .ok (.aload_n 0, 1) := by decide +kernel
theorem dX5_berthOf_10 : decode cX5_berthOf 10 = .ok (.getfield 33, 3) := by decide +kernel
theorem dX5_berthOf_13 : decode cX5_berthOf 13 = .ok (.getfield 163, 3) := by decide +kernel
theorem dX5_berthOf_16 : decode cX5_berthOf 16 = .ok (.iload_n 1, 1) := by decide +kernel
theorem dX5_berthOf_17 : decode cX5_berthOf 17 = .ok (.iaload, 1) := by decide +kernel
theorem dX5_berthOf_18 : decode cX5_berthOf 18 = .ok (.invokevirtual 64, 3) := by decide +kernel
theorem dX5_berthOf_21 : decode cX5_berthOf 21 = .ok (.ifCond .ne 13, 3) := by decide +kernel
theorem dX5_berthOf_24 : decode cX5_berthOf 24 = .ok (.new 149, 3) := by decide +kernel
theorem dX5_berthOf_27 : decode cX5_berthOf 27 = .ok (.dup, 1) := by decide +kernel
theorem dX5_berthOf_28 : decode cX5_berthOf 28 = .ok (.ldc 196, 2) := by decide +kernel
theorem dX5_berthOf_30 : decode cX5_berthOf 30 = .ok (.invokespecial 153, 3) := by decide +kernel
theorem dX5_berthOf_33 : decode cX5_berthOf 33 = .ok (.athrow, 1) := by decide +kernel
theorem dX5_berthOf_34 : decode cX5_berthOf 34 = .ok (.aload_n 0, 1) := by decide +kernel
theorem dX5_berthOf_35 : decode cX5_berthOf 35 = .ok (.getfield 33, 3) := by decide +kernel
theorem dX5_berthOf_38 : decode cX5_berthOf 38 = .ok (.getfield 163, 3) := by decide +kernel
theorem dX5_berthOf_41 : decode cX5_berthOf 41 = .ok (.iload_n 1, 1) := by decide +kernel
theorem dX5_berthOf_42 : decode cX5_berthOf 42 = .ok (.iaload, 1) := by decide +kernel
theorem dX5_berthOf_43 : decode cX5_berthOf 43 = .ok (.ireturn, 1) := by decide +kernel
theorem dX5_boatIn_0 : decode cX5_boatIn 0 = .ok (.aload_n 0, 1) := by decide +kernel
theorem dX5_boatIn_1 : decode cX5_boatIn 1 = .ok (.iload_n 1, 1) := by decide +kernel
theorem dX5_boatIn_2 : decode cX5_boatIn 2 = .ok (.invokevirtual 198, 3) := by decide +kernel
theorem dX5_boatIn_5 : decode cX5_boatIn 5 = .ok (.aload_n 0, 1) := by decide +kernel
theorem dX5_boatIn_6 : decode cX5_boatIn 6 = .ok (.getfield 26, 3) := by decide +kernel
theorem dX5_boatIn_9 : decode cX5_boatIn 9 = .ok (.getfield 167, 3) := by decide +kernel
theorem dX5_boatIn_12 : decode cX5_boatIn 12 = .ok (.iload_n 1, 1) := by decide +kernel
theorem dX5_boatIn_13 : decode cX5_boatIn 13 = .ok (.iaload, 1) := by decide +kernel
theorem dX5_boatIn_14 : decode cX5_boatIn 14 = .ok (.iconst (-1), 1) := by decide +kernel
theorem dX5_boatIn_15 : decode cX5_boatIn 15 = .ok (.if_icmp .ne 13, 3) := by decide +kernel
theorem dX5_boatIn_18 : decode cX5_boatIn 18 = .ok (.new 149, 3) := by decide +kernel
theorem dX5_boatIn_21 : decode cX5_boatIn 21 = .ok (.dup, 1) := by decide +kernel
theorem dX5_boatIn_22 : decode cX5_boatIn 22 = .ok (.ldc 201, 2) := by decide +kernel
theorem dX5_boatIn_24 : decode cX5_boatIn 24 = .ok (.invokespecial 153, 3) := by decide +kernel
theorem dX5_boatIn_27 : decode cX5_boatIn 27 = .ok (.athrow, 1) := by decide +kernel
theorem dX5_boatIn_28 : decode cX5_boatIn 28 = .ok (.aload_n 0, 1) := by decide +kernel
theorem dX5_boatIn_29 : decode cX5_boatIn 29 = .ok (.getfield 26, 3) := by decide +kernel
theorem dX5_boatIn_32 : decode cX5_boatIn 32 = .ok (.getfield 167, 3) := by decide +kernel
theorem dX5_boatIn_35 : decode cX5_boatIn 35 = .ok (.iload_n 1, 1) := by decide +kernel
theorem dX5_boatIn_36 : decode cX5_boatIn 36 = .ok (.iaload, 1) := by decide +kernel
theorem dX5_boatIn_37 : decode cX5_boatIn 37 = .ok (.ireturn, 1) := by decide +kernel
theorem dX5_dryLeft_0 : decode cX5_dryLeft 0 = .ok (.aload_n 0, 1) := by decide +kernel
theorem dX5_dryLeft_1 : decode cX5_dryLeft 1 = .ok (.iload_n 1, 1) := by decide +kernel
theorem dX5_dryLeft_2 : decode cX5_dryLeft 2 = .ok (.invokevirtual 142, 3) := by decide +kernel
theorem dX5_dryLeft_5 : decode cX5_dryLeft 5 = .ok (.aload_n 0, 1) := by decide +kernel
theorem dX5_dryLeft_6 : decode cX5_dryLeft 6 = .ok (.getfield 33, 3) := by decide +kernel
theorem dX5_dryLeft_9 : decode cX5_dryLeft 9 = .ok (.getfield 205, 3) := by decide +kernel
theorem dX5_dryLeft_12 : decode cX5_dryLeft 12 = .ok (.iload_n 1, 1) := by decide +kernel
theorem dX5_dryLeft_13 : decode cX5_dryLeft 13 = .ok (.iaload, 1) := by decide +kernel
theorem dX5_dryLeft_14 : decode cX5_dryLeft 14 = .ok (.ireturn, 1) := by decide +kernel
theorem dX5_dryAt_0 : decode cX5_dryAt 0 = .ok (.aload_n 0, 1) := by decide +kernel
theorem dX5_dryAt_1 : decode cX5_dryAt 1 = .ok (.iload_n 1, 1) := by decide +kernel
theorem dX5_dryAt_2 : decode cX5_dryAt 2 = .ok (.invokevirtual 142, 3) := by decide +kernel
theorem dX5_dryAt_5 : decode cX5_dryAt 5 = .ok (.aload_n 0, 1) := by decide +kernel
theorem dX5_dryAt_6 : decode cX5_dryAt 6 = .ok (.getfield 19, 3) := by decide +kernel
theorem dX5_dryAt_9 : decode cX5_dryAt 9 = .ok (.aload_n 0, 1) := by decide +kernel
theorem dX5_dryAt_10 : decode cX5_dryAt 10 = .ok (.getfield 51, 3) := by decide +kernel
theorem dX5_dryAt_13 : decode cX5_dryAt 13 = .ok (.aload_n 0, 1) := by decide +kernel
theorem dX5_dryAt_14 : decode cX5_dryAt 14 = .ok (.getfield 33, 3) := by decide +kernel
theorem dX5_dryAt_17 : decode cX5_dryAt 17 = .ok (.getfield 205, 3) := by decide +kernel
theorem dX5_dryAt_20 : decode cX5_dryAt 20 = .ok (.iload_n 1, 1) := by decide +kernel
theorem dX5_dryAt_21 : decode cX5_dryAt 21 = .ok (.iaload, 1) := by decide +kernel
theorem dX5_dryAt_22 : decode cX5_dryAt 22 = .ok (.invokevirtual 213, 3) := by decide +kernel
theorem dX5_dryAt_25 : decode cX5_dryAt 25 = .ok (.ireturn, 1) := by decide +kernel
theorem dX5_dryByHours_0 : decode cX5_dryByHours 0 = .ok (.aload_n 0, 1) := by decide +kernel
theorem dX5_dryByHours_1 : decode cX5_dryByHours 1 = .ok (.iload_n 1, 1) := by decide +kernel
theorem dX5_dryByHours_2 : decode cX5_dryByHours 2 = .ok (.invokevirtual 142, 3) := by decide +kernel
theorem dX5_dryByHours_5 : decode cX5_dryByHours 5 = .ok (.aload_n 0, 1) := by decide +kernel
theorem dX5_dryByHours_6 : decode cX5_dryByHours 6 = .ok (.getfield 19, 3) := by decide +kernel
theorem dX5_dryByHours_9 : decode cX5_dryByHours 9 = .ok (.aload_n 0, 1) := by decide +kernel
theorem dX5_dryByHours_10 : decode cX5_dryByHours 10 = .ok (.getfield 51, 3) := by decide +kernel
theorem dX5_dryByHours_13 : decode cX5_dryByHours 13 = .ok (.aload_n 0, 1) := by decide +kernel
theorem dX5_dryByHours_14 : decode cX5_dryByHours 14 = .ok (.getfield 33, 3) := by decide +kernel
theorem dX5_dryByHours_17 : decode cX5_dryByHours 17 = .ok (.getfield 205, 3) := by decide +kernel
theorem dX5_dryByHours_20 : decode cX5_dryByHours 20 = .ok (.iload_n 1, 1) := by decide +kernel
theorem dX5_dryByHours_21 : decode cX5_dryByHours 21 = .ok (.iaload, 1) := by decide +kernel
theorem dX5_dryByHours_22 : decode cX5_dryByHours 22 = .ok (.invokevirtual 216, 3) := by decide +kernel
theorem dX5_dryByHours_25 : decode cX5_dryByHours 25 = .ok (.ireturn, 1) := by decide +kernel
theorem dX5_pass_0 : decode cX5_pass 0 = .ok (.iload_n 1, 1) := by decide +kernel
theorem dX5_pass_1 : decode cX5_pass 1 = .ok (.iconst 1, 1) := by decide +kernel
theorem dX5_pass_2 : decode cX5_pass 2 = .ok (.sipush 336, 3) := by decide +kernel
theorem dX5_pass_5 : decode cX5_pass 5 = .ok (.invokestatic 75, 3) := by decide +kernel
theorem dX5_pass_8 : decode cX5_pass 8 = .ok (.ifCond .ne 15, 3) := by decide +kernel
theorem dX5_pass_11 : decode cX5_pass 11 = .ok (.aload_n 0, 1) := by decide +kernel
theorem dX5_pass_12 : decode cX5_pass 12 = .ok (.getfield 51, 3) := by decide +kernel
theorem dX5_pass_15 : decode cX5_pass 15 = .ok (.iload_n 1, 1) := by decide +kernel
theorem dX5_pass_16 : decode cX5_pass 16 = .ok (.iadd, 1) := by decide +kernel
theorem dX5_pass_17 : decode cX5_pass 17 = .ok (.sipush 9999, 3) := by decide +kernel
theorem dX5_pass_20 : decode cX5_pass 20 = .ok (.if_icmp .le 13, 3) := by decide +kernel
theorem dX5_pass_23 : decode cX5_pass 23 = .ok (.new 79, 3) := by decide +kernel
theorem dX5_pass_26 : decode cX5_pass 26 = .ok (.dup, 1) := by decide +kernel
theorem dX5_pass_27 : decode cX5_pass 27 = .ok (.ldc 203, 2) := by decide +kernel
theorem dX5_pass_29 : decode cX5_pass 29 = .ok (.invokespecial 83, 3) := by decide +kernel
theorem dX5_pass_32 : decode cX5_pass 32 = .ok (.athrow, 1) := by decide +kernel
theorem dX5_pass_33 : decode cX5_pass 33 = .ok (.iconst 0, 1) := by decide +kernel
theorem dX5_pass_34 : decode cX5_pass 34 = .ok (.istore_n 2, 1) := by decide +kernel
theorem dX5_pass_35 : decode cX5_pass 35 = .ok (.iload_n 2, 1) := by decide +kernel
theorem dX5_pass_36 : decode cX5_pass 36 = .ok (.iload_n 1, 1) := by decide +kernel
theorem dX5_pass_37 : decode cX5_pass 37 = .ok (.if_icmp .ge 40, 3) := by decide +kernel
theorem dX5_pass_40 : decode cX5_pass 40 = .ok (.aload_n 0, 1) := by decide +kernel
theorem dX5_pass_41 : decode cX5_pass 41 = .ok (.getfield 19, 3) := by decide +kernel
theorem dX5_pass_44 : decode cX5_pass 44 = .ok (.aload_n 0, 1) := by decide +kernel
theorem dX5_pass_45 : decode cX5_pass 45 = .ok (.getfield 51, 3) := by decide +kernel
theorem dX5_pass_48 : decode cX5_pass 48 = .ok (.invokevirtual 132, 3) := by decide +kernel
theorem dX5_pass_51 : decode cX5_pass 51 = .ok (.ifCond .ne 10, 3) := by decide +kernel
theorem dX5_pass_54 : decode cX5_pass 54 = .ok (.aload_n 0, 1) := by decide +kernel
theorem dX5_pass_55 : decode cX5_pass 55 = .ok (.getfield 33, 3) := by decide +kernel
theorem dX5_pass_58 : decode cX5_pass 58 = .ok (.invokevirtual 219, 3) := by decide +kernel
theorem dX5_pass_61 : decode cX5_pass 61 = .ok (.aload_n 0, 1) := by decide +kernel
theorem dX5_pass_62 : decode cX5_pass 62 = .ok (.dup, 1) := by decide +kernel
theorem dX5_pass_63 : decode cX5_pass 63 = .ok (.getfield 51, 3) := by decide +kernel
theorem dX5_pass_66 : decode cX5_pass 66 = .ok (.iconst 1, 1) := by decide +kernel
theorem dX5_pass_67 : decode cX5_pass 67 = .ok (.iadd, 1) := by decide +kernel
theorem dX5_pass_68 : decode cX5_pass 68 = .ok (.putfield 51, 3) := by decide +kernel
theorem dX5_pass_71 : decode cX5_pass 71 = .ok (.iinc 2 1, 3) := by decide +kernel
theorem dX5_pass_74 : decode cX5_pass 74 = .ok (.goto (-39), 3) := by decide +kernel
theorem dX5_pass_77 : decode cX5_pass 77 = .ok (.aload_n 0, 1) := by decide +kernel
theorem dX5_pass_78 : decode cX5_pass 78 = .ok (.getfield 51, 3) := by decide +kernel
theorem dX5_pass_81 : decode cX5_pass 81 = .ok (.ireturn, 1) := by decide +kernel
theorem dX5_time_0 : decode cX5_time 0 = .ok (.aload_n 0, 1) := by decide +kernel
theorem dX5_time_1 : decode cX5_time 1 = .ok (.getfield 51, 3) := by decide +kernel
theorem dX5_time_4 : decode cX5_time 4 = .ok (.ireturn, 1) := by decide +kernel
theorem dX5_leastShifted_0 : decode cX5_leastShifted 0 = .ok (.aload_n 0, 1) := by decide +kernel
theorem dX5_leastShifted_1 : decode cX5_leastShifted 1 = .ok (.iload_n 1, 1) := by decide +kernel
theorem dX5_leastShifted_2 : decode cX5_leastShifted 2 = .ok (.invokevirtual 222, 3) := by decide +kernel
theorem dX5_leastShifted_5 : decode cX5_leastShifted 5 = .ok (.aload_n 0, 1) := by decide +kernel
theorem dX5_leastShifted_6 : decode cX5_leastShifted 6 = .ok (.iload_n 1, 1) := by decide +kernel
theorem dX5_leastShifted_7 : decode cX5_leastShifted 7 = .ok (.invokevirtual 225, 3) := by decide +kernel
theorem dX5_leastShifted_10 : decode cX5_leastShifted 10 = .ok (.ifCond .eq 7, 3) := by decide +kernel
theorem dX5_leastShifted_13 : decode cX5_leastShifted 13 = .ok (.iconst 0, 1) := by decide +kernel
theorem dX5_leastShifted_14 : decode cX5_leastShifted 14 = .ok (.goto 8, 3) := by decide +kernel
theorem dX5_leastShifted_17 : decode cX5_leastShifted 17 = .ok (.aload_n 0, 1) := by decide +kernel
theorem dX5_leastShifted_18 : decode cX5_leastShifted 18 = .ok (.iload_n 1, 1) := by decide +kernel
theorem dX5_leastShifted_19 : decode cX5_leastShifted 19 = .ok (.invokevirtual 228, 3) := by decide +kernel
theorem dX5_leastShifted_22 : decode cX5_leastShifted 22 = .ok (.istore_n 2, 1) := by decide +kernel
theorem dX5_leastShifted_23 : decode cX5_leastShifted 23 = .ok (.iload_n 2, 1) := by decide +kernel
theorem dX5_leastShifted_24 : decode cX5_leastShifted 24 = .ok (.iconst (-1), 1) := by decide +kernel
theorem dX5_leastShifted_25 : decode cX5_leastShifted 25 = .ok (.if_icmp .ne 13, 3) := by decide +kernel
theorem dX5_leastShifted_28 : decode cX5_leastShifted 28 = .ok (.new 149, 3) := by decide +kernel
theorem dX5_leastShifted_31 : decode cX5_leastShifted 31 = .ok (.dup, 1) := by decide +kernel
theorem dX5_leastShifted_32 : decode cX5_leastShifted 32 = .ok (.ldc 231, 2) := by decide +kernel
theorem dX5_leastShifted_34 : decode cX5_leastShifted 34 = .ok (.invokespecial 153, 3) := by decide +kernel
theorem dX5_leastShifted_37 : decode cX5_leastShifted 37 = .ok (.athrow, 1) := by decide +kernel
theorem dX5_leastShifted_38 : decode cX5_leastShifted 38 = .ok (.iload_n 2, 1) := by decide +kernel
theorem dX5_leastShifted_39 : decode cX5_leastShifted 39 = .ok (.ireturn, 1) := by decide +kernel
theorem dX5_leastByRounds_0 : decode cX5_leastByRounds 0 = .ok (.aload_n 0, 1) := by decide +kernel
theorem dX5_leastByRounds_1 : decode cX5_leastByRounds 1 = .ok (.iload_n 1, 1) := by decide +kernel
theorem dX5_leastByRounds_2 : decode cX5_leastByRounds 2 = .ok (.invokevirtual 222, 3) := by decide +kernel
theorem dX5_leastByRounds_5 : decode cX5_leastByRounds 5 = .ok (.aload_n 0, 1) := by decide +kernel
theorem dX5_leastByRounds_6 : decode cX5_leastByRounds 6 = .ok (.iload_n 1, 1) := by decide +kernel
theorem dX5_leastByRounds_7 : decode cX5_leastByRounds 7 = .ok (.invokevirtual 225, 3) := by decide +kernel
theorem dX5_leastByRounds_10 : decode cX5_leastByRounds 10 = .ok (.ifCond .eq 7, 3) := by decide +kernel
theorem dX5_leastByRounds_13 : decode cX5_leastByRounds 13 = .ok (.iconst 0, 1) := by decide +kernel
theorem dX5_leastByRounds_14 : decode cX5_leastByRounds 14 = .ok (.goto 8, 3) := by decide +kernel
theorem dX5_leastByRounds_17 : decode cX5_leastByRounds 17 = .ok (.aload_n 0, 1) := by decide +kernel
theorem dX5_leastByRounds_18 : decode cX5_leastByRounds 18 = .ok (.iload_n 1, 1) := by decide +kernel
theorem dX5_leastByRounds_19 : decode cX5_leastByRounds 19 = .ok (.invokevirtual 233, 3) := by decide +kernel
theorem dX5_leastByRounds_22 : decode cX5_leastByRounds 22 = .ok (.istore_n 2, 1) := by decide +kernel
theorem dX5_leastByRounds_23 : decode cX5_leastByRounds 23 = .ok (.iload_n 2, 1) := by decide +kernel
theorem dX5_leastByRounds_24 : decode cX5_leastByRounds 24 = .ok (.iconst (-1), 1) := by decide +kernel
theorem dX5_leastByRounds_25 : decode cX5_leastByRounds 25 = .ok (.if_icmp .ne 13, 3) := by decide +kernel
theorem dX5_leastByRounds_28 : decode cX5_leastByRounds 28 = .ok (.new 149, 3) := by decide +kernel
theorem dX5_leastByRounds_31 : decode cX5_leastByRounds 31 = .ok (.dup, 1) := by decide +kernel
theorem dX5_leastByRounds_32 : decode cX5_leastByRounds 32 = .ok (.ldc 231, 2) := by decide +kernel
theorem dX5_leastByRounds_34 : decode cX5_leastByRounds 34 = .ok (.invokespecial 153, 3) := by decide +kernel
theorem dX5_leastByRounds_37 : decode cX5_leastByRounds 37 = .ok (.athrow, 1) := by decide +kernel
theorem dX5_leastByRounds_38 : decode cX5_leastByRounds 38 = .ok (.iload_n 2, 1) := by decide +kernel
theorem dX5_leastByRounds_39 : decode cX5_leastByRounds 39 = .ok (.ireturn, 1) := by decide +kernel
theorem dX5_forgetWeather_0 : decode cX5_forgetWeather 0 = .ok (.aload_n 0, 1) := by decide +kernel
theorem dX5_forgetWeather_1 : decode cX5_forgetWeather 1 = .ok (.getfield 19, 3) := by decide +kernel
theorem dX5_forgetWeather_4 : decode cX5_forgetWeather 4 = .ok (.aload_n 0, 1) := by decide +kernel
theorem dX5_forgetWeather_5 : decode cX5_forgetWeather 5 = .ok (.getfield 51, 3) := by decide +kernel
theorem dX5_forgetWeather_8 : decode cX5_forgetWeather 8 = .ok (.invokevirtual 125, 3) := by decide +kernel
theorem dX5_forgetWeather_11 : decode cX5_forgetWeather 11 = .ok (.ireturn, 1) := by decide +kernel
theorem dX5_movedWeight_0 : decode cX5_movedWeight 0 = .ok (.aload_n 0, 1) := by decide +kernel
theorem dX5_movedWeight_1 : decode cX5_movedWeight 1 = .ok (.getfield 60, 3) := by decide +kernel
theorem dX5_movedWeight_4 : decode cX5_movedWeight 4 = .ok (.lreturn, 1) := by decide +kernel
