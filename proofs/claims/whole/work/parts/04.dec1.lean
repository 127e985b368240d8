theorem dX0_init_0 : decode cX0_init 0 = .ok (.aload_n 0, 1) := by decide +kernel
theorem dX0_init_1 : decode cX0_init 1 = .ok (.invokespecial 3, 3) := by decide +kernel
theorem dX0_init_4 : decode cX0_init 4 = .ok (.aload_n 0, 1) := by decide +kernel
theorem dX0_init_5 : decode cX0_init 5 = .ok (.bipush 6, 2) := by decide +kernel
theorem dX0_init_7 : decode cX0_init 7 = .ok (.newarray .int, 2) := by decide +kernel
theorem dX0_init_9 : decode cX0_init 9 = .ok (.putfield 9, 3) := by decide +kernel
theorem dX0_init_12 : decode cX0_init 12 = .ok (.aload_n 0, 1) := by decide +kernel
theorem dX0_init_13 : decode cX0_init 13 = .ok (.bipush 6, 2) := by decide +kernel
theorem dX0_init_15 : decode cX0_init 15 = .ok (.newarray .int, 2) := by decide +kernel
theorem dX0_init_17 : decode cX0_init 17 = .ok (.putfield 15, 3) := by decide +kernel
theorem dX0_init_20 : decode cX0_init 20 = .ok (.aload_n 0, 1) := by decide +kernel
theorem dX0_init_21 : decode cX0_init 21 = .ok (.bipush 6, 2) := by decide +kernel
theorem dX0_init_23 : decode cX0_init 23 = .ok (.newarray .int, 2) := by decide +kernel
theorem dX0_init_25 : decode cX0_init 25 = .ok (.putfield 18, 3) := by decide +kernel
theorem dX0_init_28 : decode cX0_init 28 = .ok (.aload_n 0, 1) := by decide +kernel
theorem dX0_init_29 : decode cX0_init 29 = .ok (.bipush 6, 2) := by decide +kernel
theorem dX0_init_31 : decode cX0_init 31 = .ok (.newarray .int, 2) := by decide +kernel
theorem dX0_init_33 : decode cX0_init 33 = .ok (.putfield 21, 3) := by decide +kernel
theorem dX0_init_36 : decode cX0_init 36 = .ok (.aload_n 0, 1) := by decide +kernel
theorem dX0_init_37 : decode cX0_init 37 = .ok (.iconst 0, 1) := by decide +kernel
theorem dX0_init_38 : decode cX0_init 38 = .ok (.putfield 24, 3) := by decide +kernel
theorem dX0_init_41 : decode cX0_init 41 = .ok (.return_, 1) := by decide +kernel
theorem dX0_has_0 : decode cX0_has 0 = .ok (.iload_n 1, 1) := by decide +kernel
theorem dX0_has_1 : decode cX0_has 1 = .ok (.ifCond .lt 15, 3) := by decide +kernel
theorem dX0_has_4 : decode cX0_has 4 = .ok (.iload_n 1, 1) := by decide +kernel
theorem dX0_has_5 : decode cX0_has 5 = .ok (.aload_n 0, 1) := by decide +kernel
theorem dX0_has_6 : decode cX0_has 6 = .ok (.getfield 24, 3) := by decide +kernel
theorem dX0_has_9 : decode cX0_has 9 = .ok (.if_icmp .ge 7, 3) := by decide +kernel
theorem dX0_has_12 : decode cX0_has 12 = .ok (.iconst 1, 1) := by decide +kernel
theorem dX0_has_13 : decode cX0_has 13 = .ok (.goto 4, 3) := by decide +kernel
theorem dX0_has_16 : decode cX0_has 16 = .ok (.iconst 0, 1) := by decide +kernel
theorem dX0_has_17 : decode cX0_has 17 = .ok (.ireturn, 1) := by decide +kernel
theorem dX0_append_0 : decode cX0_append 0 = .ok (.aload_n 0, 1) := by decide +kernel
theorem dX0_append_1 : decode cX0_append 1 = .ok (.getfield 24, 3) := by decide +kernel
theorem dX0_append_4 : decode cX0_append 4 = .ok (.istore 4, 2) := by decide +kernel
theorem dX0_append_6 : decode cX0_append 6 = .ok (.iload 4, 2) := by decide +kernel
theorem dX0_append_8 : decode cX0_append 8 = .ok (.bipush 6, 2) := by decide +kernel
theorem dX0_append_10 : decode cX0_append 10 = .ok (.if_icmp .ge 66, 3) := by decide +kernel
theorem dX0_append_13 : decode cX0_append 13 = .ok (.aload_n 0, 1) := by decide +kernel
theorem dX0_append_14 : decode cX0_append 14 = .ok (.getfield 9, 3) := by decide +kernel
theorem dX0_append_17 : decode cX0_append 17 = .ok (.iload 4, 2) := by decide +kernel
theorem dX0_append_19 : decode cX0_append 19 = .ok (.iload_n 2, 1) := by decide +kernel
theorem dX0_append_20 : decode cX0_append 20 = .ok (.iastore, 1) := by decide +kernel
theorem dX0_append_21 : decode cX0_append 21 = .ok (.aload_n 0, 1) := by decide +kernel
theorem dX0_append_22 : decode cX0_append 22 = .ok (.getfield 15, 3) := by decide +kernel
theorem dX0_append_25 : decode cX0_append 25 = .ok (.iload 4, 2) := by decide +kernel
theorem dX0_append_27 : decode cX0_append 27 = .ok (.iload_n 3, 1) := by decide +kernel
theorem dX0_append_28 : decode cX0_append 28 = .ok (.iastore, 1) := by decide +kernel
theorem dX0_append_29 : decode cX0_append 29 = .ok (.aload_n 0, 1) := by decide +kernel
theorem dX0_append_30 : decode cX0_append 30 = .ok (.getfield 18, 3) := by decide +kernel
theorem dX0_append_33 : decode cX0_append 33 = .ok (.iload 4, 2) := by decide +kernel
theorem dX0_append_35 : decode cX0_append 35 = .ok (.aload_n 0, 1) := by decide +kernel
theorem dX0_append_36 : decode cX0_append 36 = .ok (.iload_n 1, 1) := by decide +kernel
theorem dX0_append_37 : decode cX0_append 37 = .ok (.invokevirtual 28, 3) := by decide +kernel
theorem dX0_append_40 : decode cX0_append 40 = .ok (.ifCond .eq 16, 3) := by decide +kernel
theorem dX0_append_43 : decode cX0_append 43 = .ok (.aload_n 0, 1) := by decide +kernel
theorem dX0_append_44 : decode cX0_append 44 = .ok (.getfield 18, 3) := by decide +kernel
theorem dX0_append_47 : decode cX0_append 47 = .ok (.iload_n 1, 1) := by decide +kernel
theorem dX0_append_48 : decode cX0_append 48 = .ok (.iaload, 1) := by decide +kernel
theorem dX0_append_49 : decode cX0_append 49 = .ok (.iconst 1, 1) := by decide +kernel
theorem dX0_append_50 : decode cX0_append 50 = .ok (.iload_n 1, 1) := by decide +kernel
theorem dX0_append_51 : decode cX0_append 51 = .ok (.ishl, 1) := by decide +kernel
theorem dX0_append_52 : decode cX0_append 52 = .ok (.ior, 1) := by decide +kernel
theorem dX0_append_53 : decode cX0_append 53 = .ok (.goto 4, 3) := by decide +kernel
theorem dX0_append_56 : decode cX0_append 56 = .ok (.iconst 0, 1) := by decide +kernel
theorem dX0_append_57 : decode cX0_append 57 = .ok (.iastore, 1) := by decide +kernel
theorem dX0_append_58 : decode cX0_append 58 = .ok (.aload_n 0, 1) := by decide +kernel
theorem dX0_append_59 : decode cX0_append 59 = .ok (.getfield 21, 3) := by decide +kernel
theorem dX0_append_62 : decode cX0_append 62 = .ok (.iload 4, 2) := by decide +kernel
theorem dX0_append_64 : decode cX0_append 64 = .ok (.iconst (-1), 1) := by decide +kernel
theorem dX0_append_65 : decode cX0_append 65 = .ok (.iastore, 1) := by decide +kernel
theorem dX0_append_66 : decode cX0_append 66 = .ok (.aload_n 0, 1) := by decide +kernel
theorem dX0_append_67 : decode cX0_append 67 = .ok (.dup, 1) := by decide +kernel
theorem dX0_append_68 : decode cX0_append 68 = .ok (.getfield 24, 3) := by decide +kernel
theorem dX0_append_71 : decode cX0_append 71 = .ok (.iconst 1, 1) := by decide +kernel
theorem dX0_append_72 : decode cX0_append 72 = .ok (.iadd, 1) := by decide +kernel
theorem dX0_append_73 : decode cX0_append 73 = .ok (.putfield 24, 3) := by decide +kernel
theorem dX0_append_76 : decode cX0_append 76 = .ok (.iload 4, 2) := by decide +kernel
theorem dX0_append_78 : decode cX0_append 78 = .ok (.ireturn, 1) := by decide +kernel
theorem dX0_occupied_0 : decode cX0_occupied 0 = .ok (.iconst 0, 1) := by decide +kernel
theorem dX0_occupied_1 : decode cX0_occupied 1 = .ok (.istore_n 1, 1) := by decide +kernel
theorem dX0_occupied_2 : decode cX0_occupied 2 = .ok (.iconst 0, 1) := by decide +kernel
theorem dX0_occupied_3 : decode cX0_occupied 3 = .ok (.istore_n 2, 1) := by decide +kernel
theorem dX0_occupied_4 : decode cX0_occupied 4 = .ok (.iload_n 2, 1) := by decide +kernel
theorem dX0_occupied_5 : decode cX0_occupied 5 = .ok (.aload_n 0, 1) := by decide +kernel
theorem dX0_occupied_6 : decode cX0_occupied 6 = .ok (.getfield 24, 3) := by decide +kernel
theorem dX0_occupied_9 : decode cX0_occupied 9 = .ok (.if_icmp .ge 25, 3) := by decide +kernel
theorem dX0_occupied_12 : decode cX0_occupied 12 = .ok (.aload_n 0, 1) := by decide +kernel
theorem dX0_occupied_13 : decode cX0_occupied 13 = .ok (.getfield 21, 3) := by decide +kernel
theorem dX0_occupied_16 : decode cX0_occupied 16 = .ok (.iload_n 2, 1) := by decide +kernel
theorem dX0_occupied_17 : decode cX0_occupied 17 = .ok (.iaload, 1) := by decide +kernel
theorem dX0_occupied_18 : decode cX0_occupied 18 = .ok (.iconst (-1), 1) := by decide +kernel
theorem dX0_occupied_19 : decode cX0_occupied 19 = .ok (.if_icmp .eq 9, 3) := by decide +kernel
theorem dX0_occupied_22 : decode cX0_occupied 22 = .ok (.iload_n 1, 1) := by decide +kernel
theorem dX0_occupied_23 : decode cX0_occupied 23 = .ok (.iconst 1, 1) := by decide +kernel
theorem dX0_occupied_24 : decode cX0_occupied 24 = .ok (.iload_n 2, 1) := by decide +kernel
theorem dX0_occupied_25 : decode cX0_occupied 25 = .ok (.ishl, 1) := by decide +kernel
theorem dX0_occupied_26 : decode cX0_occupied 26 = .ok (.ior, 1) := by decide +kernel
theorem dX0_occupied_27 : decode cX0_occupied 27 = .ok (.istore_n 1, 1) := by decide +kernel
theorem dX0_occupied_28 : decode cX0_occupied 28 = .ok (.iinc 2 1, 3) := by decide +kernel
theorem dX0_occupied_31 : decode cX0_occupied 31 = .ok (.goto (-27), 3) := by decide +kernel
theorem dX0_occupied_34 : decode cX0_occupied 34 = .ok (.iload_n 1, 1) := by decide +kernel
theorem dX0_occupied_35 : decode cX0_occupied 35 = .ok (.ireturn, 1) := by decide +kernel
theorem dX1_init_0 : decode cX1_init 0 = .ok (.aload_n 0, 1) := by decide +kernel
theorem dX1_init_1 : decode cX1_init 1 = .ok (.invokespecial 3, 3) := by decide +kernel
theorem dX1_init_4 : decode cX1_init 4 = .ok (.aload_n 0, 1) := by decide +kernel
theorem dX1_init_5 : decode cX1_init 5 = .ok (.bipush 8, 2) := by decide +kernel
theorem dX1_init_7 : decode cX1_init 7 = .ok (.newarray .int, 2) := by decide +kernel
theorem dX1_init_9 : decode cX1_init 9 = .ok (.putfield 9, 3) := by decide +kernel
theorem dX1_init_12 : decode cX1_init 12 = .ok (.aload_n 0, 1) := by decide +kernel
theorem dX1_init_13 : decode cX1_init 13 = .ok (.bipush 8, 2) := by decide +kernel
theorem dX1_init_15 : decode cX1_init 15 = .ok (.newarray .int, 2) := by decide +kernel
theorem dX1_init_17 : decode cX1_init 17 = .ok (.putfield 15, 3) := by decide +kernel
theorem dX1_init_20 : decode cX1_init 20 = .ok (.aload_n 0, 1) := by decide +kernel
theorem dX1_init_21 : decode cX1_init 21 = .ok (.bipush 8, 2) := by decide +kernel
theorem dX1_init_23 : decode cX1_init 23 = .ok (.newarray .int, 2) := by decide +kernel
theorem dX1_init_25 : decode cX1_init 25 = .ok (.putfield 18, 3) := by decide +kernel
theorem dX1_init_28 : decode cX1_init 28 = .ok (.aload_n 0, 1) := by decide +kernel
theorem dX1_init_29 : decode cX1_init 29 = .ok (.bipush 8, 2) := by decide +kernel
theorem dX1_init_31 : decode cX1_init 31 = .ok (.newarray .int, 2) := by decide +kernel
theorem dX1_init_33 : decode cX1_init 33 = .ok (.putfield 21, 3) := by decide +kernel
theorem dX1_init_36 : decode cX1_init 36 = .ok (.aload_n 0, 1) := by decide +kernel
theorem dX1_init_37 : decode cX1_init 37 = .ok (.bipush 8, 2) := by decide +kernel
theorem dX1_init_39 : decode cX1_init 39 = .ok (.newarray .int, 2) := by decide +kernel
theorem dX1_init_41 : decode cX1_init 41 = .ok (.putfield 24, 3) := by decide +kernel
theorem dX1_init_44 : decode cX1_init 44 = .ok (.aload_n 0, 1) := by decide +kernel
theorem dX1_init_45 : decode cX1_init 45 = .ok (.bipush 8, 2) := by decide +kernel
theorem dX1_init_47 : decode cX1_init 47 = .ok (.newarray .int, 2) := by decide +kernel
theorem dX1_init_49 : decode cX1_init 49 = .ok (.putfield 27, 3) := by decide +kernel
theorem dX1_init_52 : decode cX1_init 52 = .ok (.aload_n 0, 1) := by decide +kernel
theorem dX1_init_53 : decode cX1_init 53 = .ok (.bipush 8, 2) := by decide +kernel
theorem dX1_init_55 : decode cX1_init 55 = .ok (.newarray .int, 2) := by decide +kernel
theorem dX1_init_57 : decode cX1_init 57 = .ok (.putfield 30, 3) := by decide +kernel
theorem dX1_init_60 : decode cX1_init 60 = .ok (.aload_n 0, 1) := by decide +kernel
theorem dX1_init_61 : decode cX1_init 61 = .ok (.iconst 0, 1) := by decide +kernel
theorem dX1_init_62 : decode cX1_init 62 = .ok (.putfield 33, 3) := by decide +kernel
theorem dX1_init_65 : decode cX1_init 65 = .ok (.return_, 1) := by decide +kernel
theorem dX1_has_0 : decode cX1_has 0 = .ok (.iload_n 1, 1) := by decide +kernel
theorem dX1_has_1 : decode cX1_has 1 = .ok (.ifCond .lt 15, 3) := by decide +kernel
theorem dX1_has_4 : decode cX1_has 4 = .ok (.iload_n 1, 1) := by decide +kernel
theorem dX1_has_5 : decode cX1_has 5 = .ok (.aload_n 0, 1) := by decide +kernel
theorem dX1_has_6 : decode cX1_has 6 = .ok (.getfield 33, 3) := by decide +kernel
theorem dX1_has_9 : decode cX1_has 9 = .ok (.if_icmp .ge 7, 3) := by decide +kernel
theorem dX1_has_12 : decode cX1_has 12 = .ok (.iconst 1, 1) := by decide +kernel
theorem dX1_has_13 : decode cX1_has 13 = .ok (.goto 4, 3) := by decide +kernel
theorem dX1_has_16 : decode cX1_has 16 = .ok (.iconst 0, 1) := by decide +kernel
theorem dX1_has_17 : decode cX1_has 17 = .ok (.ireturn, 1) := by decide +kernel
theorem dX1_append_0 : decode cX1_append 0 = .ok (.aload_n 0, 1) := by decide +kernel
theorem dX1_append_1 : decode cX1_append 1 = .ok (.getfield 33, 3) := by decide +kernel
theorem dX1_append_4 : decode cX1_append 4 = .ok (.istore 5, 2) := by decide +kernel
theorem dX1_append_6 : decode cX1_append 6 = .ok (.iload 5, 2) := by decide +kernel
theorem dX1_append_8 : decode cX1_append 8 = .ok (.bipush 8, 2) := by decide +kernel
theorem dX1_append_10 : decode cX1_append 10 = .ok (.if_icmp .ge 54, 3) := by decide +kernel
theorem dX1_append_13 : decode cX1_append 13 = .ok (.aload_n 0, 1) := by decide +kernel
theorem dX1_append_14 : decode cX1_append 14 = .ok (.getfield 9, 3) := by decide +kernel
theorem dX1_append_17 : decode cX1_append 17 = .ok (.iload 5, 2) := by decide +kernel
theorem dX1_append_19 : decode cX1_append 19 = .ok (.iload_n 1, 1) := by decide +kernel
theorem dX1_append_20 : decode cX1_append 20 = .ok (.iastore, 1) := by decide +kernel
theorem dX1_append_21 : decode cX1_append 21 = .ok (.aload_n 0, 1) := by decide +kernel
theorem dX1_append_22 : decode cX1_append 22 = .ok (.getfield 15, 3) := by decide +kernel
theorem dX1_append_25 : decode cX1_append 25 = .ok (.iload 5, 2) := by decide +kernel
theorem dX1_append_27 : decode cX1_append 27 = .ok (.iload_n 2, 1) := by decide +kernel
theorem dX1_append_28 : decode cX1_append 28 = .ok (.iastore, 1) := by decide +kernel
theorem dX1_append_29 : decode cX1_append 29 = .ok (.aload_n 0, 1) := by decide +kernel
theorem dX1_append_30 : decode cX1_append 30 = .ok (.getfield 18, 3) := by decide +kernel
theorem dX1_append_33 : decode cX1_append 33 = .ok (.iload 5, 2) := by decide +kernel
theorem dX1_append_35 : decode cX1_append 35 = .ok (.iload_n 3, 1) := by decide +kernel
theorem dX1_append_36 : decode cX1_append 36 = .ok (.iastore, 1) := by decide +kernel
theorem dX1_append_37 : decode cX1_append 37 = .ok (.aload_n 0, 1) := by decide +kernel
theorem dX1_append_38 : decode cX1_append 38 = .ok (.getfield 21, 3) := by decide +kernel
theorem dX1_append_41 : decode cX1_append 41 = .ok (.iload 5, 2) := by decide +kernel
theorem dX1_append_43 : decode cX1_append 43 = .ok (.iload 4, 2) := by decide +kernel
theorem dX1_append_45 : decode cX1_append 45 = .ok (.iastore, 1) := by decide +kernel
theorem dX1_append_46 : decode cX1_append 46 = .ok (.aload_n 0, 1) := by decide +kernel
theorem dX1_append_47 : decode cX1_append 47 = .ok (.getfield 24, 3) := by decide +kernel
theorem dX1_append_50 : decode cX1_append 50 = .ok (.iload 5, 2) := by decide +kernel
theorem dX1_append_52 : decode cX1_append 52 = .ok (.iconst (-1), 1) := by decide +kernel
theorem dX1_append_53 : decode cX1_append 53 = .ok (.iastore, 1) := by decide +kernel
theorem dX1_append_54 : decode cX1_append 54 = .ok (.aload_n 0, 1) := by decide +kernel
theorem dX1_append_55 : decode cX1_append 55 = .ok (.dup, 1) := by decide +kernel
theorem dX1_append_56 : decode cX1_append 56 = .ok (.getfield 33, 3) := by decide +kernel
theorem dX1_append_59 : decode cX1_append 59 = .ok (.iconst 1, 1) := by decide +kernel
theorem dX1_append_60 : decode cX1_append 60 = .ok (.iadd, 1) := by decide +kernel
theorem dX1_append_61 : decode cX1_append 61 = .ok (.putfield 33, 3) := by decide +kernel
theorem dX1_append_64 : decode cX1_append 64 = .ok (.iload 5, 2) := by decide +kernel
theorem dX1_append_66 : decode cX1_append 66 = .ok (.ireturn, 1) := by decide +kernel
theorem dX1_dryOneHour_0 : decode cX1_dryOneHour 0 = .ok (.iconst 0, 1) := by decide +kernel
theorem dX1_dryOneHour_1 : decode cX1_dryOneHour 1 = .ok (.istore_n 1, 1) := by decide +kernel
theorem dX1_dryOneHour_2 : decode cX1_dryOneHour 2 = .ok (.iload_n 1, 1) := by decide +kernel
theorem dX1_dryOneHour_3 : decode cX1_dryOneHour 3 = .ok (.aload_n 0, 1) := by decide +kernel
theorem dX1_dryOneHour_4 : decode cX1_dryOneHour 4 = .ok (.getfield 33, 3) := by decide +kernel
theorem dX1_dryOneHour_7 : decode cX1_dryOneHour 7 = .ok (.if_icmp .ge 28, 3) := by decide +kernel
theorem dX1_dryOneHour_10 : decode cX1_dryOneHour 10 = .ok (.aload_n 0, 1) := by decide +kernel
theorem dX1_dryOneHour_11 : decode cX1_dryOneHour 11 = .ok (.getfield 27, 3) := by decide +kernel
theorem dX1_dryOneHour_14 : decode cX1_dryOneHour 14 = .ok (.iload_n 1, 1) := by decide +kernel
theorem dX1_dryOneHour_15 : decode cX1_dryOneHour 15 = .ok (.iaload, 1) := by decide +kernel
theorem dX1_dryOneHour_16 : decode cX1_dryOneHour 16 = .ok (.ifCond .le 13, 3) := by decide +kernel
theorem dX1_dryOneHour_19 : decode cX1_dryOneHour 19 = .ok (.aload_n 0, 1) := by decide +kernel
theorem dX1_dryOneHour_20 : decode cX1_dryOneHour 20 = .ok (.getfield 27, 3) := by decide +kernel
theorem dX1_dryOneHour_23 : decode cX1_dryOneHour 23 = .ok (.iload_n 1, 1) := by decide +kernel
theorem dX1_dryOneHour_24 : decode cX1_dryOneHour 24 = .ok (.dup2, 1) := by decide +kernel
theorem dX1_dryOneHour_25 : decode cX1_dryOneHour 25 = .ok (.iaload, 1) := by decide +kernel
theorem dX1_dryOneHour_26 : decode cX1_dryOneHour 26 = .ok (.iconst 1, 1) := by decide +kernel
theorem dX1_dryOneHour_27 : decode cX1_dryOneHour 27 = .ok (.isub, 1) := by decide +kernel
theorem dX1_dryOneHour_28 : decode cX1_dryOneHour 28 = .ok (.iastore, 1) := by decide +kernel
theorem dX1_dryOneHour_29 : decode cX1_dryOneHour 29 = .ok (.iinc 1 1, 3) := by decide +kernel
theorem dX1_dryOneHour_32 : decode cX1_dryOneHour 32 = .ok (.goto (-30), 3) := by decide +kernel
theorem dX1_dryOneHour_35 : decode cX1_dryOneHour 35 = .ok (.return_, 1) := by decide +kernel
theorem dX1_countWaiting_0 : decode cX1_countWaiting 0 = .ok (.iconst 0, 1) := by decide +kernel
theorem dX1_countWaiting_1 : decode cX1_countWaiting 1 = .ok (.istore_n 1, 1) := by decide +kernel
theorem dX1_countWaiting_2 : decode cX1_countWaiting 2 = .ok (.iconst 0, 1) := by decide +kernel
theorem dX1_countWaiting_3 : decode cX1_countWaiting 3 = .ok (.istore_n 2, 1) := by decide +kernel
theorem dX1_countWaiting_4 : decode cX1_countWaiting 4 = .ok (.iload_n 2, 1) := by decide +kernel
theorem dX1_countWaiting_5 : decode cX1_countWaiting 5 = .ok (.aload_n 0, 1) := by decide +kernel
theorem dX1_countWaiting_6 : decode cX1_countWaiting 6 = .ok (.getfield 33, 3) := by decide +kernel
theorem dX1_countWaiting_9 : decode cX1_countWaiting 9 = .ok (.if_icmp .ge 22, 3) := by decide +kernel
theorem dX1_countWaiting_12 : decode cX1_countWaiting 12 = .ok (.aload_n 0, 1) := by decide +kernel
theorem dX1_countWaiting_13 : decode cX1_countWaiting 13 = .ok (.getfield 24, 3) := by decide +kernel
theorem dX1_countWaiting_16 : decode cX1_countWaiting 16 = .ok (.iload_n 2, 1) := by decide +kernel
theorem dX1_countWaiting_17 : decode cX1_countWaiting 17 = .ok (.iaload, 1) := by decide +kernel
theorem dX1_countWaiting_18 : decode cX1_countWaiting 18 = .ok (.iconst (-1), 1) := by decide +kernel
theorem dX1_countWaiting_19 : decode cX1_countWaiting 19 = .ok (.if_icmp .ne 6, 3) := by decide +kernel
theorem dX1_countWaiting_22 : decode cX1_countWaiting 22 = .ok (.iinc 1 1, 3) := by decide +kernel
theorem dX1_countWaiting_25 : decode cX1_countWaiting 25 = .ok (.iinc 2 1, 3) := by decide +kernel
theorem dX1_countWaiting_28 : decode cX1_countWaiting 28 = .ok (.goto (-24), 3) := by decide +kernel
theorem dX1_countWaiting_31 : decode cX1_countWaiting 31 = .ok (.iload_n 1, 1) := by decide +kernel
theorem dX1_countWaiting_32 : decode cX1_countWaiting 32 = .ok (.ireturn, 1) := by decide +kernel
theorem dX1_sumWaitingDraughts_0 : decode cX1_sumWaitingDraughts 0 = .ok (.iconst 0, 1) := by decide +kernel
theorem dX1_sumWaitingDraughts_1 : decode cX1_sumWaitingDraughts 1 = .ok (.istore_n 1, 1) := by decide +kernel
theorem dX1_sumWaitingDraughts_2 : decode cX1_sumWaitingDraughts 2 = .ok (.iconst 0, 1) := by decide +kernel
theorem dX1_sumWaitingDraughts_3 : decode cX1_sumWaitingDraughts 3 = .ok (.istore_n 2, 1) := by decide +kernel
theorem dX1_sumWaitingDraughts_4 : decode cX1_sumWaitingDraughts 4 = .ok (.iload_n 2, 1) := by decide +kernel
theorem dX1_sumWaitingDraughts_5 : decode cX1_sumWaitingDraughts 5 = .ok (.aload_n 0, 1) := by decide +kernel
theorem dX1_sumWaitingDraughts_6 : decode cX1_sumWaitingDraughts 6 = .ok (.getfield 33, 3) := by decide +kernel
theorem dX1_sumWaitingDraughts_9 : decode cX1_sumWaitingDraughts 9 = .ok (.if_icmp .ge 28, 3) := by decide +kernel
theorem dX1_sumWaitingDraughts_12 : decode cX1_sumWaitingDraughts 12 = .ok (.aload_n 0, 1) := by decide +kernel
theorem dX1_sumWaitingDraughts_13 : decode cX1_sumWaitingDraughts 13 = .ok (.getfield 24, 3) := by decide +kernel
theorem dX1_sumWaitingDraughts_16 : decode cX1_sumWaitingDraughts 16 = .ok (.iload_n 2, 1) := by decide +kernel
theorem dX1_sumWaitingDraughts_17 : decode cX1_sumWaitingDraughts 17 = .ok (.iaload, 1) := by decide +kernel
theorem dX1_sumWaitingDraughts_18 : decode cX1_sumWaitingDraughts 18 = .ok (.iconst (-1), 1) := by decide +kernel
theorem dX1_sumWaitingDraughts_19 : decode cX1_sumWaitingDraughts 19 = .ok (.if_icmp .ne 12, 3) := by decide +kernel
theorem dX1_sumWaitingDraughts_22 : decode cX1_sumWaitingDraughts 22 = .ok (.iload_n 1, 1) := by decide +kernel
theorem dX1_sumWaitingDraughts_23 : decode cX1_sumWaitingDraughts 23 = .ok (.aload_n 0, 1) := by decide +kernel
theorem dX1_sumWaitingDraughts_24 : decode cX1_sumWaitingDraughts 24 = .ok (.getfield 9, 3) := by decide +kernel
theorem dX1_sumWaitingDraughts_27 : decode cX1_sumWaitingDraughts 27 = .ok (.iload_n 2, 1) := by decide +kernel
theorem dX1_sumWaitingDraughts_28 : decode cX1_sumWaitingDraughts 28 = .ok (.iaload, 1) := by decide +kernel
theorem dX1_sumWaitingDraughts_29 : decode cX1_sumWaitingDraughts 29 = .ok (.iadd, 1) := by decide +kernel
theorem dX1_sumWaitingDraughts_30 : decode cX1_sumWaitingDraughts 30 = .ok (.istore_n 1, 1) := by decide +kernel
theorem dX1_sumWaitingDraughts_31 : decode cX1_sumWaitingDraughts 31 = .ok (.iinc 2 1, 3) := by decide +kernel
theorem dX1_sumWaitingDraughts_34 : decode cX1_sumWaitingDraughts 34 = .ok (.goto (-30), 3) := by decide +kernel
theorem dX1_sumWaitingDraughts_37 : decode cX1_sumWaitingDraughts 37 = .ok (.iload_n 1, 1) := by decide +kernel
theorem dX1_sumWaitingDraughts_38 : decode cX1_sumWaitingDraughts 38 = .ok (.ireturn, 1) := by decide +kernel
theorem dX1_firstInLine_0 : decode cX1_firstInLine 0 = .ok (.iconst (-1), 1) := by decide +kernel
theorem dX1_firstInLine_1 : decode cX1_firstInLine 1 = .ok (.istore_n 1, 1) := by decide +kernel
theorem dX1_firstInLine_2 : decode cX1_firstInLine 2 = .ok (.iconst 0, 1) := by decide +kernel
theorem dX1_firstInLine_3 : decode cX1_firstInLine 3 = .ok (.istore_n 2, 1) := by decide +kernel
theorem dX1_firstInLine_4 : decode cX1_firstInLine 4 = .ok (.iload_n 2, 1) := by decide +kernel
theorem dX1_firstInLine_5 : decode cX1_firstInLine 5 = .ok (.aload_n 0, 1) := by decide +kernel
theorem dX1_firstInLine_6 : decode cX1_firstInLine 6 = .ok (.getfield 33, 3) := by decide +kernel
theorem dX1_firstInLine_9 : decode cX1_firstInLine 9 = .ok (.if_icmp .ge 38, 3) := by decide +kernel
theorem dX1_firstInLine_12 : decode cX1_firstInLine 12 = .ok (.aload_n 0, 1) := by decide +kernel
theorem dX1_firstInLine_13 : decode cX1_firstInLine 13 = .ok (.getfield 24, 3) := by decide +kernel
theorem dX1_firstInLine_16 : decode cX1_firstInLine 16 = .ok (.iload_n 2, 1) := by decide +kernel
theorem dX1_firstInLine_17 : decode cX1_firstInLine 17 = .ok (.iaload, 1) := by decide +kernel
theorem dX1_firstInLine_18 : decode cX1_firstInLine 18 = .ok (.iconst (-1), 1) := by decide +kernel
theorem dX1_firstInLine_19 : decode cX1_firstInLine 19 = .ok (.if_icmp .ne 22, 3) := by decide +kernel
theorem dX1_firstInLine_22 : decode cX1_firstInLine 22 = .ok (.aload_n 0, 1) := by decide +kernel
theorem dX1_firstInLine_23 : decode cX1_firstInLine 23 = .ok (.iload_n 1, 1) := by decide +kernel
theorem dX1_firstInLine_24 : decode cX1_firstInLine 24 = .ok (.invokevirtual 37, 3) := by decide +kernel
theorem dX1_firstInLine_27 : decode cX1_firstInLine 27 = .ok (.ifCond .eq 12, 3) := by decide +kernel
theorem dX1_firstInLine_30 : decode cX1_firstInLine 30 = .ok (.aload_n 0, 1) := by decide +kernel
theorem dX1_firstInLine_31 : decode cX1_firstInLine 31 = .ok (.iload_n 2, 1) := by decide +kernel
theorem dX1_firstInLine_32 : decode cX1_firstInLine 32 = .ok (.iload_n 1, 1) := by decide +kernel
theorem dX1_firstInLine_33 : decode cX1_firstInLine 33 = .ok (.invokevirtual 41, 3) := by decide +kernel
theorem dX1_firstInLine_36 : decode cX1_firstInLine 36 = .ok (.ifCond .eq 5, 3) := by decide +kernel
theorem dX1_firstInLine_39 : decode cX1_firstInLine 39 = .ok (.iload_n 2, 1) := by decide +kernel
theorem dX1_firstInLine_40 : decode cX1_firstInLine 40 = .ok (.istore_n 1, 1) := by decide +kernel
theorem dX1_firstInLine_41 : decode cX1_firstInLine 41 = .ok (.iinc 2 1, 3) := by decide +kernel
theorem dX1_firstInLine_44 : decode cX1_firstInLine 44 = .ok (.goto (-40), 3) := by decide +kernel
theorem dX1_firstInLine_47 : decode cX1_firstInLine 47 = .ok (.iload_n 1, 1) := by decide +kernel
theorem dX1_firstInLine_48 : decode cX1_firstInLine 48 = .ok (.ireturn, 1) := by decide +kernel
theorem dX1_goesBefore_0 : decode cX1_goesBefore 0 = .ok (.aload_n 0, 1) := by decide +kernel
theorem dX1_goesBefore_1 : decode cX1_goesBefore 1 = .ok (.getfield 21, 3) := by decide +kernel
theorem dX1_goesBefore_4 : decode cX1_goesBefore 4 = .ok (.iload_n 1, 1) := by decide +kernel
theorem dX1_goesBefore_5 : decode cX1_goesBefore 5 = .ok (.iaload, 1) := by decide +kernel
theorem dX1_goesBefore_6 : decode cX1_goesBefore 6 = .ok (.aload_n 0, 1) := by decide +kernel
theorem dX1_goesBefore_7 : decode cX1_goesBefore 7 = .ok (.getfield 21, 3) := by decide +kernel
theorem dX1_goesBefore_10 : decode cX1_goesBefore 10 = .ok (.iload_n 2, 1) := by decide +kernel
theorem dX1_goesBefore_11 : decode cX1_goesBefore 11 = .ok (.iaload, 1) := by decide +kernel
theorem dX1_goesBefore_12 : decode cX1_goesBefore 12 = .ok (.if_icmp .eq 24, 3) := by decide +kernel
theorem dX1_goesBefore_15 : decode cX1_goesBefore 15 = .ok (.aload_n 0, 1) := by decide +kernel
theorem dX1_goesBefore_16 : decode cX1_goesBefore 16 = .ok (.getfield 21, 3) := by decide +kernel
theorem dX1_goesBefore_19 : decode cX1_goesBefore 19 = .ok (.iload_n 1, 1) := by decide +kernel
theorem dX1_goesBefore_20 : decode cX1_goesBefore 20 = .ok (.iaload, 1) := by decide +kernel
theorem dX1_goesBefore_21 : decode cX1_goesBefore 21 = .ok (.aload_n 0, 1) := by decide +kernel
theorem dX1_goesBefore_22 : decode cX1_goesBefore 22 = .ok (.getfield 21, 3) := by decide +kernel
theorem dX1_goesBefore_25 : decode cX1_goesBefore 25 = .ok (.iload_n 2, 1) := by decide +kernel
theorem dX1_goesBefore_26 : decode cX1_goesBefore 26 = .ok (.iaload, 1) := by decide +kernel
theorem dX1_goesBefore_27 : decode cX1_goesBefore 27 = .ok (.if_icmp .le 7, 3) := by decide +kernel
theorem dX1_goesBefore_30 : decode cX1_goesBefore 30 = .ok (.iconst 1, 1) := by decide +kernel
theorem dX1_goesBefore_31 : decode cX1_goesBefore 31 = .ok (.goto 4, 3) := by decide +kernel
theorem dX1_goesBefore_34 : decode cX1_goesBefore 34 = .ok (.iconst 0, 1) := by decide +kernel
theorem dX1_goesBefore_35 : decode cX1_goesBefore 35 = .ok (.ireturn, 1) := by decide +kernel
theorem dX1_goesBefore_36 : decode cX1_goesBefore 36 = .ok (.aload_n 0, 1) := by decide +kernel
theorem dX1_goesBefore_37 : decode cX1_goesBefore 37 = .ok (.getfield 15, 3) := by decide +kernel
theorem dX1_goesBefore_40 : decode cX1_goesBefore 40 = .ok (.iload_n 1, 1) := by decide +kernel
theorem dX1_goesBefore_41 : decode cX1_goesBefore 41 = .ok (.iaload, 1) := by decide +kernel
theorem dX1_goesBefore_42 : decode cX1_goesBefore 42 = .ok (.aload_n 0, 1) := by decide +kernel
theorem dX1_goesBefore_43 : decode cX1_goesBefore 43 = .ok (.getfield 15, 3) := by decide +kernel
theorem dX1_goesBefore_46 : decode cX1_goesBefore 46 = .ok (.iload_n 2, 1) := by decide +kernel
theorem dX1_goesBefore_47 : decode cX1_goesBefore 47 = .ok (.iaload, 1) := by decide +kernel
theorem dX1_goesBefore_48 : decode cX1_goesBefore 48 = .ok (.if_icmp .ge 7, 3) := by decide +kernel
theorem dX1_goesBefore_51 : decode cX1_goesBefore 51 = .ok (.iconst 1, 1) := by decide +kernel
theorem dX1_goesBefore_52 : decode cX1_goesBefore 52 = .ok (.goto 4, 3) := by decide +kernel
theorem dX1_goesBefore_55 : decode cX1_goesBefore 55 = .ok (.iconst 0, 1) := by decide +kernel
theorem dX1_goesBefore_56 : decode cX1_goesBefore 56 = .ok (.ireturn, 1) := by decide +kernel
theorem dX2_init_0 : decode cX2_init 0 = .ok (.aload_n 0, 1) := by decide +kernel
theorem dX2_init_1 : decode cX2_init 1 = .ok (.invokespecial 3, 3) := by decide +kernel
theorem dX2_init_4 : decode cX2_init 4 = .ok (.aload_n 0, 1) := by decide +kernel
theorem dX2_init_5 : decode cX2_init 5 = .ok (.sipush 720, 3) := by decide +kernel
theorem dX2_init_8 : decode cX2_init 8 = .ok (.newarray .int, 2) := by decide +kernel
theorem dX2_init_10 : decode cX2_init 10 = .ok (.putfield 9, 3) := by decide +kernel
theorem dX2_init_13 : decode cX2_init 13 = .ok (.aload_n 0, 1) := by decide +kernel
theorem dX2_init_14 : decode cX2_init 14 = .ok (.sipush 720, 3) := by decide +kernel
theorem dX2_init_17 : decode cX2_init 17 = .ok (.newarray .int, 2) := by decide +kernel
theorem dX2_init_19 : decode cX2_init 19 = .ok (.putfield 15, 3) := by decide +kernel
theorem dX2_init_22 : decode cX2_init 22 = .ok (.aload_n 0, 1) := by decide +kernel
theorem dX2_init_23 : decode cX2_init 23 = .ok (.sipush 720, 3) := by decide +kernel
theorem dX2_init_26 : decode cX2_init 26 = .ok (.newarray .int, 2) := by decide +kernel
theorem dX2_init_28 : decode cX2_init 28 = .ok (.putfield 18, 3) := by decide +kernel
theorem dX2_init_31 : decode cX2_init 31 = .ok (.aload_n 0, 1) := by decide +kernel
theorem dX2_init_32 : decode cX2_init 32 = .ok (.iconst 0, 1) := by decide +kernel
theorem dX2_init_33 : decode cX2_init 33 = .ok (.putfield 21, 3) := by decide +kernel
theorem dX2_init_36 : decode cX2_init 36 = .ok (.aload_n 0, 1) := by decide +kernel
theorem dX2_init_37 : decode cX2_init 37 = .ok (.iconst 0, 1) := by decide +kernel
theorem dX2_init_38 : decode cX2_init 38 = .ok (.putfield 25, 3) := by decide +kernel
theorem dX2_init_41 : decode cX2_init 41 = .ok (.aload_n 0, 1) := by decide +kernel
theorem dX2_init_42 : decode cX2_init 42 = .ok (.iconst 0, 1) := by decide +kernel
theorem dX2_init_43 : decode cX2_init 43 = .ok (.putfield 28, 3) := by decide +kernel
theorem dX2_init_46 : decode cX2_init 46 = .ok (.return_, 1) := by decide +kernel
theorem dX2_put_0 : decode cX2_put 0 = .ok (.iload_n 0, 1) := by decide +kernel
theorem dX2_put_1 : decode cX2_put 1 = .ok (.bipush 7, 2) := by decide +kernel
theorem dX2_put_3 : decode cX2_put 3 = .ok (.iconst 3, 1) := by decide +kernel
theorem dX2_put_4 : decode cX2_put 4 = .ok (.iload_n 1, 1) := by decide +kernel
theorem dX2_put_5 : decode cX2_put 5 = .ok (.imul, 1) := by decide +kernel
theorem dX2_put_6 : decode cX2_put 6 = .ok (.ishl, 1) := by decide +kernel
theorem dX2_put_7 : decode cX2_put 7 = .ok (.iconst (-1), 1) := by decide +kernel
theorem dX2_put_8 : decode cX2_put 8 = .ok (.ixor, 1) := by decide +kernel
theorem dX2_put_9 : decode cX2_put 9 = .ok (.iand, 1) := by decide +kernel
theorem dX2_put_10 : decode cX2_put 10 = .ok (.iload_n 2, 1) := by decide +kernel
theorem dX2_put_11 : decode cX2_put 11 = .ok (.iconst 3, 1) := by decide +kernel
theorem dX2_put_12 : decode cX2_put 12 = .ok (.iload_n 1, 1) := by decide +kernel
theorem dX2_put_13 : decode cX2_put 13 = .ok (.imul, 1) := by decide +kernel
theorem dX2_put_14 : decode cX2_put 14 = .ok (.ishl, 1) := by decide +kernel
theorem dX2_put_15 : decode cX2_put 15 = .ok (.ior, 1) := by decide +kernel
theorem dX2_put_16 : decode cX2_put 16 = .ok (.ireturn, 1) := by decide +kernel
theorem dX2_berthAt_0 : decode cX2_berthAt 0 = .ok (.iload_n 0, 1) := by decide +kernel
theorem dX2_berthAt_1 : decode cX2_berthAt 1 = .ok (.iconst 3, 1) := by decide +kernel
theorem dX2_berthAt_2 : decode cX2_berthAt 2 = .ok (.iload_n 1, 1) := by decide +kernel
theorem dX2_berthAt_3 : decode cX2_berthAt 3 = .ok (.imul, 1) := by decide +kernel
theorem dX2_berthAt_4 : decode cX2_berthAt 4 = .ok (.ishr, 1) := by decide +kernel
theorem dX2_berthAt_5 : decode cX2_berthAt 5 = .ok (.bipush 7, 2) := by decide +kernel
theorem dX2_berthAt_7 : decode cX2_berthAt 7 = .ok (.iand, 1) := by decide +kernel
theorem dX2_berthAt_8 : decode cX2_berthAt 8 = .ok (.ireturn, 1) := by decide +kernel
theorem dX2_clear_0 : decode cX2_clear 0 = .ok (.aload_n 0, 1) := by decide +kernel
theorem dX2_clear_1 : decode cX2_clear 1 = .ok (.iload_n 1, 1) := by decide +kernel
theorem dX2_clear_2 : decode cX2_clear 2 = .ok (.putfield 25, 3) := by decide +kernel
theorem dX2_clear_5 : decode cX2_clear 5 = .ok (.aload_n 0, 1) := by decide +kernel
theorem dX2_clear_6 : decode cX2_clear 6 = .ok (.iload_n 2, 1) := by decide +kernel
theorem dX2_clear_7 : decode cX2_clear 7 = .ok (.putfield 28, 3) := by decide +kernel
theorem dX2_clear_10 : decode cX2_clear 10 = .ok (.aload_n 0, 1) := by decide +kernel
theorem dX2_clear_11 : decode cX2_clear 11 = .ok (.iconst 0, 1) := by decide +kernel
theorem dX2_clear_12 : decode cX2_clear 12 = .ok (.putfield 21, 3) := by decide +kernel
theorem dX2_clear_15 : decode cX2_clear 15 = .ok (.aload_n 0, 1) := by decide +kernel
theorem dX2_clear_16 : decode cX2_clear 16 = .ok (.getfield 15, 3) := by decide +kernel
theorem dX2_clear_19 : decode cX2_clear 19 = .ok (.ldc 31, 2) := by decide +kernel
theorem dX2_clear_21 : decode cX2_clear 21 = .ok (.invokestatic 32, 3) := by decide +kernel
theorem dX2_clear_24 : decode cX2_clear 24 = .ok (.return_, 1) := by decide +kernel
theorem dX2_occupiedAt_0 : decode cX2_occupiedAt 0 = .ok (.iconst 0, 1) := by decide +kernel
theorem dX2_occupiedAt_1 : decode cX2_occupiedAt 1 = .ok (.istore_n 2, 1) := by decide +kernel
theorem dX2_occupiedAt_2 : decode cX2_occupiedAt 2 = .ok (.iconst 0, 1) := by decide +kernel
theorem dX2_occupiedAt_3 : decode cX2_occupiedAt 3 = .ok (.istore_n 3, 1) := by decide +kernel
theorem dX2_occupiedAt_4 : decode cX2_occupiedAt 4 = .ok (.iload_n 3, 1) := by decide +kernel
theorem dX2_occupiedAt_5 : decode cX2_occupiedAt 5 = .ok (.bipush 8, 2) := by decide +kernel
theorem dX2_occupiedAt_7 : decode cX2_occupiedAt 7 = .ok (.if_icmp .ge 30, 3) := by decide +kernel
theorem dX2_occupiedAt_10 : decode cX2_occupiedAt 10 = .ok (.aload_n 0, 1) := by decide +kernel
theorem dX2_occupiedAt_11 : decode cX2_occupiedAt 11 = .ok (.getfield 25, 3) := by decide +kernel
theorem dX2_occupiedAt_14 : decode cX2_occupiedAt 14 = .ok (.iload_n 3, 1) := by decide +kernel
theorem dX2_occupiedAt_15 : decode cX2_occupiedAt 15 = .ok (.invokestatic 38, 3) := by decide +kernel
theorem dX2_occupiedAt_18 : decode cX2_occupiedAt 18 = .ok (.ifCond .eq 13, 3) := by decide +kernel
theorem dX2_occupiedAt_21 : decode cX2_occupiedAt 21 = .ok (.iload_n 2, 1) := by decide +kernel
theorem dX2_occupiedAt_22 : decode cX2_occupiedAt 22 = .ok (.iconst 1, 1) := by decide +kernel
theorem dX2_occupiedAt_23 : decode cX2_occupiedAt 23 = .ok (.iload_n 1, 1) := by decide +kernel
theorem dX2_occupiedAt_24 : decode cX2_occupiedAt 24 = .ok (.iload_n 3, 1) := by decide +kernel
theorem dX2_occupiedAt_25 : decode cX2_occupiedAt 25 = .ok (.invokestatic 42, 3) := by decide +kernel
theorem dX2_occupiedAt_28 : decode cX2_occupiedAt 28 = .ok (.ishl, 1) := by decide +kernel
theorem dX2_occupiedAt_29 : decode cX2_occupiedAt 29 = .ok (.ior, 1) := by decide +kernel
theorem dX2_occupiedAt_30 : decode cX2_occupiedAt 30 = .ok (.istore_n 2, 1) := by decide +kernel
theorem dX2_occupiedAt_31 : decode cX2_occupiedAt 31 = .ok (.iinc 3 1, 3) := by decide +kernel
theorem dX2_occupiedAt_34 : decode cX2_occupiedAt 34 = .ok (.goto (-30), 3) := by decide +kernel
theorem dX2_occupiedAt_37 : decode cX2_occupiedAt 37 = .ok (.iload_n 2, 1) := by decide +kernel
theorem dX2_occupiedAt_38 : decode cX2_occupiedAt 38 = .ok (.ireturn, 1) := by decide +kernel
theorem dX2_numberOf_0 : decode cX2_numberOf 0 = .ok (.iconst 0, 1) := by decide +kernel
theorem dX2_numberOf_1 : decode cX2_numberOf 1 = .ok (.istore_n 2, 1) := by decide +kernel
theorem dX2_numberOf_2 : decode cX2_numberOf 2 = .ok (.iconst 0, 1) := by decide +kernel
theorem dX2_numberOf_3 : decode cX2_numberOf 3 = .ok (.istore_n 3, 1) := by decide +kernel
theorem dX2_numberOf_4 : decode cX2_numberOf 4 = .ok (.aload_n 0, 1) := by decide +kernel
theorem dX2_numberOf_5 : decode cX2_numberOf 5 = .ok (.getfield 28, 3) := by decide +kernel
theorem dX2_numberOf_8 : decode cX2_numberOf 8 = .ok (.istore 4, 2) := by decide +kernel
theorem dX2_numberOf_10 : decode cX2_numberOf 10 = .ok (.iconst 0, 1) := by decide +kernel
theorem dX2_numberOf_11 : decode cX2_numberOf 11 = .ok (.istore 5, 2) := by decide +kernel
theorem dX2_numberOf_13 : decode cX2_numberOf 13 = .ok (.iload 5, 2) := by decide +kernel
theorem dX2_numberOf_15 : decode cX2_numberOf 15 = .ok (.bipush 8, 2) := by decide +kernel
theorem dX2_numberOf_17 : decode cX2_numberOf 17 = .ok (.if_icmp .ge 63, 3) := by decide +kernel
theorem dX2_numberOf_20 : decode cX2_numberOf 20 = .ok (.aload_n 0, 1) := by decide +kernel
theorem dX2_numberOf_21 : decode cX2_numberOf 21 = .ok (.getfield 25, 3) := by decide +kernel
theorem dX2_numberOf_24 : decode cX2_numberOf 24 = .ok (.iload 5, 2) := by decide +kernel
theorem dX2_numberOf_26 : decode cX2_numberOf 26 = .ok (.invokestatic 38, 3) := by decide +kernel
theorem dX2_numberOf_29 : decode cX2_numberOf 29 = .ok (.ifCond .eq 45, 3) := by decide +kernel
theorem dX2_numberOf_32 : decode cX2_numberOf 32 = .ok (.iload_n 1, 1) := by decide +kernel
theorem dX2_numberOf_33 : decode cX2_numberOf 33 = .ok (.iload 5, 2) := by decide +kernel
theorem dX2_numberOf_35 : decode cX2_numberOf 35 = .ok (.invokestatic 42, 3) := by decide +kernel
theorem dX2_numberOf_38 : decode cX2_numberOf 38 = .ok (.istore 6, 2) := by decide +kernel
theorem dX2_numberOf_40 : decode cX2_numberOf 40 = .ok (.iload_n 3, 1) := by decide +kernel
theorem dX2_numberOf_41 : decode cX2_numberOf 41 = .ok (.iconst 1, 1) := by decide +kernel
theorem dX2_numberOf_42 : decode cX2_numberOf 42 = .ok (.iload 6, 2) := by decide +kernel
theorem dX2_numberOf_44 : decode cX2_numberOf 44 = .ok (.ishl, 1) := by decide +kernel
theorem dX2_numberOf_45 : decode cX2_numberOf 45 = .ok (.iconst 1, 1) := by decide +kernel
theorem dX2_numberOf_46 : decode cX2_numberOf 46 = .ok (.isub, 1) := by decide +kernel
theorem dX2_numberOf_47 : decode cX2_numberOf 47 = .ok (.iand, 1) := by decide +kernel
theorem dX2_numberOf_48 : decode cX2_numberOf 48 = .ok (.invokestatic 46, 3) := by decide +kernel
theorem dX2_numberOf_51 : decode cX2_numberOf 51 = .ok (.istore 7, 2) := by decide +kernel
theorem dX2_numberOf_53 : decode cX2_numberOf 53 = .ok (.iload_n 2, 1) := by decide +kernel
theorem dX2_numberOf_54 : decode cX2_numberOf 54 = .ok (.iload 4, 2) := by decide +kernel
theorem dX2_numberOf_56 : decode cX2_numberOf 56 = .ok (.imul, 1) := by decide +kernel
theorem dX2_numberOf_57 : decode cX2_numberOf 57 = .ok (.iload 6, 2) := by decide +kernel
theorem dX2_numberOf_59 : decode cX2_numberOf 59 = .ok (.iadd, 1) := by decide +kernel
theorem dX2_numberOf_60 : decode cX2_numberOf 60 = .ok (.iload 7, 2) := by decide +kernel
theorem dX2_numberOf_62 : decode cX2_numberOf 62 = .ok (.isub, 1) := by decide +kernel
theorem dX2_numberOf_63 : decode cX2_numberOf 63 = .ok (.istore_n 2, 1) := by decide +kernel
theorem dX2_numberOf_64 : decode cX2_numberOf 64 = .ok (.iload_n 3, 1) := by decide +kernel
theorem dX2_numberOf_65 : decode cX2_numberOf 65 = .ok (.iconst 1, 1) := by decide +kernel
theorem dX2_numberOf_66 : decode cX2_numberOf 66 = .ok (.iload 6, 2) := by decide +kernel
theorem dX2_numberOf_68 : decode cX2_numberOf 68 = .ok (.ishl, 1) := by decide +kernel
theorem dX2_numberOf_69 : decode cX2_numberOf 69 = .ok (.ior, 1) := by decide +kernel
theorem dX2_numberOf_70 : decode cX2_numberOf 70 = .ok (.istore_n 3, 1) := by decide +kernel
theorem dX2_numberOf_71 : decode cX2_numberOf 71 = .ok (.iinc 4 (-1), 3) := by decide +kernel
theorem dX2_numberOf_74 : decode cX2_numberOf 74 = .ok (.iinc 5 1, 3) := by decide +kernel
theorem dX2_numberOf_77 : decode cX2_numberOf 77 = .ok (.goto (-64), 3) := by decide +kernel
theorem dX2_numberOf_80 : decode cX2_numberOf 80 = .ok (.iload_n 2, 1) := by decide +kernel
theorem dX2_numberOf_81 : decode cX2_numberOf 81 = .ok (.ireturn, 1) := by decide +kernel
theorem dX2_reach_0 : decode cX2_reach 0 = .ok (.aload_n 0, 1) := by decide +kernel
theorem dX2_reach_1 : decode cX2_reach 1 = .ok (.iload_n 1, 1) := by decide +kernel
theorem dX2_reach_2 : decode cX2_reach 2 = .ok (.invokevirtual 52, 3) := by decide +kernel
theorem dX2_reach_5 : decode cX2_reach 5 = .ok (.istore_n 3, 1) := by decide +kernel
theorem dX2_reach_6 : decode cX2_reach 6 = .ok (.iload_n 3, 1) := by decide +kernel
theorem dX2_reach_7 : decode cX2_reach 7 = .ok (.ifCond .lt 20, 3) := by decide +kernel
theorem dX2_reach_10 : decode cX2_reach 10 = .ok (.iload_n 3, 1) := by decide +kernel
theorem dX2_reach_11 : decode cX2_reach 11 = .ok (.sipush 720, 3) := by decide +kernel
theorem dX2_reach_14 : decode cX2_reach 14 = .ok (.if_icmp .ge 13, 3) := by decide +kernel
theorem dX2_reach_17 : decode cX2_reach 17 = .ok (.iload_n 2, 1) := by decide +kernel
theorem dX2_reach_18 : decode cX2_reach 18 = .ok (.aload_n 0, 1) := by decide +kernel
theorem dX2_reach_19 : decode cX2_reach 19 = .ok (.getfield 15, 3) := by decide +kernel
theorem dX2_reach_22 : decode cX2_reach 22 = .ok (.iload_n 3, 1) := by decide +kernel
theorem dX2_reach_23 : decode cX2_reach 23 = .ok (.iaload, 1) := by decide +kernel
theorem dX2_reach_24 : decode cX2_reach 24 = .ok (.if_icmp .lt 5, 3) := by decide +kernel
theorem dX2_reach_27 : decode cX2_reach 27 = .ok (.iconst 0, 1) := by decide +kernel
theorem dX2_reach_28 : decode cX2_reach 28 = .ok (.ireturn, 1) := by decide +kernel
theorem dX2_reach_29 : decode cX2_reach 29 = .ok (.aload_n 0, 1) := by decide +kernel
theorem dX2_reach_30 : decode cX2_reach 30 = .ok (.getfield 15, 3) := by decide +kernel
theorem dX2_reach_33 : decode cX2_reach 33 = .ok (.iload_n 3, 1) := by decide +kernel
theorem dX2_reach_34 : decode cX2_reach 34 = .ok (.iaload, 1) := by decide +kernel
theorem dX2_reach_35 : decode cX2_reach 35 = .ok (.ldc 31, 2) := by decide +kernel
theorem dX2_reach_37 : decode cX2_reach 37 = .ok (.if_icmp .ne 40, 3) := by decide +kernel
theorem dX2_reach_40 : decode cX2_reach 40 = .ok (.aload_n 0, 1) := by decide +kernel
theorem dX2_reach_41 : decode cX2_reach 41 = .ok (.getfield 21, 3) := by decide +kernel
theorem dX2_reach_44 : decode cX2_reach 44 = .ok (.sipush 720, 3) := by decide +kernel
theorem dX2_reach_47 : decode cX2_reach 47 = .ok (.if_icmp .ge 30, 3) := by decide +kernel
theorem dX2_reach_50 : decode cX2_reach 50 = .ok (.aload_n 0, 1) := by decide +kernel
theorem dX2_reach_51 : decode cX2_reach 51 = .ok (.getfield 18, 3) := by decide +kernel
theorem dX2_reach_54 : decode cX2_reach 54 = .ok (.aload_n 0, 1) := by decide +kernel
theorem dX2_reach_55 : decode cX2_reach 55 = .ok (.getfield 21, 3) := by decide +kernel
theorem dX2_reach_58 : decode cX2_reach 58 = .ok (.iload_n 3, 1) := by decide +kernel
theorem dX2_reach_59 : decode cX2_reach 59 = .ok (.iastore, 1) := by decide +kernel
theorem dX2_reach_60 : decode cX2_reach 60 = .ok (.aload_n 0, 1) := by decide +kernel
theorem dX2_reach_61 : decode cX2_reach 61 = .ok (.dup, 1) := by decide +kernel
theorem dX2_reach_62 : decode cX2_reach 62 = .ok (.getfield 21, 3) := by decide +kernel
theorem dX2_reach_65 : decode cX2_reach 65 = .ok (.iconst 1, 1) := by decide +kernel
theorem dX2_reach_66 : decode cX2_reach 66 = .ok (.iadd, 1) := by decide +kernel
theorem dX2_reach_67 : decode cX2_reach 67 = .ok (.putfield 21, 3) := by decide +kernel
theorem dX2_reach_70 : decode cX2_reach 70 = .ok (.aload_n 0, 1) := by decide +kernel
theorem dX2_reach_71 : decode cX2_reach 71 = .ok (.getfield 9, 3) := by decide +kernel
theorem dX2_reach_74 : decode cX2_reach 74 = .ok (.iload_n 3, 1) := by decide +kernel
theorem dX2_reach_75 : decode cX2_reach 75 = .ok (.iload_n 1, 1) := by decide +kernel
theorem dX2_reach_76 : decode cX2_reach 76 = .ok (.iastore, 1) := by decide +kernel
theorem dX2_reach_77 : decode cX2_reach 77 = .ok (.aload_n 0, 1) := by decide +kernel
theorem dX2_reach_78 : decode cX2_reach 78 = .ok (.getfield 15, 3) := by decide +kernel
theorem dX2_reach_81 : decode cX2_reach 81 = .ok (.iload_n 3, 1) := by decide +kernel
theorem dX2_reach_82 : decode cX2_reach 82 = .ok (.iload_n 2, 1) := by decide +kernel
theorem dX2_reach_83 : decode cX2_reach 83 = .ok (.iastore, 1) := by decide +kernel
theorem dX2_reach_84 : decode cX2_reach 84 = .ok (.iconst 1, 1) := by decide +kernel
theorem dX2_reach_85 : decode cX2_reach 85 = .ok (.ireturn, 1) := by decide +kernel
theorem dX2_takeLeast_0 : decode cX2_takeLeast 0 = .ok (.iconst 0, 1) := by decide +kernel
theorem dX2_takeLeast_1 : decode cX2_takeLeast 1 = .ok (.istore_n 1, 1) := by decide +kernel
theorem dX2_takeLeast_2 : decode cX2_takeLeast 2 = .ok (.iconst 1, 1) := by decide +kernel
theorem dX2_takeLeast_3 : decode cX2_takeLeast 3 = .ok (.istore_n 2, 1) := by decide +kernel
theorem dX2_takeLeast_4 : decode cX2_takeLeast 4 = .ok (.iload_n 2, 1) := by decide +kernel
theorem dX2_takeLeast_5 : decode cX2_takeLeast 5 = .ok (.aload_n 0, 1) := by decide +kernel
theorem dX2_takeLeast_6 : decode cX2_takeLeast 6 = .ok (.getfield 21, 3) := by decide +kernel
theorem dX2_takeLeast_9 : decode cX2_takeLeast 9 = .ok (.if_icmp .ge 36, 3) := by decide +kernel
theorem dX2_takeLeast_12 : decode cX2_takeLeast 12 = .ok (.aload_n 0, 1) := by decide +kernel
theorem dX2_takeLeast_13 : decode cX2_takeLeast 13 = .ok (.getfield 15, 3) := by decide +kernel
theorem dX2_takeLeast_16 : decode cX2_takeLeast 16 = .ok (.aload_n 0, 1) := by decide +kernel
theorem dX2_takeLeast_17 : decode cX2_takeLeast 17 = .ok (.getfield 18, 3) := by decide +kernel
theorem dX2_takeLeast_20 : decode cX2_takeLeast 20 = .ok (.iload_n 2, 1) := by decide +kernel
theorem dX2_takeLeast_21 : decode cX2_takeLeast 21 = .ok (.iaload, 1) := by decide +kernel
theorem dX2_takeLeast_22 : decode cX2_takeLeast 22 = .ok (.iaload, 1) := by decide +kernel
theorem dX2_takeLeast_23 : decode cX2_takeLeast 23 = .ok (.aload_n 0, 1) := by decide +kernel
theorem dX2_takeLeast_24 : decode cX2_takeLeast 24 = .ok (.getfield 15, 3) := by decide +kernel
theorem dX2_takeLeast_27 : decode cX2_takeLeast 27 = .ok (.aload_n 0, 1) := by decide +kernel
theorem dX2_takeLeast_28 : decode cX2_takeLeast 28 = .ok (.getfield 18, 3) := by decide +kernel
theorem dX2_takeLeast_31 : decode cX2_takeLeast 31 = .ok (.iload_n 1, 1) := by decide +kernel
theorem dX2_takeLeast_32 : decode cX2_takeLeast 32 = .ok (.iaload, 1) := by decide +kernel
theorem dX2_takeLeast_33 : decode cX2_takeLeast 33 = .ok (.iaload, 1) := by decide +kernel
theorem dX2_takeLeast_34 : decode cX2_takeLeast 34 = .ok (.if_icmp .ge 5, 3) := by decide +kernel
theorem dX2_takeLeast_37 : decode cX2_takeLeast 37 = .ok (.iload_n 2, 1) := by decide +kernel
theorem dX2_takeLeast_38 : decode cX2_takeLeast 38 = .ok (.istore_n 1, 1) := by decide +kernel
theorem dX2_takeLeast_39 : decode cX2_takeLeast 39 = .ok (.iinc 2 1, 3) := by decide +kernel
theorem dX2_takeLeast_42 : decode cX2_takeLeast 42 = .ok (.goto (-38), 3) := by decide +kernel
theorem dX2_takeLeast_45 : decode cX2_takeLeast 45 = .ok (.aload_n 0, 1) := by decide +kernel
theorem dX2_takeLeast_46 : decode cX2_takeLeast 46 = .ok (.getfield 18, 3) := by decide +kernel
theorem dX2_takeLeast_49 : decode cX2_takeLeast 49 = .ok (.iload_n 1, 1) := by decide +kernel
theorem dX2_takeLeast_50 : decode cX2_takeLeast 50 = .ok (.iaload, 1) := by decide +kernel
theorem dX2_takeLeast_51 : decode cX2_takeLeast 51 = .ok (.istore_n 2, 1) := by decide +kernel
theorem dX2_takeLeast_52 : decode cX2_takeLeast 52 = .ok (.aload_n 0, 1) := by decide +kernel
theorem dX2_takeLeast_53 : decode cX2_takeLeast 53 = .ok (.getfield 21, 3) := by decide +kernel
theorem dX2_takeLeast_56 : decode cX2_takeLeast 56 = .ok (.ifCond .le 28, 3) := by decide +kernel
theorem dX2_takeLeast_59 : decode cX2_takeLeast 59 = .ok (.aload_n 0, 1) := by decide +kernel
theorem dX2_takeLeast_60 : decode cX2_takeLeast 60 = .ok (.dup, 1) := by decide +kernel
theorem dX2_takeLeast_61 : decode cX2_takeLeast 61 = .ok (.getfield 21, 3) := by decide +kernel
theorem dX2_takeLeast_64 : decode cX2_takeLeast 64 = .ok (.iconst 1, 1) := by decide +kernel
theorem dX2_takeLeast_65 : decode cX2_takeLeast 65 = .ok (.isub, 1) := by decide +kernel
theorem dX2_takeLeast_66 : decode cX2_takeLeast 66 = .ok (.putfield 21, 3) := by decide +kernel
theorem dX2_takeLeast_69 : decode cX2_takeLeast 69 = .ok (.aload_n 0, 1) := by decide +kernel
theorem dX2_takeLeast_70 : decode cX2_takeLeast 70 = .ok (.getfield 18, 3) := by decide +kernel
theorem dX2_takeLeast_73 : decode cX2_takeLeast 73 = .ok (.iload_n 1, 1) := by decide +kernel
theorem dX2_takeLeast_74 : decode cX2_takeLeast 74 = .ok (.aload_n 0, 1) := by decide +kernel
theorem dX2_takeLeast_75 : decode cX2_takeLeast 75 = .ok (.getfield 18, 3) := by decide +kernel
theorem dX2_takeLeast_78 : decode cX2_takeLeast 78 = .ok (.aload_n 0, 1) := by decide +kernel
theorem dX2_takeLeast_79 : decode cX2_takeLeast 79 = .ok (.getfield 21, 3) := by decide +kernel
theorem dX2_takeLeast_82 : decode cX2_takeLeast 82 = .ok (.iaload, 1) := by decide +kernel
theorem dX2_takeLeast_83 : decode cX2_takeLeast 83 = .ok (.iastore, 1) := by decide +kernel
theorem dX2_takeLeast_84 : decode cX2_takeLeast 84 = .ok (.iload_n 2, 1) := by decide +kernel
theorem dX2_takeLeast_85 : decode cX2_takeLeast 85 = .ok (.ireturn, 1) := by decide +kernel
theorem dX3_init_0 : decode cX3_init 0 = .ok (.aload_n 0, 1) := by decide +kernel
theorem dX3_init_1 : decode cX3_init 1 = .ok (.invokespecial 1, 3) := by decide +kernel
theorem dX3_init_4 : decode cX3_init 4 = .ok (.aload_n 0, 1) := by decide +kernel
theorem dX3_init_5 : decode cX3_init 5 = .ok (.sipush 200, 3) := by decide +kernel
theorem dX3_init_8 : decode cX3_init 8 = .ok (.putfield 7, 3) := by decide +kernel
theorem dX3_init_11 : decode cX3_init 11 = .ok (.aload_n 0, 1) := by decide +kernel
theorem dX3_init_12 : decode cX3_init 12 = .ok (.bipush 40, 2) := by decide +kernel
theorem dX3_init_14 : decode cX3_init 14 = .ok (.putfield 13, 3) := by decide +kernel
theorem dX3_init_17 : decode cX3_init 17 = .ok (.aload_n 0, 1) := by decide +kernel
theorem dX3_init_18 : decode cX3_init 18 = .ok (.bipush 10, 2) := by decide +kernel
theorem dX3_init_20 : decode cX3_init 20 = .ok (.putfield 16, 3) := by decide +kernel
theorem dX3_init_23 : decode cX3_init 23 = .ok (.return_, 1) := by decide +kernel
theorem dX3_levelAt_0 : decode cX3_levelAt 0 = .ok (.aload_n 0, 1) := by decide +kernel
theorem dX3_levelAt_1 : decode cX3_levelAt 1 = .ok (.getfield 7, 3) := by decide +kernel
theorem dX3_levelAt_4 : decode cX3_levelAt 4 = .ok (.aload_n 0, 1) := by decide +kernel
theorem dX3_levelAt_5 : decode cX3_levelAt 5 = .ok (.getfield 13, 3) := by decide +kernel
theorem dX3_levelAt_8 : decode cX3_levelAt 8 = .ok (.iconst 3, 1) := by decide +kernel
theorem dX3_levelAt_9 : decode cX3_levelAt 9 = .ok (.bipush 6, 2) := by decide +kernel
theorem dX3_levelAt_11 : decode cX3_levelAt 11 = .ok (.iload_n 1, 1) := by decide +kernel
theorem dX3_levelAt_12 : decode cX3_levelAt 12 = .ok (.bipush 12, 2) := by decide +kernel
theorem dX3_levelAt_14 : decode cX3_levelAt 14 = .ok (.irem, 1) := by decide +kernel
theorem dX3_levelAt_15 : decode cX3_levelAt 15 = .ok (.isub, 1) := by decide +kernel
theorem dX3_levelAt_16 : decode cX3_levelAt 16 = .ok (.invokestatic 19, 3) := by decide +kernel
theorem dX3_levelAt_19 : decode cX3_levelAt 19 = .ok (.isub, 1) := by decide +kernel
theorem dX3_levelAt_20 : decode cX3_levelAt 20 = .ok (.imul, 1) := by decide +kernel
theorem dX3_levelAt_21 : decode cX3_levelAt 21 = .ok (.iadd, 1) := by decide +kernel
theorem dX3_levelAt_22 : decode cX3_levelAt 22 = .ok (.aload_n 0, 1) := by decide +kernel
theorem dX3_levelAt_23 : decode cX3_levelAt 23 = .ok (.getfield 16, 3) := by decide +kernel
theorem dX3_levelAt_26 : decode cX3_levelAt 26 = .ok (.bipush 6, 2) := by decide +kernel
theorem dX3_levelAt_28 : decode cX3_levelAt 28 = .ok (.bipush 12, 2) := by decide +kernel
theorem dX3_levelAt_30 : decode cX3_levelAt 30 = .ok (.iload_n 1, 1) := by decide +kernel
theorem dX3_levelAt_31 : decode cX3_levelAt 31 = .ok (.bipush 25, 2) := by decide +kernel
theorem dX3_levelAt_33 : decode cX3_levelAt 33 = .ok (.irem, 1) := by decide +kernel
theorem dX3_levelAt_34 : decode cX3_levelAt 34 = .ok (.isub, 1) := by decide +kernel
theorem dX3_levelAt_35 : decode cX3_levelAt 35 = .ok (.invokestatic 19, 3) := by decide +kernel
theorem dX3_levelAt_38 : decode cX3_levelAt 38 = .ok (.isub, 1) := by decide +kernel
theorem dX3_levelAt_39 : decode cX3_levelAt 39 = .ok (.imul, 1) := by decide +kernel
theorem dX3_levelAt_40 : decode cX3_levelAt 40 = .ok (.iadd, 1) := by decide +kernel
theorem dX3_levelAt_41 : decode cX3_levelAt 41 = .ok (.ireturn, 1) := by decide +kernel
theorem dX4_init_0 : decode cX4_init 0 = .ok (.aload_n 0, 1) := by decide +kernel
theorem dX4_init_1 : decode cX4_init 1 = .ok (.invokespecial 3, 3) := by decide +kernel
theorem dX4_init_4 : decode cX4_init 4 = .ok (.aload_n 0, 1) := by decide +kernel
theorem dX4_init_5 : decode cX4_init 5 = .ok (.bipush 6, 2) := by decide +kernel
theorem dX4_init_7 : decode cX4_init 7 = .ok (.newarray .int, 2) := by decide +kernel
theorem dX4_init_9 : decode cX4_init 9 = .ok (.putfield 9, 3) := by decide +kernel
theorem dX4_init_12 : decode cX4_init 12 = .ok (.aload_n 0, 1) := by decide +kernel
theorem dX4_init_13 : decode cX4_init 13 = .ok (.bipush 6, 2) := by decide +kernel
theorem dX4_init_15 : decode cX4_init 15 = .ok (.newarray .int, 2) := by decide +kernel
theorem dX4_init_17 : decode cX4_init 17 = .ok (.putfield 15, 3) := by decide +kernel
theorem dX4_init_20 : decode cX4_init 20 = .ok (.aload_n 0, 1) := by decide +kernel
theorem dX4_init_21 : decode cX4_init 21 = .ok (.iconst 0, 1) := by decide +kernel
theorem dX4_init_22 : decode cX4_init 22 = .ok (.putfield 18, 3) := by decide +kernel
theorem dX4_init_25 : decode cX4_init 25 = .ok (.return_, 1) := by decide +kernel
theorem dX4_append_0 : decode cX4_append 0 = .ok (.aload_n 0, 1) := by decide +kernel
theorem dX4_append_1 : decode cX4_append 1 = .ok (.getfield 18, 3) := by decide +kernel
theorem dX4_append_4 : decode cX4_append 4 = .ok (.bipush 6, 2) := by decide +kernel
theorem dX4_append_6 : decode cX4_append 6 = .ok (.if_icmp .ge 33, 3) := by decide +kernel
theorem dX4_append_9 : decode cX4_append 9 = .ok (.aload_n 0, 1) := by decide +kernel
theorem dX4_append_10 : decode cX4_append 10 = .ok (.getfield 9, 3) := by decide +kernel
theorem dX4_append_13 : decode cX4_append 13 = .ok (.aload_n 0, 1) := by decide +kernel
theorem dX4_append_14 : decode cX4_append 14 = .ok (.getfield 18, 3) := by decide +kernel
theorem dX4_append_17 : decode cX4_append 17 = .ok (.iload_n 1, 1) := by decide +kernel
theorem dX4_append_18 : decode cX4_append 18 = .ok (.iastore, 1) := by decide +kernel
theorem dX4_append_19 : decode cX4_append 19 = .ok (.aload_n 0, 1) := by decide +kernel
theorem dX4_append_20 : decode cX4_append 20 = .ok (.getfield 15, 3) := by decide +kernel
theorem dX4_append_23 : decode cX4_append 23 = .ok (.aload_n 0, 1) := by decide +kernel
theorem dX4_append_24 : decode cX4_append 24 = .ok (.getfield 18, 3) := by decide +kernel
theorem dX4_append_27 : decode cX4_append 27 = .ok (.iload_n 2, 1) := by decide +kernel
theorem dX4_append_28 : decode cX4_append 28 = .ok (.iastore, 1) := by decide +kernel
theorem dX4_append_29 : decode cX4_append 29 = .ok (.aload_n 0, 1) := by decide +kernel
theorem dX4_append_30 : decode cX4_append 30 = .ok (.dup, 1) := by decide +kernel
theorem dX4_append_31 : decode cX4_append 31 = .ok (.getfield 18, 3) := by decide +kernel
theorem dX4_append_34 : decode cX4_append 34 = .ok (.iconst 1, 1) := by decide +kernel
theorem dX4_append_35 : decode cX4_append 35 = .ok (.iadd, 1) := by decide +kernel
theorem dX4_append_36 : decode cX4_append 36 = .ok (.putfield 18, 3) := by decide +kernel
theorem dX4_append_39 : decode cX4_append 39 = .ok (.aload_n 0, 1) := by decide +kernel
theorem dX4_append_40 : decode cX4_append 40 = .ok (.getfield 18, 3) := by decide +kernel
theorem dX4_append_43 : decode cX4_append 43 = .ok (.ireturn, 1) := by decide +kernel
theorem dX4_keepFrom_0 : decode cX4_keepFrom 0 = .ok (.iconst 0, 1) := by decide +kernel
theorem dX4_keepFrom_1 : decode cX4_keepFrom 1 = .ok (.istore_n 2, 1) := by decide +kernel
theorem dX4_keepFrom_2 : decode cX4_keepFrom 2 = .ok (.iconst 0, 1) := by decide +kernel
theorem dX4_keepFrom_3 : decode cX4_keepFrom 3 = .ok (.istore_n 3, 1) := by decide +kernel
theorem dX4_keepFrom_4 : decode cX4_keepFrom 4 = .ok (.iload_n 3, 1) := by decide +kernel
theorem dX4_keepFrom_5 : decode cX4_keepFrom 5 = .ok (.aload_n 0, 1) := by decide +kernel
theorem dX4_keepFrom_6 : decode cX4_keepFrom 6 = .ok (.getfield 18, 3) := by decide +kernel
theorem dX4_keepFrom_9 : decode cX4_keepFrom 9 = .ok (.if_icmp .ge 46, 3) := by decide +kernel
theorem dX4_keepFrom_12 : decode cX4_keepFrom 12 = .ok (.aload_n 0, 1) := by decide +kernel
theorem dX4_keepFrom_13 : decode cX4_keepFrom 13 = .ok (.getfield 15, 3) := by decide +kernel
theorem dX4_keepFrom_16 : decode cX4_keepFrom 16 = .ok (.iload_n 3, 1) := by decide +kernel
theorem dX4_keepFrom_17 : decode cX4_keepFrom 17 = .ok (.iaload, 1) := by decide +kernel
theorem dX4_keepFrom_18 : decode cX4_keepFrom 18 = .ok (.iload_n 1, 1) := by decide +kernel
theorem dX4_keepFrom_19 : decode cX4_keepFrom 19 = .ok (.if_icmp .le 30, 3) := by decide +kernel
theorem dX4_keepFrom_22 : decode cX4_keepFrom 22 = .ok (.aload_n 0, 1) := by decide +kernel
theorem dX4_keepFrom_23 : decode cX4_keepFrom 23 = .ok (.getfield 9, 3) := by decide +kernel
theorem dX4_keepFrom_26 : decode cX4_keepFrom 26 = .ok (.iload_n 2, 1) := by decide +kernel
theorem dX4_keepFrom_27 : decode cX4_keepFrom 27 = .ok (.aload_n 0, 1) := by decide +kernel
theorem dX4_keepFrom_28 : decode cX4_keepFrom 28 = .ok (.getfield 9, 3) := by decide +kernel
theorem dX4_keepFrom_31 : decode cX4_keepFrom 31 = .ok (.iload_n 3, 1) := by decide +kernel
theorem dX4_keepFrom_32 : decode cX4_keepFrom 32 = .ok (.iaload, 1) := by decide +kernel
theorem dX4_keepFrom_33 : decode cX4_keepFrom 33 = .ok (.iastore, 1) := by decide +kernel
theorem dX4_keepFrom_34 : decode cX4_keepFrom 34 = .ok (.aload_n 0, 1) := by decide +kernel
theorem dX4_keepFrom_35 : decode cX4_keepFrom 35 = .ok (.getfield 15, 3) := by decide +kernel
theorem dX4_keepFrom_38 : decode cX4_keepFrom 38 = .ok (.iload_n 2, 1) := by decide +kernel
theorem dX4_keepFrom_39 : decode cX4_keepFrom 39 = .ok (.aload_n 0, 1) := by decide +kernel
theorem dX4_keepFrom_40 : decode cX4_keepFrom 40 = .ok (.getfield 15, 3) := by decide +kernel
theorem dX4_keepFrom_43 : decode cX4_keepFrom 43 = .ok (.iload_n 3, 1) := by decide +kernel
theorem dX4_keepFrom_44 : decode cX4_keepFrom 44 = .ok (.iaload, 1) := by decide +kernel
theorem dX4_keepFrom_45 : decode cX4_keepFrom 45 = .ok (.iastore, 1) := by decide +kernel
theorem dX4_keepFrom_46 : decode cX4_keepFrom 46 = .ok (.iinc 2 1, 3) := by decide +kernel
theorem dX4_keepFrom_49 : decode cX4_keepFrom 49 = .ok (.iinc 3 1, 3) := by decide +kernel
theorem dX4_keepFrom_52 : decode cX4_keepFrom 52 = .ok (.goto (-48), 3) := by decide +kernel
theorem dX4_keepFrom_55 : decode cX4_keepFrom 55 = .ok (.aload_n 0, 1) := by decide +kernel
theorem dX4_keepFrom_56 : decode cX4_keepFrom 56 = .ok (.iload_n 2, 1) := by decide +kernel
theorem dX4_keepFrom_57 : decode cX4_keepFrom 57 = .ok (.putfield 18, 3) := by decide +kernel
theorem dX4_keepFrom_60 : decode cX4_keepFrom 60 = .ok (.aload_n 0, 1) := by decide +kernel
theorem dX4_keepFrom_61 : decode cX4_keepFrom 61 = .ok (.getfield 18, 3) := by decide +kernel
theorem dX4_keepFrom_64 : decode cX4_keepFrom 64 = .ok (.ireturn, 1) := by decide +kernel
theorem dX4_badAt_0 : decode cX4_badAt 0 = .ok (.iconst 0, 1) := by decide +kernel
theorem dX4_badAt_1 : decode cX4_badAt 1 = .ok (.istore_n 2, 1) := by decide +kernel
theorem dX4_badAt_2 : decode cX4_badAt 2 = .ok (.iload_n 2, 1) := by decide +kernel
theorem dX4_badAt_3 : decode cX4_badAt 3 = .ok (.aload_n 0, 1) := by decide +kernel
theorem dX4_badAt_4 : decode cX4_badAt 4 = .ok (.getfield 18, 3) := by decide +kernel
theorem dX4_badAt_7 : decode cX4_badAt 7 = .ok (.if_icmp .ge 31, 3) := by decide +kernel
theorem dX4_badAt_10 : decode cX4_badAt 10 = .ok (.aload_n 0, 1) := by decide +kernel
theorem dX4_badAt_11 : decode cX4_badAt 11 = .ok (.getfield 9, 3) := by decide +kernel
theorem dX4_badAt_14 : decode cX4_badAt 14 = .ok (.iload_n 2, 1) := by decide +kernel
theorem dX4_badAt_15 : decode cX4_badAt 15 = .ok (.iaload, 1) := by decide +kernel
theorem dX4_badAt_16 : decode cX4_badAt 16 = .ok (.iload_n 1, 1) := by decide +kernel
theorem dX4_badAt_17 : decode cX4_badAt 17 = .ok (.if_icmp .gt 15, 3) := by decide +kernel
theorem dX4_badAt_20 : decode cX4_badAt 20 = .ok (.iload_n 1, 1) := by decide +kernel
theorem dX4_badAt_21 : decode cX4_badAt 21 = .ok (.aload_n 0, 1) := by decide +kernel
theorem dX4_badAt_22 : decode cX4_badAt 22 = .ok (.getfield 15, 3) := by decide +kernel
theorem dX4_badAt_25 : decode cX4_badAt 25 = .ok (.iload_n 2, 1) := by decide +kernel
theorem dX4_badAt_26 : decode cX4_badAt 26 = .ok (.iaload, 1) := by decide +kernel
theorem dX4_badAt_27 : decode cX4_badAt 27 = .ok (.if_icmp .ge 5, 3) := by decide +kernel
theorem dX4_badAt_30 : decode cX4_badAt 30 = .ok (.iconst 1, 1) := by decide +kernel
theorem dX4_badAt_31 : decode cX4_badAt 31 = .ok (.ireturn, 1) := by decide +kernel
theorem dX4_badAt_32 : decode cX4_badAt 32 = .ok (.iinc 2 1, 3) := by decide +kernel
theorem dX4_badAt_35 : decode cX4_badAt 35 = .ok (.goto (-33), 3) := by decide +kernel
theorem dX4_badAt_38 : decode cX4_badAt 38 = .ok (.iconst 0, 1) := by decide +kernel
theorem dX4_badAt_39 : decode cX4_badAt 39 = .ok (.ireturn, 1) := by decide +kernel
theorem dX4_dryBySpans_0 : decode cX4_dryBySpans 0 = .ok (.iload_n 1, 1) := by decide +kernel
theorem dX4_dryBySpans_1 : decode cX4_dryBySpans 1 = .ok (.istore_n 3, 1) := by decide +kernel
theorem dX4_dryBySpans_2 : decode cX4_dryBySpans 2 = .ok (.iload_n 2, 1) := by decide +kernel
theorem dX4_dryBySpans_3 : decode cX4_dryBySpans 3 = .ok (.istore 4, 2) := by decide +kernel
theorem dX4_dryBySpans_5 : decode cX4_dryBySpans 5 = .ok (.iconst 0, 1) := by decide +kernel
theorem dX4_dryBySpans_6 : decode cX4_dryBySpans 6 = .ok (.istore 5, 2) := by decide +kernel
theorem dX4_dryBySpans_8 : decode cX4_dryBySpans 8 = .ok (.iload 5, 2) := by decide +kernel
theorem dX4_dryBySpans_10 : decode cX4_dryBySpans 10 = .ok (.bipush 6, 2) := by decide +kernel
theorem dX4_dryBySpans_12 : decode cX4_dryBySpans 12 = .ok (.if_icmp .gt 46, 3) := by decide +kernel
theorem dX4_dryBySpans_15 : decode cX4_dryBySpans 15 = .ok (.iload 4, 2) := by decide +kernel
theorem dX4_dryBySpans_17 : decode cX4_dryBySpans 17 = .ok (.ifCond .le 41, 3) := by decide +kernel
theorem dX4_dryBySpans_20 : decode cX4_dryBySpans 20 = .ok (.aload_n 0, 1) := by decide +kernel
theorem dX4_dryBySpans_21 : decode cX4_dryBySpans 21 = .ok (.iload_n 3, 1) := by decide +kernel
theorem dX4_dryBySpans_22 : decode cX4_dryBySpans 22 = .ok (.invokevirtual 22, 3) := by decide +kernel
theorem dX4_dryBySpans_25 : decode cX4_dryBySpans 25 = .ok (.istore_n 3, 1) := by decide +kernel
theorem dX4_dryBySpans_26 : decode cX4_dryBySpans 26 = .ok (.iload 4, 2) := by decide +kernel
theorem dX4_dryBySpans_28 : decode cX4_dryBySpans 28 = .ok (.aload_n 0, 1) := by decide +kernel
theorem dX4_dryBySpans_29 : decode cX4_dryBySpans 29 = .ok (.iload_n 3, 1) := by decide +kernel
theorem dX4_dryBySpans_30 : decode cX4_dryBySpans 30 = .ok (.invokevirtual 26, 3) := by decide +kernel
theorem dX4_dryBySpans_33 : decode cX4_dryBySpans 33 = .ok (.iload_n 3, 1) := by decide +kernel
theorem dX4_dryBySpans_34 : decode cX4_dryBySpans 34 = .ok (.isub, 1) := by decide +kernel
theorem dX4_dryBySpans_35 : decode cX4_dryBySpans 35 = .ok (.invokestatic 29, 3) := by decide +kernel
theorem dX4_dryBySpans_38 : decode cX4_dryBySpans 38 = .ok (.istore 6, 2) := by decide +kernel
theorem dX4_dryBySpans_40 : decode cX4_dryBySpans 40 = .ok (.iload_n 3, 1) := by decide +kernel
theorem dX4_dryBySpans_41 : decode cX4_dryBySpans 41 = .ok (.iload 6, 2) := by decide +kernel
theorem dX4_dryBySpans_43 : decode cX4_dryBySpans 43 = .ok (.iadd, 1) := by decide +kernel
theorem dX4_dryBySpans_44 : decode cX4_dryBySpans 44 = .ok (.istore_n 3, 1) := by decide +kernel
theorem dX4_dryBySpans_45 : decode cX4_dryBySpans 45 = .ok (.iload 4, 2) := by decide +kernel
theorem dX4_dryBySpans_47 : decode cX4_dryBySpans 47 = .ok (.iload 6, 2) := by decide +kernel
theorem dX4_dryBySpans_49 : decode cX4_dryBySpans 49 = .ok (.isub, 1) := by decide +kernel
theorem dX4_dryBySpans_50 : decode cX4_dryBySpans 50 = .ok (.istore 4, 2) := by decide +kernel
theorem dX4_dryBySpans_52 : decode cX4_dryBySpans 52 = .ok (.iinc 5 1, 3) := by decide +kernel
theorem dX4_dryBySpans_55 : decode cX4_dryBySpans 55 = .ok (.goto (-47), 3) := by decide +kernel
theorem dX4_dryBySpans_58 : decode cX4_dryBySpans 58 = .ok (.iload_n 3, 1) := by decide +kernel
theorem dX4_dryBySpans_59 : decode cX4_dryBySpans 59 = .ok (.ireturn, 1) := by decide +kernel
theorem dX4_nextGood_0 : decode cX4_nextGood 0 = .ok (.iload_n 1, 1) := by decide +kernel
theorem dX4_nextGood_1 : decode cX4_nextGood 1 = .ok (.istore_n 2, 1) := by decide +kernel
theorem dX4_nextGood_2 : decode cX4_nextGood 2 = .ok (.iconst 0, 1) := by decide +kernel
theorem dX4_nextGood_3 : decode cX4_nextGood 3 = .ok (.istore_n 3, 1) := by decide +kernel
theorem dX4_nextGood_4 : decode cX4_nextGood 4 = .ok (.iload_n 3, 1) := by decide +kernel
theorem dX4_nextGood_5 : decode cX4_nextGood 5 = .ok (.aload_n 0, 1) := by decide +kernel
theorem dX4_nextGood_6 : decode cX4_nextGood 6 = .ok (.getfield 18, 3) := by decide +kernel
theorem dX4_nextGood_9 : decode cX4_nextGood 9 = .ok (.if_icmp .ge 57, 3) := by decide +kernel
theorem dX4_nextGood_12 : decode cX4_nextGood 12 = .ok (.iconst 0, 1) := by decide +kernel
theorem dX4_nextGood_13 : decode cX4_nextGood 13 = .ok (.istore 4, 2) := by decide +kernel
theorem dX4_nextGood_15 : decode cX4_nextGood 15 = .ok (.iload 4, 2) := by decide +kernel
theorem dX4_nextGood_17 : decode cX4_nextGood 17 = .ok (.aload_n 0, 1) := by decide +kernel
theorem dX4_nextGood_18 : decode cX4_nextGood 18 = .ok (.getfield 18, 3) := by decide +kernel
theorem dX4_nextGood_21 : decode cX4_nextGood 21 = .ok (.if_icmp .ge 39, 3) := by decide +kernel
theorem dX4_nextGood_24 : decode cX4_nextGood 24 = .ok (.aload_n 0, 1) := by decide +kernel
theorem dX4_nextGood_25 : decode cX4_nextGood 25 = .ok (.getfield 9, 3) := by decide +kernel
theorem dX4_nextGood_28 : decode cX4_nextGood 28 = .ok (.iload 4, 2) := by decide +kernel
theorem dX4_nextGood_30 : decode cX4_nextGood 30 = .ok (.iaload, 1) := by decide +kernel
theorem dX4_nextGood_31 : decode cX4_nextGood 31 = .ok (.iload_n 2, 1) := by decide +kernel
theorem dX4_nextGood_32 : decode cX4_nextGood 32 = .ok (.if_icmp .gt 22, 3) := by decide +kernel
theorem dX4_nextGood_35 : decode cX4_nextGood 35 = .ok (.iload_n 2, 1) := by decide +kernel
theorem dX4_nextGood_36 : decode cX4_nextGood 36 = .ok (.aload_n 0, 1) := by decide +kernel
theorem dX4_nextGood_37 : decode cX4_nextGood 37 = .ok (.getfield 15, 3) := by decide +kernel
theorem dX4_nextGood_40 : decode cX4_nextGood 40 = .ok (.iload 4, 2) := by decide +kernel
theorem dX4_nextGood_42 : decode cX4_nextGood 42 = .ok (.iaload, 1) := by decide +kernel
theorem dX4_nextGood_43 : decode cX4_nextGood 43 = .ok (.if_icmp .ge 11, 3) := by decide +kernel
theorem dX4_nextGood_46 : decode cX4_nextGood 46 = .ok (.aload_n 0, 1) := by decide +kernel
theorem dX4_nextGood_47 : decode cX4_nextGood 47 = .ok (.getfield 15, 3) := by decide +kernel
theorem dX4_nextGood_50 : decode cX4_nextGood 50 = .ok (.iload 4, 2) := by decide +kernel
theorem dX4_nextGood_52 : decode cX4_nextGood 52 = .ok (.iaload, 1) := by decide +kernel
theorem dX4_nextGood_53 : decode cX4_nextGood 53 = .ok (.istore_n 2, 1) := by decide +kernel
theorem dX4_nextGood_54 : decode cX4_nextGood 54 = .ok (.iinc 4 1, 3) := by decide +kernel
theorem dX4_nextGood_57 : decode cX4_nextGood 57 = .ok (.goto (-42), 3) := by decide +kernel
theorem dX4_nextGood_60 : decode cX4_nextGood 60 = .ok (.iinc 3 1, 3) := by decide +kernel
theorem dX4_nextGood_63 : decode cX4_nextGood 63 = .ok (.goto (-59), 3) := by decide +kernel
theorem dX4_nextGood_66 : decode cX4_nextGood 66 = .ok (.iload_n 2, 1) := by decide +kernel
theorem dX4_nextGood_67 : decode cX4_nextGood 67 = .ok (.ireturn, 1) := by decide +kernel
theorem dX4_nextStart_0 : decode cX4_nextStart 0 = .ok (.ldc 35, 2) := by decide +kernel
theorem dX4_nextStart_2 : decode cX4_nextStart 2 = .ok (.istore_n 2, 1) := by decide +kernel
theorem dX4_nextStart_3 : decode cX4_nextStart 3 = .ok (.iconst 0, 1) := by decide +kernel
theorem dX4_nextStart_4 : decode cX4_nextStart 4 = .ok (.istore_n 3, 1) := by decide +kernel
theorem dX4_nextStart_5 : decode cX4_nextStart 5 = .ok (.iload_n 3, 1) := by decide +kernel
theorem dX4_nextStart_6 : decode cX4_nextStart 6 = .ok (.aload_n 0, 1) := by decide +kernel
theorem dX4_nextStart_7 : decode cX4_nextStart 7 = .ok (.getfield 18, 3) := by decide +kernel
theorem dX4_nextStart_10 : decode cX4_nextStart 10 = .ok (.if_icmp .ge 36, 3) := by decide +kernel
theorem dX4_nextStart_13 : decode cX4_nextStart 13 = .ok (.aload_n 0, 1) := by decide +kernel
theorem dX4_nextStart_14 : decode cX4_nextStart 14 = .ok (.getfield 9, 3) := by decide +kernel
theorem dX4_nextStart_17 : decode cX4_nextStart 17 = .ok (.iload_n 3, 1) := by decide +kernel
theorem dX4_nextStart_18 : decode cX4_nextStart 18 = .ok (.iaload, 1) := by decide +kernel
theorem dX4_nextStart_19 : decode cX4_nextStart 19 = .ok (.iload_n 1, 1) := by decide +kernel
theorem dX4_nextStart_20 : decode cX4_nextStart 20 = .ok (.if_icmp .le 20, 3) := by decide +kernel
theorem dX4_nextStart_23 : decode cX4_nextStart 23 = .ok (.aload_n 0, 1) := by decide +kernel
theorem dX4_nextStart_24 : decode cX4_nextStart 24 = .ok (.getfield 9, 3) := by decide +kernel
theorem dX4_nextStart_27 : decode cX4_nextStart 27 = .ok (.iload_n 3, 1) := by decide +kernel
theorem dX4_nextStart_28 : decode cX4_nextStart 28 = .ok (.iaload, 1) := by decide +kernel
theorem dX4_nextStart_29 : decode cX4_nextStart 29 = .ok (.iload_n 2, 1) := by decide +kernel
theorem dX4_nextStart_30 : decode cX4_nextStart 30 = .ok (.if_icmp .ge 10, 3) := by decide +kernel
theorem dX4_nextStart_33 : decode cX4_nextStart 33 = .ok (.aload_n 0, 1) := by decide +kernel
theorem dX4_nextStart_34 : decode cX4_nextStart 34 = .ok (.getfield 9, 3) := by decide +kernel
theorem dX4_nextStart_37 : decode cX4_nextStart 37 = .ok (.iload_n 3, 1) := by decide +kernel
theorem dX4_nextStart_38 : decode cX4_nextStart 38 = .ok (.iaload, 1) := by decide +kernel
theorem dX4_nextStart_39 : decode cX4_nextStart 39 = .ok (.istore_n 2, 1) := by decide +kernel
theorem dX4_nextStart_40 : decode cX4_nextStart 40 = .ok (.iinc 3 1, 3) := by decide +kernel
theorem dX4_nextStart_43 : decode cX4_nextStart 43 = .ok (.goto (-38), 3) := by decide +kernel
theorem dX4_nextStart_46 : decode cX4_nextStart 46 = .ok (.iload_n 2, 1) := by decide +kernel
theorem dX4_nextStart_47 : decode cX4_nextStart 47 = .ok (.ireturn, 1) := by decide +kernel
theorem dX4_dryHourByHour_0 : decode cX4_dryHourByHour 0 = .ok (.iload_n 1, 1) := by decide +kernel
theorem dX4_dryHourByHour_1 : decode cX4_dryHourByHour 1 = .ok (.istore_n 3, 1) := by decide +kernel
theorem dX4_dryHourByHour_2 : decode cX4_dryHourByHour 2 = .ok (.iload_n 2, 1) := by decide +kernel
theorem dX4_dryHourByHour_3 : decode cX4_dryHourByHour 3 = .ok (.istore 4, 2) := by decide +kernel
theorem dX4_dryHourByHour_5 : decode cX4_dryHourByHour 5 = .ok (.sipush 10000, 3) := by decide +kernel
theorem dX4_dryHourByHour_8 : decode cX4_dryHourByHour 8 = .ok (.iload_n 2, 1) := by decide +kernel
theorem dX4_dryHourByHour_9 : decode cX4_dryHourByHour 9 = .ok (.iadd, 1) := by decide +kernel
theorem dX4_dryHourByHour_10 : decode cX4_dryHourByHour 10 = .ok (.istore 5, 2) := by decide +kernel
theorem dX4_dryHourByHour_12 : decode cX4_dryHourByHour 12 = .ok (.iload 4, 2) := by decide +kernel
theorem dX4_dryHourByHour_14 : decode cX4_dryHourByHour 14 = .ok (.ifCond .le 26, 3) := by decide +kernel
theorem dX4_dryHourByHour_17 : decode cX4_dryHourByHour 17 = .ok (.iload_n 3, 1) := by decide +kernel
theorem dX4_dryHourByHour_18 : decode cX4_dryHourByHour 18 = .ok (.iload 5, 2) := by decide +kernel
theorem dX4_dryHourByHour_20 : decode cX4_dryHourByHour 20 = .ok (.if_icmp .ge 20, 3) := by decide +kernel
theorem dX4_dryHourByHour_23 : decode cX4_dryHourByHour 23 = .ok (.aload_n 0, 1) := by decide +kernel
theorem dX4_dryHourByHour_24 : decode cX4_dryHourByHour 24 = .ok (.iload_n 3, 1) := by decide +kernel
theorem dX4_dryHourByHour_25 : decode cX4_dryHourByHour 25 = .ok (.invokevirtual 36, 3) := by decide +kernel
theorem dX4_dryHourByHour_28 : decode cX4_dryHourByHour 28 = .ok (.ifCond .ne 6, 3) := by decide +kernel
theorem dX4_dryHourByHour_31 : decode cX4_dryHourByHour 31 = .ok (.iinc 4 (-1), 3) := by decide +kernel
theorem dX4_dryHourByHour_34 : decode cX4_dryHourByHour 34 = .ok (.iinc 3 1, 3) := by decide +kernel
theorem dX4_dryHourByHour_37 : decode cX4_dryHourByHour 37 = .ok (.goto (-25), 3) := by decide +kernel
theorem dX4_dryHourByHour_40 : decode cX4_dryHourByHour 40 = .ok (.iload_n 3, 1) := by decide +kernel
theorem dX4_dryHourByHour_41 : decode cX4_dryHourByHour 41 = .ok (.ireturn, 1) := by decide +kernel
