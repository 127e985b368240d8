theorem dL_cell_0 : decode cL_cell 0 = .ok (.iload_n 1, 1) := by decide +kernel
theorem dL_cell_1 : decode cL_cell 1 = .ok (.aload_n 0, 1) := by decide +kernel
theorem dL_cell_2 : decode cL_cell 2 = .ok (.arraylength, 1) := by decide +kernel
theorem dL_cell_3 : decode cL_cell 3 = .ok (.if_icmp .ge 9, 3) := by decide +kernel
theorem dL_cell_6 : decode cL_cell 6 = .ok (.aload_n 0, 1) := by decide +kernel
theorem dL_cell_7 : decode cL_cell 7 = .ok (.iload_n 1, 1) := by decide +kernel
theorem dL_cell_8 : decode cL_cell 8 = .ok (.iaload, 1) := by decide +kernel
theorem dL_cell_9 : decode cL_cell 9 = .ok (.goto 9, 3) := by decide +kernel
theorem dL_cell_12 : decode cL_cell 12 = .ok (.ldc 7, 2) := by decide +kernel
theorem dL_cell_14 : decode cL_cell 14 = .ok (.iload_n 1, 1) := by decide +kernel
theorem dL_cell_15 : decode cL_cell 15 = .ok (.imul, 1) := by decide +kernel
theorem dL_cell_16 : decode cL_cell 16 = .ok (.iconst 5, 1) := by decide +kernel
theorem dL_cell_17 : decode cL_cell 17 = .ok (.iadd, 1) := by decide +kernel
theorem dL_cell_18 : decode cL_cell 18 = .ok (.ireturn, 1) := by decide +kernel
theorem dL_pick_0 : decode cL_pick 0 = .ok (.aload_n 0, 1) := by decide +kernel
theorem dL_pick_1 : decode cL_pick 1 = .ok (.iload_n 1, 1) := by decide +kernel
theorem dL_pick_2 : decode cL_pick 2 = .ok (.invokestatic 8, 3) := by decide +kernel
theorem dL_pick_5 : decode cL_pick 5 = .ok (.iconst 1, 1) := by decide +kernel
theorem dL_pick_6 : decode cL_pick 6 = .ok (.iushr, 1) := by decide +kernel
theorem dL_pick_7 : decode cL_pick 7 = .ok (.iload_n 2, 1) := by decide +kernel
theorem dL_pick_8 : decode cL_pick 8 = .ok (.irem, 1) := by decide +kernel
theorem dL_pick_9 : decode cL_pick 9 = .ok (.ireturn, 1) := by decide +kernel
theorem dL_addBerth_0 : decode cL_addBerth 0 = .ok (.aload_n 0, 1) := by decide +kernel
theorem dL_addBerth_1 : decode cL_addBerth 1 = .ok (.iload_n 1, 1) := by decide +kernel
theorem dL_addBerth_2 : decode cL_addBerth 2 = .ok (.iload_n 2, 1) := by decide +kernel
theorem dL_addBerth_3 : decode cL_addBerth 3 = .ok (.iload_n 3, 1) := by decide +kernel
theorem dL_addBerth_4 : decode cL_addBerth 4 = .ok (.invokevirtual 14, 3) := by decide +kernel
theorem dL_addBerth_7 : decode cL_addBerth 7 = .ok (.ireturn, 1) := by decide +kernel
theorem dL_addBerth_8 : decode cL_addBerth 8 = .ok (.astore 4, 2) := by decide +kernel
theorem dL_addBerth_10 : decode cL_addBerth 10 = .ok (.sipush (-1001), 3) := by decide +kernel
theorem dL_addBerth_13 : decode cL_addBerth 13 = .ok (.ireturn, 1) := by decide +kernel
theorem dL_addBerth_14 : decode cL_addBerth 14 = .ok (.astore 4, 2) := by decide +kernel
theorem dL_addBerth_16 : decode cL_addBerth 16 = .ok (.sipush (-1002), 3) := by decide +kernel
theorem dL_addBerth_19 : decode cL_addBerth 19 = .ok (.ireturn, 1) := by decide +kernel
theorem dL_addBerth_20 : decode cL_addBerth 20 = .ok (.astore 4, 2) := by decide +kernel
theorem dL_addBerth_22 : decode cL_addBerth 22 = .ok (.sipush (-1003), 3) := by decide +kernel
theorem dL_addBerth_25 : decode cL_addBerth 25 = .ok (.ireturn, 1) := by decide +kernel
theorem dL_addBoat_0 : decode cL_addBoat 0 = .ok (.aload_n 0, 1) := by decide +kernel
theorem dL_addBoat_1 : decode cL_addBoat 1 = .ok (.iload_n 1, 1) := by decide +kernel
theorem dL_addBoat_2 : decode cL_addBoat 2 = .ok (.iload_n 2, 1) := by decide +kernel
theorem dL_addBoat_3 : decode cL_addBoat 3 = .ok (.iload_n 3, 1) := by decide +kernel
theorem dL_addBoat_4 : decode cL_addBoat 4 = .ok (.iload 4, 2) := by decide +kernel
theorem dL_addBoat_6 : decode cL_addBoat 6 = .ok (.invokevirtual 26, 3) := by decide +kernel
theorem dL_addBoat_9 : decode cL_addBoat 9 = .ok (.ireturn, 1) := by decide +kernel
theorem dL_addBoat_10 : decode cL_addBoat 10 = .ok (.astore 5, 2) := by decide +kernel
theorem dL_addBoat_12 : decode cL_addBoat 12 = .ok (.sipush (-1001), 3) := by decide +kernel
theorem dL_addBoat_15 : decode cL_addBoat 15 = .ok (.ireturn, 1) := by decide +kernel
theorem dL_addBoat_16 : decode cL_addBoat 16 = .ok (.astore 5, 2) := by decide +kernel
theorem dL_addBoat_18 : decode cL_addBoat 18 = .ok (.sipush (-1002), 3) := by decide +kernel
theorem dL_addBoat_21 : decode cL_addBoat 21 = .ok (.ireturn, 1) := by decide +kernel
theorem dL_setTide_0 : decode cL_setTide 0 = .ok (.aload_n 0, 1) := by decide +kernel
theorem dL_setTide_1 : decode cL_setTide 1 = .ok (.iload_n 1, 1) := by decide +kernel
theorem dL_setTide_2 : decode cL_setTide 2 = .ok (.iload_n 2, 1) := by decide +kernel
theorem dL_setTide_3 : decode cL_setTide 3 = .ok (.iload_n 3, 1) := by decide +kernel
theorem dL_setTide_4 : decode cL_setTide 4 = .ok (.invokevirtual 30, 3) := by decide +kernel
theorem dL_setTide_7 : decode cL_setTide 7 = .ok (.ireturn, 1) := by decide +kernel
theorem dL_setTide_8 : decode cL_setTide 8 = .ok (.astore 4, 2) := by decide +kernel
theorem dL_setTide_10 : decode cL_setTide 10 = .ok (.sipush (-1001), 3) := by decide +kernel
theorem dL_setTide_13 : decode cL_setTide 13 = .ok (.ireturn, 1) := by decide +kernel
theorem dL_setCradle_0 : decode cL_setCradle 0 = .ok (.aload_n 0, 1) := by decide +kernel
theorem dL_setCradle_1 : decode cL_setCradle 1 = .ok (.iload_n 1, 1) := by decide +kernel
theorem dL_setCradle_2 : decode cL_setCradle 2 = .ok (.iload_n 2, 1) := by decide +kernel
theorem dL_setCradle_3 : decode cL_setCradle 3 = .ok (.invokevirtual 33, 3) := by decide +kernel
theorem dL_setCradle_6 : decode cL_setCradle 6 = .ok (.ireturn, 1) := by decide +kernel
theorem dL_setCradle_7 : decode cL_setCradle 7 = .ok (.astore_n 3, 1) := by decide +kernel
theorem dL_setCradle_8 : decode cL_setCradle 8 = .ok (.sipush (-1001), 3) := by decide +kernel
theorem dL_setCradle_11 : decode cL_setCradle 11 = .ok (.ireturn, 1) := by decide +kernel
theorem dL_level_0 : decode cL_level 0 = .ok (.aload_n 0, 1) := by decide +kernel
theorem dL_level_1 : decode cL_level 1 = .ok (.iload_n 1, 1) := by decide +kernel
theorem dL_level_2 : decode cL_level 2 = .ok (.invokevirtual 40, 3) := by decide +kernel
theorem dL_level_5 : decode cL_level 5 = .ok (.ireturn, 1) := by decide +kernel
theorem dL_level_6 : decode cL_level 6 = .ok (.astore_n 2, 1) := by decide +kernel
theorem dL_level_7 : decode cL_level 7 = .ok (.sipush (-1001), 3) := by decide +kernel
theorem dL_level_10 : decode cL_level 10 = .ok (.ireturn, 1) := by decide +kernel
theorem dL_state_0 : decode cL_state 0 = .ok (.aload_n 0, 1) := by decide +kernel
theorem dL_state_1 : decode cL_state 1 = .ok (.iload_n 1, 1) := by decide +kernel
theorem dL_state_2 : decode cL_state 2 = .ok (.invokevirtual 86, 3) := by decide +kernel
theorem dL_state_5 : decode cL_state 5 = .ok (.ireturn, 1) := by decide +kernel
theorem dL_state_6 : decode cL_state 6 = .ok (.astore_n 2, 1) := by decide +kernel
theorem dL_state_7 : decode cL_state 7 = .ok (.sipush (-1001), 3) := by decide +kernel
theorem dL_state_10 : decode cL_state 10 = .ok (.ireturn, 1) := by decide +kernel
theorem dL_berthOf_0 : decode cL_berthOf 0 = .ok (.aload_n 0, 1) := by decide +kernel
theorem dL_berthOf_1 : decode cL_berthOf 1 = .ok (.iload_n 1, 1) := by decide +kernel
theorem dL_berthOf_2 : decode cL_berthOf 2 = .ok (.invokevirtual 89, 3) := by decide +kernel
theorem dL_berthOf_5 : decode cL_berthOf 5 = .ok (.ireturn, 1) := by decide +kernel
theorem dL_berthOf_6 : decode cL_berthOf 6 = .ok (.astore_n 2, 1) := by decide +kernel
theorem dL_berthOf_7 : decode cL_berthOf 7 = .ok (.sipush (-1001), 3) := by decide +kernel
theorem dL_berthOf_10 : decode cL_berthOf 10 = .ok (.ireturn, 1) := by decide +kernel
theorem dL_berthOf_11 : decode cL_berthOf 11 = .ok (.astore_n 2, 1) := by decide +kernel
theorem dL_berthOf_12 : decode cL_berthOf 12 = .ok (.sipush (-1002), 3) := by decide +kernel
theorem dL_berthOf_15 : decode cL_berthOf 15 = .ok (.ireturn, 1) := by decide +kernel
theorem dL_boatIn_0 : decode cL_boatIn 0 = .ok (.aload_n 0, 1) := by decide +kernel
theorem dL_boatIn_1 : decode cL_boatIn 1 = .ok (.iload_n 1, 1) := by decide +kernel
theorem dL_boatIn_2 : decode cL_boatIn 2 = .ok (.invokevirtual 92, 3) := by decide +kernel
theorem dL_boatIn_5 : decode cL_boatIn 5 = .ok (.ireturn, 1) := by decide +kernel
theorem dL_boatIn_6 : decode cL_boatIn 6 = .ok (.astore_n 2, 1) := by decide +kernel
theorem dL_boatIn_7 : decode cL_boatIn 7 = .ok (.sipush (-1001), 3) := by decide +kernel
theorem dL_boatIn_10 : decode cL_boatIn 10 = .ok (.ireturn, 1) := by decide +kernel
theorem dL_boatIn_11 : decode cL_boatIn 11 = .ok (.astore_n 2, 1) := by decide +kernel
theorem dL_boatIn_12 : decode cL_boatIn 12 = .ok (.sipush (-1002), 3) := by decide +kernel
theorem dL_boatIn_15 : decode cL_boatIn 15 = .ok (.ireturn, 1) := by decide +kernel
theorem dL_dryLeft_0 : decode cL_dryLeft 0 = .ok (.aload_n 0, 1) := by decide +kernel
theorem dL_dryLeft_1 : decode cL_dryLeft 1 = .ok (.iload_n 1, 1) := by decide +kernel
theorem dL_dryLeft_2 : decode cL_dryLeft 2 = .ok (.invokevirtual 98, 3) := by decide +kernel
theorem dL_dryLeft_5 : decode cL_dryLeft 5 = .ok (.ireturn, 1) := by decide +kernel
theorem dL_dryLeft_6 : decode cL_dryLeft 6 = .ok (.astore_n 2, 1) := by decide +kernel
theorem dL_dryLeft_7 : decode cL_dryLeft 7 = .ok (.sipush (-1001), 3) := by decide +kernel
theorem dL_dryLeft_10 : decode cL_dryLeft 10 = .ok (.ireturn, 1) := by decide +kernel
theorem dL_dryAt_0 : decode cL_dryAt 0 = .ok (.aload_n 0, 1) := by decide +kernel
theorem dL_dryAt_1 : decode cL_dryAt 1 = .ok (.iload_n 1, 1) := by decide +kernel
theorem dL_dryAt_2 : decode cL_dryAt 2 = .ok (.invokevirtual 101, 3) := by decide +kernel
theorem dL_dryAt_5 : decode cL_dryAt 5 = .ok (.ireturn, 1) := by decide +kernel
theorem dL_dryAt_6 : decode cL_dryAt 6 = .ok (.astore_n 2, 1) := by decide +kernel
theorem dL_dryAt_7 : decode cL_dryAt 7 = .ok (.sipush (-1001), 3) := by decide +kernel
theorem dL_dryAt_10 : decode cL_dryAt 10 = .ok (.ireturn, 1) := by decide +kernel
theorem dL_dryByHours_0 : decode cL_dryByHours 0 = .ok (.aload_n 0, 1) := by decide +kernel
theorem dL_dryByHours_1 : decode cL_dryByHours 1 = .ok (.iload_n 1, 1) := by decide +kernel
theorem dL_dryByHours_2 : decode cL_dryByHours 2 = .ok (.invokevirtual 104, 3) := by decide +kernel
theorem dL_dryByHours_5 : decode cL_dryByHours 5 = .ok (.ireturn, 1) := by decide +kernel
theorem dL_dryByHours_6 : decode cL_dryByHours 6 = .ok (.astore_n 2, 1) := by decide +kernel
theorem dL_dryByHours_7 : decode cL_dryByHours 7 = .ok (.sipush (-1001), 3) := by decide +kernel
theorem dL_dryByHours_10 : decode cL_dryByHours 10 = .ok (.ireturn, 1) := by decide +kernel
theorem dL_pass_0 : decode cL_pass 0 = .ok (.aload_n 0, 1) := by decide +kernel
theorem dL_pass_1 : decode cL_pass 1 = .ok (.iload_n 1, 1) := by decide +kernel
theorem dL_pass_2 : decode cL_pass 2 = .ok (.invokevirtual 107, 3) := by decide +kernel
theorem dL_pass_5 : decode cL_pass 5 = .ok (.ireturn, 1) := by decide +kernel
theorem dL_pass_6 : decode cL_pass 6 = .ok (.astore_n 2, 1) := by decide +kernel
theorem dL_pass_7 : decode cL_pass 7 = .ok (.sipush (-1001), 3) := by decide +kernel
theorem dL_pass_10 : decode cL_pass 10 = .ok (.ireturn, 1) := by decide +kernel
theorem dL_leastShifted_0 : decode cL_leastShifted 0 = .ok (.aload_n 0, 1) := by decide +kernel
theorem dL_leastShifted_1 : decode cL_leastShifted 1 = .ok (.iload_n 1, 1) := by decide +kernel
theorem dL_leastShifted_2 : decode cL_leastShifted 2 = .ok (.invokevirtual 110, 3) := by decide +kernel
theorem dL_leastShifted_5 : decode cL_leastShifted 5 = .ok (.ireturn, 1) := by decide +kernel
theorem dL_leastShifted_6 : decode cL_leastShifted 6 = .ok (.astore_n 2, 1) := by decide +kernel
theorem dL_leastShifted_7 : decode cL_leastShifted 7 = .ok (.sipush (-1001), 3) := by decide +kernel
theorem dL_leastShifted_10 : decode cL_leastShifted 10 = .ok (.ireturn, 1) := by decide +kernel
theorem dL_leastShifted_11 : decode cL_leastShifted 11 = .ok (.astore_n 2, 1) := by decide +kernel
theorem dL_leastShifted_12 : decode cL_leastShifted 12 = .ok (.sipush (-1002), 3) := by decide +kernel
theorem dL_leastShifted_15 : decode cL_leastShifted 15 = .ok (.ireturn, 1) := by decide +kernel
theorem dL_leastShifted_16 : decode cL_leastShifted 16 = .ok (.astore_n 2, 1) := by decide +kernel
theorem dL_leastShifted_17 : decode cL_leastShifted 17 = .ok (.sipush (-1003), 3) := by decide +kernel
theorem dL_leastShifted_20 : decode cL_leastShifted 20 = .ok (.ireturn, 1) := by decide +kernel
theorem dL_leastByRounds_0 : decode cL_leastByRounds 0 = .ok (.aload_n 0, 1) := by decide +kernel
theorem dL_leastByRounds_1 : decode cL_leastByRounds 1 = .ok (.iload_n 1, 1) := by decide +kernel
theorem dL_leastByRounds_2 : decode cL_leastByRounds 2 = .ok (.invokevirtual 113, 3) := by decide +kernel
theorem dL_leastByRounds_5 : decode cL_leastByRounds 5 = .ok (.ireturn, 1) := by decide +kernel
theorem dL_leastByRounds_6 : decode cL_leastByRounds 6 = .ok (.astore_n 2, 1) := by decide +kernel
theorem dL_leastByRounds_7 : decode cL_leastByRounds 7 = .ok (.sipush (-1001), 3) := by decide +kernel
theorem dL_leastByRounds_10 : decode cL_leastByRounds 10 = .ok (.ireturn, 1) := by decide +kernel
theorem dL_leastByRounds_11 : decode cL_leastByRounds 11 = .ok (.astore_n 2, 1) := by decide +kernel
theorem dL_leastByRounds_12 : decode cL_leastByRounds 12 = .ok (.sipush (-1002), 3) := by decide +kernel
theorem dL_leastByRounds_15 : decode cL_leastByRounds 15 = .ok (.ireturn, 1) := by decide +kernel
theorem dL_leastByRounds_16 : decode cL_leastByRounds 16 = .ok (.astore_n 2, 1) := by decide +kernel
theorem dL_leastByRounds_17 : decode cL_leastByRounds 17 = .ok (.sipush (-1003), 3) := by decide +kernel
theorem dL_leastByRounds_20 : decode cL_leastByRounds 20 = .ok (.ireturn, 1) := by decide +kernel
theorem dL_builds_0 : decode cL_builds 0 = .ok (.iconst 0, 1) := by decide +kernel
theorem dL_builds_1 : decode cL_builds 1 = .ok (.istore 4, 2) := by decide +kernel
theorem dL_builds_3 : decode cL_builds 3 = .ok (.iload 4, 2) := by decide +kernel
theorem dL_builds_5 : decode cL_builds 5 = .ok (.iload_n 2, 1) := by decide +kernel
theorem dL_builds_6 : decode cL_builds 6 = .ok (.if_icmp .ge 61, 3) := by decide +kernel
theorem dL_builds_9 : decode cL_builds 9 = .ok (.aload_n 0, 1) := by decide +kernel
theorem dL_builds_10 : decode cL_builds 10 = .ok (.aload_n 1, 1) := by decide +kernel
theorem dL_builds_11 : decode cL_builds 11 = .ok (.iload 4, 2) := by decide +kernel
theorem dL_builds_13 : decode cL_builds 13 = .ok (.iload 4, 2) := by decide +kernel
theorem dL_builds_15 : decode cL_builds 15 = .ok (.iconst 1, 1) := by decide +kernel
theorem dL_builds_16 : decode cL_builds 16 = .ok (.iadd, 1) := by decide +kernel
theorem dL_builds_17 : decode cL_builds 17 = .ok (.invokestatic 116, 3) := by decide +kernel
theorem dL_builds_20 : decode cL_builds 20 = .ok (.iconst 1, 1) := by decide +kernel
theorem dL_builds_21 : decode cL_builds 21 = .ok (.isub, 1) := by decide +kernel
theorem dL_builds_22 : decode cL_builds 22 = .ok (.bipush 50, 2) := by decide +kernel
theorem dL_builds_24 : decode cL_builds 24 = .ok (.aload_n 1, 1) := by decide +kernel
theorem dL_builds_25 : decode cL_builds 25 = .ok (.bipush 6, 2) := by decide +kernel
theorem dL_builds_27 : decode cL_builds 27 = .ok (.iload 4, 2) := by decide +kernel
theorem dL_builds_29 : decode cL_builds 29 = .ok (.iadd, 1) := by decide +kernel
theorem dL_builds_30 : decode cL_builds 30 = .ok (.sipush 151, 3) := by decide +kernel
theorem dL_builds_33 : decode cL_builds 33 = .ok (.invokestatic 116, 3) := by decide +kernel
theorem dL_builds_36 : decode cL_builds 36 = .ok (.iadd, 1) := by decide +kernel
theorem dL_builds_37 : decode cL_builds 37 = .ok (.bipush 10, 2) := by decide +kernel
theorem dL_builds_39 : decode cL_builds 39 = .ok (.aload_n 1, 1) := by decide +kernel
theorem dL_builds_40 : decode cL_builds 40 = .ok (.bipush 12, 2) := by decide +kernel
theorem dL_builds_42 : decode cL_builds 42 = .ok (.iload 4, 2) := by decide +kernel
theorem dL_builds_44 : decode cL_builds 44 = .ok (.iadd, 1) := by decide +kernel
theorem dL_builds_45 : decode cL_builds 45 = .ok (.bipush 31, 2) := by decide +kernel
theorem dL_builds_47 : decode cL_builds 47 = .ok (.invokestatic 116, 3) := by decide +kernel
theorem dL_builds_50 : decode cL_builds 50 = .ok (.iadd, 1) := by decide +kernel
theorem dL_builds_51 : decode cL_builds 51 = .ok (.invokestatic 120, 3) := by decide +kernel
theorem dL_builds_54 : decode cL_builds 54 = .ok (.iload 4, 2) := by decide +kernel
theorem dL_builds_56 : decode cL_builds 56 = .ok (.if_icmp .eq 5, 3) := by decide +kernel
theorem dL_builds_59 : decode cL_builds 59 = .ok (.iconst 0, 1) := by decide +kernel
theorem dL_builds_60 : decode cL_builds 60 = .ok (.ireturn, 1) := by decide +kernel
theorem dL_builds_61 : decode cL_builds 61 = .ok (.iinc 4 1, 3) := by decide +kernel
theorem dL_builds_64 : decode cL_builds 64 = .ok (.goto (-61), 3) := by decide +kernel
theorem dL_builds_67 : decode cL_builds 67 = .ok (.iconst 0, 1) := by decide +kernel
theorem dL_builds_68 : decode cL_builds 68 = .ok (.istore 4, 2) := by decide +kernel
theorem dL_builds_70 : decode cL_builds 70 = .ok (.iload 4, 2) := by decide +kernel
theorem dL_builds_72 : decode cL_builds 72 = .ok (.iload_n 3, 1) := by decide +kernel
theorem dL_builds_73 : decode cL_builds 73 = .ok (.if_icmp .ge 72, 3) := by decide +kernel
theorem dL_builds_76 : decode cL_builds 76 = .ok (.aload_n 0, 1) := by decide +kernel
theorem dL_builds_77 : decode cL_builds 77 = .ok (.bipush 50, 2) := by decide +kernel
theorem dL_builds_79 : decode cL_builds 79 = .ok (.aload_n 1, 1) := by decide +kernel
theorem dL_builds_80 : decode cL_builds 80 = .ok (.bipush 18, 2) := by decide +kernel
theorem dL_builds_82 : decode cL_builds 82 = .ok (.iload 4, 2) := by decide +kernel
theorem dL_builds_84 : decode cL_builds 84 = .ok (.iadd, 1) := by decide +kernel
theorem dL_builds_85 : decode cL_builds 85 = .ok (.sipush 200, 3) := by decide +kernel
theorem dL_builds_88 : decode cL_builds 88 = .ok (.invokestatic 116, 3) := by decide +kernel
theorem dL_builds_91 : decode cL_builds 91 = .ok (.iadd, 1) := by decide +kernel
theorem dL_builds_92 : decode cL_builds 92 = .ok (.iconst 1, 1) := by decide +kernel
theorem dL_builds_93 : decode cL_builds 93 = .ok (.aload_n 1, 1) := by decide +kernel
theorem dL_builds_94 : decode cL_builds 94 = .ok (.bipush 26, 2) := by decide +kernel
theorem dL_builds_96 : decode cL_builds 96 = .ok (.iload 4, 2) := by decide +kernel
theorem dL_builds_98 : decode cL_builds 98 = .ok (.iadd, 1) := by decide +kernel
theorem dL_builds_99 : decode cL_builds 99 = .ok (.bipush 120, 2) := by decide +kernel
theorem dL_builds_101 : decode cL_builds 101 = .ok (.invokestatic 116, 3) := by decide +kernel
theorem dL_builds_104 : decode cL_builds 104 = .ok (.iadd, 1) := by decide +kernel
theorem dL_builds_105 : decode cL_builds 105 = .ok (.iconst 1, 1) := by decide +kernel
theorem dL_builds_106 : decode cL_builds 106 = .ok (.aload_n 1, 1) := by decide +kernel
theorem dL_builds_107 : decode cL_builds 107 = .ok (.bipush 34, 2) := by decide +kernel
theorem dL_builds_109 : decode cL_builds 109 = .ok (.iload 4, 2) := by decide +kernel
theorem dL_builds_111 : decode cL_builds 111 = .ok (.iadd, 1) := by decide +kernel
theorem dL_builds_112 : decode cL_builds 112 = .ok (.bipush 25, 2) := by decide +kernel
theorem dL_builds_114 : decode cL_builds 114 = .ok (.invokestatic 116, 3) := by decide +kernel
theorem dL_builds_117 : decode cL_builds 117 = .ok (.iadd, 1) := by decide +kernel
theorem dL_builds_118 : decode cL_builds 118 = .ok (.aload_n 1, 1) := by decide +kernel
theorem dL_builds_119 : decode cL_builds 119 = .ok (.bipush 42, 2) := by decide +kernel
theorem dL_builds_121 : decode cL_builds 121 = .ok (.iload 4, 2) := by decide +kernel
theorem dL_builds_123 : decode cL_builds 123 = .ok (.iadd, 1) := by decide +kernel
theorem dL_builds_124 : decode cL_builds 124 = .ok (.bipush 10, 2) := by decide +kernel
theorem dL_builds_126 : decode cL_builds 126 = .ok (.invokestatic 116, 3) := by decide +kernel
theorem dL_builds_129 : decode cL_builds 129 = .ok (.invokestatic 123, 3) := by decide +kernel
theorem dL_builds_132 : decode cL_builds 132 = .ok (.iload 4, 2) := by decide +kernel
theorem dL_builds_134 : decode cL_builds 134 = .ok (.if_icmp .eq 5, 3) := by decide +kernel
theorem dL_builds_137 : decode cL_builds 137 = .ok (.iconst 0, 1) := by decide +kernel
theorem dL_builds_138 : decode cL_builds 138 = .ok (.ireturn, 1) := by decide +kernel
theorem dL_builds_139 : decode cL_builds 139 = .ok (.iinc 4 1, 3) := by decide +kernel
theorem dL_builds_142 : decode cL_builds 142 = .ok (.goto (-72), 3) := by decide +kernel
theorem dL_builds_145 : decode cL_builds 145 = .ok (.sipush 150, 3) := by decide +kernel
theorem dL_builds_148 : decode cL_builds 148 = .ok (.aload_n 1, 1) := by decide +kernel
theorem dL_builds_149 : decode cL_builds 149 = .ok (.bipush 50, 2) := by decide +kernel
theorem dL_builds_151 : decode cL_builds 151 = .ok (.sipush 200, 3) := by decide +kernel
theorem dL_builds_154 : decode cL_builds 154 = .ok (.invokestatic 116, 3) := by decide +kernel
theorem dL_builds_157 : decode cL_builds 157 = .ok (.iadd, 1) := by decide +kernel
theorem dL_builds_158 : decode cL_builds 158 = .ok (.istore 4, 2) := by decide +kernel
theorem dL_builds_160 : decode cL_builds 160 = .ok (.aload_n 0, 1) := by decide +kernel
theorem dL_builds_161 : decode cL_builds 161 = .ok (.iload 4, 2) := by decide +kernel
theorem dL_builds_163 : decode cL_builds 163 = .ok (.aload_n 1, 1) := by decide +kernel
theorem dL_builds_164 : decode cL_builds 164 = .ok (.bipush 51, 2) := by decide +kernel
theorem dL_builds_166 : decode cL_builds 166 = .ok (.bipush 61, 2) := by decide +kernel
theorem dL_builds_168 : decode cL_builds 168 = .ok (.invokestatic 116, 3) := by decide +kernel
theorem dL_builds_171 : decode cL_builds 171 = .ok (.aload_n 1, 1) := by decide +kernel
theorem dL_builds_172 : decode cL_builds 172 = .ok (.bipush 52, 2) := by decide +kernel
theorem dL_builds_174 : decode cL_builds 174 = .ok (.bipush 31, 2) := by decide +kernel
theorem dL_builds_176 : decode cL_builds 176 = .ok (.invokestatic 116, 3) := by decide +kernel
theorem dL_builds_179 : decode cL_builds 179 = .ok (.invokestatic 126, 3) := by decide +kernel
theorem dL_builds_182 : decode cL_builds 182 = .ok (.aload_n 0, 1) := by decide +kernel
theorem dL_builds_183 : decode cL_builds 183 = .ok (.iconst 0, 1) := by decide +kernel
theorem dL_builds_184 : decode cL_builds 184 = .ok (.invokestatic 128, 3) := by decide +kernel
theorem dL_builds_187 : decode cL_builds 187 = .ok (.if_icmp .ne 36, 3) := by decide +kernel
theorem dL_builds_190 : decode cL_builds 190 = .ok (.aload_n 0, 1) := by decide +kernel
theorem dL_builds_191 : decode cL_builds 191 = .ok (.bipush 40, 2) := by decide +kernel
theorem dL_builds_193 : decode cL_builds 193 = .ok (.aload_n 1, 1) := by decide +kernel
theorem dL_builds_194 : decode cL_builds 194 = .ok (.bipush 53, 2) := by decide +kernel
theorem dL_builds_196 : decode cL_builds 196 = .ok (.sipush 161, 3) := by decide +kernel
theorem dL_builds_199 : decode cL_builds 199 = .ok (.invokestatic 116, 3) := by decide +kernel
theorem dL_builds_202 : decode cL_builds 202 = .ok (.iadd, 1) := by decide +kernel
theorem dL_builds_203 : decode cL_builds 203 = .ok (.aload_n 1, 1) := by decide +kernel
theorem dL_builds_204 : decode cL_builds 204 = .ok (.bipush 54, 2) := by decide +kernel
theorem dL_builds_206 : decode cL_builds 206 = .ok (.bipush 51, 2) := by decide +kernel
theorem dL_builds_208 : decode cL_builds 208 = .ok (.invokestatic 116, 3) := by decide +kernel
theorem dL_builds_211 : decode cL_builds 211 = .ok (.invokestatic 131, 3) := by decide +kernel
theorem dL_builds_214 : decode cL_builds 214 = .ok (.bipush 100, 2) := by decide +kernel
theorem dL_builds_216 : decode cL_builds 216 = .ok (.if_icmp .ne 7, 3) := by decide +kernel
theorem dL_builds_219 : decode cL_builds 219 = .ok (.iconst 1, 1) := by decide +kernel
theorem dL_builds_220 : decode cL_builds 220 = .ok (.goto 4, 3) := by decide +kernel
theorem dL_builds_223 : decode cL_builds 223 = .ok (.iconst 0, 1) := by decide +kernel
theorem dL_builds_224 : decode cL_builds 224 = .ok (.ireturn, 1) := by decide +kernel
theorem dL_places_0 : decode cL_places 0 = .ok (.iconst 0, 1) := by decide +kernel
theorem dL_places_1 : decode cL_places 1 = .ok (.istore_n 3, 1) := by decide +kernel
theorem dL_places_2 : decode cL_places 2 = .ok (.iload_n 3, 1) := by decide +kernel
theorem dL_places_3 : decode cL_places 3 = .ok (.iload_n 2, 1) := by decide +kernel
theorem dL_places_4 : decode cL_places 4 = .ok (.if_icmp .ge 220, 3) := by decide +kernel
theorem dL_places_7 : decode cL_places 7 = .ok (.aload_n 0, 1) := by decide +kernel
theorem dL_places_8 : decode cL_places 8 = .ok (.iload_n 3, 1) := by decide +kernel
theorem dL_places_9 : decode cL_places 9 = .ok (.invokestatic 134, 3) := by decide +kernel
theorem dL_places_12 : decode cL_places 12 = .ok (.istore 4, 2) := by decide +kernel
theorem dL_places_14 : decode cL_places 14 = .ok (.aload_n 0, 1) := by decide +kernel
theorem dL_places_15 : decode cL_places 15 = .ok (.iload_n 3, 1) := by decide +kernel
theorem dL_places_16 : decode cL_places 16 = .ok (.invokestatic 136, 3) := by decide +kernel
theorem dL_places_19 : decode cL_places 19 = .ok (.istore 5, 2) := by decide +kernel
theorem dL_places_21 : decode cL_places 21 = .ok (.iload 4, 2) := by decide +kernel
theorem dL_places_23 : decode cL_places 23 = .ok (.bipush 119, 2) := by decide +kernel
theorem dL_places_25 : decode cL_places 25 = .ok (.if_icmp .eq 17, 3) := by decide +kernel
theorem dL_places_28 : decode cL_places 28 = .ok (.iload 4, 2) := by decide +kernel
theorem dL_places_30 : decode cL_places 30 = .ok (.bipush 98, 2) := by decide +kernel
theorem dL_places_32 : decode cL_places 32 = .ok (.if_icmp .eq 10, 3) := by decide +kernel
theorem dL_places_35 : decode cL_places 35 = .ok (.iload 4, 2) := by decide +kernel
theorem dL_places_37 : decode cL_places 37 = .ok (.bipush 97, 2) := by decide +kernel
theorem dL_places_39 : decode cL_places 39 = .ok (.if_icmp .ne 58, 3) := by decide +kernel
theorem dL_places_42 : decode cL_places 42 = .ok (.iload 4, 2) := by decide +kernel
theorem dL_places_44 : decode cL_places 44 = .ok (.bipush 98, 2) := by decide +kernel
theorem dL_places_46 : decode cL_places 46 = .ok (.if_icmp .ne 7, 3) := by decide +kernel
theorem dL_places_49 : decode cL_places 49 = .ok (.iconst 1, 1) := by decide +kernel
theorem dL_places_50 : decode cL_places 50 = .ok (.goto 4, 3) := by decide +kernel
theorem dL_places_53 : decode cL_places 53 = .ok (.iconst 0, 1) := by decide +kernel
theorem dL_places_54 : decode cL_places 54 = .ok (.iload 5, 2) := by decide +kernel
theorem dL_places_56 : decode cL_places 56 = .ok (.ifCond .lt 7, 3) := by decide +kernel
theorem dL_places_59 : decode cL_places 59 = .ok (.iconst 1, 1) := by decide +kernel
theorem dL_places_60 : decode cL_places 60 = .ok (.goto 4, 3) := by decide +kernel
theorem dL_places_63 : decode cL_places 63 = .ok (.iconst 0, 1) := by decide +kernel
theorem dL_places_64 : decode cL_places 64 = .ok (.if_icmp .ne 33, 3) := by decide +kernel
theorem dL_places_67 : decode cL_places 67 = .ok (.iload 5, 2) := by decide +kernel
theorem dL_places_69 : decode cL_places 69 = .ok (.ifCond .lt 13, 3) := by decide +kernel
theorem dL_places_72 : decode cL_places 72 = .ok (.aload_n 0, 1) := by decide +kernel
theorem dL_places_73 : decode cL_places 73 = .ok (.iload 5, 2) := by decide +kernel
theorem dL_places_75 : decode cL_places 75 = .ok (.invokestatic 138, 3) := by decide +kernel
theorem dL_places_78 : decode cL_places 78 = .ok (.iload_n 3, 1) := by decide +kernel
theorem dL_places_79 : decode cL_places 79 = .ok (.if_icmp .ne 18, 3) := by decide +kernel
theorem dL_places_82 : decode cL_places 82 = .ok (.iload 4, 2) := by decide +kernel
theorem dL_places_84 : decode cL_places 84 = .ok (.bipush 98, 2) := by decide +kernel
theorem dL_places_86 : decode cL_places 86 = .ok (.if_icmp .eq 13, 3) := by decide +kernel
theorem dL_places_89 : decode cL_places 89 = .ok (.aload_n 0, 1) := by decide +kernel
theorem dL_places_90 : decode cL_places 90 = .ok (.iload_n 3, 1) := by decide +kernel
theorem dL_places_91 : decode cL_places 91 = .ok (.invokestatic 140, 3) := by decide +kernel
theorem dL_places_94 : decode cL_places 94 = .ok (.ifCond .eq 5, 3) := by decide +kernel
theorem dL_places_97 : decode cL_places 97 = .ok (.iconst 0, 1) := by decide +kernel
theorem dL_places_98 : decode cL_places 98 = .ok (.ireturn, 1) := by decide +kernel
theorem dL_places_99 : decode cL_places 99 = .ok (.aload_n 0, 1) := by decide +kernel
theorem dL_places_100 : decode cL_places 100 = .ok (.iload_n 3, 1) := by decide +kernel
theorem dL_places_101 : decode cL_places 101 = .ok (.invokestatic 142, 3) := by decide +kernel
theorem dL_places_104 : decode cL_places 104 = .ok (.istore 6, 2) := by decide +kernel
theorem dL_places_106 : decode cL_places 106 = .ok (.iload 6, 2) := by decide +kernel
theorem dL_places_108 : decode cL_places 108 = .ok (.aload_n 0, 1) := by decide +kernel
theorem dL_places_109 : decode cL_places 109 = .ok (.iload_n 3, 1) := by decide +kernel
theorem dL_places_110 : decode cL_places 110 = .ok (.invokestatic 144, 3) := by decide +kernel
theorem dL_places_113 : decode cL_places 113 = .ok (.if_icmp .ne 48, 3) := by decide +kernel
theorem dL_places_116 : decode cL_places 116 = .ok (.iload 6, 2) := by decide +kernel
theorem dL_places_118 : decode cL_places 118 = .ok (.aload_n 0, 1) := by decide +kernel
theorem dL_places_119 : decode cL_places 119 = .ok (.invokevirtual 146, 3) := by decide +kernel
theorem dL_places_122 : decode cL_places 122 = .ok (.aload_n 0, 1) := by decide +kernel
theorem dL_places_123 : decode cL_places 123 = .ok (.iload_n 3, 1) := by decide +kernel
theorem dL_places_124 : decode cL_places 124 = .ok (.invokestatic 140, 3) := by decide +kernel
theorem dL_places_127 : decode cL_places 127 = .ok (.iadd, 1) := by decide +kernel
theorem dL_places_128 : decode cL_places 128 = .ok (.if_icmp .lt 33, 3) := by decide +kernel
theorem dL_places_131 : decode cL_places 131 = .ok (.iload 6, 2) := by decide +kernel
theorem dL_places_133 : decode cL_places 133 = .ok (.aload_n 0, 1) := by decide +kernel
theorem dL_places_134 : decode cL_places 134 = .ok (.invokevirtual 146, 3) := by decide +kernel
theorem dL_places_137 : decode cL_places 137 = .ok (.if_icmp .ne 7, 3) := by decide +kernel
theorem dL_places_140 : decode cL_places 140 = .ok (.iconst 1, 1) := by decide +kernel
theorem dL_places_141 : decode cL_places 141 = .ok (.goto 4, 3) := by decide +kernel
theorem dL_places_144 : decode cL_places 144 = .ok (.iconst 0, 1) := by decide +kernel
theorem dL_places_145 : decode cL_places 145 = .ok (.aload_n 0, 1) := by decide +kernel
theorem dL_places_146 : decode cL_places 146 = .ok (.iload_n 3, 1) := by decide +kernel
theorem dL_places_147 : decode cL_places 147 = .ok (.invokestatic 140, 3) := by decide +kernel
theorem dL_places_150 : decode cL_places 150 = .ok (.ifCond .ne 7, 3) := by decide +kernel
theorem dL_places_153 : decode cL_places 153 = .ok (.iconst 1, 1) := by decide +kernel
theorem dL_places_154 : decode cL_places 154 = .ok (.goto 4, 3) := by decide +kernel
theorem dL_places_157 : decode cL_places 157 = .ok (.iconst 0, 1) := by decide +kernel
theorem dL_places_158 : decode cL_places 158 = .ok (.if_icmp .eq 5, 3) := by decide +kernel
theorem dL_places_161 : decode cL_places 161 = .ok (.iconst 0, 1) := by decide +kernel
theorem dL_places_162 : decode cL_places 162 = .ok (.ireturn, 1) := by decide +kernel
theorem dL_places_163 : decode cL_places 163 = .ok (.aload_n 0, 1) := by decide +kernel
theorem dL_places_164 : decode cL_places 164 = .ok (.iload_n 3, 1) := by decide +kernel
theorem dL_places_165 : decode cL_places 165 = .ok (.invokestatic 149, 3) := by decide +kernel
theorem dL_places_168 : decode cL_places 168 = .ok (.istore 7, 2) := by decide +kernel
theorem dL_places_170 : decode cL_places 170 = .ok (.iload 7, 2) := by decide +kernel
theorem dL_places_172 : decode cL_places 172 = .ok (.aload_n 0, 1) := by decide +kernel
theorem dL_places_173 : decode cL_places 173 = .ok (.iload_n 3, 1) := by decide +kernel
theorem dL_places_174 : decode cL_places 174 = .ok (.invokestatic 151, 3) := by decide +kernel
theorem dL_places_177 : decode cL_places 177 = .ok (.if_icmp .ne 39, 3) := by decide +kernel
theorem dL_places_180 : decode cL_places 180 = .ok (.iload 7, 2) := by decide +kernel
theorem dL_places_182 : decode cL_places 182 = .ok (.sipush (-1002), 3) := by decide +kernel
theorem dL_places_185 : decode cL_places 185 = .ok (.if_icmp .ne 7, 3) := by decide +kernel
theorem dL_places_188 : decode cL_places 188 = .ok (.iconst 1, 1) := by decide +kernel
theorem dL_places_189 : decode cL_places 189 = .ok (.goto 4, 3) := by decide +kernel
theorem dL_places_192 : decode cL_places 192 = .ok (.iconst 0, 1) := by decide +kernel
theorem dL_places_193 : decode cL_places 193 = .ok (.iload 4, 2) := by decide +kernel
theorem dL_places_195 : decode cL_places 195 = .ok (.bipush 98, 2) := by decide +kernel
theorem dL_places_197 : decode cL_places 197 = .ok (.if_icmp .eq 7, 3) := by decide +kernel
theorem dL_places_200 : decode cL_places 200 = .ok (.iconst 1, 1) := by decide +kernel
theorem dL_places_201 : decode cL_places 201 = .ok (.goto 4, 3) := by decide +kernel
theorem dL_places_204 : decode cL_places 204 = .ok (.iconst 0, 1) := by decide +kernel
theorem dL_places_205 : decode cL_places 205 = .ok (.if_icmp .ne 11, 3) := by decide +kernel
theorem dL_places_208 : decode cL_places 208 = .ok (.iload 7, 2) := by decide +kernel
theorem dL_places_210 : decode cL_places 210 = .ok (.sipush (-1003), 3) := by decide +kernel
theorem dL_places_213 : decode cL_places 213 = .ok (.if_icmp .ge 5, 3) := by decide +kernel
theorem dL_places_216 : decode cL_places 216 = .ok (.iconst 0, 1) := by decide +kernel
theorem dL_places_217 : decode cL_places 217 = .ok (.ireturn, 1) := by decide +kernel
theorem dL_places_218 : decode cL_places 218 = .ok (.iinc 3 1, 3) := by decide +kernel
theorem dL_places_221 : decode cL_places 221 = .ok (.goto (-219), 3) := by decide +kernel
theorem dL_places_224 : decode cL_places 224 = .ok (.iconst 0, 1) := by decide +kernel
theorem dL_places_225 : decode cL_places 225 = .ok (.istore_n 3, 1) := by decide +kernel
theorem dL_places_226 : decode cL_places 226 = .ok (.iload_n 3, 1) := by decide +kernel
theorem dL_places_227 : decode cL_places 227 = .ok (.iload_n 1, 1) := by decide +kernel
theorem dL_places_228 : decode cL_places 228 = .ok (.if_icmp .ge 32, 3) := by decide +kernel
theorem dL_places_231 : decode cL_places 231 = .ok (.aload_n 0, 1) := by decide +kernel
theorem dL_places_232 : decode cL_places 232 = .ok (.iload_n 3, 1) := by decide +kernel
theorem dL_places_233 : decode cL_places 233 = .ok (.invokestatic 138, 3) := by decide +kernel
theorem dL_places_236 : decode cL_places 236 = .ok (.ifCond .lt 18, 3) := by decide +kernel
theorem dL_places_239 : decode cL_places 239 = .ok (.aload_n 0, 1) := by decide +kernel
theorem dL_places_240 : decode cL_places 240 = .ok (.aload_n 0, 1) := by decide +kernel
theorem dL_places_241 : decode cL_places 241 = .ok (.iload_n 3, 1) := by decide +kernel
theorem dL_places_242 : decode cL_places 242 = .ok (.invokestatic 138, 3) := by decide +kernel
theorem dL_places_245 : decode cL_places 245 = .ok (.invokestatic 136, 3) := by decide +kernel
theorem dL_places_248 : decode cL_places 248 = .ok (.iload_n 3, 1) := by decide +kernel
theorem dL_places_249 : decode cL_places 249 = .ok (.if_icmp .eq 5, 3) := by decide +kernel
theorem dL_places_252 : decode cL_places 252 = .ok (.iconst 0, 1) := by decide +kernel
theorem dL_places_253 : decode cL_places 253 = .ok (.ireturn, 1) := by decide +kernel
theorem dL_places_254 : decode cL_places 254 = .ok (.iinc 3 1, 3) := by decide +kernel
theorem dL_places_257 : decode cL_places 257 = .ok (.goto (-31), 3) := by decide +kernel
theorem dL_places_260 : decode cL_places 260 = .ok (.iconst 1, 1) := by decide +kernel
theorem dL_places_261 : decode cL_places 261 = .ok (.ireturn, 1) := by decide +kernel
theorem dL_law_0 : decode cL_law 0 = .ok (.new 15, 3) := by decide +kernel
theorem dL_law_3 : decode cL_law 3 = .ok (.dup, 1) := by decide +kernel
theorem dL_law_4 : decode cL_law 4 = .ok (.invokespecial 174, 3) := by decide +kernel
theorem dL_law_7 : decode cL_law 7 = .ok (.astore_n 1, 1) := by decide +kernel
theorem dL_law_8 : decode cL_law 8 = .ok (.iconst 1, 1) := by decide +kernel
theorem dL_law_9 : decode cL_law 9 = .ok (.aload_n 0, 1) := by decide +kernel
theorem dL_law_10 : decode cL_law 10 = .ok (.bipush 55, 2) := by decide +kernel
theorem dL_law_12 : decode cL_law 12 = .ok (.iconst 5, 1) := by decide +kernel
theorem dL_law_13 : decode cL_law 13 = .ok (.invokestatic 116, 3) := by decide +kernel
theorem dL_law_16 : decode cL_law 16 = .ok (.iadd, 1) := by decide +kernel
theorem dL_law_17 : decode cL_law 17 = .ok (.istore_n 2, 1) := by decide +kernel
theorem dL_law_18 : decode cL_law 18 = .ok (.iconst 1, 1) := by decide +kernel
theorem dL_law_19 : decode cL_law 19 = .ok (.aload_n 0, 1) := by decide +kernel
theorem dL_law_20 : decode cL_law 20 = .ok (.bipush 56, 2) := by decide +kernel
theorem dL_law_22 : decode cL_law 22 = .ok (.bipush 6, 2) := by decide +kernel
theorem dL_law_24 : decode cL_law 24 = .ok (.invokestatic 116, 3) := by decide +kernel
theorem dL_law_27 : decode cL_law 27 = .ok (.iadd, 1) := by decide +kernel
theorem dL_law_28 : decode cL_law 28 = .ok (.istore_n 3, 1) := by decide +kernel
theorem dL_law_29 : decode cL_law 29 = .ok (.aload_n 1, 1) := by decide +kernel
theorem dL_law_30 : decode cL_law 30 = .ok (.aload_n 0, 1) := by decide +kernel
theorem dL_law_31 : decode cL_law 31 = .ok (.iload_n 2, 1) := by decide +kernel
theorem dL_law_32 : decode cL_law 32 = .ok (.iload_n 3, 1) := by decide +kernel
theorem dL_law_33 : decode cL_law 33 = .ok (.invokestatic 175, 3) := by decide +kernel
theorem dL_law_36 : decode cL_law 36 = .ok (.ifCond .ne 5, 3) := by decide +kernel
theorem dL_law_39 : decode cL_law 39 = .ok (.iconst 0, 1) := by decide +kernel
theorem dL_law_40 : decode cL_law 40 = .ok (.ireturn, 1) := by decide +kernel
theorem dL_law_41 : decode cL_law 41 = .ok (.iconst 0, 1) := by decide +kernel
theorem dL_law_42 : decode cL_law 42 = .ok (.istore 4, 2) := by decide +kernel
theorem dL_law_44 : decode cL_law 44 = .ok (.iload 4, 2) := by decide +kernel
theorem dL_law_46 : decode cL_law 46 = .ok (.bipush 26, 2) := by decide +kernel
theorem dL_law_48 : decode cL_law 48 = .ok (.if_icmp .ge 433, 3) := by decide +kernel
theorem dL_law_51 : decode cL_law 51 = .ok (.aload_n 0, 1) := by decide +kernel
theorem dL_law_52 : decode cL_law 52 = .ok (.bipush 57, 2) := by decide +kernel
theorem dL_law_54 : decode cL_law 54 = .ok (.iload 4, 2) := by decide +kernel
theorem dL_law_56 : decode cL_law 56 = .ok (.iadd, 1) := by decide +kernel
theorem dL_law_57 : decode cL_law 57 = .ok (.invokestatic 8, 3) := by decide +kernel
theorem dL_law_60 : decode cL_law 60 = .ok (.iconst 1, 1) := by decide +kernel
theorem dL_law_61 : decode cL_law 61 = .ok (.iushr, 1) := by decide +kernel
theorem dL_law_62 : decode cL_law 62 = .ok (.istore 5, 2) := by decide +kernel
theorem dL_law_64 : decode cL_law 64 = .ok (.iload 5, 2) := by decide +kernel
theorem dL_law_66 : decode cL_law 66 = .ok (.iload_n 3, 1) := by decide +kernel
theorem dL_law_67 : decode cL_law 67 = .ok (.irem, 1) := by decide +kernel
theorem dL_law_68 : decode cL_law 68 = .ok (.istore 6, 2) := by decide +kernel
theorem dL_law_70 : decode cL_law 70 = .ok (.iload 5, 2) := by decide +kernel
theorem dL_law_72 : decode cL_law 72 = .ok (.bipush 8, 2) := by decide +kernel
theorem dL_law_74 : decode cL_law 74 = .ok (.idiv, 1) := by decide +kernel
theorem dL_law_75 : decode cL_law 75 = .ok (.iload_n 2, 1) := by decide +kernel
theorem dL_law_76 : decode cL_law 76 = .ok (.irem, 1) := by decide +kernel
theorem dL_law_77 : decode cL_law 77 = .ok (.istore 7, 2) := by decide +kernel
theorem dL_law_79 : decode cL_law 79 = .ok (.iload 5, 2) := by decide +kernel
theorem dL_law_81 : decode cL_law 81 = .ok (.bipush 64, 2) := by decide +kernel
theorem dL_law_83 : decode cL_law 83 = .ok (.idiv, 1) := by decide +kernel
theorem dL_law_84 : decode cL_law 84 = .ok (.bipush 16, 2) := by decide +kernel
theorem dL_law_86 : decode cL_law 86 = .ok (.irem, 1) := by decide +kernel
theorem dL_law_87 : decode cL_law 87 = .ok (.istore 8, 2) := by decide +kernel
theorem dL_law_89 : decode cL_law 89 = .ok (.iload 5, 2) := by decide +kernel
theorem dL_law_91 : decode cL_law 91 = .ok (.sipush 1024, 3) := by decide +kernel
theorem dL_law_94 : decode cL_law 94 = .ok (.idiv, 1) := by decide +kernel
theorem dL_law_95 : decode cL_law 95 = .ok (.bipush 48, 2) := by decide +kernel
theorem dL_law_97 : decode cL_law 97 = .ok (.irem, 1) := by decide +kernel
theorem dL_law_98 : decode cL_law 98 = .ok (.iconst 1, 1) := by decide +kernel
theorem dL_law_99 : decode cL_law 99 = .ok (.iadd, 1) := by decide +kernel
theorem dL_law_100 : decode cL_law 100 = .ok (.istore 9, 2) := by decide +kernel
theorem dL_law_102 : decode cL_law 102 = .ok (.iload 8, 2) := by decide +kernel
theorem dL_law_104 : decode cL_law 104 = .ok (.iconst 5, 1) := by decide +kernel
theorem dL_law_105 : decode cL_law 105 = .ok (.if_icmp .ge 32, 3) := by decide +kernel
theorem dL_law_108 : decode cL_law 108 = .ok (.aload_n 1, 1) := by decide +kernel
theorem dL_law_109 : decode cL_law 109 = .ok (.iload 6, 2) := by decide +kernel
theorem dL_law_111 : decode cL_law 111 = .ok (.iload 7, 2) := by decide +kernel
theorem dL_law_113 : decode cL_law 113 = .ok (.invokestatic 179, 3) := by decide +kernel
theorem dL_law_116 : decode cL_law 116 = .ok (.ifCond .eq 15, 3) := by decide +kernel
theorem dL_law_119 : decode cL_law 119 = .ok (.aload_n 1, 1) := by decide +kernel
theorem dL_law_120 : decode cL_law 120 = .ok (.iconst 1, 1) := by decide +kernel
theorem dL_law_121 : decode cL_law 121 = .ok (.invokestatic 183, 3) := by decide +kernel
theorem dL_law_124 : decode cL_law 124 = .ok (.ifCond .le 7, 3) := by decide +kernel
theorem dL_law_127 : decode cL_law 127 = .ok (.iconst 1, 1) := by decide +kernel
theorem dL_law_128 : decode cL_law 128 = .ok (.goto 4, 3) := by decide +kernel
theorem dL_law_131 : decode cL_law 131 = .ok (.iconst 0, 1) := by decide +kernel
theorem dL_law_132 : decode cL_law 132 = .ok (.istore 10, 2) := by decide +kernel
theorem dL_law_134 : decode cL_law 134 = .ok (.goto 325, 3) := by decide +kernel
theorem dL_law_137 : decode cL_law 137 = .ok (.iload 8, 2) := by decide +kernel
theorem dL_law_139 : decode cL_law 139 = .ok (.bipush 7, 2) := by decide +kernel
theorem dL_law_141 : decode cL_law 141 = .ok (.if_icmp .ge 14, 3) := by decide +kernel
theorem dL_law_144 : decode cL_law 144 = .ok (.aload_n 1, 1) := by decide +kernel
theorem dL_law_145 : decode cL_law 145 = .ok (.iload 6, 2) := by decide +kernel
theorem dL_law_147 : decode cL_law 147 = .ok (.invokestatic 185, 3) := by decide +kernel
theorem dL_law_150 : decode cL_law 150 = .ok (.istore 10, 2) := by decide +kernel
theorem dL_law_152 : decode cL_law 152 = .ok (.goto 307, 3) := by decide +kernel
theorem dL_law_155 : decode cL_law 155 = .ok (.iload 8, 2) := by decide +kernel
theorem dL_law_157 : decode cL_law 157 = .ok (.bipush 10, 2) := by decide +kernel
theorem dL_law_159 : decode cL_law 159 = .ok (.if_icmp .ge 16, 3) := by decide +kernel
theorem dL_law_162 : decode cL_law 162 = .ok (.aload_n 1, 1) := by decide +kernel
theorem dL_law_163 : decode cL_law 163 = .ok (.iload 6, 2) := by decide +kernel
theorem dL_law_165 : decode cL_law 165 = .ok (.iload 7, 2) := by decide +kernel
theorem dL_law_167 : decode cL_law 167 = .ok (.invokestatic 189, 3) := by decide +kernel
theorem dL_law_170 : decode cL_law 170 = .ok (.istore 10, 2) := by decide +kernel
theorem dL_law_172 : decode cL_law 172 = .ok (.goto 287, 3) := by decide +kernel
theorem dL_law_175 : decode cL_law 175 = .ok (.iload 8, 2) := by decide +kernel
theorem dL_law_177 : decode cL_law 177 = .ok (.bipush 13, 2) := by decide +kernel
theorem dL_law_179 : decode cL_law 179 = .ok (.if_icmp .ge 33, 3) := by decide +kernel
theorem dL_law_182 : decode cL_law 182 = .ok (.aload_n 1, 1) := by decide +kernel
theorem dL_law_183 : decode cL_law 183 = .ok (.invokevirtual 146, 3) := by decide +kernel
theorem dL_law_186 : decode cL_law 186 = .ok (.istore 11, 2) := by decide +kernel
theorem dL_law_188 : decode cL_law 188 = .ok (.aload_n 1, 1) := by decide +kernel
theorem dL_law_189 : decode cL_law 189 = .ok (.iload 9, 2) := by decide +kernel
theorem dL_law_191 : decode cL_law 191 = .ok (.invokestatic 183, 3) := by decide +kernel
theorem dL_law_194 : decode cL_law 194 = .ok (.iload 11, 2) := by decide +kernel
theorem dL_law_196 : decode cL_law 196 = .ok (.iload 9, 2) := by decide +kernel
theorem dL_law_198 : decode cL_law 198 = .ok (.iadd, 1) := by decide +kernel
theorem dL_law_199 : decode cL_law 199 = .ok (.if_icmp .ne 7, 3) := by decide +kernel
theorem dL_law_202 : decode cL_law 202 = .ok (.iconst 1, 1) := by decide +kernel
theorem dL_law_203 : decode cL_law 203 = .ok (.goto 4, 3) := by decide +kernel
theorem dL_law_206 : decode cL_law 206 = .ok (.iconst 0, 1) := by decide +kernel
theorem dL_law_207 : decode cL_law 207 = .ok (.istore 10, 2) := by decide +kernel
theorem dL_law_209 : decode cL_law 209 = .ok (.goto 250, 3) := by decide +kernel
theorem dL_law_212 : decode cL_law 212 = .ok (.iload 8, 2) := by decide +kernel
theorem dL_law_214 : decode cL_law 214 = .ok (.bipush 13, 2) := by decide +kernel
theorem dL_law_216 : decode cL_law 216 = .ok (.if_icmp .ne 70, 3) := by decide +kernel
theorem dL_law_219 : decode cL_law 219 = .ok (.aload_n 1, 1) := by decide +kernel
theorem dL_law_220 : decode cL_law 220 = .ok (.iload 6, 2) := by decide +kernel
theorem dL_law_222 : decode cL_law 222 = .ok (.iload 9, 2) := by decide +kernel
theorem dL_law_224 : decode cL_law 224 = .ok (.invokestatic 192, 3) := by decide +kernel
theorem dL_law_227 : decode cL_law 227 = .ok (.istore 11, 2) := by decide +kernel
theorem dL_law_229 : decode cL_law 229 = .ok (.iload 11, 2) := by decide +kernel
theorem dL_law_231 : decode cL_law 231 = .ok (.iload 9, 2) := by decide +kernel
theorem dL_law_233 : decode cL_law 233 = .ok (.iconst 4, 1) := by decide +kernel
theorem dL_law_234 : decode cL_law 234 = .ok (.if_icmp .ge 9, 3) := by decide +kernel
theorem dL_law_237 : decode cL_law 237 = .ok (.sipush (-1002), 3) := by decide +kernel
theorem dL_law_240 : decode cL_law 240 = .ok (.goto 6, 3) := by decide +kernel
theorem dL_law_243 : decode cL_law 243 = .ok (.sipush (-1003), 3) := by decide +kernel
theorem dL_law_246 : decode cL_law 246 = .ok (.if_icmp .eq 30, 3) := by decide +kernel
theorem dL_law_249 : decode cL_law 249 = .ok (.iload 11, 2) := by decide +kernel
theorem dL_law_251 : decode cL_law 251 = .ok (.ifCond .le 29, 3) := by decide +kernel
theorem dL_law_254 : decode cL_law 254 = .ok (.aload_n 1, 1) := by decide +kernel
theorem dL_law_255 : decode cL_law 255 = .ok (.iload 6, 2) := by decide +kernel
theorem dL_law_257 : decode cL_law 257 = .ok (.invokestatic 140, 3) := by decide +kernel
theorem dL_law_260 : decode cL_law 260 = .ok (.iload 9, 2) := by decide +kernel
theorem dL_law_262 : decode cL_law 262 = .ok (.if_icmp .ne 18, 3) := by decide +kernel
theorem dL_law_265 : decode cL_law 265 = .ok (.aload_n 1, 1) := by decide +kernel
theorem dL_law_266 : decode cL_law 266 = .ok (.iload 6, 2) := by decide +kernel
theorem dL_law_268 : decode cL_law 268 = .ok (.invokestatic 153, 3) := by decide +kernel
theorem dL_law_271 : decode cL_law 271 = .ok (.bipush 100, 2) := by decide +kernel
theorem dL_law_273 : decode cL_law 273 = .ok (.if_icmp .ne 7, 3) := by decide +kernel
theorem dL_law_276 : decode cL_law 276 = .ok (.iconst 1, 1) := by decide +kernel
theorem dL_law_277 : decode cL_law 277 = .ok (.goto 4, 3) := by decide +kernel
theorem dL_law_280 : decode cL_law 280 = .ok (.iconst 0, 1) := by decide +kernel
theorem dL_law_281 : decode cL_law 281 = .ok (.istore 10, 2) := by decide +kernel
theorem dL_law_283 : decode cL_law 283 = .ok (.goto 176, 3) := by decide +kernel
theorem dL_law_286 : decode cL_law 286 = .ok (.iload 8, 2) := by decide +kernel
theorem dL_law_288 : decode cL_law 288 = .ok (.bipush 14, 2) := by decide +kernel
theorem dL_law_290 : decode cL_law 290 = .ok (.if_icmp .ne 90, 3) := by decide +kernel
theorem dL_law_293 : decode cL_law 293 = .ok (.aload_n 1, 1) := by decide +kernel
theorem dL_law_294 : decode cL_law 294 = .ok (.aload_n 1, 1) := by decide +kernel
theorem dL_law_295 : decode cL_law 295 = .ok (.invokevirtual 146, 3) := by decide +kernel
theorem dL_law_298 : decode cL_law 298 = .ok (.iload 9, 2) := by decide +kernel
theorem dL_law_300 : decode cL_law 300 = .ok (.iadd, 1) := by decide +kernel
theorem dL_law_301 : decode cL_law 301 = .ok (.aload_n 1, 1) := by decide +kernel
theorem dL_law_302 : decode cL_law 302 = .ok (.invokevirtual 146, 3) := by decide +kernel
theorem dL_law_305 : decode cL_law 305 = .ok (.iconst 2, 1) := by decide +kernel
theorem dL_law_306 : decode cL_law 306 = .ok (.iload 9, 2) := by decide +kernel
theorem dL_law_308 : decode cL_law 308 = .ok (.imul, 1) := by decide +kernel
theorem dL_law_309 : decode cL_law 309 = .ok (.iadd, 1) := by decide +kernel
theorem dL_law_310 : decode cL_law 310 = .ok (.invokestatic 194, 3) := by decide +kernel
theorem dL_law_313 : decode cL_law 313 = .ok (.istore 11, 2) := by decide +kernel
theorem dL_law_315 : decode cL_law 315 = .ok (.iload 11, 2) := by decide +kernel
theorem dL_law_317 : decode cL_law 317 = .ok (.sipush (-1002), 3) := by decide +kernel
theorem dL_law_320 : decode cL_law 320 = .ok (.if_icmp .eq 50, 3) := by decide +kernel
theorem dL_law_323 : decode cL_law 323 = .ok (.iload 11, 2) := by decide +kernel
theorem dL_law_325 : decode cL_law 325 = .ok (.iconst 1, 1) := by decide +kernel
theorem dL_law_326 : decode cL_law 326 = .ok (.if_icmp .lt 48, 3) := by decide +kernel
theorem dL_law_329 : decode cL_law 329 = .ok (.iload 11, 2) := by decide +kernel
theorem dL_law_331 : decode cL_law 331 = .ok (.bipush 6, 2) := by decide +kernel
theorem dL_law_333 : decode cL_law 333 = .ok (.if_icmp .gt 41, 3) := by decide +kernel
theorem dL_law_336 : decode cL_law 336 = .ok (.aload_n 1, 1) := by decide +kernel
theorem dL_law_337 : decode cL_law 337 = .ok (.aload_n 1, 1) := by decide +kernel
theorem dL_law_338 : decode cL_law 338 = .ok (.invokevirtual 146, 3) := by decide +kernel
theorem dL_law_341 : decode cL_law 341 = .ok (.iload 9, 2) := by decide +kernel
theorem dL_law_343 : decode cL_law 343 = .ok (.iadd, 1) := by decide +kernel
theorem dL_law_344 : decode cL_law 344 = .ok (.invokestatic 196, 3) := by decide +kernel
theorem dL_law_347 : decode cL_law 347 = .ok (.iconst 1, 1) := by decide +kernel
theorem dL_law_348 : decode cL_law 348 = .ok (.if_icmp .ne 26, 3) := by decide +kernel
theorem dL_law_351 : decode cL_law 351 = .ok (.aload_n 1, 1) := by decide +kernel
theorem dL_law_352 : decode cL_law 352 = .ok (.aload_n 1, 1) := by decide +kernel
theorem dL_law_353 : decode cL_law 353 = .ok (.invokevirtual 146, 3) := by decide +kernel
theorem dL_law_356 : decode cL_law 356 = .ok (.iconst 2, 1) := by decide +kernel
theorem dL_law_357 : decode cL_law 357 = .ok (.iload 9, 2) := by decide +kernel
theorem dL_law_359 : decode cL_law 359 = .ok (.imul, 1) := by decide +kernel
theorem dL_law_360 : decode cL_law 360 = .ok (.iadd, 1) := by decide +kernel
theorem dL_law_361 : decode cL_law 361 = .ok (.iconst 1, 1) := by decide +kernel
theorem dL_law_362 : decode cL_law 362 = .ok (.isub, 1) := by decide +kernel
theorem dL_law_363 : decode cL_law 363 = .ok (.invokestatic 196, 3) := by decide +kernel
theorem dL_law_366 : decode cL_law 366 = .ok (.iconst 1, 1) := by decide +kernel
theorem dL_law_367 : decode cL_law 367 = .ok (.if_icmp .ne 7, 3) := by decide +kernel
theorem dL_law_370 : decode cL_law 370 = .ok (.iconst 1, 1) := by decide +kernel
theorem dL_law_371 : decode cL_law 371 = .ok (.goto 4, 3) := by decide +kernel
theorem dL_law_374 : decode cL_law 374 = .ok (.iconst 0, 1) := by decide +kernel
theorem dL_law_375 : decode cL_law 375 = .ok (.istore 10, 2) := by decide +kernel
theorem dL_law_377 : decode cL_law 377 = .ok (.goto 82, 3) := by decide +kernel
theorem dL_law_380 : decode cL_law 380 = .ok (.aload_n 1, 1) := by decide +kernel
theorem dL_law_381 : decode cL_law 381 = .ok (.iload 6, 2) := by decide +kernel
theorem dL_law_383 : decode cL_law 383 = .ok (.invokestatic 198, 3) := by decide +kernel
theorem dL_law_386 : decode cL_law 386 = .ok (.istore 11, 2) := by decide +kernel
theorem dL_law_388 : decode cL_law 388 = .ok (.aload_n 1, 1) := by decide +kernel
theorem dL_law_389 : decode cL_law 389 = .ok (.iload 6, 2) := by decide +kernel
theorem dL_law_391 : decode cL_law 391 = .ok (.bipush 7, 2) := by decide +kernel
theorem dL_law_393 : decode cL_law 393 = .ok (.iload 9, 2) := by decide +kernel
theorem dL_law_395 : decode cL_law 395 = .ok (.imul, 1) := by decide +kernel
theorem dL_law_396 : decode cL_law 396 = .ok (.invokestatic 200, 3) := by decide +kernel
theorem dL_law_399 : decode cL_law 399 = .ok (.aload_n 1, 1) := by decide +kernel
theorem dL_law_400 : decode cL_law 400 = .ok (.iload 6, 2) := by decide +kernel
theorem dL_law_402 : decode cL_law 402 = .ok (.bipush 7, 2) := by decide +kernel
theorem dL_law_404 : decode cL_law 404 = .ok (.iload 9, 2) := by decide +kernel
theorem dL_law_406 : decode cL_law 406 = .ok (.imul, 1) := by decide +kernel
theorem dL_law_407 : decode cL_law 407 = .ok (.invokestatic 202, 3) := by decide +kernel
theorem dL_law_410 : decode cL_law 410 = .ok (.if_icmp .ne 46, 3) := by decide +kernel
theorem dL_law_413 : decode cL_law 413 = .ok (.iload 11, 2) := by decide +kernel
theorem dL_law_415 : decode cL_law 415 = .ok (.sipush (-1002), 3) := by decide +kernel
theorem dL_law_418 : decode cL_law 418 = .ok (.if_icmp .eq 34, 3) := by decide +kernel
theorem dL_law_421 : decode cL_law 421 = .ok (.iload 11, 2) := by decide +kernel
theorem dL_law_423 : decode cL_law 423 = .ok (.aload_n 1, 1) := by decide +kernel
theorem dL_law_424 : decode cL_law 424 = .ok (.invokevirtual 146, 3) := by decide +kernel
theorem dL_law_427 : decode cL_law 427 = .ok (.if_icmp .lt 29, 3) := by decide +kernel
theorem dL_law_430 : decode cL_law 430 = .ok (.aload_n 1, 1) := by decide +kernel
theorem dL_law_431 : decode cL_law 431 = .ok (.iload 11, 2) := by decide +kernel
theorem dL_law_433 : decode cL_law 433 = .ok (.invokestatic 196, 3) := by decide +kernel
theorem dL_law_436 : decode cL_law 436 = .ok (.ifCond .ne 20, 3) := by decide +kernel
theorem dL_law_439 : decode cL_law 439 = .ok (.iload 11, 2) := by decide +kernel
theorem dL_law_441 : decode cL_law 441 = .ok (.aload_n 1, 1) := by decide +kernel
theorem dL_law_442 : decode cL_law 442 = .ok (.invokevirtual 146, 3) := by decide +kernel
theorem dL_law_445 : decode cL_law 445 = .ok (.sipush 400, 3) := by decide +kernel
theorem dL_law_448 : decode cL_law 448 = .ok (.iadd, 1) := by decide +kernel
theorem dL_law_449 : decode cL_law 449 = .ok (.if_icmp .gt 7, 3) := by decide +kernel
theorem dL_law_452 : decode cL_law 452 = .ok (.iconst 1, 1) := by decide +kernel
theorem dL_law_453 : decode cL_law 453 = .ok (.goto 4, 3) := by decide +kernel
theorem dL_law_456 : decode cL_law 456 = .ok (.iconst 0, 1) := by decide +kernel
theorem dL_law_457 : decode cL_law 457 = .ok (.istore 10, 2) := by decide +kernel
theorem dL_law_459 : decode cL_law 459 = .ok (.iload 10, 2) := by decide +kernel
theorem dL_law_461 : decode cL_law 461 = .ok (.ifCond .eq 12, 3) := by decide +kernel
theorem dL_law_464 : decode cL_law 464 = .ok (.aload_n 1, 1) := by decide +kernel
theorem dL_law_465 : decode cL_law 465 = .ok (.iload_n 2, 1) := by decide +kernel
theorem dL_law_466 : decode cL_law 466 = .ok (.iload_n 3, 1) := by decide +kernel
theorem dL_law_467 : decode cL_law 467 = .ok (.invokestatic 204, 3) := by decide +kernel
theorem dL_law_470 : decode cL_law 470 = .ok (.ifCond .ne 5, 3) := by decide +kernel
theorem dL_law_473 : decode cL_law 473 = .ok (.iconst 0, 1) := by decide +kernel
theorem dL_law_474 : decode cL_law 474 = .ok (.ireturn, 1) := by decide +kernel
theorem dL_law_475 : decode cL_law 475 = .ok (.iinc 4 1, 3) := by decide +kernel
theorem dL_law_478 : decode cL_law 478 = .ok (.goto (-434), 3) := by decide +kernel
theorem dL_law_481 : decode cL_law 481 = .ok (.aload_n 1, 1) := by decide +kernel
theorem dL_law_482 : decode cL_law 482 = .ok (.invokevirtual 207, 3) := by decide +kernel
theorem dL_law_485 : decode cL_law 485 = .ok (.bipush 6, 2) := by decide +kernel
theorem dL_law_487 : decode cL_law 487 = .ok (.if_icmp .gt 16, 3) := by decide +kernel
theorem dL_law_490 : decode cL_law 490 = .ok (.aload_n 1, 1) := by decide +kernel
theorem dL_law_491 : decode cL_law 491 = .ok (.invokevirtual 210, 3) := by decide +kernel
theorem dL_law_494 : decode cL_law 494 = .ok (.lconst 0, 1) := by decide +kernel
theorem dL_law_495 : decode cL_law 495 = .ok (.lcmp, 1) := by decide +kernel
theorem dL_law_496 : decode cL_law 496 = .ok (.ifCond .lt 7, 3) := by decide +kernel
theorem dL_law_499 : decode cL_law 499 = .ok (.iconst 1, 1) := by decide +kernel
theorem dL_law_500 : decode cL_law 500 = .ok (.goto 4, 3) := by decide +kernel
theorem dL_law_503 : decode cL_law 503 = .ok (.iconst 0, 1) := by decide +kernel
theorem dL_law_504 : decode cL_law 504 = .ok (.ireturn, 1) := by decide +kernel
