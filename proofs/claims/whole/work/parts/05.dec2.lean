theorem dX5_init_0 : decode cX5_init 0 = .ok (.aload_n 0, 1) := by decide +kernel
theorem dX5_init_1 : decode cX5_init 1 = .ok (.invokespecial 1, 3) := by decide +kernel
theorem dX5_init_4 : decode cX5_init 4 = .ok (.aload_n 0, 1) := by decide +kernel
theorem dX5_init_5 : decode cX5_init 5 = .ok (.new 7, 3) := by decide +kernel
theorem dX5_init_8 : decode cX5_init 8 = .ok (.dup, 1) := by decide +kernel
theorem dX5_init_9 : decode cX5_init 9 = .ok (.invokespecial 9, 3) := by decide +kernel
theorem dX5_init_12 : decode cX5_init 12 = .ok (.putfield 10, 3) := by decide +kernel
theorem dX5_init_15 : decode cX5_init 15 = .ok (.aload_n 0, 1) := by decide +kernel
theorem dX5_init_16 : decode cX5_init 16 = .ok (.new 16, 3) := by decide +kernel
theorem dX5_init_19 : decode cX5_init 19 = .ok (.dup, 1) := by decide +kernel
theorem dX5_init_20 : decode cX5_init 20 = .ok (.invokespecial 18, 3) := by decide +kernel
theorem dX5_init_23 : decode cX5_init 23 = .ok (.putfield 19, 3) := by decide +kernel
theorem dX5_init_26 : decode cX5_init 26 = .ok (.aload_n 0, 1) := by decide +kernel
theorem dX5_init_27 : decode cX5_init 27 = .ok (.new 23, 3) := by decide +kernel
theorem dX5_init_30 : decode cX5_init 30 = .ok (.dup, 1) := by decide +kernel
theorem dX5_init_31 : decode cX5_init 31 = .ok (.invokespecial 25, 3) := by decide +kernel
theorem dX5_init_34 : decode cX5_init 34 = .ok (.putfield 26, 3) := by decide +kernel
theorem dX5_init_37 : decode cX5_init 37 = .ok (.aload_n 0, 1) := by decide +kernel
theorem dX5_init_38 : decode cX5_init 38 = .ok (.new 30, 3) := by decide +kernel
theorem dX5_init_41 : decode cX5_init 41 = .ok (.dup, 1) := by decide +kernel
theorem dX5_init_42 : decode cX5_init 42 = .ok (.invokespecial 32, 3) := by decide +kernel
theorem dX5_init_45 : decode cX5_init 45 = .ok (.putfield 33, 3) := by decide +kernel
theorem dX5_init_48 : decode cX5_init 48 = .ok (.aload_n 0, 1) := by decide +kernel
theorem dX5_init_49 : decode cX5_init 49 = .ok (.new 37, 3) := by decide +kernel
theorem dX5_init_52 : decode cX5_init 52 = .ok (.dup, 1) := by decide +kernel
theorem dX5_init_53 : decode cX5_init 53 = .ok (.invokespecial 39, 3) := by decide +kernel
theorem dX5_init_56 : decode cX5_init 56 = .ok (.putfield 40, 3) := by decide +kernel
theorem dX5_init_59 : decode cX5_init 59 = .ok (.aload_n 0, 1) := by decide +kernel
theorem dX5_init_60 : decode cX5_init 60 = .ok (.bipush 100, 2) := by decide +kernel
theorem dX5_init_62 : decode cX5_init 62 = .ok (.putfield 44, 3) := by decide +kernel
theorem dX5_init_65 : decode cX5_init 65 = .ok (.aload_n 0, 1) := by decide +kernel
theorem dX5_init_66 : decode cX5_init 66 = .ok (.bipush 10, 2) := by decide +kernel
theorem dX5_init_68 : decode cX5_init 68 = .ok (.putfield 48, 3) := by decide +kernel
theorem dX5_init_71 : decode cX5_init 71 = .ok (.aload_n 0, 1) := by decide +kernel
theorem dX5_init_72 : decode cX5_init 72 = .ok (.iconst 0, 1) := by decide +kernel
theorem dX5_init_73 : decode cX5_init 73 = .ok (.putfield 51, 3) := by decide +kernel
theorem dX5_init_76 : decode cX5_init 76 = .ok (.aload_n 0, 1) := by decide +kernel
theorem dX5_init_77 : decode cX5_init 77 = .ok (.iconst (-1), 1) := by decide +kernel
theorem dX5_init_78 : decode cX5_init 78 = .ok (.putfield 54, 3) := by decide +kernel
theorem dX5_init_81 : decode cX5_init 81 = .ok (.aload_n 0, 1) := by decide +kernel
theorem dX5_init_82 : decode cX5_init 82 = .ok (.iconst 0, 1) := by decide +kernel
theorem dX5_init_83 : decode cX5_init 83 = .ok (.putfield 57, 3) := by decide +kernel
theorem dX5_init_86 : decode cX5_init 86 = .ok (.aload_n 0, 1) := by decide +kernel
theorem dX5_init_87 : decode cX5_init 87 = .ok (.lconst 0, 1) := by decide +kernel
theorem dX5_init_88 : decode cX5_init 88 = .ok (.putfield 60, 3) := by decide +kernel
theorem dX5_init_91 : decode cX5_init 91 = .ok (.return_, 1) := by decide +kernel
theorem dX5_addBerth_0 : decode cX5_addBerth 0 = .ok (.iload_n 1, 1) := by decide +kernel
theorem dX5_addBerth_1 : decode cX5_addBerth 1 = .ok (.iconst (-1), 1) := by decide +kernel
theorem dX5_addBerth_2 : decode cX5_addBerth 2 = .ok (.if_icmp .eq 24, 3) := by decide +kernel
theorem dX5_addBerth_5 : decode cX5_addBerth 5 = .ok (.aload_n 0, 1) := by decide +kernel
theorem dX5_addBerth_6 : decode cX5_addBerth 6 = .ok (.getfield 26, 3) := by decide +kernel
theorem dX5_addBerth_9 : decode cX5_addBerth 9 = .ok (.iload_n 1, 1) := by decide +kernel
theorem dX5_addBerth_10 : decode cX5_addBerth 10 = .ok (.invokevirtual 64, 3) := by decide +kernel
theorem dX5_addBerth_13 : decode cX5_addBerth 13 = .ok (.ifCond .ne 13, 3) := by decide +kernel
theorem dX5_addBerth_16 : decode cX5_addBerth 16 = .ok (.new 68, 3) := by decide +kernel
theorem dX5_addBerth_19 : decode cX5_addBerth 19 = .ok (.dup, 1) := by decide +kernel
theorem dX5_addBerth_20 : decode cX5_addBerth 20 = .ok (.ldc 70, 2) := by decide +kernel
theorem dX5_addBerth_22 : decode cX5_addBerth 22 = .ok (.invokespecial 72, 3) := by decide +kernel
theorem dX5_addBerth_25 : decode cX5_addBerth 25 = .ok (.athrow, 1) := by decide +kernel
theorem dX5_addBerth_26 : decode cX5_addBerth 26 = .ok (.iload_n 2, 1) := by decide +kernel
theorem dX5_addBerth_27 : decode cX5_addBerth 27 = .ok (.iconst 1, 1) := by decide +kernel
theorem dX5_addBerth_28 : decode cX5_addBerth 28 = .ok (.sipush 200, 3) := by decide +kernel
theorem dX5_addBerth_31 : decode cX5_addBerth 31 = .ok (.invokestatic 75, 3) := by decide +kernel
theorem dX5_addBerth_34 : decode cX5_addBerth 34 = .ok (.ifCond .ne 13, 3) := by decide +kernel
theorem dX5_addBerth_37 : decode cX5_addBerth 37 = .ok (.iload_n 3, 1) := by decide +kernel
theorem dX5_addBerth_38 : decode cX5_addBerth 38 = .ok (.iconst 1, 1) := by decide +kernel
theorem dX5_addBerth_39 : decode cX5_addBerth 39 = .ok (.bipush 40, 2) := by decide +kernel
theorem dX5_addBerth_41 : decode cX5_addBerth 41 = .ok (.invokestatic 75, 3) := by decide +kernel
theorem dX5_addBerth_44 : decode cX5_addBerth 44 = .ok (.ifCond .eq 13, 3) := by decide +kernel
theorem dX5_addBerth_47 : decode cX5_addBerth 47 = .ok (.new 79, 3) := by decide +kernel
theorem dX5_addBerth_50 : decode cX5_addBerth 50 = .ok (.dup, 1) := by decide +kernel
theorem dX5_addBerth_51 : decode cX5_addBerth 51 = .ok (.ldc 81, 2) := by decide +kernel
theorem dX5_addBerth_53 : decode cX5_addBerth 53 = .ok (.invokespecial 83, 3) := by decide +kernel
theorem dX5_addBerth_56 : decode cX5_addBerth 56 = .ok (.athrow, 1) := by decide +kernel
theorem dX5_addBerth_57 : decode cX5_addBerth 57 = .ok (.aload_n 0, 1) := by decide +kernel
theorem dX5_addBerth_58 : decode cX5_addBerth 58 = .ok (.getfield 26, 3) := by decide +kernel
theorem dX5_addBerth_61 : decode cX5_addBerth 61 = .ok (.getfield 84, 3) := by decide +kernel
theorem dX5_addBerth_64 : decode cX5_addBerth 64 = .ok (.bipush 6, 2) := by decide +kernel
theorem dX5_addBerth_66 : decode cX5_addBerth 66 = .ok (.if_icmp .lt 13, 3) := by decide +kernel
theorem dX5_addBerth_69 : decode cX5_addBerth 69 = .ok (.new 87, 3) := by decide +kernel
theorem dX5_addBerth_72 : decode cX5_addBerth 72 = .ok (.dup, 1) := by decide +kernel
theorem dX5_addBerth_73 : decode cX5_addBerth 73 = .ok (.ldc 89, 2) := by decide +kernel
theorem dX5_addBerth_75 : decode cX5_addBerth 75 = .ok (.invokespecial 91, 3) := by decide +kernel
theorem dX5_addBerth_78 : decode cX5_addBerth 78 = .ok (.athrow, 1) := by decide +kernel
theorem dX5_addBerth_79 : decode cX5_addBerth 79 = .ok (.aload_n 0, 1) := by decide +kernel
theorem dX5_addBerth_80 : decode cX5_addBerth 80 = .ok (.getfield 26, 3) := by decide +kernel
theorem dX5_addBerth_83 : decode cX5_addBerth 83 = .ok (.iload_n 1, 1) := by decide +kernel
theorem dX5_addBerth_84 : decode cX5_addBerth 84 = .ok (.iload_n 2, 1) := by decide +kernel
theorem dX5_addBerth_85 : decode cX5_addBerth 85 = .ok (.iload_n 3, 1) := by decide +kernel
theorem dX5_addBerth_86 : decode cX5_addBerth 86 = .ok (.invokevirtual 92, 3) := by decide +kernel
theorem dX5_addBerth_89 : decode cX5_addBerth 89 = .ok (.ireturn, 1) := by decide +kernel
theorem dX5_addBoat_0 : decode cX5_addBoat 0 = .ok (.iload_n 1, 1) := by decide +kernel
theorem dX5_addBoat_1 : decode cX5_addBoat 1 = .ok (.bipush 50, 2) := by decide +kernel
theorem dX5_addBoat_3 : decode cX5_addBoat 3 = .ok (.sipush 400, 3) := by decide +kernel
theorem dX5_addBoat_6 : decode cX5_addBoat 6 = .ok (.invokestatic 75, 3) := by decide +kernel
theorem dX5_addBoat_9 : decode cX5_addBoat 9 = .ok (.ifCond .ne 35, 3) := by decide +kernel
theorem dX5_addBoat_12 : decode cX5_addBoat 12 = .ok (.iload_n 2, 1) := by decide +kernel
theorem dX5_addBoat_13 : decode cX5_addBoat 13 = .ok (.iconst 1, 1) := by decide +kernel
theorem dX5_addBoat_14 : decode cX5_addBoat 14 = .ok (.sipush 200, 3) := by decide +kernel
theorem dX5_addBoat_17 : decode cX5_addBoat 17 = .ok (.invokestatic 75, 3) := by decide +kernel
theorem dX5_addBoat_20 : decode cX5_addBoat 20 = .ok (.ifCond .ne 24, 3) := by decide +kernel
theorem dX5_addBoat_23 : decode cX5_addBoat 23 = .ok (.iload_n 3, 1) := by decide +kernel
theorem dX5_addBoat_24 : decode cX5_addBoat 24 = .ok (.iconst 1, 1) := by decide +kernel
theorem dX5_addBoat_25 : decode cX5_addBoat 25 = .ok (.bipush 40, 2) := by decide +kernel
theorem dX5_addBoat_27 : decode cX5_addBoat 27 = .ok (.invokestatic 75, 3) := by decide +kernel
theorem dX5_addBoat_30 : decode cX5_addBoat 30 = .ok (.ifCond .ne 14, 3) := by decide +kernel
theorem dX5_addBoat_33 : decode cX5_addBoat 33 = .ok (.iload 4, 2) := by decide +kernel
theorem dX5_addBoat_35 : decode cX5_addBoat 35 = .ok (.iconst 0, 1) := by decide +kernel
theorem dX5_addBoat_36 : decode cX5_addBoat 36 = .ok (.bipush 9, 2) := by decide +kernel
theorem dX5_addBoat_38 : decode cX5_addBoat 38 = .ok (.invokestatic 75, 3) := by decide +kernel
theorem dX5_addBoat_41 : decode cX5_addBoat 41 = .ok (.ifCond .eq 13, 3) := by decide +kernel
theorem dX5_addBoat_44 : decode cX5_addBoat 44 = .ok (.new 79, 3) := by decide +kernel
theorem dX5_addBoat_47 : decode cX5_addBoat 47 = .ok (.dup, 1) := by decide +kernel
theorem dX5_addBoat_48 : decode cX5_addBoat 48 = .ok (.ldc 96, 2) := by decide +kernel
theorem dX5_addBoat_50 : decode cX5_addBoat 50 = .ok (.invokespecial 83, 3) := by decide +kernel
theorem dX5_addBoat_53 : decode cX5_addBoat 53 = .ok (.athrow, 1) := by decide +kernel
theorem dX5_addBoat_54 : decode cX5_addBoat 54 = .ok (.aload_n 0, 1) := by decide +kernel
theorem dX5_addBoat_55 : decode cX5_addBoat 55 = .ok (.getfield 33, 3) := by decide +kernel
theorem dX5_addBoat_58 : decode cX5_addBoat 58 = .ok (.getfield 98, 3) := by decide +kernel
theorem dX5_addBoat_61 : decode cX5_addBoat 61 = .ok (.bipush 8, 2) := by decide +kernel
theorem dX5_addBoat_63 : decode cX5_addBoat 63 = .ok (.if_icmp .lt 13, 3) := by decide +kernel
theorem dX5_addBoat_66 : decode cX5_addBoat 66 = .ok (.new 87, 3) := by decide +kernel
theorem dX5_addBoat_69 : decode cX5_addBoat 69 = .ok (.dup, 1) := by decide +kernel
theorem dX5_addBoat_70 : decode cX5_addBoat 70 = .ok (.ldc 99, 2) := by decide +kernel
theorem dX5_addBoat_72 : decode cX5_addBoat 72 = .ok (.invokespecial 91, 3) := by decide +kernel
theorem dX5_addBoat_75 : decode cX5_addBoat 75 = .ok (.athrow, 1) := by decide +kernel
theorem dX5_addBoat_76 : decode cX5_addBoat 76 = .ok (.aload_n 0, 1) := by decide +kernel
theorem dX5_addBoat_77 : decode cX5_addBoat 77 = .ok (.getfield 33, 3) := by decide +kernel
theorem dX5_addBoat_80 : decode cX5_addBoat 80 = .ok (.iload_n 1, 1) := by decide +kernel
theorem dX5_addBoat_81 : decode cX5_addBoat 81 = .ok (.iload_n 2, 1) := by decide +kernel
theorem dX5_addBoat_82 : decode cX5_addBoat 82 = .ok (.iload_n 3, 1) := by decide +kernel
theorem dX5_addBoat_83 : decode cX5_addBoat 83 = .ok (.iload 4, 2) := by decide +kernel
theorem dX5_addBoat_85 : decode cX5_addBoat 85 = .ok (.invokevirtual 101, 3) := by decide +kernel
theorem dX5_addBoat_88 : decode cX5_addBoat 88 = .ok (.ireturn, 1) := by decide +kernel
theorem dX5_setTide_0 : decode cX5_setTide 0 = .ok (.iload_n 1, 1) := by decide +kernel
theorem dX5_setTide_1 : decode cX5_setTide 1 = .ok (.iconst 0, 1) := by decide +kernel
theorem dX5_setTide_2 : decode cX5_setTide 2 = .ok (.sipush 600, 3) := by decide +kernel
theorem dX5_setTide_5 : decode cX5_setTide 5 = .ok (.invokestatic 75, 3) := by decide +kernel
theorem dX5_setTide_8 : decode cX5_setTide 8 = .ok (.ifCond .ne 23, 3) := by decide +kernel
theorem dX5_setTide_11 : decode cX5_setTide 11 = .ok (.iload_n 2, 1) := by decide +kernel
theorem dX5_setTide_12 : decode cX5_setTide 12 = .ok (.iconst 0, 1) := by decide +kernel
theorem dX5_setTide_13 : decode cX5_setTide 13 = .ok (.bipush 60, 2) := by decide +kernel
theorem dX5_setTide_15 : decode cX5_setTide 15 = .ok (.invokestatic 75, 3) := by decide +kernel
theorem dX5_setTide_18 : decode cX5_setTide 18 = .ok (.ifCond .ne 13, 3) := by decide +kernel
theorem dX5_setTide_21 : decode cX5_setTide 21 = .ok (.iload_n 3, 1) := by decide +kernel
theorem dX5_setTide_22 : decode cX5_setTide 22 = .ok (.iconst 0, 1) := by decide +kernel
theorem dX5_setTide_23 : decode cX5_setTide 23 = .ok (.bipush 30, 2) := by decide +kernel
theorem dX5_setTide_25 : decode cX5_setTide 25 = .ok (.invokestatic 75, 3) := by decide +kernel
theorem dX5_setTide_28 : decode cX5_setTide 28 = .ok (.ifCond .eq 13, 3) := by decide +kernel
theorem dX5_setTide_31 : decode cX5_setTide 31 = .ok (.new 79, 3) := by decide +kernel
theorem dX5_setTide_34 : decode cX5_setTide 34 = .ok (.dup, 1) := by decide +kernel
theorem dX5_setTide_35 : decode cX5_setTide 35 = .ok (.ldc 96, 2) := by decide +kernel
theorem dX5_setTide_37 : decode cX5_setTide 37 = .ok (.invokespecial 83, 3) := by decide +kernel
theorem dX5_setTide_40 : decode cX5_setTide 40 = .ok (.athrow, 1) := by decide +kernel
theorem dX5_setTide_41 : decode cX5_setTide 41 = .ok (.aload_n 0, 1) := by decide +kernel
theorem dX5_setTide_42 : decode cX5_setTide 42 = .ok (.getfield 10, 3) := by decide +kernel
theorem dX5_setTide_45 : decode cX5_setTide 45 = .ok (.iload_n 1, 1) := by decide +kernel
theorem dX5_setTide_46 : decode cX5_setTide 46 = .ok (.putfield 104, 3) := by decide +kernel
theorem dX5_setTide_49 : decode cX5_setTide 49 = .ok (.aload_n 0, 1) := by decide +kernel
theorem dX5_setTide_50 : decode cX5_setTide 50 = .ok (.getfield 10, 3) := by decide +kernel
theorem dX5_setTide_53 : decode cX5_setTide 53 = .ok (.iload_n 2, 1) := by decide +kernel
theorem dX5_setTide_54 : decode cX5_setTide 54 = .ok (.putfield 107, 3) := by decide +kernel
theorem dX5_setTide_57 : decode cX5_setTide 57 = .ok (.aload_n 0, 1) := by decide +kernel
theorem dX5_setTide_58 : decode cX5_setTide 58 = .ok (.getfield 10, 3) := by decide +kernel
theorem dX5_setTide_61 : decode cX5_setTide 61 = .ok (.iload_n 3, 1) := by decide +kernel
theorem dX5_setTide_62 : decode cX5_setTide 62 = .ok (.putfield 110, 3) := by decide +kernel
theorem dX5_setTide_65 : decode cX5_setTide 65 = .ok (.aload_n 0, 1) := by decide +kernel
theorem dX5_setTide_66 : decode cX5_setTide 66 = .ok (.getfield 10, 3) := by decide +kernel
theorem dX5_setTide_69 : decode cX5_setTide 69 = .ok (.aload_n 0, 1) := by decide +kernel
theorem dX5_setTide_70 : decode cX5_setTide 70 = .ok (.getfield 51, 3) := by decide +kernel
theorem dX5_setTide_73 : decode cX5_setTide 73 = .ok (.invokevirtual 113, 3) := by decide +kernel
theorem dX5_setTide_76 : decode cX5_setTide 76 = .ok (.ireturn, 1) := by decide +kernel
theorem dX5_setCradle_0 : decode cX5_setCradle 0 = .ok (.iload_n 1, 1) := by decide +kernel
theorem dX5_setCradle_1 : decode cX5_setCradle 1 = .ok (.iconst 1, 1) := by decide +kernel
theorem dX5_setCradle_2 : decode cX5_setCradle 2 = .ok (.sipush 200, 3) := by decide +kernel
theorem dX5_setCradle_5 : decode cX5_setCradle 5 = .ok (.invokestatic 75, 3) := by decide +kernel
theorem dX5_setCradle_8 : decode cX5_setCradle 8 = .ok (.ifCond .ne 13, 3) := by decide +kernel
theorem dX5_setCradle_11 : decode cX5_setCradle 11 = .ok (.iload_n 2, 1) := by decide +kernel
theorem dX5_setCradle_12 : decode cX5_setCradle 12 = .ok (.iconst 0, 1) := by decide +kernel
theorem dX5_setCradle_13 : decode cX5_setCradle 13 = .ok (.bipush 50, 2) := by decide +kernel
theorem dX5_setCradle_15 : decode cX5_setCradle 15 = .ok (.invokestatic 75, 3) := by decide +kernel
theorem dX5_setCradle_18 : decode cX5_setCradle 18 = .ok (.ifCond .eq 13, 3) := by decide +kernel
theorem dX5_setCradle_21 : decode cX5_setCradle 21 = .ok (.new 79, 3) := by decide +kernel
theorem dX5_setCradle_24 : decode cX5_setCradle 24 = .ok (.dup, 1) := by decide +kernel
theorem dX5_setCradle_25 : decode cX5_setCradle 25 = .ok (.ldc 96, 2) := by decide +kernel
theorem dX5_setCradle_27 : decode cX5_setCradle 27 = .ok (.invokespecial 83, 3) := by decide +kernel
theorem dX5_setCradle_30 : decode cX5_setCradle 30 = .ok (.athrow, 1) := by decide +kernel
theorem dX5_setCradle_31 : decode cX5_setCradle 31 = .ok (.aload_n 0, 1) := by decide +kernel
theorem dX5_setCradle_32 : decode cX5_setCradle 32 = .ok (.getfield 44, 3) := by decide +kernel
theorem dX5_setCradle_35 : decode cX5_setCradle 35 = .ok (.istore_n 3, 1) := by decide +kernel
theorem dX5_setCradle_36 : decode cX5_setCradle 36 = .ok (.aload_n 0, 1) := by decide +kernel
theorem dX5_setCradle_37 : decode cX5_setCradle 37 = .ok (.iload_n 1, 1) := by decide +kernel
theorem dX5_setCradle_38 : decode cX5_setCradle 38 = .ok (.putfield 44, 3) := by decide +kernel
theorem dX5_setCradle_41 : decode cX5_setCradle 41 = .ok (.aload_n 0, 1) := by decide +kernel
theorem dX5_setCradle_42 : decode cX5_setCradle 42 = .ok (.iload_n 2, 1) := by decide +kernel
theorem dX5_setCradle_43 : decode cX5_setCradle 43 = .ok (.putfield 48, 3) := by decide +kernel
theorem dX5_setCradle_46 : decode cX5_setCradle 46 = .ok (.iload_n 3, 1) := by decide +kernel
theorem dX5_setCradle_47 : decode cX5_setCradle 47 = .ok (.ireturn, 1) := by decide +kernel
theorem dX5_tellWeather_0 : decode cX5_tellWeather 0 = .ok (.iload_n 1, 1) := by decide +kernel
theorem dX5_tellWeather_1 : decode cX5_tellWeather 1 = .ok (.aload_n 0, 1) := by decide +kernel
theorem dX5_tellWeather_2 : decode cX5_tellWeather 2 = .ok (.getfield 51, 3) := by decide +kernel
theorem dX5_tellWeather_5 : decode cX5_tellWeather 5 = .ok (.sipush 9999, 3) := by decide +kernel
theorem dX5_tellWeather_8 : decode cX5_tellWeather 8 = .ok (.invokestatic 75, 3) := by decide +kernel
theorem dX5_tellWeather_11 : decode cX5_tellWeather 11 = .ok (.ifCond .ne 15, 3) := by decide +kernel
theorem dX5_tellWeather_14 : decode cX5_tellWeather 14 = .ok (.iload_n 2, 1) := by decide +kernel
theorem dX5_tellWeather_15 : decode cX5_tellWeather 15 = .ok (.iload_n 1, 1) := by decide +kernel
theorem dX5_tellWeather_16 : decode cX5_tellWeather 16 = .ok (.if_icmp .le 10, 3) := by decide +kernel
theorem dX5_tellWeather_19 : decode cX5_tellWeather 19 = .ok (.iload_n 2, 1) := by decide +kernel
theorem dX5_tellWeather_20 : decode cX5_tellWeather 20 = .ok (.sipush 10000, 3) := by decide +kernel
theorem dX5_tellWeather_23 : decode cX5_tellWeather 23 = .ok (.if_icmp .le 13, 3) := by decide +kernel
theorem dX5_tellWeather_26 : decode cX5_tellWeather 26 = .ok (.new 79, 3) := by decide +kernel
theorem dX5_tellWeather_29 : decode cX5_tellWeather 29 = .ok (.dup, 1) := by decide +kernel
theorem dX5_tellWeather_30 : decode cX5_tellWeather 30 = .ok (.ldc 117, 2) := by decide +kernel
theorem dX5_tellWeather_32 : decode cX5_tellWeather 32 = .ok (.invokespecial 83, 3) := by decide +kernel
theorem dX5_tellWeather_35 : decode cX5_tellWeather 35 = .ok (.athrow, 1) := by decide +kernel
theorem dX5_tellWeather_36 : decode cX5_tellWeather 36 = .ok (.aload_n 0, 1) := by decide +kernel
theorem dX5_tellWeather_37 : decode cX5_tellWeather 37 = .ok (.getfield 19, 3) := by decide +kernel
theorem dX5_tellWeather_40 : decode cX5_tellWeather 40 = .ok (.getfield 119, 3) := by decide +kernel
theorem dX5_tellWeather_43 : decode cX5_tellWeather 43 = .ok (.bipush 6, 2) := by decide +kernel
theorem dX5_tellWeather_45 : decode cX5_tellWeather 45 = .ok (.if_icmp .lt 13, 3) := by decide +kernel
theorem dX5_tellWeather_48 : decode cX5_tellWeather 48 = .ok (.new 87, 3) := by decide +kernel
theorem dX5_tellWeather_51 : decode cX5_tellWeather 51 = .ok (.dup, 1) := by decide +kernel
theorem dX5_tellWeather_52 : decode cX5_tellWeather 52 = .ok (.ldc 120, 2) := by decide +kernel
theorem dX5_tellWeather_54 : decode cX5_tellWeather 54 = .ok (.invokespecial 91, 3) := by decide +kernel
theorem dX5_tellWeather_57 : decode cX5_tellWeather 57 = .ok (.athrow, 1) := by decide +kernel
theorem dX5_tellWeather_58 : decode cX5_tellWeather 58 = .ok (.aload_n 0, 1) := by decide +kernel
theorem dX5_tellWeather_59 : decode cX5_tellWeather 59 = .ok (.getfield 19, 3) := by decide +kernel
theorem dX5_tellWeather_62 : decode cX5_tellWeather 62 = .ok (.iload_n 1, 1) := by decide +kernel
theorem dX5_tellWeather_63 : decode cX5_tellWeather 63 = .ok (.iload_n 2, 1) := by decide +kernel
theorem dX5_tellWeather_64 : decode cX5_tellWeather 64 = .ok (.invokevirtual 122, 3) := by decide +kernel
theorem dX5_tellWeather_67 : decode cX5_tellWeather 67 = .ok (.ireturn, 1) := by decide +kernel
theorem dX5_forgetWeather_0 : decode cX5_forgetWeather 0 = .ok (.aload_n 0, 1) := by decide +kernel
theorem dX5_forgetWeather_1 : decode cX5_forgetWeather 1 = .ok (.getfield 19, 3) := by decide +kernel
theorem dX5_forgetWeather_4 : decode cX5_forgetWeather 4 = .ok (.aload_n 0, 1) := by decide +kernel
theorem dX5_forgetWeather_5 : decode cX5_forgetWeather 5 = .ok (.getfield 51, 3) := by decide +kernel
theorem dX5_forgetWeather_8 : decode cX5_forgetWeather 8 = .ok (.invokevirtual 125, 3) := by decide +kernel
theorem dX5_forgetWeather_11 : decode cX5_forgetWeather 11 = .ok (.ireturn, 1) := by decide +kernel
theorem dX5_level_0 : decode cX5_level 0 = .ok (.aload_n 0, 1) := by decide +kernel
theorem dX5_level_1 : decode cX5_level 1 = .ok (.iload_n 1, 1) := by decide +kernel
theorem dX5_level_2 : decode cX5_level 2 = .ok (.invokevirtual 128, 3) := by decide +kernel
theorem dX5_level_5 : decode cX5_level 5 = .ok (.aload_n 0, 1) := by decide +kernel
theorem dX5_level_6 : decode cX5_level 6 = .ok (.getfield 10, 3) := by decide +kernel
theorem dX5_level_9 : decode cX5_level 9 = .ok (.iload_n 1, 1) := by decide +kernel
theorem dX5_level_10 : decode cX5_level 10 = .ok (.invokevirtual 113, 3) := by decide +kernel
theorem dX5_level_13 : decode cX5_level 13 = .ok (.ireturn, 1) := by decide +kernel
theorem dX5_isBad_0 : decode cX5_isBad 0 = .ok (.aload_n 0, 1) := by decide +kernel
theorem dX5_isBad_1 : decode cX5_isBad 1 = .ok (.iload_n 1, 1) := by decide +kernel
theorem dX5_isBad_2 : decode cX5_isBad 2 = .ok (.invokevirtual 128, 3) := by decide +kernel
theorem dX5_isBad_5 : decode cX5_isBad 5 = .ok (.aload_n 0, 1) := by decide +kernel
theorem dX5_isBad_6 : decode cX5_isBad 6 = .ok (.getfield 19, 3) := by decide +kernel
theorem dX5_isBad_9 : decode cX5_isBad 9 = .ok (.iload_n 1, 1) := by decide +kernel
theorem dX5_isBad_10 : decode cX5_isBad 10 = .ok (.invokevirtual 132, 3) := by decide +kernel
theorem dX5_isBad_13 : decode cX5_isBad 13 = .ok (.ireturn, 1) := by decide +kernel
theorem dX5_floodHours_0 : decode cX5_floodHours 0 = .ok (.aload_n 0, 1) := by decide +kernel
theorem dX5_floodHours_1 : decode cX5_floodHours 1 = .ok (.iload_n 1, 1) := by decide +kernel
theorem dX5_floodHours_2 : decode cX5_floodHours 2 = .ok (.iload_n 2, 1) := by decide +kernel
theorem dX5_floodHours_3 : decode cX5_floodHours 3 = .ok (.invokevirtual 135, 3) := by decide +kernel
theorem dX5_floodHours_6 : decode cX5_floodHours 6 = .ok (.iload_n 2, 1) := by decide +kernel
theorem dX5_floodHours_7 : decode cX5_floodHours 7 = .ok (.sipush 300, 3) := by decide +kernel
theorem dX5_floodHours_10 : decode cX5_floodHours 10 = .ok (.idiv, 1) := by decide +kernel
theorem dX5_floodHours_11 : decode cX5_floodHours 11 = .ok (.istore_n 3, 1) := by decide +kernel
theorem dX5_floodHours_12 : decode cX5_floodHours 12 = .ok (.iload_n 2, 1) := by decide +kernel
theorem dX5_floodHours_13 : decode cX5_floodHours 13 = .ok (.sipush 300, 3) := by decide +kernel
theorem dX5_floodHours_16 : decode cX5_floodHours 16 = .ok (.irem, 1) := by decide +kernel
theorem dX5_floodHours_17 : decode cX5_floodHours 17 = .ok (.istore 4, 2) := by decide +kernel
theorem dX5_floodHours_19 : decode cX5_floodHours 19 = .ok (.iload_n 3, 1) := by decide +kernel
theorem dX5_floodHours_20 : decode cX5_floodHours 20 = .ok (.aload_n 0, 1) := by decide +kernel
theorem dX5_floodHours_21 : decode cX5_floodHours 21 = .ok (.iload_n 1, 1) := by decide +kernel
theorem dX5_floodHours_22 : decode cX5_floodHours 22 = .ok (.sipush 300, 3) := by decide +kernel
theorem dX5_floodHours_25 : decode cX5_floodHours 25 = .ok (.invokevirtual 139, 3) := by decide +kernel
theorem dX5_floodHours_28 : decode cX5_floodHours 28 = .ok (.imul, 1) := by decide +kernel
theorem dX5_floodHours_29 : decode cX5_floodHours 29 = .ok (.aload_n 0, 1) := by decide +kernel
theorem dX5_floodHours_30 : decode cX5_floodHours 30 = .ok (.iload_n 1, 1) := by decide +kernel
theorem dX5_floodHours_31 : decode cX5_floodHours 31 = .ok (.iload 4, 2) := by decide +kernel
theorem dX5_floodHours_33 : decode cX5_floodHours 33 = .ok (.invokevirtual 139, 3) := by decide +kernel
theorem dX5_floodHours_36 : decode cX5_floodHours 36 = .ok (.iadd, 1) := by decide +kernel
theorem dX5_floodHours_37 : decode cX5_floodHours 37 = .ok (.ireturn, 1) := by decide +kernel
theorem dX5_floodByHours_0 : decode cX5_floodByHours 0 = .ok (.aload_n 0, 1) := by decide +kernel
theorem dX5_floodByHours_1 : decode cX5_floodByHours 1 = .ok (.iload_n 1, 1) := by decide +kernel
theorem dX5_floodByHours_2 : decode cX5_floodByHours 2 = .ok (.iload_n 2, 1) := by decide +kernel
theorem dX5_floodByHours_3 : decode cX5_floodByHours 3 = .ok (.invokevirtual 135, 3) := by decide +kernel
theorem dX5_floodByHours_6 : decode cX5_floodByHours 6 = .ok (.aload_n 0, 1) := by decide +kernel
theorem dX5_floodByHours_7 : decode cX5_floodByHours 7 = .ok (.iload_n 1, 1) := by decide +kernel
theorem dX5_floodByHours_8 : decode cX5_floodByHours 8 = .ok (.iload_n 2, 1) := by decide +kernel
theorem dX5_floodByHours_9 : decode cX5_floodByHours 9 = .ok (.invokevirtual 139, 3) := by decide +kernel
theorem dX5_floodByHours_12 : decode cX5_floodByHours 12 = .ok (.ireturn, 1) := by decide +kernel
theorem dX5_nextFlood_0 : decode cX5_nextFlood 0 = .ok (.aload_n 0, 1) := by decide +kernel
theorem dX5_nextFlood_1 : decode cX5_nextFlood 1 = .ok (.iload_n 1, 1) := by decide +kernel
theorem dX5_nextFlood_2 : decode cX5_nextFlood 2 = .ok (.invokevirtual 142, 3) := by decide +kernel
theorem dX5_nextFlood_5 : decode cX5_nextFlood 5 = .ok (.iconst 0, 1) := by decide +kernel
theorem dX5_nextFlood_6 : decode cX5_nextFlood 6 = .ok (.istore_n 2, 1) := by decide +kernel
theorem dX5_nextFlood_7 : decode cX5_nextFlood 7 = .ok (.iload_n 2, 1) := by decide +kernel
theorem dX5_nextFlood_8 : decode cX5_nextFlood 8 = .ok (.sipush 400, 3) := by decide +kernel
theorem dX5_nextFlood_11 : decode cX5_nextFlood 11 = .ok (.if_icmp .gt 38, 3) := by decide +kernel
theorem dX5_nextFlood_14 : decode cX5_nextFlood 14 = .ok (.aload_n 0, 1) := by decide +kernel
theorem dX5_nextFlood_15 : decode cX5_nextFlood 15 = .ok (.getfield 51, 3) := by decide +kernel
theorem dX5_nextFlood_18 : decode cX5_nextFlood 18 = .ok (.iload_n 2, 1) := by decide +kernel
theorem dX5_nextFlood_19 : decode cX5_nextFlood 19 = .ok (.iadd, 1) := by decide +kernel
theorem dX5_nextFlood_20 : decode cX5_nextFlood 20 = .ok (.istore_n 3, 1) := by decide +kernel
theorem dX5_nextFlood_21 : decode cX5_nextFlood 21 = .ok (.aload_n 0, 1) := by decide +kernel
theorem dX5_nextFlood_22 : decode cX5_nextFlood 22 = .ok (.getfield 19, 3) := by decide +kernel
theorem dX5_nextFlood_25 : decode cX5_nextFlood 25 = .ok (.iload_n 3, 1) := by decide +kernel
theorem dX5_nextFlood_26 : decode cX5_nextFlood 26 = .ok (.invokevirtual 132, 3) := by decide +kernel
theorem dX5_nextFlood_29 : decode cX5_nextFlood 29 = .ok (.ifCond .ne 14, 3) := by decide +kernel
theorem dX5_nextFlood_32 : decode cX5_nextFlood 32 = .ok (.aload_n 0, 1) := by decide +kernel
theorem dX5_nextFlood_33 : decode cX5_nextFlood 33 = .ok (.iload_n 1, 1) := by decide +kernel
theorem dX5_nextFlood_34 : decode cX5_nextFlood 34 = .ok (.iload_n 3, 1) := by decide +kernel
theorem dX5_nextFlood_35 : decode cX5_nextFlood 35 = .ok (.invokevirtual 145, 3) := by decide +kernel
theorem dX5_nextFlood_38 : decode cX5_nextFlood 38 = .ok (.ifCond .eq 5, 3) := by decide +kernel
theorem dX5_nextFlood_41 : decode cX5_nextFlood 41 = .ok (.iload_n 3, 1) := by decide +kernel
theorem dX5_nextFlood_42 : decode cX5_nextFlood 42 = .ok (.ireturn, 1) := by decide +kernel
theorem dX5_nextFlood_43 : decode cX5_nextFlood 43 = .ok (.iinc 2 1, 3) := by decide +kernel
theorem dX5_nextFlood_46 : decode cX5_nextFlood 46 = .ok (.goto (-39), 3) := by decide +kernel
theorem dX5_nextFlood_49 : decode cX5_nextFlood 49 = .ok (.new 149, 3) := by decide +kernel
theorem dX5_nextFlood_52 : decode cX5_nextFlood 52 = .ok (.dup, 1) := by decide +kernel
theorem dX5_nextFlood_53 : decode cX5_nextFlood 53 = .ok (.ldc 151, 2) := by decide +kernel
theorem dX5_nextFlood_55 : decode cX5_nextFlood 55 = .ok (.invokespecial 153, 3) := by decide +kernel
theorem dX5_nextFlood_58 : decode cX5_nextFlood 58 = .ok (.athrow, 1) := by decide +kernel
theorem dX5_lift_0 : decode cX5_lift 0 = .ok (.aload_n 0, 1) := by decide +kernel
theorem dX5_lift_1 : decode cX5_lift 1 = .ok (.iload_n 1, 1) := by decide +kernel
theorem dX5_lift_2 : decode cX5_lift 2 = .ok (.iload_n 2, 1) := by decide +kernel
theorem dX5_lift_3 : decode cX5_lift 3 = .ok (.invokevirtual 154, 3) := by decide +kernel
theorem dX5_lift_6 : decode cX5_lift 6 = .ok (.aload_n 0, 1) := by decide +kernel
theorem dX5_lift_7 : decode cX5_lift 7 = .ok (.iload_n 1, 1) := by decide +kernel
theorem dX5_lift_8 : decode cX5_lift 8 = .ok (.iload_n 2, 1) := by decide +kernel
theorem dX5_lift_9 : decode cX5_lift 9 = .ok (.invokevirtual 157, 3) := by decide +kernel
theorem dX5_lift_12 : decode cX5_lift 12 = .ok (.bipush 110, 2) := by decide +kernel
theorem dX5_lift_14 : decode cX5_lift 14 = .ok (.if_icmp .eq 13, 3) := by decide +kernel
theorem dX5_lift_17 : decode cX5_lift 17 = .ok (.new 87, 3) := by decide +kernel
theorem dX5_lift_20 : decode cX5_lift 20 = .ok (.dup, 1) := by decide +kernel
theorem dX5_lift_21 : decode cX5_lift 21 = .ok (.ldc 161, 2) := by decide +kernel
theorem dX5_lift_23 : decode cX5_lift 23 = .ok (.invokespecial 91, 3) := by decide +kernel
theorem dX5_lift_26 : decode cX5_lift 26 = .ok (.athrow, 1) := by decide +kernel
theorem dX5_lift_27 : decode cX5_lift 27 = .ok (.aload_n 0, 1) := by decide +kernel
theorem dX5_lift_28 : decode cX5_lift 28 = .ok (.getfield 33, 3) := by decide +kernel
theorem dX5_lift_31 : decode cX5_lift 31 = .ok (.getfield 163, 3) := by decide +kernel
theorem dX5_lift_34 : decode cX5_lift 34 = .ok (.iload_n 1, 1) := by decide +kernel
theorem dX5_lift_35 : decode cX5_lift 35 = .ok (.iload_n 2, 1) := by decide +kernel
theorem dX5_lift_36 : decode cX5_lift 36 = .ok (.iastore, 1) := by decide +kernel
theorem dX5_lift_37 : decode cX5_lift 37 = .ok (.aload_n 0, 1) := by decide +kernel
theorem dX5_lift_38 : decode cX5_lift 38 = .ok (.getfield 26, 3) := by decide +kernel
theorem dX5_lift_41 : decode cX5_lift 41 = .ok (.getfield 167, 3) := by decide +kernel
theorem dX5_lift_44 : decode cX5_lift 44 = .ok (.iload_n 2, 1) := by decide +kernel
theorem dX5_lift_45 : decode cX5_lift 45 = .ok (.iload_n 1, 1) := by decide +kernel
theorem dX5_lift_46 : decode cX5_lift 46 = .ok (.iastore, 1) := by decide +kernel
theorem dX5_lift_47 : decode cX5_lift 47 = .ok (.aload_n 0, 1) := by decide +kernel
theorem dX5_lift_48 : decode cX5_lift 48 = .ok (.iload_n 1, 1) := by decide +kernel
theorem dX5_lift_49 : decode cX5_lift 49 = .ok (.invokevirtual 170, 3) := by decide +kernel
theorem dX5_lift_52 : decode cX5_lift 52 = .ok (.ireturn, 1) := by decide +kernel
theorem dX5_liftReason_0 : decode cX5_liftReason 0 = .ok (.aload_n 0, 1) := by decide +kernel
theorem dX5_liftReason_1 : decode cX5_liftReason 1 = .ok (.iload_n 1, 1) := by decide +kernel
theorem dX5_liftReason_2 : decode cX5_liftReason 2 = .ok (.iload_n 2, 1) := by decide +kernel
theorem dX5_liftReason_3 : decode cX5_liftReason 3 = .ok (.invokevirtual 154, 3) := by decide +kernel
theorem dX5_liftReason_6 : decode cX5_liftReason 6 = .ok (.aload_n 0, 1) := by decide +kernel
theorem dX5_liftReason_7 : decode cX5_liftReason 7 = .ok (.iload_n 1, 1) := by decide +kernel
theorem dX5_liftReason_8 : decode cX5_liftReason 8 = .ok (.iload_n 2, 1) := by decide +kernel
theorem dX5_liftReason_9 : decode cX5_liftReason 9 = .ok (.invokevirtual 157, 3) := by decide +kernel
theorem dX5_liftReason_12 : decode cX5_liftReason 12 = .ok (.ireturn, 1) := by decide +kernel
theorem dX5_launch_0 : decode cX5_launch 0 = .ok (.aload_n 0, 1) := by decide +kernel
theorem dX5_launch_1 : decode cX5_launch 1 = .ok (.iload_n 1, 1) := by decide +kernel
theorem dX5_launch_2 : decode cX5_launch 2 = .ok (.invokevirtual 142, 3) := by decide +kernel
theorem dX5_launch_5 : decode cX5_launch 5 = .ok (.aload_n 0, 1) := by decide +kernel
theorem dX5_launch_6 : decode cX5_launch 6 = .ok (.getfield 33, 3) := by decide +kernel
theorem dX5_launch_9 : decode cX5_launch 9 = .ok (.getfield 163, 3) := by decide +kernel
theorem dX5_launch_12 : decode cX5_launch 12 = .ok (.iload_n 1, 1) := by decide +kernel
theorem dX5_launch_13 : decode cX5_launch 13 = .ok (.iaload, 1) := by decide +kernel
theorem dX5_launch_14 : decode cX5_launch 14 = .ok (.istore_n 2, 1) := by decide +kernel
theorem dX5_launch_15 : decode cX5_launch 15 = .ok (.aload_n 0, 1) := by decide +kernel
theorem dX5_launch_16 : decode cX5_launch 16 = .ok (.getfield 26, 3) := by decide +kernel
theorem dX5_launch_19 : decode cX5_launch 19 = .ok (.iload_n 2, 1) := by decide +kernel
theorem dX5_launch_20 : decode cX5_launch 20 = .ok (.invokevirtual 64, 3) := by decide +kernel
theorem dX5_launch_23 : decode cX5_launch 23 = .ok (.ifCond .eq 14, 3) := by decide +kernel
theorem dX5_launch_26 : decode cX5_launch 26 = .ok (.aload_n 0, 1) := by decide +kernel
theorem dX5_launch_27 : decode cX5_launch 27 = .ok (.iload_n 1, 1) := by decide +kernel
theorem dX5_launch_28 : decode cX5_launch 28 = .ok (.iload_n 2, 1) := by decide +kernel
theorem dX5_launch_29 : decode cX5_launch 29 = .ok (.invokevirtual 173, 3) := by decide +kernel
theorem dX5_launch_32 : decode cX5_launch 32 = .ok (.bipush 110, 2) := by decide +kernel
theorem dX5_launch_34 : decode cX5_launch 34 = .ok (.if_icmp .eq 13, 3) := by decide +kernel
theorem dX5_launch_37 : decode cX5_launch 37 = .ok (.new 87, 3) := by decide +kernel
theorem dX5_launch_40 : decode cX5_launch 40 = .ok (.dup, 1) := by decide +kernel
theorem dX5_launch_41 : decode cX5_launch 41 = .ok (.ldc 176, 2) := by decide +kernel
theorem dX5_launch_43 : decode cX5_launch 43 = .ok (.invokespecial 91, 3) := by decide +kernel
theorem dX5_launch_46 : decode cX5_launch 46 = .ok (.athrow, 1) := by decide +kernel
theorem dX5_launch_47 : decode cX5_launch 47 = .ok (.aload_n 0, 1) := by decide +kernel
theorem dX5_launch_48 : decode cX5_launch 48 = .ok (.getfield 26, 3) := by decide +kernel
theorem dX5_launch_51 : decode cX5_launch 51 = .ok (.getfield 167, 3) := by decide +kernel
theorem dX5_launch_54 : decode cX5_launch 54 = .ok (.iload_n 2, 1) := by decide +kernel
theorem dX5_launch_55 : decode cX5_launch 55 = .ok (.iconst (-1), 1) := by decide +kernel
theorem dX5_launch_56 : decode cX5_launch 56 = .ok (.iastore, 1) := by decide +kernel
theorem dX5_launch_57 : decode cX5_launch 57 = .ok (.aload_n 0, 1) := by decide +kernel
theorem dX5_launch_58 : decode cX5_launch 58 = .ok (.getfield 33, 3) := by decide +kernel
theorem dX5_launch_61 : decode cX5_launch 61 = .ok (.getfield 163, 3) := by decide +kernel
theorem dX5_launch_64 : decode cX5_launch 64 = .ok (.iload_n 1, 1) := by decide +kernel
theorem dX5_launch_65 : decode cX5_launch 65 = .ok (.bipush (-2), 2) := by decide +kernel
theorem dX5_launch_67 : decode cX5_launch 67 = .ok (.iastore, 1) := by decide +kernel
theorem dX5_launch_68 : decode cX5_launch 68 = .ok (.aload_n 0, 1) := by decide +kernel
theorem dX5_launch_69 : decode cX5_launch 69 = .ok (.iload_n 1, 1) := by decide +kernel
theorem dX5_launch_70 : decode cX5_launch 70 = .ok (.invokevirtual 170, 3) := by decide +kernel
theorem dX5_launch_73 : decode cX5_launch 73 = .ok (.ireturn, 1) := by decide +kernel
theorem dX5_launchReason_0 : decode cX5_launchReason 0 = .ok (.aload_n 0, 1) := by decide +kernel
theorem dX5_launchReason_1 : decode cX5_launchReason 1 = .ok (.iload_n 1, 1) := by decide +kernel
theorem dX5_launchReason_2 : decode cX5_launchReason 2 = .ok (.invokevirtual 142, 3) := by decide +kernel
theorem dX5_launchReason_5 : decode cX5_launchReason 5 = .ok (.aload_n 0, 1) := by decide +kernel
theorem dX5_launchReason_6 : decode cX5_launchReason 6 = .ok (.getfield 33, 3) := by decide +kernel
theorem dX5_launchReason_9 : decode cX5_launchReason 9 = .ok (.getfield 163, 3) := by decide +kernel
theorem dX5_launchReason_12 : decode cX5_launchReason 12 = .ok (.iload_n 1, 1) := by decide +kernel
theorem dX5_launchReason_13 : decode cX5_launchReason 13 = .ok (.iaload, 1) := by decide +kernel
theorem dX5_launchReason_14 : decode cX5_launchReason 14 = .ok (.istore_n 2, 1) := by decide +kernel
theorem dX5_launchReason_15 : decode cX5_launchReason 15 = .ok (.aload_n 0, 1) := by decide +kernel
theorem dX5_launchReason_16 : decode cX5_launchReason 16 = .ok (.getfield 26, 3) := by decide +kernel
theorem dX5_launchReason_19 : decode cX5_launchReason 19 = .ok (.iload_n 2, 1) := by decide +kernel
theorem dX5_launchReason_20 : decode cX5_launchReason 20 = .ok (.invokevirtual 64, 3) := by decide +kernel
theorem dX5_launchReason_23 : decode cX5_launchReason 23 = .ok (.ifCond .eq 12, 3) := by decide +kernel
theorem dX5_launchReason_26 : decode cX5_launchReason 26 = .ok (.aload_n 0, 1) := by decide +kernel
theorem dX5_launchReason_27 : decode cX5_launchReason 27 = .ok (.iload_n 1, 1) := by decide +kernel
theorem dX5_launchReason_28 : decode cX5_launchReason 28 = .ok (.iload_n 2, 1) := by decide +kernel
theorem dX5_launchReason_29 : decode cX5_launchReason 29 = .ok (.invokevirtual 173, 3) := by decide +kernel
theorem dX5_launchReason_32 : decode cX5_launchReason 32 = .ok (.goto 5, 3) := by decide +kernel
theorem dX5_launchReason_35 : decode cX5_launchReason 35 = .ok (.bipush 97, 2) := by decide +kernel
theorem dX5_launchReason_37 : decode cX5_launchReason 37 = .ok (.ireturn, 1) := by decide +kernel
theorem dX5_shift_0 : decode cX5_shift 0 = .ok (.aload_n 0, 1) := by decide +kernel
theorem dX5_shift_1 : decode cX5_shift 1 = .ok (.iload_n 1, 1) := by decide +kernel
theorem dX5_shift_2 : decode cX5_shift 2 = .ok (.iload_n 2, 1) := by decide +kernel
theorem dX5_shift_3 : decode cX5_shift 3 = .ok (.invokevirtual 154, 3) := by decide +kernel
theorem dX5_shift_6 : decode cX5_shift 6 = .ok (.aload_n 0, 1) := by decide +kernel
theorem dX5_shift_7 : decode cX5_shift 7 = .ok (.getfield 33, 3) := by decide +kernel
theorem dX5_shift_10 : decode cX5_shift 10 = .ok (.getfield 163, 3) := by decide +kernel
theorem dX5_shift_13 : decode cX5_shift 13 = .ok (.iload_n 1, 1) := by decide +kernel
theorem dX5_shift_14 : decode cX5_shift 14 = .ok (.iaload, 1) := by decide +kernel
theorem dX5_shift_15 : decode cX5_shift 15 = .ok (.istore_n 3, 1) := by decide +kernel
theorem dX5_shift_16 : decode cX5_shift 16 = .ok (.aload_n 0, 1) := by decide +kernel
theorem dX5_shift_17 : decode cX5_shift 17 = .ok (.getfield 26, 3) := by decide +kernel
theorem dX5_shift_20 : decode cX5_shift 20 = .ok (.iload_n 3, 1) := by decide +kernel
theorem dX5_shift_21 : decode cX5_shift 21 = .ok (.invokevirtual 64, 3) := by decide +kernel
theorem dX5_shift_24 : decode cX5_shift 24 = .ok (.ifCond .eq 15, 3) := by decide +kernel
theorem dX5_shift_27 : decode cX5_shift 27 = .ok (.aload_n 0, 1) := by decide +kernel
theorem dX5_shift_28 : decode cX5_shift 28 = .ok (.iload_n 1, 1) := by decide +kernel
theorem dX5_shift_29 : decode cX5_shift 29 = .ok (.iload_n 3, 1) := by decide +kernel
theorem dX5_shift_30 : decode cX5_shift 30 = .ok (.iload_n 2, 1) := by decide +kernel
theorem dX5_shift_31 : decode cX5_shift 31 = .ok (.invokevirtual 178, 3) := by decide +kernel
theorem dX5_shift_34 : decode cX5_shift 34 = .ok (.bipush 110, 2) := by decide +kernel
theorem dX5_shift_36 : decode cX5_shift 36 = .ok (.if_icmp .eq 13, 3) := by decide +kernel
theorem dX5_shift_39 : decode cX5_shift 39 = .ok (.new 87, 3) := by decide +kernel
theorem dX5_shift_42 : decode cX5_shift 42 = .ok (.dup, 1) := by decide +kernel
theorem dX5_shift_43 : decode cX5_shift 43 = .ok (.ldc 182, 2) := by decide +kernel
theorem dX5_shift_45 : decode cX5_shift 45 = .ok (.invokespecial 91, 3) := by decide +kernel
theorem dX5_shift_48 : decode cX5_shift 48 = .ok (.athrow, 1) := by decide +kernel
theorem dX5_shift_49 : decode cX5_shift 49 = .ok (.aload_n 0, 1) := by decide +kernel
theorem dX5_shift_50 : decode cX5_shift 50 = .ok (.getfield 26, 3) := by decide +kernel
theorem dX5_shift_53 : decode cX5_shift 53 = .ok (.getfield 167, 3) := by decide +kernel
theorem dX5_shift_56 : decode cX5_shift 56 = .ok (.iload_n 3, 1) := by decide +kernel
theorem dX5_shift_57 : decode cX5_shift 57 = .ok (.iconst (-1), 1) := by decide +kernel
theorem dX5_shift_58 : decode cX5_shift 58 = .ok (.iastore, 1) := by decide +kernel
theorem dX5_shift_59 : decode cX5_shift 59 = .ok (.aload_n 0, 1) := by decide +kernel
theorem dX5_shift_60 : decode cX5_shift 60 = .ok (.getfield 26, 3) := by decide +kernel
theorem dX5_shift_63 : decode cX5_shift 63 = .ok (.getfield 167, 3) := by decide +kernel
theorem dX5_shift_66 : decode cX5_shift 66 = .ok (.iload_n 2, 1) := by decide +kernel
theorem dX5_shift_67 : decode cX5_shift 67 = .ok (.iload_n 1, 1) := by decide +kernel
theorem dX5_shift_68 : decode cX5_shift 68 = .ok (.iastore, 1) := by decide +kernel
theorem dX5_shift_69 : decode cX5_shift 69 = .ok (.aload_n 0, 1) := by decide +kernel
theorem dX5_shift_70 : decode cX5_shift 70 = .ok (.getfield 33, 3) := by decide +kernel
theorem dX5_shift_73 : decode cX5_shift 73 = .ok (.getfield 163, 3) := by decide +kernel
theorem dX5_shift_76 : decode cX5_shift 76 = .ok (.iload_n 1, 1) := by decide +kernel
theorem dX5_shift_77 : decode cX5_shift 77 = .ok (.iload_n 2, 1) := by decide +kernel
theorem dX5_shift_78 : decode cX5_shift 78 = .ok (.iastore, 1) := by decide +kernel
theorem dX5_shift_79 : decode cX5_shift 79 = .ok (.aload_n 0, 1) := by decide +kernel
theorem dX5_shift_80 : decode cX5_shift 80 = .ok (.iload_n 1, 1) := by decide +kernel
theorem dX5_shift_81 : decode cX5_shift 81 = .ok (.invokevirtual 170, 3) := by decide +kernel
theorem dX5_shift_84 : decode cX5_shift 84 = .ok (.ireturn, 1) := by decide +kernel
theorem dX5_shiftReason_0 : decode cX5_shiftReason 0 = .ok (.aload_n 0, 1) := by decide +kernel
theorem dX5_shiftReason_1 : decode cX5_shiftReason 1 = .ok (.iload_n 1, 1) := by decide +kernel
theorem dX5_shiftReason_2 : decode cX5_shiftReason 2 = .ok (.iload_n 2, 1) := by decide +kernel
theorem dX5_shiftReason_3 : decode cX5_shiftReason 3 = .ok (.invokevirtual 154, 3) := by decide +kernel
theorem dX5_shiftReason_6 : decode cX5_shiftReason 6 = .ok (.aload_n 0, 1) := by decide +kernel
theorem dX5_shiftReason_7 : decode cX5_shiftReason 7 = .ok (.getfield 33, 3) := by decide +kernel
theorem dX5_shiftReason_10 : decode cX5_shiftReason 10 = .ok (.getfield 163, 3) := by decide +kernel
theorem dX5_shiftReason_13 : decode cX5_shiftReason 13 = .ok (.iload_n 1, 1) := by decide +kernel
theorem dX5_shiftReason_14 : decode cX5_shiftReason 14 = .ok (.iaload, 1) := by decide +kernel
theorem dX5_shiftReason_15 : decode cX5_shiftReason 15 = .ok (.istore_n 3, 1) := by decide +kernel
theorem dX5_shiftReason_16 : decode cX5_shiftReason 16 = .ok (.aload_n 0, 1) := by decide +kernel
theorem dX5_shiftReason_17 : decode cX5_shiftReason 17 = .ok (.getfield 26, 3) := by decide +kernel
theorem dX5_shiftReason_20 : decode cX5_shiftReason 20 = .ok (.iload_n 3, 1) := by decide +kernel
theorem dX5_shiftReason_21 : decode cX5_shiftReason 21 = .ok (.invokevirtual 64, 3) := by decide +kernel
theorem dX5_shiftReason_24 : decode cX5_shiftReason 24 = .ok (.ifCond .eq 13, 3) := by decide +kernel
theorem dX5_shiftReason_27 : decode cX5_shiftReason 27 = .ok (.aload_n 0, 1) := by decide +kernel
theorem dX5_shiftReason_28 : decode cX5_shiftReason 28 = .ok (.iload_n 1, 1) := by decide +kernel
theorem dX5_shiftReason_29 : decode cX5_shiftReason 29 = .ok (.iload_n 3, 1) := by decide +kernel
theorem dX5_shiftReason_30 : decode cX5_shiftReason 30 = .ok (.iload_n 2, 1) := by decide +kernel
theorem dX5_shiftReason_31 : decode cX5_shiftReason 31 = .ok (.invokevirtual 178, 3) := by decide +kernel
theorem dX5_shiftReason_34 : decode cX5_shiftReason 34 = .ok (.goto 5, 3) := by decide +kernel
theorem dX5_shiftReason_37 : decode cX5_shiftReason 37 = .ok (.bipush 97, 2) := by decide +kernel
theorem dX5_shiftReason_39 : decode cX5_shiftReason 39 = .ok (.ireturn, 1) := by decide +kernel
theorem dX5_comeBack_0 : decode cX5_comeBack 0 = .ok (.aload_n 0, 1) := by decide +kernel
theorem dX5_comeBack_1 : decode cX5_comeBack 1 = .ok (.iload_n 1, 1) := by decide +kernel
theorem dX5_comeBack_2 : decode cX5_comeBack 2 = .ok (.invokevirtual 142, 3) := by decide +kernel
theorem dX5_comeBack_5 : decode cX5_comeBack 5 = .ok (.aload_n 0, 1) := by decide +kernel
theorem dX5_comeBack_6 : decode cX5_comeBack 6 = .ok (.getfield 33, 3) := by decide +kernel
theorem dX5_comeBack_9 : decode cX5_comeBack 9 = .ok (.getfield 163, 3) := by decide +kernel
theorem dX5_comeBack_12 : decode cX5_comeBack 12 = .ok (.iload_n 1, 1) := by decide +kernel
theorem dX5_comeBack_13 : decode cX5_comeBack 13 = .ok (.iaload, 1) := by decide +kernel
theorem dX5_comeBack_14 : decode cX5_comeBack 14 = .ok (.bipush (-2), 2) := by decide +kernel
theorem dX5_comeBack_16 : decode cX5_comeBack 16 = .ok (.if_icmp .eq 13, 3) := by decide +kernel
theorem dX5_comeBack_19 : decode cX5_comeBack 19 = .ok (.new 87, 3) := by decide +kernel
theorem dX5_comeBack_22 : decode cX5_comeBack 22 = .ok (.dup, 1) := by decide +kernel
theorem dX5_comeBack_23 : decode cX5_comeBack 23 = .ok (.ldc 184, 2) := by decide +kernel
theorem dX5_comeBack_25 : decode cX5_comeBack 25 = .ok (.invokespecial 91, 3) := by decide +kernel
theorem dX5_comeBack_28 : decode cX5_comeBack 28 = .ok (.athrow, 1) := by decide +kernel
theorem dX5_comeBack_29 : decode cX5_comeBack 29 = .ok (.aload_n 0, 1) := by decide +kernel
theorem dX5_comeBack_30 : decode cX5_comeBack 30 = .ok (.getfield 33, 3) := by decide +kernel
theorem dX5_comeBack_33 : decode cX5_comeBack 33 = .ok (.getfield 163, 3) := by decide +kernel
theorem dX5_comeBack_36 : decode cX5_comeBack 36 = .ok (.iload_n 1, 1) := by decide +kernel
theorem dX5_comeBack_37 : decode cX5_comeBack 37 = .ok (.iconst (-1), 1) := by decide +kernel
theorem dX5_comeBack_38 : decode cX5_comeBack 38 = .ok (.iastore, 1) := by decide +kernel
theorem dX5_comeBack_39 : decode cX5_comeBack 39 = .ok (.aload_n 0, 1) := by decide +kernel
theorem dX5_comeBack_40 : decode cX5_comeBack 40 = .ok (.getfield 33, 3) := by decide +kernel
theorem dX5_comeBack_43 : decode cX5_comeBack 43 = .ok (.invokevirtual 186, 3) := by decide +kernel
theorem dX5_comeBack_46 : decode cX5_comeBack 46 = .ok (.ireturn, 1) := by decide +kernel
theorem dX5_nextWaiting_0 : decode cX5_nextWaiting 0 = .ok (.aload_n 0, 1) := by decide +kernel
theorem dX5_nextWaiting_1 : decode cX5_nextWaiting 1 = .ok (.getfield 33, 3) := by decide +kernel
theorem dX5_nextWaiting_4 : decode cX5_nextWaiting 4 = .ok (.invokevirtual 190, 3) := by decide +kernel
theorem dX5_nextWaiting_7 : decode cX5_nextWaiting 7 = .ok (.istore_n 1, 1) := by decide +kernel
theorem dX5_nextWaiting_8 : decode cX5_nextWaiting 8 = .ok (.aload_n 0, 1) := by decide +kernel
theorem dX5_nextWaiting_9 : decode cX5_nextWaiting 9 = .ok (.getfield 33, 3) := by decide +kernel
theorem dX5_nextWaiting_12 : decode cX5_nextWaiting 12 = .ok (.iload_n 1, 1) := by decide +kernel
theorem dX5_nextWaiting_13 : decode cX5_nextWaiting 13 = .ok (.invokevirtual 193, 3) := by decide +kernel
theorem dX5_nextWaiting_16 : decode cX5_nextWaiting 16 = .ok (.ifCond .ne 13, 3) := by decide +kernel
theorem dX5_nextWaiting_19 : decode cX5_nextWaiting 19 = .ok (.new 149, 3) := by decide +kernel
theorem dX5_nextWaiting_22 : decode cX5_nextWaiting 22 = .ok (.dup, 1) := by decide +kernel
theorem dX5_nextWaiting_23 : decode cX5_nextWaiting 23 = .ok (.ldc 194, 2) := by decide +kernel
theorem dX5_nextWaiting_25 : decode cX5_nextWaiting 25 = .ok (.invokespecial 153, 3) := by decide +kernel
theorem dX5_nextWaiting_28 : decode cX5_nextWaiting 28 = .ok (.athrow, 1) := by decide +kernel
theorem dX5_nextWaiting_29 : decode cX5_nextWaiting 29 = .ok (.iload_n 1, 1) := by decide +kernel
theorem dX5_nextWaiting_30 : decode cX5_nextWaiting 30 = .ok (.ireturn, 1) := by decide +kernel
theorem dX5_state_0 : decode cX5_state 0 = .ok (.aload_n 0, 1) := by decide +kernel
theorem dX5_state_1 : decode cX5_state 1 = .ok (.iload_n 1, 1) := by decide +kernel
theorem dX5_state_2 : decode cX5_state 2 = .ok (.invokevirtual 142, 3) := by decide +kernel
theorem dX5_state_5 : decode cX5_state 5 = .ok (.aload_n 0, 1) := by decide +kernel
theorem dX5_state_6 : decode cX5_state 6 = .ok (.getfield 33, 3) := by decide +kernel
theorem dX5_state_9 : decode cX5_state 9 = .ok (.getfield 163, 3) := by decide +kernel
theorem dX5_state_12 : decode cX5_state 12 = .ok (.iload_n 1, 1) := by decide +kernel
theorem dX5_state_13 : decode cX5_state 13 = .ok (.iaload, 1) := by decide +kernel
theorem dX5_state_14 : decode cX5_state 14 = .ok (.iconst (-1), 1) := by decide +kernel
theorem dX5_state_15 : decode cX5_state 15 = .ok (.if_icmp .ne 6, 3) := by decide +kernel
theorem dX5_state_18 : decode cX5_state 18 = .ok (.bipush 119, 2) := by decide +kernel
theorem dX5_state_20 : decode cX5_state 20 = .ok (.ireturn, 1) := by decide +kernel
theorem dX5_state_21 : decode cX5_state 21 = .ok (.aload_n 0, 1) := by decide +kernel
theorem dX5_state_22 : decode cX5_state 22 = .ok (.getfield 33, 3) := by decide +kernel
theorem dX5_state_25 : decode cX5_state 25 = .ok (.getfield 163, 3) := by decide +kernel
theorem dX5_state_28 : decode cX5_state 28 = .ok (.iload_n 1, 1) := by decide +kernel
theorem dX5_state_29 : decode cX5_state 29 = .ok (.iaload, 1) := by decide +kernel
theorem dX5_state_30 : decode cX5_state 30 = .ok (.bipush (-2), 2) := by decide +kernel
theorem dX5_state_32 : decode cX5_state 32 = .ok (.if_icmp .ne 8, 3) := by decide +kernel
theorem dX5_state_35 : decode cX5_state 35 = .ok (.bipush 97, 2) := by decide +kernel
theorem dX5_state_37 : decode cX5_state 37 = .ok (.goto 5, 3) := by decide +kernel
theorem dX5_state_40 : decode cX5_state 40 = .ok (.bipush 98, 2) := by decide +kernel
theorem dX5_state_42 : decode cX5_state 42 = .ok (.ireturn, 1) := by decide +kernel
theorem dX5_berthOf_0 : decode cX5_berthOf 0 = .ok (.aload_n 0, 1) := by decide +kernel
theorem dX5_berthOf_1 : decode cX5_berthOf 1 = .ok (.iload_n 1, 1) := by decide +kernel
theorem dX5_berthOf_2 : decode cX5_berthOf 2 = .ok (.invokevirtual 142, 3) := by decide +kernel
theorem dX5_berthOf_5 : decode cX5_berthOf 5 = .ok (.aload_n 0, 1) := by decide +kernel
theorem dX5_berthOf_6 : decode cX5_berthOf 6 = .ok (.getfield 26, 3) := by decide +kernel
theorem dX5_berthOf_9 : decode cX5_berthOf 9 = .ok (.aload_n 0, 1) := by decide +kernel
theorem dX5_berthOf_10 : decode cX5_berthOf 10 = .ok (.getfield 33, 3) := by decide +kernel
theorem dX5_berthOf_13 : decode cX5_berthOf 13 = .ok (.getfield 163, 3) := by decide +kernel
theorem dX5_berthOf_16 : decode cX5_berthOf 16 = .ok (.iload_n 1, 1) := by decide +kernel
theorem dX5_berthOf_17 : decode cX5_berthOf 17 = .ok (.iaload, 1) := by decide +kernel
theorem dX5_berthOf_18 : decode cX5_berthOf 18 = .ok (.invokevirtual 64, 3) := by decide +kernel
theorem dX5_berthOf_21 : decode cX5_berthOf 21 = .ok (.ifCond .ne 13, 3) := by decide +kernel
theorem dX5_berthOf_24 : decode cX5_berthOf 24 = .ok (.new 149, 3) := by decide +kernel
theorem dX5_berthOf_27 : decode cX5_berthOf 27 = .ok (.dup, 1) := by decide +kernel
theorem dX5_berthOf_28 : decode cX5_berthOf 28 = .ok (.ldc 196, 2) := by decide +kernel
theorem dX5_berthOf_30 : decode cX5_berthOf 30 = .ok (.invokespecial 153, 3) := by decide +kernel
theorem dX5_berthOf_33 : decode cX5_berthOf 33 = .ok (.athrow, 1) := by decide +kernel
theorem dX5_berthOf_34 : decode cX5_berthOf 34 = .ok (.aload_n 0, 1) := by decide +kernel
theorem dX5_berthOf_35 : decode cX5_berthOf 35 = .ok (.getfield 33, 3) := by decide +kernel
theorem dX5_berthOf_38 : decode cX5_berthOf 38 = .ok (.getfield 163, 3) := by decide +kernel
theorem dX5_berthOf_41 : decode cX5_berthOf 41 = .ok (.iload_n 1, 1) := by decide +kernel
theorem dX5_berthOf_42 : decode cX5_berthOf 42 = .ok (.iaload, 1) := by decide +kernel
theorem dX5_berthOf_43 : decode cX5_berthOf 43 = .ok (.ireturn, 1) := by decide +kernel
theorem dX5_boatIn_0 : decode cX5_boatIn 0 = .ok (.aload_n 0, 1) := by decide +kernel
theorem dX5_boatIn_1 : decode cX5_boatIn 1 = .ok (.iload_n 1, 1) := by decide +kernel
theorem dX5_boatIn_2 : decode cX5_boatIn 2 = .ok (.invokevirtual 198, 3) := by decide +kernel
theorem dX5_boatIn_5 : decode cX5_boatIn 5 = .ok (.aload_n 0, 1) := by decide +kernel
theorem dX5_boatIn_6 : decode cX5_boatIn 6 = .ok (.getfield 26, 3) := by decide +kernel
theorem dX5_boatIn_9 : decode cX5_boatIn 9 = .ok (.getfield 167, 3) := by decide +kernel
theorem dX5_boatIn_12 : decode cX5_boatIn 12 = .ok (.iload_n 1, 1) := by decide +kernel
theorem dX5_boatIn_13 : decode cX5_boatIn 13 = .ok (.iaload, 1) := by decide +kernel
theorem dX5_boatIn_14 : decode cX5_boatIn 14 = .ok (.iconst (-1), 1) := by decide +kernel
theorem dX5_boatIn_15 : decode cX5_boatIn 15 = .ok (.if_icmp .ne 13, 3) := by decide +kernel
theorem dX5_boatIn_18 : decode cX5_boatIn 18 = .ok (.new 149, 3) := by decide +kernel
theorem dX5_boatIn_21 : decode cX5_boatIn 21 = .ok (.dup, 1) := by decide +kernel
theorem dX5_boatIn_22 : decode cX5_boatIn 22 = .ok (.ldc 201, 2) := by decide +kernel
theorem dX5_boatIn_24 : decode cX5_boatIn 24 = .ok (.invokespecial 153, 3) := by decide +kernel
theorem dX5_boatIn_27 : decode cX5_boatIn 27 = .ok (.athrow, 1) := by decide +kernel
theorem dX5_boatIn_28 : decode cX5_boatIn 28 = .ok (.aload_n 0, 1) := by decide +kernel
theorem dX5_boatIn_29 : decode cX5_boatIn 29 = .ok (.getfield 26, 3) := by decide +kernel
theorem dX5_boatIn_32 : decode cX5_boatIn 32 = .ok (.getfield 167, 3) := by decide +kernel
theorem dX5_boatIn_35 : decode cX5_boatIn 35 = .ok (.iload_n 1, 1) := by decide +kernel
theorem dX5_boatIn_36 : decode cX5_boatIn 36 = .ok (.iaload, 1) := by decide +kernel
theorem dX5_boatIn_37 : decode cX5_boatIn 37 = .ok (.ireturn, 1) := by decide +kernel
theorem dX5_paint_0 : decode cX5_paint 0 = .ok (.aload_n 0, 1) := by decide +kernel
theorem dX5_paint_1 : decode cX5_paint 1 = .ok (.iload_n 1, 1) := by decide +kernel
theorem dX5_paint_2 : decode cX5_paint 2 = .ok (.invokevirtual 142, 3) := by decide +kernel
theorem dX5_paint_5 : decode cX5_paint 5 = .ok (.iload_n 2, 1) := by decide +kernel
theorem dX5_paint_6 : decode cX5_paint 6 = .ok (.iconst 4, 1) := by decide +kernel
theorem dX5_paint_7 : decode cX5_paint 7 = .ok (.bipush 48, 2) := by decide +kernel
theorem dX5_paint_9 : decode cX5_paint 9 = .ok (.invokestatic 75, 3) := by decide +kernel
theorem dX5_paint_12 : decode cX5_paint 12 = .ok (.ifCond .eq 13, 3) := by decide +kernel
theorem dX5_paint_15 : decode cX5_paint 15 = .ok (.new 79, 3) := by decide +kernel
theorem dX5_paint_18 : decode cX5_paint 18 = .ok (.dup, 1) := by decide +kernel
theorem dX5_paint_19 : decode cX5_paint 19 = .ok (.ldc 203, 2) := by decide +kernel
theorem dX5_paint_21 : decode cX5_paint 21 = .ok (.invokespecial 83, 3) := by decide +kernel
theorem dX5_paint_24 : decode cX5_paint 24 = .ok (.athrow, 1) := by decide +kernel
theorem dX5_paint_25 : decode cX5_paint 25 = .ok (.aload_n 0, 1) := by decide +kernel
theorem dX5_paint_26 : decode cX5_paint 26 = .ok (.getfield 26, 3) := by decide +kernel
theorem dX5_paint_29 : decode cX5_paint 29 = .ok (.aload_n 0, 1) := by decide +kernel
theorem dX5_paint_30 : decode cX5_paint 30 = .ok (.getfield 33, 3) := by decide +kernel
theorem dX5_paint_33 : decode cX5_paint 33 = .ok (.getfield 163, 3) := by decide +kernel
theorem dX5_paint_36 : decode cX5_paint 36 = .ok (.iload_n 1, 1) := by decide +kernel
theorem dX5_paint_37 : decode cX5_paint 37 = .ok (.iaload, 1) := by decide +kernel
theorem dX5_paint_38 : decode cX5_paint 38 = .ok (.invokevirtual 64, 3) := by decide +kernel
theorem dX5_paint_41 : decode cX5_paint 41 = .ok (.ifCond .eq 29, 3) := by decide +kernel
theorem dX5_paint_44 : decode cX5_paint 44 = .ok (.aload_n 0, 1) := by decide +kernel
theorem dX5_paint_45 : decode cX5_paint 45 = .ok (.getfield 33, 3) := by decide +kernel
theorem dX5_paint_48 : decode cX5_paint 48 = .ok (.getfield 205, 3) := by decide +kernel
theorem dX5_paint_51 : decode cX5_paint 51 = .ok (.iload_n 1, 1) := by decide +kernel
theorem dX5_paint_52 : decode cX5_paint 52 = .ok (.iaload, 1) := by decide +kernel
theorem dX5_paint_53 : decode cX5_paint 53 = .ok (.ifCond .gt 17, 3) := by decide +kernel
theorem dX5_paint_56 : decode cX5_paint 56 = .ok (.aload_n 0, 1) := by decide +kernel
theorem dX5_paint_57 : decode cX5_paint 57 = .ok (.getfield 19, 3) := by decide +kernel
theorem dX5_paint_60 : decode cX5_paint 60 = .ok (.aload_n 0, 1) := by decide +kernel
theorem dX5_paint_61 : decode cX5_paint 61 = .ok (.getfield 51, 3) := by decide +kernel
theorem dX5_paint_64 : decode cX5_paint 64 = .ok (.invokevirtual 132, 3) := by decide +kernel
theorem dX5_paint_67 : decode cX5_paint 67 = .ok (.ifCond .eq 13, 3) := by decide +kernel
theorem dX5_paint_70 : decode cX5_paint 70 = .ok (.new 87, 3) := by decide +kernel
theorem dX5_paint_73 : decode cX5_paint 73 = .ok (.dup, 1) := by decide +kernel
theorem dX5_paint_74 : decode cX5_paint 74 = .ok (.ldc 208, 2) := by decide +kernel
theorem dX5_paint_76 : decode cX5_paint 76 = .ok (.invokespecial 91, 3) := by decide +kernel
theorem dX5_paint_79 : decode cX5_paint 79 = .ok (.athrow, 1) := by decide +kernel
theorem dX5_paint_80 : decode cX5_paint 80 = .ok (.aload_n 0, 1) := by decide +kernel
theorem dX5_paint_81 : decode cX5_paint 81 = .ok (.getfield 33, 3) := by decide +kernel
theorem dX5_paint_84 : decode cX5_paint 84 = .ok (.getfield 205, 3) := by decide +kernel
theorem dX5_paint_87 : decode cX5_paint 87 = .ok (.iload_n 1, 1) := by decide +kernel
theorem dX5_paint_88 : decode cX5_paint 88 = .ok (.iload_n 2, 1) := by decide +kernel
theorem dX5_paint_89 : decode cX5_paint 89 = .ok (.iastore, 1) := by decide +kernel
theorem dX5_paint_90 : decode cX5_paint 90 = .ok (.aload_n 0, 1) := by decide +kernel
theorem dX5_paint_91 : decode cX5_paint 91 = .ok (.getfield 33, 3) := by decide +kernel
theorem dX5_paint_94 : decode cX5_paint 94 = .ok (.getfield 210, 3) := by decide +kernel
theorem dX5_paint_97 : decode cX5_paint 97 = .ok (.iload_n 1, 1) := by decide +kernel
theorem dX5_paint_98 : decode cX5_paint 98 = .ok (.dup2, 1) := by decide +kernel
theorem dX5_paint_99 : decode cX5_paint 99 = .ok (.iaload, 1) := by decide +kernel
theorem dX5_paint_100 : decode cX5_paint 100 = .ok (.iconst 1, 1) := by decide +kernel
theorem dX5_paint_101 : decode cX5_paint 101 = .ok (.iadd, 1) := by decide +kernel
theorem dX5_paint_102 : decode cX5_paint 102 = .ok (.iastore, 1) := by decide +kernel
theorem dX5_paint_103 : decode cX5_paint 103 = .ok (.aload_n 0, 1) := by decide +kernel
theorem dX5_paint_104 : decode cX5_paint 104 = .ok (.getfield 33, 3) := by decide +kernel
theorem dX5_paint_107 : decode cX5_paint 107 = .ok (.getfield 210, 3) := by decide +kernel
theorem dX5_paint_110 : decode cX5_paint 110 = .ok (.iload_n 1, 1) := by decide +kernel
theorem dX5_paint_111 : decode cX5_paint 111 = .ok (.iaload, 1) := by decide +kernel
theorem dX5_paint_112 : decode cX5_paint 112 = .ok (.ireturn, 1) := by decide +kernel
theorem dX5_dryLeft_0 : decode cX5_dryLeft 0 = .ok (.aload_n 0, 1) := by decide +kernel
theorem dX5_dryLeft_1 : decode cX5_dryLeft 1 = .ok (.iload_n 1, 1) := by decide +kernel
theorem dX5_dryLeft_2 : decode cX5_dryLeft 2 = .ok (.invokevirtual 142, 3) := by decide +kernel
theorem dX5_dryLeft_5 : decode cX5_dryLeft 5 = .ok (.aload_n 0, 1) := by decide +kernel
theorem dX5_dryLeft_6 : decode cX5_dryLeft 6 = .ok (.getfield 33, 3) := by decide +kernel
theorem dX5_dryLeft_9 : decode cX5_dryLeft 9 = .ok (.getfield 205, 3) := by decide +kernel
theorem dX5_dryLeft_12 : decode cX5_dryLeft 12 = .ok (.iload_n 1, 1) := by decide +kernel
theorem dX5_dryLeft_13 : decode cX5_dryLeft 13 = .ok (.iaload, 1) := by decide +kernel
theorem dX5_dryLeft_14 : decode cX5_dryLeft 14 = .ok (.ireturn, 1) := by decide +kernel
theorem dX5_dryAt_0 : decode cX5_dryAt 0 = .ok (.aload_n 0, 1) := by decide +kernel
theorem dX5_dryAt_1 : decode cX5_dryAt 1 = .ok (.iload_n 1, 1) := by decide +kernel
theorem dX5_dryAt_2 : decode cX5_dryAt 2 = .ok (.invokevirtual 142, 3) := by decide +kernel
theorem dX5_dryAt_5 : decode cX5_dryAt 5 = .ok (.aload_n 0, 1) := by decide +kernel
theorem dX5_dryAt_6 : decode cX5_dryAt 6 = .ok (.getfield 19, 3) := by decide +kernel
theorem dX5_dryAt_9 : decode cX5_dryAt 9 = .ok (.aload_n 0, 1) := by decide +kernel
theorem dX5_dryAt_10 : decode cX5_dryAt 10 = .ok (.getfield 51, 3) := by decide +kernel
theorem dX5_dryAt_13 : decode cX5_dryAt 13 = .ok (.aload_n 0, 1) := by decide +kernel
theorem dX5_dryAt_14 : decode cX5_dryAt 14 = .ok (.getfield 33, 3) := by decide +kernel
theorem dX5_dryAt_17 : decode cX5_dryAt 17 = .ok (.getfield 205, 3) := by decide +kernel
theorem dX5_dryAt_20 : decode cX5_dryAt 20 = .ok (.iload_n 1, 1) := by decide +kernel
theorem dX5_dryAt_21 : decode cX5_dryAt 21 = .ok (.iaload, 1) := by decide +kernel
theorem dX5_dryAt_22 : decode cX5_dryAt 22 = .ok (.invokevirtual 213, 3) := by decide +kernel
theorem dX5_dryAt_25 : decode cX5_dryAt 25 = .ok (.ireturn, 1) := by decide +kernel
theorem dX5_dryByHours_0 : decode cX5_dryByHours 0 = .ok (.aload_n 0, 1) := by decide +kernel
theorem dX5_dryByHours_1 : decode cX5_dryByHours 1 = .ok (.iload_n 1, 1) := by decide +kernel
theorem dX5_dryByHours_2 : decode cX5_dryByHours 2 = .ok (.invokevirtual 142, 3) := by decide +kernel
theorem dX5_dryByHours_5 : decode cX5_dryByHours 5 = .ok (.aload_n 0, 1) := by decide +kernel
theorem dX5_dryByHours_6 : decode cX5_dryByHours 6 = .ok (.getfield 19, 3) := by decide +kernel
theorem dX5_dryByHours_9 : decode cX5_dryByHours 9 = .ok (.aload_n 0, 1) := by decide +kernel
theorem dX5_dryByHours_10 : decode cX5_dryByHours 10 = .ok (.getfield 51, 3) := by decide +kernel
theorem dX5_dryByHours_13 : decode cX5_dryByHours 13 = .ok (.aload_n 0, 1) := by decide +kernel
theorem dX5_dryByHours_14 : decode cX5_dryByHours 14 = .ok (.getfield 33, 3) := by decide +kernel
theorem dX5_dryByHours_17 : decode cX5_dryByHours 17 = .ok (.getfield 205, 3) := by decide +kernel
theorem dX5_dryByHours_20 : decode cX5_dryByHours 20 = .ok (.iload_n 1, 1) := by decide +kernel
theorem dX5_dryByHours_21 : decode cX5_dryByHours 21 = .ok (.iaload, 1) := by decide +kernel
theorem dX5_dryByHours_22 : decode cX5_dryByHours 22 = .ok (.invokevirtual 216, 3) := by decide +kernel
theorem dX5_dryByHours_25 : decode cX5_dryByHours 25 = .ok (.ireturn, 1) := by decide +kernel
theorem dX5_pass_0 : decode cX5_pass 0 = .ok (.iload_n 1, 1) := by decide +kernel
theorem dX5_pass_1 : decode cX5_pass 1 = .ok (.iconst 1, 1) := by decide +kernel
theorem dX5_pass_2 : decode cX5_pass 2 = .ok (.sipush 336, 3) := by decide +kernel
theorem dX5_pass_5 : decode cX5_pass 5 = .ok (.invokestatic 75, 3) := by decide +kernel
theorem dX5_pass_8 : decode cX5_pass 8 = .ok (.ifCond .ne 15, 3) := by decide +kernel
theorem dX5_pass_11 : decode cX5_pass 11 = .ok (.aload_n 0, 1) := by decide +kernel
theorem dX5_pass_12 : decode cX5_pass 12 = .ok (.getfield 51, 3) := by decide +kernel
theorem dX5_pass_15 : decode cX5_pass 15 = .ok (.iload_n 1, 1) := by decide +kernel
theorem dX5_pass_16 : decode cX5_pass 16 = .ok (.iadd, 1) := by decide +kernel
theorem dX5_pass_17 : decode cX5_pass 17 = .ok (.sipush 9999, 3) := by decide +kernel
theorem dX5_pass_20 : decode cX5_pass 20 = .ok (.if_icmp .le 13, 3) := by decide +kernel
theorem dX5_pass_23 : decode cX5_pass 23 = .ok (.new 79, 3) := by decide +kernel
theorem dX5_pass_26 : decode cX5_pass 26 = .ok (.dup, 1) := by decide +kernel
theorem dX5_pass_27 : decode cX5_pass 27 = .ok (.ldc 203, 2) := by decide +kernel
theorem dX5_pass_29 : decode cX5_pass 29 = .ok (.invokespecial 83, 3) := by decide +kernel
theorem dX5_pass_32 : decode cX5_pass 32 = .ok (.athrow, 1) := by decide +kernel
theorem dX5_pass_33 : decode cX5_pass 33 = .ok (.iconst 0, 1) := by decide +kernel
theorem dX5_pass_34 : decode cX5_pass 34 = .ok (.istore_n 2, 1) := by decide +kernel
theorem dX5_pass_35 : decode cX5_pass 35 = .ok (.iload_n 2, 1) := by decide +kernel
theorem dX5_pass_36 : decode cX5_pass 36 = .ok (.iload_n 1, 1) := by decide +kernel
theorem dX5_pass_37 : decode cX5_pass 37 = .ok (.if_icmp .ge 40, 3) := by decide +kernel
theorem dX5_pass_40 : decode cX5_pass 40 = .ok (.aload_n 0, 1) := by decide +kernel
theorem dX5_pass_41 : decode cX5_pass 41 = .ok (.getfield 19, 3) := by decide +kernel
theorem dX5_pass_44 : decode cX5_pass 44 = .ok (.aload_n 0, 1) := by decide +kernel
theorem dX5_pass_45 : decode cX5_pass 45 = .ok (.getfield 51, 3) := by decide +kernel
theorem dX5_pass_48 : decode cX5_pass 48 = .ok (.invokevirtual 132, 3) := by decide +kernel
theorem dX5_pass_51 : decode cX5_pass 51 = .ok (.ifCond .ne 10, 3) := by decide +kernel
theorem dX5_pass_54 : decode cX5_pass 54 = .ok (.aload_n 0, 1) := by decide +kernel
theorem dX5_pass_55 : decode cX5_pass 55 = .ok (.getfield 33, 3) := by decide +kernel
theorem dX5_pass_58 : decode cX5_pass 58 = .ok (.invokevirtual 219, 3) := by decide +kernel
theorem dX5_pass_61 : decode cX5_pass 61 = .ok (.aload_n 0, 1) := by decide +kernel
theorem dX5_pass_62 : decode cX5_pass 62 = .ok (.dup, 1) := by decide +kernel
theorem dX5_pass_63 : decode cX5_pass 63 = .ok (.getfield 51, 3) := by decide +kernel
theorem dX5_pass_66 : decode cX5_pass 66 = .ok (.iconst 1, 1) := by decide +kernel
theorem dX5_pass_67 : decode cX5_pass 67 = .ok (.iadd, 1) := by decide +kernel
theorem dX5_pass_68 : decode cX5_pass 68 = .ok (.putfield 51, 3) := by decide +kernel
theorem dX5_pass_71 : decode cX5_pass 71 = .ok (.iinc 2 1, 3) := by decide +kernel
theorem dX5_pass_74 : decode cX5_pass 74 = .ok (.goto (-39), 3) := by decide +kernel
theorem dX5_pass_77 : decode cX5_pass 77 = .ok (.aload_n 0, 1) := by decide +kernel
theorem dX5_pass_78 : decode cX5_pass 78 = .ok (.getfield 51, 3) := by decide +kernel
theorem dX5_pass_81 : decode cX5_pass 81 = .ok (.ireturn, 1) := by decide +kernel
theorem dX5_time_0 : decode cX5_time 0 = .ok (.aload_n 0, 1) := by decide +kernel
theorem dX5_time_1 : decode cX5_time 1 = .ok (.getfield 51, 3) := by decide +kernel
theorem dX5_time_4 : decode cX5_time 4 = .ok (.ireturn, 1) := by decide +kernel
theorem dX5_leastShifted_0 : decode cX5_leastShifted 0 = .ok (.aload_n 0, 1) := by decide +kernel
theorem dX5_leastShifted_1 : decode cX5_leastShifted 1 = .ok (.iload_n 1, 1) := by decide +kernel
theorem dX5_leastShifted_2 : decode cX5_leastShifted 2 = .ok (.invokevirtual 222, 3) := by decide +kernel
theorem dX5_leastShifted_5 : decode cX5_leastShifted 5 = .ok (.aload_n 0, 1) := by decide +kernel
theorem dX5_leastShifted_6 : decode cX5_leastShifted 6 = .ok (.iload_n 1, 1) := by decide +kernel
theorem dX5_leastShifted_7 : decode cX5_leastShifted 7 = .ok (.invokevirtual 225, 3) := by decide +kernel
theorem dX5_leastShifted_10 : decode cX5_leastShifted 10 = .ok (.ifCond .eq 7, 3) := by decide +kernel
theorem dX5_leastShifted_13 : decode cX5_leastShifted 13 = .ok (.iconst 0, 1) := by decide +kernel
theorem dX5_leastShifted_14 : decode cX5_leastShifted 14 = .ok (.goto 8, 3) := by decide +kernel
theorem dX5_leastShifted_17 : decode cX5_leastShifted 17 = .ok (.aload_n 0, 1) := by decide +kernel
theorem dX5_leastShifted_18 : decode cX5_leastShifted 18 = .ok (.iload_n 1, 1) := by decide +kernel
theorem dX5_leastShifted_19 : decode cX5_leastShifted 19 = .ok (.invokevirtual 228, 3) := by decide +kernel
theorem dX5_leastShifted_22 : decode cX5_leastShifted 22 = .ok (.istore_n 2, 1) := by decide +kernel
theorem dX5_leastShifted_23 : decode cX5_leastShifted 23 = .ok (.iload_n 2, 1) := by decide +kernel
theorem dX5_leastShifted_24 : decode cX5_leastShifted 24 = .ok (.iconst (-1), 1) := by decide +kernel
theorem dX5_leastShifted_25 : decode cX5_leastShifted 25 = .ok (.if_icmp .ne 13, 3) := by decide +kernel
theorem dX5_leastShifted_28 : decode cX5_leastShifted 28 = .ok (.new 149, 3) := by decide +kernel
theorem dX5_leastShifted_31 : decode cX5_leastShifted 31 = .ok (.dup, 1) := by decide +kernel
theorem dX5_leastShifted_32 : decode cX5_leastShifted 32 = .ok (.ldc 231, 2) := by decide +kernel
theorem dX5_leastShifted_34 : decode cX5_leastShifted 34 = .ok (.invokespecial 153, 3) := by decide +kernel
theorem dX5_leastShifted_37 : decode cX5_leastShifted 37 = .ok (.athrow, 1) := by decide +kernel
theorem dX5_leastShifted_38 : decode cX5_leastShifted 38 = .ok (.iload_n 2, 1) := by decide +kernel
theorem dX5_leastShifted_39 : decode cX5_leastShifted 39 = .ok (.ireturn, 1) := by decide +kernel
theorem dX5_leastByRounds_0 : decode cX5_leastByRounds 0 = .ok (.aload_n 0, 1) := by decide +kernel
theorem dX5_leastByRounds_1 : decode cX5_leastByRounds 1 = .ok (.iload_n 1, 1) := by decide +kernel
theorem dX5_leastByRounds_2 : decode cX5_leastByRounds 2 = .ok (.invokevirtual 222, 3) := by decide +kernel
theorem dX5_leastByRounds_5 : decode cX5_leastByRounds 5 = .ok (.aload_n 0, 1) := by decide +kernel
theorem dX5_leastByRounds_6 : decode cX5_leastByRounds 6 = .ok (.iload_n 1, 1) := by decide +kernel
theorem dX5_leastByRounds_7 : decode cX5_leastByRounds 7 = .ok (.invokevirtual 225, 3) := by decide +kernel
theorem dX5_leastByRounds_10 : decode cX5_leastByRounds 10 = .ok (.ifCond .eq 7, 3) := by decide +kernel
theorem dX5_leastByRounds_13 : decode cX5_leastByRounds 13 = .ok (.iconst 0, 1) := by decide +kernel
theorem dX5_leastByRounds_14 : decode cX5_leastByRounds 14 = .ok (.goto 8, 3) := by decide +kernel
theorem dX5_leastByRounds_17 : decode cX5_leastByRounds 17 = .ok (.aload_n 0, 1) := by decide +kernel
theorem dX5_leastByRounds_18 : decode cX5_leastByRounds 18 = .ok (.iload_n 1, 1) := by decide +kernel
theorem dX5_leastByRounds_19 : decode cX5_leastByRounds 19 = .ok (.invokevirtual 233, 3) := by decide +kernel
theorem dX5_leastByRounds_22 : decode cX5_leastByRounds 22 = .ok (.istore_n 2, 1) := by decide +kernel
theorem dX5_leastByRounds_23 : decode cX5_leastByRounds 23 = .ok (.iload_n 2, 1) := by decide +kernel
theorem dX5_leastByRounds_24 : decode cX5_leastByRounds 24 = .ok (.iconst (-1), 1) := by decide +kernel
theorem dX5_leastByRounds_25 : decode cX5_leastByRounds 25 = .ok (.if_icmp .ne 13, 3) := by decide +kernel
theorem dX5_leastByRounds_28 : decode cX5_leastByRounds 28 = .ok (.new 149, 3) := by decide +kernel
theorem dX5_leastByRounds_31 : decode cX5_leastByRounds 31 = .ok (.dup, 1) := by decide +kernel
theorem dX5_leastByRounds_32 : decode cX5_leastByRounds 32 = .ok (.ldc 231, 2) := by decide +kernel
theorem dX5_leastByRounds_34 : decode cX5_leastByRounds 34 = .ok (.invokespecial 153, 3) := by decide +kernel
theorem dX5_leastByRounds_37 : decode cX5_leastByRounds 37 = .ok (.athrow, 1) := by decide +kernel
theorem dX5_leastByRounds_38 : decode cX5_leastByRounds 38 = .ok (.iload_n 2, 1) := by decide +kernel
theorem dX5_leastByRounds_39 : decode cX5_leastByRounds 39 = .ok (.ireturn, 1) := by decide +kernel
theorem dX5_movedWeight_0 : decode cX5_movedWeight 0 = .ok (.aload_n 0, 1) := by decide +kernel
theorem dX5_movedWeight_1 : decode cX5_movedWeight 1 = .ok (.getfield 60, 3) := by decide +kernel
theorem dX5_movedWeight_4 : decode cX5_movedWeight 4 = .ok (.lreturn, 1) := by decide +kernel
theorem dX5_usedShare_0 : decode cX5_usedShare 0 = .ok (.aload_n 0, 1) := by decide +kernel
theorem dX5_usedShare_1 : decode cX5_usedShare 1 = .ok (.getfield 26, 3) := by decide +kernel
theorem dX5_usedShare_4 : decode cX5_usedShare 4 = .ok (.getfield 84, 3) := by decide +kernel
theorem dX5_usedShare_7 : decode cX5_usedShare 7 = .ok (.ifCond .ne 13, 3) := by decide +kernel
theorem dX5_usedShare_10 : decode cX5_usedShare 10 = .ok (.new 236, 3) := by decide +kernel
theorem dX5_usedShare_13 : decode cX5_usedShare 13 = .ok (.dup, 1) := by decide +kernel
theorem dX5_usedShare_14 : decode cX5_usedShare 14 = .ok (.ldc 238, 2) := by decide +kernel
theorem dX5_usedShare_16 : decode cX5_usedShare 16 = .ok (.invokespecial 240, 3) := by decide +kernel
theorem dX5_usedShare_19 : decode cX5_usedShare 19 = .ok (.athrow, 1) := by decide +kernel
theorem dX5_usedShare_20 : decode cX5_usedShare 20 = .ok (.aload_n 0, 1) := by decide +kernel
theorem dX5_usedShare_21 : decode cX5_usedShare 21 = .ok (.getfield 26, 3) := by decide +kernel
theorem dX5_usedShare_24 : decode cX5_usedShare 24 = .ok (.invokevirtual 241, 3) := by decide +kernel
theorem dX5_usedShare_27 : decode cX5_usedShare 27 = .ok (.invokestatic 244, 3) := by decide +kernel
theorem dX5_usedShare_30 : decode cX5_usedShare 30 = .ok (.i2f, 1) := by decide +kernel
theorem dX5_usedShare_31 : decode cX5_usedShare 31 = .ok (.aload_n 0, 1) := by decide +kernel
theorem dX5_usedShare_32 : decode cX5_usedShare 32 = .ok (.getfield 26, 3) := by decide +kernel
theorem dX5_usedShare_35 : decode cX5_usedShare 35 = .ok (.getfield 84, 3) := by decide +kernel
theorem dX5_usedShare_38 : decode cX5_usedShare 38 = .ok (.i2f, 1) := by decide +kernel
theorem dX5_usedShare_39 : decode cX5_usedShare 39 = .ok (.fdiv, 1) := by decide +kernel
theorem dX5_usedShare_40 : decode cX5_usedShare 40 = .ok (.freturn, 1) := by decide +kernel
theorem dX5_meanDraught_0 : decode cX5_meanDraught 0 = .ok (.aload_n 0, 1) := by decide +kernel
theorem dX5_meanDraught_1 : decode cX5_meanDraught 1 = .ok (.getfield 33, 3) := by decide +kernel
theorem dX5_meanDraught_4 : decode cX5_meanDraught 4 = .ok (.invokevirtual 186, 3) := by decide +kernel
theorem dX5_meanDraught_7 : decode cX5_meanDraught 7 = .ok (.istore_n 1, 1) := by decide +kernel
theorem dX5_meanDraught_8 : decode cX5_meanDraught 8 = .ok (.iload_n 1, 1) := by decide +kernel
theorem dX5_meanDraught_9 : decode cX5_meanDraught 9 = .ok (.ifCond .ne 13, 3) := by decide +kernel
theorem dX5_meanDraught_12 : decode cX5_meanDraught 12 = .ok (.new 236, 3) := by decide +kernel
theorem dX5_meanDraught_15 : decode cX5_meanDraught 15 = .ok (.dup, 1) := by decide +kernel
theorem dX5_meanDraught_16 : decode cX5_meanDraught 16 = .ok (.ldc 194, 2) := by decide +kernel
theorem dX5_meanDraught_18 : decode cX5_meanDraught 18 = .ok (.invokespecial 240, 3) := by decide +kernel
theorem dX5_meanDraught_21 : decode cX5_meanDraught 21 = .ok (.athrow, 1) := by decide +kernel
theorem dX5_meanDraught_22 : decode cX5_meanDraught 22 = .ok (.aload_n 0, 1) := by decide +kernel
theorem dX5_meanDraught_23 : decode cX5_meanDraught 23 = .ok (.getfield 33, 3) := by decide +kernel
theorem dX5_meanDraught_26 : decode cX5_meanDraught 26 = .ok (.invokevirtual 249, 3) := by decide +kernel
theorem dX5_meanDraught_29 : decode cX5_meanDraught 29 = .ok (.i2d, 1) := by decide +kernel
theorem dX5_meanDraught_30 : decode cX5_meanDraught 30 = .ok (.iload_n 1, 1) := by decide +kernel
theorem dX5_meanDraught_31 : decode cX5_meanDraught 31 = .ok (.i2d, 1) := by decide +kernel
theorem dX5_meanDraught_32 : decode cX5_meanDraught 32 = .ok (.ddiv, 1) := by decide +kernel
theorem dX5_meanDraught_33 : decode cX5_meanDraught 33 = .ok (.dreturn, 1) := by decide +kernel
theorem dX5_outside_0 : decode cX5_outside 0 = .ok (.iload_n 0, 1) := by decide +kernel
theorem dX5_outside_1 : decode cX5_outside 1 = .ok (.iload_n 1, 1) := by decide +kernel
theorem dX5_outside_2 : decode cX5_outside 2 = .ok (.if_icmp .lt 8, 3) := by decide +kernel
theorem dX5_outside_5 : decode cX5_outside 5 = .ok (.iload_n 0, 1) := by decide +kernel
theorem dX5_outside_6 : decode cX5_outside 6 = .ok (.iload_n 2, 1) := by decide +kernel
theorem dX5_outside_7 : decode cX5_outside 7 = .ok (.if_icmp .le 7, 3) := by decide +kernel
theorem dX5_outside_10 : decode cX5_outside 10 = .ok (.iconst 1, 1) := by decide +kernel
theorem dX5_outside_11 : decode cX5_outside 11 = .ok (.goto 4, 3) := by decide +kernel
theorem dX5_outside_14 : decode cX5_outside 14 = .ok (.iconst 0, 1) := by decide +kernel
theorem dX5_outside_15 : decode cX5_outside 15 = .ok (.ireturn, 1) := by decide +kernel
theorem dX5_checkBoat_0 : decode cX5_checkBoat 0 = .ok (.aload_n 0, 1) := by decide +kernel
theorem dX5_checkBoat_1 : decode cX5_checkBoat 1 = .ok (.getfield 33, 3) := by decide +kernel
theorem dX5_checkBoat_4 : decode cX5_checkBoat 4 = .ok (.iload_n 1, 1) := by decide +kernel
theorem dX5_checkBoat_5 : decode cX5_checkBoat 5 = .ok (.invokevirtual 193, 3) := by decide +kernel
theorem dX5_checkBoat_8 : decode cX5_checkBoat 8 = .ok (.ifCond .ne 13, 3) := by decide +kernel
theorem dX5_checkBoat_11 : decode cX5_checkBoat 11 = .ok (.new 68, 3) := by decide +kernel
theorem dX5_checkBoat_14 : decode cX5_checkBoat 14 = .ok (.dup, 1) := by decide +kernel
theorem dX5_checkBoat_15 : decode cX5_checkBoat 15 = .ok (.ldc 252, 2) := by decide +kernel
theorem dX5_checkBoat_17 : decode cX5_checkBoat 17 = .ok (.invokespecial 72, 3) := by decide +kernel
theorem dX5_checkBoat_20 : decode cX5_checkBoat 20 = .ok (.athrow, 1) := by decide +kernel
theorem dX5_checkBoat_21 : decode cX5_checkBoat 21 = .ok (.return_, 1) := by decide +kernel
theorem dX5_checkBerth_0 : decode cX5_checkBerth 0 = .ok (.aload_n 0, 1) := by decide +kernel
theorem dX5_checkBerth_1 : decode cX5_checkBerth 1 = .ok (.getfield 26, 3) := by decide +kernel
theorem dX5_checkBerth_4 : decode cX5_checkBerth 4 = .ok (.iload_n 1, 1) := by decide +kernel
theorem dX5_checkBerth_5 : decode cX5_checkBerth 5 = .ok (.invokevirtual 64, 3) := by decide +kernel
theorem dX5_checkBerth_8 : decode cX5_checkBerth 8 = .ok (.ifCond .ne 13, 3) := by decide +kernel
theorem dX5_checkBerth_11 : decode cX5_checkBerth 11 = .ok (.new 68, 3) := by decide +kernel
theorem dX5_checkBerth_14 : decode cX5_checkBerth 14 = .ok (.dup, 1) := by decide +kernel
theorem dX5_checkBerth_15 : decode cX5_checkBerth 15 = .ok (.ldc 254, 2) := by decide +kernel
theorem dX5_checkBerth_17 : decode cX5_checkBerth 17 = .ok (.invokespecial 72, 3) := by decide +kernel
theorem dX5_checkBerth_20 : decode cX5_checkBerth 20 = .ok (.athrow, 1) := by decide +kernel
theorem dX5_checkBerth_21 : decode cX5_checkBerth 21 = .ok (.return_, 1) := by decide +kernel
theorem dX5_checkBoatAndBerth_0 : decode cX5_checkBoatAndBerth 0 = .ok (.aload_n 0, 1) := by decide +kernel
theorem dX5_checkBoatAndBerth_1 : decode cX5_checkBoatAndBerth 1 = .ok (.iload_n 1, 1) := by decide +kernel
theorem dX5_checkBoatAndBerth_2 : decode cX5_checkBoatAndBerth 2 = .ok (.invokevirtual 142, 3) := by decide +kernel
theorem dX5_checkBoatAndBerth_5 : decode cX5_checkBoatAndBerth 5 = .ok (.aload_n 0, 1) := by decide +kernel
theorem dX5_checkBoatAndBerth_6 : decode cX5_checkBoatAndBerth 6 = .ok (.iload_n 2, 1) := by decide +kernel
theorem dX5_checkBoatAndBerth_7 : decode cX5_checkBoatAndBerth 7 = .ok (.invokevirtual 198, 3) := by decide +kernel
theorem dX5_checkBoatAndBerth_10 : decode cX5_checkBoatAndBerth 10 = .ok (.return_, 1) := by decide +kernel
theorem dX5_checkBoatInBerth_0 : decode cX5_checkBoatInBerth 0 = .ok (.aload_n 0, 1) := by decide +kernel
theorem dX5_checkBoatInBerth_1 : decode cX5_checkBoatInBerth 1 = .ok (.iload_n 1, 1) := by decide +kernel
theorem dX5_checkBoatInBerth_2 : decode cX5_checkBoatInBerth 2 = .ok (.invokevirtual 142, 3) := by decide +kernel
theorem dX5_checkBoatInBerth_5 : decode cX5_checkBoatInBerth 5 = .ok (.aload_n 0, 1) := by decide +kernel
theorem dX5_checkBoatInBerth_6 : decode cX5_checkBoatInBerth 6 = .ok (.getfield 26, 3) := by decide +kernel
theorem dX5_checkBoatInBerth_9 : decode cX5_checkBoatInBerth 9 = .ok (.aload_n 0, 1) := by decide +kernel
theorem dX5_checkBoatInBerth_10 : decode cX5_checkBoatInBerth 10 = .ok (.getfield 33, 3) := by decide +kernel
theorem dX5_checkBoatInBerth_13 : decode cX5_checkBoatInBerth 13 = .ok (.getfield 163, 3) := by decide +kernel
theorem dX5_checkBoatInBerth_16 : decode cX5_checkBoatInBerth 16 = .ok (.iload_n 1, 1) := by decide +kernel
theorem dX5_checkBoatInBerth_17 : decode cX5_checkBoatInBerth 17 = .ok (.iaload, 1) := by decide +kernel
theorem dX5_checkBoatInBerth_18 : decode cX5_checkBoatInBerth 18 = .ok (.invokevirtual 64, 3) := by decide +kernel
theorem dX5_checkBoatInBerth_21 : decode cX5_checkBoatInBerth 21 = .ok (.ifCond .ne 13, 3) := by decide +kernel
theorem dX5_checkBoatInBerth_24 : decode cX5_checkBoatInBerth 24 = .ok (.new 87, 3) := by decide +kernel
theorem dX5_checkBoatInBerth_27 : decode cX5_checkBoatInBerth 27 = .ok (.dup, 1) := by decide +kernel
theorem dX5_checkBoatInBerth_28 : decode cX5_checkBoatInBerth 28 = .ok (.ldc 196, 2) := by decide +kernel
theorem dX5_checkBoatInBerth_30 : decode cX5_checkBoatInBerth 30 = .ok (.invokespecial 91, 3) := by decide +kernel
theorem dX5_checkBoatInBerth_33 : decode cX5_checkBoatInBerth 33 = .ok (.athrow, 1) := by decide +kernel
theorem dX5_checkBoatInBerth_34 : decode cX5_checkBoatInBerth 34 = .ok (.return_, 1) := by decide +kernel
theorem dX5_checkHour_0 : decode cX5_checkHour 0 = .ok (.iload_n 1, 1) := by decide +kernel
theorem dX5_checkHour_1 : decode cX5_checkHour 1 = .ok (.iconst 0, 1) := by decide +kernel
theorem dX5_checkHour_2 : decode cX5_checkHour 2 = .ok (.sipush 9999, 3) := by decide +kernel
theorem dX5_checkHour_5 : decode cX5_checkHour 5 = .ok (.invokestatic 75, 3) := by decide +kernel
theorem dX5_checkHour_8 : decode cX5_checkHour 8 = .ok (.ifCond .eq 14, 3) := by decide +kernel
theorem dX5_checkHour_11 : decode cX5_checkHour 11 = .ok (.new 79, 3) := by decide +kernel
theorem dX5_checkHour_14 : decode cX5_checkHour 14 = .ok (.dup, 1) := by decide +kernel
theorem dX5_checkHour_15 : decode cX5_checkHour 15 = .ok (.ldc_w 256, 3) := by decide +kernel
theorem dX5_checkHour_18 : decode cX5_checkHour 18 = .ok (.invokespecial 83, 3) := by decide +kernel
theorem dX5_checkHour_21 : decode cX5_checkHour 21 = .ok (.athrow, 1) := by decide +kernel
theorem dX5_checkHour_22 : decode cX5_checkHour 22 = .ok (.return_, 1) := by decide +kernel
theorem dX5_checkFlood_0 : decode cX5_checkFlood 0 = .ok (.aload_n 0, 1) := by decide +kernel
theorem dX5_checkFlood_1 : decode cX5_checkFlood 1 = .ok (.iload_n 1, 1) := by decide +kernel
theorem dX5_checkFlood_2 : decode cX5_checkFlood 2 = .ok (.invokevirtual 142, 3) := by decide +kernel
theorem dX5_checkFlood_5 : decode cX5_checkFlood 5 = .ok (.iload_n 2, 1) := by decide +kernel
theorem dX5_checkFlood_6 : decode cX5_checkFlood 6 = .ok (.iconst 1, 1) := by decide +kernel
theorem dX5_checkFlood_7 : decode cX5_checkFlood 7 = .ok (.sipush 5000, 3) := by decide +kernel
theorem dX5_checkFlood_10 : decode cX5_checkFlood 10 = .ok (.invokestatic 75, 3) := by decide +kernel
theorem dX5_checkFlood_13 : decode cX5_checkFlood 13 = .ok (.ifCond .eq 13, 3) := by decide +kernel
theorem dX5_checkFlood_16 : decode cX5_checkFlood 16 = .ok (.new 79, 3) := by decide +kernel
theorem dX5_checkFlood_19 : decode cX5_checkFlood 19 = .ok (.dup, 1) := by decide +kernel
theorem dX5_checkFlood_20 : decode cX5_checkFlood 20 = .ok (.ldc 203, 2) := by decide +kernel
theorem dX5_checkFlood_22 : decode cX5_checkFlood 22 = .ok (.invokespecial 83, 3) := by decide +kernel
theorem dX5_checkFlood_25 : decode cX5_checkFlood 25 = .ok (.athrow, 1) := by decide +kernel
theorem dX5_checkFlood_26 : decode cX5_checkFlood 26 = .ok (.return_, 1) := by decide +kernel
theorem dX5_enoughWater_0 : decode cX5_enoughWater 0 = .ok (.aload_n 0, 1) := by decide +kernel
theorem dX5_enoughWater_1 : decode cX5_enoughWater 1 = .ok (.getfield 10, 3) := by decide +kernel
theorem dX5_enoughWater_4 : decode cX5_enoughWater 4 = .ok (.iload_n 2, 1) := by decide +kernel
theorem dX5_enoughWater_5 : decode cX5_enoughWater 5 = .ok (.invokevirtual 113, 3) := by decide +kernel
theorem dX5_enoughWater_8 : decode cX5_enoughWater 8 = .ok (.aload_n 0, 1) := by decide +kernel
theorem dX5_enoughWater_9 : decode cX5_enoughWater 9 = .ok (.getfield 33, 3) := by decide +kernel
theorem dX5_enoughWater_12 : decode cX5_enoughWater 12 = .ok (.getfield 258, 3) := by decide +kernel
theorem dX5_enoughWater_15 : decode cX5_enoughWater 15 = .ok (.iload_n 1, 1) := by decide +kernel
theorem dX5_enoughWater_16 : decode cX5_enoughWater 16 = .ok (.iaload, 1) := by decide +kernel
theorem dX5_enoughWater_17 : decode cX5_enoughWater 17 = .ok (.aload_n 0, 1) := by decide +kernel
theorem dX5_enoughWater_18 : decode cX5_enoughWater 18 = .ok (.getfield 48, 3) := by decide +kernel
theorem dX5_enoughWater_21 : decode cX5_enoughWater 21 = .ok (.iadd, 1) := by decide +kernel
theorem dX5_enoughWater_22 : decode cX5_enoughWater 22 = .ok (.if_icmp .lt 7, 3) := by decide +kernel
theorem dX5_enoughWater_25 : decode cX5_enoughWater 25 = .ok (.iconst 1, 1) := by decide +kernel
theorem dX5_enoughWater_26 : decode cX5_enoughWater 26 = .ok (.goto 4, 3) := by decide +kernel
theorem dX5_enoughWater_29 : decode cX5_enoughWater 29 = .ok (.iconst 0, 1) := by decide +kernel
theorem dX5_enoughWater_30 : decode cX5_enoughWater 30 = .ok (.ireturn, 1) := by decide +kernel
theorem dX5_countFlood_0 : decode cX5_countFlood 0 = .ok (.iconst 0, 1) := by decide +kernel
theorem dX5_countFlood_1 : decode cX5_countFlood 1 = .ok (.istore_n 3, 1) := by decide +kernel
theorem dX5_countFlood_2 : decode cX5_countFlood 2 = .ok (.iconst 0, 1) := by decide +kernel
theorem dX5_countFlood_3 : decode cX5_countFlood 3 = .ok (.istore 4, 2) := by decide +kernel
theorem dX5_countFlood_5 : decode cX5_countFlood 5 = .ok (.iload 4, 2) := by decide +kernel
theorem dX5_countFlood_7 : decode cX5_countFlood 7 = .ok (.iload_n 2, 1) := by decide +kernel
theorem dX5_countFlood_8 : decode cX5_countFlood 8 = .ok (.if_icmp .ge 27, 3) := by decide +kernel
theorem dX5_countFlood_11 : decode cX5_countFlood 11 = .ok (.aload_n 0, 1) := by decide +kernel
theorem dX5_countFlood_12 : decode cX5_countFlood 12 = .ok (.iload_n 1, 1) := by decide +kernel
theorem dX5_countFlood_13 : decode cX5_countFlood 13 = .ok (.aload_n 0, 1) := by decide +kernel
theorem dX5_countFlood_14 : decode cX5_countFlood 14 = .ok (.getfield 51, 3) := by decide +kernel
theorem dX5_countFlood_17 : decode cX5_countFlood 17 = .ok (.iload 4, 2) := by decide +kernel
theorem dX5_countFlood_19 : decode cX5_countFlood 19 = .ok (.iadd, 1) := by decide +kernel
theorem dX5_countFlood_20 : decode cX5_countFlood 20 = .ok (.invokevirtual 145, 3) := by decide +kernel
theorem dX5_countFlood_23 : decode cX5_countFlood 23 = .ok (.ifCond .eq 6, 3) := by decide +kernel
theorem dX5_countFlood_26 : decode cX5_countFlood 26 = .ok (.iinc 3 1, 3) := by decide +kernel
theorem dX5_countFlood_29 : decode cX5_countFlood 29 = .ok (.iinc 4 1, 3) := by decide +kernel
theorem dX5_countFlood_32 : decode cX5_countFlood 32 = .ok (.goto (-27), 3) := by decide +kernel
theorem dX5_countFlood_35 : decode cX5_countFlood 35 = .ok (.iload_n 3, 1) := by decide +kernel
theorem dX5_countFlood_36 : decode cX5_countFlood 36 = .ok (.ireturn, 1) := by decide +kernel
theorem dX5_liftBar_0 : decode cX5_liftBar 0 = .ok (.aload_n 0, 1) := by decide +kernel
theorem dX5_liftBar_1 : decode cX5_liftBar 1 = .ok (.getfield 33, 3) := by decide +kernel
theorem dX5_liftBar_4 : decode cX5_liftBar 4 = .ok (.getfield 163, 3) := by decide +kernel
theorem dX5_liftBar_7 : decode cX5_liftBar 7 = .ok (.iload_n 1, 1) := by decide +kernel
theorem dX5_liftBar_8 : decode cX5_liftBar 8 = .ok (.iaload, 1) := by decide +kernel
theorem dX5_liftBar_9 : decode cX5_liftBar 9 = .ok (.iconst (-1), 1) := by decide +kernel
theorem dX5_liftBar_10 : decode cX5_liftBar 10 = .ok (.if_icmp .eq 6, 3) := by decide +kernel
theorem dX5_liftBar_13 : decode cX5_liftBar 13 = .ok (.bipush 97, 2) := by decide +kernel
theorem dX5_liftBar_15 : decode cX5_liftBar 15 = .ok (.ireturn, 1) := by decide +kernel
theorem dX5_liftBar_16 : decode cX5_liftBar 16 = .ok (.aload_n 0, 1) := by decide +kernel
theorem dX5_liftBar_17 : decode cX5_liftBar 17 = .ok (.getfield 26, 3) := by decide +kernel
theorem dX5_liftBar_20 : decode cX5_liftBar 20 = .ok (.invokevirtual 241, 3) := by decide +kernel
theorem dX5_liftBar_23 : decode cX5_liftBar 23 = .ok (.istore_n 3, 1) := by decide +kernel
theorem dX5_liftBar_24 : decode cX5_liftBar 24 = .ok (.iload_n 3, 1) := by decide +kernel
theorem dX5_liftBar_25 : decode cX5_liftBar 25 = .ok (.iload_n 2, 1) := by decide +kernel
theorem dX5_liftBar_26 : decode cX5_liftBar 26 = .ok (.invokestatic 261, 3) := by decide +kernel
theorem dX5_liftBar_29 : decode cX5_liftBar 29 = .ok (.ifCond .eq 6, 3) := by decide +kernel
theorem dX5_liftBar_32 : decode cX5_liftBar 32 = .ok (.bipush 111, 2) := by decide +kernel
theorem dX5_liftBar_34 : decode cX5_liftBar 34 = .ok (.ireturn, 1) := by decide +kernel
theorem dX5_liftBar_35 : decode cX5_liftBar 35 = .ok (.iload_n 3, 1) := by decide +kernel
theorem dX5_liftBar_36 : decode cX5_liftBar 36 = .ok (.aload_n 0, 1) := by decide +kernel
theorem dX5_liftBar_37 : decode cX5_liftBar 37 = .ok (.getfield 26, 3) := by decide +kernel
theorem dX5_liftBar_40 : decode cX5_liftBar 40 = .ok (.getfield 264, 3) := by decide +kernel
theorem dX5_liftBar_43 : decode cX5_liftBar 43 = .ok (.iload_n 2, 1) := by decide +kernel
theorem dX5_liftBar_44 : decode cX5_liftBar 44 = .ok (.iaload, 1) := by decide +kernel
theorem dX5_liftBar_45 : decode cX5_liftBar 45 = .ok (.iand, 1) := by decide +kernel
theorem dX5_liftBar_46 : decode cX5_liftBar 46 = .ok (.ifCond .eq 6, 3) := by decide +kernel
theorem dX5_liftBar_49 : decode cX5_liftBar 49 = .ok (.bipush 102, 2) := by decide +kernel
theorem dX5_liftBar_51 : decode cX5_liftBar 51 = .ok (.ireturn, 1) := by decide +kernel
theorem dX5_liftBar_52 : decode cX5_liftBar 52 = .ok (.aload_n 0, 1) := by decide +kernel
theorem dX5_liftBar_53 : decode cX5_liftBar 53 = .ok (.iload_n 1, 1) := by decide +kernel
theorem dX5_liftBar_54 : decode cX5_liftBar 54 = .ok (.iload_n 2, 1) := by decide +kernel
theorem dX5_liftBar_55 : decode cX5_liftBar 55 = .ok (.invokevirtual 267, 3) := by decide +kernel
theorem dX5_liftBar_58 : decode cX5_liftBar 58 = .ok (.istore 4, 2) := by decide +kernel
theorem dX5_liftBar_60 : decode cX5_liftBar 60 = .ok (.iload 4, 2) := by decide +kernel
theorem dX5_liftBar_62 : decode cX5_liftBar 62 = .ok (.bipush 110, 2) := by decide +kernel
theorem dX5_liftBar_64 : decode cX5_liftBar 64 = .ok (.if_icmp .eq 6, 3) := by decide +kernel
theorem dX5_liftBar_67 : decode cX5_liftBar 67 = .ok (.iload 4, 2) := by decide +kernel
theorem dX5_liftBar_69 : decode cX5_liftBar 69 = .ok (.ireturn, 1) := by decide +kernel
theorem dX5_liftBar_70 : decode cX5_liftBar 70 = .ok (.aload_n 0, 1) := by decide +kernel
theorem dX5_liftBar_71 : decode cX5_liftBar 71 = .ok (.iload_n 1, 1) := by decide +kernel
theorem dX5_liftBar_72 : decode cX5_liftBar 72 = .ok (.aload_n 0, 1) := by decide +kernel
theorem dX5_liftBar_73 : decode cX5_liftBar 73 = .ok (.getfield 51, 3) := by decide +kernel
theorem dX5_liftBar_76 : decode cX5_liftBar 76 = .ok (.invokevirtual 145, 3) := by decide +kernel
theorem dX5_liftBar_79 : decode cX5_liftBar 79 = .ok (.ifCond .eq 10, 3) := by decide +kernel
theorem dX5_liftBar_82 : decode cX5_liftBar 82 = .ok (.aload_n 0, 1) := by decide +kernel
theorem dX5_liftBar_83 : decode cX5_liftBar 83 = .ok (.invokevirtual 270, 3) := by decide +kernel
theorem dX5_liftBar_86 : decode cX5_liftBar 86 = .ok (.goto 5, 3) := by decide +kernel
theorem dX5_liftBar_89 : decode cX5_liftBar 89 = .ok (.bipush 116, 2) := by decide +kernel
theorem dX5_liftBar_91 : decode cX5_liftBar 91 = .ok (.ireturn, 1) := by decide +kernel
theorem dX5_launchBar_0 : decode cX5_launchBar 0 = .ok (.aload_n 0, 1) := by decide +kernel
theorem dX5_launchBar_1 : decode cX5_launchBar 1 = .ok (.getfield 33, 3) := by decide +kernel
theorem dX5_launchBar_4 : decode cX5_launchBar 4 = .ok (.getfield 205, 3) := by decide +kernel
theorem dX5_launchBar_7 : decode cX5_launchBar 7 = .ok (.iload_n 1, 1) := by decide +kernel
theorem dX5_launchBar_8 : decode cX5_launchBar 8 = .ok (.iaload, 1) := by decide +kernel
theorem dX5_launchBar_9 : decode cX5_launchBar 9 = .ok (.ifCond .le 6, 3) := by decide +kernel
theorem dX5_launchBar_12 : decode cX5_launchBar 12 = .ok (.bipush 100, 2) := by decide +kernel
theorem dX5_launchBar_14 : decode cX5_launchBar 14 = .ok (.ireturn, 1) := by decide +kernel
theorem dX5_launchBar_15 : decode cX5_launchBar 15 = .ok (.aload_n 0, 1) := by decide +kernel
theorem dX5_launchBar_16 : decode cX5_launchBar 16 = .ok (.getfield 26, 3) := by decide +kernel
theorem dX5_launchBar_19 : decode cX5_launchBar 19 = .ok (.invokevirtual 241, 3) := by decide +kernel
theorem dX5_launchBar_22 : decode cX5_launchBar 22 = .ok (.aload_n 0, 1) := by decide +kernel
theorem dX5_launchBar_23 : decode cX5_launchBar 23 = .ok (.getfield 26, 3) := by decide +kernel
theorem dX5_launchBar_26 : decode cX5_launchBar 26 = .ok (.getfield 264, 3) := by decide +kernel
theorem dX5_launchBar_29 : decode cX5_launchBar 29 = .ok (.iload_n 2, 1) := by decide +kernel
theorem dX5_launchBar_30 : decode cX5_launchBar 30 = .ok (.iaload, 1) := by decide +kernel
theorem dX5_launchBar_31 : decode cX5_launchBar 31 = .ok (.iand, 1) := by decide +kernel
theorem dX5_launchBar_32 : decode cX5_launchBar 32 = .ok (.ifCond .eq 6, 3) := by decide +kernel
theorem dX5_launchBar_35 : decode cX5_launchBar 35 = .ok (.bipush 102, 2) := by decide +kernel
theorem dX5_launchBar_37 : decode cX5_launchBar 37 = .ok (.ireturn, 1) := by decide +kernel
theorem dX5_launchBar_38 : decode cX5_launchBar 38 = .ok (.aload_n 0, 1) := by decide +kernel
theorem dX5_launchBar_39 : decode cX5_launchBar 39 = .ok (.getfield 33, 3) := by decide +kernel
theorem dX5_launchBar_42 : decode cX5_launchBar 42 = .ok (.getfield 274, 3) := by decide +kernel
theorem dX5_launchBar_45 : decode cX5_launchBar 45 = .ok (.iload_n 1, 1) := by decide +kernel
theorem dX5_launchBar_46 : decode cX5_launchBar 46 = .ok (.iaload, 1) := by decide +kernel
theorem dX5_launchBar_47 : decode cX5_launchBar 47 = .ok (.aload_n 0, 1) := by decide +kernel
theorem dX5_launchBar_48 : decode cX5_launchBar 48 = .ok (.getfield 44, 3) := by decide +kernel
theorem dX5_launchBar_51 : decode cX5_launchBar 51 = .ok (.if_icmp .le 6, 3) := by decide +kernel
theorem dX5_launchBar_54 : decode cX5_launchBar 54 = .ok (.bipush 119, 2) := by decide +kernel
theorem dX5_launchBar_56 : decode cX5_launchBar 56 = .ok (.ireturn, 1) := by decide +kernel
theorem dX5_launchBar_57 : decode cX5_launchBar 57 = .ok (.aload_n 0, 1) := by decide +kernel
theorem dX5_launchBar_58 : decode cX5_launchBar 58 = .ok (.iload_n 1, 1) := by decide +kernel
theorem dX5_launchBar_59 : decode cX5_launchBar 59 = .ok (.aload_n 0, 1) := by decide +kernel
theorem dX5_launchBar_60 : decode cX5_launchBar 60 = .ok (.getfield 51, 3) := by decide +kernel
theorem dX5_launchBar_63 : decode cX5_launchBar 63 = .ok (.invokevirtual 145, 3) := by decide +kernel
theorem dX5_launchBar_66 : decode cX5_launchBar 66 = .ok (.ifCond .eq 10, 3) := by decide +kernel
theorem dX5_launchBar_69 : decode cX5_launchBar 69 = .ok (.aload_n 0, 1) := by decide +kernel
theorem dX5_launchBar_70 : decode cX5_launchBar 70 = .ok (.invokevirtual 270, 3) := by decide +kernel
theorem dX5_launchBar_73 : decode cX5_launchBar 73 = .ok (.goto 5, 3) := by decide +kernel
theorem dX5_launchBar_76 : decode cX5_launchBar 76 = .ok (.bipush 116, 2) := by decide +kernel
theorem dX5_launchBar_78 : decode cX5_launchBar 78 = .ok (.ireturn, 1) := by decide +kernel
theorem dX5_shiftBar_0 : decode cX5_shiftBar 0 = .ok (.aload_n 0, 1) := by decide +kernel
theorem dX5_shiftBar_1 : decode cX5_shiftBar 1 = .ok (.iload_n 1, 1) := by decide +kernel
theorem dX5_shiftBar_2 : decode cX5_shiftBar 2 = .ok (.iload_n 2, 1) := by decide +kernel
theorem dX5_shiftBar_3 : decode cX5_shiftBar 3 = .ok (.iload_n 3, 1) := by decide +kernel
theorem dX5_shiftBar_4 : decode cX5_shiftBar 4 = .ok (.aload_n 0, 1) := by decide +kernel
theorem dX5_shiftBar_5 : decode cX5_shiftBar 5 = .ok (.getfield 26, 3) := by decide +kernel
theorem dX5_shiftBar_8 : decode cX5_shiftBar 8 = .ok (.invokevirtual 241, 3) := by decide +kernel
theorem dX5_shiftBar_11 : decode cX5_shiftBar 11 = .ok (.invokevirtual 277, 3) := by decide +kernel
theorem dX5_shiftBar_14 : decode cX5_shiftBar 14 = .ok (.istore 4, 2) := by decide +kernel
theorem dX5_shiftBar_16 : decode cX5_shiftBar 16 = .ok (.iload 4, 2) := by decide +kernel
theorem dX5_shiftBar_18 : decode cX5_shiftBar 18 = .ok (.bipush 110, 2) := by decide +kernel
theorem dX5_shiftBar_20 : decode cX5_shiftBar 20 = .ok (.if_icmp .ne 10, 3) := by decide +kernel
theorem dX5_shiftBar_23 : decode cX5_shiftBar 23 = .ok (.aload_n 0, 1) := by decide +kernel
theorem dX5_shiftBar_24 : decode cX5_shiftBar 24 = .ok (.invokevirtual 270, 3) := by decide +kernel
theorem dX5_shiftBar_27 : decode cX5_shiftBar 27 = .ok (.goto 5, 3) := by decide +kernel
theorem dX5_shiftBar_30 : decode cX5_shiftBar 30 = .ok (.iload 4, 2) := by decide +kernel
theorem dX5_shiftBar_32 : decode cX5_shiftBar 32 = .ok (.ireturn, 1) := by decide +kernel
theorem dX5_placeBar_0 : decode cX5_placeBar 0 = .ok (.aload_n 0, 1) := by decide +kernel
theorem dX5_placeBar_1 : decode cX5_placeBar 1 = .ok (.getfield 33, 3) := by decide +kernel
theorem dX5_placeBar_4 : decode cX5_placeBar 4 = .ok (.getfield 205, 3) := by decide +kernel
theorem dX5_placeBar_7 : decode cX5_placeBar 7 = .ok (.iload_n 1, 1) := by decide +kernel
theorem dX5_placeBar_8 : decode cX5_placeBar 8 = .ok (.iaload, 1) := by decide +kernel
theorem dX5_placeBar_9 : decode cX5_placeBar 9 = .ok (.ifCond .le 6, 3) := by decide +kernel
theorem dX5_placeBar_12 : decode cX5_placeBar 12 = .ok (.bipush 100, 2) := by decide +kernel
theorem dX5_placeBar_14 : decode cX5_placeBar 14 = .ok (.ireturn, 1) := by decide +kernel
theorem dX5_placeBar_15 : decode cX5_placeBar 15 = .ok (.iload 4, 2) := by decide +kernel
theorem dX5_placeBar_17 : decode cX5_placeBar 17 = .ok (.iload_n 3, 1) := by decide +kernel
theorem dX5_placeBar_18 : decode cX5_placeBar 18 = .ok (.invokestatic 261, 3) := by decide +kernel
theorem dX5_placeBar_21 : decode cX5_placeBar 21 = .ok (.ifCond .eq 6, 3) := by decide +kernel
theorem dX5_placeBar_24 : decode cX5_placeBar 24 = .ok (.bipush 111, 2) := by decide +kernel
theorem dX5_placeBar_26 : decode cX5_placeBar 26 = .ok (.ireturn, 1) := by decide +kernel
theorem dX5_placeBar_27 : decode cX5_placeBar 27 = .ok (.iload 4, 2) := by decide +kernel
theorem dX5_placeBar_29 : decode cX5_placeBar 29 = .ok (.iconst 1, 1) := by decide +kernel
theorem dX5_placeBar_30 : decode cX5_placeBar 30 = .ok (.iload_n 2, 1) := by decide +kernel
theorem dX5_placeBar_31 : decode cX5_placeBar 31 = .ok (.ishl, 1) := by decide +kernel
theorem dX5_placeBar_32 : decode cX5_placeBar 32 = .ok (.iconst (-1), 1) := by decide +kernel
theorem dX5_placeBar_33 : decode cX5_placeBar 33 = .ok (.ixor, 1) := by decide +kernel
theorem dX5_placeBar_34 : decode cX5_placeBar 34 = .ok (.iand, 1) := by decide +kernel
theorem dX5_placeBar_35 : decode cX5_placeBar 35 = .ok (.istore 5, 2) := by decide +kernel
theorem dX5_placeBar_37 : decode cX5_placeBar 37 = .ok (.iload 5, 2) := by decide +kernel
theorem dX5_placeBar_39 : decode cX5_placeBar 39 = .ok (.aload_n 0, 1) := by decide +kernel
theorem dX5_placeBar_40 : decode cX5_placeBar 40 = .ok (.getfield 26, 3) := by decide +kernel
theorem dX5_placeBar_43 : decode cX5_placeBar 43 = .ok (.getfield 264, 3) := by decide +kernel
theorem dX5_placeBar_46 : decode cX5_placeBar 46 = .ok (.iload_n 2, 1) := by decide +kernel
theorem dX5_placeBar_47 : decode cX5_placeBar 47 = .ok (.iaload, 1) := by decide +kernel
theorem dX5_placeBar_48 : decode cX5_placeBar 48 = .ok (.aload_n 0, 1) := by decide +kernel
theorem dX5_placeBar_49 : decode cX5_placeBar 49 = .ok (.getfield 26, 3) := by decide +kernel
theorem dX5_placeBar_52 : decode cX5_placeBar 52 = .ok (.getfield 264, 3) := by decide +kernel
theorem dX5_placeBar_55 : decode cX5_placeBar 55 = .ok (.iload_n 3, 1) := by decide +kernel
theorem dX5_placeBar_56 : decode cX5_placeBar 56 = .ok (.iaload, 1) := by decide +kernel
theorem dX5_placeBar_57 : decode cX5_placeBar 57 = .ok (.ior, 1) := by decide +kernel
theorem dX5_placeBar_58 : decode cX5_placeBar 58 = .ok (.iand, 1) := by decide +kernel
theorem dX5_placeBar_59 : decode cX5_placeBar 59 = .ok (.ifCond .eq 6, 3) := by decide +kernel
theorem dX5_placeBar_62 : decode cX5_placeBar 62 = .ok (.bipush 102, 2) := by decide +kernel
theorem dX5_placeBar_64 : decode cX5_placeBar 64 = .ok (.ireturn, 1) := by decide +kernel
theorem dX5_placeBar_65 : decode cX5_placeBar 65 = .ok (.aload_n 0, 1) := by decide +kernel
theorem dX5_placeBar_66 : decode cX5_placeBar 66 = .ok (.iload_n 1, 1) := by decide +kernel
theorem dX5_placeBar_67 : decode cX5_placeBar 67 = .ok (.iload_n 3, 1) := by decide +kernel
theorem dX5_placeBar_68 : decode cX5_placeBar 68 = .ok (.invokevirtual 267, 3) := by decide +kernel
theorem dX5_placeBar_71 : decode cX5_placeBar 71 = .ok (.ireturn, 1) := by decide +kernel
theorem dX5_loadBar_0 : decode cX5_loadBar 0 = .ok (.aload_n 0, 1) := by decide +kernel
theorem dX5_loadBar_1 : decode cX5_loadBar 1 = .ok (.getfield 33, 3) := by decide +kernel
theorem dX5_loadBar_4 : decode cX5_loadBar 4 = .ok (.getfield 274, 3) := by decide +kernel
theorem dX5_loadBar_7 : decode cX5_loadBar 7 = .ok (.iload_n 1, 1) := by decide +kernel
theorem dX5_loadBar_8 : decode cX5_loadBar 8 = .ok (.iaload, 1) := by decide +kernel
theorem dX5_loadBar_9 : decode cX5_loadBar 9 = .ok (.aload_n 0, 1) := by decide +kernel
theorem dX5_loadBar_10 : decode cX5_loadBar 10 = .ok (.getfield 44, 3) := by decide +kernel
theorem dX5_loadBar_13 : decode cX5_loadBar 13 = .ok (.if_icmp .gt 24, 3) := by decide +kernel
theorem dX5_loadBar_16 : decode cX5_loadBar 16 = .ok (.aload_n 0, 1) := by decide +kernel
theorem dX5_loadBar_17 : decode cX5_loadBar 17 = .ok (.getfield 33, 3) := by decide +kernel
theorem dX5_loadBar_20 : decode cX5_loadBar 20 = .ok (.getfield 274, 3) := by decide +kernel
theorem dX5_loadBar_23 : decode cX5_loadBar 23 = .ok (.iload_n 1, 1) := by decide +kernel
theorem dX5_loadBar_24 : decode cX5_loadBar 24 = .ok (.iaload, 1) := by decide +kernel
theorem dX5_loadBar_25 : decode cX5_loadBar 25 = .ok (.aload_n 0, 1) := by decide +kernel
theorem dX5_loadBar_26 : decode cX5_loadBar 26 = .ok (.getfield 26, 3) := by decide +kernel
theorem dX5_loadBar_29 : decode cX5_loadBar 29 = .ok (.getfield 281, 3) := by decide +kernel
theorem dX5_loadBar_32 : decode cX5_loadBar 32 = .ok (.iload_n 2, 1) := by decide +kernel
theorem dX5_loadBar_33 : decode cX5_loadBar 33 = .ok (.iaload, 1) := by decide +kernel
theorem dX5_loadBar_34 : decode cX5_loadBar 34 = .ok (.if_icmp .le 6, 3) := by decide +kernel
theorem dX5_loadBar_37 : decode cX5_loadBar 37 = .ok (.bipush 119, 2) := by decide +kernel
theorem dX5_loadBar_39 : decode cX5_loadBar 39 = .ok (.ireturn, 1) := by decide +kernel
theorem dX5_loadBar_40 : decode cX5_loadBar 40 = .ok (.aload_n 0, 1) := by decide +kernel
theorem dX5_loadBar_41 : decode cX5_loadBar 41 = .ok (.getfield 33, 3) := by decide +kernel
theorem dX5_loadBar_44 : decode cX5_loadBar 44 = .ok (.getfield 282, 3) := by decide +kernel
theorem dX5_loadBar_47 : decode cX5_loadBar 47 = .ok (.iload_n 1, 1) := by decide +kernel
theorem dX5_loadBar_48 : decode cX5_loadBar 48 = .ok (.iaload, 1) := by decide +kernel
theorem dX5_loadBar_49 : decode cX5_loadBar 49 = .ok (.aload_n 0, 1) := by decide +kernel
theorem dX5_loadBar_50 : decode cX5_loadBar 50 = .ok (.getfield 26, 3) := by decide +kernel
theorem dX5_loadBar_53 : decode cX5_loadBar 53 = .ok (.getfield 285, 3) := by decide +kernel
theorem dX5_loadBar_56 : decode cX5_loadBar 56 = .ok (.iload_n 2, 1) := by decide +kernel
theorem dX5_loadBar_57 : decode cX5_loadBar 57 = .ok (.iaload, 1) := by decide +kernel
theorem dX5_loadBar_58 : decode cX5_loadBar 58 = .ok (.if_icmp .le 8, 3) := by decide +kernel
theorem dX5_loadBar_61 : decode cX5_loadBar 61 = .ok (.bipush 108, 2) := by decide +kernel
theorem dX5_loadBar_63 : decode cX5_loadBar 63 = .ok (.goto 5, 3) := by decide +kernel
theorem dX5_loadBar_66 : decode cX5_loadBar 66 = .ok (.bipush 110, 2) := by decide +kernel
theorem dX5_loadBar_68 : decode cX5_loadBar 68 = .ok (.ireturn, 1) := by decide +kernel
theorem dX5_hourBar_0 : decode cX5_hourBar 0 = .ok (.aload_n 0, 1) := by decide +kernel
theorem dX5_hourBar_1 : decode cX5_hourBar 1 = .ok (.getfield 19, 3) := by decide +kernel
theorem dX5_hourBar_4 : decode cX5_hourBar 4 = .ok (.aload_n 0, 1) := by decide +kernel
theorem dX5_hourBar_5 : decode cX5_hourBar 5 = .ok (.getfield 51, 3) := by decide +kernel
theorem dX5_hourBar_8 : decode cX5_hourBar 8 = .ok (.invokevirtual 132, 3) := by decide +kernel
theorem dX5_hourBar_11 : decode cX5_hourBar 11 = .ok (.ifCond .eq 6, 3) := by decide +kernel
theorem dX5_hourBar_14 : decode cX5_hourBar 14 = .ok (.bipush 98, 2) := by decide +kernel
theorem dX5_hourBar_16 : decode cX5_hourBar 16 = .ok (.ireturn, 1) := by decide +kernel
theorem dX5_hourBar_17 : decode cX5_hourBar 17 = .ok (.aload_n 0, 1) := by decide +kernel
theorem dX5_hourBar_18 : decode cX5_hourBar 18 = .ok (.getfield 54, 3) := by decide +kernel
theorem dX5_hourBar_21 : decode cX5_hourBar 21 = .ok (.aload_n 0, 1) := by decide +kernel
theorem dX5_hourBar_22 : decode cX5_hourBar 22 = .ok (.getfield 51, 3) := by decide +kernel
theorem dX5_hourBar_25 : decode cX5_hourBar 25 = .ok (.if_icmp .ne 8, 3) := by decide +kernel
theorem dX5_hourBar_28 : decode cX5_hourBar 28 = .ok (.bipush 99, 2) := by decide +kernel
theorem dX5_hourBar_30 : decode cX5_hourBar 30 = .ok (.goto 5, 3) := by decide +kernel
theorem dX5_hourBar_33 : decode cX5_hourBar 33 = .ok (.bipush 110, 2) := by decide +kernel
theorem dX5_hourBar_35 : decode cX5_hourBar 35 = .ok (.ireturn, 1) := by decide +kernel
theorem dX5_countMove_0 : decode cX5_countMove 0 = .ok (.aload_n 0, 1) := by decide +kernel
theorem dX5_countMove_1 : decode cX5_countMove 1 = .ok (.dup, 1) := by decide +kernel
theorem dX5_countMove_2 : decode cX5_countMove 2 = .ok (.getfield 57, 3) := by decide +kernel
theorem dX5_countMove_5 : decode cX5_countMove 5 = .ok (.iconst 1, 1) := by decide +kernel
theorem dX5_countMove_6 : decode cX5_countMove 6 = .ok (.iadd, 1) := by decide +kernel
theorem dX5_countMove_7 : decode cX5_countMove 7 = .ok (.putfield 57, 3) := by decide +kernel
theorem dX5_countMove_10 : decode cX5_countMove 10 = .ok (.aload_n 0, 1) := by decide +kernel
theorem dX5_countMove_11 : decode cX5_countMove 11 = .ok (.aload_n 0, 1) := by decide +kernel
theorem dX5_countMove_12 : decode cX5_countMove 12 = .ok (.getfield 51, 3) := by decide +kernel
theorem dX5_countMove_15 : decode cX5_countMove 15 = .ok (.putfield 54, 3) := by decide +kernel
theorem dX5_countMove_18 : decode cX5_countMove 18 = .ok (.aload_n 0, 1) := by decide +kernel
theorem dX5_countMove_19 : decode cX5_countMove 19 = .ok (.dup, 1) := by decide +kernel
theorem dX5_countMove_20 : decode cX5_countMove 20 = .ok (.getfield 60, 3) := by decide +kernel
theorem dX5_countMove_23 : decode cX5_countMove 23 = .ok (.aload_n 0, 1) := by decide +kernel
theorem dX5_countMove_24 : decode cX5_countMove 24 = .ok (.getfield 33, 3) := by decide +kernel
theorem dX5_countMove_27 : decode cX5_countMove 27 = .ok (.getfield 274, 3) := by decide +kernel
theorem dX5_countMove_30 : decode cX5_countMove 30 = .ok (.iload_n 1, 1) := by decide +kernel
theorem dX5_countMove_31 : decode cX5_countMove 31 = .ok (.iaload, 1) := by decide +kernel
theorem dX5_countMove_32 : decode cX5_countMove 32 = .ok (.i2l, 1) := by decide +kernel
theorem dX5_countMove_33 : decode cX5_countMove 33 = .ok (.ladd, 1) := by decide +kernel
theorem dX5_countMove_34 : decode cX5_countMove 34 = .ok (.putfield 60, 3) := by decide +kernel
theorem dX5_countMove_37 : decode cX5_countMove 37 = .ok (.aload_n 0, 1) := by decide +kernel
theorem dX5_countMove_38 : decode cX5_countMove 38 = .ok (.getfield 57, 3) := by decide +kernel
theorem dX5_countMove_41 : decode cX5_countMove 41 = .ok (.ireturn, 1) := by decide +kernel
theorem dX5_holds_0 : decode cX5_holds 0 = .ok (.iload_n 0, 1) := by decide +kernel
theorem dX5_holds_1 : decode cX5_holds 1 = .ok (.iload_n 1, 1) := by decide +kernel
theorem dX5_holds_2 : decode cX5_holds 2 = .ok (.ishr, 1) := by decide +kernel
theorem dX5_holds_3 : decode cX5_holds 3 = .ok (.iconst 1, 1) := by decide +kernel
theorem dX5_holds_4 : decode cX5_holds 4 = .ok (.iand, 1) := by decide +kernel
theorem dX5_holds_5 : decode cX5_holds 5 = .ok (.ifCond .eq 7, 3) := by decide +kernel
theorem dX5_holds_8 : decode cX5_holds 8 = .ok (.iconst 1, 1) := by decide +kernel
theorem dX5_holds_9 : decode cX5_holds 9 = .ok (.goto 4, 3) := by decide +kernel
theorem dX5_holds_12 : decode cX5_holds 12 = .ok (.iconst 0, 1) := by decide +kernel
theorem dX5_holds_13 : decode cX5_holds 13 = .ok (.ireturn, 1) := by decide +kernel
theorem dX5_hasClearWay_0 : decode cX5_hasClearWay 0 = .ok (.aload_n 0, 1) := by decide +kernel
theorem dX5_hasClearWay_1 : decode cX5_hasClearWay 1 = .ok (.getfield 33, 3) := by decide +kernel
theorem dX5_hasClearWay_4 : decode cX5_hasClearWay 4 = .ok (.getfield 163, 3) := by decide +kernel
theorem dX5_hasClearWay_7 : decode cX5_hasClearWay 7 = .ok (.iload_n 1, 1) := by decide +kernel
theorem dX5_hasClearWay_8 : decode cX5_hasClearWay 8 = .ok (.iaload, 1) := by decide +kernel
theorem dX5_hasClearWay_9 : decode cX5_hasClearWay 9 = .ok (.istore_n 2, 1) := by decide +kernel
theorem dX5_hasClearWay_10 : decode cX5_hasClearWay 10 = .ok (.aload_n 0, 1) := by decide +kernel
theorem dX5_hasClearWay_11 : decode cX5_hasClearWay 11 = .ok (.getfield 26, 3) := by decide +kernel
theorem dX5_hasClearWay_14 : decode cX5_hasClearWay 14 = .ok (.iload_n 2, 1) := by decide +kernel
theorem dX5_hasClearWay_15 : decode cX5_hasClearWay 15 = .ok (.invokevirtual 64, 3) := by decide +kernel
theorem dX5_hasClearWay_18 : decode cX5_hasClearWay 18 = .ok (.ifCond .eq 27, 3) := by decide +kernel
theorem dX5_hasClearWay_21 : decode cX5_hasClearWay 21 = .ok (.aload_n 0, 1) := by decide +kernel
theorem dX5_hasClearWay_22 : decode cX5_hasClearWay 22 = .ok (.getfield 26, 3) := by decide +kernel
theorem dX5_hasClearWay_25 : decode cX5_hasClearWay 25 = .ok (.invokevirtual 241, 3) := by decide +kernel
theorem dX5_hasClearWay_28 : decode cX5_hasClearWay 28 = .ok (.aload_n 0, 1) := by decide +kernel
theorem dX5_hasClearWay_29 : decode cX5_hasClearWay 29 = .ok (.getfield 26, 3) := by decide +kernel
theorem dX5_hasClearWay_32 : decode cX5_hasClearWay 32 = .ok (.getfield 264, 3) := by decide +kernel
theorem dX5_hasClearWay_35 : decode cX5_hasClearWay 35 = .ok (.iload_n 2, 1) := by decide +kernel
theorem dX5_hasClearWay_36 : decode cX5_hasClearWay 36 = .ok (.iaload, 1) := by decide +kernel
theorem dX5_hasClearWay_37 : decode cX5_hasClearWay 37 = .ok (.iand, 1) := by decide +kernel
theorem dX5_hasClearWay_38 : decode cX5_hasClearWay 38 = .ok (.ifCond .ne 7, 3) := by decide +kernel
theorem dX5_hasClearWay_41 : decode cX5_hasClearWay 41 = .ok (.iconst 1, 1) := by decide +kernel
theorem dX5_hasClearWay_42 : decode cX5_hasClearWay 42 = .ok (.goto 4, 3) := by decide +kernel
theorem dX5_hasClearWay_45 : decode cX5_hasClearWay 45 = .ok (.iconst 0, 1) := by decide +kernel
theorem dX5_hasClearWay_46 : decode cX5_hasClearWay 46 = .ok (.ireturn, 1) := by decide +kernel
theorem dX5_leastFirst_0 : decode cX5_leastFirst 0 = .ok (.aload_n 0, 1) := by decide +kernel
theorem dX5_leastFirst_1 : decode cX5_leastFirst 1 = .ok (.invokevirtual 286, 3) := by decide +kernel
theorem dX5_leastFirst_4 : decode cX5_leastFirst 4 = .ok (.iconst 0, 1) := by decide +kernel
theorem dX5_leastFirst_5 : decode cX5_leastFirst 5 = .ok (.istore_n 2, 1) := by decide +kernel
theorem dX5_leastFirst_6 : decode cX5_leastFirst 6 = .ok (.iload_n 2, 1) := by decide +kernel
theorem dX5_leastFirst_7 : decode cX5_leastFirst 7 = .ok (.sipush 720, 3) := by decide +kernel
theorem dX5_leastFirst_10 : decode cX5_leastFirst 10 = .ok (.if_icmp .ge 52, 3) := by decide +kernel
theorem dX5_leastFirst_13 : decode cX5_leastFirst 13 = .ok (.aload_n 0, 1) := by decide +kernel
theorem dX5_leastFirst_14 : decode cX5_leastFirst 14 = .ok (.getfield 40, 3) := by decide +kernel
theorem dX5_leastFirst_17 : decode cX5_leastFirst 17 = .ok (.getfield 289, 3) := by decide +kernel
theorem dX5_leastFirst_20 : decode cX5_leastFirst 20 = .ok (.ifCond .le 42, 3) := by decide +kernel
theorem dX5_leastFirst_23 : decode cX5_leastFirst 23 = .ok (.aload_n 0, 1) := by decide +kernel
theorem dX5_leastFirst_24 : decode cX5_leastFirst 24 = .ok (.getfield 40, 3) := by decide +kernel
theorem dX5_leastFirst_27 : decode cX5_leastFirst 27 = .ok (.invokevirtual 292, 3) := by decide +kernel
theorem dX5_leastFirst_30 : decode cX5_leastFirst 30 = .ok (.istore_n 3, 1) := by decide +kernel
theorem dX5_leastFirst_31 : decode cX5_leastFirst 31 = .ok (.aload_n 0, 1) := by decide +kernel
theorem dX5_leastFirst_32 : decode cX5_leastFirst 32 = .ok (.iload_n 3, 1) := by decide +kernel
theorem dX5_leastFirst_33 : decode cX5_leastFirst 33 = .ok (.iload_n 1, 1) := by decide +kernel
theorem dX5_leastFirst_34 : decode cX5_leastFirst 34 = .ok (.invokevirtual 295, 3) := by decide +kernel
theorem dX5_leastFirst_37 : decode cX5_leastFirst 37 = .ok (.ifCond .eq 13, 3) := by decide +kernel
theorem dX5_leastFirst_40 : decode cX5_leastFirst 40 = .ok (.aload_n 0, 1) := by decide +kernel
theorem dX5_leastFirst_41 : decode cX5_leastFirst 41 = .ok (.getfield 40, 3) := by decide +kernel
theorem dX5_leastFirst_44 : decode cX5_leastFirst 44 = .ok (.getfield 298, 3) := by decide +kernel
theorem dX5_leastFirst_47 : decode cX5_leastFirst 47 = .ok (.iload_n 3, 1) := by decide +kernel
theorem dX5_leastFirst_48 : decode cX5_leastFirst 48 = .ok (.iaload, 1) := by decide +kernel
theorem dX5_leastFirst_49 : decode cX5_leastFirst 49 = .ok (.ireturn, 1) := by decide +kernel
theorem dX5_leastFirst_50 : decode cX5_leastFirst 50 = .ok (.aload_n 0, 1) := by decide +kernel
theorem dX5_leastFirst_51 : decode cX5_leastFirst 51 = .ok (.iload_n 3, 1) := by decide +kernel
theorem dX5_leastFirst_52 : decode cX5_leastFirst 52 = .ok (.invokevirtual 299, 3) := by decide +kernel
theorem dX5_leastFirst_55 : decode cX5_leastFirst 55 = .ok (.pop, 1) := by decide +kernel
theorem dX5_leastFirst_56 : decode cX5_leastFirst 56 = .ok (.iinc 2 1, 3) := by decide +kernel
theorem dX5_leastFirst_59 : decode cX5_leastFirst 59 = .ok (.goto (-53), 3) := by decide +kernel
theorem dX5_leastFirst_62 : decode cX5_leastFirst 62 = .ok (.iconst (-1), 1) := by decide +kernel
theorem dX5_leastFirst_63 : decode cX5_leastFirst 63 = .ok (.ireturn, 1) := by decide +kernel
theorem dX5_leastOfRounds_0 : decode cX5_leastOfRounds 0 = .ok (.aload_n 0, 1) := by decide +kernel
theorem dX5_leastOfRounds_1 : decode cX5_leastOfRounds 1 = .ok (.invokevirtual 286, 3) := by decide +kernel
theorem dX5_leastOfRounds_4 : decode cX5_leastOfRounds 4 = .ok (.iconst 1, 1) := by decide +kernel
theorem dX5_leastOfRounds_5 : decode cX5_leastOfRounds 5 = .ok (.istore_n 2, 1) := by decide +kernel
theorem dX5_leastOfRounds_6 : decode cX5_leastOfRounds 6 = .ok (.iconst 0, 1) := by decide +kernel
theorem dX5_leastOfRounds_7 : decode cX5_leastOfRounds 7 = .ok (.istore_n 3, 1) := by decide +kernel
theorem dX5_leastOfRounds_8 : decode cX5_leastOfRounds 8 = .ok (.iload_n 3, 1) := by decide +kernel
theorem dX5_leastOfRounds_9 : decode cX5_leastOfRounds 9 = .ok (.sipush 720, 3) := by decide +kernel
theorem dX5_leastOfRounds_12 : decode cX5_leastOfRounds 12 = .ok (.if_icmp .ge 63, 3) := by decide +kernel
theorem dX5_leastOfRounds_15 : decode cX5_leastOfRounds 15 = .ok (.iload_n 2, 1) := by decide +kernel
theorem dX5_leastOfRounds_16 : decode cX5_leastOfRounds 16 = .ok (.ifCond .eq 59, 3) := by decide +kernel
theorem dX5_leastOfRounds_19 : decode cX5_leastOfRounds 19 = .ok (.iconst 0, 1) := by decide +kernel
theorem dX5_leastOfRounds_20 : decode cX5_leastOfRounds 20 = .ok (.istore_n 2, 1) := by decide +kernel
theorem dX5_leastOfRounds_21 : decode cX5_leastOfRounds 21 = .ok (.iconst 0, 1) := by decide +kernel
theorem dX5_leastOfRounds_22 : decode cX5_leastOfRounds 22 = .ok (.istore 4, 2) := by decide +kernel
theorem dX5_leastOfRounds_24 : decode cX5_leastOfRounds 24 = .ok (.iload 4, 2) := by decide +kernel
theorem dX5_leastOfRounds_26 : decode cX5_leastOfRounds 26 = .ok (.sipush 720, 3) := by decide +kernel
theorem dX5_leastOfRounds_29 : decode cX5_leastOfRounds 29 = .ok (.if_icmp .ge 40, 3) := by decide +kernel
theorem dX5_leastOfRounds_32 : decode cX5_leastOfRounds 32 = .ok (.iload 4, 2) := by decide +kernel
theorem dX5_leastOfRounds_34 : decode cX5_leastOfRounds 34 = .ok (.aload_n 0, 1) := by decide +kernel
theorem dX5_leastOfRounds_35 : decode cX5_leastOfRounds 35 = .ok (.getfield 40, 3) := by decide +kernel
theorem dX5_leastOfRounds_38 : decode cX5_leastOfRounds 38 = .ok (.getfield 289, 3) := by decide +kernel
theorem dX5_leastOfRounds_41 : decode cX5_leastOfRounds 41 = .ok (.if_icmp .ge 28, 3) := by decide +kernel
theorem dX5_leastOfRounds_44 : decode cX5_leastOfRounds 44 = .ok (.aload_n 0, 1) := by decide +kernel
theorem dX5_leastOfRounds_45 : decode cX5_leastOfRounds 45 = .ok (.aload_n 0, 1) := by decide +kernel
theorem dX5_leastOfRounds_46 : decode cX5_leastOfRounds 46 = .ok (.getfield 40, 3) := by decide +kernel
theorem dX5_leastOfRounds_49 : decode cX5_leastOfRounds 49 = .ok (.getfield 302, 3) := by decide +kernel
theorem dX5_leastOfRounds_52 : decode cX5_leastOfRounds 52 = .ok (.iload 4, 2) := by decide +kernel
theorem dX5_leastOfRounds_54 : decode cX5_leastOfRounds 54 = .ok (.iaload, 1) := by decide +kernel
theorem dX5_leastOfRounds_55 : decode cX5_leastOfRounds 55 = .ok (.invokevirtual 299, 3) := by decide +kernel
theorem dX5_leastOfRounds_58 : decode cX5_leastOfRounds 58 = .ok (.ifCond .eq 5, 3) := by decide +kernel
theorem dX5_leastOfRounds_61 : decode cX5_leastOfRounds 61 = .ok (.iconst 1, 1) := by decide +kernel
theorem dX5_leastOfRounds_62 : decode cX5_leastOfRounds 62 = .ok (.istore_n 2, 1) := by decide +kernel
theorem dX5_leastOfRounds_63 : decode cX5_leastOfRounds 63 = .ok (.iinc 4 1, 3) := by decide +kernel
theorem dX5_leastOfRounds_66 : decode cX5_leastOfRounds 66 = .ok (.goto (-42), 3) := by decide +kernel
theorem dX5_leastOfRounds_69 : decode cX5_leastOfRounds 69 = .ok (.iinc 3 1, 3) := by decide +kernel
theorem dX5_leastOfRounds_72 : decode cX5_leastOfRounds 72 = .ok (.goto (-64), 3) := by decide +kernel
theorem dX5_leastOfRounds_75 : decode cX5_leastOfRounds 75 = .ok (.aload_n 0, 1) := by decide +kernel
theorem dX5_leastOfRounds_76 : decode cX5_leastOfRounds 76 = .ok (.iload_n 1, 1) := by decide +kernel
theorem dX5_leastOfRounds_77 : decode cX5_leastOfRounds 77 = .ok (.invokevirtual 305, 3) := by decide +kernel
theorem dX5_leastOfRounds_80 : decode cX5_leastOfRounds 80 = .ok (.ireturn, 1) := by decide +kernel
theorem dX5_leastClear_0 : decode cX5_leastClear 0 = .ok (.iconst (-1), 1) := by decide +kernel
theorem dX5_leastClear_1 : decode cX5_leastClear 1 = .ok (.istore_n 2, 1) := by decide +kernel
theorem dX5_leastClear_2 : decode cX5_leastClear 2 = .ok (.iconst 0, 1) := by decide +kernel
theorem dX5_leastClear_3 : decode cX5_leastClear 3 = .ok (.istore_n 3, 1) := by decide +kernel
theorem dX5_leastClear_4 : decode cX5_leastClear 4 = .ok (.iload_n 3, 1) := by decide +kernel
theorem dX5_leastClear_5 : decode cX5_leastClear 5 = .ok (.sipush 720, 3) := by decide +kernel
theorem dX5_leastClear_8 : decode cX5_leastClear 8 = .ok (.if_icmp .ge 71, 3) := by decide +kernel
theorem dX5_leastClear_11 : decode cX5_leastClear 11 = .ok (.iload_n 3, 1) := by decide +kernel
theorem dX5_leastClear_12 : decode cX5_leastClear 12 = .ok (.aload_n 0, 1) := by decide +kernel
theorem dX5_leastClear_13 : decode cX5_leastClear 13 = .ok (.getfield 40, 3) := by decide +kernel
theorem dX5_leastClear_16 : decode cX5_leastClear 16 = .ok (.getfield 289, 3) := by decide +kernel
theorem dX5_leastClear_19 : decode cX5_leastClear 19 = .ok (.if_icmp .ge 60, 3) := by decide +kernel
theorem dX5_leastClear_22 : decode cX5_leastClear 22 = .ok (.aload_n 0, 1) := by decide +kernel
theorem dX5_leastClear_23 : decode cX5_leastClear 23 = .ok (.getfield 40, 3) := by decide +kernel
theorem dX5_leastClear_26 : decode cX5_leastClear 26 = .ok (.getfield 302, 3) := by decide +kernel
theorem dX5_leastClear_29 : decode cX5_leastClear 29 = .ok (.iload_n 3, 1) := by decide +kernel
theorem dX5_leastClear_30 : decode cX5_leastClear 30 = .ok (.iaload, 1) := by decide +kernel
theorem dX5_leastClear_31 : decode cX5_leastClear 31 = .ok (.istore 4, 2) := by decide +kernel
theorem dX5_leastClear_33 : decode cX5_leastClear 33 = .ok (.aload_n 0, 1) := by decide +kernel
theorem dX5_leastClear_34 : decode cX5_leastClear 34 = .ok (.iload 4, 2) := by decide +kernel
theorem dX5_leastClear_36 : decode cX5_leastClear 36 = .ok (.iload_n 1, 1) := by decide +kernel
theorem dX5_leastClear_37 : decode cX5_leastClear 37 = .ok (.invokevirtual 295, 3) := by decide +kernel
theorem dX5_leastClear_40 : decode cX5_leastClear 40 = .ok (.ifCond .eq 33, 3) := by decide +kernel
theorem dX5_leastClear_43 : decode cX5_leastClear 43 = .ok (.iload_n 2, 1) := by decide +kernel
theorem dX5_leastClear_44 : decode cX5_leastClear 44 = .ok (.iconst (-1), 1) := by decide +kernel
theorem dX5_leastClear_45 : decode cX5_leastClear 45 = .ok (.if_icmp .eq 17, 3) := by decide +kernel
theorem dX5_leastClear_48 : decode cX5_leastClear 48 = .ok (.aload_n 0, 1) := by decide +kernel
theorem dX5_leastClear_49 : decode cX5_leastClear 49 = .ok (.getfield 40, 3) := by decide +kernel
theorem dX5_leastClear_52 : decode cX5_leastClear 52 = .ok (.getfield 298, 3) := by decide +kernel
theorem dX5_leastClear_55 : decode cX5_leastClear 55 = .ok (.iload 4, 2) := by decide +kernel
theorem dX5_leastClear_57 : decode cX5_leastClear 57 = .ok (.iaload, 1) := by decide +kernel
theorem dX5_leastClear_58 : decode cX5_leastClear 58 = .ok (.iload_n 2, 1) := by decide +kernel
theorem dX5_leastClear_59 : decode cX5_leastClear 59 = .ok (.if_icmp .ge 14, 3) := by decide +kernel
theorem dX5_leastClear_62 : decode cX5_leastClear 62 = .ok (.aload_n 0, 1) := by decide +kernel
theorem dX5_leastClear_63 : decode cX5_leastClear 63 = .ok (.getfield 40, 3) := by decide +kernel
theorem dX5_leastClear_66 : decode cX5_leastClear 66 = .ok (.getfield 298, 3) := by decide +kernel
theorem dX5_leastClear_69 : decode cX5_leastClear 69 = .ok (.iload 4, 2) := by decide +kernel
theorem dX5_leastClear_71 : decode cX5_leastClear 71 = .ok (.iaload, 1) := by decide +kernel
theorem dX5_leastClear_72 : decode cX5_leastClear 72 = .ok (.istore_n 2, 1) := by decide +kernel
theorem dX5_leastClear_73 : decode cX5_leastClear 73 = .ok (.iinc 3 1, 3) := by decide +kernel
theorem dX5_leastClear_76 : decode cX5_leastClear 76 = .ok (.goto (-72), 3) := by decide +kernel
theorem dX5_leastClear_79 : decode cX5_leastClear 79 = .ok (.iload_n 2, 1) := by decide +kernel
theorem dX5_leastClear_80 : decode cX5_leastClear 80 = .ok (.ireturn, 1) := by decide +kernel
theorem dX5_startFromNow_0 : decode cX5_startFromNow 0 = .ok (.iconst 0, 1) := by decide +kernel
theorem dX5_startFromNow_1 : decode cX5_startFromNow 1 = .ok (.istore_n 1, 1) := by decide +kernel
theorem dX5_startFromNow_2 : decode cX5_startFromNow 2 = .ok (.iconst 0, 1) := by decide +kernel
theorem dX5_startFromNow_3 : decode cX5_startFromNow 3 = .ok (.istore_n 2, 1) := by decide +kernel
theorem dX5_startFromNow_4 : decode cX5_startFromNow 4 = .ok (.iconst 0, 1) := by decide +kernel
theorem dX5_startFromNow_5 : decode cX5_startFromNow 5 = .ok (.istore_n 3, 1) := by decide +kernel
theorem dX5_startFromNow_6 : decode cX5_startFromNow 6 = .ok (.iload_n 3, 1) := by decide +kernel
theorem dX5_startFromNow_7 : decode cX5_startFromNow 7 = .ok (.aload_n 0, 1) := by decide +kernel
theorem dX5_startFromNow_8 : decode cX5_startFromNow 8 = .ok (.getfield 33, 3) := by decide +kernel
theorem dX5_startFromNow_11 : decode cX5_startFromNow 11 = .ok (.getfield 98, 3) := by decide +kernel
theorem dX5_startFromNow_14 : decode cX5_startFromNow 14 = .ok (.if_icmp .ge 46, 3) := by decide +kernel
theorem dX5_startFromNow_17 : decode cX5_startFromNow 17 = .ok (.aload_n 0, 1) := by decide +kernel
theorem dX5_startFromNow_18 : decode cX5_startFromNow 18 = .ok (.getfield 33, 3) := by decide +kernel
theorem dX5_startFromNow_21 : decode cX5_startFromNow 21 = .ok (.getfield 163, 3) := by decide +kernel
theorem dX5_startFromNow_24 : decode cX5_startFromNow 24 = .ok (.iload_n 3, 1) := by decide +kernel
theorem dX5_startFromNow_25 : decode cX5_startFromNow 25 = .ok (.iaload, 1) := by decide +kernel
theorem dX5_startFromNow_26 : decode cX5_startFromNow 26 = .ok (.istore 4, 2) := by decide +kernel
theorem dX5_startFromNow_28 : decode cX5_startFromNow 28 = .ok (.aload_n 0, 1) := by decide +kernel
theorem dX5_startFromNow_29 : decode cX5_startFromNow 29 = .ok (.getfield 26, 3) := by decide +kernel
theorem dX5_startFromNow_32 : decode cX5_startFromNow 32 = .ok (.iload 4, 2) := by decide +kernel
theorem dX5_startFromNow_34 : decode cX5_startFromNow 34 = .ok (.invokevirtual 64, 3) := by decide +kernel
theorem dX5_startFromNow_37 : decode cX5_startFromNow 37 = .ok (.ifCond .eq 17, 3) := by decide +kernel
theorem dX5_startFromNow_40 : decode cX5_startFromNow 40 = .ok (.iload_n 2, 1) := by decide +kernel
theorem dX5_startFromNow_41 : decode cX5_startFromNow 41 = .ok (.iconst 1, 1) := by decide +kernel
theorem dX5_startFromNow_42 : decode cX5_startFromNow 42 = .ok (.iload_n 3, 1) := by decide +kernel
theorem dX5_startFromNow_43 : decode cX5_startFromNow 43 = .ok (.ishl, 1) := by decide +kernel
theorem dX5_startFromNow_44 : decode cX5_startFromNow 44 = .ok (.ior, 1) := by decide +kernel
theorem dX5_startFromNow_45 : decode cX5_startFromNow 45 = .ok (.istore_n 2, 1) := by decide +kernel
theorem dX5_startFromNow_46 : decode cX5_startFromNow 46 = .ok (.iload_n 1, 1) := by decide +kernel
theorem dX5_startFromNow_47 : decode cX5_startFromNow 47 = .ok (.iload_n 3, 1) := by decide +kernel
theorem dX5_startFromNow_48 : decode cX5_startFromNow 48 = .ok (.iload 4, 2) := by decide +kernel
theorem dX5_startFromNow_50 : decode cX5_startFromNow 50 = .ok (.invokestatic 308, 3) := by decide +kernel
theorem dX5_startFromNow_53 : decode cX5_startFromNow 53 = .ok (.istore_n 1, 1) := by decide +kernel
theorem dX5_startFromNow_54 : decode cX5_startFromNow 54 = .ok (.iinc 3 1, 3) := by decide +kernel
theorem dX5_startFromNow_57 : decode cX5_startFromNow 57 = .ok (.goto (-51), 3) := by decide +kernel
theorem dX5_startFromNow_60 : decode cX5_startFromNow 60 = .ok (.aload_n 0, 1) := by decide +kernel
theorem dX5_startFromNow_61 : decode cX5_startFromNow 61 = .ok (.getfield 40, 3) := by decide +kernel
theorem dX5_startFromNow_64 : decode cX5_startFromNow 64 = .ok (.iload_n 2, 1) := by decide +kernel
theorem dX5_startFromNow_65 : decode cX5_startFromNow 65 = .ok (.aload_n 0, 1) := by decide +kernel
theorem dX5_startFromNow_66 : decode cX5_startFromNow 66 = .ok (.getfield 26, 3) := by decide +kernel
theorem dX5_startFromNow_69 : decode cX5_startFromNow 69 = .ok (.getfield 84, 3) := by decide +kernel
theorem dX5_startFromNow_72 : decode cX5_startFromNow 72 = .ok (.invokevirtual 311, 3) := by decide +kernel
theorem dX5_startFromNow_75 : decode cX5_startFromNow 75 = .ok (.aload_n 0, 1) := by decide +kernel
theorem dX5_startFromNow_76 : decode cX5_startFromNow 76 = .ok (.getfield 40, 3) := by decide +kernel
theorem dX5_startFromNow_79 : decode cX5_startFromNow 79 = .ok (.iload_n 1, 1) := by decide +kernel
theorem dX5_startFromNow_80 : decode cX5_startFromNow 80 = .ok (.iconst 0, 1) := by decide +kernel
theorem dX5_startFromNow_81 : decode cX5_startFromNow 81 = .ok (.invokevirtual 314, 3) := by decide +kernel
theorem dX5_startFromNow_84 : decode cX5_startFromNow 84 = .ok (.pop, 1) := by decide +kernel
theorem dX5_startFromNow_85 : decode cX5_startFromNow 85 = .ok (.return_, 1) := by decide +kernel
theorem dX5_isClearAt_0 : decode cX5_isClearAt 0 = .ok (.aload_n 0, 1) := by decide +kernel
theorem dX5_isClearAt_1 : decode cX5_isClearAt 1 = .ok (.getfield 40, 3) := by decide +kernel
theorem dX5_isClearAt_4 : decode cX5_isClearAt 4 = .ok (.getfield 317, 3) := by decide +kernel
theorem dX5_isClearAt_7 : decode cX5_isClearAt 7 = .ok (.iload_n 1, 1) := by decide +kernel
theorem dX5_isClearAt_8 : decode cX5_isClearAt 8 = .ok (.iaload, 1) := by decide +kernel
theorem dX5_isClearAt_9 : decode cX5_isClearAt 9 = .ok (.istore_n 3, 1) := by decide +kernel
theorem dX5_isClearAt_10 : decode cX5_isClearAt 10 = .ok (.iload_n 3, 1) := by decide +kernel
theorem dX5_isClearAt_11 : decode cX5_isClearAt 11 = .ok (.iload_n 2, 1) := by decide +kernel
theorem dX5_isClearAt_12 : decode cX5_isClearAt 12 = .ok (.invokestatic 320, 3) := by decide +kernel
theorem dX5_isClearAt_15 : decode cX5_isClearAt 15 = .ok (.istore 4, 2) := by decide +kernel
theorem dX5_isClearAt_17 : decode cX5_isClearAt 17 = .ok (.aload_n 0, 1) := by decide +kernel
theorem dX5_isClearAt_18 : decode cX5_isClearAt 18 = .ok (.getfield 26, 3) := by decide +kernel
theorem dX5_isClearAt_21 : decode cX5_isClearAt 21 = .ok (.iload 4, 2) := by decide +kernel
theorem dX5_isClearAt_23 : decode cX5_isClearAt 23 = .ok (.invokevirtual 64, 3) := by decide +kernel
theorem dX5_isClearAt_26 : decode cX5_isClearAt 26 = .ok (.ifCond .eq 29, 3) := by decide +kernel
theorem dX5_isClearAt_29 : decode cX5_isClearAt 29 = .ok (.aload_n 0, 1) := by decide +kernel
theorem dX5_isClearAt_30 : decode cX5_isClearAt 30 = .ok (.getfield 40, 3) := by decide +kernel
theorem dX5_isClearAt_33 : decode cX5_isClearAt 33 = .ok (.iload_n 3, 1) := by decide +kernel
theorem dX5_isClearAt_34 : decode cX5_isClearAt 34 = .ok (.invokevirtual 323, 3) := by decide +kernel
theorem dX5_isClearAt_37 : decode cX5_isClearAt 37 = .ok (.aload_n 0, 1) := by decide +kernel
theorem dX5_isClearAt_38 : decode cX5_isClearAt 38 = .ok (.getfield 26, 3) := by decide +kernel
theorem dX5_isClearAt_41 : decode cX5_isClearAt 41 = .ok (.getfield 264, 3) := by decide +kernel
theorem dX5_isClearAt_44 : decode cX5_isClearAt 44 = .ok (.iload 4, 2) := by decide +kernel
theorem dX5_isClearAt_46 : decode cX5_isClearAt 46 = .ok (.iaload, 1) := by decide +kernel
theorem dX5_isClearAt_47 : decode cX5_isClearAt 47 = .ok (.iand, 1) := by decide +kernel
theorem dX5_isClearAt_48 : decode cX5_isClearAt 48 = .ok (.ifCond .ne 7, 3) := by decide +kernel
theorem dX5_isClearAt_51 : decode cX5_isClearAt 51 = .ok (.iconst 1, 1) := by decide +kernel
theorem dX5_isClearAt_52 : decode cX5_isClearAt 52 = .ok (.goto 4, 3) := by decide +kernel
theorem dX5_isClearAt_55 : decode cX5_isClearAt 55 = .ok (.iconst 0, 1) := by decide +kernel
theorem dX5_isClearAt_56 : decode cX5_isClearAt 56 = .ok (.ireturn, 1) := by decide +kernel
theorem dX5_goOnFrom_0 : decode cX5_goOnFrom 0 = .ok (.aload_n 0, 1) := by decide +kernel
theorem dX5_goOnFrom_1 : decode cX5_goOnFrom 1 = .ok (.getfield 40, 3) := by decide +kernel
theorem dX5_goOnFrom_4 : decode cX5_goOnFrom 4 = .ok (.aload_n 0, 1) := by decide +kernel
theorem dX5_goOnFrom_5 : decode cX5_goOnFrom 5 = .ok (.getfield 40, 3) := by decide +kernel
theorem dX5_goOnFrom_8 : decode cX5_goOnFrom 8 = .ok (.getfield 317, 3) := by decide +kernel
theorem dX5_goOnFrom_11 : decode cX5_goOnFrom 11 = .ok (.iload_n 1, 1) := by decide +kernel
theorem dX5_goOnFrom_12 : decode cX5_goOnFrom 12 = .ok (.iaload, 1) := by decide +kernel
theorem dX5_goOnFrom_13 : decode cX5_goOnFrom 13 = .ok (.invokevirtual 323, 3) := by decide +kernel
theorem dX5_goOnFrom_16 : decode cX5_goOnFrom 16 = .ok (.istore_n 2, 1) := by decide +kernel
theorem dX5_goOnFrom_17 : decode cX5_goOnFrom 17 = .ok (.iconst 0, 1) := by decide +kernel
theorem dX5_goOnFrom_18 : decode cX5_goOnFrom 18 = .ok (.istore_n 3, 1) := by decide +kernel
theorem dX5_goOnFrom_19 : decode cX5_goOnFrom 19 = .ok (.iconst 0, 1) := by decide +kernel
theorem dX5_goOnFrom_20 : decode cX5_goOnFrom 20 = .ok (.istore 4, 2) := by decide +kernel
theorem dX5_goOnFrom_22 : decode cX5_goOnFrom 22 = .ok (.iload 4, 2) := by decide +kernel
theorem dX5_goOnFrom_24 : decode cX5_goOnFrom 24 = .ok (.aload_n 0, 1) := by decide +kernel
theorem dX5_goOnFrom_25 : decode cX5_goOnFrom 25 = .ok (.getfield 26, 3) := by decide +kernel
theorem dX5_goOnFrom_28 : decode cX5_goOnFrom 28 = .ok (.getfield 84, 3) := by decide +kernel
theorem dX5_goOnFrom_31 : decode cX5_goOnFrom 31 = .ok (.if_icmp .ge 31, 3) := by decide +kernel
theorem dX5_goOnFrom_34 : decode cX5_goOnFrom 34 = .ok (.iload_n 2, 1) := by decide +kernel
theorem dX5_goOnFrom_35 : decode cX5_goOnFrom 35 = .ok (.iload 4, 2) := by decide +kernel
theorem dX5_goOnFrom_37 : decode cX5_goOnFrom 37 = .ok (.invokestatic 261, 3) := by decide +kernel
theorem dX5_goOnFrom_40 : decode cX5_goOnFrom 40 = .ok (.ifCond .ne 16, 3) := by decide +kernel
theorem dX5_goOnFrom_43 : decode cX5_goOnFrom 43 = .ok (.aload_n 0, 1) := by decide +kernel
theorem dX5_goOnFrom_44 : decode cX5_goOnFrom 44 = .ok (.iload_n 1, 1) := by decide +kernel
theorem dX5_goOnFrom_45 : decode cX5_goOnFrom 45 = .ok (.iload 4, 2) := by decide +kernel
theorem dX5_goOnFrom_47 : decode cX5_goOnFrom 47 = .ok (.iload_n 2, 1) := by decide +kernel
theorem dX5_goOnFrom_48 : decode cX5_goOnFrom 48 = .ok (.invokevirtual 326, 3) := by decide +kernel
theorem dX5_goOnFrom_51 : decode cX5_goOnFrom 51 = .ok (.ifCond .eq 5, 3) := by decide +kernel
theorem dX5_goOnFrom_54 : decode cX5_goOnFrom 54 = .ok (.iconst 1, 1) := by decide +kernel
theorem dX5_goOnFrom_55 : decode cX5_goOnFrom 55 = .ok (.istore_n 3, 1) := by decide +kernel
theorem dX5_goOnFrom_56 : decode cX5_goOnFrom 56 = .ok (.iinc 4 1, 3) := by decide +kernel
theorem dX5_goOnFrom_59 : decode cX5_goOnFrom 59 = .ok (.goto (-37), 3) := by decide +kernel
theorem dX5_goOnFrom_62 : decode cX5_goOnFrom 62 = .ok (.iload_n 3, 1) := by decide +kernel
theorem dX5_goOnFrom_63 : decode cX5_goOnFrom 63 = .ok (.ireturn, 1) := by decide +kernel
theorem dX5_fillFrom_0 : decode cX5_fillFrom 0 = .ok (.aload_n 0, 1) := by decide +kernel
theorem dX5_fillFrom_1 : decode cX5_fillFrom 1 = .ok (.getfield 40, 3) := by decide +kernel
theorem dX5_fillFrom_4 : decode cX5_fillFrom 4 = .ok (.getfield 317, 3) := by decide +kernel
theorem dX5_fillFrom_7 : decode cX5_fillFrom 7 = .ok (.iload_n 1, 1) := by decide +kernel
theorem dX5_fillFrom_8 : decode cX5_fillFrom 8 = .ok (.iaload, 1) := by decide +kernel
theorem dX5_fillFrom_9 : decode cX5_fillFrom 9 = .ok (.istore 4, 2) := by decide +kernel
theorem dX5_fillFrom_11 : decode cX5_fillFrom 11 = .ok (.aload_n 0, 1) := by decide +kernel
theorem dX5_fillFrom_12 : decode cX5_fillFrom 12 = .ok (.getfield 40, 3) := by decide +kernel
theorem dX5_fillFrom_15 : decode cX5_fillFrom 15 = .ok (.getfield 298, 3) := by decide +kernel
theorem dX5_fillFrom_18 : decode cX5_fillFrom 18 = .ok (.iload_n 1, 1) := by decide +kernel
theorem dX5_fillFrom_19 : decode cX5_fillFrom 19 = .ok (.iaload, 1) := by decide +kernel
theorem dX5_fillFrom_20 : decode cX5_fillFrom 20 = .ok (.istore 5, 2) := by decide +kernel
theorem dX5_fillFrom_22 : decode cX5_fillFrom 22 = .ok (.iconst 0, 1) := by decide +kernel
theorem dX5_fillFrom_23 : decode cX5_fillFrom 23 = .ok (.istore 6, 2) := by decide +kernel
theorem dX5_fillFrom_25 : decode cX5_fillFrom 25 = .ok (.iconst 0, 1) := by decide +kernel
theorem dX5_fillFrom_26 : decode cX5_fillFrom 26 = .ok (.istore 7, 2) := by decide +kernel
theorem dX5_fillFrom_28 : decode cX5_fillFrom 28 = .ok (.iload 7, 2) := by decide +kernel
theorem dX5_fillFrom_30 : decode cX5_fillFrom 30 = .ok (.aload_n 0, 1) := by decide +kernel
theorem dX5_fillFrom_31 : decode cX5_fillFrom 31 = .ok (.getfield 33, 3) := by decide +kernel
theorem dX5_fillFrom_34 : decode cX5_fillFrom 34 = .ok (.getfield 98, 3) := by decide +kernel
theorem dX5_fillFrom_37 : decode cX5_fillFrom 37 = .ok (.if_icmp .ge 94, 3) := by decide +kernel
theorem dX5_fillFrom_40 : decode cX5_fillFrom 40 = .ok (.iload 4, 2) := by decide +kernel
theorem dX5_fillFrom_42 : decode cX5_fillFrom 42 = .ok (.iload 7, 2) := by decide +kernel
theorem dX5_fillFrom_44 : decode cX5_fillFrom 44 = .ok (.invokestatic 320, 3) := by decide +kernel
theorem dX5_fillFrom_47 : decode cX5_fillFrom 47 = .ok (.istore 8, 2) := by decide +kernel
theorem dX5_fillFrom_49 : decode cX5_fillFrom 49 = .ok (.aload_n 0, 1) := by decide +kernel
theorem dX5_fillFrom_50 : decode cX5_fillFrom 50 = .ok (.getfield 40, 3) := by decide +kernel
theorem dX5_fillFrom_53 : decode cX5_fillFrom 53 = .ok (.getfield 329, 3) := by decide +kernel
theorem dX5_fillFrom_56 : decode cX5_fillFrom 56 = .ok (.iload 7, 2) := by decide +kernel
theorem dX5_fillFrom_58 : decode cX5_fillFrom 58 = .ok (.invokestatic 261, 3) := by decide +kernel
theorem dX5_fillFrom_61 : decode cX5_fillFrom 61 = .ok (.ifCond .eq 64, 3) := by decide +kernel
theorem dX5_fillFrom_64 : decode cX5_fillFrom 64 = .ok (.aload_n 0, 1) := by decide +kernel
theorem dX5_fillFrom_65 : decode cX5_fillFrom 65 = .ok (.getfield 26, 3) := by decide +kernel
theorem dX5_fillFrom_68 : decode cX5_fillFrom 68 = .ok (.iload 8, 2) := by decide +kernel
theorem dX5_fillFrom_70 : decode cX5_fillFrom 70 = .ok (.invokevirtual 64, 3) := by decide +kernel
theorem dX5_fillFrom_73 : decode cX5_fillFrom 73 = .ok (.ifCond .eq 52, 3) := by decide +kernel
theorem dX5_fillFrom_76 : decode cX5_fillFrom 76 = .ok (.aload_n 0, 1) := by decide +kernel
theorem dX5_fillFrom_77 : decode cX5_fillFrom 77 = .ok (.iload 7, 2) := by decide +kernel
theorem dX5_fillFrom_79 : decode cX5_fillFrom 79 = .ok (.iload 8, 2) := by decide +kernel
theorem dX5_fillFrom_81 : decode cX5_fillFrom 81 = .ok (.iload_n 2, 1) := by decide +kernel
theorem dX5_fillFrom_82 : decode cX5_fillFrom 82 = .ok (.iload_n 3, 1) := by decide +kernel
theorem dX5_fillFrom_83 : decode cX5_fillFrom 83 = .ok (.invokevirtual 277, 3) := by decide +kernel
theorem dX5_fillFrom_86 : decode cX5_fillFrom 86 = .ok (.bipush 110, 2) := by decide +kernel
theorem dX5_fillFrom_88 : decode cX5_fillFrom 88 = .ok (.if_icmp .ne 37, 3) := by decide +kernel
theorem dX5_fillFrom_91 : decode cX5_fillFrom 91 = .ok (.aload_n 0, 1) := by decide +kernel
theorem dX5_fillFrom_92 : decode cX5_fillFrom 92 = .ok (.getfield 40, 3) := by decide +kernel
theorem dX5_fillFrom_95 : decode cX5_fillFrom 95 = .ok (.iload 4, 2) := by decide +kernel
theorem dX5_fillFrom_97 : decode cX5_fillFrom 97 = .ok (.iload 7, 2) := by decide +kernel
theorem dX5_fillFrom_99 : decode cX5_fillFrom 99 = .ok (.iload_n 2, 1) := by decide +kernel
theorem dX5_fillFrom_100 : decode cX5_fillFrom 100 = .ok (.invokestatic 308, 3) := by decide +kernel
theorem dX5_fillFrom_103 : decode cX5_fillFrom 103 = .ok (.iload 5, 2) := by decide +kernel
theorem dX5_fillFrom_105 : decode cX5_fillFrom 105 = .ok (.aload_n 0, 1) := by decide +kernel
theorem dX5_fillFrom_106 : decode cX5_fillFrom 106 = .ok (.getfield 33, 3) := by decide +kernel
theorem dX5_fillFrom_109 : decode cX5_fillFrom 109 = .ok (.getfield 274, 3) := by decide +kernel
theorem dX5_fillFrom_112 : decode cX5_fillFrom 112 = .ok (.iload 7, 2) := by decide +kernel
theorem dX5_fillFrom_114 : decode cX5_fillFrom 114 = .ok (.iaload, 1) := by decide +kernel
theorem dX5_fillFrom_115 : decode cX5_fillFrom 115 = .ok (.iadd, 1) := by decide +kernel
theorem dX5_fillFrom_116 : decode cX5_fillFrom 116 = .ok (.invokevirtual 314, 3) := by decide +kernel
theorem dX5_fillFrom_119 : decode cX5_fillFrom 119 = .ok (.ifCond .eq 6, 3) := by decide +kernel
theorem dX5_fillFrom_122 : decode cX5_fillFrom 122 = .ok (.iconst 1, 1) := by decide +kernel
theorem dX5_fillFrom_123 : decode cX5_fillFrom 123 = .ok (.istore 6, 2) := by decide +kernel
theorem dX5_fillFrom_125 : decode cX5_fillFrom 125 = .ok (.iinc 7 1, 3) := by decide +kernel
theorem dX5_fillFrom_128 : decode cX5_fillFrom 128 = .ok (.goto (-100), 3) := by decide +kernel
theorem dX5_fillFrom_131 : decode cX5_fillFrom 131 = .ok (.iload 6, 2) := by decide +kernel
theorem dX5_fillFrom_133 : decode cX5_fillFrom 133 = .ok (.ireturn, 1) := by decide +kernel
theorem dJx00060_init_a7421_0 : decode cJx00060_init_a7421 0 = .ok (.aload_n 0, 1) := by decide +kernel
theorem dJx00060_init_a7421_1 : decode cJx00060_init_a7421 1 = .ok (.aload_n 1, 1) := by decide +kernel
theorem dJx00060_init_a7421_2 : decode cJx00060_init_a7421 2 = .ok (.invokespecial 7, 3) := by decide +kernel
theorem dJx00060_init_a7421_5 : decode cJx00060_init_a7421 5 = .ok (.return_, 1) := by decide +kernel
theorem dJ6_bitCount_0f7a4_0 : decode cJ6_bitCount_0f7a4 0 = .ok (.iload_n 0, 1) := by decide +kernel
theorem dJ6_bitCount_0f7a4_1 : decode cJ6_bitCount_0f7a4 1 = .ok (.iload_n 0, 1) := by decide +kernel
theorem dJ6_bitCount_0f7a4_2 : decode cJ6_bitCount_0f7a4 2 = .ok (.iconst 1, 1) := by decide +kernel
theorem dJ6_bitCount_0f7a4_3 : decode cJ6_bitCount_0f7a4 3 = .ok (.iushr, 1) := by decide +kernel
theorem dJ6_bitCount_0f7a4_4 : decode cJ6_bitCount_0f7a4 4 = .ok (.ldc_w 265, 3) := by decide +kernel
theorem dJ6_bitCount_0f7a4_7 : decode cJ6_bitCount_0f7a4 7 = .ok (.iand, 1) := by decide +kernel
theorem dJ6_bitCount_0f7a4_8 : decode cJ6_bitCount_0f7a4 8 = .ok (.isub, 1) := by decide +kernel
theorem dJ6_bitCount_0f7a4_9 : decode cJ6_bitCount_0f7a4 9 = .ok (.istore_n 0, 1) := by decide +kernel
theorem dJ6_bitCount_0f7a4_10 : decode cJ6_bitCount_0f7a4 10 = .ok (.iload_n 0, 1) := by decide +kernel
theorem dJ6_bitCount_0f7a4_11 : decode cJ6_bitCount_0f7a4 11 = .ok (.ldc_w 266, 3) := by decide +kernel
theorem dJ6_bitCount_0f7a4_14 : decode cJ6_bitCount_0f7a4 14 = .ok (.iand, 1) := by decide +kernel
theorem dJ6_bitCount_0f7a4_15 : decode cJ6_bitCount_0f7a4 15 = .ok (.iload_n 0, 1) := by decide +kernel
theorem dJ6_bitCount_0f7a4_16 : decode cJ6_bitCount_0f7a4 16 = .ok (.iconst 2, 1) := by decide +kernel
theorem dJ6_bitCount_0f7a4_17 : decode cJ6_bitCount_0f7a4 17 = .ok (.iushr, 1) := by decide +kernel
theorem dJ6_bitCount_0f7a4_18 : decode cJ6_bitCount_0f7a4 18 = .ok (.ldc_w 266, 3) := by decide +kernel
theorem dJ6_bitCount_0f7a4_21 : decode cJ6_bitCount_0f7a4 21 = .ok (.iand, 1) := by decide +kernel
theorem dJ6_bitCount_0f7a4_22 : decode cJ6_bitCount_0f7a4 22 = .ok (.iadd, 1) := by decide +kernel
theorem dJ6_bitCount_0f7a4_23 : decode cJ6_bitCount_0f7a4 23 = .ok (.istore_n 0, 1) := by decide +kernel
theorem dJ6_bitCount_0f7a4_24 : decode cJ6_bitCount_0f7a4 24 = .ok (.iload_n 0, 1) := by decide +kernel
theorem dJ6_bitCount_0f7a4_25 : decode cJ6_bitCount_0f7a4 25 = .ok (.iload_n 0, 1) := by decide +kernel
theorem dJ6_bitCount_0f7a4_26 : decode cJ6_bitCount_0f7a4 26 = .ok (.iconst 4, 1) := by decide +kernel
theorem dJ6_bitCount_0f7a4_27 : decode cJ6_bitCount_0f7a4 27 = .ok (.iushr, 1) := by decide +kernel
theorem dJ6_bitCount_0f7a4_28 : decode cJ6_bitCount_0f7a4 28 = .ok (.iadd, 1) := by decide +kernel
theorem dJ6_bitCount_0f7a4_29 : decode cJ6_bitCount_0f7a4 29 = .ok (.ldc_w 267, 3) := by decide +kernel
theorem dJ6_bitCount_0f7a4_32 : decode cJ6_bitCount_0f7a4 32 = .ok (.iand, 1) := by decide +kernel
theorem dJ6_bitCount_0f7a4_33 : decode cJ6_bitCount_0f7a4 33 = .ok (.istore_n 0, 1) := by decide +kernel
theorem dJ6_bitCount_0f7a4_34 : decode cJ6_bitCount_0f7a4 34 = .ok (.iload_n 0, 1) := by decide +kernel
theorem dJ6_bitCount_0f7a4_35 : decode cJ6_bitCount_0f7a4 35 = .ok (.iload_n 0, 1) := by decide +kernel
theorem dJ6_bitCount_0f7a4_36 : decode cJ6_bitCount_0f7a4 36 = .ok (.bipush 8, 2) := by decide +kernel
theorem dJ6_bitCount_0f7a4_38 : decode cJ6_bitCount_0f7a4 38 = .ok (.iushr, 1) := by decide +kernel
theorem dJ6_bitCount_0f7a4_39 : decode cJ6_bitCount_0f7a4 39 = .ok (.iadd, 1) := by decide +kernel
theorem dJ6_bitCount_0f7a4_40 : decode cJ6_bitCount_0f7a4 40 = .ok (.istore_n 0, 1) := by decide +kernel
theorem dJ6_bitCount_0f7a4_41 : decode cJ6_bitCount_0f7a4 41 = .ok (.iload_n 0, 1) := by decide +kernel
theorem dJ6_bitCount_0f7a4_42 : decode cJ6_bitCount_0f7a4 42 = .ok (.iload_n 0, 1) := by decide +kernel
theorem dJ6_bitCount_0f7a4_43 : decode cJ6_bitCount_0f7a4 43 = .ok (.bipush 16, 2) := by decide +kernel
theorem dJ6_bitCount_0f7a4_45 : decode cJ6_bitCount_0f7a4 45 = .ok (.iushr, 1) := by decide +kernel
theorem dJ6_bitCount_0f7a4_46 : decode cJ6_bitCount_0f7a4 46 = .ok (.iadd, 1) := by decide +kernel
theorem dJ6_bitCount_0f7a4_47 : decode cJ6_bitCount_0f7a4 47 = .ok (.istore_n 0, 1) := by decide +kernel
theorem dJ6_bitCount_0f7a4_48 : decode cJ6_bitCount_0f7a4 48 = .ok (.iload_n 0, 1) := by decide +kernel
theorem dJ6_bitCount_0f7a4_49 : decode cJ6_bitCount_0f7a4 49 = .ok (.bipush 63, 2) := by decide +kernel
theorem dJ6_bitCount_0f7a4_51 : decode cJ6_bitCount_0f7a4 51 = .ok (.iand, 1) := by decide +kernel
theorem dJ6_bitCount_0f7a4_52 : decode cJ6_bitCount_0f7a4 52 = .ok (.ireturn, 1) := by decide +kernel
theorem dJ9_abs_0f7a4_0 : decode cJ9_abs_0f7a4 0 = .ok (.iload_n 0, 1) := by decide +kernel
theorem dJ9_abs_0f7a4_1 : decode cJ9_abs_0f7a4 1 = .ok (.ifCond .ge 8, 3) := by decide +kernel
theorem dJ9_abs_0f7a4_4 : decode cJ9_abs_0f7a4 4 = .ok (.iload_n 0, 1) := by decide +kernel
theorem dJ9_abs_0f7a4_5 : decode cJ9_abs_0f7a4 5 = .ok (.ineg, 1) := by decide +kernel
theorem dJ9_abs_0f7a4_6 : decode cJ9_abs_0f7a4 6 = .ok (.goto 4, 3) := by decide +kernel
theorem dJ9_abs_0f7a4_9 : decode cJ9_abs_0f7a4 9 = .ok (.iload_n 0, 1) := by decide +kernel
theorem dJ9_abs_0f7a4_10 : decode cJ9_abs_0f7a4 10 = .ok (.ireturn, 1) := by decide +kernel
theorem dJ9_min_7cf53_0 : decode cJ9_min_7cf53 0 = .ok (.iload_n 0, 1) := by decide +kernel
theorem dJ9_min_7cf53_1 : decode cJ9_min_7cf53 1 = .ok (.iload_n 1, 1) := by decide +kernel
theorem dJ9_min_7cf53_2 : decode cJ9_min_7cf53 2 = .ok (.if_icmp .gt 7, 3) := by decide +kernel
theorem dJ9_min_7cf53_5 : decode cJ9_min_7cf53 5 = .ok (.iload_n 0, 1) := by decide +kernel
theorem dJ9_min_7cf53_6 : decode cJ9_min_7cf53 6 = .ok (.goto 4, 3) := by decide +kernel
theorem dJ9_min_7cf53_9 : decode cJ9_min_7cf53 9 = .ok (.iload_n 1, 1) := by decide +kernel
theorem dJ9_min_7cf53_10 : decode cJ9_min_7cf53 10 = .ok (.ireturn, 1) := by decide +kernel
theorem dJ7_fill_53178_0 : decode cJ7_fill_53178 0 = .ok (.iconst 0, 1) := by decide +kernel
theorem dJ7_fill_53178_1 : decode cJ7_fill_53178 1 = .ok (.istore_n 2, 1) := by decide +kernel
theorem dJ7_fill_53178_2 : decode cJ7_fill_53178 2 = .ok (.aload_n 0, 1) := by decide +kernel
theorem dJ7_fill_53178_3 : decode cJ7_fill_53178 3 = .ok (.arraylength, 1) := by decide +kernel
theorem dJ7_fill_53178_4 : decode cJ7_fill_53178 4 = .ok (.istore_n 3, 1) := by decide +kernel
theorem dJ7_fill_53178_5 : decode cJ7_fill_53178 5 = .ok (.iload_n 2, 1) := by decide +kernel
theorem dJ7_fill_53178_6 : decode cJ7_fill_53178 6 = .ok (.iload_n 3, 1) := by decide +kernel
theorem dJ7_fill_53178_7 : decode cJ7_fill_53178 7 = .ok (.if_icmp .ge 13, 3) := by decide +kernel
theorem dJ7_fill_53178_10 : decode cJ7_fill_53178 10 = .ok (.aload_n 0, 1) := by decide +kernel
theorem dJ7_fill_53178_11 : decode cJ7_fill_53178 11 = .ok (.iload_n 2, 1) := by decide +kernel
theorem dJ7_fill_53178_12 : decode cJ7_fill_53178 12 = .ok (.iload_n 1, 1) := by decide +kernel
theorem dJ7_fill_53178_13 : decode cJ7_fill_53178 13 = .ok (.iastore, 1) := by decide +kernel
theorem dJ7_fill_53178_14 : decode cJ7_fill_53178 14 = .ok (.iinc 2 1, 3) := by decide +kernel
theorem dJ7_fill_53178_17 : decode cJ7_fill_53178 17 = .ok (.goto (-12), 3) := by decide +kernel
theorem dJ7_fill_53178_20 : decode cJ7_fill_53178 20 = .ok (.return_, 1) := by decide +kernel
