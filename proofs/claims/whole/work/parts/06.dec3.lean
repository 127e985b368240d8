theorem dX6_init_0 : decode cX6_init 0 = .ok (.aload_n 0, 1) := by decide +kernel
theorem dX6_init_1 : decode cX6_init 1 = .ok (.invokespecial 1, 3) := by decide +kernel
theorem dX6_init_4 : decode cX6_init 4 = .ok (.aload_n 0, 1) := by decide +kernel
theorem dX6_init_5 : decode cX6_init 5 = .ok (.sipush 200, 3) := by decide +kernel
theorem dX6_init_8 : decode cX6_init 8 = .ok (.putfield 7, 3) := by decide +kernel
theorem dX6_init_11 : decode cX6_init 11 = .ok (.aload_n 0, 1) := by decide +kernel
theorem dX6_init_12 : decode cX6_init 12 = .ok (.bipush 40, 2) := by decide +kernel
theorem dX6_init_14 : decode cX6_init 14 = .ok (.putfield 13, 3) := by decide +kernel
theorem dX6_init_17 : decode cX6_init 17 = .ok (.aload_n 0, 1) := by decide +kernel
theorem dX6_init_18 : decode cX6_init 18 = .ok (.bipush 10, 2) := by decide +kernel
theorem dX6_init_20 : decode cX6_init 20 = .ok (.putfield 16, 3) := by decide +kernel
theorem dX6_init_23 : decode cX6_init 23 = .ok (.aload_n 0, 1) := by decide +kernel
theorem dX6_init_24 : decode cX6_init 24 = .ok (.bipush 100, 2) := by decide +kernel
theorem dX6_init_26 : decode cX6_init 26 = .ok (.putfield 19, 3) := by decide +kernel
theorem dX6_init_29 : decode cX6_init 29 = .ok (.aload_n 0, 1) := by decide +kernel
theorem dX6_init_30 : decode cX6_init 30 = .ok (.bipush 10, 2) := by decide +kernel
theorem dX6_init_32 : decode cX6_init 32 = .ok (.putfield 22, 3) := by decide +kernel
theorem dX6_init_35 : decode cX6_init 35 = .ok (.aload_n 0, 1) := by decide +kernel
theorem dX6_init_36 : decode cX6_init 36 = .ok (.iconst (-1), 1) := by decide +kernel
theorem dX6_init_37 : decode cX6_init 37 = .ok (.putfield 25, 3) := by decide +kernel
theorem dX6_init_40 : decode cX6_init 40 = .ok (.aload_n 0, 1) := by decide +kernel
theorem dX6_init_41 : decode cX6_init 41 = .ok (.bipush 6, 2) := by decide +kernel
theorem dX6_init_43 : decode cX6_init 43 = .ok (.newarray .int, 2) := by decide +kernel
theorem dX6_init_45 : decode cX6_init 45 = .ok (.putfield 28, 3) := by decide +kernel
theorem dX6_init_48 : decode cX6_init 48 = .ok (.aload_n 0, 1) := by decide +kernel
theorem dX6_init_49 : decode cX6_init 49 = .ok (.bipush 6, 2) := by decide +kernel
theorem dX6_init_51 : decode cX6_init 51 = .ok (.newarray .int, 2) := by decide +kernel
theorem dX6_init_53 : decode cX6_init 53 = .ok (.putfield 32, 3) := by decide +kernel
theorem dX6_init_56 : decode cX6_init 56 = .ok (.aload_n 0, 1) := by decide +kernel
theorem dX6_init_57 : decode cX6_init 57 = .ok (.bipush 6, 2) := by decide +kernel
theorem dX6_init_59 : decode cX6_init 59 = .ok (.newarray .int, 2) := by decide +kernel
theorem dX6_init_61 : decode cX6_init 61 = .ok (.putfield 35, 3) := by decide +kernel
theorem dX6_init_64 : decode cX6_init 64 = .ok (.aload_n 0, 1) := by decide +kernel
theorem dX6_init_65 : decode cX6_init 65 = .ok (.bipush 6, 2) := by decide +kernel
theorem dX6_init_67 : decode cX6_init 67 = .ok (.newarray .int, 2) := by decide +kernel
theorem dX6_init_69 : decode cX6_init 69 = .ok (.putfield 38, 3) := by decide +kernel
theorem dX6_init_72 : decode cX6_init 72 = .ok (.aload_n 0, 1) := by decide +kernel
theorem dX6_init_73 : decode cX6_init 73 = .ok (.bipush 6, 2) := by decide +kernel
theorem dX6_init_75 : decode cX6_init 75 = .ok (.newarray .int, 2) := by decide +kernel
theorem dX6_init_77 : decode cX6_init 77 = .ok (.putfield 41, 3) := by decide +kernel
theorem dX6_init_80 : decode cX6_init 80 = .ok (.aload_n 0, 1) := by decide +kernel
theorem dX6_init_81 : decode cX6_init 81 = .ok (.bipush 8, 2) := by decide +kernel
theorem dX6_init_83 : decode cX6_init 83 = .ok (.newarray .int, 2) := by decide +kernel
theorem dX6_init_85 : decode cX6_init 85 = .ok (.putfield 44, 3) := by decide +kernel
theorem dX6_init_88 : decode cX6_init 88 = .ok (.aload_n 0, 1) := by decide +kernel
theorem dX6_init_89 : decode cX6_init 89 = .ok (.bipush 8, 2) := by decide +kernel
theorem dX6_init_91 : decode cX6_init 91 = .ok (.newarray .int, 2) := by decide +kernel
theorem dX6_init_93 : decode cX6_init 93 = .ok (.putfield 47, 3) := by decide +kernel
theorem dX6_init_96 : decode cX6_init 96 = .ok (.aload_n 0, 1) := by decide +kernel
theorem dX6_init_97 : decode cX6_init 97 = .ok (.bipush 8, 2) := by decide +kernel
theorem dX6_init_99 : decode cX6_init 99 = .ok (.newarray .int, 2) := by decide +kernel
theorem dX6_init_101 : decode cX6_init 101 = .ok (.putfield 50, 3) := by decide +kernel
theorem dX6_init_104 : decode cX6_init 104 = .ok (.aload_n 0, 1) := by decide +kernel
theorem dX6_init_105 : decode cX6_init 105 = .ok (.bipush 8, 2) := by decide +kernel
theorem dX6_init_107 : decode cX6_init 107 = .ok (.newarray .int, 2) := by decide +kernel
theorem dX6_init_109 : decode cX6_init 109 = .ok (.putfield 53, 3) := by decide +kernel
theorem dX6_init_112 : decode cX6_init 112 = .ok (.aload_n 0, 1) := by decide +kernel
theorem dX6_init_113 : decode cX6_init 113 = .ok (.bipush 8, 2) := by decide +kernel
theorem dX6_init_115 : decode cX6_init 115 = .ok (.newarray .int, 2) := by decide +kernel
theorem dX6_init_117 : decode cX6_init 117 = .ok (.putfield 56, 3) := by decide +kernel
theorem dX6_init_120 : decode cX6_init 120 = .ok (.aload_n 0, 1) := by decide +kernel
theorem dX6_init_121 : decode cX6_init 121 = .ok (.bipush 8, 2) := by decide +kernel
theorem dX6_init_123 : decode cX6_init 123 = .ok (.newarray .int, 2) := by decide +kernel
theorem dX6_init_125 : decode cX6_init 125 = .ok (.putfield 59, 3) := by decide +kernel
theorem dX6_init_128 : decode cX6_init 128 = .ok (.aload_n 0, 1) := by decide +kernel
theorem dX6_init_129 : decode cX6_init 129 = .ok (.bipush 8, 2) := by decide +kernel
theorem dX6_init_131 : decode cX6_init 131 = .ok (.newarray .int, 2) := by decide +kernel
theorem dX6_init_133 : decode cX6_init 133 = .ok (.putfield 62, 3) := by decide +kernel
theorem dX6_init_136 : decode cX6_init 136 = .ok (.aload_n 0, 1) := by decide +kernel
theorem dX6_init_137 : decode cX6_init 137 = .ok (.bipush 8, 2) := by decide +kernel
theorem dX6_init_139 : decode cX6_init 139 = .ok (.newarray .boolean, 2) := by decide +kernel
theorem dX6_init_141 : decode cX6_init 141 = .ok (.putfield 65, 3) := by decide +kernel
theorem dX6_init_144 : decode cX6_init 144 = .ok (.aload_n 0, 1) := by decide +kernel
theorem dX6_init_145 : decode cX6_init 145 = .ok (.sipush 720, 3) := by decide +kernel
theorem dX6_init_148 : decode cX6_init 148 = .ok (.newarray .int, 2) := by decide +kernel
theorem dX6_init_150 : decode cX6_init 150 = .ok (.putfield 69, 3) := by decide +kernel
theorem dX6_init_153 : decode cX6_init 153 = .ok (.aload_n 0, 1) := by decide +kernel
theorem dX6_init_154 : decode cX6_init 154 = .ok (.sipush 720, 3) := by decide +kernel
theorem dX6_init_157 : decode cX6_init 157 = .ok (.newarray .int, 2) := by decide +kernel
theorem dX6_init_159 : decode cX6_init 159 = .ok (.putfield 72, 3) := by decide +kernel
theorem dX6_init_162 : decode cX6_init 162 = .ok (.aload_n 0, 1) := by decide +kernel
theorem dX6_init_163 : decode cX6_init 163 = .ok (.sipush 2048, 3) := by decide +kernel
theorem dX6_init_166 : decode cX6_init 166 = .ok (.newarray .int, 2) := by decide +kernel
theorem dX6_init_168 : decode cX6_init 168 = .ok (.putfield 75, 3) := by decide +kernel
theorem dX6_init_171 : decode cX6_init 171 = .ok (.aload_n 0, 1) := by decide +kernel
theorem dX6_init_172 : decode cX6_init 172 = .ok (.bipush 8, 2) := by decide +kernel
theorem dX6_init_174 : decode cX6_init 174 = .ok (.newarray .int, 2) := by decide +kernel
theorem dX6_init_176 : decode cX6_init 176 = .ok (.putfield 78, 3) := by decide +kernel
theorem dX6_init_179 : decode cX6_init 179 = .ok (.aload_n 0, 1) := by decide +kernel
theorem dX6_init_180 : decode cX6_init 180 = .ok (.sipush 720, 3) := by decide +kernel
theorem dX6_init_183 : decode cX6_init 183 = .ok (.newarray .boolean, 2) := by decide +kernel
theorem dX6_init_185 : decode cX6_init 185 = .ok (.putfield 81, 3) := by decide +kernel
theorem dX6_init_188 : decode cX6_init 188 = .ok (.return_, 1) := by decide +kernel
theorem dX6_thrown_0 : decode cX6_thrown 0 = .ok (.aload_n 0, 1) := by decide +kernel
theorem dX6_thrown_1 : decode cX6_thrown 1 = .ok (.getfield 84, 3) := by decide +kernel
theorem dX6_thrown_4 : decode cX6_thrown 4 = .ok (.ireturn, 1) := by decide +kernel
theorem dX6_in_0 : decode cX6_in 0 = .ok (.iload_n 0, 1) := by decide +kernel
theorem dX6_in_1 : decode cX6_in 1 = .ok (.iload_n 1, 1) := by decide +kernel
theorem dX6_in_2 : decode cX6_in 2 = .ok (.if_icmp .lt 12, 3) := by decide +kernel
theorem dX6_in_5 : decode cX6_in 5 = .ok (.iload_n 0, 1) := by decide +kernel
theorem dX6_in_6 : decode cX6_in 6 = .ok (.iload_n 2, 1) := by decide +kernel
theorem dX6_in_7 : decode cX6_in 7 = .ok (.if_icmp .gt 7, 3) := by decide +kernel
theorem dX6_in_10 : decode cX6_in 10 = .ok (.iconst 1, 1) := by decide +kernel
theorem dX6_in_11 : decode cX6_in 11 = .ok (.goto 4, 3) := by decide +kernel
theorem dX6_in_14 : decode cX6_in 14 = .ok (.iconst 0, 1) := by decide +kernel
theorem dX6_in_15 : decode cX6_in 15 = .ok (.ireturn, 1) := by decide +kernel
theorem dX6_fails_0 : decode cX6_fails 0 = .ok (.aload_n 0, 1) := by decide +kernel
theorem dX6_fails_1 : decode cX6_fails 1 = .ok (.iload_n 1, 1) := by decide +kernel
theorem dX6_fails_2 : decode cX6_fails 2 = .ok (.putfield 84, 3) := by decide +kernel
theorem dX6_fails_5 : decode cX6_fails 5 = .ok (.iconst 0, 1) := by decide +kernel
theorem dX6_fails_6 : decode cX6_fails 6 = .ok (.ireturn, 1) := by decide +kernel
theorem dX6_tells_0 : decode cX6_tells 0 = .ok (.aload_n 0, 1) := by decide +kernel
theorem dX6_tells_1 : decode cX6_tells 1 = .ok (.iconst 0, 1) := by decide +kernel
theorem dX6_tells_2 : decode cX6_tells 2 = .ok (.putfield 84, 3) := by decide +kernel
theorem dX6_tells_5 : decode cX6_tells 5 = .ok (.iload_n 1, 1) := by decide +kernel
theorem dX6_tells_6 : decode cX6_tells 6 = .ok (.ireturn, 1) := by decide +kernel
theorem dX6_isBoat_0 : decode cX6_isBoat 0 = .ok (.iload_n 1, 1) := by decide +kernel
theorem dX6_isBoat_1 : decode cX6_isBoat 1 = .ok (.iconst 0, 1) := by decide +kernel
theorem dX6_isBoat_2 : decode cX6_isBoat 2 = .ok (.aload_n 0, 1) := by decide +kernel
theorem dX6_isBoat_3 : decode cX6_isBoat 3 = .ok (.getfield 87, 3) := by decide +kernel
theorem dX6_isBoat_6 : decode cX6_isBoat 6 = .ok (.iconst 1, 1) := by decide +kernel
theorem dX6_isBoat_7 : decode cX6_isBoat 7 = .ok (.isub, 1) := by decide +kernel
theorem dX6_isBoat_8 : decode cX6_isBoat 8 = .ok (.invokestatic 90, 3) := by decide +kernel
theorem dX6_isBoat_11 : decode cX6_isBoat 11 = .ok (.ireturn, 1) := by decide +kernel
theorem dX6_isBerth_0 : decode cX6_isBerth 0 = .ok (.iload_n 1, 1) := by decide +kernel
theorem dX6_isBerth_1 : decode cX6_isBerth 1 = .ok (.iconst 0, 1) := by decide +kernel
theorem dX6_isBerth_2 : decode cX6_isBerth 2 = .ok (.aload_n 0, 1) := by decide +kernel
theorem dX6_isBerth_3 : decode cX6_isBerth 3 = .ok (.getfield 94, 3) := by decide +kernel
theorem dX6_isBerth_6 : decode cX6_isBerth 6 = .ok (.iconst 1, 1) := by decide +kernel
theorem dX6_isBerth_7 : decode cX6_isBerth 7 = .ok (.isub, 1) := by decide +kernel
theorem dX6_isBerth_8 : decode cX6_isBerth 8 = .ok (.invokestatic 90, 3) := by decide +kernel
theorem dX6_isBerth_11 : decode cX6_isBerth 11 = .ok (.ireturn, 1) := by decide +kernel
theorem dX6_addBerth_0 : decode cX6_addBerth 0 = .ok (.iload_n 1, 1) := by decide +kernel
theorem dX6_addBerth_1 : decode cX6_addBerth 1 = .ok (.iconst (-1), 1) := by decide +kernel
theorem dX6_addBerth_2 : decode cX6_addBerth 2 = .ok (.if_icmp .eq 17, 3) := by decide +kernel
theorem dX6_addBerth_5 : decode cX6_addBerth 5 = .ok (.aload_n 0, 1) := by decide +kernel
theorem dX6_addBerth_6 : decode cX6_addBerth 6 = .ok (.iload_n 1, 1) := by decide +kernel
theorem dX6_addBerth_7 : decode cX6_addBerth 7 = .ok (.invokevirtual 97, 3) := by decide +kernel
theorem dX6_addBerth_10 : decode cX6_addBerth 10 = .ok (.ifCond .ne 9, 3) := by decide +kernel
theorem dX6_addBerth_13 : decode cX6_addBerth 13 = .ok (.aload_n 0, 1) := by decide +kernel
theorem dX6_addBerth_14 : decode cX6_addBerth 14 = .ok (.iconst 1, 1) := by decide +kernel
theorem dX6_addBerth_15 : decode cX6_addBerth 15 = .ok (.invokevirtual 101, 3) := by decide +kernel
theorem dX6_addBerth_18 : decode cX6_addBerth 18 = .ok (.ireturn, 1) := by decide +kernel
theorem dX6_addBerth_19 : decode cX6_addBerth 19 = .ok (.iload_n 2, 1) := by decide +kernel
theorem dX6_addBerth_20 : decode cX6_addBerth 20 = .ok (.iconst 1, 1) := by decide +kernel
theorem dX6_addBerth_21 : decode cX6_addBerth 21 = .ok (.sipush 200, 3) := by decide +kernel
theorem dX6_addBerth_24 : decode cX6_addBerth 24 = .ok (.invokestatic 90, 3) := by decide +kernel
theorem dX6_addBerth_27 : decode cX6_addBerth 27 = .ok (.ifCond .eq 13, 3) := by decide +kernel
theorem dX6_addBerth_30 : decode cX6_addBerth 30 = .ok (.iload_n 3, 1) := by decide +kernel
theorem dX6_addBerth_31 : decode cX6_addBerth 31 = .ok (.iconst 1, 1) := by decide +kernel
theorem dX6_addBerth_32 : decode cX6_addBerth 32 = .ok (.bipush 40, 2) := by decide +kernel
theorem dX6_addBerth_34 : decode cX6_addBerth 34 = .ok (.invokestatic 90, 3) := by decide +kernel
theorem dX6_addBerth_37 : decode cX6_addBerth 37 = .ok (.ifCond .ne 9, 3) := by decide +kernel
theorem dX6_addBerth_40 : decode cX6_addBerth 40 = .ok (.aload_n 0, 1) := by decide +kernel
theorem dX6_addBerth_41 : decode cX6_addBerth 41 = .ok (.iconst 2, 1) := by decide +kernel
theorem dX6_addBerth_42 : decode cX6_addBerth 42 = .ok (.invokevirtual 101, 3) := by decide +kernel
theorem dX6_addBerth_45 : decode cX6_addBerth 45 = .ok (.ireturn, 1) := by decide +kernel
theorem dX6_addBerth_46 : decode cX6_addBerth 46 = .ok (.aload_n 0, 1) := by decide +kernel
theorem dX6_addBerth_47 : decode cX6_addBerth 47 = .ok (.getfield 94, 3) := by decide +kernel
theorem dX6_addBerth_50 : decode cX6_addBerth 50 = .ok (.bipush 6, 2) := by decide +kernel
theorem dX6_addBerth_52 : decode cX6_addBerth 52 = .ok (.if_icmp .ne 9, 3) := by decide +kernel
theorem dX6_addBerth_55 : decode cX6_addBerth 55 = .ok (.aload_n 0, 1) := by decide +kernel
theorem dX6_addBerth_56 : decode cX6_addBerth 56 = .ok (.iconst 3, 1) := by decide +kernel
theorem dX6_addBerth_57 : decode cX6_addBerth 57 = .ok (.invokevirtual 101, 3) := by decide +kernel
theorem dX6_addBerth_60 : decode cX6_addBerth 60 = .ok (.ireturn, 1) := by decide +kernel
theorem dX6_addBerth_61 : decode cX6_addBerth 61 = .ok (.aload_n 0, 1) := by decide +kernel
theorem dX6_addBerth_62 : decode cX6_addBerth 62 = .ok (.getfield 35, 3) := by decide +kernel
theorem dX6_addBerth_65 : decode cX6_addBerth 65 = .ok (.aload_n 0, 1) := by decide +kernel
theorem dX6_addBerth_66 : decode cX6_addBerth 66 = .ok (.getfield 94, 3) := by decide +kernel
theorem dX6_addBerth_69 : decode cX6_addBerth 69 = .ok (.iload_n 1, 1) := by decide +kernel
theorem dX6_addBerth_70 : decode cX6_addBerth 70 = .ok (.iastore, 1) := by decide +kernel
theorem dX6_addBerth_71 : decode cX6_addBerth 71 = .ok (.aload_n 0, 1) := by decide +kernel
theorem dX6_addBerth_72 : decode cX6_addBerth 72 = .ok (.getfield 38, 3) := by decide +kernel
theorem dX6_addBerth_75 : decode cX6_addBerth 75 = .ok (.aload_n 0, 1) := by decide +kernel
theorem dX6_addBerth_76 : decode cX6_addBerth 76 = .ok (.getfield 94, 3) := by decide +kernel
theorem dX6_addBerth_79 : decode cX6_addBerth 79 = .ok (.iload_n 2, 1) := by decide +kernel
theorem dX6_addBerth_80 : decode cX6_addBerth 80 = .ok (.iastore, 1) := by decide +kernel
theorem dX6_addBerth_81 : decode cX6_addBerth 81 = .ok (.aload_n 0, 1) := by decide +kernel
theorem dX6_addBerth_82 : decode cX6_addBerth 82 = .ok (.getfield 41, 3) := by decide +kernel
theorem dX6_addBerth_85 : decode cX6_addBerth 85 = .ok (.aload_n 0, 1) := by decide +kernel
theorem dX6_addBerth_86 : decode cX6_addBerth 86 = .ok (.getfield 94, 3) := by decide +kernel
theorem dX6_addBerth_89 : decode cX6_addBerth 89 = .ok (.iload_n 3, 1) := by decide +kernel
theorem dX6_addBerth_90 : decode cX6_addBerth 90 = .ok (.iastore, 1) := by decide +kernel
theorem dX6_addBerth_91 : decode cX6_addBerth 91 = .ok (.aload_n 0, 1) := by decide +kernel
theorem dX6_addBerth_92 : decode cX6_addBerth 92 = .ok (.dup, 1) := by decide +kernel
theorem dX6_addBerth_93 : decode cX6_addBerth 93 = .ok (.getfield 94, 3) := by decide +kernel
theorem dX6_addBerth_96 : decode cX6_addBerth 96 = .ok (.iconst 1, 1) := by decide +kernel
theorem dX6_addBerth_97 : decode cX6_addBerth 97 = .ok (.iadd, 1) := by decide +kernel
theorem dX6_addBerth_98 : decode cX6_addBerth 98 = .ok (.putfield 94, 3) := by decide +kernel
theorem dX6_addBerth_101 : decode cX6_addBerth 101 = .ok (.aload_n 0, 1) := by decide +kernel
theorem dX6_addBerth_102 : decode cX6_addBerth 102 = .ok (.aload_n 0, 1) := by decide +kernel
theorem dX6_addBerth_103 : decode cX6_addBerth 103 = .ok (.getfield 94, 3) := by decide +kernel
theorem dX6_addBerth_106 : decode cX6_addBerth 106 = .ok (.iconst 1, 1) := by decide +kernel
theorem dX6_addBerth_107 : decode cX6_addBerth 107 = .ok (.isub, 1) := by decide +kernel
theorem dX6_addBerth_108 : decode cX6_addBerth 108 = .ok (.invokevirtual 105, 3) := by decide +kernel
theorem dX6_addBerth_111 : decode cX6_addBerth 111 = .ok (.ireturn, 1) := by decide +kernel
theorem dX6_addBoat_0 : decode cX6_addBoat 0 = .ok (.iload_n 1, 1) := by decide +kernel
theorem dX6_addBoat_1 : decode cX6_addBoat 1 = .ok (.bipush 50, 2) := by decide +kernel
theorem dX6_addBoat_3 : decode cX6_addBoat 3 = .ok (.sipush 400, 3) := by decide +kernel
theorem dX6_addBoat_6 : decode cX6_addBoat 6 = .ok (.invokestatic 90, 3) := by decide +kernel
theorem dX6_addBoat_9 : decode cX6_addBoat 9 = .ok (.ifCond .eq 35, 3) := by decide +kernel
theorem dX6_addBoat_12 : decode cX6_addBoat 12 = .ok (.iload_n 2, 1) := by decide +kernel
theorem dX6_addBoat_13 : decode cX6_addBoat 13 = .ok (.iconst 1, 1) := by decide +kernel
theorem dX6_addBoat_14 : decode cX6_addBoat 14 = .ok (.sipush 200, 3) := by decide +kernel
theorem dX6_addBoat_17 : decode cX6_addBoat 17 = .ok (.invokestatic 90, 3) := by decide +kernel
theorem dX6_addBoat_20 : decode cX6_addBoat 20 = .ok (.ifCond .eq 24, 3) := by decide +kernel
theorem dX6_addBoat_23 : decode cX6_addBoat 23 = .ok (.iload_n 3, 1) := by decide +kernel
theorem dX6_addBoat_24 : decode cX6_addBoat 24 = .ok (.iconst 1, 1) := by decide +kernel
theorem dX6_addBoat_25 : decode cX6_addBoat 25 = .ok (.bipush 40, 2) := by decide +kernel
theorem dX6_addBoat_27 : decode cX6_addBoat 27 = .ok (.invokestatic 90, 3) := by decide +kernel
theorem dX6_addBoat_30 : decode cX6_addBoat 30 = .ok (.ifCond .eq 14, 3) := by decide +kernel
theorem dX6_addBoat_33 : decode cX6_addBoat 33 = .ok (.iload 4, 2) := by decide +kernel
theorem dX6_addBoat_35 : decode cX6_addBoat 35 = .ok (.iconst 0, 1) := by decide +kernel
theorem dX6_addBoat_36 : decode cX6_addBoat 36 = .ok (.bipush 9, 2) := by decide +kernel
theorem dX6_addBoat_38 : decode cX6_addBoat 38 = .ok (.invokestatic 90, 3) := by decide +kernel
theorem dX6_addBoat_41 : decode cX6_addBoat 41 = .ok (.ifCond .ne 9, 3) := by decide +kernel
theorem dX6_addBoat_44 : decode cX6_addBoat 44 = .ok (.aload_n 0, 1) := by decide +kernel
theorem dX6_addBoat_45 : decode cX6_addBoat 45 = .ok (.iconst 1, 1) := by decide +kernel
theorem dX6_addBoat_46 : decode cX6_addBoat 46 = .ok (.invokevirtual 101, 3) := by decide +kernel
theorem dX6_addBoat_49 : decode cX6_addBoat 49 = .ok (.ireturn, 1) := by decide +kernel
theorem dX6_addBoat_50 : decode cX6_addBoat 50 = .ok (.aload_n 0, 1) := by decide +kernel
theorem dX6_addBoat_51 : decode cX6_addBoat 51 = .ok (.getfield 87, 3) := by decide +kernel
theorem dX6_addBoat_54 : decode cX6_addBoat 54 = .ok (.bipush 8, 2) := by decide +kernel
theorem dX6_addBoat_56 : decode cX6_addBoat 56 = .ok (.if_icmp .ne 9, 3) := by decide +kernel
theorem dX6_addBoat_59 : decode cX6_addBoat 59 = .ok (.aload_n 0, 1) := by decide +kernel
theorem dX6_addBoat_60 : decode cX6_addBoat 60 = .ok (.iconst 2, 1) := by decide +kernel
theorem dX6_addBoat_61 : decode cX6_addBoat 61 = .ok (.invokevirtual 101, 3) := by decide +kernel
theorem dX6_addBoat_64 : decode cX6_addBoat 64 = .ok (.ireturn, 1) := by decide +kernel
theorem dX6_addBoat_65 : decode cX6_addBoat 65 = .ok (.aload_n 0, 1) := by decide +kernel
theorem dX6_addBoat_66 : decode cX6_addBoat 66 = .ok (.getfield 44, 3) := by decide +kernel
theorem dX6_addBoat_69 : decode cX6_addBoat 69 = .ok (.aload_n 0, 1) := by decide +kernel
theorem dX6_addBoat_70 : decode cX6_addBoat 70 = .ok (.getfield 87, 3) := by decide +kernel
theorem dX6_addBoat_73 : decode cX6_addBoat 73 = .ok (.iload_n 1, 1) := by decide +kernel
theorem dX6_addBoat_74 : decode cX6_addBoat 74 = .ok (.iastore, 1) := by decide +kernel
theorem dX6_addBoat_75 : decode cX6_addBoat 75 = .ok (.aload_n 0, 1) := by decide +kernel
theorem dX6_addBoat_76 : decode cX6_addBoat 76 = .ok (.getfield 47, 3) := by decide +kernel
theorem dX6_addBoat_79 : decode cX6_addBoat 79 = .ok (.aload_n 0, 1) := by decide +kernel
theorem dX6_addBoat_80 : decode cX6_addBoat 80 = .ok (.getfield 87, 3) := by decide +kernel
theorem dX6_addBoat_83 : decode cX6_addBoat 83 = .ok (.iload_n 2, 1) := by decide +kernel
theorem dX6_addBoat_84 : decode cX6_addBoat 84 = .ok (.iastore, 1) := by decide +kernel
theorem dX6_addBoat_85 : decode cX6_addBoat 85 = .ok (.aload_n 0, 1) := by decide +kernel
theorem dX6_addBoat_86 : decode cX6_addBoat 86 = .ok (.getfield 50, 3) := by decide +kernel
theorem dX6_addBoat_89 : decode cX6_addBoat 89 = .ok (.aload_n 0, 1) := by decide +kernel
theorem dX6_addBoat_90 : decode cX6_addBoat 90 = .ok (.getfield 87, 3) := by decide +kernel
theorem dX6_addBoat_93 : decode cX6_addBoat 93 = .ok (.iload_n 3, 1) := by decide +kernel
theorem dX6_addBoat_94 : decode cX6_addBoat 94 = .ok (.iastore, 1) := by decide +kernel
theorem dX6_addBoat_95 : decode cX6_addBoat 95 = .ok (.aload_n 0, 1) := by decide +kernel
theorem dX6_addBoat_96 : decode cX6_addBoat 96 = .ok (.getfield 53, 3) := by decide +kernel
theorem dX6_addBoat_99 : decode cX6_addBoat 99 = .ok (.aload_n 0, 1) := by decide +kernel
theorem dX6_addBoat_100 : decode cX6_addBoat 100 = .ok (.getfield 87, 3) := by decide +kernel
theorem dX6_addBoat_103 : decode cX6_addBoat 103 = .ok (.iload 4, 2) := by decide +kernel
theorem dX6_addBoat_105 : decode cX6_addBoat 105 = .ok (.iastore, 1) := by decide +kernel
theorem dX6_addBoat_106 : decode cX6_addBoat 106 = .ok (.aload_n 0, 1) := by decide +kernel
theorem dX6_addBoat_107 : decode cX6_addBoat 107 = .ok (.getfield 62, 3) := by decide +kernel
theorem dX6_addBoat_110 : decode cX6_addBoat 110 = .ok (.aload_n 0, 1) := by decide +kernel
theorem dX6_addBoat_111 : decode cX6_addBoat 111 = .ok (.getfield 87, 3) := by decide +kernel
theorem dX6_addBoat_114 : decode cX6_addBoat 114 = .ok (.iconst (-1), 1) := by decide +kernel
theorem dX6_addBoat_115 : decode cX6_addBoat 115 = .ok (.iastore, 1) := by decide +kernel
theorem dX6_addBoat_116 : decode cX6_addBoat 116 = .ok (.aload_n 0, 1) := by decide +kernel
theorem dX6_addBoat_117 : decode cX6_addBoat 117 = .ok (.dup, 1) := by decide +kernel
theorem dX6_addBoat_118 : decode cX6_addBoat 118 = .ok (.getfield 87, 3) := by decide +kernel
theorem dX6_addBoat_121 : decode cX6_addBoat 121 = .ok (.iconst 1, 1) := by decide +kernel
theorem dX6_addBoat_122 : decode cX6_addBoat 122 = .ok (.iadd, 1) := by decide +kernel
theorem dX6_addBoat_123 : decode cX6_addBoat 123 = .ok (.putfield 87, 3) := by decide +kernel
theorem dX6_addBoat_126 : decode cX6_addBoat 126 = .ok (.aload_n 0, 1) := by decide +kernel
theorem dX6_addBoat_127 : decode cX6_addBoat 127 = .ok (.aload_n 0, 1) := by decide +kernel
theorem dX6_addBoat_128 : decode cX6_addBoat 128 = .ok (.getfield 87, 3) := by decide +kernel
theorem dX6_addBoat_131 : decode cX6_addBoat 131 = .ok (.iconst 1, 1) := by decide +kernel
theorem dX6_addBoat_132 : decode cX6_addBoat 132 = .ok (.isub, 1) := by decide +kernel
theorem dX6_addBoat_133 : decode cX6_addBoat 133 = .ok (.invokevirtual 105, 3) := by decide +kernel
theorem dX6_addBoat_136 : decode cX6_addBoat 136 = .ok (.ireturn, 1) := by decide +kernel
theorem dX6_size_0 : decode cX6_size 0 = .ok (.iload_n 0, 1) := by decide +kernel
theorem dX6_size_1 : decode cX6_size 1 = .ok (.ifCond .ge 8, 3) := by decide +kernel
theorem dX6_size_4 : decode cX6_size 4 = .ok (.iload_n 0, 1) := by decide +kernel
theorem dX6_size_5 : decode cX6_size 5 = .ok (.ineg, 1) := by decide +kernel
theorem dX6_size_6 : decode cX6_size 6 = .ok (.goto 4, 3) := by decide +kernel
theorem dX6_size_9 : decode cX6_size 9 = .ok (.iload_n 0, 1) := by decide +kernel
theorem dX6_size_10 : decode cX6_size 10 = .ok (.ireturn, 1) := by decide +kernel
theorem dX6_levelAt_0 : decode cX6_levelAt 0 = .ok (.aload_n 0, 1) := by decide +kernel
theorem dX6_levelAt_1 : decode cX6_levelAt 1 = .ok (.getfield 7, 3) := by decide +kernel
theorem dX6_levelAt_4 : decode cX6_levelAt 4 = .ok (.aload_n 0, 1) := by decide +kernel
theorem dX6_levelAt_5 : decode cX6_levelAt 5 = .ok (.getfield 13, 3) := by decide +kernel
theorem dX6_levelAt_8 : decode cX6_levelAt 8 = .ok (.iconst 3, 1) := by decide +kernel
theorem dX6_levelAt_9 : decode cX6_levelAt 9 = .ok (.bipush 6, 2) := by decide +kernel
theorem dX6_levelAt_11 : decode cX6_levelAt 11 = .ok (.iload_n 1, 1) := by decide +kernel
theorem dX6_levelAt_12 : decode cX6_levelAt 12 = .ok (.bipush 12, 2) := by decide +kernel
theorem dX6_levelAt_14 : decode cX6_levelAt 14 = .ok (.irem, 1) := by decide +kernel
theorem dX6_levelAt_15 : decode cX6_levelAt 15 = .ok (.isub, 1) := by decide +kernel
theorem dX6_levelAt_16 : decode cX6_levelAt 16 = .ok (.invokestatic 108, 3) := by decide +kernel
theorem dX6_levelAt_19 : decode cX6_levelAt 19 = .ok (.isub, 1) := by decide +kernel
theorem dX6_levelAt_20 : decode cX6_levelAt 20 = .ok (.imul, 1) := by decide +kernel
theorem dX6_levelAt_21 : decode cX6_levelAt 21 = .ok (.iadd, 1) := by decide +kernel
theorem dX6_levelAt_22 : decode cX6_levelAt 22 = .ok (.aload_n 0, 1) := by decide +kernel
theorem dX6_levelAt_23 : decode cX6_levelAt 23 = .ok (.getfield 16, 3) := by decide +kernel
theorem dX6_levelAt_26 : decode cX6_levelAt 26 = .ok (.bipush 6, 2) := by decide +kernel
theorem dX6_levelAt_28 : decode cX6_levelAt 28 = .ok (.bipush 12, 2) := by decide +kernel
theorem dX6_levelAt_30 : decode cX6_levelAt 30 = .ok (.iload_n 1, 1) := by decide +kernel
theorem dX6_levelAt_31 : decode cX6_levelAt 31 = .ok (.bipush 25, 2) := by decide +kernel
theorem dX6_levelAt_33 : decode cX6_levelAt 33 = .ok (.irem, 1) := by decide +kernel
theorem dX6_levelAt_34 : decode cX6_levelAt 34 = .ok (.isub, 1) := by decide +kernel
theorem dX6_levelAt_35 : decode cX6_levelAt 35 = .ok (.invokestatic 108, 3) := by decide +kernel
theorem dX6_levelAt_38 : decode cX6_levelAt 38 = .ok (.isub, 1) := by decide +kernel
theorem dX6_levelAt_39 : decode cX6_levelAt 39 = .ok (.imul, 1) := by decide +kernel
theorem dX6_levelAt_40 : decode cX6_levelAt 40 = .ok (.iadd, 1) := by decide +kernel
theorem dX6_levelAt_41 : decode cX6_levelAt 41 = .ok (.ireturn, 1) := by decide +kernel
theorem dX6_setTide_0 : decode cX6_setTide 0 = .ok (.iload_n 1, 1) := by decide +kernel
theorem dX6_setTide_1 : decode cX6_setTide 1 = .ok (.iconst 0, 1) := by decide +kernel
theorem dX6_setTide_2 : decode cX6_setTide 2 = .ok (.sipush 600, 3) := by decide +kernel
theorem dX6_setTide_5 : decode cX6_setTide 5 = .ok (.invokestatic 90, 3) := by decide +kernel
theorem dX6_setTide_8 : decode cX6_setTide 8 = .ok (.ifCond .eq 23, 3) := by decide +kernel
theorem dX6_setTide_11 : decode cX6_setTide 11 = .ok (.iload_n 2, 1) := by decide +kernel
theorem dX6_setTide_12 : decode cX6_setTide 12 = .ok (.iconst 0, 1) := by decide +kernel
theorem dX6_setTide_13 : decode cX6_setTide 13 = .ok (.bipush 60, 2) := by decide +kernel
theorem dX6_setTide_15 : decode cX6_setTide 15 = .ok (.invokestatic 90, 3) := by decide +kernel
theorem dX6_setTide_18 : decode cX6_setTide 18 = .ok (.ifCond .eq 13, 3) := by decide +kernel
theorem dX6_setTide_21 : decode cX6_setTide 21 = .ok (.iload_n 3, 1) := by decide +kernel
theorem dX6_setTide_22 : decode cX6_setTide 22 = .ok (.iconst 0, 1) := by decide +kernel
theorem dX6_setTide_23 : decode cX6_setTide 23 = .ok (.bipush 30, 2) := by decide +kernel
theorem dX6_setTide_25 : decode cX6_setTide 25 = .ok (.invokestatic 90, 3) := by decide +kernel
theorem dX6_setTide_28 : decode cX6_setTide 28 = .ok (.ifCond .ne 9, 3) := by decide +kernel
theorem dX6_setTide_31 : decode cX6_setTide 31 = .ok (.aload_n 0, 1) := by decide +kernel
theorem dX6_setTide_32 : decode cX6_setTide 32 = .ok (.iconst 1, 1) := by decide +kernel
theorem dX6_setTide_33 : decode cX6_setTide 33 = .ok (.invokevirtual 101, 3) := by decide +kernel
theorem dX6_setTide_36 : decode cX6_setTide 36 = .ok (.ireturn, 1) := by decide +kernel
theorem dX6_setTide_37 : decode cX6_setTide 37 = .ok (.aload_n 0, 1) := by decide +kernel
theorem dX6_setTide_38 : decode cX6_setTide 38 = .ok (.iload_n 1, 1) := by decide +kernel
theorem dX6_setTide_39 : decode cX6_setTide 39 = .ok (.putfield 7, 3) := by decide +kernel
theorem dX6_setTide_42 : decode cX6_setTide 42 = .ok (.aload_n 0, 1) := by decide +kernel
theorem dX6_setTide_43 : decode cX6_setTide 43 = .ok (.iload_n 2, 1) := by decide +kernel
theorem dX6_setTide_44 : decode cX6_setTide 44 = .ok (.putfield 13, 3) := by decide +kernel
theorem dX6_setTide_47 : decode cX6_setTide 47 = .ok (.aload_n 0, 1) := by decide +kernel
theorem dX6_setTide_48 : decode cX6_setTide 48 = .ok (.iload_n 3, 1) := by decide +kernel
theorem dX6_setTide_49 : decode cX6_setTide 49 = .ok (.putfield 16, 3) := by decide +kernel
theorem dX6_setTide_52 : decode cX6_setTide 52 = .ok (.aload_n 0, 1) := by decide +kernel
theorem dX6_setTide_53 : decode cX6_setTide 53 = .ok (.aload_n 0, 1) := by decide +kernel
theorem dX6_setTide_54 : decode cX6_setTide 54 = .ok (.aload_n 0, 1) := by decide +kernel
theorem dX6_setTide_55 : decode cX6_setTide 55 = .ok (.getfield 111, 3) := by decide +kernel
theorem dX6_setTide_58 : decode cX6_setTide 58 = .ok (.invokevirtual 114, 3) := by decide +kernel
theorem dX6_setTide_61 : decode cX6_setTide 61 = .ok (.invokevirtual 105, 3) := by decide +kernel
theorem dX6_setTide_64 : decode cX6_setTide 64 = .ok (.ireturn, 1) := by decide +kernel
theorem dX6_setCradle_0 : decode cX6_setCradle 0 = .ok (.iload_n 1, 1) := by decide +kernel
theorem dX6_setCradle_1 : decode cX6_setCradle 1 = .ok (.iconst 1, 1) := by decide +kernel
theorem dX6_setCradle_2 : decode cX6_setCradle 2 = .ok (.sipush 200, 3) := by decide +kernel
theorem dX6_setCradle_5 : decode cX6_setCradle 5 = .ok (.invokestatic 90, 3) := by decide +kernel
theorem dX6_setCradle_8 : decode cX6_setCradle 8 = .ok (.ifCond .eq 13, 3) := by decide +kernel
theorem dX6_setCradle_11 : decode cX6_setCradle 11 = .ok (.iload_n 2, 1) := by decide +kernel
theorem dX6_setCradle_12 : decode cX6_setCradle 12 = .ok (.iconst 0, 1) := by decide +kernel
theorem dX6_setCradle_13 : decode cX6_setCradle 13 = .ok (.bipush 50, 2) := by decide +kernel
theorem dX6_setCradle_15 : decode cX6_setCradle 15 = .ok (.invokestatic 90, 3) := by decide +kernel
theorem dX6_setCradle_18 : decode cX6_setCradle 18 = .ok (.ifCond .ne 9, 3) := by decide +kernel
theorem dX6_setCradle_21 : decode cX6_setCradle 21 = .ok (.aload_n 0, 1) := by decide +kernel
theorem dX6_setCradle_22 : decode cX6_setCradle 22 = .ok (.iconst 1, 1) := by decide +kernel
theorem dX6_setCradle_23 : decode cX6_setCradle 23 = .ok (.invokevirtual 101, 3) := by decide +kernel
theorem dX6_setCradle_26 : decode cX6_setCradle 26 = .ok (.ireturn, 1) := by decide +kernel
theorem dX6_setCradle_27 : decode cX6_setCradle 27 = .ok (.aload_n 0, 1) := by decide +kernel
theorem dX6_setCradle_28 : decode cX6_setCradle 28 = .ok (.getfield 19, 3) := by decide +kernel
theorem dX6_setCradle_31 : decode cX6_setCradle 31 = .ok (.istore_n 3, 1) := by decide +kernel
theorem dX6_setCradle_32 : decode cX6_setCradle 32 = .ok (.aload_n 0, 1) := by decide +kernel
theorem dX6_setCradle_33 : decode cX6_setCradle 33 = .ok (.iload_n 1, 1) := by decide +kernel
theorem dX6_setCradle_34 : decode cX6_setCradle 34 = .ok (.putfield 19, 3) := by decide +kernel
theorem dX6_setCradle_37 : decode cX6_setCradle 37 = .ok (.aload_n 0, 1) := by decide +kernel
theorem dX6_setCradle_38 : decode cX6_setCradle 38 = .ok (.iload_n 2, 1) := by decide +kernel
theorem dX6_setCradle_39 : decode cX6_setCradle 39 = .ok (.putfield 22, 3) := by decide +kernel
theorem dX6_setCradle_42 : decode cX6_setCradle 42 = .ok (.aload_n 0, 1) := by decide +kernel
theorem dX6_setCradle_43 : decode cX6_setCradle 43 = .ok (.iload_n 3, 1) := by decide +kernel
theorem dX6_setCradle_44 : decode cX6_setCradle 44 = .ok (.invokevirtual 105, 3) := by decide +kernel
theorem dX6_setCradle_47 : decode cX6_setCradle 47 = .ok (.ireturn, 1) := by decide +kernel
theorem dX6_tellWeather_0 : decode cX6_tellWeather 0 = .ok (.iload_n 1, 1) := by decide +kernel
theorem dX6_tellWeather_1 : decode cX6_tellWeather 1 = .ok (.aload_n 0, 1) := by decide +kernel
theorem dX6_tellWeather_2 : decode cX6_tellWeather 2 = .ok (.getfield 111, 3) := by decide +kernel
theorem dX6_tellWeather_5 : decode cX6_tellWeather 5 = .ok (.sipush 9999, 3) := by decide +kernel
theorem dX6_tellWeather_8 : decode cX6_tellWeather 8 = .ok (.invokestatic 90, 3) := by decide +kernel
theorem dX6_tellWeather_11 : decode cX6_tellWeather 11 = .ok (.ifCond .eq 16, 3) := by decide +kernel
theorem dX6_tellWeather_14 : decode cX6_tellWeather 14 = .ok (.iload_n 2, 1) := by decide +kernel
theorem dX6_tellWeather_15 : decode cX6_tellWeather 15 = .ok (.iload_n 1, 1) := by decide +kernel
theorem dX6_tellWeather_16 : decode cX6_tellWeather 16 = .ok (.iconst 1, 1) := by decide +kernel
theorem dX6_tellWeather_17 : decode cX6_tellWeather 17 = .ok (.iadd, 1) := by decide +kernel
theorem dX6_tellWeather_18 : decode cX6_tellWeather 18 = .ok (.sipush 10000, 3) := by decide +kernel
theorem dX6_tellWeather_21 : decode cX6_tellWeather 21 = .ok (.invokestatic 90, 3) := by decide +kernel
theorem dX6_tellWeather_24 : decode cX6_tellWeather 24 = .ok (.ifCond .ne 9, 3) := by decide +kernel
theorem dX6_tellWeather_27 : decode cX6_tellWeather 27 = .ok (.aload_n 0, 1) := by decide +kernel
theorem dX6_tellWeather_28 : decode cX6_tellWeather 28 = .ok (.iconst 1, 1) := by decide +kernel
theorem dX6_tellWeather_29 : decode cX6_tellWeather 29 = .ok (.invokevirtual 101, 3) := by decide +kernel
theorem dX6_tellWeather_32 : decode cX6_tellWeather 32 = .ok (.ireturn, 1) := by decide +kernel
theorem dX6_tellWeather_33 : decode cX6_tellWeather 33 = .ok (.aload_n 0, 1) := by decide +kernel
theorem dX6_tellWeather_34 : decode cX6_tellWeather 34 = .ok (.getfield 117, 3) := by decide +kernel
theorem dX6_tellWeather_37 : decode cX6_tellWeather 37 = .ok (.bipush 6, 2) := by decide +kernel
theorem dX6_tellWeather_39 : decode cX6_tellWeather 39 = .ok (.if_icmp .ne 9, 3) := by decide +kernel
theorem dX6_tellWeather_42 : decode cX6_tellWeather 42 = .ok (.aload_n 0, 1) := by decide +kernel
theorem dX6_tellWeather_43 : decode cX6_tellWeather 43 = .ok (.iconst 2, 1) := by decide +kernel
theorem dX6_tellWeather_44 : decode cX6_tellWeather 44 = .ok (.invokevirtual 101, 3) := by decide +kernel
theorem dX6_tellWeather_47 : decode cX6_tellWeather 47 = .ok (.ireturn, 1) := by decide +kernel
theorem dX6_tellWeather_48 : decode cX6_tellWeather 48 = .ok (.aload_n 0, 1) := by decide +kernel
theorem dX6_tellWeather_49 : decode cX6_tellWeather 49 = .ok (.getfield 28, 3) := by decide +kernel
theorem dX6_tellWeather_52 : decode cX6_tellWeather 52 = .ok (.aload_n 0, 1) := by decide +kernel
theorem dX6_tellWeather_53 : decode cX6_tellWeather 53 = .ok (.getfield 117, 3) := by decide +kernel
theorem dX6_tellWeather_56 : decode cX6_tellWeather 56 = .ok (.iload_n 1, 1) := by decide +kernel
theorem dX6_tellWeather_57 : decode cX6_tellWeather 57 = .ok (.iastore, 1) := by decide +kernel
theorem dX6_tellWeather_58 : decode cX6_tellWeather 58 = .ok (.aload_n 0, 1) := by decide +kernel
theorem dX6_tellWeather_59 : decode cX6_tellWeather 59 = .ok (.getfield 32, 3) := by decide +kernel
theorem dX6_tellWeather_62 : decode cX6_tellWeather 62 = .ok (.aload_n 0, 1) := by decide +kernel
theorem dX6_tellWeather_63 : decode cX6_tellWeather 63 = .ok (.getfield 117, 3) := by decide +kernel
theorem dX6_tellWeather_66 : decode cX6_tellWeather 66 = .ok (.iload_n 2, 1) := by decide +kernel
theorem dX6_tellWeather_67 : decode cX6_tellWeather 67 = .ok (.iastore, 1) := by decide +kernel
theorem dX6_tellWeather_68 : decode cX6_tellWeather 68 = .ok (.aload_n 0, 1) := by decide +kernel
theorem dX6_tellWeather_69 : decode cX6_tellWeather 69 = .ok (.dup, 1) := by decide +kernel
theorem dX6_tellWeather_70 : decode cX6_tellWeather 70 = .ok (.getfield 117, 3) := by decide +kernel
theorem dX6_tellWeather_73 : decode cX6_tellWeather 73 = .ok (.iconst 1, 1) := by decide +kernel
theorem dX6_tellWeather_74 : decode cX6_tellWeather 74 = .ok (.iadd, 1) := by decide +kernel
theorem dX6_tellWeather_75 : decode cX6_tellWeather 75 = .ok (.putfield 117, 3) := by decide +kernel
theorem dX6_tellWeather_78 : decode cX6_tellWeather 78 = .ok (.aload_n 0, 1) := by decide +kernel
theorem dX6_tellWeather_79 : decode cX6_tellWeather 79 = .ok (.aload_n 0, 1) := by decide +kernel
theorem dX6_tellWeather_80 : decode cX6_tellWeather 80 = .ok (.getfield 117, 3) := by decide +kernel
theorem dX6_tellWeather_83 : decode cX6_tellWeather 83 = .ok (.invokevirtual 105, 3) := by decide +kernel
theorem dX6_tellWeather_86 : decode cX6_tellWeather 86 = .ok (.ireturn, 1) := by decide +kernel
theorem dX6_forgetWeather_0 : decode cX6_forgetWeather 0 = .ok (.iconst 0, 1) := by decide +kernel
theorem dX6_forgetWeather_1 : decode cX6_forgetWeather 1 = .ok (.istore_n 1, 1) := by decide +kernel
theorem dX6_forgetWeather_2 : decode cX6_forgetWeather 2 = .ok (.iconst 0, 1) := by decide +kernel
theorem dX6_forgetWeather_3 : decode cX6_forgetWeather 3 = .ok (.istore_n 2, 1) := by decide +kernel
theorem dX6_forgetWeather_4 : decode cX6_forgetWeather 4 = .ok (.iload_n 2, 1) := by decide +kernel
theorem dX6_forgetWeather_5 : decode cX6_forgetWeather 5 = .ok (.aload_n 0, 1) := by decide +kernel
theorem dX6_forgetWeather_6 : decode cX6_forgetWeather 6 = .ok (.getfield 117, 3) := by decide +kernel
theorem dX6_forgetWeather_9 : decode cX6_forgetWeather 9 = .ok (.if_icmp .ge 52, 3) := by decide +kernel
theorem dX6_forgetWeather_12 : decode cX6_forgetWeather 12 = .ok (.aload_n 0, 1) := by decide +kernel
theorem dX6_forgetWeather_13 : decode cX6_forgetWeather 13 = .ok (.getfield 32, 3) := by decide +kernel
theorem dX6_forgetWeather_16 : decode cX6_forgetWeather 16 = .ok (.iload_n 2, 1) := by decide +kernel
theorem dX6_forgetWeather_17 : decode cX6_forgetWeather 17 = .ok (.iaload, 1) := by decide +kernel
theorem dX6_forgetWeather_18 : decode cX6_forgetWeather 18 = .ok (.aload_n 0, 1) := by decide +kernel
theorem dX6_forgetWeather_19 : decode cX6_forgetWeather 19 = .ok (.getfield 111, 3) := by decide +kernel
theorem dX6_forgetWeather_22 : decode cX6_forgetWeather 22 = .ok (.if_icmp .gt 6, 3) := by decide +kernel
theorem dX6_forgetWeather_25 : decode cX6_forgetWeather 25 = .ok (.goto 30, 3) := by decide +kernel
theorem dX6_forgetWeather_28 : decode cX6_forgetWeather 28 = .ok (.aload_n 0, 1) := by decide +kernel
theorem dX6_forgetWeather_29 : decode cX6_forgetWeather 29 = .ok (.getfield 28, 3) := by decide +kernel
theorem dX6_forgetWeather_32 : decode cX6_forgetWeather 32 = .ok (.iload_n 1, 1) := by decide +kernel
theorem dX6_forgetWeather_33 : decode cX6_forgetWeather 33 = .ok (.aload_n 0, 1) := by decide +kernel
theorem dX6_forgetWeather_34 : decode cX6_forgetWeather 34 = .ok (.getfield 28, 3) := by decide +kernel
theorem dX6_forgetWeather_37 : decode cX6_forgetWeather 37 = .ok (.iload_n 2, 1) := by decide +kernel
theorem dX6_forgetWeather_38 : decode cX6_forgetWeather 38 = .ok (.iaload, 1) := by decide +kernel
theorem dX6_forgetWeather_39 : decode cX6_forgetWeather 39 = .ok (.iastore, 1) := by decide +kernel
theorem dX6_forgetWeather_40 : decode cX6_forgetWeather 40 = .ok (.aload_n 0, 1) := by decide +kernel
theorem dX6_forgetWeather_41 : decode cX6_forgetWeather 41 = .ok (.getfield 32, 3) := by decide +kernel
theorem dX6_forgetWeather_44 : decode cX6_forgetWeather 44 = .ok (.iload_n 1, 1) := by decide +kernel
theorem dX6_forgetWeather_45 : decode cX6_forgetWeather 45 = .ok (.aload_n 0, 1) := by decide +kernel
theorem dX6_forgetWeather_46 : decode cX6_forgetWeather 46 = .ok (.getfield 32, 3) := by decide +kernel
theorem dX6_forgetWeather_49 : decode cX6_forgetWeather 49 = .ok (.iload_n 2, 1) := by decide +kernel
theorem dX6_forgetWeather_50 : decode cX6_forgetWeather 50 = .ok (.iaload, 1) := by decide +kernel
theorem dX6_forgetWeather_51 : decode cX6_forgetWeather 51 = .ok (.iastore, 1) := by decide +kernel
theorem dX6_forgetWeather_52 : decode cX6_forgetWeather 52 = .ok (.iinc 1 1, 3) := by decide +kernel
theorem dX6_forgetWeather_55 : decode cX6_forgetWeather 55 = .ok (.iinc 2 1, 3) := by decide +kernel
theorem dX6_forgetWeather_58 : decode cX6_forgetWeather 58 = .ok (.goto (-54), 3) := by decide +kernel
theorem dX6_forgetWeather_61 : decode cX6_forgetWeather 61 = .ok (.aload_n 0, 1) := by decide +kernel
theorem dX6_forgetWeather_62 : decode cX6_forgetWeather 62 = .ok (.iload_n 1, 1) := by decide +kernel
theorem dX6_forgetWeather_63 : decode cX6_forgetWeather 63 = .ok (.putfield 117, 3) := by decide +kernel
theorem dX6_forgetWeather_66 : decode cX6_forgetWeather 66 = .ok (.aload_n 0, 1) := by decide +kernel
theorem dX6_forgetWeather_67 : decode cX6_forgetWeather 67 = .ok (.aload_n 0, 1) := by decide +kernel
theorem dX6_forgetWeather_68 : decode cX6_forgetWeather 68 = .ok (.getfield 117, 3) := by decide +kernel
theorem dX6_forgetWeather_71 : decode cX6_forgetWeather 71 = .ok (.invokevirtual 105, 3) := by decide +kernel
theorem dX6_forgetWeather_74 : decode cX6_forgetWeather 74 = .ok (.ireturn, 1) := by decide +kernel
theorem dX6_level_0 : decode cX6_level 0 = .ok (.iload_n 1, 1) := by decide +kernel
theorem dX6_level_1 : decode cX6_level 1 = .ok (.iconst 0, 1) := by decide +kernel
theorem dX6_level_2 : decode cX6_level 2 = .ok (.sipush 9999, 3) := by decide +kernel
theorem dX6_level_5 : decode cX6_level 5 = .ok (.invokestatic 90, 3) := by decide +kernel
theorem dX6_level_8 : decode cX6_level 8 = .ok (.ifCond .eq 15, 3) := by decide +kernel
theorem dX6_level_11 : decode cX6_level 11 = .ok (.aload_n 0, 1) := by decide +kernel
theorem dX6_level_12 : decode cX6_level 12 = .ok (.aload_n 0, 1) := by decide +kernel
theorem dX6_level_13 : decode cX6_level 13 = .ok (.iload_n 1, 1) := by decide +kernel
theorem dX6_level_14 : decode cX6_level 14 = .ok (.invokevirtual 114, 3) := by decide +kernel
theorem dX6_level_17 : decode cX6_level 17 = .ok (.invokevirtual 105, 3) := by decide +kernel
theorem dX6_level_20 : decode cX6_level 20 = .ok (.goto 8, 3) := by decide +kernel
theorem dX6_level_23 : decode cX6_level 23 = .ok (.aload_n 0, 1) := by decide +kernel
theorem dX6_level_24 : decode cX6_level 24 = .ok (.iconst 1, 1) := by decide +kernel
theorem dX6_level_25 : decode cX6_level 25 = .ok (.invokevirtual 101, 3) := by decide +kernel
theorem dX6_level_28 : decode cX6_level 28 = .ok (.ireturn, 1) := by decide +kernel
theorem dX6_badAt_0 : decode cX6_badAt 0 = .ok (.iconst 0, 1) := by decide +kernel
theorem dX6_badAt_1 : decode cX6_badAt 1 = .ok (.istore_n 2, 1) := by decide +kernel
theorem dX6_badAt_2 : decode cX6_badAt 2 = .ok (.iconst 0, 1) := by decide +kernel
theorem dX6_badAt_3 : decode cX6_badAt 3 = .ok (.istore_n 3, 1) := by decide +kernel
theorem dX6_badAt_4 : decode cX6_badAt 4 = .ok (.iload_n 3, 1) := by decide +kernel
theorem dX6_badAt_5 : decode cX6_badAt 5 = .ok (.aload_n 0, 1) := by decide +kernel
theorem dX6_badAt_6 : decode cX6_badAt 6 = .ok (.getfield 117, 3) := by decide +kernel
theorem dX6_badAt_9 : decode cX6_badAt 9 = .ok (.if_icmp .ge 39, 3) := by decide +kernel
theorem dX6_badAt_12 : decode cX6_badAt 12 = .ok (.iload_n 2, 1) := by decide +kernel
theorem dX6_badAt_13 : decode cX6_badAt 13 = .ok (.ifCond .ne 23, 3) := by decide +kernel
theorem dX6_badAt_16 : decode cX6_badAt 16 = .ok (.iload_n 1, 1) := by decide +kernel
theorem dX6_badAt_17 : decode cX6_badAt 17 = .ok (.aload_n 0, 1) := by decide +kernel
theorem dX6_badAt_18 : decode cX6_badAt 18 = .ok (.getfield 28, 3) := by decide +kernel
theorem dX6_badAt_21 : decode cX6_badAt 21 = .ok (.iload_n 3, 1) := by decide +kernel
theorem dX6_badAt_22 : decode cX6_badAt 22 = .ok (.iaload, 1) := by decide +kernel
theorem dX6_badAt_23 : decode cX6_badAt 23 = .ok (.if_icmp .lt 17, 3) := by decide +kernel
theorem dX6_badAt_26 : decode cX6_badAt 26 = .ok (.iload_n 1, 1) := by decide +kernel
theorem dX6_badAt_27 : decode cX6_badAt 27 = .ok (.aload_n 0, 1) := by decide +kernel
theorem dX6_badAt_28 : decode cX6_badAt 28 = .ok (.getfield 32, 3) := by decide +kernel
theorem dX6_badAt_31 : decode cX6_badAt 31 = .ok (.iload_n 3, 1) := by decide +kernel
theorem dX6_badAt_32 : decode cX6_badAt 32 = .ok (.iaload, 1) := by decide +kernel
theorem dX6_badAt_33 : decode cX6_badAt 33 = .ok (.if_icmp .ge 7, 3) := by decide +kernel
theorem dX6_badAt_36 : decode cX6_badAt 36 = .ok (.iconst 1, 1) := by decide +kernel
theorem dX6_badAt_37 : decode cX6_badAt 37 = .ok (.goto 4, 3) := by decide +kernel
theorem dX6_badAt_40 : decode cX6_badAt 40 = .ok (.iconst 0, 1) := by decide +kernel
theorem dX6_badAt_41 : decode cX6_badAt 41 = .ok (.istore_n 2, 1) := by decide +kernel
theorem dX6_badAt_42 : decode cX6_badAt 42 = .ok (.iinc 3 1, 3) := by decide +kernel
theorem dX6_badAt_45 : decode cX6_badAt 45 = .ok (.goto (-41), 3) := by decide +kernel
theorem dX6_badAt_48 : decode cX6_badAt 48 = .ok (.iload_n 2, 1) := by decide +kernel
theorem dX6_badAt_49 : decode cX6_badAt 49 = .ok (.ireturn, 1) := by decide +kernel
theorem dX6_isBad_0 : decode cX6_isBad 0 = .ok (.aload_n 0, 1) := by decide +kernel
theorem dX6_isBad_1 : decode cX6_isBad 1 = .ok (.iload_n 1, 1) := by decide +kernel
theorem dX6_isBad_2 : decode cX6_isBad 2 = .ok (.iconst 0, 1) := by decide +kernel
theorem dX6_isBad_3 : decode cX6_isBad 3 = .ok (.sipush 9999, 3) := by decide +kernel
theorem dX6_isBad_6 : decode cX6_isBad 6 = .ok (.invokestatic 90, 3) := by decide +kernel
theorem dX6_isBad_9 : decode cX6_isBad 9 = .ok (.ifCond .eq 7, 3) := by decide +kernel
theorem dX6_isBad_12 : decode cX6_isBad 12 = .ok (.iconst 0, 1) := by decide +kernel
theorem dX6_isBad_13 : decode cX6_isBad 13 = .ok (.goto 4, 3) := by decide +kernel
theorem dX6_isBad_16 : decode cX6_isBad 16 = .ok (.iconst 1, 1) := by decide +kernel
theorem dX6_isBad_17 : decode cX6_isBad 17 = .ok (.putfield 84, 3) := by decide +kernel
theorem dX6_isBad_20 : decode cX6_isBad 20 = .ok (.aload_n 0, 1) := by decide +kernel
theorem dX6_isBad_21 : decode cX6_isBad 21 = .ok (.getfield 84, 3) := by decide +kernel
theorem dX6_isBad_24 : decode cX6_isBad 24 = .ok (.ifCond .ne 15, 3) := by decide +kernel
theorem dX6_isBad_27 : decode cX6_isBad 27 = .ok (.aload_n 0, 1) := by decide +kernel
theorem dX6_isBad_28 : decode cX6_isBad 28 = .ok (.iload_n 1, 1) := by decide +kernel
theorem dX6_isBad_29 : decode cX6_isBad 29 = .ok (.invokevirtual 120, 3) := by decide +kernel
theorem dX6_isBad_32 : decode cX6_isBad 32 = .ok (.ifCond .eq 7, 3) := by decide +kernel
theorem dX6_isBad_35 : decode cX6_isBad 35 = .ok (.iconst 1, 1) := by decide +kernel
theorem dX6_isBad_36 : decode cX6_isBad 36 = .ok (.goto 4, 3) := by decide +kernel
theorem dX6_isBad_39 : decode cX6_isBad 39 = .ok (.iconst 0, 1) := by decide +kernel
theorem dX6_isBad_40 : decode cX6_isBad 40 = .ok (.ireturn, 1) := by decide +kernel
theorem dX6_floats_0 : decode cX6_floats 0 = .ok (.aload_n 0, 1) := by decide +kernel
theorem dX6_floats_1 : decode cX6_floats 1 = .ok (.iload_n 2, 1) := by decide +kernel
theorem dX6_floats_2 : decode cX6_floats 2 = .ok (.invokevirtual 114, 3) := by decide +kernel
theorem dX6_floats_5 : decode cX6_floats 5 = .ok (.aload_n 0, 1) := by decide +kernel
theorem dX6_floats_6 : decode cX6_floats 6 = .ok (.getfield 44, 3) := by decide +kernel
theorem dX6_floats_9 : decode cX6_floats 9 = .ok (.iload_n 1, 1) := by decide +kernel
theorem dX6_floats_10 : decode cX6_floats 10 = .ok (.iaload, 1) := by decide +kernel
theorem dX6_floats_11 : decode cX6_floats 11 = .ok (.aload_n 0, 1) := by decide +kernel
theorem dX6_floats_12 : decode cX6_floats 12 = .ok (.getfield 22, 3) := by decide +kernel
theorem dX6_floats_15 : decode cX6_floats 15 = .ok (.iadd, 1) := by decide +kernel
theorem dX6_floats_16 : decode cX6_floats 16 = .ok (.if_icmp .lt 7, 3) := by decide +kernel
theorem dX6_floats_19 : decode cX6_floats 19 = .ok (.iconst 1, 1) := by decide +kernel
theorem dX6_floats_20 : decode cX6_floats 20 = .ok (.goto 4, 3) := by decide +kernel
theorem dX6_floats_23 : decode cX6_floats 23 = .ok (.iconst 0, 1) := by decide +kernel
theorem dX6_floats_24 : decode cX6_floats 24 = .ok (.ireturn, 1) := by decide +kernel
theorem dX6_floods_0 : decode cX6_floods 0 = .ok (.aload_n 0, 1) := by decide +kernel
theorem dX6_floods_1 : decode cX6_floods 1 = .ok (.iload_n 1, 1) := by decide +kernel
theorem dX6_floods_2 : decode cX6_floods 2 = .ok (.invokevirtual 123, 3) := by decide +kernel
theorem dX6_floods_5 : decode cX6_floods 5 = .ok (.ifCond .ne 9, 3) := by decide +kernel
theorem dX6_floods_8 : decode cX6_floods 8 = .ok (.aload_n 0, 1) := by decide +kernel
theorem dX6_floods_9 : decode cX6_floods 9 = .ok (.iconst 1, 1) := by decide +kernel
theorem dX6_floods_10 : decode cX6_floods 10 = .ok (.invokevirtual 101, 3) := by decide +kernel
theorem dX6_floods_13 : decode cX6_floods 13 = .ok (.ireturn, 1) := by decide +kernel
theorem dX6_floods_14 : decode cX6_floods 14 = .ok (.iload_n 2, 1) := by decide +kernel
theorem dX6_floods_15 : decode cX6_floods 15 = .ok (.iconst 1, 1) := by decide +kernel
theorem dX6_floods_16 : decode cX6_floods 16 = .ok (.sipush 5000, 3) := by decide +kernel
theorem dX6_floods_19 : decode cX6_floods 19 = .ok (.invokestatic 90, 3) := by decide +kernel
theorem dX6_floods_22 : decode cX6_floods 22 = .ok (.ifCond .ne 9, 3) := by decide +kernel
theorem dX6_floods_25 : decode cX6_floods 25 = .ok (.aload_n 0, 1) := by decide +kernel
theorem dX6_floods_26 : decode cX6_floods 26 = .ok (.iconst 2, 1) := by decide +kernel
theorem dX6_floods_27 : decode cX6_floods 27 = .ok (.invokevirtual 101, 3) := by decide +kernel
theorem dX6_floods_30 : decode cX6_floods 30 = .ok (.ireturn, 1) := by decide +kernel
theorem dX6_floods_31 : decode cX6_floods 31 = .ok (.iconst 0, 1) := by decide +kernel
theorem dX6_floods_32 : decode cX6_floods 32 = .ok (.istore_n 3, 1) := by decide +kernel
theorem dX6_floods_33 : decode cX6_floods 33 = .ok (.iconst 0, 1) := by decide +kernel
theorem dX6_floods_34 : decode cX6_floods 34 = .ok (.istore 4, 2) := by decide +kernel
theorem dX6_floods_36 : decode cX6_floods 36 = .ok (.iload 4, 2) := by decide +kernel
theorem dX6_floods_38 : decode cX6_floods 38 = .ok (.iload_n 2, 1) := by decide +kernel
theorem dX6_floods_39 : decode cX6_floods 39 = .ok (.if_icmp .ge 32, 3) := by decide +kernel
theorem dX6_floods_42 : decode cX6_floods 42 = .ok (.iload_n 3, 1) := by decide +kernel
theorem dX6_floods_43 : decode cX6_floods 43 = .ok (.aload_n 0, 1) := by decide +kernel
theorem dX6_floods_44 : decode cX6_floods 44 = .ok (.iload_n 1, 1) := by decide +kernel
theorem dX6_floods_45 : decode cX6_floods 45 = .ok (.aload_n 0, 1) := by decide +kernel
theorem dX6_floods_46 : decode cX6_floods 46 = .ok (.getfield 111, 3) := by decide +kernel
theorem dX6_floods_49 : decode cX6_floods 49 = .ok (.iload 4, 2) := by decide +kernel
theorem dX6_floods_51 : decode cX6_floods 51 = .ok (.iadd, 1) := by decide +kernel
theorem dX6_floods_52 : decode cX6_floods 52 = .ok (.invokevirtual 126, 3) := by decide +kernel
theorem dX6_floods_55 : decode cX6_floods 55 = .ok (.ifCond .eq 7, 3) := by decide +kernel
theorem dX6_floods_58 : decode cX6_floods 58 = .ok (.iconst 1, 1) := by decide +kernel
theorem dX6_floods_59 : decode cX6_floods 59 = .ok (.goto 4, 3) := by decide +kernel
theorem dX6_floods_62 : decode cX6_floods 62 = .ok (.iconst 0, 1) := by decide +kernel
theorem dX6_floods_63 : decode cX6_floods 63 = .ok (.iadd, 1) := by decide +kernel
theorem dX6_floods_64 : decode cX6_floods 64 = .ok (.istore_n 3, 1) := by decide +kernel
theorem dX6_floods_65 : decode cX6_floods 65 = .ok (.iinc 4 1, 3) := by decide +kernel
theorem dX6_floods_68 : decode cX6_floods 68 = .ok (.goto (-32), 3) := by decide +kernel
theorem dX6_floods_71 : decode cX6_floods 71 = .ok (.aload_n 0, 1) := by decide +kernel
theorem dX6_floods_72 : decode cX6_floods 72 = .ok (.iload_n 3, 1) := by decide +kernel
theorem dX6_floods_73 : decode cX6_floods 73 = .ok (.invokevirtual 105, 3) := by decide +kernel
theorem dX6_floods_76 : decode cX6_floods 76 = .ok (.ireturn, 1) := by decide +kernel
theorem dX6_floodHours_0 : decode cX6_floodHours 0 = .ok (.aload_n 0, 1) := by decide +kernel
theorem dX6_floodHours_1 : decode cX6_floodHours 1 = .ok (.iload_n 1, 1) := by decide +kernel
theorem dX6_floodHours_2 : decode cX6_floodHours 2 = .ok (.iload_n 2, 1) := by decide +kernel
theorem dX6_floodHours_3 : decode cX6_floodHours 3 = .ok (.invokevirtual 130, 3) := by decide +kernel
theorem dX6_floodHours_6 : decode cX6_floodHours 6 = .ok (.ireturn, 1) := by decide +kernel
theorem dX6_floodByHours_0 : decode cX6_floodByHours 0 = .ok (.aload_n 0, 1) := by decide +kernel
theorem dX6_floodByHours_1 : decode cX6_floodByHours 1 = .ok (.iload_n 1, 1) := by decide +kernel
theorem dX6_floodByHours_2 : decode cX6_floodByHours 2 = .ok (.iload_n 2, 1) := by decide +kernel
theorem dX6_floodByHours_3 : decode cX6_floodByHours 3 = .ok (.invokevirtual 130, 3) := by decide +kernel
theorem dX6_floodByHours_6 : decode cX6_floodByHours 6 = .ok (.ireturn, 1) := by decide +kernel
theorem dX6_nextFlood_0 : decode cX6_nextFlood 0 = .ok (.aload_n 0, 1) := by decide +kernel
theorem dX6_nextFlood_1 : decode cX6_nextFlood 1 = .ok (.iload_n 1, 1) := by decide +kernel
theorem dX6_nextFlood_2 : decode cX6_nextFlood 2 = .ok (.invokevirtual 123, 3) := by decide +kernel
theorem dX6_nextFlood_5 : decode cX6_nextFlood 5 = .ok (.ifCond .ne 9, 3) := by decide +kernel
theorem dX6_nextFlood_8 : decode cX6_nextFlood 8 = .ok (.aload_n 0, 1) := by decide +kernel
theorem dX6_nextFlood_9 : decode cX6_nextFlood 9 = .ok (.iconst 1, 1) := by decide +kernel
theorem dX6_nextFlood_10 : decode cX6_nextFlood 10 = .ok (.invokevirtual 101, 3) := by decide +kernel
theorem dX6_nextFlood_13 : decode cX6_nextFlood 13 = .ok (.ireturn, 1) := by decide +kernel
theorem dX6_nextFlood_14 : decode cX6_nextFlood 14 = .ok (.iconst 0, 1) := by decide +kernel
theorem dX6_nextFlood_15 : decode cX6_nextFlood 15 = .ok (.istore_n 2, 1) := by decide +kernel
theorem dX6_nextFlood_16 : decode cX6_nextFlood 16 = .ok (.iload_n 2, 1) := by decide +kernel
theorem dX6_nextFlood_17 : decode cX6_nextFlood 17 = .ok (.sipush 400, 3) := by decide +kernel
theorem dX6_nextFlood_20 : decode cX6_nextFlood 20 = .ok (.if_icmp .gt 47, 3) := by decide +kernel
theorem dX6_nextFlood_23 : decode cX6_nextFlood 23 = .ok (.aload_n 0, 1) := by decide +kernel
theorem dX6_nextFlood_24 : decode cX6_nextFlood 24 = .ok (.aload_n 0, 1) := by decide +kernel
theorem dX6_nextFlood_25 : decode cX6_nextFlood 25 = .ok (.getfield 111, 3) := by decide +kernel
theorem dX6_nextFlood_28 : decode cX6_nextFlood 28 = .ok (.iload_n 2, 1) := by decide +kernel
theorem dX6_nextFlood_29 : decode cX6_nextFlood 29 = .ok (.iadd, 1) := by decide +kernel
theorem dX6_nextFlood_30 : decode cX6_nextFlood 30 = .ok (.invokevirtual 120, 3) := by decide +kernel
theorem dX6_nextFlood_33 : decode cX6_nextFlood 33 = .ok (.ifCond .ne 28, 3) := by decide +kernel
theorem dX6_nextFlood_36 : decode cX6_nextFlood 36 = .ok (.aload_n 0, 1) := by decide +kernel
theorem dX6_nextFlood_37 : decode cX6_nextFlood 37 = .ok (.iload_n 1, 1) := by decide +kernel
theorem dX6_nextFlood_38 : decode cX6_nextFlood 38 = .ok (.aload_n 0, 1) := by decide +kernel
theorem dX6_nextFlood_39 : decode cX6_nextFlood 39 = .ok (.getfield 111, 3) := by decide +kernel
theorem dX6_nextFlood_42 : decode cX6_nextFlood 42 = .ok (.iload_n 2, 1) := by decide +kernel
theorem dX6_nextFlood_43 : decode cX6_nextFlood 43 = .ok (.iadd, 1) := by decide +kernel
theorem dX6_nextFlood_44 : decode cX6_nextFlood 44 = .ok (.invokevirtual 126, 3) := by decide +kernel
theorem dX6_nextFlood_47 : decode cX6_nextFlood 47 = .ok (.ifCond .eq 14, 3) := by decide +kernel
theorem dX6_nextFlood_50 : decode cX6_nextFlood 50 = .ok (.aload_n 0, 1) := by decide +kernel
theorem dX6_nextFlood_51 : decode cX6_nextFlood 51 = .ok (.aload_n 0, 1) := by decide +kernel
theorem dX6_nextFlood_52 : decode cX6_nextFlood 52 = .ok (.getfield 111, 3) := by decide +kernel
theorem dX6_nextFlood_55 : decode cX6_nextFlood 55 = .ok (.iload_n 2, 1) := by decide +kernel
theorem dX6_nextFlood_56 : decode cX6_nextFlood 56 = .ok (.iadd, 1) := by decide +kernel
theorem dX6_nextFlood_57 : decode cX6_nextFlood 57 = .ok (.invokevirtual 105, 3) := by decide +kernel
theorem dX6_nextFlood_60 : decode cX6_nextFlood 60 = .ok (.ireturn, 1) := by decide +kernel
theorem dX6_nextFlood_61 : decode cX6_nextFlood 61 = .ok (.iinc 2 1, 3) := by decide +kernel
theorem dX6_nextFlood_64 : decode cX6_nextFlood 64 = .ok (.goto (-48), 3) := by decide +kernel
theorem dX6_nextFlood_67 : decode cX6_nextFlood 67 = .ok (.aload_n 0, 1) := by decide +kernel
theorem dX6_nextFlood_68 : decode cX6_nextFlood 68 = .ok (.iconst 2, 1) := by decide +kernel
theorem dX6_nextFlood_69 : decode cX6_nextFlood 69 = .ok (.invokevirtual 101, 3) := by decide +kernel
theorem dX6_nextFlood_72 : decode cX6_nextFlood 72 = .ok (.ireturn, 1) := by decide +kernel
theorem dX6_boatAt_0 : decode cX6_boatAt 0 = .ok (.iconst (-1), 1) := by decide +kernel
theorem dX6_boatAt_1 : decode cX6_boatAt 1 = .ok (.istore_n 2, 1) := by decide +kernel
theorem dX6_boatAt_2 : decode cX6_boatAt 2 = .ok (.iconst 0, 1) := by decide +kernel
theorem dX6_boatAt_3 : decode cX6_boatAt 3 = .ok (.istore_n 3, 1) := by decide +kernel
theorem dX6_boatAt_4 : decode cX6_boatAt 4 = .ok (.iload_n 3, 1) := by decide +kernel
theorem dX6_boatAt_5 : decode cX6_boatAt 5 = .ok (.aload_n 0, 1) := by decide +kernel
theorem dX6_boatAt_6 : decode cX6_boatAt 6 = .ok (.getfield 87, 3) := by decide +kernel
theorem dX6_boatAt_9 : decode cX6_boatAt 9 = .ok (.if_icmp .ge 25, 3) := by decide +kernel
theorem dX6_boatAt_12 : decode cX6_boatAt 12 = .ok (.aload_n 0, 1) := by decide +kernel
theorem dX6_boatAt_13 : decode cX6_boatAt 13 = .ok (.getfield 62, 3) := by decide +kernel
theorem dX6_boatAt_16 : decode cX6_boatAt 16 = .ok (.iload_n 3, 1) := by decide +kernel
theorem dX6_boatAt_17 : decode cX6_boatAt 17 = .ok (.iaload, 1) := by decide +kernel
theorem dX6_boatAt_18 : decode cX6_boatAt 18 = .ok (.iload_n 1, 1) := by decide +kernel
theorem dX6_boatAt_19 : decode cX6_boatAt 19 = .ok (.if_icmp .ne 7, 3) := by decide +kernel
theorem dX6_boatAt_22 : decode cX6_boatAt 22 = .ok (.iload_n 3, 1) := by decide +kernel
theorem dX6_boatAt_23 : decode cX6_boatAt 23 = .ok (.goto 4, 3) := by decide +kernel
theorem dX6_boatAt_26 : decode cX6_boatAt 26 = .ok (.iload_n 2, 1) := by decide +kernel
theorem dX6_boatAt_27 : decode cX6_boatAt 27 = .ok (.istore_n 2, 1) := by decide +kernel
theorem dX6_boatAt_28 : decode cX6_boatAt 28 = .ok (.iinc 3 1, 3) := by decide +kernel
theorem dX6_boatAt_31 : decode cX6_boatAt 31 = .ok (.goto (-27), 3) := by decide +kernel
theorem dX6_boatAt_34 : decode cX6_boatAt 34 = .ok (.iload_n 2, 1) := by decide +kernel
theorem dX6_boatAt_35 : decode cX6_boatAt 35 = .ok (.ireturn, 1) := by decide +kernel
theorem dX6_isShut_0 : decode cX6_isShut 0 = .ok (.iconst 0, 1) := by decide +kernel
theorem dX6_isShut_1 : decode cX6_isShut 1 = .ok (.istore_n 3, 1) := by decide +kernel
theorem dX6_isShut_2 : decode cX6_isShut 2 = .ok (.aload_n 0, 1) := by decide +kernel
theorem dX6_isShut_3 : decode cX6_isShut 3 = .ok (.getfield 35, 3) := by decide +kernel
theorem dX6_isShut_6 : decode cX6_isShut 6 = .ok (.iload_n 1, 1) := by decide +kernel
theorem dX6_isShut_7 : decode cX6_isShut 7 = .ok (.iaload, 1) := by decide +kernel
theorem dX6_isShut_8 : decode cX6_isShut 8 = .ok (.istore 4, 2) := by decide +kernel
theorem dX6_isShut_10 : decode cX6_isShut 10 = .ok (.iload 4, 2) := by decide +kernel
theorem dX6_isShut_12 : decode cX6_isShut 12 = .ok (.iconst (-1), 1) := by decide +kernel
theorem dX6_isShut_13 : decode cX6_isShut 13 = .ok (.if_icmp .eq 45, 3) := by decide +kernel
theorem dX6_isShut_16 : decode cX6_isShut 16 = .ok (.iload_n 3, 1) := by decide +kernel
theorem dX6_isShut_17 : decode cX6_isShut 17 = .ok (.ifCond .ne 23, 3) := by decide +kernel
theorem dX6_isShut_20 : decode cX6_isShut 20 = .ok (.aload_n 0, 1) := by decide +kernel
theorem dX6_isShut_21 : decode cX6_isShut 21 = .ok (.iload 4, 2) := by decide +kernel
theorem dX6_isShut_23 : decode cX6_isShut 23 = .ok (.invokevirtual 134, 3) := by decide +kernel
theorem dX6_isShut_26 : decode cX6_isShut 26 = .ok (.iconst (-1), 1) := by decide +kernel
theorem dX6_isShut_27 : decode cX6_isShut 27 = .ok (.if_icmp .eq 17, 3) := by decide +kernel
theorem dX6_isShut_30 : decode cX6_isShut 30 = .ok (.aload_n 0, 1) := by decide +kernel
theorem dX6_isShut_31 : decode cX6_isShut 31 = .ok (.iload 4, 2) := by decide +kernel
theorem dX6_isShut_33 : decode cX6_isShut 33 = .ok (.invokevirtual 134, 3) := by decide +kernel
theorem dX6_isShut_36 : decode cX6_isShut 36 = .ok (.iload_n 2, 1) := by decide +kernel
theorem dX6_isShut_37 : decode cX6_isShut 37 = .ok (.if_icmp .eq 7, 3) := by decide +kernel
theorem dX6_isShut_40 : decode cX6_isShut 40 = .ok (.iconst 1, 1) := by decide +kernel
theorem dX6_isShut_41 : decode cX6_isShut 41 = .ok (.goto 4, 3) := by decide +kernel
theorem dX6_isShut_44 : decode cX6_isShut 44 = .ok (.iconst 0, 1) := by decide +kernel
theorem dX6_isShut_45 : decode cX6_isShut 45 = .ok (.istore_n 3, 1) := by decide +kernel
theorem dX6_isShut_46 : decode cX6_isShut 46 = .ok (.aload_n 0, 1) := by decide +kernel
theorem dX6_isShut_47 : decode cX6_isShut 47 = .ok (.getfield 35, 3) := by decide +kernel
theorem dX6_isShut_50 : decode cX6_isShut 50 = .ok (.iload 4, 2) := by decide +kernel
theorem dX6_isShut_52 : decode cX6_isShut 52 = .ok (.iaload, 1) := by decide +kernel
theorem dX6_isShut_53 : decode cX6_isShut 53 = .ok (.istore 4, 2) := by decide +kernel
theorem dX6_isShut_55 : decode cX6_isShut 55 = .ok (.goto (-45), 3) := by decide +kernel
theorem dX6_isShut_58 : decode cX6_isShut 58 = .ok (.iload_n 3, 1) := by decide +kernel
theorem dX6_isShut_59 : decode cX6_isShut 59 = .ok (.ireturn, 1) := by decide +kernel
theorem dX6_byHour_0 : decode cX6_byHour 0 = .ok (.aload_n 0, 1) := by decide +kernel
theorem dX6_byHour_1 : decode cX6_byHour 1 = .ok (.aload_n 0, 1) := by decide +kernel
theorem dX6_byHour_2 : decode cX6_byHour 2 = .ok (.getfield 111, 3) := by decide +kernel
theorem dX6_byHour_5 : decode cX6_byHour 5 = .ok (.invokevirtual 120, 3) := by decide +kernel
theorem dX6_byHour_8 : decode cX6_byHour 8 = .ok (.ifCond .eq 8, 3) := by decide +kernel
theorem dX6_byHour_11 : decode cX6_byHour 11 = .ok (.bipush 98, 2) := by decide +kernel
theorem dX6_byHour_13 : decode cX6_byHour 13 = .ok (.goto 21, 3) := by decide +kernel
theorem dX6_byHour_16 : decode cX6_byHour 16 = .ok (.aload_n 0, 1) := by decide +kernel
theorem dX6_byHour_17 : decode cX6_byHour 17 = .ok (.getfield 25, 3) := by decide +kernel
theorem dX6_byHour_20 : decode cX6_byHour 20 = .ok (.aload_n 0, 1) := by decide +kernel
theorem dX6_byHour_21 : decode cX6_byHour 21 = .ok (.getfield 111, 3) := by decide +kernel
theorem dX6_byHour_24 : decode cX6_byHour 24 = .ok (.if_icmp .ne 8, 3) := by decide +kernel
theorem dX6_byHour_27 : decode cX6_byHour 27 = .ok (.bipush 99, 2) := by decide +kernel
theorem dX6_byHour_29 : decode cX6_byHour 29 = .ok (.goto 5, 3) := by decide +kernel
theorem dX6_byHour_32 : decode cX6_byHour 32 = .ok (.bipush 110, 2) := by decide +kernel
theorem dX6_byHour_34 : decode cX6_byHour 34 = .ok (.ireturn, 1) := by decide +kernel
theorem dX6_liftNow_0 : decode cX6_liftNow 0 = .ok (.aload_n 0, 1) := by decide +kernel
theorem dX6_liftNow_1 : decode cX6_liftNow 1 = .ok (.getfield 65, 3) := by decide +kernel
theorem dX6_liftNow_4 : decode cX6_liftNow 4 = .ok (.iload_n 1, 1) := by decide +kernel
theorem dX6_liftNow_5 : decode cX6_liftNow 5 = .ok (.baload, 1) := by decide +kernel
theorem dX6_liftNow_6 : decode cX6_liftNow 6 = .ok (.ifCond .ne 13, 3) := by decide +kernel
theorem dX6_liftNow_9 : decode cX6_liftNow 9 = .ok (.aload_n 0, 1) := by decide +kernel
theorem dX6_liftNow_10 : decode cX6_liftNow 10 = .ok (.getfield 62, 3) := by decide +kernel
theorem dX6_liftNow_13 : decode cX6_liftNow 13 = .ok (.iload_n 1, 1) := by decide +kernel
theorem dX6_liftNow_14 : decode cX6_liftNow 14 = .ok (.iaload, 1) := by decide +kernel
theorem dX6_liftNow_15 : decode cX6_liftNow 15 = .ok (.iconst (-1), 1) := by decide +kernel
theorem dX6_liftNow_16 : decode cX6_liftNow 16 = .ok (.if_icmp .eq 6, 3) := by decide +kernel
theorem dX6_liftNow_19 : decode cX6_liftNow 19 = .ok (.bipush 97, 2) := by decide +kernel
theorem dX6_liftNow_21 : decode cX6_liftNow 21 = .ok (.ireturn, 1) := by decide +kernel
theorem dX6_liftNow_22 : decode cX6_liftNow 22 = .ok (.aload_n 0, 1) := by decide +kernel
theorem dX6_liftNow_23 : decode cX6_liftNow 23 = .ok (.iload_n 2, 1) := by decide +kernel
theorem dX6_liftNow_24 : decode cX6_liftNow 24 = .ok (.invokevirtual 134, 3) := by decide +kernel
theorem dX6_liftNow_27 : decode cX6_liftNow 27 = .ok (.iconst (-1), 1) := by decide +kernel
theorem dX6_liftNow_28 : decode cX6_liftNow 28 = .ok (.if_icmp .eq 6, 3) := by decide +kernel
theorem dX6_liftNow_31 : decode cX6_liftNow 31 = .ok (.bipush 111, 2) := by decide +kernel
theorem dX6_liftNow_33 : decode cX6_liftNow 33 = .ok (.ireturn, 1) := by decide +kernel
theorem dX6_liftNow_34 : decode cX6_liftNow 34 = .ok (.aload_n 0, 1) := by decide +kernel
theorem dX6_liftNow_35 : decode cX6_liftNow 35 = .ok (.iload_n 2, 1) := by decide +kernel
theorem dX6_liftNow_36 : decode cX6_liftNow 36 = .ok (.iconst (-1), 1) := by decide +kernel
theorem dX6_liftNow_37 : decode cX6_liftNow 37 = .ok (.invokevirtual 137, 3) := by decide +kernel
theorem dX6_liftNow_40 : decode cX6_liftNow 40 = .ok (.ifCond .eq 6, 3) := by decide +kernel
theorem dX6_liftNow_43 : decode cX6_liftNow 43 = .ok (.bipush 102, 2) := by decide +kernel
theorem dX6_liftNow_45 : decode cX6_liftNow 45 = .ok (.ireturn, 1) := by decide +kernel
theorem dX6_liftNow_46 : decode cX6_liftNow 46 = .ok (.aload_n 0, 1) := by decide +kernel
theorem dX6_liftNow_47 : decode cX6_liftNow 47 = .ok (.getfield 47, 3) := by decide +kernel
theorem dX6_liftNow_50 : decode cX6_liftNow 50 = .ok (.iload_n 1, 1) := by decide +kernel
theorem dX6_liftNow_51 : decode cX6_liftNow 51 = .ok (.iaload, 1) := by decide +kernel
theorem dX6_liftNow_52 : decode cX6_liftNow 52 = .ok (.aload_n 0, 1) := by decide +kernel
theorem dX6_liftNow_53 : decode cX6_liftNow 53 = .ok (.getfield 19, 3) := by decide +kernel
theorem dX6_liftNow_56 : decode cX6_liftNow 56 = .ok (.if_icmp .gt 18, 3) := by decide +kernel
theorem dX6_liftNow_59 : decode cX6_liftNow 59 = .ok (.aload_n 0, 1) := by decide +kernel
theorem dX6_liftNow_60 : decode cX6_liftNow 60 = .ok (.getfield 47, 3) := by decide +kernel
theorem dX6_liftNow_63 : decode cX6_liftNow 63 = .ok (.iload_n 1, 1) := by decide +kernel
theorem dX6_liftNow_64 : decode cX6_liftNow 64 = .ok (.iaload, 1) := by decide +kernel
theorem dX6_liftNow_65 : decode cX6_liftNow 65 = .ok (.aload_n 0, 1) := by decide +kernel
theorem dX6_liftNow_66 : decode cX6_liftNow 66 = .ok (.getfield 38, 3) := by decide +kernel
theorem dX6_liftNow_69 : decode cX6_liftNow 69 = .ok (.iload_n 2, 1) := by decide +kernel
theorem dX6_liftNow_70 : decode cX6_liftNow 70 = .ok (.iaload, 1) := by decide +kernel
theorem dX6_liftNow_71 : decode cX6_liftNow 71 = .ok (.if_icmp .le 6, 3) := by decide +kernel
theorem dX6_liftNow_74 : decode cX6_liftNow 74 = .ok (.bipush 119, 2) := by decide +kernel
theorem dX6_liftNow_76 : decode cX6_liftNow 76 = .ok (.ireturn, 1) := by decide +kernel
theorem dX6_liftNow_77 : decode cX6_liftNow 77 = .ok (.aload_n 0, 1) := by decide +kernel
theorem dX6_liftNow_78 : decode cX6_liftNow 78 = .ok (.getfield 50, 3) := by decide +kernel
theorem dX6_liftNow_81 : decode cX6_liftNow 81 = .ok (.iload_n 1, 1) := by decide +kernel
theorem dX6_liftNow_82 : decode cX6_liftNow 82 = .ok (.iaload, 1) := by decide +kernel
theorem dX6_liftNow_83 : decode cX6_liftNow 83 = .ok (.aload_n 0, 1) := by decide +kernel
theorem dX6_liftNow_84 : decode cX6_liftNow 84 = .ok (.getfield 41, 3) := by decide +kernel
theorem dX6_liftNow_87 : decode cX6_liftNow 87 = .ok (.iload_n 2, 1) := by decide +kernel
theorem dX6_liftNow_88 : decode cX6_liftNow 88 = .ok (.iaload, 1) := by decide +kernel
theorem dX6_liftNow_89 : decode cX6_liftNow 89 = .ok (.if_icmp .le 6, 3) := by decide +kernel
theorem dX6_liftNow_92 : decode cX6_liftNow 92 = .ok (.bipush 108, 2) := by decide +kernel
theorem dX6_liftNow_94 : decode cX6_liftNow 94 = .ok (.ireturn, 1) := by decide +kernel
theorem dX6_liftNow_95 : decode cX6_liftNow 95 = .ok (.aload_n 0, 1) := by decide +kernel
theorem dX6_liftNow_96 : decode cX6_liftNow 96 = .ok (.iload_n 1, 1) := by decide +kernel
theorem dX6_liftNow_97 : decode cX6_liftNow 97 = .ok (.aload_n 0, 1) := by decide +kernel
theorem dX6_liftNow_98 : decode cX6_liftNow 98 = .ok (.getfield 111, 3) := by decide +kernel
theorem dX6_liftNow_101 : decode cX6_liftNow 101 = .ok (.invokevirtual 126, 3) := by decide +kernel
theorem dX6_liftNow_104 : decode cX6_liftNow 104 = .ok (.ifCond .eq 10, 3) := by decide +kernel
theorem dX6_liftNow_107 : decode cX6_liftNow 107 = .ok (.aload_n 0, 1) := by decide +kernel
theorem dX6_liftNow_108 : decode cX6_liftNow 108 = .ok (.invokevirtual 140, 3) := by decide +kernel
theorem dX6_liftNow_111 : decode cX6_liftNow 111 = .ok (.goto 5, 3) := by decide +kernel
theorem dX6_liftNow_114 : decode cX6_liftNow 114 = .ok (.bipush 116, 2) := by decide +kernel
theorem dX6_liftNow_116 : decode cX6_liftNow 116 = .ok (.ireturn, 1) := by decide +kernel
theorem dX6_launchNow_0 : decode cX6_launchNow 0 = .ok (.aload_n 0, 1) := by decide +kernel
theorem dX6_launchNow_1 : decode cX6_launchNow 1 = .ok (.getfield 62, 3) := by decide +kernel
theorem dX6_launchNow_4 : decode cX6_launchNow 4 = .ok (.iload_n 1, 1) := by decide +kernel
theorem dX6_launchNow_5 : decode cX6_launchNow 5 = .ok (.iaload, 1) := by decide +kernel
theorem dX6_launchNow_6 : decode cX6_launchNow 6 = .ok (.iconst (-1), 1) := by decide +kernel
theorem dX6_launchNow_7 : decode cX6_launchNow 7 = .ok (.if_icmp .ne 6, 3) := by decide +kernel
theorem dX6_launchNow_10 : decode cX6_launchNow 10 = .ok (.bipush 97, 2) := by decide +kernel
theorem dX6_launchNow_12 : decode cX6_launchNow 12 = .ok (.ireturn, 1) := by decide +kernel
theorem dX6_launchNow_13 : decode cX6_launchNow 13 = .ok (.aload_n 0, 1) := by decide +kernel
theorem dX6_launchNow_14 : decode cX6_launchNow 14 = .ok (.getfield 56, 3) := by decide +kernel
theorem dX6_launchNow_17 : decode cX6_launchNow 17 = .ok (.iload_n 1, 1) := by decide +kernel
theorem dX6_launchNow_18 : decode cX6_launchNow 18 = .ok (.iaload, 1) := by decide +kernel
theorem dX6_launchNow_19 : decode cX6_launchNow 19 = .ok (.ifCond .le 6, 3) := by decide +kernel
theorem dX6_launchNow_22 : decode cX6_launchNow 22 = .ok (.bipush 100, 2) := by decide +kernel
theorem dX6_launchNow_24 : decode cX6_launchNow 24 = .ok (.ireturn, 1) := by decide +kernel
theorem dX6_launchNow_25 : decode cX6_launchNow 25 = .ok (.aload_n 0, 1) := by decide +kernel
theorem dX6_launchNow_26 : decode cX6_launchNow 26 = .ok (.aload_n 0, 1) := by decide +kernel
theorem dX6_launchNow_27 : decode cX6_launchNow 27 = .ok (.getfield 62, 3) := by decide +kernel
theorem dX6_launchNow_30 : decode cX6_launchNow 30 = .ok (.iload_n 1, 1) := by decide +kernel
theorem dX6_launchNow_31 : decode cX6_launchNow 31 = .ok (.iaload, 1) := by decide +kernel
theorem dX6_launchNow_32 : decode cX6_launchNow 32 = .ok (.iconst (-1), 1) := by decide +kernel
theorem dX6_launchNow_33 : decode cX6_launchNow 33 = .ok (.invokevirtual 137, 3) := by decide +kernel
theorem dX6_launchNow_36 : decode cX6_launchNow 36 = .ok (.ifCond .eq 6, 3) := by decide +kernel
theorem dX6_launchNow_39 : decode cX6_launchNow 39 = .ok (.bipush 102, 2) := by decide +kernel
theorem dX6_launchNow_41 : decode cX6_launchNow 41 = .ok (.ireturn, 1) := by decide +kernel
theorem dX6_launchNow_42 : decode cX6_launchNow 42 = .ok (.aload_n 0, 1) := by decide +kernel
theorem dX6_launchNow_43 : decode cX6_launchNow 43 = .ok (.getfield 47, 3) := by decide +kernel
theorem dX6_launchNow_46 : decode cX6_launchNow 46 = .ok (.iload_n 1, 1) := by decide +kernel
theorem dX6_launchNow_47 : decode cX6_launchNow 47 = .ok (.iaload, 1) := by decide +kernel
theorem dX6_launchNow_48 : decode cX6_launchNow 48 = .ok (.aload_n 0, 1) := by decide +kernel
theorem dX6_launchNow_49 : decode cX6_launchNow 49 = .ok (.getfield 19, 3) := by decide +kernel
theorem dX6_launchNow_52 : decode cX6_launchNow 52 = .ok (.if_icmp .le 6, 3) := by decide +kernel
theorem dX6_launchNow_55 : decode cX6_launchNow 55 = .ok (.bipush 119, 2) := by decide +kernel
theorem dX6_launchNow_57 : decode cX6_launchNow 57 = .ok (.ireturn, 1) := by decide +kernel
theorem dX6_launchNow_58 : decode cX6_launchNow 58 = .ok (.aload_n 0, 1) := by decide +kernel
theorem dX6_launchNow_59 : decode cX6_launchNow 59 = .ok (.iload_n 1, 1) := by decide +kernel
theorem dX6_launchNow_60 : decode cX6_launchNow 60 = .ok (.aload_n 0, 1) := by decide +kernel
theorem dX6_launchNow_61 : decode cX6_launchNow 61 = .ok (.getfield 111, 3) := by decide +kernel
theorem dX6_launchNow_64 : decode cX6_launchNow 64 = .ok (.invokevirtual 126, 3) := by decide +kernel
theorem dX6_launchNow_67 : decode cX6_launchNow 67 = .ok (.ifCond .eq 10, 3) := by decide +kernel
theorem dX6_launchNow_70 : decode cX6_launchNow 70 = .ok (.aload_n 0, 1) := by decide +kernel
theorem dX6_launchNow_71 : decode cX6_launchNow 71 = .ok (.invokevirtual 140, 3) := by decide +kernel
theorem dX6_launchNow_74 : decode cX6_launchNow 74 = .ok (.goto 5, 3) := by decide +kernel
theorem dX6_launchNow_77 : decode cX6_launchNow 77 = .ok (.bipush 116, 2) := by decide +kernel
theorem dX6_launchNow_79 : decode cX6_launchNow 79 = .ok (.ireturn, 1) := by decide +kernel
theorem dX6_shiftEver_0 : decode cX6_shiftEver 0 = .ok (.aload_n 0, 1) := by decide +kernel
theorem dX6_shiftEver_1 : decode cX6_shiftEver 1 = .ok (.getfield 62, 3) := by decide +kernel
theorem dX6_shiftEver_4 : decode cX6_shiftEver 4 = .ok (.iload_n 1, 1) := by decide +kernel
theorem dX6_shiftEver_5 : decode cX6_shiftEver 5 = .ok (.iaload, 1) := by decide +kernel
theorem dX6_shiftEver_6 : decode cX6_shiftEver 6 = .ok (.iconst (-1), 1) := by decide +kernel
theorem dX6_shiftEver_7 : decode cX6_shiftEver 7 = .ok (.if_icmp .ne 6, 3) := by decide +kernel
theorem dX6_shiftEver_10 : decode cX6_shiftEver 10 = .ok (.bipush 97, 2) := by decide +kernel
theorem dX6_shiftEver_12 : decode cX6_shiftEver 12 = .ok (.ireturn, 1) := by decide +kernel
theorem dX6_shiftEver_13 : decode cX6_shiftEver 13 = .ok (.aload_n 0, 1) := by decide +kernel
theorem dX6_shiftEver_14 : decode cX6_shiftEver 14 = .ok (.getfield 56, 3) := by decide +kernel
theorem dX6_shiftEver_17 : decode cX6_shiftEver 17 = .ok (.iload_n 1, 1) := by decide +kernel
theorem dX6_shiftEver_18 : decode cX6_shiftEver 18 = .ok (.iaload, 1) := by decide +kernel
theorem dX6_shiftEver_19 : decode cX6_shiftEver 19 = .ok (.ifCond .le 6, 3) := by decide +kernel
theorem dX6_shiftEver_22 : decode cX6_shiftEver 22 = .ok (.bipush 100, 2) := by decide +kernel
theorem dX6_shiftEver_24 : decode cX6_shiftEver 24 = .ok (.ireturn, 1) := by decide +kernel
theorem dX6_shiftEver_25 : decode cX6_shiftEver 25 = .ok (.aload_n 0, 1) := by decide +kernel
theorem dX6_shiftEver_26 : decode cX6_shiftEver 26 = .ok (.iload_n 2, 1) := by decide +kernel
theorem dX6_shiftEver_27 : decode cX6_shiftEver 27 = .ok (.invokevirtual 134, 3) := by decide +kernel
theorem dX6_shiftEver_30 : decode cX6_shiftEver 30 = .ok (.iconst (-1), 1) := by decide +kernel
theorem dX6_shiftEver_31 : decode cX6_shiftEver 31 = .ok (.if_icmp .eq 6, 3) := by decide +kernel
theorem dX6_shiftEver_34 : decode cX6_shiftEver 34 = .ok (.bipush 111, 2) := by decide +kernel
theorem dX6_shiftEver_36 : decode cX6_shiftEver 36 = .ok (.ireturn, 1) := by decide +kernel
theorem dX6_shiftEver_37 : decode cX6_shiftEver 37 = .ok (.aload_n 0, 1) := by decide +kernel
theorem dX6_shiftEver_38 : decode cX6_shiftEver 38 = .ok (.aload_n 0, 1) := by decide +kernel
theorem dX6_shiftEver_39 : decode cX6_shiftEver 39 = .ok (.getfield 62, 3) := by decide +kernel
theorem dX6_shiftEver_42 : decode cX6_shiftEver 42 = .ok (.iload_n 1, 1) := by decide +kernel
theorem dX6_shiftEver_43 : decode cX6_shiftEver 43 = .ok (.iaload, 1) := by decide +kernel
theorem dX6_shiftEver_44 : decode cX6_shiftEver 44 = .ok (.iload_n 1, 1) := by decide +kernel
theorem dX6_shiftEver_45 : decode cX6_shiftEver 45 = .ok (.invokevirtual 137, 3) := by decide +kernel
theorem dX6_shiftEver_48 : decode cX6_shiftEver 48 = .ok (.ifCond .ne 12, 3) := by decide +kernel
theorem dX6_shiftEver_51 : decode cX6_shiftEver 51 = .ok (.aload_n 0, 1) := by decide +kernel
theorem dX6_shiftEver_52 : decode cX6_shiftEver 52 = .ok (.iload_n 2, 1) := by decide +kernel
theorem dX6_shiftEver_53 : decode cX6_shiftEver 53 = .ok (.iload_n 1, 1) := by decide +kernel
theorem dX6_shiftEver_54 : decode cX6_shiftEver 54 = .ok (.invokevirtual 137, 3) := by decide +kernel
theorem dX6_shiftEver_57 : decode cX6_shiftEver 57 = .ok (.ifCond .eq 6, 3) := by decide +kernel
theorem dX6_shiftEver_60 : decode cX6_shiftEver 60 = .ok (.bipush 102, 2) := by decide +kernel
theorem dX6_shiftEver_62 : decode cX6_shiftEver 62 = .ok (.ireturn, 1) := by decide +kernel
theorem dX6_shiftEver_63 : decode cX6_shiftEver 63 = .ok (.aload_n 0, 1) := by decide +kernel
theorem dX6_shiftEver_64 : decode cX6_shiftEver 64 = .ok (.getfield 47, 3) := by decide +kernel
theorem dX6_shiftEver_67 : decode cX6_shiftEver 67 = .ok (.iload_n 1, 1) := by decide +kernel
theorem dX6_shiftEver_68 : decode cX6_shiftEver 68 = .ok (.iaload, 1) := by decide +kernel
theorem dX6_shiftEver_69 : decode cX6_shiftEver 69 = .ok (.aload_n 0, 1) := by decide +kernel
theorem dX6_shiftEver_70 : decode cX6_shiftEver 70 = .ok (.getfield 19, 3) := by decide +kernel
theorem dX6_shiftEver_73 : decode cX6_shiftEver 73 = .ok (.if_icmp .gt 18, 3) := by decide +kernel
theorem dX6_shiftEver_76 : decode cX6_shiftEver 76 = .ok (.aload_n 0, 1) := by decide +kernel
theorem dX6_shiftEver_77 : decode cX6_shiftEver 77 = .ok (.getfield 47, 3) := by decide +kernel
theorem dX6_shiftEver_80 : decode cX6_shiftEver 80 = .ok (.iload_n 1, 1) := by decide +kernel
theorem dX6_shiftEver_81 : decode cX6_shiftEver 81 = .ok (.iaload, 1) := by decide +kernel
theorem dX6_shiftEver_82 : decode cX6_shiftEver 82 = .ok (.aload_n 0, 1) := by decide +kernel
theorem dX6_shiftEver_83 : decode cX6_shiftEver 83 = .ok (.getfield 38, 3) := by decide +kernel
theorem dX6_shiftEver_86 : decode cX6_shiftEver 86 = .ok (.iload_n 2, 1) := by decide +kernel
theorem dX6_shiftEver_87 : decode cX6_shiftEver 87 = .ok (.iaload, 1) := by decide +kernel
theorem dX6_shiftEver_88 : decode cX6_shiftEver 88 = .ok (.if_icmp .le 6, 3) := by decide +kernel
theorem dX6_shiftEver_91 : decode cX6_shiftEver 91 = .ok (.bipush 119, 2) := by decide +kernel
theorem dX6_shiftEver_93 : decode cX6_shiftEver 93 = .ok (.ireturn, 1) := by decide +kernel
theorem dX6_shiftEver_94 : decode cX6_shiftEver 94 = .ok (.aload_n 0, 1) := by decide +kernel
theorem dX6_shiftEver_95 : decode cX6_shiftEver 95 = .ok (.getfield 50, 3) := by decide +kernel
theorem dX6_shiftEver_98 : decode cX6_shiftEver 98 = .ok (.iload_n 1, 1) := by decide +kernel
theorem dX6_shiftEver_99 : decode cX6_shiftEver 99 = .ok (.iaload, 1) := by decide +kernel
theorem dX6_shiftEver_100 : decode cX6_shiftEver 100 = .ok (.aload_n 0, 1) := by decide +kernel
theorem dX6_shiftEver_101 : decode cX6_shiftEver 101 = .ok (.getfield 41, 3) := by decide +kernel
theorem dX6_shiftEver_104 : decode cX6_shiftEver 104 = .ok (.iload_n 2, 1) := by decide +kernel
theorem dX6_shiftEver_105 : decode cX6_shiftEver 105 = .ok (.iaload, 1) := by decide +kernel
theorem dX6_shiftEver_106 : decode cX6_shiftEver 106 = .ok (.if_icmp .le 8, 3) := by decide +kernel
theorem dX6_shiftEver_109 : decode cX6_shiftEver 109 = .ok (.bipush 108, 2) := by decide +kernel
theorem dX6_shiftEver_111 : decode cX6_shiftEver 111 = .ok (.goto 5, 3) := by decide +kernel
theorem dX6_shiftEver_114 : decode cX6_shiftEver 114 = .ok (.bipush 110, 2) := by decide +kernel
theorem dX6_shiftEver_116 : decode cX6_shiftEver 116 = .ok (.ireturn, 1) := by decide +kernel
theorem dX6_shiftNow_0 : decode cX6_shiftNow 0 = .ok (.aload_n 0, 1) := by decide +kernel
theorem dX6_shiftNow_1 : decode cX6_shiftNow 1 = .ok (.iload_n 1, 1) := by decide +kernel
theorem dX6_shiftNow_2 : decode cX6_shiftNow 2 = .ok (.iload_n 2, 1) := by decide +kernel
theorem dX6_shiftNow_3 : decode cX6_shiftNow 3 = .ok (.invokevirtual 144, 3) := by decide +kernel
theorem dX6_shiftNow_6 : decode cX6_shiftNow 6 = .ok (.istore_n 3, 1) := by decide +kernel
theorem dX6_shiftNow_7 : decode cX6_shiftNow 7 = .ok (.iload_n 3, 1) := by decide +kernel
theorem dX6_shiftNow_8 : decode cX6_shiftNow 8 = .ok (.bipush 110, 2) := by decide +kernel
theorem dX6_shiftNow_10 : decode cX6_shiftNow 10 = .ok (.if_icmp .ne 10, 3) := by decide +kernel
theorem dX6_shiftNow_13 : decode cX6_shiftNow 13 = .ok (.aload_n 0, 1) := by decide +kernel
theorem dX6_shiftNow_14 : decode cX6_shiftNow 14 = .ok (.invokevirtual 140, 3) := by decide +kernel
theorem dX6_shiftNow_17 : decode cX6_shiftNow 17 = .ok (.goto 4, 3) := by decide +kernel
theorem dX6_shiftNow_20 : decode cX6_shiftNow 20 = .ok (.iload_n 3, 1) := by decide +kernel
theorem dX6_shiftNow_21 : decode cX6_shiftNow 21 = .ok (.ireturn, 1) := by decide +kernel
theorem dX6_goes_0 : decode cX6_goes 0 = .ok (.iload_n 3, 1) := by decide +kernel
theorem dX6_goes_1 : decode cX6_goes 1 = .ok (.bipush 110, 2) := by decide +kernel
theorem dX6_goes_3 : decode cX6_goes 3 = .ok (.if_icmp .eq 9, 3) := by decide +kernel
theorem dX6_goes_6 : decode cX6_goes 6 = .ok (.aload_n 0, 1) := by decide +kernel
theorem dX6_goes_7 : decode cX6_goes 7 = .ok (.iconst 2, 1) := by decide +kernel
theorem dX6_goes_8 : decode cX6_goes 8 = .ok (.invokevirtual 101, 3) := by decide +kernel
theorem dX6_goes_11 : decode cX6_goes 11 = .ok (.ireturn, 1) := by decide +kernel
theorem dX6_goes_12 : decode cX6_goes 12 = .ok (.aload_n 0, 1) := by decide +kernel
theorem dX6_goes_13 : decode cX6_goes 13 = .ok (.getfield 62, 3) := by decide +kernel
theorem dX6_goes_16 : decode cX6_goes 16 = .ok (.iload_n 1, 1) := by decide +kernel
theorem dX6_goes_17 : decode cX6_goes 17 = .ok (.iload_n 2, 1) := by decide +kernel
theorem dX6_goes_18 : decode cX6_goes 18 = .ok (.iastore, 1) := by decide +kernel
theorem dX6_goes_19 : decode cX6_goes 19 = .ok (.aload_n 0, 1) := by decide +kernel
theorem dX6_goes_20 : decode cX6_goes 20 = .ok (.getfield 65, 3) := by decide +kernel
theorem dX6_goes_23 : decode cX6_goes 23 = .ok (.iload_n 1, 1) := by decide +kernel
theorem dX6_goes_24 : decode cX6_goes 24 = .ok (.iload_n 2, 1) := by decide +kernel
theorem dX6_goes_25 : decode cX6_goes 25 = .ok (.iconst (-1), 1) := by decide +kernel
theorem dX6_goes_26 : decode cX6_goes 26 = .ok (.if_icmp .ne 7, 3) := by decide +kernel
theorem dX6_goes_29 : decode cX6_goes 29 = .ok (.iconst 1, 1) := by decide +kernel
theorem dX6_goes_30 : decode cX6_goes 30 = .ok (.goto 4, 3) := by decide +kernel
theorem dX6_goes_33 : decode cX6_goes 33 = .ok (.iconst 0, 1) := by decide +kernel
theorem dX6_goes_34 : decode cX6_goes 34 = .ok (.bastore, 1) := by decide +kernel
theorem dX6_goes_35 : decode cX6_goes 35 = .ok (.aload_n 0, 1) := by decide +kernel
theorem dX6_goes_36 : decode cX6_goes 36 = .ok (.aload_n 0, 1) := by decide +kernel
theorem dX6_goes_37 : decode cX6_goes 37 = .ok (.getfield 111, 3) := by decide +kernel
theorem dX6_goes_40 : decode cX6_goes 40 = .ok (.putfield 25, 3) := by decide +kernel
theorem dX6_goes_43 : decode cX6_goes 43 = .ok (.aload_n 0, 1) := by decide +kernel
theorem dX6_goes_44 : decode cX6_goes 44 = .ok (.dup, 1) := by decide +kernel
theorem dX6_goes_45 : decode cX6_goes 45 = .ok (.getfield 148, 3) := by decide +kernel
theorem dX6_goes_48 : decode cX6_goes 48 = .ok (.aload_n 0, 1) := by decide +kernel
theorem dX6_goes_49 : decode cX6_goes 49 = .ok (.getfield 47, 3) := by decide +kernel
theorem dX6_goes_52 : decode cX6_goes 52 = .ok (.iload_n 1, 1) := by decide +kernel
theorem dX6_goes_53 : decode cX6_goes 53 = .ok (.iaload, 1) := by decide +kernel
theorem dX6_goes_54 : decode cX6_goes 54 = .ok (.i2l, 1) := by decide +kernel
theorem dX6_goes_55 : decode cX6_goes 55 = .ok (.ladd, 1) := by decide +kernel
theorem dX6_goes_56 : decode cX6_goes 56 = .ok (.putfield 148, 3) := by decide +kernel
theorem dX6_goes_59 : decode cX6_goes 59 = .ok (.aload_n 0, 1) := by decide +kernel
theorem dX6_goes_60 : decode cX6_goes 60 = .ok (.dup, 1) := by decide +kernel
theorem dX6_goes_61 : decode cX6_goes 61 = .ok (.getfield 152, 3) := by decide +kernel
theorem dX6_goes_64 : decode cX6_goes 64 = .ok (.iconst 1, 1) := by decide +kernel
theorem dX6_goes_65 : decode cX6_goes 65 = .ok (.iadd, 1) := by decide +kernel
theorem dX6_goes_66 : decode cX6_goes 66 = .ok (.putfield 152, 3) := by decide +kernel
theorem dX6_goes_69 : decode cX6_goes 69 = .ok (.aload_n 0, 1) := by decide +kernel
theorem dX6_goes_70 : decode cX6_goes 70 = .ok (.aload_n 0, 1) := by decide +kernel
theorem dX6_goes_71 : decode cX6_goes 71 = .ok (.getfield 152, 3) := by decide +kernel
theorem dX6_goes_74 : decode cX6_goes 74 = .ok (.invokevirtual 105, 3) := by decide +kernel
theorem dX6_goes_77 : decode cX6_goes 77 = .ok (.ireturn, 1) := by decide +kernel
theorem dX6_lift_0 : decode cX6_lift 0 = .ok (.aload_n 0, 1) := by decide +kernel
theorem dX6_lift_1 : decode cX6_lift 1 = .ok (.iload_n 1, 1) := by decide +kernel
theorem dX6_lift_2 : decode cX6_lift 2 = .ok (.invokevirtual 123, 3) := by decide +kernel
theorem dX6_lift_5 : decode cX6_lift 5 = .ok (.ifCond .eq 26, 3) := by decide +kernel
theorem dX6_lift_8 : decode cX6_lift 8 = .ok (.aload_n 0, 1) := by decide +kernel
theorem dX6_lift_9 : decode cX6_lift 9 = .ok (.iload_n 2, 1) := by decide +kernel
theorem dX6_lift_10 : decode cX6_lift 10 = .ok (.invokevirtual 97, 3) := by decide +kernel
theorem dX6_lift_13 : decode cX6_lift 13 = .ok (.ifCond .eq 18, 3) := by decide +kernel
theorem dX6_lift_16 : decode cX6_lift 16 = .ok (.aload_n 0, 1) := by decide +kernel
theorem dX6_lift_17 : decode cX6_lift 17 = .ok (.iload_n 1, 1) := by decide +kernel
theorem dX6_lift_18 : decode cX6_lift 18 = .ok (.iload_n 2, 1) := by decide +kernel
theorem dX6_lift_19 : decode cX6_lift 19 = .ok (.aload_n 0, 1) := by decide +kernel
theorem dX6_lift_20 : decode cX6_lift 20 = .ok (.iload_n 1, 1) := by decide +kernel
theorem dX6_lift_21 : decode cX6_lift 21 = .ok (.iload_n 2, 1) := by decide +kernel
theorem dX6_lift_22 : decode cX6_lift 22 = .ok (.invokevirtual 155, 3) := by decide +kernel
theorem dX6_lift_25 : decode cX6_lift 25 = .ok (.invokevirtual 158, 3) := by decide +kernel
theorem dX6_lift_28 : decode cX6_lift 28 = .ok (.goto 8, 3) := by decide +kernel
theorem dX6_lift_31 : decode cX6_lift 31 = .ok (.aload_n 0, 1) := by decide +kernel
theorem dX6_lift_32 : decode cX6_lift 32 = .ok (.iconst 1, 1) := by decide +kernel
theorem dX6_lift_33 : decode cX6_lift 33 = .ok (.invokevirtual 101, 3) := by decide +kernel
theorem dX6_lift_36 : decode cX6_lift 36 = .ok (.ireturn, 1) := by decide +kernel
theorem dX6_liftReason_0 : decode cX6_liftReason 0 = .ok (.aload_n 0, 1) := by decide +kernel
theorem dX6_liftReason_1 : decode cX6_liftReason 1 = .ok (.aload_n 0, 1) := by decide +kernel
theorem dX6_liftReason_2 : decode cX6_liftReason 2 = .ok (.iload_n 1, 1) := by decide +kernel
theorem dX6_liftReason_3 : decode cX6_liftReason 3 = .ok (.invokevirtual 123, 3) := by decide +kernel
theorem dX6_liftReason_6 : decode cX6_liftReason 6 = .ok (.ifCond .eq 15, 3) := by decide +kernel
theorem dX6_liftReason_9 : decode cX6_liftReason 9 = .ok (.aload_n 0, 1) := by decide +kernel
theorem dX6_liftReason_10 : decode cX6_liftReason 10 = .ok (.iload_n 2, 1) := by decide +kernel
theorem dX6_liftReason_11 : decode cX6_liftReason 11 = .ok (.invokevirtual 97, 3) := by decide +kernel
theorem dX6_liftReason_14 : decode cX6_liftReason 14 = .ok (.ifCond .eq 7, 3) := by decide +kernel
theorem dX6_liftReason_17 : decode cX6_liftReason 17 = .ok (.iconst 0, 1) := by decide +kernel
theorem dX6_liftReason_18 : decode cX6_liftReason 18 = .ok (.goto 4, 3) := by decide +kernel
theorem dX6_liftReason_21 : decode cX6_liftReason 21 = .ok (.iconst 1, 1) := by decide +kernel
theorem dX6_liftReason_22 : decode cX6_liftReason 22 = .ok (.putfield 84, 3) := by decide +kernel
theorem dX6_liftReason_25 : decode cX6_liftReason 25 = .ok (.aload_n 0, 1) := by decide +kernel
theorem dX6_liftReason_26 : decode cX6_liftReason 26 = .ok (.getfield 84, 3) := by decide +kernel
theorem dX6_liftReason_29 : decode cX6_liftReason 29 = .ok (.ifCond .ne 12, 3) := by decide +kernel
theorem dX6_liftReason_32 : decode cX6_liftReason 32 = .ok (.aload_n 0, 1) := by decide +kernel
theorem dX6_liftReason_33 : decode cX6_liftReason 33 = .ok (.iload_n 1, 1) := by decide +kernel
theorem dX6_liftReason_34 : decode cX6_liftReason 34 = .ok (.iload_n 2, 1) := by decide +kernel
theorem dX6_liftReason_35 : decode cX6_liftReason 35 = .ok (.invokevirtual 155, 3) := by decide +kernel
theorem dX6_liftReason_38 : decode cX6_liftReason 38 = .ok (.goto 5, 3) := by decide +kernel
theorem dX6_liftReason_41 : decode cX6_liftReason 41 = .ok (.bipush 97, 2) := by decide +kernel
theorem dX6_liftReason_43 : decode cX6_liftReason 43 = .ok (.ireturn, 1) := by decide +kernel
theorem dX6_launch_0 : decode cX6_launch 0 = .ok (.aload_n 0, 1) := by decide +kernel
theorem dX6_launch_1 : decode cX6_launch 1 = .ok (.iload_n 1, 1) := by decide +kernel
theorem dX6_launch_2 : decode cX6_launch 2 = .ok (.invokevirtual 123, 3) := by decide +kernel
theorem dX6_launch_5 : decode cX6_launch 5 = .ok (.ifCond .eq 17, 3) := by decide +kernel
theorem dX6_launch_8 : decode cX6_launch 8 = .ok (.aload_n 0, 1) := by decide +kernel
theorem dX6_launch_9 : decode cX6_launch 9 = .ok (.iload_n 1, 1) := by decide +kernel
theorem dX6_launch_10 : decode cX6_launch 10 = .ok (.iconst (-1), 1) := by decide +kernel
theorem dX6_launch_11 : decode cX6_launch 11 = .ok (.aload_n 0, 1) := by decide +kernel
theorem dX6_launch_12 : decode cX6_launch 12 = .ok (.iload_n 1, 1) := by decide +kernel
theorem dX6_launch_13 : decode cX6_launch 13 = .ok (.invokevirtual 162, 3) := by decide +kernel
theorem dX6_launch_16 : decode cX6_launch 16 = .ok (.invokevirtual 158, 3) := by decide +kernel
theorem dX6_launch_19 : decode cX6_launch 19 = .ok (.goto 8, 3) := by decide +kernel
theorem dX6_launch_22 : decode cX6_launch 22 = .ok (.aload_n 0, 1) := by decide +kernel
theorem dX6_launch_23 : decode cX6_launch 23 = .ok (.iconst 1, 1) := by decide +kernel
theorem dX6_launch_24 : decode cX6_launch 24 = .ok (.invokevirtual 101, 3) := by decide +kernel
theorem dX6_launch_27 : decode cX6_launch 27 = .ok (.ireturn, 1) := by decide +kernel
theorem dX6_launchReason_0 : decode cX6_launchReason 0 = .ok (.aload_n 0, 1) := by decide +kernel
theorem dX6_launchReason_1 : decode cX6_launchReason 1 = .ok (.aload_n 0, 1) := by decide +kernel
theorem dX6_launchReason_2 : decode cX6_launchReason 2 = .ok (.iload_n 1, 1) := by decide +kernel
theorem dX6_launchReason_3 : decode cX6_launchReason 3 = .ok (.invokevirtual 123, 3) := by decide +kernel
theorem dX6_launchReason_6 : decode cX6_launchReason 6 = .ok (.ifCond .eq 7, 3) := by decide +kernel
theorem dX6_launchReason_9 : decode cX6_launchReason 9 = .ok (.iconst 0, 1) := by decide +kernel
theorem dX6_launchReason_10 : decode cX6_launchReason 10 = .ok (.goto 4, 3) := by decide +kernel
theorem dX6_launchReason_13 : decode cX6_launchReason 13 = .ok (.iconst 1, 1) := by decide +kernel
theorem dX6_launchReason_14 : decode cX6_launchReason 14 = .ok (.putfield 84, 3) := by decide +kernel
theorem dX6_launchReason_17 : decode cX6_launchReason 17 = .ok (.aload_n 0, 1) := by decide +kernel
theorem dX6_launchReason_18 : decode cX6_launchReason 18 = .ok (.getfield 84, 3) := by decide +kernel
theorem dX6_launchReason_21 : decode cX6_launchReason 21 = .ok (.ifCond .ne 11, 3) := by decide +kernel
theorem dX6_launchReason_24 : decode cX6_launchReason 24 = .ok (.aload_n 0, 1) := by decide +kernel
theorem dX6_launchReason_25 : decode cX6_launchReason 25 = .ok (.iload_n 1, 1) := by decide +kernel
theorem dX6_launchReason_26 : decode cX6_launchReason 26 = .ok (.invokevirtual 162, 3) := by decide +kernel
theorem dX6_launchReason_29 : decode cX6_launchReason 29 = .ok (.goto 5, 3) := by decide +kernel
theorem dX6_launchReason_32 : decode cX6_launchReason 32 = .ok (.bipush 97, 2) := by decide +kernel
theorem dX6_launchReason_34 : decode cX6_launchReason 34 = .ok (.ireturn, 1) := by decide +kernel
theorem dX6_shift_0 : decode cX6_shift 0 = .ok (.aload_n 0, 1) := by decide +kernel
theorem dX6_shift_1 : decode cX6_shift 1 = .ok (.iload_n 1, 1) := by decide +kernel
theorem dX6_shift_2 : decode cX6_shift 2 = .ok (.invokevirtual 123, 3) := by decide +kernel
theorem dX6_shift_5 : decode cX6_shift 5 = .ok (.ifCond .eq 26, 3) := by decide +kernel
theorem dX6_shift_8 : decode cX6_shift 8 = .ok (.aload_n 0, 1) := by decide +kernel
theorem dX6_shift_9 : decode cX6_shift 9 = .ok (.iload_n 2, 1) := by decide +kernel
theorem dX6_shift_10 : decode cX6_shift 10 = .ok (.invokevirtual 97, 3) := by decide +kernel
theorem dX6_shift_13 : decode cX6_shift 13 = .ok (.ifCond .eq 18, 3) := by decide +kernel
theorem dX6_shift_16 : decode cX6_shift 16 = .ok (.aload_n 0, 1) := by decide +kernel
theorem dX6_shift_17 : decode cX6_shift 17 = .ok (.iload_n 1, 1) := by decide +kernel
theorem dX6_shift_18 : decode cX6_shift 18 = .ok (.iload_n 2, 1) := by decide +kernel
theorem dX6_shift_19 : decode cX6_shift 19 = .ok (.aload_n 0, 1) := by decide +kernel
theorem dX6_shift_20 : decode cX6_shift 20 = .ok (.iload_n 1, 1) := by decide +kernel
theorem dX6_shift_21 : decode cX6_shift 21 = .ok (.iload_n 2, 1) := by decide +kernel
theorem dX6_shift_22 : decode cX6_shift 22 = .ok (.invokevirtual 166, 3) := by decide +kernel
theorem dX6_shift_25 : decode cX6_shift 25 = .ok (.invokevirtual 158, 3) := by decide +kernel
theorem dX6_shift_28 : decode cX6_shift 28 = .ok (.goto 8, 3) := by decide +kernel
theorem dX6_shift_31 : decode cX6_shift 31 = .ok (.aload_n 0, 1) := by decide +kernel
theorem dX6_shift_32 : decode cX6_shift 32 = .ok (.iconst 1, 1) := by decide +kernel
theorem dX6_shift_33 : decode cX6_shift 33 = .ok (.invokevirtual 101, 3) := by decide +kernel
theorem dX6_shift_36 : decode cX6_shift 36 = .ok (.ireturn, 1) := by decide +kernel
theorem dX6_shiftReason_0 : decode cX6_shiftReason 0 = .ok (.aload_n 0, 1) := by decide +kernel
theorem dX6_shiftReason_1 : decode cX6_shiftReason 1 = .ok (.aload_n 0, 1) := by decide +kernel
theorem dX6_shiftReason_2 : decode cX6_shiftReason 2 = .ok (.iload_n 1, 1) := by decide +kernel
theorem dX6_shiftReason_3 : decode cX6_shiftReason 3 = .ok (.invokevirtual 123, 3) := by decide +kernel
theorem dX6_shiftReason_6 : decode cX6_shiftReason 6 = .ok (.ifCond .eq 15, 3) := by decide +kernel
theorem dX6_shiftReason_9 : decode cX6_shiftReason 9 = .ok (.aload_n 0, 1) := by decide +kernel
theorem dX6_shiftReason_10 : decode cX6_shiftReason 10 = .ok (.iload_n 2, 1) := by decide +kernel
theorem dX6_shiftReason_11 : decode cX6_shiftReason 11 = .ok (.invokevirtual 97, 3) := by decide +kernel
theorem dX6_shiftReason_14 : decode cX6_shiftReason 14 = .ok (.ifCond .eq 7, 3) := by decide +kernel
theorem dX6_shiftReason_17 : decode cX6_shiftReason 17 = .ok (.iconst 0, 1) := by decide +kernel
theorem dX6_shiftReason_18 : decode cX6_shiftReason 18 = .ok (.goto 4, 3) := by decide +kernel
theorem dX6_shiftReason_21 : decode cX6_shiftReason 21 = .ok (.iconst 1, 1) := by decide +kernel
theorem dX6_shiftReason_22 : decode cX6_shiftReason 22 = .ok (.putfield 84, 3) := by decide +kernel
theorem dX6_shiftReason_25 : decode cX6_shiftReason 25 = .ok (.aload_n 0, 1) := by decide +kernel
theorem dX6_shiftReason_26 : decode cX6_shiftReason 26 = .ok (.getfield 84, 3) := by decide +kernel
theorem dX6_shiftReason_29 : decode cX6_shiftReason 29 = .ok (.ifCond .ne 12, 3) := by decide +kernel
theorem dX6_shiftReason_32 : decode cX6_shiftReason 32 = .ok (.aload_n 0, 1) := by decide +kernel
theorem dX6_shiftReason_33 : decode cX6_shiftReason 33 = .ok (.iload_n 1, 1) := by decide +kernel
theorem dX6_shiftReason_34 : decode cX6_shiftReason 34 = .ok (.iload_n 2, 1) := by decide +kernel
theorem dX6_shiftReason_35 : decode cX6_shiftReason 35 = .ok (.invokevirtual 166, 3) := by decide +kernel
theorem dX6_shiftReason_38 : decode cX6_shiftReason 38 = .ok (.goto 5, 3) := by decide +kernel
theorem dX6_shiftReason_41 : decode cX6_shiftReason 41 = .ok (.bipush 97, 2) := by decide +kernel
theorem dX6_shiftReason_43 : decode cX6_shiftReason 43 = .ok (.ireturn, 1) := by decide +kernel
theorem dX6_waits_0 : decode cX6_waits 0 = .ok (.aload_n 0, 1) := by decide +kernel
theorem dX6_waits_1 : decode cX6_waits 1 = .ok (.getfield 65, 3) := by decide +kernel
theorem dX6_waits_4 : decode cX6_waits 4 = .ok (.iload_n 1, 1) := by decide +kernel
theorem dX6_waits_5 : decode cX6_waits 5 = .ok (.baload, 1) := by decide +kernel
theorem dX6_waits_6 : decode cX6_waits 6 = .ok (.ifCond .ne 17, 3) := by decide +kernel
theorem dX6_waits_9 : decode cX6_waits 9 = .ok (.aload_n 0, 1) := by decide +kernel
theorem dX6_waits_10 : decode cX6_waits 10 = .ok (.getfield 62, 3) := by decide +kernel
theorem dX6_waits_13 : decode cX6_waits 13 = .ok (.iload_n 1, 1) := by decide +kernel
theorem dX6_waits_14 : decode cX6_waits 14 = .ok (.iaload, 1) := by decide +kernel
theorem dX6_waits_15 : decode cX6_waits 15 = .ok (.iconst (-1), 1) := by decide +kernel
theorem dX6_waits_16 : decode cX6_waits 16 = .ok (.if_icmp .ne 7, 3) := by decide +kernel
theorem dX6_waits_19 : decode cX6_waits 19 = .ok (.iconst 1, 1) := by decide +kernel
theorem dX6_waits_20 : decode cX6_waits 20 = .ok (.goto 4, 3) := by decide +kernel
theorem dX6_waits_23 : decode cX6_waits 23 = .ok (.iconst 0, 1) := by decide +kernel
theorem dX6_waits_24 : decode cX6_waits 24 = .ok (.ireturn, 1) := by decide +kernel
theorem dX6_waiting_0 : decode cX6_waiting 0 = .ok (.iconst 0, 1) := by decide +kernel
theorem dX6_waiting_1 : decode cX6_waiting 1 = .ok (.istore_n 1, 1) := by decide +kernel
theorem dX6_waiting_2 : decode cX6_waiting 2 = .ok (.iconst 0, 1) := by decide +kernel
theorem dX6_waiting_3 : decode cX6_waiting 3 = .ok (.istore_n 2, 1) := by decide +kernel
theorem dX6_waiting_4 : decode cX6_waiting 4 = .ok (.iload_n 2, 1) := by decide +kernel
theorem dX6_waiting_5 : decode cX6_waiting 5 = .ok (.aload_n 0, 1) := by decide +kernel
theorem dX6_waiting_6 : decode cX6_waiting 6 = .ok (.getfield 87, 3) := by decide +kernel
theorem dX6_waiting_9 : decode cX6_waiting 9 = .ok (.if_icmp .ge 25, 3) := by decide +kernel
theorem dX6_waiting_12 : decode cX6_waiting 12 = .ok (.iload_n 1, 1) := by decide +kernel
theorem dX6_waiting_13 : decode cX6_waiting 13 = .ok (.aload_n 0, 1) := by decide +kernel
theorem dX6_waiting_14 : decode cX6_waiting 14 = .ok (.iload_n 2, 1) := by decide +kernel
theorem dX6_waiting_15 : decode cX6_waiting 15 = .ok (.invokevirtual 169, 3) := by decide +kernel
theorem dX6_waiting_18 : decode cX6_waiting 18 = .ok (.ifCond .eq 7, 3) := by decide +kernel
theorem dX6_waiting_21 : decode cX6_waiting 21 = .ok (.iconst 1, 1) := by decide +kernel
theorem dX6_waiting_22 : decode cX6_waiting 22 = .ok (.goto 4, 3) := by decide +kernel
theorem dX6_waiting_25 : decode cX6_waiting 25 = .ok (.iconst 0, 1) := by decide +kernel
theorem dX6_waiting_26 : decode cX6_waiting 26 = .ok (.iadd, 1) := by decide +kernel
theorem dX6_waiting_27 : decode cX6_waiting 27 = .ok (.istore_n 1, 1) := by decide +kernel
theorem dX6_waiting_28 : decode cX6_waiting 28 = .ok (.iinc 2 1, 3) := by decide +kernel
theorem dX6_waiting_31 : decode cX6_waiting 31 = .ok (.goto (-27), 3) := by decide +kernel
theorem dX6_waiting_34 : decode cX6_waiting 34 = .ok (.iload_n 1, 1) := by decide +kernel
theorem dX6_waiting_35 : decode cX6_waiting 35 = .ok (.ireturn, 1) := by decide +kernel
theorem dX6_comeBack_0 : decode cX6_comeBack 0 = .ok (.aload_n 0, 1) := by decide +kernel
theorem dX6_comeBack_1 : decode cX6_comeBack 1 = .ok (.iload_n 1, 1) := by decide +kernel
theorem dX6_comeBack_2 : decode cX6_comeBack 2 = .ok (.invokevirtual 123, 3) := by decide +kernel
theorem dX6_comeBack_5 : decode cX6_comeBack 5 = .ok (.ifCond .ne 9, 3) := by decide +kernel
theorem dX6_comeBack_8 : decode cX6_comeBack 8 = .ok (.aload_n 0, 1) := by decide +kernel
theorem dX6_comeBack_9 : decode cX6_comeBack 9 = .ok (.iconst 1, 1) := by decide +kernel
theorem dX6_comeBack_10 : decode cX6_comeBack 10 = .ok (.invokevirtual 101, 3) := by decide +kernel
theorem dX6_comeBack_13 : decode cX6_comeBack 13 = .ok (.ireturn, 1) := by decide +kernel
theorem dX6_comeBack_14 : decode cX6_comeBack 14 = .ok (.aload_n 0, 1) := by decide +kernel
theorem dX6_comeBack_15 : decode cX6_comeBack 15 = .ok (.getfield 65, 3) := by decide +kernel
theorem dX6_comeBack_18 : decode cX6_comeBack 18 = .ok (.iload_n 1, 1) := by decide +kernel
theorem dX6_comeBack_19 : decode cX6_comeBack 19 = .ok (.baload, 1) := by decide +kernel
theorem dX6_comeBack_20 : decode cX6_comeBack 20 = .ok (.ifCond .ne 9, 3) := by decide +kernel
theorem dX6_comeBack_23 : decode cX6_comeBack 23 = .ok (.aload_n 0, 1) := by decide +kernel
theorem dX6_comeBack_24 : decode cX6_comeBack 24 = .ok (.iconst 2, 1) := by decide +kernel
theorem dX6_comeBack_25 : decode cX6_comeBack 25 = .ok (.invokevirtual 101, 3) := by decide +kernel
theorem dX6_comeBack_28 : decode cX6_comeBack 28 = .ok (.ireturn, 1) := by decide +kernel
theorem dX6_comeBack_29 : decode cX6_comeBack 29 = .ok (.aload_n 0, 1) := by decide +kernel
theorem dX6_comeBack_30 : decode cX6_comeBack 30 = .ok (.getfield 65, 3) := by decide +kernel
theorem dX6_comeBack_33 : decode cX6_comeBack 33 = .ok (.iload_n 1, 1) := by decide +kernel
theorem dX6_comeBack_34 : decode cX6_comeBack 34 = .ok (.iconst 0, 1) := by decide +kernel
theorem dX6_comeBack_35 : decode cX6_comeBack 35 = .ok (.bastore, 1) := by decide +kernel
theorem dX6_comeBack_36 : decode cX6_comeBack 36 = .ok (.aload_n 0, 1) := by decide +kernel
theorem dX6_comeBack_37 : decode cX6_comeBack 37 = .ok (.aload_n 0, 1) := by decide +kernel
theorem dX6_comeBack_38 : decode cX6_comeBack 38 = .ok (.invokevirtual 172, 3) := by decide +kernel
theorem dX6_comeBack_41 : decode cX6_comeBack 41 = .ok (.invokevirtual 105, 3) := by decide +kernel
theorem dX6_comeBack_44 : decode cX6_comeBack 44 = .ok (.ireturn, 1) := by decide +kernel
theorem dX6_nextWaiting_0 : decode cX6_nextWaiting 0 = .ok (.iconst (-1), 1) := by decide +kernel
theorem dX6_nextWaiting_1 : decode cX6_nextWaiting 1 = .ok (.istore_n 1, 1) := by decide +kernel
theorem dX6_nextWaiting_2 : decode cX6_nextWaiting 2 = .ok (.iconst 0, 1) := by decide +kernel
theorem dX6_nextWaiting_3 : decode cX6_nextWaiting 3 = .ok (.istore_n 2, 1) := by decide +kernel
theorem dX6_nextWaiting_4 : decode cX6_nextWaiting 4 = .ok (.iload_n 2, 1) := by decide +kernel
theorem dX6_nextWaiting_5 : decode cX6_nextWaiting 5 = .ok (.aload_n 0, 1) := by decide +kernel
theorem dX6_nextWaiting_6 : decode cX6_nextWaiting 6 = .ok (.getfield 87, 3) := by decide +kernel
theorem dX6_nextWaiting_9 : decode cX6_nextWaiting 9 = .ok (.if_icmp .ge 72, 3) := by decide +kernel
theorem dX6_nextWaiting_12 : decode cX6_nextWaiting 12 = .ok (.aload_n 0, 1) := by decide +kernel
theorem dX6_nextWaiting_13 : decode cX6_nextWaiting 13 = .ok (.iload_n 2, 1) := by decide +kernel
theorem dX6_nextWaiting_14 : decode cX6_nextWaiting 14 = .ok (.invokevirtual 169, 3) := by decide +kernel
theorem dX6_nextWaiting_17 : decode cX6_nextWaiting 17 = .ok (.ifCond .ne 6, 3) := by decide +kernel
theorem dX6_nextWaiting_20 : decode cX6_nextWaiting 20 = .ok (.goto 55, 3) := by decide +kernel
theorem dX6_nextWaiting_23 : decode cX6_nextWaiting 23 = .ok (.iload_n 1, 1) := by decide +kernel
theorem dX6_nextWaiting_24 : decode cX6_nextWaiting 24 = .ok (.iconst (-1), 1) := by decide +kernel
theorem dX6_nextWaiting_25 : decode cX6_nextWaiting 25 = .ok (.if_icmp .eq 48, 3) := by decide +kernel
theorem dX6_nextWaiting_28 : decode cX6_nextWaiting 28 = .ok (.aload_n 0, 1) := by decide +kernel
theorem dX6_nextWaiting_29 : decode cX6_nextWaiting 29 = .ok (.getfield 53, 3) := by decide +kernel
theorem dX6_nextWaiting_32 : decode cX6_nextWaiting 32 = .ok (.iload_n 2, 1) := by decide +kernel
theorem dX6_nextWaiting_33 : decode cX6_nextWaiting 33 = .ok (.iaload, 1) := by decide +kernel
theorem dX6_nextWaiting_34 : decode cX6_nextWaiting 34 = .ok (.aload_n 0, 1) := by decide +kernel
theorem dX6_nextWaiting_35 : decode cX6_nextWaiting 35 = .ok (.getfield 53, 3) := by decide +kernel
theorem dX6_nextWaiting_38 : decode cX6_nextWaiting 38 = .ok (.iload_n 1, 1) := by decide +kernel
theorem dX6_nextWaiting_39 : decode cX6_nextWaiting 39 = .ok (.iaload, 1) := by decide +kernel
theorem dX6_nextWaiting_40 : decode cX6_nextWaiting 40 = .ok (.if_icmp .gt 33, 3) := by decide +kernel
theorem dX6_nextWaiting_43 : decode cX6_nextWaiting 43 = .ok (.aload_n 0, 1) := by decide +kernel
theorem dX6_nextWaiting_44 : decode cX6_nextWaiting 44 = .ok (.getfield 53, 3) := by decide +kernel
theorem dX6_nextWaiting_47 : decode cX6_nextWaiting 47 = .ok (.iload_n 2, 1) := by decide +kernel
theorem dX6_nextWaiting_48 : decode cX6_nextWaiting 48 = .ok (.iaload, 1) := by decide +kernel
theorem dX6_nextWaiting_49 : decode cX6_nextWaiting 49 = .ok (.aload_n 0, 1) := by decide +kernel
theorem dX6_nextWaiting_50 : decode cX6_nextWaiting 50 = .ok (.getfield 53, 3) := by decide +kernel
theorem dX6_nextWaiting_53 : decode cX6_nextWaiting 53 = .ok (.iload_n 1, 1) := by decide +kernel
theorem dX6_nextWaiting_54 : decode cX6_nextWaiting 54 = .ok (.iaload, 1) := by decide +kernel
theorem dX6_nextWaiting_55 : decode cX6_nextWaiting 55 = .ok (.if_icmp .ne 20, 3) := by decide +kernel
theorem dX6_nextWaiting_58 : decode cX6_nextWaiting 58 = .ok (.aload_n 0, 1) := by decide +kernel
theorem dX6_nextWaiting_59 : decode cX6_nextWaiting 59 = .ok (.getfield 47, 3) := by decide +kernel
theorem dX6_nextWaiting_62 : decode cX6_nextWaiting 62 = .ok (.iload_n 2, 1) := by decide +kernel
theorem dX6_nextWaiting_63 : decode cX6_nextWaiting 63 = .ok (.iaload, 1) := by decide +kernel
theorem dX6_nextWaiting_64 : decode cX6_nextWaiting 64 = .ok (.aload_n 0, 1) := by decide +kernel
theorem dX6_nextWaiting_65 : decode cX6_nextWaiting 65 = .ok (.getfield 47, 3) := by decide +kernel
theorem dX6_nextWaiting_68 : decode cX6_nextWaiting 68 = .ok (.iload_n 1, 1) := by decide +kernel
theorem dX6_nextWaiting_69 : decode cX6_nextWaiting 69 = .ok (.iaload, 1) := by decide +kernel
theorem dX6_nextWaiting_70 : decode cX6_nextWaiting 70 = .ok (.if_icmp .ge 5, 3) := by decide +kernel
theorem dX6_nextWaiting_73 : decode cX6_nextWaiting 73 = .ok (.iload_n 2, 1) := by decide +kernel
theorem dX6_nextWaiting_74 : decode cX6_nextWaiting 74 = .ok (.istore_n 1, 1) := by decide +kernel
theorem dX6_nextWaiting_75 : decode cX6_nextWaiting 75 = .ok (.iinc 2 1, 3) := by decide +kernel
theorem dX6_nextWaiting_78 : decode cX6_nextWaiting 78 = .ok (.goto (-74), 3) := by decide +kernel
theorem dX6_nextWaiting_81 : decode cX6_nextWaiting 81 = .ok (.iload_n 1, 1) := by decide +kernel
theorem dX6_nextWaiting_82 : decode cX6_nextWaiting 82 = .ok (.iconst (-1), 1) := by decide +kernel
theorem dX6_nextWaiting_83 : decode cX6_nextWaiting 83 = .ok (.if_icmp .ne 11, 3) := by decide +kernel
theorem dX6_nextWaiting_86 : decode cX6_nextWaiting 86 = .ok (.aload_n 0, 1) := by decide +kernel
theorem dX6_nextWaiting_87 : decode cX6_nextWaiting 87 = .ok (.iconst 1, 1) := by decide +kernel
theorem dX6_nextWaiting_88 : decode cX6_nextWaiting 88 = .ok (.invokevirtual 101, 3) := by decide +kernel
theorem dX6_nextWaiting_91 : decode cX6_nextWaiting 91 = .ok (.goto 8, 3) := by decide +kernel
theorem dX6_nextWaiting_94 : decode cX6_nextWaiting 94 = .ok (.aload_n 0, 1) := by decide +kernel
theorem dX6_nextWaiting_95 : decode cX6_nextWaiting 95 = .ok (.iload_n 1, 1) := by decide +kernel
theorem dX6_nextWaiting_96 : decode cX6_nextWaiting 96 = .ok (.invokevirtual 105, 3) := by decide +kernel
theorem dX6_nextWaiting_99 : decode cX6_nextWaiting 99 = .ok (.ireturn, 1) := by decide +kernel
theorem dX6_state_0 : decode cX6_state 0 = .ok (.aload_n 0, 1) := by decide +kernel
theorem dX6_state_1 : decode cX6_state 1 = .ok (.aload_n 0, 1) := by decide +kernel
theorem dX6_state_2 : decode cX6_state 2 = .ok (.iload_n 1, 1) := by decide +kernel
theorem dX6_state_3 : decode cX6_state 3 = .ok (.invokevirtual 123, 3) := by decide +kernel
theorem dX6_state_6 : decode cX6_state 6 = .ok (.ifCond .eq 7, 3) := by decide +kernel
theorem dX6_state_9 : decode cX6_state 9 = .ok (.iconst 0, 1) := by decide +kernel
theorem dX6_state_10 : decode cX6_state 10 = .ok (.goto 4, 3) := by decide +kernel
theorem dX6_state_13 : decode cX6_state 13 = .ok (.iconst 1, 1) := by decide +kernel
theorem dX6_state_14 : decode cX6_state 14 = .ok (.putfield 84, 3) := by decide +kernel
theorem dX6_state_17 : decode cX6_state 17 = .ok (.aload_n 0, 1) := by decide +kernel
theorem dX6_state_18 : decode cX6_state 18 = .ok (.getfield 84, 3) := by decide +kernel
theorem dX6_state_21 : decode cX6_state 21 = .ok (.ifCond .le 8, 3) := by decide +kernel
theorem dX6_state_24 : decode cX6_state 24 = .ok (.bipush 97, 2) := by decide +kernel
theorem dX6_state_26 : decode cX6_state 26 = .ok (.goto 33, 3) := by decide +kernel
theorem dX6_state_29 : decode cX6_state 29 = .ok (.aload_n 0, 1) := by decide +kernel
theorem dX6_state_30 : decode cX6_state 30 = .ok (.iload_n 1, 1) := by decide +kernel
theorem dX6_state_31 : decode cX6_state 31 = .ok (.invokevirtual 169, 3) := by decide +kernel
theorem dX6_state_34 : decode cX6_state 34 = .ok (.ifCond .eq 8, 3) := by decide +kernel
theorem dX6_state_37 : decode cX6_state 37 = .ok (.bipush 119, 2) := by decide +kernel
theorem dX6_state_39 : decode cX6_state 39 = .ok (.goto 20, 3) := by decide +kernel
theorem dX6_state_42 : decode cX6_state 42 = .ok (.aload_n 0, 1) := by decide +kernel
theorem dX6_state_43 : decode cX6_state 43 = .ok (.getfield 62, 3) := by decide +kernel
theorem dX6_state_46 : decode cX6_state 46 = .ok (.iload_n 1, 1) := by decide +kernel
theorem dX6_state_47 : decode cX6_state 47 = .ok (.iaload, 1) := by decide +kernel
theorem dX6_state_48 : decode cX6_state 48 = .ok (.iconst (-1), 1) := by decide +kernel
theorem dX6_state_49 : decode cX6_state 49 = .ok (.if_icmp .eq 8, 3) := by decide +kernel
theorem dX6_state_52 : decode cX6_state 52 = .ok (.bipush 98, 2) := by decide +kernel
theorem dX6_state_54 : decode cX6_state 54 = .ok (.goto 5, 3) := by decide +kernel
theorem dX6_state_57 : decode cX6_state 57 = .ok (.bipush 97, 2) := by decide +kernel
theorem dX6_state_59 : decode cX6_state 59 = .ok (.ireturn, 1) := by decide +kernel
theorem dX6_berthOf_0 : decode cX6_berthOf 0 = .ok (.aload_n 0, 1) := by decide +kernel
theorem dX6_berthOf_1 : decode cX6_berthOf 1 = .ok (.iload_n 1, 1) := by decide +kernel
theorem dX6_berthOf_2 : decode cX6_berthOf 2 = .ok (.invokevirtual 123, 3) := by decide +kernel
theorem dX6_berthOf_5 : decode cX6_berthOf 5 = .ok (.ifCond .ne 9, 3) := by decide +kernel
theorem dX6_berthOf_8 : decode cX6_berthOf 8 = .ok (.aload_n 0, 1) := by decide +kernel
theorem dX6_berthOf_9 : decode cX6_berthOf 9 = .ok (.iconst 1, 1) := by decide +kernel
theorem dX6_berthOf_10 : decode cX6_berthOf 10 = .ok (.invokevirtual 101, 3) := by decide +kernel
theorem dX6_berthOf_13 : decode cX6_berthOf 13 = .ok (.ireturn, 1) := by decide +kernel
theorem dX6_berthOf_14 : decode cX6_berthOf 14 = .ok (.aload_n 0, 1) := by decide +kernel
theorem dX6_berthOf_15 : decode cX6_berthOf 15 = .ok (.getfield 62, 3) := by decide +kernel
theorem dX6_berthOf_18 : decode cX6_berthOf 18 = .ok (.iload_n 1, 1) := by decide +kernel
theorem dX6_berthOf_19 : decode cX6_berthOf 19 = .ok (.iaload, 1) := by decide +kernel
theorem dX6_berthOf_20 : decode cX6_berthOf 20 = .ok (.iconst (-1), 1) := by decide +kernel
theorem dX6_berthOf_21 : decode cX6_berthOf 21 = .ok (.if_icmp .ne 11, 3) := by decide +kernel
theorem dX6_berthOf_24 : decode cX6_berthOf 24 = .ok (.aload_n 0, 1) := by decide +kernel
theorem dX6_berthOf_25 : decode cX6_berthOf 25 = .ok (.iconst 2, 1) := by decide +kernel
theorem dX6_berthOf_26 : decode cX6_berthOf 26 = .ok (.invokevirtual 101, 3) := by decide +kernel
theorem dX6_berthOf_29 : decode cX6_berthOf 29 = .ok (.goto 13, 3) := by decide +kernel
theorem dX6_berthOf_32 : decode cX6_berthOf 32 = .ok (.aload_n 0, 1) := by decide +kernel
theorem dX6_berthOf_33 : decode cX6_berthOf 33 = .ok (.aload_n 0, 1) := by decide +kernel
theorem dX6_berthOf_34 : decode cX6_berthOf 34 = .ok (.getfield 62, 3) := by decide +kernel
theorem dX6_berthOf_37 : decode cX6_berthOf 37 = .ok (.iload_n 1, 1) := by decide +kernel
theorem dX6_berthOf_38 : decode cX6_berthOf 38 = .ok (.iaload, 1) := by decide +kernel
theorem dX6_berthOf_39 : decode cX6_berthOf 39 = .ok (.invokevirtual 105, 3) := by decide +kernel
theorem dX6_berthOf_42 : decode cX6_berthOf 42 = .ok (.ireturn, 1) := by decide +kernel
theorem dX6_boatIn_0 : decode cX6_boatIn 0 = .ok (.aload_n 0, 1) := by decide +kernel
theorem dX6_boatIn_1 : decode cX6_boatIn 1 = .ok (.iload_n 1, 1) := by decide +kernel
theorem dX6_boatIn_2 : decode cX6_boatIn 2 = .ok (.invokevirtual 97, 3) := by decide +kernel
theorem dX6_boatIn_5 : decode cX6_boatIn 5 = .ok (.ifCond .ne 9, 3) := by decide +kernel
theorem dX6_boatIn_8 : decode cX6_boatIn 8 = .ok (.aload_n 0, 1) := by decide +kernel
theorem dX6_boatIn_9 : decode cX6_boatIn 9 = .ok (.iconst 1, 1) := by decide +kernel
theorem dX6_boatIn_10 : decode cX6_boatIn 10 = .ok (.invokevirtual 101, 3) := by decide +kernel
theorem dX6_boatIn_13 : decode cX6_boatIn 13 = .ok (.ireturn, 1) := by decide +kernel
theorem dX6_boatIn_14 : decode cX6_boatIn 14 = .ok (.aload_n 0, 1) := by decide +kernel
theorem dX6_boatIn_15 : decode cX6_boatIn 15 = .ok (.iload_n 1, 1) := by decide +kernel
theorem dX6_boatIn_16 : decode cX6_boatIn 16 = .ok (.invokevirtual 134, 3) := by decide +kernel
theorem dX6_boatIn_19 : decode cX6_boatIn 19 = .ok (.iconst (-1), 1) := by decide +kernel
theorem dX6_boatIn_20 : decode cX6_boatIn 20 = .ok (.if_icmp .ne 11, 3) := by decide +kernel
theorem dX6_boatIn_23 : decode cX6_boatIn 23 = .ok (.aload_n 0, 1) := by decide +kernel
theorem dX6_boatIn_24 : decode cX6_boatIn 24 = .ok (.iconst 2, 1) := by decide +kernel
theorem dX6_boatIn_25 : decode cX6_boatIn 25 = .ok (.invokevirtual 101, 3) := by decide +kernel
theorem dX6_boatIn_28 : decode cX6_boatIn 28 = .ok (.goto 12, 3) := by decide +kernel
theorem dX6_boatIn_31 : decode cX6_boatIn 31 = .ok (.aload_n 0, 1) := by decide +kernel
theorem dX6_boatIn_32 : decode cX6_boatIn 32 = .ok (.aload_n 0, 1) := by decide +kernel
theorem dX6_boatIn_33 : decode cX6_boatIn 33 = .ok (.iload_n 1, 1) := by decide +kernel
theorem dX6_boatIn_34 : decode cX6_boatIn 34 = .ok (.invokevirtual 134, 3) := by decide +kernel
theorem dX6_boatIn_37 : decode cX6_boatIn 37 = .ok (.invokevirtual 105, 3) := by decide +kernel
theorem dX6_boatIn_40 : decode cX6_boatIn 40 = .ok (.ireturn, 1) := by decide +kernel
theorem dX6_paint_0 : decode cX6_paint 0 = .ok (.aload_n 0, 1) := by decide +kernel
theorem dX6_paint_1 : decode cX6_paint 1 = .ok (.iload_n 1, 1) := by decide +kernel
theorem dX6_paint_2 : decode cX6_paint 2 = .ok (.invokevirtual 123, 3) := by decide +kernel
theorem dX6_paint_5 : decode cX6_paint 5 = .ok (.ifCond .ne 9, 3) := by decide +kernel
theorem dX6_paint_8 : decode cX6_paint 8 = .ok (.aload_n 0, 1) := by decide +kernel
theorem dX6_paint_9 : decode cX6_paint 9 = .ok (.iconst 1, 1) := by decide +kernel
theorem dX6_paint_10 : decode cX6_paint 10 = .ok (.invokevirtual 101, 3) := by decide +kernel
theorem dX6_paint_13 : decode cX6_paint 13 = .ok (.ireturn, 1) := by decide +kernel
theorem dX6_paint_14 : decode cX6_paint 14 = .ok (.iload_n 2, 1) := by decide +kernel
theorem dX6_paint_15 : decode cX6_paint 15 = .ok (.iconst 4, 1) := by decide +kernel
theorem dX6_paint_16 : decode cX6_paint 16 = .ok (.bipush 48, 2) := by decide +kernel
theorem dX6_paint_18 : decode cX6_paint 18 = .ok (.invokestatic 90, 3) := by decide +kernel
theorem dX6_paint_21 : decode cX6_paint 21 = .ok (.ifCond .ne 9, 3) := by decide +kernel
theorem dX6_paint_24 : decode cX6_paint 24 = .ok (.aload_n 0, 1) := by decide +kernel
theorem dX6_paint_25 : decode cX6_paint 25 = .ok (.iconst 2, 1) := by decide +kernel
theorem dX6_paint_26 : decode cX6_paint 26 = .ok (.invokevirtual 101, 3) := by decide +kernel
theorem dX6_paint_29 : decode cX6_paint 29 = .ok (.ireturn, 1) := by decide +kernel
theorem dX6_paint_30 : decode cX6_paint 30 = .ok (.aload_n 0, 1) := by decide +kernel
theorem dX6_paint_31 : decode cX6_paint 31 = .ok (.getfield 62, 3) := by decide +kernel
theorem dX6_paint_34 : decode cX6_paint 34 = .ok (.iload_n 1, 1) := by decide +kernel
theorem dX6_paint_35 : decode cX6_paint 35 = .ok (.iaload, 1) := by decide +kernel
theorem dX6_paint_36 : decode cX6_paint 36 = .ok (.iconst (-1), 1) := by decide +kernel
theorem dX6_paint_37 : decode cX6_paint 37 = .ok (.if_icmp .eq 23, 3) := by decide +kernel
theorem dX6_paint_40 : decode cX6_paint 40 = .ok (.aload_n 0, 1) := by decide +kernel
theorem dX6_paint_41 : decode cX6_paint 41 = .ok (.getfield 56, 3) := by decide +kernel
theorem dX6_paint_44 : decode cX6_paint 44 = .ok (.iload_n 1, 1) := by decide +kernel
theorem dX6_paint_45 : decode cX6_paint 45 = .ok (.iaload, 1) := by decide +kernel
theorem dX6_paint_46 : decode cX6_paint 46 = .ok (.ifCond .gt 14, 3) := by decide +kernel
theorem dX6_paint_49 : decode cX6_paint 49 = .ok (.aload_n 0, 1) := by decide +kernel
theorem dX6_paint_50 : decode cX6_paint 50 = .ok (.aload_n 0, 1) := by decide +kernel
theorem dX6_paint_51 : decode cX6_paint 51 = .ok (.getfield 111, 3) := by decide +kernel
theorem dX6_paint_54 : decode cX6_paint 54 = .ok (.invokevirtual 120, 3) := by decide +kernel
theorem dX6_paint_57 : decode cX6_paint 57 = .ok (.ifCond .eq 9, 3) := by decide +kernel
theorem dX6_paint_60 : decode cX6_paint 60 = .ok (.aload_n 0, 1) := by decide +kernel
theorem dX6_paint_61 : decode cX6_paint 61 = .ok (.iconst 3, 1) := by decide +kernel
theorem dX6_paint_62 : decode cX6_paint 62 = .ok (.invokevirtual 101, 3) := by decide +kernel
theorem dX6_paint_65 : decode cX6_paint 65 = .ok (.ireturn, 1) := by decide +kernel
theorem dX6_paint_66 : decode cX6_paint 66 = .ok (.aload_n 0, 1) := by decide +kernel
theorem dX6_paint_67 : decode cX6_paint 67 = .ok (.getfield 56, 3) := by decide +kernel
theorem dX6_paint_70 : decode cX6_paint 70 = .ok (.iload_n 1, 1) := by decide +kernel
theorem dX6_paint_71 : decode cX6_paint 71 = .ok (.iload_n 2, 1) := by decide +kernel
theorem dX6_paint_72 : decode cX6_paint 72 = .ok (.iastore, 1) := by decide +kernel
theorem dX6_paint_73 : decode cX6_paint 73 = .ok (.aload_n 0, 1) := by decide +kernel
theorem dX6_paint_74 : decode cX6_paint 74 = .ok (.getfield 59, 3) := by decide +kernel
theorem dX6_paint_77 : decode cX6_paint 77 = .ok (.iload_n 1, 1) := by decide +kernel
theorem dX6_paint_78 : decode cX6_paint 78 = .ok (.dup2, 1) := by decide +kernel
theorem dX6_paint_79 : decode cX6_paint 79 = .ok (.iaload, 1) := by decide +kernel
theorem dX6_paint_80 : decode cX6_paint 80 = .ok (.iconst 1, 1) := by decide +kernel
theorem dX6_paint_81 : decode cX6_paint 81 = .ok (.iadd, 1) := by decide +kernel
theorem dX6_paint_82 : decode cX6_paint 82 = .ok (.iastore, 1) := by decide +kernel
theorem dX6_paint_83 : decode cX6_paint 83 = .ok (.aload_n 0, 1) := by decide +kernel
theorem dX6_paint_84 : decode cX6_paint 84 = .ok (.aload_n 0, 1) := by decide +kernel
theorem dX6_paint_85 : decode cX6_paint 85 = .ok (.getfield 59, 3) := by decide +kernel
theorem dX6_paint_88 : decode cX6_paint 88 = .ok (.iload_n 1, 1) := by decide +kernel
theorem dX6_paint_89 : decode cX6_paint 89 = .ok (.iaload, 1) := by decide +kernel
theorem dX6_paint_90 : decode cX6_paint 90 = .ok (.invokevirtual 105, 3) := by decide +kernel
theorem dX6_paint_93 : decode cX6_paint 93 = .ok (.ireturn, 1) := by decide +kernel
theorem dX6_dryLeft_0 : decode cX6_dryLeft 0 = .ok (.aload_n 0, 1) := by decide +kernel
theorem dX6_dryLeft_1 : decode cX6_dryLeft 1 = .ok (.iload_n 1, 1) := by decide +kernel
theorem dX6_dryLeft_2 : decode cX6_dryLeft 2 = .ok (.invokevirtual 123, 3) := by decide +kernel
theorem dX6_dryLeft_5 : decode cX6_dryLeft 5 = .ok (.ifCond .eq 16, 3) := by decide +kernel
theorem dX6_dryLeft_8 : decode cX6_dryLeft 8 = .ok (.aload_n 0, 1) := by decide +kernel
theorem dX6_dryLeft_9 : decode cX6_dryLeft 9 = .ok (.aload_n 0, 1) := by decide +kernel
theorem dX6_dryLeft_10 : decode cX6_dryLeft 10 = .ok (.getfield 56, 3) := by decide +kernel
theorem dX6_dryLeft_13 : decode cX6_dryLeft 13 = .ok (.iload_n 1, 1) := by decide +kernel
theorem dX6_dryLeft_14 : decode cX6_dryLeft 14 = .ok (.iaload, 1) := by decide +kernel
theorem dX6_dryLeft_15 : decode cX6_dryLeft 15 = .ok (.invokevirtual 105, 3) := by decide +kernel
theorem dX6_dryLeft_18 : decode cX6_dryLeft 18 = .ok (.goto 8, 3) := by decide +kernel
theorem dX6_dryLeft_21 : decode cX6_dryLeft 21 = .ok (.aload_n 0, 1) := by decide +kernel
theorem dX6_dryLeft_22 : decode cX6_dryLeft 22 = .ok (.iconst 1, 1) := by decide +kernel
theorem dX6_dryLeft_23 : decode cX6_dryLeft 23 = .ok (.invokevirtual 101, 3) := by decide +kernel
theorem dX6_dryLeft_26 : decode cX6_dryLeft 26 = .ok (.ireturn, 1) := by decide +kernel
theorem dX6_driesAt_0 : decode cX6_driesAt 0 = .ok (.aload_n 0, 1) := by decide +kernel
theorem dX6_driesAt_1 : decode cX6_driesAt 1 = .ok (.getfield 111, 3) := by decide +kernel
theorem dX6_driesAt_4 : decode cX6_driesAt 4 = .ok (.istore_n 2, 1) := by decide +kernel
theorem dX6_driesAt_5 : decode cX6_driesAt 5 = .ok (.aload_n 0, 1) := by decide +kernel
theorem dX6_driesAt_6 : decode cX6_driesAt 6 = .ok (.getfield 56, 3) := by decide +kernel
theorem dX6_driesAt_9 : decode cX6_driesAt 9 = .ok (.iload_n 1, 1) := by decide +kernel
theorem dX6_driesAt_10 : decode cX6_driesAt 10 = .ok (.iaload, 1) := by decide +kernel
theorem dX6_driesAt_11 : decode cX6_driesAt 11 = .ok (.istore_n 3, 1) := by decide +kernel
theorem dX6_driesAt_12 : decode cX6_driesAt 12 = .ok (.iload_n 3, 1) := by decide +kernel
theorem dX6_driesAt_13 : decode cX6_driesAt 13 = .ok (.ifCond .le 25, 3) := by decide +kernel
theorem dX6_driesAt_16 : decode cX6_driesAt 16 = .ok (.iload_n 3, 1) := by decide +kernel
theorem dX6_driesAt_17 : decode cX6_driesAt 17 = .ok (.aload_n 0, 1) := by decide +kernel
theorem dX6_driesAt_18 : decode cX6_driesAt 18 = .ok (.iload_n 2, 1) := by decide +kernel
theorem dX6_driesAt_19 : decode cX6_driesAt 19 = .ok (.invokevirtual 120, 3) := by decide +kernel
theorem dX6_driesAt_22 : decode cX6_driesAt 22 = .ok (.ifCond .eq 7, 3) := by decide +kernel
theorem dX6_driesAt_25 : decode cX6_driesAt 25 = .ok (.iconst 0, 1) := by decide +kernel
theorem dX6_driesAt_26 : decode cX6_driesAt 26 = .ok (.goto 4, 3) := by decide +kernel
theorem dX6_driesAt_29 : decode cX6_driesAt 29 = .ok (.iconst 1, 1) := by decide +kernel
theorem dX6_driesAt_30 : decode cX6_driesAt 30 = .ok (.isub, 1) := by decide +kernel
theorem dX6_driesAt_31 : decode cX6_driesAt 31 = .ok (.istore_n 3, 1) := by decide +kernel
theorem dX6_driesAt_32 : decode cX6_driesAt 32 = .ok (.iinc 2 1, 3) := by decide +kernel
theorem dX6_driesAt_35 : decode cX6_driesAt 35 = .ok (.goto (-23), 3) := by decide +kernel
theorem dX6_driesAt_38 : decode cX6_driesAt 38 = .ok (.iload_n 2, 1) := by decide +kernel
theorem dX6_driesAt_39 : decode cX6_driesAt 39 = .ok (.ireturn, 1) := by decide +kernel
theorem dX6_dryAt_0 : decode cX6_dryAt 0 = .ok (.aload_n 0, 1) := by decide +kernel
theorem dX6_dryAt_1 : decode cX6_dryAt 1 = .ok (.iload_n 1, 1) := by decide +kernel
theorem dX6_dryAt_2 : decode cX6_dryAt 2 = .ok (.invokevirtual 123, 3) := by decide +kernel
theorem dX6_dryAt_5 : decode cX6_dryAt 5 = .ok (.ifCond .eq 15, 3) := by decide +kernel
theorem dX6_dryAt_8 : decode cX6_dryAt 8 = .ok (.aload_n 0, 1) := by decide +kernel
theorem dX6_dryAt_9 : decode cX6_dryAt 9 = .ok (.aload_n 0, 1) := by decide +kernel
theorem dX6_dryAt_10 : decode cX6_dryAt 10 = .ok (.iload_n 1, 1) := by decide +kernel
theorem dX6_dryAt_11 : decode cX6_dryAt 11 = .ok (.invokevirtual 176, 3) := by decide +kernel
theorem dX6_dryAt_14 : decode cX6_dryAt 14 = .ok (.invokevirtual 105, 3) := by decide +kernel
theorem dX6_dryAt_17 : decode cX6_dryAt 17 = .ok (.goto 8, 3) := by decide +kernel
theorem dX6_dryAt_20 : decode cX6_dryAt 20 = .ok (.aload_n 0, 1) := by decide +kernel
theorem dX6_dryAt_21 : decode cX6_dryAt 21 = .ok (.iconst 1, 1) := by decide +kernel
theorem dX6_dryAt_22 : decode cX6_dryAt 22 = .ok (.invokevirtual 101, 3) := by decide +kernel
theorem dX6_dryAt_25 : decode cX6_dryAt 25 = .ok (.ireturn, 1) := by decide +kernel
theorem dX6_dryByHours_0 : decode cX6_dryByHours 0 = .ok (.aload_n 0, 1) := by decide +kernel
theorem dX6_dryByHours_1 : decode cX6_dryByHours 1 = .ok (.iload_n 1, 1) := by decide +kernel
theorem dX6_dryByHours_2 : decode cX6_dryByHours 2 = .ok (.invokevirtual 123, 3) := by decide +kernel
theorem dX6_dryByHours_5 : decode cX6_dryByHours 5 = .ok (.ifCond .eq 15, 3) := by decide +kernel
theorem dX6_dryByHours_8 : decode cX6_dryByHours 8 = .ok (.aload_n 0, 1) := by decide +kernel
theorem dX6_dryByHours_9 : decode cX6_dryByHours 9 = .ok (.aload_n 0, 1) := by decide +kernel
theorem dX6_dryByHours_10 : decode cX6_dryByHours 10 = .ok (.iload_n 1, 1) := by decide +kernel
theorem dX6_dryByHours_11 : decode cX6_dryByHours 11 = .ok (.invokevirtual 176, 3) := by decide +kernel
theorem dX6_dryByHours_14 : decode cX6_dryByHours 14 = .ok (.invokevirtual 105, 3) := by decide +kernel
theorem dX6_dryByHours_17 : decode cX6_dryByHours 17 = .ok (.goto 8, 3) := by decide +kernel
theorem dX6_dryByHours_20 : decode cX6_dryByHours 20 = .ok (.aload_n 0, 1) := by decide +kernel
theorem dX6_dryByHours_21 : decode cX6_dryByHours 21 = .ok (.iconst 1, 1) := by decide +kernel
theorem dX6_dryByHours_22 : decode cX6_dryByHours 22 = .ok (.invokevirtual 101, 3) := by decide +kernel
theorem dX6_dryByHours_25 : decode cX6_dryByHours 25 = .ok (.ireturn, 1) := by decide +kernel
theorem dX6_pass_0 : decode cX6_pass 0 = .ok (.iload_n 1, 1) := by decide +kernel
theorem dX6_pass_1 : decode cX6_pass 1 = .ok (.iconst 1, 1) := by decide +kernel
theorem dX6_pass_2 : decode cX6_pass 2 = .ok (.sipush 336, 3) := by decide +kernel
theorem dX6_pass_5 : decode cX6_pass 5 = .ok (.invokestatic 90, 3) := by decide +kernel
theorem dX6_pass_8 : decode cX6_pass 8 = .ok (.ifCond .eq 15, 3) := by decide +kernel
theorem dX6_pass_11 : decode cX6_pass 11 = .ok (.aload_n 0, 1) := by decide +kernel
theorem dX6_pass_12 : decode cX6_pass 12 = .ok (.getfield 111, 3) := by decide +kernel
theorem dX6_pass_15 : decode cX6_pass 15 = .ok (.iload_n 1, 1) := by decide +kernel
theorem dX6_pass_16 : decode cX6_pass 16 = .ok (.iadd, 1) := by decide +kernel
theorem dX6_pass_17 : decode cX6_pass 17 = .ok (.sipush 9999, 3) := by decide +kernel
theorem dX6_pass_20 : decode cX6_pass 20 = .ok (.if_icmp .le 9, 3) := by decide +kernel
theorem dX6_pass_23 : decode cX6_pass 23 = .ok (.aload_n 0, 1) := by decide +kernel
theorem dX6_pass_24 : decode cX6_pass 24 = .ok (.iconst 1, 1) := by decide +kernel
theorem dX6_pass_25 : decode cX6_pass 25 = .ok (.invokevirtual 101, 3) := by decide +kernel
theorem dX6_pass_28 : decode cX6_pass 28 = .ok (.ireturn, 1) := by decide +kernel
theorem dX6_pass_29 : decode cX6_pass 29 = .ok (.iconst 0, 1) := by decide +kernel
theorem dX6_pass_30 : decode cX6_pass 30 = .ok (.istore_n 2, 1) := by decide +kernel
theorem dX6_pass_31 : decode cX6_pass 31 = .ok (.iload_n 2, 1) := by decide +kernel
theorem dX6_pass_32 : decode cX6_pass 32 = .ok (.iload_n 1, 1) := by decide +kernel
theorem dX6_pass_33 : decode cX6_pass 33 = .ok (.if_icmp .ge 75, 3) := by decide +kernel
theorem dX6_pass_36 : decode cX6_pass 36 = .ok (.aload_n 0, 1) := by decide +kernel
theorem dX6_pass_37 : decode cX6_pass 37 = .ok (.aload_n 0, 1) := by decide +kernel
theorem dX6_pass_38 : decode cX6_pass 38 = .ok (.getfield 111, 3) := by decide +kernel
theorem dX6_pass_41 : decode cX6_pass 41 = .ok (.invokevirtual 120, 3) := by decide +kernel
theorem dX6_pass_44 : decode cX6_pass 44 = .ok (.istore_n 3, 1) := by decide +kernel
theorem dX6_pass_45 : decode cX6_pass 45 = .ok (.iconst 0, 1) := by decide +kernel
theorem dX6_pass_46 : decode cX6_pass 46 = .ok (.istore 4, 2) := by decide +kernel
theorem dX6_pass_48 : decode cX6_pass 48 = .ok (.iload 4, 2) := by decide +kernel
theorem dX6_pass_50 : decode cX6_pass 50 = .ok (.aload_n 0, 1) := by decide +kernel
theorem dX6_pass_51 : decode cX6_pass 51 = .ok (.getfield 87, 3) := by decide +kernel
theorem dX6_pass_54 : decode cX6_pass 54 = .ok (.if_icmp .ge 38, 3) := by decide +kernel
theorem dX6_pass_57 : decode cX6_pass 57 = .ok (.iload_n 3, 1) := by decide +kernel
theorem dX6_pass_58 : decode cX6_pass 58 = .ok (.ifCond .ne 34, 3) := by decide +kernel
theorem dX6_pass_61 : decode cX6_pass 61 = .ok (.aload_n 0, 1) := by decide +kernel
theorem dX6_pass_62 : decode cX6_pass 62 = .ok (.getfield 56, 3) := by decide +kernel
theorem dX6_pass_65 : decode cX6_pass 65 = .ok (.iload 4, 2) := by decide +kernel
theorem dX6_pass_67 : decode cX6_pass 67 = .ok (.dup2, 1) := by decide +kernel
theorem dX6_pass_68 : decode cX6_pass 68 = .ok (.iaload, 1) := by decide +kernel
theorem dX6_pass_69 : decode cX6_pass 69 = .ok (.aload_n 0, 1) := by decide +kernel
theorem dX6_pass_70 : decode cX6_pass 70 = .ok (.getfield 56, 3) := by decide +kernel
theorem dX6_pass_73 : decode cX6_pass 73 = .ok (.iload 4, 2) := by decide +kernel
theorem dX6_pass_75 : decode cX6_pass 75 = .ok (.iaload, 1) := by decide +kernel
theorem dX6_pass_76 : decode cX6_pass 76 = .ok (.ifCond .le 7, 3) := by decide +kernel
theorem dX6_pass_79 : decode cX6_pass 79 = .ok (.iconst 1, 1) := by decide +kernel
theorem dX6_pass_80 : decode cX6_pass 80 = .ok (.goto 4, 3) := by decide +kernel
theorem dX6_pass_83 : decode cX6_pass 83 = .ok (.iconst 0, 1) := by decide +kernel
theorem dX6_pass_84 : decode cX6_pass 84 = .ok (.isub, 1) := by decide +kernel
theorem dX6_pass_85 : decode cX6_pass 85 = .ok (.iastore, 1) := by decide +kernel
theorem dX6_pass_86 : decode cX6_pass 86 = .ok (.iinc 4 1, 3) := by decide +kernel
theorem dX6_pass_89 : decode cX6_pass 89 = .ok (.goto (-41), 3) := by decide +kernel
theorem dX6_pass_92 : decode cX6_pass 92 = .ok (.aload_n 0, 1) := by decide +kernel
theorem dX6_pass_93 : decode cX6_pass 93 = .ok (.dup, 1) := by decide +kernel
theorem dX6_pass_94 : decode cX6_pass 94 = .ok (.getfield 111, 3) := by decide +kernel
theorem dX6_pass_97 : decode cX6_pass 97 = .ok (.iconst 1, 1) := by decide +kernel
theorem dX6_pass_98 : decode cX6_pass 98 = .ok (.iadd, 1) := by decide +kernel
theorem dX6_pass_99 : decode cX6_pass 99 = .ok (.putfield 111, 3) := by decide +kernel
theorem dX6_pass_102 : decode cX6_pass 102 = .ok (.iinc 2 1, 3) := by decide +kernel
theorem dX6_pass_105 : decode cX6_pass 105 = .ok (.goto (-74), 3) := by decide +kernel
theorem dX6_pass_108 : decode cX6_pass 108 = .ok (.aload_n 0, 1) := by decide +kernel
theorem dX6_pass_109 : decode cX6_pass 109 = .ok (.aload_n 0, 1) := by decide +kernel
theorem dX6_pass_110 : decode cX6_pass 110 = .ok (.getfield 111, 3) := by decide +kernel
theorem dX6_pass_113 : decode cX6_pass 113 = .ok (.invokevirtual 105, 3) := by decide +kernel
theorem dX6_pass_116 : decode cX6_pass 116 = .ok (.ireturn, 1) := by decide +kernel
theorem dX6_time_0 : decode cX6_time 0 = .ok (.aload_n 0, 1) := by decide +kernel
theorem dX6_time_1 : decode cX6_time 1 = .ok (.aload_n 0, 1) := by decide +kernel
theorem dX6_time_2 : decode cX6_time 2 = .ok (.getfield 111, 3) := by decide +kernel
theorem dX6_time_5 : decode cX6_time 5 = .ok (.invokevirtual 105, 3) := by decide +kernel
theorem dX6_time_8 : decode cX6_time 8 = .ok (.ireturn, 1) := by decide +kernel
theorem dX6_codeNow_0 : decode cX6_codeNow 0 = .ok (.iconst 0, 1) := by decide +kernel
theorem dX6_codeNow_1 : decode cX6_codeNow 1 = .ok (.istore_n 1, 1) := by decide +kernel
theorem dX6_codeNow_2 : decode cX6_codeNow 2 = .ok (.iconst 0, 1) := by decide +kernel
theorem dX6_codeNow_3 : decode cX6_codeNow 3 = .ok (.istore_n 2, 1) := by decide +kernel
theorem dX6_codeNow_4 : decode cX6_codeNow 4 = .ok (.iload_n 2, 1) := by decide +kernel
theorem dX6_codeNow_5 : decode cX6_codeNow 5 = .ok (.bipush 6, 2) := by decide +kernel
theorem dX6_codeNow_7 : decode cX6_codeNow 7 = .ok (.if_icmp .ge 34, 3) := by decide +kernel
theorem dX6_codeNow_10 : decode cX6_codeNow 10 = .ok (.bipush 9, 2) := by decide +kernel
theorem dX6_codeNow_12 : decode cX6_codeNow 12 = .ok (.iload_n 1, 1) := by decide +kernel
theorem dX6_codeNow_13 : decode cX6_codeNow 13 = .ok (.imul, 1) := by decide +kernel
theorem dX6_codeNow_14 : decode cX6_codeNow 14 = .ok (.iload_n 2, 1) := by decide +kernel
theorem dX6_codeNow_15 : decode cX6_codeNow 15 = .ok (.aload_n 0, 1) := by decide +kernel
theorem dX6_codeNow_16 : decode cX6_codeNow 16 = .ok (.getfield 94, 3) := by decide +kernel
theorem dX6_codeNow_19 : decode cX6_codeNow 19 = .ok (.if_icmp .ge 13, 3) := by decide +kernel
theorem dX6_codeNow_22 : decode cX6_codeNow 22 = .ok (.aload_n 0, 1) := by decide +kernel
theorem dX6_codeNow_23 : decode cX6_codeNow 23 = .ok (.iload_n 2, 1) := by decide +kernel
theorem dX6_codeNow_24 : decode cX6_codeNow 24 = .ok (.invokevirtual 134, 3) := by decide +kernel
theorem dX6_codeNow_27 : decode cX6_codeNow 27 = .ok (.iconst 1, 1) := by decide +kernel
theorem dX6_codeNow_28 : decode cX6_codeNow 28 = .ok (.iadd, 1) := by decide +kernel
theorem dX6_codeNow_29 : decode cX6_codeNow 29 = .ok (.goto 4, 3) := by decide +kernel
theorem dX6_codeNow_32 : decode cX6_codeNow 32 = .ok (.iconst 0, 1) := by decide +kernel
theorem dX6_codeNow_33 : decode cX6_codeNow 33 = .ok (.iadd, 1) := by decide +kernel
theorem dX6_codeNow_34 : decode cX6_codeNow 34 = .ok (.istore_n 1, 1) := by decide +kernel
theorem dX6_codeNow_35 : decode cX6_codeNow 35 = .ok (.iinc 2 1, 3) := by decide +kernel
theorem dX6_codeNow_38 : decode cX6_codeNow 38 = .ok (.goto (-34), 3) := by decide +kernel
theorem dX6_codeNow_41 : decode cX6_codeNow 41 = .ok (.iload_n 1, 1) := by decide +kernel
theorem dX6_codeNow_42 : decode cX6_codeNow 42 = .ok (.ireturn, 1) := by decide +kernel
theorem dX6_arranges_0 : decode cX6_arranges 0 = .ok (.iload_n 1, 1) := by decide +kernel
theorem dX6_arranges_1 : decode cX6_arranges 1 = .ok (.istore_n 2, 1) := by decide +kernel
theorem dX6_arranges_2 : decode cX6_arranges 2 = .ok (.iconst 0, 1) := by decide +kernel
theorem dX6_arranges_3 : decode cX6_arranges 3 = .ok (.istore_n 3, 1) := by decide +kernel
theorem dX6_arranges_4 : decode cX6_arranges 4 = .ok (.iload_n 3, 1) := by decide +kernel
theorem dX6_arranges_5 : decode cX6_arranges 5 = .ok (.aload_n 0, 1) := by decide +kernel
theorem dX6_arranges_6 : decode cX6_arranges 6 = .ok (.getfield 87, 3) := by decide +kernel
theorem dX6_arranges_9 : decode cX6_arranges 9 = .ok (.if_icmp .ge 16, 3) := by decide +kernel
theorem dX6_arranges_12 : decode cX6_arranges 12 = .ok (.aload_n 0, 1) := by decide +kernel
theorem dX6_arranges_13 : decode cX6_arranges 13 = .ok (.getfield 62, 3) := by decide +kernel
theorem dX6_arranges_16 : decode cX6_arranges 16 = .ok (.iload_n 3, 1) := by decide +kernel
theorem dX6_arranges_17 : decode cX6_arranges 17 = .ok (.iconst (-1), 1) := by decide +kernel
theorem dX6_arranges_18 : decode cX6_arranges 18 = .ok (.iastore, 1) := by decide +kernel
theorem dX6_arranges_19 : decode cX6_arranges 19 = .ok (.iinc 3 1, 3) := by decide +kernel
theorem dX6_arranges_22 : decode cX6_arranges 22 = .ok (.goto (-18), 3) := by decide +kernel
theorem dX6_arranges_25 : decode cX6_arranges 25 = .ok (.iconst 5, 1) := by decide +kernel
theorem dX6_arranges_26 : decode cX6_arranges 26 = .ok (.istore_n 3, 1) := by decide +kernel
theorem dX6_arranges_27 : decode cX6_arranges 27 = .ok (.iload_n 3, 1) := by decide +kernel
theorem dX6_arranges_28 : decode cX6_arranges 28 = .ok (.ifCond .lt 33, 3) := by decide +kernel
theorem dX6_arranges_31 : decode cX6_arranges 31 = .ok (.iload_n 2, 1) := by decide +kernel
theorem dX6_arranges_32 : decode cX6_arranges 32 = .ok (.bipush 9, 2) := by decide +kernel
theorem dX6_arranges_34 : decode cX6_arranges 34 = .ok (.irem, 1) := by decide +kernel
theorem dX6_arranges_35 : decode cX6_arranges 35 = .ok (.ifCond .le 15, 3) := by decide +kernel
theorem dX6_arranges_38 : decode cX6_arranges 38 = .ok (.aload_n 0, 1) := by decide +kernel
theorem dX6_arranges_39 : decode cX6_arranges 39 = .ok (.getfield 62, 3) := by decide +kernel
theorem dX6_arranges_42 : decode cX6_arranges 42 = .ok (.iload_n 2, 1) := by decide +kernel
theorem dX6_arranges_43 : decode cX6_arranges 43 = .ok (.bipush 9, 2) := by decide +kernel
theorem dX6_arranges_45 : decode cX6_arranges 45 = .ok (.irem, 1) := by decide +kernel
theorem dX6_arranges_46 : decode cX6_arranges 46 = .ok (.iconst 1, 1) := by decide +kernel
theorem dX6_arranges_47 : decode cX6_arranges 47 = .ok (.isub, 1) := by decide +kernel
theorem dX6_arranges_48 : decode cX6_arranges 48 = .ok (.iload_n 3, 1) := by decide +kernel
theorem dX6_arranges_49 : decode cX6_arranges 49 = .ok (.iastore, 1) := by decide +kernel
theorem dX6_arranges_50 : decode cX6_arranges 50 = .ok (.iload_n 2, 1) := by decide +kernel
theorem dX6_arranges_51 : decode cX6_arranges 51 = .ok (.bipush 9, 2) := by decide +kernel
theorem dX6_arranges_53 : decode cX6_arranges 53 = .ok (.idiv, 1) := by decide +kernel
theorem dX6_arranges_54 : decode cX6_arranges 54 = .ok (.istore_n 2, 1) := by decide +kernel
theorem dX6_arranges_55 : decode cX6_arranges 55 = .ok (.iinc 3 (-1), 3) := by decide +kernel
theorem dX6_arranges_58 : decode cX6_arranges 58 = .ok (.goto (-31), 3) := by decide +kernel
theorem dX6_arranges_61 : decode cX6_arranges 61 = .ok (.return_, 1) := by decide +kernel
theorem dX6_meets_0 : decode cX6_meets 0 = .ok (.iload_n 1, 1) := by decide +kernel
theorem dX6_meets_1 : decode cX6_meets 1 = .ok (.sipush 7919, 3) := by decide +kernel
theorem dX6_meets_4 : decode cX6_meets 4 = .ok (.imul, 1) := by decide +kernel
theorem dX6_meets_5 : decode cX6_meets 5 = .ok (.sipush 2048, 3) := by decide +kernel
theorem dX6_meets_8 : decode cX6_meets 8 = .ok (.irem, 1) := by decide +kernel
theorem dX6_meets_9 : decode cX6_meets 9 = .ok (.istore_n 3, 1) := by decide +kernel
theorem dX6_meets_10 : decode cX6_meets 10 = .ok (.iload_n 3, 1) := by decide +kernel
theorem dX6_meets_11 : decode cX6_meets 11 = .ok (.ifCond .ge 11, 3) := by decide +kernel
theorem dX6_meets_14 : decode cX6_meets 14 = .ok (.iload_n 3, 1) := by decide +kernel
theorem dX6_meets_15 : decode cX6_meets 15 = .ok (.sipush 2048, 3) := by decide +kernel
theorem dX6_meets_18 : decode cX6_meets 18 = .ok (.iadd, 1) := by decide +kernel
theorem dX6_meets_19 : decode cX6_meets 19 = .ok (.goto 4, 3) := by decide +kernel
theorem dX6_meets_22 : decode cX6_meets 22 = .ok (.iload_n 3, 1) := by decide +kernel
theorem dX6_meets_23 : decode cX6_meets 23 = .ok (.istore_n 3, 1) := by decide +kernel
theorem dX6_meets_24 : decode cX6_meets 24 = .ok (.aload_n 0, 1) := by decide +kernel
theorem dX6_meets_25 : decode cX6_meets 25 = .ok (.getfield 75, 3) := by decide +kernel
theorem dX6_meets_28 : decode cX6_meets 28 = .ok (.iload_n 3, 1) := by decide +kernel
theorem dX6_meets_29 : decode cX6_meets 29 = .ok (.iaload, 1) := by decide +kernel
theorem dX6_meets_30 : decode cX6_meets 30 = .ok (.ifCond .le 31, 3) := by decide +kernel
theorem dX6_meets_33 : decode cX6_meets 33 = .ok (.aload_n 0, 1) := by decide +kernel
theorem dX6_meets_34 : decode cX6_meets 34 = .ok (.getfield 69, 3) := by decide +kernel
theorem dX6_meets_37 : decode cX6_meets 37 = .ok (.aload_n 0, 1) := by decide +kernel
theorem dX6_meets_38 : decode cX6_meets 38 = .ok (.getfield 75, 3) := by decide +kernel
theorem dX6_meets_41 : decode cX6_meets 41 = .ok (.iload_n 3, 1) := by decide +kernel
theorem dX6_meets_42 : decode cX6_meets 42 = .ok (.iaload, 1) := by decide +kernel
theorem dX6_meets_43 : decode cX6_meets 43 = .ok (.iconst 1, 1) := by decide +kernel
theorem dX6_meets_44 : decode cX6_meets 44 = .ok (.isub, 1) := by decide +kernel
theorem dX6_meets_45 : decode cX6_meets 45 = .ok (.iaload, 1) := by decide +kernel
theorem dX6_meets_46 : decode cX6_meets 46 = .ok (.iload_n 1, 1) := by decide +kernel
theorem dX6_meets_47 : decode cX6_meets 47 = .ok (.if_icmp .eq 14, 3) := by decide +kernel
theorem dX6_meets_50 : decode cX6_meets 50 = .ok (.iload_n 3, 1) := by decide +kernel
theorem dX6_meets_51 : decode cX6_meets 51 = .ok (.iconst 1, 1) := by decide +kernel
theorem dX6_meets_52 : decode cX6_meets 52 = .ok (.iadd, 1) := by decide +kernel
theorem dX6_meets_53 : decode cX6_meets 53 = .ok (.sipush 2048, 3) := by decide +kernel
theorem dX6_meets_56 : decode cX6_meets 56 = .ok (.irem, 1) := by decide +kernel
theorem dX6_meets_57 : decode cX6_meets 57 = .ok (.istore_n 3, 1) := by decide +kernel
theorem dX6_meets_58 : decode cX6_meets 58 = .ok (.goto (-34), 3) := by decide +kernel
theorem dX6_meets_61 : decode cX6_meets 61 = .ok (.aload_n 0, 1) := by decide +kernel
theorem dX6_meets_62 : decode cX6_meets 62 = .ok (.getfield 75, 3) := by decide +kernel
theorem dX6_meets_65 : decode cX6_meets 65 = .ok (.iload_n 3, 1) := by decide +kernel
theorem dX6_meets_66 : decode cX6_meets 66 = .ok (.iaload, 1) := by decide +kernel
theorem dX6_meets_67 : decode cX6_meets 67 = .ok (.ifCond .ne 56, 3) := by decide +kernel
theorem dX6_meets_70 : decode cX6_meets 70 = .ok (.aload_n 0, 1) := by decide +kernel
theorem dX6_meets_71 : decode cX6_meets 71 = .ok (.getfield 69, 3) := by decide +kernel
theorem dX6_meets_74 : decode cX6_meets 74 = .ok (.aload_n 0, 1) := by decide +kernel
theorem dX6_meets_75 : decode cX6_meets 75 = .ok (.getfield 179, 3) := by decide +kernel
theorem dX6_meets_78 : decode cX6_meets 78 = .ok (.iload_n 1, 1) := by decide +kernel
theorem dX6_meets_79 : decode cX6_meets 79 = .ok (.iastore, 1) := by decide +kernel
theorem dX6_meets_80 : decode cX6_meets 80 = .ok (.aload_n 0, 1) := by decide +kernel
theorem dX6_meets_81 : decode cX6_meets 81 = .ok (.getfield 72, 3) := by decide +kernel
theorem dX6_meets_84 : decode cX6_meets 84 = .ok (.aload_n 0, 1) := by decide +kernel
theorem dX6_meets_85 : decode cX6_meets 85 = .ok (.getfield 179, 3) := by decide +kernel
theorem dX6_meets_88 : decode cX6_meets 88 = .ok (.iload_n 2, 1) := by decide +kernel
theorem dX6_meets_89 : decode cX6_meets 89 = .ok (.iastore, 1) := by decide +kernel
theorem dX6_meets_90 : decode cX6_meets 90 = .ok (.aload_n 0, 1) := by decide +kernel
theorem dX6_meets_91 : decode cX6_meets 91 = .ok (.getfield 81, 3) := by decide +kernel
theorem dX6_meets_94 : decode cX6_meets 94 = .ok (.aload_n 0, 1) := by decide +kernel
theorem dX6_meets_95 : decode cX6_meets 95 = .ok (.getfield 179, 3) := by decide +kernel
theorem dX6_meets_98 : decode cX6_meets 98 = .ok (.iconst 0, 1) := by decide +kernel
theorem dX6_meets_99 : decode cX6_meets 99 = .ok (.bastore, 1) := by decide +kernel
theorem dX6_meets_100 : decode cX6_meets 100 = .ok (.aload_n 0, 1) := by decide +kernel
theorem dX6_meets_101 : decode cX6_meets 101 = .ok (.dup, 1) := by decide +kernel
theorem dX6_meets_102 : decode cX6_meets 102 = .ok (.getfield 179, 3) := by decide +kernel
theorem dX6_meets_105 : decode cX6_meets 105 = .ok (.iconst 1, 1) := by decide +kernel
theorem dX6_meets_106 : decode cX6_meets 106 = .ok (.iadd, 1) := by decide +kernel
theorem dX6_meets_107 : decode cX6_meets 107 = .ok (.putfield 179, 3) := by decide +kernel
theorem dX6_meets_110 : decode cX6_meets 110 = .ok (.aload_n 0, 1) := by decide +kernel
theorem dX6_meets_111 : decode cX6_meets 111 = .ok (.getfield 75, 3) := by decide +kernel
theorem dX6_meets_114 : decode cX6_meets 114 = .ok (.iload_n 3, 1) := by decide +kernel
theorem dX6_meets_115 : decode cX6_meets 115 = .ok (.aload_n 0, 1) := by decide +kernel
theorem dX6_meets_116 : decode cX6_meets 116 = .ok (.getfield 179, 3) := by decide +kernel
theorem dX6_meets_119 : decode cX6_meets 119 = .ok (.iastore, 1) := by decide +kernel
theorem dX6_meets_120 : decode cX6_meets 120 = .ok (.goto 34, 3) := by decide +kernel
theorem dX6_meets_123 : decode cX6_meets 123 = .ok (.iload_n 2, 1) := by decide +kernel
theorem dX6_meets_124 : decode cX6_meets 124 = .ok (.aload_n 0, 1) := by decide +kernel
theorem dX6_meets_125 : decode cX6_meets 125 = .ok (.getfield 72, 3) := by decide +kernel
theorem dX6_meets_128 : decode cX6_meets 128 = .ok (.aload_n 0, 1) := by decide +kernel
theorem dX6_meets_129 : decode cX6_meets 129 = .ok (.getfield 75, 3) := by decide +kernel
theorem dX6_meets_132 : decode cX6_meets 132 = .ok (.iload_n 3, 1) := by decide +kernel
theorem dX6_meets_133 : decode cX6_meets 133 = .ok (.iaload, 1) := by decide +kernel
theorem dX6_meets_134 : decode cX6_meets 134 = .ok (.iconst 1, 1) := by decide +kernel
theorem dX6_meets_135 : decode cX6_meets 135 = .ok (.isub, 1) := by decide +kernel
theorem dX6_meets_136 : decode cX6_meets 136 = .ok (.iaload, 1) := by decide +kernel
theorem dX6_meets_137 : decode cX6_meets 137 = .ok (.if_icmp .ge 17, 3) := by decide +kernel
theorem dX6_meets_140 : decode cX6_meets 140 = .ok (.aload_n 0, 1) := by decide +kernel
theorem dX6_meets_141 : decode cX6_meets 141 = .ok (.getfield 72, 3) := by decide +kernel
theorem dX6_meets_144 : decode cX6_meets 144 = .ok (.aload_n 0, 1) := by decide +kernel
theorem dX6_meets_145 : decode cX6_meets 145 = .ok (.getfield 75, 3) := by decide +kernel
theorem dX6_meets_148 : decode cX6_meets 148 = .ok (.iload_n 3, 1) := by decide +kernel
theorem dX6_meets_149 : decode cX6_meets 149 = .ok (.iaload, 1) := by decide +kernel
theorem dX6_meets_150 : decode cX6_meets 150 = .ok (.iconst 1, 1) := by decide +kernel
theorem dX6_meets_151 : decode cX6_meets 151 = .ok (.isub, 1) := by decide +kernel
theorem dX6_meets_152 : decode cX6_meets 152 = .ok (.iload_n 2, 1) := by decide +kernel
theorem dX6_meets_153 : decode cX6_meets 153 = .ok (.iastore, 1) := by decide +kernel
theorem dX6_meets_154 : decode cX6_meets 154 = .ok (.return_, 1) := by decide +kernel
theorem dX6_nearest_0 : decode cX6_nearest 0 = .ok (.iconst (-1), 1) := by decide +kernel
theorem dX6_nearest_1 : decode cX6_nearest 1 = .ok (.istore_n 1, 1) := by decide +kernel
theorem dX6_nearest_2 : decode cX6_nearest 2 = .ok (.iconst 0, 1) := by decide +kernel
theorem dX6_nearest_3 : decode cX6_nearest 3 = .ok (.istore_n 2, 1) := by decide +kernel
theorem dX6_nearest_4 : decode cX6_nearest 4 = .ok (.iload_n 2, 1) := by decide +kernel
theorem dX6_nearest_5 : decode cX6_nearest 5 = .ok (.aload_n 0, 1) := by decide +kernel
theorem dX6_nearest_6 : decode cX6_nearest 6 = .ok (.getfield 179, 3) := by decide +kernel
theorem dX6_nearest_9 : decode cX6_nearest 9 = .ok (.if_icmp .ge 40, 3) := by decide +kernel
theorem dX6_nearest_12 : decode cX6_nearest 12 = .ok (.aload_n 0, 1) := by decide +kernel
theorem dX6_nearest_13 : decode cX6_nearest 13 = .ok (.getfield 81, 3) := by decide +kernel
theorem dX6_nearest_16 : decode cX6_nearest 16 = .ok (.iload_n 2, 1) := by decide +kernel
theorem dX6_nearest_17 : decode cX6_nearest 17 = .ok (.baload, 1) := by decide +kernel
theorem dX6_nearest_18 : decode cX6_nearest 18 = .ok (.ifCond .ne 25, 3) := by decide +kernel
theorem dX6_nearest_21 : decode cX6_nearest 21 = .ok (.iload_n 1, 1) := by decide +kernel
theorem dX6_nearest_22 : decode cX6_nearest 22 = .ok (.iconst (-1), 1) := by decide +kernel
theorem dX6_nearest_23 : decode cX6_nearest 23 = .ok (.if_icmp .eq 18, 3) := by decide +kernel
theorem dX6_nearest_26 : decode cX6_nearest 26 = .ok (.aload_n 0, 1) := by decide +kernel
theorem dX6_nearest_27 : decode cX6_nearest 27 = .ok (.getfield 72, 3) := by decide +kernel
theorem dX6_nearest_30 : decode cX6_nearest 30 = .ok (.iload_n 2, 1) := by decide +kernel
theorem dX6_nearest_31 : decode cX6_nearest 31 = .ok (.iaload, 1) := by decide +kernel
theorem dX6_nearest_32 : decode cX6_nearest 32 = .ok (.aload_n 0, 1) := by decide +kernel
theorem dX6_nearest_33 : decode cX6_nearest 33 = .ok (.getfield 72, 3) := by decide +kernel
theorem dX6_nearest_36 : decode cX6_nearest 36 = .ok (.iload_n 1, 1) := by decide +kernel
theorem dX6_nearest_37 : decode cX6_nearest 37 = .ok (.iaload, 1) := by decide +kernel
theorem dX6_nearest_38 : decode cX6_nearest 38 = .ok (.if_icmp .ge 5, 3) := by decide +kernel
theorem dX6_nearest_41 : decode cX6_nearest 41 = .ok (.iload_n 2, 1) := by decide +kernel
theorem dX6_nearest_42 : decode cX6_nearest 42 = .ok (.istore_n 1, 1) := by decide +kernel
theorem dX6_nearest_43 : decode cX6_nearest 43 = .ok (.iinc 2 1, 3) := by decide +kernel
theorem dX6_nearest_46 : decode cX6_nearest 46 = .ok (.goto (-42), 3) := by decide +kernel
theorem dX6_nearest_49 : decode cX6_nearest 49 = .ok (.iload_n 1, 1) := by decide +kernel
theorem dX6_nearest_50 : decode cX6_nearest 50 = .ok (.ireturn, 1) := by decide +kernel
theorem dX6_leastFor_0 : decode cX6_leastFor 0 = .ok (.aload_n 0, 1) := by decide +kernel
theorem dX6_leastFor_1 : decode cX6_leastFor 1 = .ok (.iconst 0, 1) := by decide +kernel
theorem dX6_leastFor_2 : decode cX6_leastFor 2 = .ok (.putfield 179, 3) := by decide +kernel
theorem dX6_leastFor_5 : decode cX6_leastFor 5 = .ok (.iconst 0, 1) := by decide +kernel
theorem dX6_leastFor_6 : decode cX6_leastFor 6 = .ok (.istore_n 2, 1) := by decide +kernel
theorem dX6_leastFor_7 : decode cX6_leastFor 7 = .ok (.iload_n 2, 1) := by decide +kernel
theorem dX6_leastFor_8 : decode cX6_leastFor 8 = .ok (.sipush 2048, 3) := by decide +kernel
theorem dX6_leastFor_11 : decode cX6_leastFor 11 = .ok (.if_icmp .ge 16, 3) := by decide +kernel
theorem dX6_leastFor_14 : decode cX6_leastFor 14 = .ok (.aload_n 0, 1) := by decide +kernel
theorem dX6_leastFor_15 : decode cX6_leastFor 15 = .ok (.getfield 75, 3) := by decide +kernel
theorem dX6_leastFor_18 : decode cX6_leastFor 18 = .ok (.iload_n 2, 1) := by decide +kernel
theorem dX6_leastFor_19 : decode cX6_leastFor 19 = .ok (.iconst 0, 1) := by decide +kernel
theorem dX6_leastFor_20 : decode cX6_leastFor 20 = .ok (.iastore, 1) := by decide +kernel
theorem dX6_leastFor_21 : decode cX6_leastFor 21 = .ok (.iinc 2 1, 3) := by decide +kernel
theorem dX6_leastFor_24 : decode cX6_leastFor 24 = .ok (.goto (-17), 3) := by decide +kernel
theorem dX6_leastFor_27 : decode cX6_leastFor 27 = .ok (.iconst 0, 1) := by decide +kernel
theorem dX6_leastFor_28 : decode cX6_leastFor 28 = .ok (.istore_n 2, 1) := by decide +kernel
theorem dX6_leastFor_29 : decode cX6_leastFor 29 = .ok (.iload_n 2, 1) := by decide +kernel
theorem dX6_leastFor_30 : decode cX6_leastFor 30 = .ok (.aload_n 0, 1) := by decide +kernel
theorem dX6_leastFor_31 : decode cX6_leastFor 31 = .ok (.getfield 87, 3) := by decide +kernel
theorem dX6_leastFor_34 : decode cX6_leastFor 34 = .ok (.if_icmp .ge 21, 3) := by decide +kernel
theorem dX6_leastFor_37 : decode cX6_leastFor 37 = .ok (.aload_n 0, 1) := by decide +kernel
theorem dX6_leastFor_38 : decode cX6_leastFor 38 = .ok (.getfield 78, 3) := by decide +kernel
theorem dX6_leastFor_41 : decode cX6_leastFor 41 = .ok (.iload_n 2, 1) := by decide +kernel
theorem dX6_leastFor_42 : decode cX6_leastFor 42 = .ok (.aload_n 0, 1) := by decide +kernel
theorem dX6_leastFor_43 : decode cX6_leastFor 43 = .ok (.getfield 62, 3) := by decide +kernel
theorem dX6_leastFor_46 : decode cX6_leastFor 46 = .ok (.iload_n 2, 1) := by decide +kernel
theorem dX6_leastFor_47 : decode cX6_leastFor 47 = .ok (.iaload, 1) := by decide +kernel
theorem dX6_leastFor_48 : decode cX6_leastFor 48 = .ok (.iastore, 1) := by decide +kernel
theorem dX6_leastFor_49 : decode cX6_leastFor 49 = .ok (.iinc 2 1, 3) := by decide +kernel
theorem dX6_leastFor_52 : decode cX6_leastFor 52 = .ok (.goto (-23), 3) := by decide +kernel
theorem dX6_leastFor_55 : decode cX6_leastFor 55 = .ok (.aload_n 0, 1) := by decide +kernel
theorem dX6_leastFor_56 : decode cX6_leastFor 56 = .ok (.aload_n 0, 1) := by decide +kernel
theorem dX6_leastFor_57 : decode cX6_leastFor 57 = .ok (.invokevirtual 182, 3) := by decide +kernel
theorem dX6_leastFor_60 : decode cX6_leastFor 60 = .ok (.iconst 0, 1) := by decide +kernel
theorem dX6_leastFor_61 : decode cX6_leastFor 61 = .ok (.invokevirtual 185, 3) := by decide +kernel
theorem dX6_leastFor_64 : decode cX6_leastFor 64 = .ok (.iconst (-1), 1) := by decide +kernel
theorem dX6_leastFor_65 : decode cX6_leastFor 65 = .ok (.istore_n 2, 1) := by decide +kernel
theorem dX6_leastFor_66 : decode cX6_leastFor 66 = .ok (.aload_n 0, 1) := by decide +kernel
theorem dX6_leastFor_67 : decode cX6_leastFor 67 = .ok (.invokevirtual 189, 3) := by decide +kernel
theorem dX6_leastFor_70 : decode cX6_leastFor 70 = .ok (.istore_n 3, 1) := by decide +kernel
theorem dX6_leastFor_71 : decode cX6_leastFor 71 = .ok (.iload_n 3, 1) := by decide +kernel
theorem dX6_leastFor_72 : decode cX6_leastFor 72 = .ok (.iconst (-1), 1) := by decide +kernel
theorem dX6_leastFor_73 : decode cX6_leastFor 73 = .ok (.if_icmp .eq 88, 3) := by decide +kernel
theorem dX6_leastFor_76 : decode cX6_leastFor 76 = .ok (.iload_n 2, 1) := by decide +kernel
theorem dX6_leastFor_77 : decode cX6_leastFor 77 = .ok (.iconst (-1), 1) := by decide +kernel
theorem dX6_leastFor_78 : decode cX6_leastFor 78 = .ok (.if_icmp .ne 83, 3) := by decide +kernel
theorem dX6_leastFor_81 : decode cX6_leastFor 81 = .ok (.aload_n 0, 1) := by decide +kernel
theorem dX6_leastFor_82 : decode cX6_leastFor 82 = .ok (.getfield 81, 3) := by decide +kernel
theorem dX6_leastFor_85 : decode cX6_leastFor 85 = .ok (.iload_n 3, 1) := by decide +kernel
theorem dX6_leastFor_86 : decode cX6_leastFor 86 = .ok (.iconst 1, 1) := by decide +kernel
theorem dX6_leastFor_87 : decode cX6_leastFor 87 = .ok (.bastore, 1) := by decide +kernel
theorem dX6_leastFor_88 : decode cX6_leastFor 88 = .ok (.aload_n 0, 1) := by decide +kernel
theorem dX6_leastFor_89 : decode cX6_leastFor 89 = .ok (.aload_n 0, 1) := by decide +kernel
theorem dX6_leastFor_90 : decode cX6_leastFor 90 = .ok (.getfield 69, 3) := by decide +kernel
theorem dX6_leastFor_93 : decode cX6_leastFor 93 = .ok (.iload_n 3, 1) := by decide +kernel
theorem dX6_leastFor_94 : decode cX6_leastFor 94 = .ok (.iaload, 1) := by decide +kernel
theorem dX6_leastFor_95 : decode cX6_leastFor 95 = .ok (.invokevirtual 192, 3) := by decide +kernel
theorem dX6_leastFor_98 : decode cX6_leastFor 98 = .ok (.aload_n 0, 1) := by decide +kernel
theorem dX6_leastFor_99 : decode cX6_leastFor 99 = .ok (.aload_n 0, 1) := by decide +kernel
theorem dX6_leastFor_100 : decode cX6_leastFor 100 = .ok (.getfield 62, 3) := by decide +kernel
theorem dX6_leastFor_103 : decode cX6_leastFor 103 = .ok (.iload_n 1, 1) := by decide +kernel
theorem dX6_leastFor_104 : decode cX6_leastFor 104 = .ok (.iaload, 1) := by decide +kernel
theorem dX6_leastFor_105 : decode cX6_leastFor 105 = .ok (.iconst (-1), 1) := by decide +kernel
theorem dX6_leastFor_106 : decode cX6_leastFor 106 = .ok (.invokevirtual 137, 3) := by decide +kernel
theorem dX6_leastFor_109 : decode cX6_leastFor 109 = .ok (.ifCond .eq 7, 3) := by decide +kernel
theorem dX6_leastFor_112 : decode cX6_leastFor 112 = .ok (.iconst (-1), 1) := by decide +kernel
theorem dX6_leastFor_113 : decode cX6_leastFor 113 = .ok (.goto 9, 3) := by decide +kernel
theorem dX6_leastFor_116 : decode cX6_leastFor 116 = .ok (.aload_n 0, 1) := by decide +kernel
theorem dX6_leastFor_117 : decode cX6_leastFor 117 = .ok (.getfield 72, 3) := by decide +kernel
theorem dX6_leastFor_120 : decode cX6_leastFor 120 = .ok (.iload_n 3, 1) := by decide +kernel
theorem dX6_leastFor_121 : decode cX6_leastFor 121 = .ok (.iaload, 1) := by decide +kernel
theorem dX6_leastFor_122 : decode cX6_leastFor 122 = .ok (.istore_n 2, 1) := by decide +kernel
theorem dX6_leastFor_123 : decode cX6_leastFor 123 = .ok (.iconst 0, 1) := by decide +kernel
theorem dX6_leastFor_124 : decode cX6_leastFor 124 = .ok (.istore 4, 2) := by decide +kernel
theorem dX6_leastFor_126 : decode cX6_leastFor 126 = .ok (.iload 4, 2) := by decide +kernel
theorem dX6_leastFor_128 : decode cX6_leastFor 128 = .ok (.aload_n 0, 1) := by decide +kernel
theorem dX6_leastFor_129 : decode cX6_leastFor 129 = .ok (.getfield 87, 3) := by decide +kernel
theorem dX6_leastFor_132 : decode cX6_leastFor 132 = .ok (.if_icmp .ge 21, 3) := by decide +kernel
theorem dX6_leastFor_135 : decode cX6_leastFor 135 = .ok (.iload_n 2, 1) := by decide +kernel
theorem dX6_leastFor_136 : decode cX6_leastFor 136 = .ok (.iconst (-1), 1) := by decide +kernel
theorem dX6_leastFor_137 : decode cX6_leastFor 137 = .ok (.if_icmp .ne 16, 3) := by decide +kernel
theorem dX6_leastFor_140 : decode cX6_leastFor 140 = .ok (.aload_n 0, 1) := by decide +kernel
theorem dX6_leastFor_141 : decode cX6_leastFor 141 = .ok (.iload 4, 2) := by decide +kernel
theorem dX6_leastFor_143 : decode cX6_leastFor 143 = .ok (.iload_n 3, 1) := by decide +kernel
theorem dX6_leastFor_144 : decode cX6_leastFor 144 = .ok (.invokevirtual 196, 3) := by decide +kernel
theorem dX6_leastFor_147 : decode cX6_leastFor 147 = .ok (.iinc 4 1, 3) := by decide +kernel
theorem dX6_leastFor_150 : decode cX6_leastFor 150 = .ok (.goto (-24), 3) := by decide +kernel
theorem dX6_leastFor_153 : decode cX6_leastFor 153 = .ok (.aload_n 0, 1) := by decide +kernel
theorem dX6_leastFor_154 : decode cX6_leastFor 154 = .ok (.invokevirtual 189, 3) := by decide +kernel
theorem dX6_leastFor_157 : decode cX6_leastFor 157 = .ok (.istore_n 3, 1) := by decide +kernel
theorem dX6_leastFor_158 : decode cX6_leastFor 158 = .ok (.goto (-87), 3) := by decide +kernel
theorem dX6_leastFor_161 : decode cX6_leastFor 161 = .ok (.iconst 0, 1) := by decide +kernel
theorem dX6_leastFor_162 : decode cX6_leastFor 162 = .ok (.istore_n 3, 1) := by decide +kernel
theorem dX6_leastFor_163 : decode cX6_leastFor 163 = .ok (.iload_n 3, 1) := by decide +kernel
theorem dX6_leastFor_164 : decode cX6_leastFor 164 = .ok (.aload_n 0, 1) := by decide +kernel
theorem dX6_leastFor_165 : decode cX6_leastFor 165 = .ok (.getfield 87, 3) := by decide +kernel
theorem dX6_leastFor_168 : decode cX6_leastFor 168 = .ok (.if_icmp .ge 21, 3) := by decide +kernel
theorem dX6_leastFor_171 : decode cX6_leastFor 171 = .ok (.aload_n 0, 1) := by decide +kernel
theorem dX6_leastFor_172 : decode cX6_leastFor 172 = .ok (.getfield 62, 3) := by decide +kernel
theorem dX6_leastFor_175 : decode cX6_leastFor 175 = .ok (.iload_n 3, 1) := by decide +kernel
theorem dX6_leastFor_176 : decode cX6_leastFor 176 = .ok (.aload_n 0, 1) := by decide +kernel
theorem dX6_leastFor_177 : decode cX6_leastFor 177 = .ok (.getfield 78, 3) := by decide +kernel
theorem dX6_leastFor_180 : decode cX6_leastFor 180 = .ok (.iload_n 3, 1) := by decide +kernel
theorem dX6_leastFor_181 : decode cX6_leastFor 181 = .ok (.iaload, 1) := by decide +kernel
theorem dX6_leastFor_182 : decode cX6_leastFor 182 = .ok (.iastore, 1) := by decide +kernel
theorem dX6_leastFor_183 : decode cX6_leastFor 183 = .ok (.iinc 3 1, 3) := by decide +kernel
theorem dX6_leastFor_186 : decode cX6_leastFor 186 = .ok (.goto (-23), 3) := by decide +kernel
theorem dX6_leastFor_189 : decode cX6_leastFor 189 = .ok (.iload_n 2, 1) := by decide +kernel
theorem dX6_leastFor_190 : decode cX6_leastFor 190 = .ok (.ireturn, 1) := by decide +kernel
theorem dX6_goesOn_0 : decode cX6_goesOn 0 = .ok (.aload_n 0, 1) := by decide +kernel
theorem dX6_goesOn_1 : decode cX6_goesOn 1 = .ok (.getfield 62, 3) := by decide +kernel
theorem dX6_goesOn_4 : decode cX6_goesOn 4 = .ok (.iload_n 1, 1) := by decide +kernel
theorem dX6_goesOn_5 : decode cX6_goesOn 5 = .ok (.iaload, 1) := by decide +kernel
theorem dX6_goesOn_6 : decode cX6_goesOn 6 = .ok (.istore_n 3, 1) := by decide +kernel
theorem dX6_goesOn_7 : decode cX6_goesOn 7 = .ok (.iconst 0, 1) := by decide +kernel
theorem dX6_goesOn_8 : decode cX6_goesOn 8 = .ok (.istore 4, 2) := by decide +kernel
theorem dX6_goesOn_10 : decode cX6_goesOn 10 = .ok (.iload 4, 2) := by decide +kernel
theorem dX6_goesOn_12 : decode cX6_goesOn 12 = .ok (.aload_n 0, 1) := by decide +kernel
theorem dX6_goesOn_13 : decode cX6_goesOn 13 = .ok (.getfield 94, 3) := by decide +kernel
theorem dX6_goesOn_16 : decode cX6_goesOn 16 = .ok (.if_icmp .ge 60, 3) := by decide +kernel
theorem dX6_goesOn_19 : decode cX6_goesOn 19 = .ok (.aload_n 0, 1) := by decide +kernel
theorem dX6_goesOn_20 : decode cX6_goesOn 20 = .ok (.iload_n 1, 1) := by decide +kernel
theorem dX6_goesOn_21 : decode cX6_goesOn 21 = .ok (.iload 4, 2) := by decide +kernel
theorem dX6_goesOn_23 : decode cX6_goesOn 23 = .ok (.invokevirtual 144, 3) := by decide +kernel
theorem dX6_goesOn_26 : decode cX6_goesOn 26 = .ok (.bipush 110, 2) := by decide +kernel
theorem dX6_goesOn_28 : decode cX6_goesOn 28 = .ok (.if_icmp .eq 6, 3) := by decide +kernel
theorem dX6_goesOn_31 : decode cX6_goesOn 31 = .ok (.goto 39, 3) := by decide +kernel
theorem dX6_goesOn_34 : decode cX6_goesOn 34 = .ok (.aload_n 0, 1) := by decide +kernel
theorem dX6_goesOn_35 : decode cX6_goesOn 35 = .ok (.getfield 62, 3) := by decide +kernel
theorem dX6_goesOn_38 : decode cX6_goesOn 38 = .ok (.iload_n 1, 1) := by decide +kernel
theorem dX6_goesOn_39 : decode cX6_goesOn 39 = .ok (.iload 4, 2) := by decide +kernel
theorem dX6_goesOn_41 : decode cX6_goesOn 41 = .ok (.iastore, 1) := by decide +kernel
theorem dX6_goesOn_42 : decode cX6_goesOn 42 = .ok (.aload_n 0, 1) := by decide +kernel
theorem dX6_goesOn_43 : decode cX6_goesOn 43 = .ok (.aload_n 0, 1) := by decide +kernel
theorem dX6_goesOn_44 : decode cX6_goesOn 44 = .ok (.invokevirtual 182, 3) := by decide +kernel
theorem dX6_goesOn_47 : decode cX6_goesOn 47 = .ok (.aload_n 0, 1) := by decide +kernel
theorem dX6_goesOn_48 : decode cX6_goesOn 48 = .ok (.getfield 72, 3) := by decide +kernel
theorem dX6_goesOn_51 : decode cX6_goesOn 51 = .ok (.iload_n 2, 1) := by decide +kernel
theorem dX6_goesOn_52 : decode cX6_goesOn 52 = .ok (.iaload, 1) := by decide +kernel
theorem dX6_goesOn_53 : decode cX6_goesOn 53 = .ok (.aload_n 0, 1) := by decide +kernel
theorem dX6_goesOn_54 : decode cX6_goesOn 54 = .ok (.getfield 47, 3) := by decide +kernel
theorem dX6_goesOn_57 : decode cX6_goesOn 57 = .ok (.iload_n 1, 1) := by decide +kernel
theorem dX6_goesOn_58 : decode cX6_goesOn 58 = .ok (.iaload, 1) := by decide +kernel
theorem dX6_goesOn_59 : decode cX6_goesOn 59 = .ok (.iadd, 1) := by decide +kernel
theorem dX6_goesOn_60 : decode cX6_goesOn 60 = .ok (.invokevirtual 185, 3) := by decide +kernel
theorem dX6_goesOn_63 : decode cX6_goesOn 63 = .ok (.aload_n 0, 1) := by decide +kernel
theorem dX6_goesOn_64 : decode cX6_goesOn 64 = .ok (.getfield 62, 3) := by decide +kernel
theorem dX6_goesOn_67 : decode cX6_goesOn 67 = .ok (.iload_n 1, 1) := by decide +kernel
theorem dX6_goesOn_68 : decode cX6_goesOn 68 = .ok (.iload_n 3, 1) := by decide +kernel
theorem dX6_goesOn_69 : decode cX6_goesOn 69 = .ok (.iastore, 1) := by decide +kernel
theorem dX6_goesOn_70 : decode cX6_goesOn 70 = .ok (.iinc 4 1, 3) := by decide +kernel
theorem dX6_goesOn_73 : decode cX6_goesOn 73 = .ok (.goto (-63), 3) := by decide +kernel
theorem dX6_goesOn_76 : decode cX6_goesOn 76 = .ok (.return_, 1) := by decide +kernel
theorem dX6_asksLeast_0 : decode cX6_asksLeast 0 = .ok (.aload_n 0, 1) := by decide +kernel
theorem dX6_asksLeast_1 : decode cX6_asksLeast 1 = .ok (.iload_n 1, 1) := by decide +kernel
theorem dX6_asksLeast_2 : decode cX6_asksLeast 2 = .ok (.invokevirtual 123, 3) := by decide +kernel
theorem dX6_asksLeast_5 : decode cX6_asksLeast 5 = .ok (.ifCond .ne 9, 3) := by decide +kernel
theorem dX6_asksLeast_8 : decode cX6_asksLeast 8 = .ok (.aload_n 0, 1) := by decide +kernel
theorem dX6_asksLeast_9 : decode cX6_asksLeast 9 = .ok (.iconst 1, 1) := by decide +kernel
theorem dX6_asksLeast_10 : decode cX6_asksLeast 10 = .ok (.invokevirtual 101, 3) := by decide +kernel
theorem dX6_asksLeast_13 : decode cX6_asksLeast 13 = .ok (.ireturn, 1) := by decide +kernel
theorem dX6_asksLeast_14 : decode cX6_asksLeast 14 = .ok (.aload_n 0, 1) := by decide +kernel
theorem dX6_asksLeast_15 : decode cX6_asksLeast 15 = .ok (.getfield 62, 3) := by decide +kernel
theorem dX6_asksLeast_18 : decode cX6_asksLeast 18 = .ok (.iload_n 1, 1) := by decide +kernel
theorem dX6_asksLeast_19 : decode cX6_asksLeast 19 = .ok (.iaload, 1) := by decide +kernel
theorem dX6_asksLeast_20 : decode cX6_asksLeast 20 = .ok (.iconst (-1), 1) := by decide +kernel
theorem dX6_asksLeast_21 : decode cX6_asksLeast 21 = .ok (.if_icmp .ne 9, 3) := by decide +kernel
theorem dX6_asksLeast_24 : decode cX6_asksLeast 24 = .ok (.aload_n 0, 1) := by decide +kernel
theorem dX6_asksLeast_25 : decode cX6_asksLeast 25 = .ok (.iconst 2, 1) := by decide +kernel
theorem dX6_asksLeast_26 : decode cX6_asksLeast 26 = .ok (.invokevirtual 101, 3) := by decide +kernel
theorem dX6_asksLeast_29 : decode cX6_asksLeast 29 = .ok (.ireturn, 1) := by decide +kernel
theorem dX6_asksLeast_30 : decode cX6_asksLeast 30 = .ok (.aload_n 0, 1) := by decide +kernel
theorem dX6_asksLeast_31 : decode cX6_asksLeast 31 = .ok (.iload_n 1, 1) := by decide +kernel
theorem dX6_asksLeast_32 : decode cX6_asksLeast 32 = .ok (.invokevirtual 199, 3) := by decide +kernel
theorem dX6_asksLeast_35 : decode cX6_asksLeast 35 = .ok (.istore_n 2, 1) := by decide +kernel
theorem dX6_asksLeast_36 : decode cX6_asksLeast 36 = .ok (.iload_n 2, 1) := by decide +kernel
theorem dX6_asksLeast_37 : decode cX6_asksLeast 37 = .ok (.iconst (-1), 1) := by decide +kernel
theorem dX6_asksLeast_38 : decode cX6_asksLeast 38 = .ok (.if_icmp .ne 11, 3) := by decide +kernel
theorem dX6_asksLeast_41 : decode cX6_asksLeast 41 = .ok (.aload_n 0, 1) := by decide +kernel
theorem dX6_asksLeast_42 : decode cX6_asksLeast 42 = .ok (.iconst 3, 1) := by decide +kernel
theorem dX6_asksLeast_43 : decode cX6_asksLeast 43 = .ok (.invokevirtual 101, 3) := by decide +kernel
theorem dX6_asksLeast_46 : decode cX6_asksLeast 46 = .ok (.goto 8, 3) := by decide +kernel
theorem dX6_asksLeast_49 : decode cX6_asksLeast 49 = .ok (.aload_n 0, 1) := by decide +kernel
theorem dX6_asksLeast_50 : decode cX6_asksLeast 50 = .ok (.iload_n 2, 1) := by decide +kernel
theorem dX6_asksLeast_51 : decode cX6_asksLeast 51 = .ok (.invokevirtual 105, 3) := by decide +kernel
theorem dX6_asksLeast_54 : decode cX6_asksLeast 54 = .ok (.ireturn, 1) := by decide +kernel
theorem dX6_leastShifted_0 : decode cX6_leastShifted 0 = .ok (.aload_n 0, 1) := by decide +kernel
theorem dX6_leastShifted_1 : decode cX6_leastShifted 1 = .ok (.iload_n 1, 1) := by decide +kernel
theorem dX6_leastShifted_2 : decode cX6_leastShifted 2 = .ok (.invokevirtual 202, 3) := by decide +kernel
theorem dX6_leastShifted_5 : decode cX6_leastShifted 5 = .ok (.ireturn, 1) := by decide +kernel
theorem dX6_leastByRounds_0 : decode cX6_leastByRounds 0 = .ok (.aload_n 0, 1) := by decide +kernel
theorem dX6_leastByRounds_1 : decode cX6_leastByRounds 1 = .ok (.iload_n 1, 1) := by decide +kernel
theorem dX6_leastByRounds_2 : decode cX6_leastByRounds 2 = .ok (.invokevirtual 202, 3) := by decide +kernel
theorem dX6_leastByRounds_5 : decode cX6_leastByRounds 5 = .ok (.ireturn, 1) := by decide +kernel
theorem dX6_movedWeight_0 : decode cX6_movedWeight 0 = .ok (.aload_n 0, 1) := by decide +kernel
theorem dX6_movedWeight_1 : decode cX6_movedWeight 1 = .ok (.iconst 0, 1) := by decide +kernel
theorem dX6_movedWeight_2 : decode cX6_movedWeight 2 = .ok (.putfield 84, 3) := by decide +kernel
theorem dX6_movedWeight_5 : decode cX6_movedWeight 5 = .ok (.aload_n 0, 1) := by decide +kernel
theorem dX6_movedWeight_6 : decode cX6_movedWeight 6 = .ok (.getfield 148, 3) := by decide +kernel
theorem dX6_movedWeight_9 : decode cX6_movedWeight 9 = .ok (.lreturn, 1) := by decide +kernel
theorem dX6_usedShare_0 : decode cX6_usedShare 0 = .ok (.aload_n 0, 1) := by decide +kernel
theorem dX6_usedShare_1 : decode cX6_usedShare 1 = .ok (.aload_n 0, 1) := by decide +kernel
theorem dX6_usedShare_2 : decode cX6_usedShare 2 = .ok (.getfield 94, 3) := by decide +kernel
theorem dX6_usedShare_5 : decode cX6_usedShare 5 = .ok (.ifCond .ne 7, 3) := by decide +kernel
theorem dX6_usedShare_8 : decode cX6_usedShare 8 = .ok (.iconst 1, 1) := by decide +kernel
theorem dX6_usedShare_9 : decode cX6_usedShare 9 = .ok (.goto 4, 3) := by decide +kernel
theorem dX6_usedShare_12 : decode cX6_usedShare 12 = .ok (.iconst 0, 1) := by decide +kernel
theorem dX6_usedShare_13 : decode cX6_usedShare 13 = .ok (.putfield 84, 3) := by decide +kernel
theorem dX6_usedShare_16 : decode cX6_usedShare 16 = .ok (.iconst 0, 1) := by decide +kernel
theorem dX6_usedShare_17 : decode cX6_usedShare 17 = .ok (.istore_n 1, 1) := by decide +kernel
theorem dX6_usedShare_18 : decode cX6_usedShare 18 = .ok (.iconst 0, 1) := by decide +kernel
theorem dX6_usedShare_19 : decode cX6_usedShare 19 = .ok (.istore_n 2, 1) := by decide +kernel
theorem dX6_usedShare_20 : decode cX6_usedShare 20 = .ok (.iload_n 2, 1) := by decide +kernel
theorem dX6_usedShare_21 : decode cX6_usedShare 21 = .ok (.aload_n 0, 1) := by decide +kernel
theorem dX6_usedShare_22 : decode cX6_usedShare 22 = .ok (.getfield 94, 3) := by decide +kernel
theorem dX6_usedShare_25 : decode cX6_usedShare 25 = .ok (.if_icmp .ge 26, 3) := by decide +kernel
theorem dX6_usedShare_28 : decode cX6_usedShare 28 = .ok (.iload_n 1, 1) := by decide +kernel
theorem dX6_usedShare_29 : decode cX6_usedShare 29 = .ok (.aload_n 0, 1) := by decide +kernel
theorem dX6_usedShare_30 : decode cX6_usedShare 30 = .ok (.iload_n 2, 1) := by decide +kernel
theorem dX6_usedShare_31 : decode cX6_usedShare 31 = .ok (.invokevirtual 134, 3) := by decide +kernel
theorem dX6_usedShare_34 : decode cX6_usedShare 34 = .ok (.iconst (-1), 1) := by decide +kernel
theorem dX6_usedShare_35 : decode cX6_usedShare 35 = .ok (.if_icmp .eq 7, 3) := by decide +kernel
theorem dX6_usedShare_38 : decode cX6_usedShare 38 = .ok (.iconst 1, 1) := by decide +kernel
theorem dX6_usedShare_39 : decode cX6_usedShare 39 = .ok (.goto 4, 3) := by decide +kernel
theorem dX6_usedShare_42 : decode cX6_usedShare 42 = .ok (.iconst 0, 1) := by decide +kernel
theorem dX6_usedShare_43 : decode cX6_usedShare 43 = .ok (.iadd, 1) := by decide +kernel
theorem dX6_usedShare_44 : decode cX6_usedShare 44 = .ok (.istore_n 1, 1) := by decide +kernel
theorem dX6_usedShare_45 : decode cX6_usedShare 45 = .ok (.iinc 2 1, 3) := by decide +kernel
theorem dX6_usedShare_48 : decode cX6_usedShare 48 = .ok (.goto (-28), 3) := by decide +kernel
theorem dX6_usedShare_51 : decode cX6_usedShare 51 = .ok (.aload_n 0, 1) := by decide +kernel
theorem dX6_usedShare_52 : decode cX6_usedShare 52 = .ok (.getfield 84, 3) := by decide +kernel
theorem dX6_usedShare_55 : decode cX6_usedShare 55 = .ok (.ifCond .ne 14, 3) := by decide +kernel
theorem dX6_usedShare_58 : decode cX6_usedShare 58 = .ok (.iload_n 1, 1) := by decide +kernel
theorem dX6_usedShare_59 : decode cX6_usedShare 59 = .ok (.i2f, 1) := by decide +kernel
theorem dX6_usedShare_60 : decode cX6_usedShare 60 = .ok (.aload_n 0, 1) := by decide +kernel
theorem dX6_usedShare_61 : decode cX6_usedShare 61 = .ok (.getfield 94, 3) := by decide +kernel
theorem dX6_usedShare_64 : decode cX6_usedShare 64 = .ok (.i2f, 1) := by decide +kernel
theorem dX6_usedShare_65 : decode cX6_usedShare 65 = .ok (.fdiv, 1) := by decide +kernel
theorem dX6_usedShare_66 : decode cX6_usedShare 66 = .ok (.goto 4, 3) := by decide +kernel
theorem dX6_usedShare_69 : decode cX6_usedShare 69 = .ok (.fconst 0, 1) := by decide +kernel
theorem dX6_usedShare_70 : decode cX6_usedShare 70 = .ok (.freturn, 1) := by decide +kernel
theorem dX6_meanDraught_0 : decode cX6_meanDraught 0 = .ok (.iconst 0, 1) := by decide +kernel
theorem dX6_meanDraught_1 : decode cX6_meanDraught 1 = .ok (.istore_n 1, 1) := by decide +kernel
theorem dX6_meanDraught_2 : decode cX6_meanDraught 2 = .ok (.iconst 0, 1) := by decide +kernel
theorem dX6_meanDraught_3 : decode cX6_meanDraught 3 = .ok (.istore_n 2, 1) := by decide +kernel
theorem dX6_meanDraught_4 : decode cX6_meanDraught 4 = .ok (.iload_n 2, 1) := by decide +kernel
theorem dX6_meanDraught_5 : decode cX6_meanDraught 5 = .ok (.aload_n 0, 1) := by decide +kernel
theorem dX6_meanDraught_6 : decode cX6_meanDraught 6 = .ok (.getfield 87, 3) := by decide +kernel
theorem dX6_meanDraught_9 : decode cX6_meanDraught 9 = .ok (.if_icmp .ge 30, 3) := by decide +kernel
theorem dX6_meanDraught_12 : decode cX6_meanDraught 12 = .ok (.iload_n 1, 1) := by decide +kernel
theorem dX6_meanDraught_13 : decode cX6_meanDraught 13 = .ok (.aload_n 0, 1) := by decide +kernel
theorem dX6_meanDraught_14 : decode cX6_meanDraught 14 = .ok (.iload_n 2, 1) := by decide +kernel
theorem dX6_meanDraught_15 : decode cX6_meanDraught 15 = .ok (.invokevirtual 169, 3) := by decide +kernel
theorem dX6_meanDraught_18 : decode cX6_meanDraught 18 = .ok (.ifCond .eq 12, 3) := by decide +kernel
theorem dX6_meanDraught_21 : decode cX6_meanDraught 21 = .ok (.aload_n 0, 1) := by decide +kernel
theorem dX6_meanDraught_22 : decode cX6_meanDraught 22 = .ok (.getfield 44, 3) := by decide +kernel
theorem dX6_meanDraught_25 : decode cX6_meanDraught 25 = .ok (.iload_n 2, 1) := by decide +kernel
theorem dX6_meanDraught_26 : decode cX6_meanDraught 26 = .ok (.iaload, 1) := by decide +kernel
theorem dX6_meanDraught_27 : decode cX6_meanDraught 27 = .ok (.goto 4, 3) := by decide +kernel
theorem dX6_meanDraught_30 : decode cX6_meanDraught 30 = .ok (.iconst 0, 1) := by decide +kernel
theorem dX6_meanDraught_31 : decode cX6_meanDraught 31 = .ok (.iadd, 1) := by decide +kernel
theorem dX6_meanDraught_32 : decode cX6_meanDraught 32 = .ok (.istore_n 1, 1) := by decide +kernel
theorem dX6_meanDraught_33 : decode cX6_meanDraught 33 = .ok (.iinc 2 1, 3) := by decide +kernel
theorem dX6_meanDraught_36 : decode cX6_meanDraught 36 = .ok (.goto (-32), 3) := by decide +kernel
theorem dX6_meanDraught_39 : decode cX6_meanDraught 39 = .ok (.aload_n 0, 1) := by decide +kernel
theorem dX6_meanDraught_40 : decode cX6_meanDraught 40 = .ok (.invokevirtual 172, 3) := by decide +kernel
theorem dX6_meanDraught_43 : decode cX6_meanDraught 43 = .ok (.istore_n 2, 1) := by decide +kernel
theorem dX6_meanDraught_44 : decode cX6_meanDraught 44 = .ok (.aload_n 0, 1) := by decide +kernel
theorem dX6_meanDraught_45 : decode cX6_meanDraught 45 = .ok (.iload_n 2, 1) := by decide +kernel
theorem dX6_meanDraught_46 : decode cX6_meanDraught 46 = .ok (.ifCond .ne 7, 3) := by decide +kernel
theorem dX6_meanDraught_49 : decode cX6_meanDraught 49 = .ok (.iconst 1, 1) := by decide +kernel
theorem dX6_meanDraught_50 : decode cX6_meanDraught 50 = .ok (.goto 4, 3) := by decide +kernel
theorem dX6_meanDraught_53 : decode cX6_meanDraught 53 = .ok (.iconst 0, 1) := by decide +kernel
theorem dX6_meanDraught_54 : decode cX6_meanDraught 54 = .ok (.putfield 84, 3) := by decide +kernel
theorem dX6_meanDraught_57 : decode cX6_meanDraught 57 = .ok (.iload_n 2, 1) := by decide +kernel
theorem dX6_meanDraught_58 : decode cX6_meanDraught 58 = .ok (.ifCond .ne 7, 3) := by decide +kernel
theorem dX6_meanDraught_61 : decode cX6_meanDraught 61 = .ok (.dconst 0, 1) := by decide +kernel
theorem dX6_meanDraught_62 : decode cX6_meanDraught 62 = .ok (.goto 8, 3) := by decide +kernel
theorem dX6_meanDraught_65 : decode cX6_meanDraught 65 = .ok (.iload_n 1, 1) := by decide +kernel
theorem dX6_meanDraught_66 : decode cX6_meanDraught 66 = .ok (.i2d, 1) := by decide +kernel
theorem dX6_meanDraught_67 : decode cX6_meanDraught 67 = .ok (.iload_n 2, 1) := by decide +kernel
theorem dX6_meanDraught_68 : decode cX6_meanDraught 68 = .ok (.i2d, 1) := by decide +kernel
theorem dX6_meanDraught_69 : decode cX6_meanDraught 69 = .ok (.ddiv, 1) := by decide +kernel
theorem dX6_meanDraught_70 : decode cX6_meanDraught 70 = .ok (.dreturn, 1) := by decide +kernel
theorem dL_addBerth_0 : decode cL_addBerth 0 = .ok (.aload 4, 2) := by decide +kernel
theorem dL_addBerth_2 : decode cL_addBerth 2 = .ok (.iconst 0, 1) := by decide +kernel
theorem dL_addBerth_3 : decode cL_addBerth 3 = .ok (.aload_n 0, 1) := by decide +kernel
theorem dL_addBerth_4 : decode cL_addBerth 4 = .ok (.iload_n 1, 1) := by decide +kernel
theorem dL_addBerth_5 : decode cL_addBerth 5 = .ok (.iload_n 2, 1) := by decide +kernel
theorem dL_addBerth_6 : decode cL_addBerth 6 = .ok (.iload_n 3, 1) := by decide +kernel
theorem dL_addBerth_7 : decode cL_addBerth 7 = .ok (.invokevirtual 7, 3) := by decide +kernel
theorem dL_addBerth_10 : decode cL_addBerth 10 = .ok (.i2l, 1) := by decide +kernel
theorem dL_addBerth_11 : decode cL_addBerth 11 = .ok (.lastore, 1) := by decide +kernel
theorem dL_addBerth_12 : decode cL_addBerth 12 = .ok (.goto 15, 3) := by decide +kernel
theorem dL_addBerth_15 : decode cL_addBerth 15 = .ok (.astore 5, 2) := by decide +kernel
theorem dL_addBerth_17 : decode cL_addBerth 17 = .ok (.iconst 1, 1) := by decide +kernel
theorem dL_addBerth_18 : decode cL_addBerth 18 = .ok (.ireturn, 1) := by decide +kernel
theorem dL_addBerth_19 : decode cL_addBerth 19 = .ok (.astore 5, 2) := by decide +kernel
theorem dL_addBerth_21 : decode cL_addBerth 21 = .ok (.iconst 2, 1) := by decide +kernel
theorem dL_addBerth_22 : decode cL_addBerth 22 = .ok (.ireturn, 1) := by decide +kernel
theorem dL_addBerth_23 : decode cL_addBerth 23 = .ok (.astore 5, 2) := by decide +kernel
theorem dL_addBerth_25 : decode cL_addBerth 25 = .ok (.iconst 3, 1) := by decide +kernel
theorem dL_addBerth_26 : decode cL_addBerth 26 = .ok (.ireturn, 1) := by decide +kernel
theorem dL_addBerth_27 : decode cL_addBerth 27 = .ok (.iconst 0, 1) := by decide +kernel
theorem dL_addBerth_28 : decode cL_addBerth 28 = .ok (.ireturn, 1) := by decide +kernel
theorem dL_addBoat_0 : decode cL_addBoat 0 = .ok (.aload 5, 2) := by decide +kernel
theorem dL_addBoat_2 : decode cL_addBoat 2 = .ok (.iconst 0, 1) := by decide +kernel
theorem dL_addBoat_3 : decode cL_addBoat 3 = .ok (.aload_n 0, 1) := by decide +kernel
theorem dL_addBoat_4 : decode cL_addBoat 4 = .ok (.iload_n 1, 1) := by decide +kernel
theorem dL_addBoat_5 : decode cL_addBoat 5 = .ok (.iload_n 2, 1) := by decide +kernel
theorem dL_addBoat_6 : decode cL_addBoat 6 = .ok (.iload_n 3, 1) := by decide +kernel
theorem dL_addBoat_7 : decode cL_addBoat 7 = .ok (.iload 4, 2) := by decide +kernel
theorem dL_addBoat_9 : decode cL_addBoat 9 = .ok (.invokevirtual 19, 3) := by decide +kernel
theorem dL_addBoat_12 : decode cL_addBoat 12 = .ok (.i2l, 1) := by decide +kernel
theorem dL_addBoat_13 : decode cL_addBoat 13 = .ok (.lastore, 1) := by decide +kernel
theorem dL_addBoat_14 : decode cL_addBoat 14 = .ok (.goto 11, 3) := by decide +kernel
theorem dL_addBoat_17 : decode cL_addBoat 17 = .ok (.astore 6, 2) := by decide +kernel
theorem dL_addBoat_19 : decode cL_addBoat 19 = .ok (.iconst 1, 1) := by decide +kernel
theorem dL_addBoat_20 : decode cL_addBoat 20 = .ok (.ireturn, 1) := by decide +kernel
theorem dL_addBoat_21 : decode cL_addBoat 21 = .ok (.astore 6, 2) := by decide +kernel
theorem dL_addBoat_23 : decode cL_addBoat 23 = .ok (.iconst 2, 1) := by decide +kernel
theorem dL_addBoat_24 : decode cL_addBoat 24 = .ok (.ireturn, 1) := by decide +kernel
theorem dL_addBoat_25 : decode cL_addBoat 25 = .ok (.iconst 0, 1) := by decide +kernel
theorem dL_addBoat_26 : decode cL_addBoat 26 = .ok (.ireturn, 1) := by decide +kernel
theorem dL_setTide_0 : decode cL_setTide 0 = .ok (.aload 4, 2) := by decide +kernel
theorem dL_setTide_2 : decode cL_setTide 2 = .ok (.iconst 0, 1) := by decide +kernel
theorem dL_setTide_3 : decode cL_setTide 3 = .ok (.aload_n 0, 1) := by decide +kernel
theorem dL_setTide_4 : decode cL_setTide 4 = .ok (.iload_n 1, 1) := by decide +kernel
theorem dL_setTide_5 : decode cL_setTide 5 = .ok (.iload_n 2, 1) := by decide +kernel
theorem dL_setTide_6 : decode cL_setTide 6 = .ok (.iload_n 3, 1) := by decide +kernel
theorem dL_setTide_7 : decode cL_setTide 7 = .ok (.invokevirtual 23, 3) := by decide +kernel
theorem dL_setTide_10 : decode cL_setTide 10 = .ok (.i2l, 1) := by decide +kernel
theorem dL_setTide_11 : decode cL_setTide 11 = .ok (.lastore, 1) := by decide +kernel
theorem dL_setTide_12 : decode cL_setTide 12 = .ok (.goto 7, 3) := by decide +kernel
theorem dL_setTide_15 : decode cL_setTide 15 = .ok (.astore 5, 2) := by decide +kernel
theorem dL_setTide_17 : decode cL_setTide 17 = .ok (.iconst 1, 1) := by decide +kernel
theorem dL_setTide_18 : decode cL_setTide 18 = .ok (.ireturn, 1) := by decide +kernel
theorem dL_setTide_19 : decode cL_setTide 19 = .ok (.iconst 0, 1) := by decide +kernel
theorem dL_setTide_20 : decode cL_setTide 20 = .ok (.ireturn, 1) := by decide +kernel
theorem dL_setCradle_0 : decode cL_setCradle 0 = .ok (.aload_n 3, 1) := by decide +kernel
theorem dL_setCradle_1 : decode cL_setCradle 1 = .ok (.iconst 0, 1) := by decide +kernel
theorem dL_setCradle_2 : decode cL_setCradle 2 = .ok (.aload_n 0, 1) := by decide +kernel
theorem dL_setCradle_3 : decode cL_setCradle 3 = .ok (.iload_n 1, 1) := by decide +kernel
theorem dL_setCradle_4 : decode cL_setCradle 4 = .ok (.iload_n 2, 1) := by decide +kernel
theorem dL_setCradle_5 : decode cL_setCradle 5 = .ok (.invokevirtual 26, 3) := by decide +kernel
theorem dL_setCradle_8 : decode cL_setCradle 8 = .ok (.i2l, 1) := by decide +kernel
theorem dL_setCradle_9 : decode cL_setCradle 9 = .ok (.lastore, 1) := by decide +kernel
theorem dL_setCradle_10 : decode cL_setCradle 10 = .ok (.goto 7, 3) := by decide +kernel
theorem dL_setCradle_13 : decode cL_setCradle 13 = .ok (.astore 4, 2) := by decide +kernel
theorem dL_setCradle_15 : decode cL_setCradle 15 = .ok (.iconst 1, 1) := by decide +kernel
theorem dL_setCradle_16 : decode cL_setCradle 16 = .ok (.ireturn, 1) := by decide +kernel
theorem dL_setCradle_17 : decode cL_setCradle 17 = .ok (.iconst 0, 1) := by decide +kernel
theorem dL_setCradle_18 : decode cL_setCradle 18 = .ok (.ireturn, 1) := by decide +kernel
theorem dL_tellWeather_0 : decode cL_tellWeather 0 = .ok (.aload_n 3, 1) := by decide +kernel
theorem dL_tellWeather_1 : decode cL_tellWeather 1 = .ok (.iconst 0, 1) := by decide +kernel
theorem dL_tellWeather_2 : decode cL_tellWeather 2 = .ok (.aload_n 0, 1) := by decide +kernel
theorem dL_tellWeather_3 : decode cL_tellWeather 3 = .ok (.iload_n 1, 1) := by decide +kernel
theorem dL_tellWeather_4 : decode cL_tellWeather 4 = .ok (.iload_n 2, 1) := by decide +kernel
theorem dL_tellWeather_5 : decode cL_tellWeather 5 = .ok (.invokevirtual 30, 3) := by decide +kernel
theorem dL_tellWeather_8 : decode cL_tellWeather 8 = .ok (.i2l, 1) := by decide +kernel
theorem dL_tellWeather_9 : decode cL_tellWeather 9 = .ok (.lastore, 1) := by decide +kernel
theorem dL_tellWeather_10 : decode cL_tellWeather 10 = .ok (.goto 11, 3) := by decide +kernel
theorem dL_tellWeather_13 : decode cL_tellWeather 13 = .ok (.astore 4, 2) := by decide +kernel
theorem dL_tellWeather_15 : decode cL_tellWeather 15 = .ok (.iconst 1, 1) := by decide +kernel
theorem dL_tellWeather_16 : decode cL_tellWeather 16 = .ok (.ireturn, 1) := by decide +kernel
theorem dL_tellWeather_17 : decode cL_tellWeather 17 = .ok (.astore 4, 2) := by decide +kernel
theorem dL_tellWeather_19 : decode cL_tellWeather 19 = .ok (.iconst 2, 1) := by decide +kernel
theorem dL_tellWeather_20 : decode cL_tellWeather 20 = .ok (.ireturn, 1) := by decide +kernel
theorem dL_tellWeather_21 : decode cL_tellWeather 21 = .ok (.iconst 0, 1) := by decide +kernel
theorem dL_tellWeather_22 : decode cL_tellWeather 22 = .ok (.ireturn, 1) := by decide +kernel
theorem dL_level_0 : decode cL_level 0 = .ok (.aload_n 2, 1) := by decide +kernel
theorem dL_level_1 : decode cL_level 1 = .ok (.iconst 0, 1) := by decide +kernel
theorem dL_level_2 : decode cL_level 2 = .ok (.aload_n 0, 1) := by decide +kernel
theorem dL_level_3 : decode cL_level 3 = .ok (.iload_n 1, 1) := by decide +kernel
theorem dL_level_4 : decode cL_level 4 = .ok (.invokevirtual 33, 3) := by decide +kernel
theorem dL_level_7 : decode cL_level 7 = .ok (.i2l, 1) := by decide +kernel
theorem dL_level_8 : decode cL_level 8 = .ok (.lastore, 1) := by decide +kernel
theorem dL_level_9 : decode cL_level 9 = .ok (.goto 6, 3) := by decide +kernel
theorem dL_level_12 : decode cL_level 12 = .ok (.astore_n 3, 1) := by decide +kernel
theorem dL_level_13 : decode cL_level 13 = .ok (.iconst 1, 1) := by decide +kernel
theorem dL_level_14 : decode cL_level 14 = .ok (.ireturn, 1) := by decide +kernel
theorem dL_level_15 : decode cL_level 15 = .ok (.iconst 0, 1) := by decide +kernel
theorem dL_level_16 : decode cL_level 16 = .ok (.ireturn, 1) := by decide +kernel
theorem dL_isBad_0 : decode cL_isBad 0 = .ok (.aload_n 2, 1) := by decide +kernel
theorem dL_isBad_1 : decode cL_isBad 1 = .ok (.iconst 0, 1) := by decide +kernel
theorem dL_isBad_2 : decode cL_isBad 2 = .ok (.aload_n 0, 1) := by decide +kernel
theorem dL_isBad_3 : decode cL_isBad 3 = .ok (.iload_n 1, 1) := by decide +kernel
theorem dL_isBad_4 : decode cL_isBad 4 = .ok (.invokevirtual 37, 3) := by decide +kernel
theorem dL_isBad_7 : decode cL_isBad 7 = .ok (.ifCond .eq 7, 3) := by decide +kernel
theorem dL_isBad_10 : decode cL_isBad 10 = .ok (.lconst 1, 1) := by decide +kernel
theorem dL_isBad_11 : decode cL_isBad 11 = .ok (.goto 4, 3) := by decide +kernel
theorem dL_isBad_14 : decode cL_isBad 14 = .ok (.lconst 0, 1) := by decide +kernel
theorem dL_isBad_15 : decode cL_isBad 15 = .ok (.lastore, 1) := by decide +kernel
theorem dL_isBad_16 : decode cL_isBad 16 = .ok (.goto 6, 3) := by decide +kernel
theorem dL_isBad_19 : decode cL_isBad 19 = .ok (.astore_n 3, 1) := by decide +kernel
theorem dL_isBad_20 : decode cL_isBad 20 = .ok (.iconst 1, 1) := by decide +kernel
theorem dL_isBad_21 : decode cL_isBad 21 = .ok (.ireturn, 1) := by decide +kernel
theorem dL_isBad_22 : decode cL_isBad 22 = .ok (.iconst 0, 1) := by decide +kernel
theorem dL_isBad_23 : decode cL_isBad 23 = .ok (.ireturn, 1) := by decide +kernel
theorem dL_floodHours_0 : decode cL_floodHours 0 = .ok (.aload_n 3, 1) := by decide +kernel
theorem dL_floodHours_1 : decode cL_floodHours 1 = .ok (.iconst 0, 1) := by decide +kernel
theorem dL_floodHours_2 : decode cL_floodHours 2 = .ok (.aload_n 0, 1) := by decide +kernel
theorem dL_floodHours_3 : decode cL_floodHours 3 = .ok (.iload_n 1, 1) := by decide +kernel
theorem dL_floodHours_4 : decode cL_floodHours 4 = .ok (.iload_n 2, 1) := by decide +kernel
theorem dL_floodHours_5 : decode cL_floodHours 5 = .ok (.invokevirtual 41, 3) := by decide +kernel
theorem dL_floodHours_8 : decode cL_floodHours 8 = .ok (.i2l, 1) := by decide +kernel
theorem dL_floodHours_9 : decode cL_floodHours 9 = .ok (.lastore, 1) := by decide +kernel
theorem dL_floodHours_10 : decode cL_floodHours 10 = .ok (.goto 11, 3) := by decide +kernel
theorem dL_floodHours_13 : decode cL_floodHours 13 = .ok (.astore 4, 2) := by decide +kernel
theorem dL_floodHours_15 : decode cL_floodHours 15 = .ok (.iconst 1, 1) := by decide +kernel
theorem dL_floodHours_16 : decode cL_floodHours 16 = .ok (.ireturn, 1) := by decide +kernel
theorem dL_floodHours_17 : decode cL_floodHours 17 = .ok (.astore 4, 2) := by decide +kernel
theorem dL_floodHours_19 : decode cL_floodHours 19 = .ok (.iconst 2, 1) := by decide +kernel
theorem dL_floodHours_20 : decode cL_floodHours 20 = .ok (.ireturn, 1) := by decide +kernel
theorem dL_floodHours_21 : decode cL_floodHours 21 = .ok (.iconst 0, 1) := by decide +kernel
theorem dL_floodHours_22 : decode cL_floodHours 22 = .ok (.ireturn, 1) := by decide +kernel
theorem dL_floodByHours_0 : decode cL_floodByHours 0 = .ok (.aload_n 3, 1) := by decide +kernel
theorem dL_floodByHours_1 : decode cL_floodByHours 1 = .ok (.iconst 0, 1) := by decide +kernel
theorem dL_floodByHours_2 : decode cL_floodByHours 2 = .ok (.aload_n 0, 1) := by decide +kernel
theorem dL_floodByHours_3 : decode cL_floodByHours 3 = .ok (.iload_n 1, 1) := by decide +kernel
theorem dL_floodByHours_4 : decode cL_floodByHours 4 = .ok (.iload_n 2, 1) := by decide +kernel
theorem dL_floodByHours_5 : decode cL_floodByHours 5 = .ok (.invokevirtual 44, 3) := by decide +kernel
theorem dL_floodByHours_8 : decode cL_floodByHours 8 = .ok (.i2l, 1) := by decide +kernel
theorem dL_floodByHours_9 : decode cL_floodByHours 9 = .ok (.lastore, 1) := by decide +kernel
theorem dL_floodByHours_10 : decode cL_floodByHours 10 = .ok (.goto 11, 3) := by decide +kernel
theorem dL_floodByHours_13 : decode cL_floodByHours 13 = .ok (.astore 4, 2) := by decide +kernel
theorem dL_floodByHours_15 : decode cL_floodByHours 15 = .ok (.iconst 1, 1) := by decide +kernel
theorem dL_floodByHours_16 : decode cL_floodByHours 16 = .ok (.ireturn, 1) := by decide +kernel
theorem dL_floodByHours_17 : decode cL_floodByHours 17 = .ok (.astore 4, 2) := by decide +kernel
theorem dL_floodByHours_19 : decode cL_floodByHours 19 = .ok (.iconst 2, 1) := by decide +kernel
theorem dL_floodByHours_20 : decode cL_floodByHours 20 = .ok (.ireturn, 1) := by decide +kernel
theorem dL_floodByHours_21 : decode cL_floodByHours 21 = .ok (.iconst 0, 1) := by decide +kernel
theorem dL_floodByHours_22 : decode cL_floodByHours 22 = .ok (.ireturn, 1) := by decide +kernel
theorem dL_nextFlood_0 : decode cL_nextFlood 0 = .ok (.aload_n 2, 1) := by decide +kernel
theorem dL_nextFlood_1 : decode cL_nextFlood 1 = .ok (.iconst 0, 1) := by decide +kernel
theorem dL_nextFlood_2 : decode cL_nextFlood 2 = .ok (.aload_n 0, 1) := by decide +kernel
theorem dL_nextFlood_3 : decode cL_nextFlood 3 = .ok (.iload_n 1, 1) := by decide +kernel
theorem dL_nextFlood_4 : decode cL_nextFlood 4 = .ok (.invokevirtual 47, 3) := by decide +kernel
theorem dL_nextFlood_7 : decode cL_nextFlood 7 = .ok (.i2l, 1) := by decide +kernel
theorem dL_nextFlood_8 : decode cL_nextFlood 8 = .ok (.lastore, 1) := by decide +kernel
theorem dL_nextFlood_9 : decode cL_nextFlood 9 = .ok (.goto 9, 3) := by decide +kernel
theorem dL_nextFlood_12 : decode cL_nextFlood 12 = .ok (.astore_n 3, 1) := by decide +kernel
theorem dL_nextFlood_13 : decode cL_nextFlood 13 = .ok (.iconst 1, 1) := by decide +kernel
theorem dL_nextFlood_14 : decode cL_nextFlood 14 = .ok (.ireturn, 1) := by decide +kernel
theorem dL_nextFlood_15 : decode cL_nextFlood 15 = .ok (.astore_n 3, 1) := by decide +kernel
theorem dL_nextFlood_16 : decode cL_nextFlood 16 = .ok (.iconst 2, 1) := by decide +kernel
theorem dL_nextFlood_17 : decode cL_nextFlood 17 = .ok (.ireturn, 1) := by decide +kernel
theorem dL_nextFlood_18 : decode cL_nextFlood 18 = .ok (.iconst 0, 1) := by decide +kernel
theorem dL_nextFlood_19 : decode cL_nextFlood 19 = .ok (.ireturn, 1) := by decide +kernel
theorem dL_lift_0 : decode cL_lift 0 = .ok (.aload_n 3, 1) := by decide +kernel
theorem dL_lift_1 : decode cL_lift 1 = .ok (.iconst 0, 1) := by decide +kernel
theorem dL_lift_2 : decode cL_lift 2 = .ok (.aload_n 0, 1) := by decide +kernel
theorem dL_lift_3 : decode cL_lift 3 = .ok (.iload_n 1, 1) := by decide +kernel
theorem dL_lift_4 : decode cL_lift 4 = .ok (.iload_n 2, 1) := by decide +kernel
theorem dL_lift_5 : decode cL_lift 5 = .ok (.invokevirtual 52, 3) := by decide +kernel
theorem dL_lift_8 : decode cL_lift 8 = .ok (.i2l, 1) := by decide +kernel
theorem dL_lift_9 : decode cL_lift 9 = .ok (.lastore, 1) := by decide +kernel
theorem dL_lift_10 : decode cL_lift 10 = .ok (.goto 11, 3) := by decide +kernel
theorem dL_lift_13 : decode cL_lift 13 = .ok (.astore 4, 2) := by decide +kernel
theorem dL_lift_15 : decode cL_lift 15 = .ok (.iconst 1, 1) := by decide +kernel
theorem dL_lift_16 : decode cL_lift 16 = .ok (.ireturn, 1) := by decide +kernel
theorem dL_lift_17 : decode cL_lift 17 = .ok (.astore 4, 2) := by decide +kernel
theorem dL_lift_19 : decode cL_lift 19 = .ok (.iconst 2, 1) := by decide +kernel
theorem dL_lift_20 : decode cL_lift 20 = .ok (.ireturn, 1) := by decide +kernel
theorem dL_lift_21 : decode cL_lift 21 = .ok (.iconst 0, 1) := by decide +kernel
theorem dL_lift_22 : decode cL_lift 22 = .ok (.ireturn, 1) := by decide +kernel
theorem dL_liftReason_0 : decode cL_liftReason 0 = .ok (.aload_n 3, 1) := by decide +kernel
theorem dL_liftReason_1 : decode cL_liftReason 1 = .ok (.iconst 0, 1) := by decide +kernel
theorem dL_liftReason_2 : decode cL_liftReason 2 = .ok (.aload_n 0, 1) := by decide +kernel
theorem dL_liftReason_3 : decode cL_liftReason 3 = .ok (.iload_n 1, 1) := by decide +kernel
theorem dL_liftReason_4 : decode cL_liftReason 4 = .ok (.iload_n 2, 1) := by decide +kernel
theorem dL_liftReason_5 : decode cL_liftReason 5 = .ok (.invokevirtual 55, 3) := by decide +kernel
theorem dL_liftReason_8 : decode cL_liftReason 8 = .ok (.i2l, 1) := by decide +kernel
theorem dL_liftReason_9 : decode cL_liftReason 9 = .ok (.lastore, 1) := by decide +kernel
theorem dL_liftReason_10 : decode cL_liftReason 10 = .ok (.goto 7, 3) := by decide +kernel
theorem dL_liftReason_13 : decode cL_liftReason 13 = .ok (.astore 4, 2) := by decide +kernel
theorem dL_liftReason_15 : decode cL_liftReason 15 = .ok (.iconst 1, 1) := by decide +kernel
theorem dL_liftReason_16 : decode cL_liftReason 16 = .ok (.ireturn, 1) := by decide +kernel
theorem dL_liftReason_17 : decode cL_liftReason 17 = .ok (.iconst 0, 1) := by decide +kernel
theorem dL_liftReason_18 : decode cL_liftReason 18 = .ok (.ireturn, 1) := by decide +kernel
theorem dL_launch_0 : decode cL_launch 0 = .ok (.aload_n 2, 1) := by decide +kernel
theorem dL_launch_1 : decode cL_launch 1 = .ok (.iconst 0, 1) := by decide +kernel
theorem dL_launch_2 : decode cL_launch 2 = .ok (.aload_n 0, 1) := by decide +kernel
theorem dL_launch_3 : decode cL_launch 3 = .ok (.iload_n 1, 1) := by decide +kernel
theorem dL_launch_4 : decode cL_launch 4 = .ok (.invokevirtual 59, 3) := by decide +kernel
theorem dL_launch_7 : decode cL_launch 7 = .ok (.i2l, 1) := by decide +kernel
theorem dL_launch_8 : decode cL_launch 8 = .ok (.lastore, 1) := by decide +kernel
theorem dL_launch_9 : decode cL_launch 9 = .ok (.goto 9, 3) := by decide +kernel
theorem dL_launch_12 : decode cL_launch 12 = .ok (.astore_n 3, 1) := by decide +kernel
theorem dL_launch_13 : decode cL_launch 13 = .ok (.iconst 1, 1) := by decide +kernel
theorem dL_launch_14 : decode cL_launch 14 = .ok (.ireturn, 1) := by decide +kernel
theorem dL_launch_15 : decode cL_launch 15 = .ok (.astore_n 3, 1) := by decide +kernel
theorem dL_launch_16 : decode cL_launch 16 = .ok (.iconst 2, 1) := by decide +kernel
theorem dL_launch_17 : decode cL_launch 17 = .ok (.ireturn, 1) := by decide +kernel
theorem dL_launch_18 : decode cL_launch 18 = .ok (.iconst 0, 1) := by decide +kernel
theorem dL_launch_19 : decode cL_launch 19 = .ok (.ireturn, 1) := by decide +kernel
theorem dL_launchReason_0 : decode cL_launchReason 0 = .ok (.aload_n 2, 1) := by decide +kernel
theorem dL_launchReason_1 : decode cL_launchReason 1 = .ok (.iconst 0, 1) := by decide +kernel
theorem dL_launchReason_2 : decode cL_launchReason 2 = .ok (.aload_n 0, 1) := by decide +kernel
theorem dL_launchReason_3 : decode cL_launchReason 3 = .ok (.iload_n 1, 1) := by decide +kernel
theorem dL_launchReason_4 : decode cL_launchReason 4 = .ok (.invokevirtual 62, 3) := by decide +kernel
theorem dL_launchReason_7 : decode cL_launchReason 7 = .ok (.i2l, 1) := by decide +kernel
theorem dL_launchReason_8 : decode cL_launchReason 8 = .ok (.lastore, 1) := by decide +kernel
theorem dL_launchReason_9 : decode cL_launchReason 9 = .ok (.goto 6, 3) := by decide +kernel
theorem dL_launchReason_12 : decode cL_launchReason 12 = .ok (.astore_n 3, 1) := by decide +kernel
theorem dL_launchReason_13 : decode cL_launchReason 13 = .ok (.iconst 1, 1) := by decide +kernel
theorem dL_launchReason_14 : decode cL_launchReason 14 = .ok (.ireturn, 1) := by decide +kernel
theorem dL_launchReason_15 : decode cL_launchReason 15 = .ok (.iconst 0, 1) := by decide +kernel
theorem dL_launchReason_16 : decode cL_launchReason 16 = .ok (.ireturn, 1) := by decide +kernel
theorem dL_shift_0 : decode cL_shift 0 = .ok (.aload_n 3, 1) := by decide +kernel
theorem dL_shift_1 : decode cL_shift 1 = .ok (.iconst 0, 1) := by decide +kernel
theorem dL_shift_2 : decode cL_shift 2 = .ok (.aload_n 0, 1) := by decide +kernel
theorem dL_shift_3 : decode cL_shift 3 = .ok (.iload_n 1, 1) := by decide +kernel
theorem dL_shift_4 : decode cL_shift 4 = .ok (.iload_n 2, 1) := by decide +kernel
theorem dL_shift_5 : decode cL_shift 5 = .ok (.invokevirtual 66, 3) := by decide +kernel
theorem dL_shift_8 : decode cL_shift 8 = .ok (.i2l, 1) := by decide +kernel
theorem dL_shift_9 : decode cL_shift 9 = .ok (.lastore, 1) := by decide +kernel
theorem dL_shift_10 : decode cL_shift 10 = .ok (.goto 11, 3) := by decide +kernel
theorem dL_shift_13 : decode cL_shift 13 = .ok (.astore 4, 2) := by decide +kernel
theorem dL_shift_15 : decode cL_shift 15 = .ok (.iconst 1, 1) := by decide +kernel
theorem dL_shift_16 : decode cL_shift 16 = .ok (.ireturn, 1) := by decide +kernel
theorem dL_shift_17 : decode cL_shift 17 = .ok (.astore 4, 2) := by decide +kernel
theorem dL_shift_19 : decode cL_shift 19 = .ok (.iconst 2, 1) := by decide +kernel
theorem dL_shift_20 : decode cL_shift 20 = .ok (.ireturn, 1) := by decide +kernel
theorem dL_shift_21 : decode cL_shift 21 = .ok (.iconst 0, 1) := by decide +kernel
theorem dL_shift_22 : decode cL_shift 22 = .ok (.ireturn, 1) := by decide +kernel
theorem dL_shiftReason_0 : decode cL_shiftReason 0 = .ok (.aload_n 3, 1) := by decide +kernel
theorem dL_shiftReason_1 : decode cL_shiftReason 1 = .ok (.iconst 0, 1) := by decide +kernel
theorem dL_shiftReason_2 : decode cL_shiftReason 2 = .ok (.aload_n 0, 1) := by decide +kernel
theorem dL_shiftReason_3 : decode cL_shiftReason 3 = .ok (.iload_n 1, 1) := by decide +kernel
theorem dL_shiftReason_4 : decode cL_shiftReason 4 = .ok (.iload_n 2, 1) := by decide +kernel
theorem dL_shiftReason_5 : decode cL_shiftReason 5 = .ok (.invokevirtual 69, 3) := by decide +kernel
theorem dL_shiftReason_8 : decode cL_shiftReason 8 = .ok (.i2l, 1) := by decide +kernel
theorem dL_shiftReason_9 : decode cL_shiftReason 9 = .ok (.lastore, 1) := by decide +kernel
theorem dL_shiftReason_10 : decode cL_shiftReason 10 = .ok (.goto 7, 3) := by decide +kernel
theorem dL_shiftReason_13 : decode cL_shiftReason 13 = .ok (.astore 4, 2) := by decide +kernel
theorem dL_shiftReason_15 : decode cL_shiftReason 15 = .ok (.iconst 1, 1) := by decide +kernel
theorem dL_shiftReason_16 : decode cL_shiftReason 16 = .ok (.ireturn, 1) := by decide +kernel
theorem dL_shiftReason_17 : decode cL_shiftReason 17 = .ok (.iconst 0, 1) := by decide +kernel
theorem dL_shiftReason_18 : decode cL_shiftReason 18 = .ok (.ireturn, 1) := by decide +kernel
theorem dL_comeBack_0 : decode cL_comeBack 0 = .ok (.aload_n 2, 1) := by decide +kernel
theorem dL_comeBack_1 : decode cL_comeBack 1 = .ok (.iconst 0, 1) := by decide +kernel
theorem dL_comeBack_2 : decode cL_comeBack 2 = .ok (.aload_n 0, 1) := by decide +kernel
theorem dL_comeBack_3 : decode cL_comeBack 3 = .ok (.iload_n 1, 1) := by decide +kernel
theorem dL_comeBack_4 : decode cL_comeBack 4 = .ok (.invokevirtual 72, 3) := by decide +kernel
theorem dL_comeBack_7 : decode cL_comeBack 7 = .ok (.i2l, 1) := by decide +kernel
theorem dL_comeBack_8 : decode cL_comeBack 8 = .ok (.lastore, 1) := by decide +kernel
theorem dL_comeBack_9 : decode cL_comeBack 9 = .ok (.goto 9, 3) := by decide +kernel
theorem dL_comeBack_12 : decode cL_comeBack 12 = .ok (.astore_n 3, 1) := by decide +kernel
theorem dL_comeBack_13 : decode cL_comeBack 13 = .ok (.iconst 1, 1) := by decide +kernel
theorem dL_comeBack_14 : decode cL_comeBack 14 = .ok (.ireturn, 1) := by decide +kernel
theorem dL_comeBack_15 : decode cL_comeBack 15 = .ok (.astore_n 3, 1) := by decide +kernel
theorem dL_comeBack_16 : decode cL_comeBack 16 = .ok (.iconst 2, 1) := by decide +kernel
theorem dL_comeBack_17 : decode cL_comeBack 17 = .ok (.ireturn, 1) := by decide +kernel
theorem dL_comeBack_18 : decode cL_comeBack 18 = .ok (.iconst 0, 1) := by decide +kernel
theorem dL_comeBack_19 : decode cL_comeBack 19 = .ok (.ireturn, 1) := by decide +kernel
theorem dL_nextWaiting_0 : decode cL_nextWaiting 0 = .ok (.aload_n 1, 1) := by decide +kernel
theorem dL_nextWaiting_1 : decode cL_nextWaiting 1 = .ok (.iconst 0, 1) := by decide +kernel
theorem dL_nextWaiting_2 : decode cL_nextWaiting 2 = .ok (.aload_n 0, 1) := by decide +kernel
theorem dL_nextWaiting_3 : decode cL_nextWaiting 3 = .ok (.invokevirtual 75, 3) := by decide +kernel
theorem dL_nextWaiting_6 : decode cL_nextWaiting 6 = .ok (.i2l, 1) := by decide +kernel
theorem dL_nextWaiting_7 : decode cL_nextWaiting 7 = .ok (.lastore, 1) := by decide +kernel
theorem dL_nextWaiting_8 : decode cL_nextWaiting 8 = .ok (.goto 6, 3) := by decide +kernel
theorem dL_nextWaiting_11 : decode cL_nextWaiting 11 = .ok (.astore_n 2, 1) := by decide +kernel
theorem dL_nextWaiting_12 : decode cL_nextWaiting 12 = .ok (.iconst 1, 1) := by decide +kernel
theorem dL_nextWaiting_13 : decode cL_nextWaiting 13 = .ok (.ireturn, 1) := by decide +kernel
theorem dL_nextWaiting_14 : decode cL_nextWaiting 14 = .ok (.iconst 0, 1) := by decide +kernel
theorem dL_nextWaiting_15 : decode cL_nextWaiting 15 = .ok (.ireturn, 1) := by decide +kernel
theorem dL_state_0 : decode cL_state 0 = .ok (.aload_n 2, 1) := by decide +kernel
theorem dL_state_1 : decode cL_state 1 = .ok (.iconst 0, 1) := by decide +kernel
theorem dL_state_2 : decode cL_state 2 = .ok (.aload_n 0, 1) := by decide +kernel
theorem dL_state_3 : decode cL_state 3 = .ok (.iload_n 1, 1) := by decide +kernel
theorem dL_state_4 : decode cL_state 4 = .ok (.invokevirtual 79, 3) := by decide +kernel
theorem dL_state_7 : decode cL_state 7 = .ok (.i2l, 1) := by decide +kernel
theorem dL_state_8 : decode cL_state 8 = .ok (.lastore, 1) := by decide +kernel
theorem dL_state_9 : decode cL_state 9 = .ok (.goto 6, 3) := by decide +kernel
theorem dL_state_12 : decode cL_state 12 = .ok (.astore_n 3, 1) := by decide +kernel
theorem dL_state_13 : decode cL_state 13 = .ok (.iconst 1, 1) := by decide +kernel
theorem dL_state_14 : decode cL_state 14 = .ok (.ireturn, 1) := by decide +kernel
theorem dL_state_15 : decode cL_state 15 = .ok (.iconst 0, 1) := by decide +kernel
theorem dL_state_16 : decode cL_state 16 = .ok (.ireturn, 1) := by decide +kernel
theorem dL_berthOf_0 : decode cL_berthOf 0 = .ok (.aload_n 2, 1) := by decide +kernel
theorem dL_berthOf_1 : decode cL_berthOf 1 = .ok (.iconst 0, 1) := by decide +kernel
theorem dL_berthOf_2 : decode cL_berthOf 2 = .ok (.aload_n 0, 1) := by decide +kernel
theorem dL_berthOf_3 : decode cL_berthOf 3 = .ok (.iload_n 1, 1) := by decide +kernel
theorem dL_berthOf_4 : decode cL_berthOf 4 = .ok (.invokevirtual 82, 3) := by decide +kernel
theorem dL_berthOf_7 : decode cL_berthOf 7 = .ok (.i2l, 1) := by decide +kernel
theorem dL_berthOf_8 : decode cL_berthOf 8 = .ok (.lastore, 1) := by decide +kernel
theorem dL_berthOf_9 : decode cL_berthOf 9 = .ok (.goto 9, 3) := by decide +kernel
theorem dL_berthOf_12 : decode cL_berthOf 12 = .ok (.astore_n 3, 1) := by decide +kernel
theorem dL_berthOf_13 : decode cL_berthOf 13 = .ok (.iconst 1, 1) := by decide +kernel
theorem dL_berthOf_14 : decode cL_berthOf 14 = .ok (.ireturn, 1) := by decide +kernel
theorem dL_berthOf_15 : decode cL_berthOf 15 = .ok (.astore_n 3, 1) := by decide +kernel
theorem dL_berthOf_16 : decode cL_berthOf 16 = .ok (.iconst 2, 1) := by decide +kernel
theorem dL_berthOf_17 : decode cL_berthOf 17 = .ok (.ireturn, 1) := by decide +kernel
theorem dL_berthOf_18 : decode cL_berthOf 18 = .ok (.iconst 0, 1) := by decide +kernel
theorem dL_berthOf_19 : decode cL_berthOf 19 = .ok (.ireturn, 1) := by decide +kernel
theorem dL_boatIn_0 : decode cL_boatIn 0 = .ok (.aload_n 2, 1) := by decide +kernel
theorem dL_boatIn_1 : decode cL_boatIn 1 = .ok (.iconst 0, 1) := by decide +kernel
theorem dL_boatIn_2 : decode cL_boatIn 2 = .ok (.aload_n 0, 1) := by decide +kernel
theorem dL_boatIn_3 : decode cL_boatIn 3 = .ok (.iload_n 1, 1) := by decide +kernel
theorem dL_boatIn_4 : decode cL_boatIn 4 = .ok (.invokevirtual 85, 3) := by decide +kernel
theorem dL_boatIn_7 : decode cL_boatIn 7 = .ok (.i2l, 1) := by decide +kernel
theorem dL_boatIn_8 : decode cL_boatIn 8 = .ok (.lastore, 1) := by decide +kernel
theorem dL_boatIn_9 : decode cL_boatIn 9 = .ok (.goto 9, 3) := by decide +kernel
theorem dL_boatIn_12 : decode cL_boatIn 12 = .ok (.astore_n 3, 1) := by decide +kernel
theorem dL_boatIn_13 : decode cL_boatIn 13 = .ok (.iconst 1, 1) := by decide +kernel
theorem dL_boatIn_14 : decode cL_boatIn 14 = .ok (.ireturn, 1) := by decide +kernel
theorem dL_boatIn_15 : decode cL_boatIn 15 = .ok (.astore_n 3, 1) := by decide +kernel
theorem dL_boatIn_16 : decode cL_boatIn 16 = .ok (.iconst 2, 1) := by decide +kernel
theorem dL_boatIn_17 : decode cL_boatIn 17 = .ok (.ireturn, 1) := by decide +kernel
theorem dL_boatIn_18 : decode cL_boatIn 18 = .ok (.iconst 0, 1) := by decide +kernel
theorem dL_boatIn_19 : decode cL_boatIn 19 = .ok (.ireturn, 1) := by decide +kernel
theorem dL_paint_0 : decode cL_paint 0 = .ok (.aload_n 3, 1) := by decide +kernel
theorem dL_paint_1 : decode cL_paint 1 = .ok (.iconst 0, 1) := by decide +kernel
theorem dL_paint_2 : decode cL_paint 2 = .ok (.aload_n 0, 1) := by decide +kernel
theorem dL_paint_3 : decode cL_paint 3 = .ok (.iload_n 1, 1) := by decide +kernel
theorem dL_paint_4 : decode cL_paint 4 = .ok (.iload_n 2, 1) := by decide +kernel
theorem dL_paint_5 : decode cL_paint 5 = .ok (.invokevirtual 88, 3) := by decide +kernel
theorem dL_paint_8 : decode cL_paint 8 = .ok (.i2l, 1) := by decide +kernel
theorem dL_paint_9 : decode cL_paint 9 = .ok (.lastore, 1) := by decide +kernel
theorem dL_paint_10 : decode cL_paint 10 = .ok (.goto 15, 3) := by decide +kernel
theorem dL_paint_13 : decode cL_paint 13 = .ok (.astore 4, 2) := by decide +kernel
theorem dL_paint_15 : decode cL_paint 15 = .ok (.iconst 1, 1) := by decide +kernel
theorem dL_paint_16 : decode cL_paint 16 = .ok (.ireturn, 1) := by decide +kernel
theorem dL_paint_17 : decode cL_paint 17 = .ok (.astore 4, 2) := by decide +kernel
theorem dL_paint_19 : decode cL_paint 19 = .ok (.iconst 2, 1) := by decide +kernel
theorem dL_paint_20 : decode cL_paint 20 = .ok (.ireturn, 1) := by decide +kernel
theorem dL_paint_21 : decode cL_paint 21 = .ok (.astore 4, 2) := by decide +kernel
theorem dL_paint_23 : decode cL_paint 23 = .ok (.iconst 3, 1) := by decide +kernel
theorem dL_paint_24 : decode cL_paint 24 = .ok (.ireturn, 1) := by decide +kernel
theorem dL_paint_25 : decode cL_paint 25 = .ok (.iconst 0, 1) := by decide +kernel
theorem dL_paint_26 : decode cL_paint 26 = .ok (.ireturn, 1) := by decide +kernel
theorem dL_dryLeft_0 : decode cL_dryLeft 0 = .ok (.aload_n 2, 1) := by decide +kernel
theorem dL_dryLeft_1 : decode cL_dryLeft 1 = .ok (.iconst 0, 1) := by decide +kernel
theorem dL_dryLeft_2 : decode cL_dryLeft 2 = .ok (.aload_n 0, 1) := by decide +kernel
theorem dL_dryLeft_3 : decode cL_dryLeft 3 = .ok (.iload_n 1, 1) := by decide +kernel
theorem dL_dryLeft_4 : decode cL_dryLeft 4 = .ok (.invokevirtual 91, 3) := by decide +kernel
theorem dL_dryLeft_7 : decode cL_dryLeft 7 = .ok (.i2l, 1) := by decide +kernel
theorem dL_dryLeft_8 : decode cL_dryLeft 8 = .ok (.lastore, 1) := by decide +kernel
theorem dL_dryLeft_9 : decode cL_dryLeft 9 = .ok (.goto 6, 3) := by decide +kernel
theorem dL_dryLeft_12 : decode cL_dryLeft 12 = .ok (.astore_n 3, 1) := by decide +kernel
theorem dL_dryLeft_13 : decode cL_dryLeft 13 = .ok (.iconst 1, 1) := by decide +kernel
theorem dL_dryLeft_14 : decode cL_dryLeft 14 = .ok (.ireturn, 1) := by decide +kernel
theorem dL_dryLeft_15 : decode cL_dryLeft 15 = .ok (.iconst 0, 1) := by decide +kernel
theorem dL_dryLeft_16 : decode cL_dryLeft 16 = .ok (.ireturn, 1) := by decide +kernel
theorem dL_dryAt_0 : decode cL_dryAt 0 = .ok (.aload_n 2, 1) := by decide +kernel
theorem dL_dryAt_1 : decode cL_dryAt 1 = .ok (.iconst 0, 1) := by decide +kernel
theorem dL_dryAt_2 : decode cL_dryAt 2 = .ok (.aload_n 0, 1) := by decide +kernel
theorem dL_dryAt_3 : decode cL_dryAt 3 = .ok (.iload_n 1, 1) := by decide +kernel
theorem dL_dryAt_4 : decode cL_dryAt 4 = .ok (.invokevirtual 94, 3) := by decide +kernel
theorem dL_dryAt_7 : decode cL_dryAt 7 = .ok (.i2l, 1) := by decide +kernel
theorem dL_dryAt_8 : decode cL_dryAt 8 = .ok (.lastore, 1) := by decide +kernel
theorem dL_dryAt_9 : decode cL_dryAt 9 = .ok (.goto 6, 3) := by decide +kernel
theorem dL_dryAt_12 : decode cL_dryAt 12 = .ok (.astore_n 3, 1) := by decide +kernel
theorem dL_dryAt_13 : decode cL_dryAt 13 = .ok (.iconst 1, 1) := by decide +kernel
theorem dL_dryAt_14 : decode cL_dryAt 14 = .ok (.ireturn, 1) := by decide +kernel
theorem dL_dryAt_15 : decode cL_dryAt 15 = .ok (.iconst 0, 1) := by decide +kernel
theorem dL_dryAt_16 : decode cL_dryAt 16 = .ok (.ireturn, 1) := by decide +kernel
theorem dL_dryByHours_0 : decode cL_dryByHours 0 = .ok (.aload_n 2, 1) := by decide +kernel
theorem dL_dryByHours_1 : decode cL_dryByHours 1 = .ok (.iconst 0, 1) := by decide +kernel
theorem dL_dryByHours_2 : decode cL_dryByHours 2 = .ok (.aload_n 0, 1) := by decide +kernel
theorem dL_dryByHours_3 : decode cL_dryByHours 3 = .ok (.iload_n 1, 1) := by decide +kernel
theorem dL_dryByHours_4 : decode cL_dryByHours 4 = .ok (.invokevirtual 97, 3) := by decide +kernel
theorem dL_dryByHours_7 : decode cL_dryByHours 7 = .ok (.i2l, 1) := by decide +kernel
theorem dL_dryByHours_8 : decode cL_dryByHours 8 = .ok (.lastore, 1) := by decide +kernel
theorem dL_dryByHours_9 : decode cL_dryByHours 9 = .ok (.goto 6, 3) := by decide +kernel
theorem dL_dryByHours_12 : decode cL_dryByHours 12 = .ok (.astore_n 3, 1) := by decide +kernel
theorem dL_dryByHours_13 : decode cL_dryByHours 13 = .ok (.iconst 1, 1) := by decide +kernel
theorem dL_dryByHours_14 : decode cL_dryByHours 14 = .ok (.ireturn, 1) := by decide +kernel
theorem dL_dryByHours_15 : decode cL_dryByHours 15 = .ok (.iconst 0, 1) := by decide +kernel
theorem dL_dryByHours_16 : decode cL_dryByHours 16 = .ok (.ireturn, 1) := by decide +kernel
theorem dL_pass_0 : decode cL_pass 0 = .ok (.aload_n 2, 1) := by decide +kernel
theorem dL_pass_1 : decode cL_pass 1 = .ok (.iconst 0, 1) := by decide +kernel
theorem dL_pass_2 : decode cL_pass 2 = .ok (.aload_n 0, 1) := by decide +kernel
theorem dL_pass_3 : decode cL_pass 3 = .ok (.iload_n 1, 1) := by decide +kernel
theorem dL_pass_4 : decode cL_pass 4 = .ok (.invokevirtual 100, 3) := by decide +kernel
theorem dL_pass_7 : decode cL_pass 7 = .ok (.i2l, 1) := by decide +kernel
theorem dL_pass_8 : decode cL_pass 8 = .ok (.lastore, 1) := by decide +kernel
theorem dL_pass_9 : decode cL_pass 9 = .ok (.goto 6, 3) := by decide +kernel
theorem dL_pass_12 : decode cL_pass 12 = .ok (.astore_n 3, 1) := by decide +kernel
theorem dL_pass_13 : decode cL_pass 13 = .ok (.iconst 1, 1) := by decide +kernel
theorem dL_pass_14 : decode cL_pass 14 = .ok (.ireturn, 1) := by decide +kernel
theorem dL_pass_15 : decode cL_pass 15 = .ok (.iconst 0, 1) := by decide +kernel
theorem dL_pass_16 : decode cL_pass 16 = .ok (.ireturn, 1) := by decide +kernel
theorem dL_leastShifted_0 : decode cL_leastShifted 0 = .ok (.aload_n 2, 1) := by decide +kernel
theorem dL_leastShifted_1 : decode cL_leastShifted 1 = .ok (.iconst 0, 1) := by decide +kernel
theorem dL_leastShifted_2 : decode cL_leastShifted 2 = .ok (.aload_n 0, 1) := by decide +kernel
theorem dL_leastShifted_3 : decode cL_leastShifted 3 = .ok (.iload_n 1, 1) := by decide +kernel
theorem dL_leastShifted_4 : decode cL_leastShifted 4 = .ok (.invokevirtual 103, 3) := by decide +kernel
theorem dL_leastShifted_7 : decode cL_leastShifted 7 = .ok (.i2l, 1) := by decide +kernel
theorem dL_leastShifted_8 : decode cL_leastShifted 8 = .ok (.lastore, 1) := by decide +kernel
theorem dL_leastShifted_9 : decode cL_leastShifted 9 = .ok (.goto 12, 3) := by decide +kernel
theorem dL_leastShifted_12 : decode cL_leastShifted 12 = .ok (.astore_n 3, 1) := by decide +kernel
theorem dL_leastShifted_13 : decode cL_leastShifted 13 = .ok (.iconst 1, 1) := by decide +kernel
theorem dL_leastShifted_14 : decode cL_leastShifted 14 = .ok (.ireturn, 1) := by decide +kernel
theorem dL_leastShifted_15 : decode cL_leastShifted 15 = .ok (.astore_n 3, 1) := by decide +kernel
theorem dL_leastShifted_16 : decode cL_leastShifted 16 = .ok (.iconst 2, 1) := by decide +kernel
theorem dL_leastShifted_17 : decode cL_leastShifted 17 = .ok (.ireturn, 1) := by decide +kernel
theorem dL_leastShifted_18 : decode cL_leastShifted 18 = .ok (.astore_n 3, 1) := by decide +kernel
theorem dL_leastShifted_19 : decode cL_leastShifted 19 = .ok (.iconst 3, 1) := by decide +kernel
theorem dL_leastShifted_20 : decode cL_leastShifted 20 = .ok (.ireturn, 1) := by decide +kernel
theorem dL_leastShifted_21 : decode cL_leastShifted 21 = .ok (.iconst 0, 1) := by decide +kernel
theorem dL_leastShifted_22 : decode cL_leastShifted 22 = .ok (.ireturn, 1) := by decide +kernel
theorem dL_leastByRounds_0 : decode cL_leastByRounds 0 = .ok (.aload_n 2, 1) := by decide +kernel
theorem dL_leastByRounds_1 : decode cL_leastByRounds 1 = .ok (.iconst 0, 1) := by decide +kernel
theorem dL_leastByRounds_2 : decode cL_leastByRounds 2 = .ok (.aload_n 0, 1) := by decide +kernel
theorem dL_leastByRounds_3 : decode cL_leastByRounds 3 = .ok (.iload_n 1, 1) := by decide +kernel
theorem dL_leastByRounds_4 : decode cL_leastByRounds 4 = .ok (.invokevirtual 106, 3) := by decide +kernel
theorem dL_leastByRounds_7 : decode cL_leastByRounds 7 = .ok (.i2l, 1) := by decide +kernel
theorem dL_leastByRounds_8 : decode cL_leastByRounds 8 = .ok (.lastore, 1) := by decide +kernel
theorem dL_leastByRounds_9 : decode cL_leastByRounds 9 = .ok (.goto 12, 3) := by decide +kernel
theorem dL_leastByRounds_12 : decode cL_leastByRounds 12 = .ok (.astore_n 3, 1) := by decide +kernel
theorem dL_leastByRounds_13 : decode cL_leastByRounds 13 = .ok (.iconst 1, 1) := by decide +kernel
theorem dL_leastByRounds_14 : decode cL_leastByRounds 14 = .ok (.ireturn, 1) := by decide +kernel
theorem dL_leastByRounds_15 : decode cL_leastByRounds 15 = .ok (.astore_n 3, 1) := by decide +kernel
theorem dL_leastByRounds_16 : decode cL_leastByRounds 16 = .ok (.iconst 2, 1) := by decide +kernel
theorem dL_leastByRounds_17 : decode cL_leastByRounds 17 = .ok (.ireturn, 1) := by decide +kernel
theorem dL_leastByRounds_18 : decode cL_leastByRounds 18 = .ok (.astore_n 3, 1) := by decide +kernel
theorem dL_leastByRounds_19 : decode cL_leastByRounds 19 = .ok (.iconst 3, 1) := by decide +kernel
theorem dL_leastByRounds_20 : decode cL_leastByRounds 20 = .ok (.ireturn, 1) := by decide +kernel
theorem dL_leastByRounds_21 : decode cL_leastByRounds 21 = .ok (.iconst 0, 1) := by decide +kernel
theorem dL_leastByRounds_22 : decode cL_leastByRounds 22 = .ok (.ireturn, 1) := by decide +kernel
theorem dL_usedShare_0 : decode cL_usedShare 0 = .ok (.aload_n 1, 1) := by decide +kernel
theorem dL_usedShare_1 : decode cL_usedShare 1 = .ok (.iconst 0, 1) := by decide +kernel
theorem dL_usedShare_2 : decode cL_usedShare 2 = .ok (.aload_n 0, 1) := by decide +kernel
theorem dL_usedShare_3 : decode cL_usedShare 3 = .ok (.invokevirtual 109, 3) := by decide +kernel
theorem dL_usedShare_6 : decode cL_usedShare 6 = .ok (.f2d, 1) := by decide +kernel
theorem dL_usedShare_7 : decode cL_usedShare 7 = .ok (.dastore, 1) := by decide +kernel
theorem dL_usedShare_8 : decode cL_usedShare 8 = .ok (.goto 6, 3) := by decide +kernel
theorem dL_usedShare_11 : decode cL_usedShare 11 = .ok (.astore_n 2, 1) := by decide +kernel
theorem dL_usedShare_12 : decode cL_usedShare 12 = .ok (.iconst 1, 1) := by decide +kernel
theorem dL_usedShare_13 : decode cL_usedShare 13 = .ok (.ireturn, 1) := by decide +kernel
theorem dL_usedShare_14 : decode cL_usedShare 14 = .ok (.iconst 0, 1) := by decide +kernel
theorem dL_usedShare_15 : decode cL_usedShare 15 = .ok (.ireturn, 1) := by decide +kernel
theorem dL_meanDraught_0 : decode cL_meanDraught 0 = .ok (.aload_n 1, 1) := by decide +kernel
theorem dL_meanDraught_1 : decode cL_meanDraught 1 = .ok (.iconst 0, 1) := by decide +kernel
theorem dL_meanDraught_2 : decode cL_meanDraught 2 = .ok (.aload_n 0, 1) := by decide +kernel
theorem dL_meanDraught_3 : decode cL_meanDraught 3 = .ok (.invokevirtual 115, 3) := by decide +kernel
theorem dL_meanDraught_6 : decode cL_meanDraught 6 = .ok (.dastore, 1) := by decide +kernel
theorem dL_meanDraught_7 : decode cL_meanDraught 7 = .ok (.goto 6, 3) := by decide +kernel
theorem dL_meanDraught_10 : decode cL_meanDraught 10 = .ok (.astore_n 2, 1) := by decide +kernel
theorem dL_meanDraught_11 : decode cL_meanDraught 11 = .ok (.iconst 1, 1) := by decide +kernel
theorem dL_meanDraught_12 : decode cL_meanDraught 12 = .ok (.ireturn, 1) := by decide +kernel
theorem dL_meanDraught_13 : decode cL_meanDraught 13 = .ok (.iconst 0, 1) := by decide +kernel
theorem dL_meanDraught_14 : decode cL_meanDraught 14 = .ok (.ireturn, 1) := by decide +kernel
