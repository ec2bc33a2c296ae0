theorem dX6_init_0 : decode cX6_init 0 = .ok (.aload_n 0, 1) := by decide +kernel
theorem dX6_init_1 : decode cX6_init 1 = .ok (.invokespecial 1, 3) := by decide +kernel
theorem dX6_init_4 : decode cX6_init 4 = .ok (.aload_n 0, 1) := by decide +kernel
theorem dX6_init_5 : decode cX6_init 5 = .ok (.bipush 8, 2) := by decide +kernel
theorem dX6_init_7 : decode cX6_init 7 = .ok (.newarray .int, 2) := by decide +kernel
theorem dX6_init_9 : decode cX6_init 9 = .ok (.putfield 9, 3) := by decide +kernel
theorem dX6_init_12 : decode cX6_init 12 = .ok (.aload_n 0, 1) := by decide +kernel
theorem dX6_init_13 : decode cX6_init 13 = .ok (.bipush 8, 2) := by decide +kernel
theorem dX6_init_15 : decode cX6_init 15 = .ok (.newarray .int, 2) := by decide +kernel
theorem dX6_init_17 : decode cX6_init 17 = .ok (.putfield 13, 3) := by decide +kernel
theorem dX6_init_20 : decode cX6_init 20 = .ok (.aload_n 0, 1) := by decide +kernel
theorem dX6_init_21 : decode cX6_init 21 = .ok (.iconst 5, 1) := by decide +kernel
theorem dX6_init_22 : decode cX6_init 22 = .ok (.newarray .int, 2) := by decide +kernel
theorem dX6_init_24 : decode cX6_init 24 = .ok (.putfield 16, 3) := by decide +kernel
theorem dX6_init_27 : decode cX6_init 27 = .ok (.aload_n 0, 1) := by decide +kernel
theorem dX6_init_28 : decode cX6_init 28 = .ok (.iconst 5, 1) := by decide +kernel
theorem dX6_init_29 : decode cX6_init 29 = .ok (.newarray .int, 2) := by decide +kernel
theorem dX6_init_31 : decode cX6_init 31 = .ok (.putfield 19, 3) := by decide +kernel
theorem dX6_init_34 : decode cX6_init 34 = .ok (.aload_n 0, 1) := by decide +kernel
theorem dX6_init_35 : decode cX6_init 35 = .ok (.sipush 200, 3) := by decide +kernel
theorem dX6_init_38 : decode cX6_init 38 = .ok (.newarray .int, 2) := by decide +kernel
theorem dX6_init_40 : decode cX6_init 40 = .ok (.putfield 22, 3) := by decide +kernel
theorem dX6_init_43 : decode cX6_init 43 = .ok (.aload_n 0, 1) := by decide +kernel
theorem dX6_init_44 : decode cX6_init 44 = .ok (.bipush 40, 2) := by decide +kernel
theorem dX6_init_46 : decode cX6_init 46 = .ok (.newarray .boolean, 2) := by decide +kernel
theorem dX6_init_48 : decode cX6_init 48 = .ok (.putfield 25, 3) := by decide +kernel
theorem dX6_init_51 : decode cX6_init 51 = .ok (.aload_n 0, 1) := by decide +kernel
theorem dX6_init_52 : decode cX6_init 52 = .ok (.bipush 40, 2) := by decide +kernel
theorem dX6_init_54 : decode cX6_init 54 = .ok (.newarray .int, 2) := by decide +kernel
theorem dX6_init_56 : decode cX6_init 56 = .ok (.putfield 29, 3) := by decide +kernel
theorem dX6_init_59 : decode cX6_init 59 = .ok (.aload_n 0, 1) := by decide +kernel
theorem dX6_init_60 : decode cX6_init 60 = .ok (.bipush 40, 2) := by decide +kernel
theorem dX6_init_62 : decode cX6_init 62 = .ok (.newarray .int, 2) := by decide +kernel
theorem dX6_init_64 : decode cX6_init 64 = .ok (.putfield 32, 3) := by decide +kernel
theorem dX6_init_67 : decode cX6_init 67 = .ok (.aload_n 0, 1) := by decide +kernel
theorem dX6_init_68 : decode cX6_init 68 = .ok (.bipush 40, 2) := by decide +kernel
theorem dX6_init_70 : decode cX6_init 70 = .ok (.newarray .int, 2) := by decide +kernel
theorem dX6_init_72 : decode cX6_init 72 = .ok (.putfield 35, 3) := by decide +kernel
theorem dX6_init_75 : decode cX6_init 75 = .ok (.aload_n 0, 1) := by decide +kernel
theorem dX6_init_76 : decode cX6_init 76 = .ok (.sipush 8000, 3) := by decide +kernel
theorem dX6_init_79 : decode cX6_init 79 = .ok (.newarray .int, 2) := by decide +kernel
theorem dX6_init_81 : decode cX6_init 81 = .ok (.putfield 38, 3) := by decide +kernel
theorem dX6_init_84 : decode cX6_init 84 = .ok (.aload_n 0, 1) := by decide +kernel
theorem dX6_init_85 : decode cX6_init 85 = .ok (.sipush 8000, 3) := by decide +kernel
theorem dX6_init_88 : decode cX6_init 88 = .ok (.newarray .int, 2) := by decide +kernel
theorem dX6_init_90 : decode cX6_init 90 = .ok (.putfield 41, 3) := by decide +kernel
theorem dX6_init_93 : decode cX6_init 93 = .ok (.aload_n 0, 1) := by decide +kernel
theorem dX6_init_94 : decode cX6_init 94 = .ok (.sipush 8000, 3) := by decide +kernel
theorem dX6_init_97 : decode cX6_init 97 = .ok (.newarray .int, 2) := by decide +kernel
theorem dX6_init_99 : decode cX6_init 99 = .ok (.putfield 44, 3) := by decide +kernel
theorem dX6_init_102 : decode cX6_init 102 = .ok (.aload_n 0, 1) := by decide +kernel
theorem dX6_init_103 : decode cX6_init 103 = .ok (.bipush 8, 2) := by decide +kernel
theorem dX6_init_105 : decode cX6_init 105 = .ok (.newarray .int, 2) := by decide +kernel
theorem dX6_init_107 : decode cX6_init 107 = .ok (.putfield 47, 3) := by decide +kernel
theorem dX6_init_110 : decode cX6_init 110 = .ok (.aload_n 0, 1) := by decide +kernel
theorem dX6_init_111 : decode cX6_init 111 = .ok (.sipush 320, 3) := by decide +kernel
theorem dX6_init_114 : decode cX6_init 114 = .ok (.newarray .int, 2) := by decide +kernel
theorem dX6_init_116 : decode cX6_init 116 = .ok (.putfield 50, 3) := by decide +kernel
theorem dX6_init_119 : decode cX6_init 119 = .ok (.aload_n 0, 1) := by decide +kernel
theorem dX6_init_120 : decode cX6_init 120 = .ok (.sipush 320, 3) := by decide +kernel
theorem dX6_init_123 : decode cX6_init 123 = .ok (.newarray .int, 2) := by decide +kernel
theorem dX6_init_125 : decode cX6_init 125 = .ok (.putfield 53, 3) := by decide +kernel
theorem dX6_init_128 : decode cX6_init 128 = .ok (.aload_n 0, 1) := by decide +kernel
theorem dX6_init_129 : decode cX6_init 129 = .ok (.sipush 320, 3) := by decide +kernel
theorem dX6_init_132 : decode cX6_init 132 = .ok (.newarray .int, 2) := by decide +kernel
theorem dX6_init_134 : decode cX6_init 134 = .ok (.putfield 56, 3) := by decide +kernel
theorem dX6_init_137 : decode cX6_init 137 = .ok (.return_, 1) := by decide +kernel
theorem dX6_thrown_0 : decode cX6_thrown 0 = .ok (.aload_n 0, 1) := by decide +kernel
theorem dX6_thrown_1 : decode cX6_thrown 1 = .ok (.getfield 59, 3) := by decide +kernel
theorem dX6_thrown_4 : decode cX6_thrown 4 = .ok (.ireturn, 1) := by decide +kernel
theorem dX6_fail_0 : decode cX6_fail 0 = .ok (.aload_n 0, 1) := by decide +kernel
theorem dX6_fail_1 : decode cX6_fail 1 = .ok (.iload_n 1, 1) := by decide +kernel
theorem dX6_fail_2 : decode cX6_fail 2 = .ok (.putfield 59, 3) := by decide +kernel
theorem dX6_fail_5 : decode cX6_fail 5 = .ok (.iconst 0, 1) := by decide +kernel
theorem dX6_fail_6 : decode cX6_fail 6 = .ok (.ireturn, 1) := by decide +kernel
theorem dX6_isIn_0 : decode cX6_isIn 0 = .ok (.iload_n 0, 1) := by decide +kernel
theorem dX6_isIn_1 : decode cX6_isIn 1 = .ok (.iload_n 1, 1) := by decide +kernel
theorem dX6_isIn_2 : decode cX6_isIn 2 = .ok (.if_icmp .lt 12, 3) := by decide +kernel
theorem dX6_isIn_5 : decode cX6_isIn 5 = .ok (.iload_n 0, 1) := by decide +kernel
theorem dX6_isIn_6 : decode cX6_isIn 6 = .ok (.iload_n 2, 1) := by decide +kernel
theorem dX6_isIn_7 : decode cX6_isIn 7 = .ok (.if_icmp .gt 7, 3) := by decide +kernel
theorem dX6_isIn_10 : decode cX6_isIn 10 = .ok (.iconst 1, 1) := by decide +kernel
theorem dX6_isIn_11 : decode cX6_isIn 11 = .ok (.goto 4, 3) := by decide +kernel
theorem dX6_isIn_14 : decode cX6_isIn 14 = .ok (.iconst 0, 1) := by decide +kernel
theorem dX6_isIn_15 : decode cX6_isIn 15 = .ok (.ireturn, 1) := by decide +kernel
theorem dX6_isPuppet_0 : decode cX6_isPuppet 0 = .ok (.iload_n 1, 1) := by decide +kernel
theorem dX6_isPuppet_1 : decode cX6_isPuppet 1 = .ok (.iconst 0, 1) := by decide +kernel
theorem dX6_isPuppet_2 : decode cX6_isPuppet 2 = .ok (.aload_n 0, 1) := by decide +kernel
theorem dX6_isPuppet_3 : decode cX6_isPuppet 3 = .ok (.getfield 63, 3) := by decide +kernel
theorem dX6_isPuppet_6 : decode cX6_isPuppet 6 = .ok (.iconst 1, 1) := by decide +kernel
theorem dX6_isPuppet_7 : decode cX6_isPuppet 7 = .ok (.isub, 1) := by decide +kernel
theorem dX6_isPuppet_8 : decode cX6_isPuppet 8 = .ok (.invokestatic 66, 3) := by decide +kernel
theorem dX6_isPuppet_11 : decode cX6_isPuppet 11 = .ok (.ireturn, 1) := by decide +kernel
theorem dX6_isPlayer_0 : decode cX6_isPlayer 0 = .ok (.iload_n 1, 1) := by decide +kernel
theorem dX6_isPlayer_1 : decode cX6_isPlayer 1 = .ok (.iconst 0, 1) := by decide +kernel
theorem dX6_isPlayer_2 : decode cX6_isPlayer 2 = .ok (.aload_n 0, 1) := by decide +kernel
theorem dX6_isPlayer_3 : decode cX6_isPlayer 3 = .ok (.getfield 70, 3) := by decide +kernel
theorem dX6_isPlayer_6 : decode cX6_isPlayer 6 = .ok (.iconst 1, 1) := by decide +kernel
theorem dX6_isPlayer_7 : decode cX6_isPlayer 7 = .ok (.isub, 1) := by decide +kernel
theorem dX6_isPlayer_8 : decode cX6_isPlayer 8 = .ok (.invokestatic 66, 3) := by decide +kernel
theorem dX6_isPlayer_11 : decode cX6_isPlayer 11 = .ok (.ireturn, 1) := by decide +kernel
theorem dX6_isBeat_0 : decode cX6_isBeat 0 = .ok (.iload_n 0, 1) := by decide +kernel
theorem dX6_isBeat_1 : decode cX6_isBeat 1 = .ok (.iconst 0, 1) := by decide +kernel
theorem dX6_isBeat_2 : decode cX6_isBeat 2 = .ok (.sipush 999, 3) := by decide +kernel
theorem dX6_isBeat_5 : decode cX6_isBeat 5 = .ok (.invokestatic 66, 3) := by decide +kernel
theorem dX6_isBeat_8 : decode cX6_isBeat 8 = .ok (.ireturn, 1) := by decide +kernel
theorem dX6_addPuppet_0 : decode cX6_addPuppet 0 = .ok (.aload_n 0, 1) := by decide +kernel
theorem dX6_addPuppet_1 : decode cX6_addPuppet 1 = .ok (.iconst 0, 1) := by decide +kernel
theorem dX6_addPuppet_2 : decode cX6_addPuppet 2 = .ok (.putfield 59, 3) := by decide +kernel
theorem dX6_addPuppet_5 : decode cX6_addPuppet 5 = .ok (.iload_n 1, 1) := by decide +kernel
theorem dX6_addPuppet_6 : decode cX6_addPuppet 6 = .ok (.iconst 1, 1) := by decide +kernel
theorem dX6_addPuppet_7 : decode cX6_addPuppet 7 = .ok (.bipush 9, 2) := by decide +kernel
theorem dX6_addPuppet_9 : decode cX6_addPuppet 9 = .ok (.invokestatic 66, 3) := by decide +kernel
theorem dX6_addPuppet_12 : decode cX6_addPuppet 12 = .ok (.ifCond .eq 12, 3) := by decide +kernel
theorem dX6_addPuppet_15 : decode cX6_addPuppet 15 = .ok (.iload_n 2, 1) := by decide +kernel
theorem dX6_addPuppet_16 : decode cX6_addPuppet 16 = .ok (.iconst 1, 1) := by decide +kernel
theorem dX6_addPuppet_17 : decode cX6_addPuppet 17 = .ok (.iconst 2, 1) := by decide +kernel
theorem dX6_addPuppet_18 : decode cX6_addPuppet 18 = .ok (.invokestatic 66, 3) := by decide +kernel
theorem dX6_addPuppet_21 : decode cX6_addPuppet 21 = .ok (.ifCond .ne 9, 3) := by decide +kernel
theorem dX6_addPuppet_24 : decode cX6_addPuppet 24 = .ok (.aload_n 0, 1) := by decide +kernel
theorem dX6_addPuppet_25 : decode cX6_addPuppet 25 = .ok (.iconst 1, 1) := by decide +kernel
theorem dX6_addPuppet_26 : decode cX6_addPuppet 26 = .ok (.invokevirtual 73, 3) := by decide +kernel
theorem dX6_addPuppet_29 : decode cX6_addPuppet 29 = .ok (.ireturn, 1) := by decide +kernel
theorem dX6_addPuppet_30 : decode cX6_addPuppet 30 = .ok (.aload_n 0, 1) := by decide +kernel
theorem dX6_addPuppet_31 : decode cX6_addPuppet 31 = .ok (.getfield 63, 3) := by decide +kernel
theorem dX6_addPuppet_34 : decode cX6_addPuppet 34 = .ok (.bipush 8, 2) := by decide +kernel
theorem dX6_addPuppet_36 : decode cX6_addPuppet 36 = .ok (.if_icmp .ne 9, 3) := by decide +kernel
theorem dX6_addPuppet_39 : decode cX6_addPuppet 39 = .ok (.aload_n 0, 1) := by decide +kernel
theorem dX6_addPuppet_40 : decode cX6_addPuppet 40 = .ok (.iconst 2, 1) := by decide +kernel
theorem dX6_addPuppet_41 : decode cX6_addPuppet 41 = .ok (.invokevirtual 73, 3) := by decide +kernel
theorem dX6_addPuppet_44 : decode cX6_addPuppet 44 = .ok (.ireturn, 1) := by decide +kernel
theorem dX6_addPuppet_45 : decode cX6_addPuppet 45 = .ok (.aload_n 0, 1) := by decide +kernel
theorem dX6_addPuppet_46 : decode cX6_addPuppet 46 = .ok (.getfield 9, 3) := by decide +kernel
theorem dX6_addPuppet_49 : decode cX6_addPuppet 49 = .ok (.aload_n 0, 1) := by decide +kernel
theorem dX6_addPuppet_50 : decode cX6_addPuppet 50 = .ok (.getfield 63, 3) := by decide +kernel
theorem dX6_addPuppet_53 : decode cX6_addPuppet 53 = .ok (.iload_n 1, 1) := by decide +kernel
theorem dX6_addPuppet_54 : decode cX6_addPuppet 54 = .ok (.iastore, 1) := by decide +kernel
theorem dX6_addPuppet_55 : decode cX6_addPuppet 55 = .ok (.aload_n 0, 1) := by decide +kernel
theorem dX6_addPuppet_56 : decode cX6_addPuppet 56 = .ok (.getfield 13, 3) := by decide +kernel
theorem dX6_addPuppet_59 : decode cX6_addPuppet 59 = .ok (.aload_n 0, 1) := by decide +kernel
theorem dX6_addPuppet_60 : decode cX6_addPuppet 60 = .ok (.getfield 63, 3) := by decide +kernel
theorem dX6_addPuppet_63 : decode cX6_addPuppet 63 = .ok (.iload_n 2, 1) := by decide +kernel
theorem dX6_addPuppet_64 : decode cX6_addPuppet 64 = .ok (.iastore, 1) := by decide +kernel
theorem dX6_addPuppet_65 : decode cX6_addPuppet 65 = .ok (.aload_n 0, 1) := by decide +kernel
theorem dX6_addPuppet_66 : decode cX6_addPuppet 66 = .ok (.dup, 1) := by decide +kernel
theorem dX6_addPuppet_67 : decode cX6_addPuppet 67 = .ok (.getfield 63, 3) := by decide +kernel
theorem dX6_addPuppet_70 : decode cX6_addPuppet 70 = .ok (.iconst 1, 1) := by decide +kernel
theorem dX6_addPuppet_71 : decode cX6_addPuppet 71 = .ok (.iadd, 1) := by decide +kernel
theorem dX6_addPuppet_72 : decode cX6_addPuppet 72 = .ok (.putfield 63, 3) := by decide +kernel
theorem dX6_addPuppet_75 : decode cX6_addPuppet 75 = .ok (.aload_n 0, 1) := by decide +kernel
theorem dX6_addPuppet_76 : decode cX6_addPuppet 76 = .ok (.iconst 0, 1) := by decide +kernel
theorem dX6_addPuppet_77 : decode cX6_addPuppet 77 = .ok (.putfield 77, 3) := by decide +kernel
theorem dX6_addPuppet_80 : decode cX6_addPuppet 80 = .ok (.aload_n 0, 1) := by decide +kernel
theorem dX6_addPuppet_81 : decode cX6_addPuppet 81 = .ok (.getfield 63, 3) := by decide +kernel
theorem dX6_addPuppet_84 : decode cX6_addPuppet 84 = .ok (.iconst 1, 1) := by decide +kernel
theorem dX6_addPuppet_85 : decode cX6_addPuppet 85 = .ok (.isub, 1) := by decide +kernel
theorem dX6_addPuppet_86 : decode cX6_addPuppet 86 = .ok (.ireturn, 1) := by decide +kernel
theorem dX6_addPlayer_0 : decode cX6_addPlayer 0 = .ok (.aload_n 0, 1) := by decide +kernel
theorem dX6_addPlayer_1 : decode cX6_addPlayer 1 = .ok (.iconst 0, 1) := by decide +kernel
theorem dX6_addPlayer_2 : decode cX6_addPlayer 2 = .ok (.putfield 59, 3) := by decide +kernel
theorem dX6_addPlayer_5 : decode cX6_addPlayer 5 = .ok (.iload_n 1, 1) := by decide +kernel
theorem dX6_addPlayer_6 : decode cX6_addPlayer 6 = .ok (.iconst 1, 1) := by decide +kernel
theorem dX6_addPlayer_7 : decode cX6_addPlayer 7 = .ok (.bipush 20, 2) := by decide +kernel
theorem dX6_addPlayer_9 : decode cX6_addPlayer 9 = .ok (.invokestatic 66, 3) := by decide +kernel
theorem dX6_addPlayer_12 : decode cX6_addPlayer 12 = .ok (.ifCond .eq 13, 3) := by decide +kernel
theorem dX6_addPlayer_15 : decode cX6_addPlayer 15 = .ok (.iload_n 2, 1) := by decide +kernel
theorem dX6_addPlayer_16 : decode cX6_addPlayer 16 = .ok (.iconst 0, 1) := by decide +kernel
theorem dX6_addPlayer_17 : decode cX6_addPlayer 17 = .ok (.bipush 19, 2) := by decide +kernel
theorem dX6_addPlayer_19 : decode cX6_addPlayer 19 = .ok (.invokestatic 66, 3) := by decide +kernel
theorem dX6_addPlayer_22 : decode cX6_addPlayer 22 = .ok (.ifCond .ne 9, 3) := by decide +kernel
theorem dX6_addPlayer_25 : decode cX6_addPlayer 25 = .ok (.aload_n 0, 1) := by decide +kernel
theorem dX6_addPlayer_26 : decode cX6_addPlayer 26 = .ok (.iconst 1, 1) := by decide +kernel
theorem dX6_addPlayer_27 : decode cX6_addPlayer 27 = .ok (.invokevirtual 73, 3) := by decide +kernel
theorem dX6_addPlayer_30 : decode cX6_addPlayer 30 = .ok (.ireturn, 1) := by decide +kernel
theorem dX6_addPlayer_31 : decode cX6_addPlayer 31 = .ok (.aload_n 0, 1) := by decide +kernel
theorem dX6_addPlayer_32 : decode cX6_addPlayer 32 = .ok (.getfield 70, 3) := by decide +kernel
theorem dX6_addPlayer_35 : decode cX6_addPlayer 35 = .ok (.iconst 5, 1) := by decide +kernel
theorem dX6_addPlayer_36 : decode cX6_addPlayer 36 = .ok (.if_icmp .ne 9, 3) := by decide +kernel
theorem dX6_addPlayer_39 : decode cX6_addPlayer 39 = .ok (.aload_n 0, 1) := by decide +kernel
theorem dX6_addPlayer_40 : decode cX6_addPlayer 40 = .ok (.iconst 2, 1) := by decide +kernel
theorem dX6_addPlayer_41 : decode cX6_addPlayer 41 = .ok (.invokevirtual 73, 3) := by decide +kernel
theorem dX6_addPlayer_44 : decode cX6_addPlayer 44 = .ok (.ireturn, 1) := by decide +kernel
theorem dX6_addPlayer_45 : decode cX6_addPlayer 45 = .ok (.aload_n 0, 1) := by decide +kernel
theorem dX6_addPlayer_46 : decode cX6_addPlayer 46 = .ok (.getfield 16, 3) := by decide +kernel
theorem dX6_addPlayer_49 : decode cX6_addPlayer 49 = .ok (.aload_n 0, 1) := by decide +kernel
theorem dX6_addPlayer_50 : decode cX6_addPlayer 50 = .ok (.getfield 70, 3) := by decide +kernel
theorem dX6_addPlayer_53 : decode cX6_addPlayer 53 = .ok (.iload_n 1, 1) := by decide +kernel
theorem dX6_addPlayer_54 : decode cX6_addPlayer 54 = .ok (.iastore, 1) := by decide +kernel
theorem dX6_addPlayer_55 : decode cX6_addPlayer 55 = .ok (.aload_n 0, 1) := by decide +kernel
theorem dX6_addPlayer_56 : decode cX6_addPlayer 56 = .ok (.getfield 19, 3) := by decide +kernel
theorem dX6_addPlayer_59 : decode cX6_addPlayer 59 = .ok (.aload_n 0, 1) := by decide +kernel
theorem dX6_addPlayer_60 : decode cX6_addPlayer 60 = .ok (.getfield 70, 3) := by decide +kernel
theorem dX6_addPlayer_63 : decode cX6_addPlayer 63 = .ok (.iload_n 2, 1) := by decide +kernel
theorem dX6_addPlayer_64 : decode cX6_addPlayer 64 = .ok (.iastore, 1) := by decide +kernel
theorem dX6_addPlayer_65 : decode cX6_addPlayer 65 = .ok (.aload_n 0, 1) := by decide +kernel
theorem dX6_addPlayer_66 : decode cX6_addPlayer 66 = .ok (.dup, 1) := by decide +kernel
theorem dX6_addPlayer_67 : decode cX6_addPlayer 67 = .ok (.getfield 70, 3) := by decide +kernel
theorem dX6_addPlayer_70 : decode cX6_addPlayer 70 = .ok (.iconst 1, 1) := by decide +kernel
theorem dX6_addPlayer_71 : decode cX6_addPlayer 71 = .ok (.iadd, 1) := by decide +kernel
theorem dX6_addPlayer_72 : decode cX6_addPlayer 72 = .ok (.putfield 70, 3) := by decide +kernel
theorem dX6_addPlayer_75 : decode cX6_addPlayer 75 = .ok (.aload_n 0, 1) := by decide +kernel
theorem dX6_addPlayer_76 : decode cX6_addPlayer 76 = .ok (.iconst 0, 1) := by decide +kernel
theorem dX6_addPlayer_77 : decode cX6_addPlayer 77 = .ok (.putfield 77, 3) := by decide +kernel
theorem dX6_addPlayer_80 : decode cX6_addPlayer 80 = .ok (.aload_n 0, 1) := by decide +kernel
theorem dX6_addPlayer_81 : decode cX6_addPlayer 81 = .ok (.getfield 70, 3) := by decide +kernel
theorem dX6_addPlayer_84 : decode cX6_addPlayer 84 = .ok (.iconst 1, 1) := by decide +kernel
theorem dX6_addPlayer_85 : decode cX6_addPlayer 85 = .ok (.isub, 1) := by decide +kernel
theorem dX6_addPlayer_86 : decode cX6_addPlayer 86 = .ok (.ireturn, 1) := by decide +kernel
theorem dX6_kind_0 : decode cX6_kind 0 = .ok (.aload_n 0, 1) := by decide +kernel
theorem dX6_kind_1 : decode cX6_kind 1 = .ok (.getfield 22, 3) := by decide +kernel
theorem dX6_kind_4 : decode cX6_kind 4 = .ok (.iconst 5, 1) := by decide +kernel
theorem dX6_kind_5 : decode cX6_kind 5 = .ok (.iload_n 1, 1) := by decide +kernel
theorem dX6_kind_6 : decode cX6_kind 6 = .ok (.imul, 1) := by decide +kernel
theorem dX6_kind_7 : decode cX6_kind 7 = .ok (.iaload, 1) := by decide +kernel
theorem dX6_kind_8 : decode cX6_kind 8 = .ok (.ireturn, 1) := by decide +kernel
theorem dX6_beat_0 : decode cX6_beat 0 = .ok (.aload_n 0, 1) := by decide +kernel
theorem dX6_beat_1 : decode cX6_beat 1 = .ok (.getfield 22, 3) := by decide +kernel
theorem dX6_beat_4 : decode cX6_beat 4 = .ok (.iconst 5, 1) := by decide +kernel
theorem dX6_beat_5 : decode cX6_beat 5 = .ok (.iload_n 1, 1) := by decide +kernel
theorem dX6_beat_6 : decode cX6_beat 6 = .ok (.imul, 1) := by decide +kernel
theorem dX6_beat_7 : decode cX6_beat 7 = .ok (.iconst 2, 1) := by decide +kernel
theorem dX6_beat_8 : decode cX6_beat 8 = .ok (.iadd, 1) := by decide +kernel
theorem dX6_beat_9 : decode cX6_beat 9 = .ok (.iaload, 1) := by decide +kernel
theorem dX6_beat_10 : decode cX6_beat 10 = .ok (.ireturn, 1) := by decide +kernel
theorem dX6_behind_0 : decode cX6_behind 0 = .ok (.iconst (-1), 1) := by decide +kernel
theorem dX6_behind_1 : decode cX6_behind 1 = .ok (.istore_n 3, 1) := by decide +kernel
theorem dX6_behind_2 : decode cX6_behind 2 = .ok (.iconst 0, 1) := by decide +kernel
theorem dX6_behind_3 : decode cX6_behind 3 = .ok (.istore 4, 2) := by decide +kernel
theorem dX6_behind_5 : decode cX6_behind 5 = .ok (.iload 4, 2) := by decide +kernel
theorem dX6_behind_7 : decode cX6_behind 7 = .ok (.aload_n 0, 1) := by decide +kernel
theorem dX6_behind_8 : decode cX6_behind 8 = .ok (.getfield 81, 3) := by decide +kernel
theorem dX6_behind_11 : decode cX6_behind 11 = .ok (.if_icmp .ge 70, 3) := by decide +kernel
theorem dX6_behind_14 : decode cX6_behind 14 = .ok (.aload_n 0, 1) := by decide +kernel
theorem dX6_behind_15 : decode cX6_behind 15 = .ok (.getfield 25, 3) := by decide +kernel
theorem dX6_behind_18 : decode cX6_behind 18 = .ok (.iload 4, 2) := by decide +kernel
theorem dX6_behind_20 : decode cX6_behind 20 = .ok (.baload, 1) := by decide +kernel
theorem dX6_behind_21 : decode cX6_behind 21 = .ok (.ifCond .ne 54, 3) := by decide +kernel
theorem dX6_behind_24 : decode cX6_behind 24 = .ok (.aload_n 0, 1) := by decide +kernel
theorem dX6_behind_25 : decode cX6_behind 25 = .ok (.getfield 22, 3) := by decide +kernel
theorem dX6_behind_28 : decode cX6_behind 28 = .ok (.iconst 5, 1) := by decide +kernel
theorem dX6_behind_29 : decode cX6_behind 29 = .ok (.iload 4, 2) := by decide +kernel
theorem dX6_behind_31 : decode cX6_behind 31 = .ok (.imul, 1) := by decide +kernel
theorem dX6_behind_32 : decode cX6_behind 32 = .ok (.iconst 1, 1) := by decide +kernel
theorem dX6_behind_33 : decode cX6_behind 33 = .ok (.iadd, 1) := by decide +kernel
theorem dX6_behind_34 : decode cX6_behind 34 = .ok (.iaload, 1) := by decide +kernel
theorem dX6_behind_35 : decode cX6_behind 35 = .ok (.iload_n 1, 1) := by decide +kernel
theorem dX6_behind_36 : decode cX6_behind 36 = .ok (.if_icmp .ne 39, 3) := by decide +kernel
theorem dX6_behind_39 : decode cX6_behind 39 = .ok (.iload_n 2, 1) := by decide +kernel
theorem dX6_behind_40 : decode cX6_behind 40 = .ok (.iconst (-1), 1) := by decide +kernel
theorem dX6_behind_41 : decode cX6_behind 41 = .ok (.if_icmp .eq 16, 3) := by decide +kernel
theorem dX6_behind_44 : decode cX6_behind 44 = .ok (.aload_n 0, 1) := by decide +kernel
theorem dX6_behind_45 : decode cX6_behind 45 = .ok (.iload 4, 2) := by decide +kernel
theorem dX6_behind_47 : decode cX6_behind 47 = .ok (.iload_n 2, 1) := by decide +kernel
theorem dX6_behind_48 : decode cX6_behind 48 = .ok (.invokevirtual 84, 3) := by decide +kernel
theorem dX6_behind_51 : decode cX6_behind 51 = .ok (.ifCond .ne 6, 3) := by decide +kernel
theorem dX6_behind_54 : decode cX6_behind 54 = .ok (.goto 21, 3) := by decide +kernel
theorem dX6_behind_57 : decode cX6_behind 57 = .ok (.iload_n 3, 1) := by decide +kernel
theorem dX6_behind_58 : decode cX6_behind 58 = .ok (.iconst (-1), 1) := by decide +kernel
theorem dX6_behind_59 : decode cX6_behind 59 = .ok (.if_icmp .eq 13, 3) := by decide +kernel
theorem dX6_behind_62 : decode cX6_behind 62 = .ok (.aload_n 0, 1) := by decide +kernel
theorem dX6_behind_63 : decode cX6_behind 63 = .ok (.iload_n 3, 1) := by decide +kernel
theorem dX6_behind_64 : decode cX6_behind 64 = .ok (.iload 4, 2) := by decide +kernel
theorem dX6_behind_66 : decode cX6_behind 66 = .ok (.invokevirtual 84, 3) := by decide +kernel
theorem dX6_behind_69 : decode cX6_behind 69 = .ok (.ifCond .eq 6, 3) := by decide +kernel
theorem dX6_behind_72 : decode cX6_behind 72 = .ok (.iload 4, 2) := by decide +kernel
theorem dX6_behind_74 : decode cX6_behind 74 = .ok (.istore_n 3, 1) := by decide +kernel
theorem dX6_behind_75 : decode cX6_behind 75 = .ok (.iinc 4 1, 3) := by decide +kernel
theorem dX6_behind_78 : decode cX6_behind 78 = .ok (.goto (-73), 3) := by decide +kernel
theorem dX6_behind_81 : decode cX6_behind 81 = .ok (.iload_n 3, 1) := by decide +kernel
theorem dX6_behind_82 : decode cX6_behind 82 = .ok (.ireturn, 1) := by decide +kernel
theorem dX6_isBehind_0 : decode cX6_isBehind 0 = .ok (.aload_n 0, 1) := by decide +kernel
theorem dX6_isBehind_1 : decode cX6_isBehind 1 = .ok (.iload_n 1, 1) := by decide +kernel
theorem dX6_isBehind_2 : decode cX6_isBehind 2 = .ok (.invokevirtual 88, 3) := by decide +kernel
theorem dX6_isBehind_5 : decode cX6_isBehind 5 = .ok (.aload_n 0, 1) := by decide +kernel
theorem dX6_isBehind_6 : decode cX6_isBehind 6 = .ok (.iload_n 2, 1) := by decide +kernel
theorem dX6_isBehind_7 : decode cX6_isBehind 7 = .ok (.invokevirtual 88, 3) := by decide +kernel
theorem dX6_isBehind_10 : decode cX6_isBehind 10 = .ok (.if_icmp .gt 21, 3) := by decide +kernel
theorem dX6_isBehind_13 : decode cX6_isBehind 13 = .ok (.aload_n 0, 1) := by decide +kernel
theorem dX6_isBehind_14 : decode cX6_isBehind 14 = .ok (.iload_n 1, 1) := by decide +kernel
theorem dX6_isBehind_15 : decode cX6_isBehind 15 = .ok (.invokevirtual 88, 3) := by decide +kernel
theorem dX6_isBehind_18 : decode cX6_isBehind 18 = .ok (.aload_n 0, 1) := by decide +kernel
theorem dX6_isBehind_19 : decode cX6_isBehind 19 = .ok (.iload_n 2, 1) := by decide +kernel
theorem dX6_isBehind_20 : decode cX6_isBehind 20 = .ok (.invokevirtual 88, 3) := by decide +kernel
theorem dX6_isBehind_23 : decode cX6_isBehind 23 = .ok (.if_icmp .ne 12, 3) := by decide +kernel
theorem dX6_isBehind_26 : decode cX6_isBehind 26 = .ok (.iload_n 1, 1) := by decide +kernel
theorem dX6_isBehind_27 : decode cX6_isBehind 27 = .ok (.iload_n 2, 1) := by decide +kernel
theorem dX6_isBehind_28 : decode cX6_isBehind 28 = .ok (.if_icmp .le 7, 3) := by decide +kernel
theorem dX6_isBehind_31 : decode cX6_isBehind 31 = .ok (.iconst 1, 1) := by decide +kernel
theorem dX6_isBehind_32 : decode cX6_isBehind 32 = .ok (.goto 4, 3) := by decide +kernel
theorem dX6_isBehind_35 : decode cX6_isBehind 35 = .ok (.iconst 0, 1) := by decide +kernel
theorem dX6_isBehind_36 : decode cX6_isBehind 36 = .ok (.ireturn, 1) := by decide +kernel
theorem dX6_areRight_0 : decode cX6_areRight 0 = .ok (.iconst 0, 1) := by decide +kernel
theorem dX6_areRight_1 : decode cX6_areRight 1 = .ok (.istore_n 2, 1) := by decide +kernel
theorem dX6_areRight_2 : decode cX6_areRight 2 = .ok (.iconst 0, 1) := by decide +kernel
theorem dX6_areRight_3 : decode cX6_areRight 3 = .ok (.istore_n 3, 1) := by decide +kernel
theorem dX6_areRight_4 : decode cX6_areRight 4 = .ok (.iconst 0, 1) := by decide +kernel
theorem dX6_areRight_5 : decode cX6_areRight 5 = .ok (.istore 4, 2) := by decide +kernel
theorem dX6_areRight_7 : decode cX6_areRight 7 = .ok (.iconst 0, 1) := by decide +kernel
theorem dX6_areRight_8 : decode cX6_areRight 8 = .ok (.istore 5, 2) := by decide +kernel
theorem dX6_areRight_10 : decode cX6_areRight 10 = .ok (.aload_n 0, 1) := by decide +kernel
theorem dX6_areRight_11 : decode cX6_areRight 11 = .ok (.iload_n 1, 1) := by decide +kernel
theorem dX6_areRight_12 : decode cX6_areRight 12 = .ok (.iconst (-1), 1) := by decide +kernel
theorem dX6_areRight_13 : decode cX6_areRight 13 = .ok (.invokevirtual 91, 3) := by decide +kernel
theorem dX6_areRight_16 : decode cX6_areRight 16 = .ok (.istore 6, 2) := by decide +kernel
theorem dX6_areRight_18 : decode cX6_areRight 18 = .ok (.iload 6, 2) := by decide +kernel
theorem dX6_areRight_20 : decode cX6_areRight 20 = .ok (.iconst (-1), 1) := by decide +kernel
theorem dX6_areRight_21 : decode cX6_areRight 21 = .ok (.if_icmp .eq 175, 3) := by decide +kernel
theorem dX6_areRight_24 : decode cX6_areRight 24 = .ok (.iload_n 2, 1) := by decide +kernel
theorem dX6_areRight_25 : decode cX6_areRight 25 = .ok (.aload_n 0, 1) := by decide +kernel
theorem dX6_areRight_26 : decode cX6_areRight 26 = .ok (.iload 6, 2) := by decide +kernel
theorem dX6_areRight_28 : decode cX6_areRight 28 = .ok (.invokevirtual 95, 3) := by decide +kernel
theorem dX6_areRight_31 : decode cX6_areRight 31 = .ok (.ifCond .ne 7, 3) := by decide +kernel
theorem dX6_areRight_34 : decode cX6_areRight 34 = .ok (.iconst 1, 1) := by decide +kernel
theorem dX6_areRight_35 : decode cX6_areRight 35 = .ok (.goto 4, 3) := by decide +kernel
theorem dX6_areRight_38 : decode cX6_areRight 38 = .ok (.iconst 0, 1) := by decide +kernel
theorem dX6_areRight_39 : decode cX6_areRight 39 = .ok (.if_icmp .eq 18, 3) := by decide +kernel
theorem dX6_areRight_42 : decode cX6_areRight 42 = .ok (.iload_n 2, 1) := by decide +kernel
theorem dX6_areRight_43 : decode cX6_areRight 43 = .ok (.ifCond .eq 16, 3) := by decide +kernel
theorem dX6_areRight_46 : decode cX6_areRight 46 = .ok (.aload_n 0, 1) := by decide +kernel
theorem dX6_areRight_47 : decode cX6_areRight 47 = .ok (.iload 6, 2) := by decide +kernel
theorem dX6_areRight_49 : decode cX6_areRight 49 = .ok (.invokevirtual 88, 3) := by decide +kernel
theorem dX6_areRight_52 : decode cX6_areRight 52 = .ok (.iload 4, 2) := by decide +kernel
theorem dX6_areRight_54 : decode cX6_areRight 54 = .ok (.if_icmp .ge 5, 3) := by decide +kernel
theorem dX6_areRight_57 : decode cX6_areRight 57 = .ok (.iconst 0, 1) := by decide +kernel
theorem dX6_areRight_58 : decode cX6_areRight 58 = .ok (.ireturn, 1) := by decide +kernel
theorem dX6_areRight_59 : decode cX6_areRight 59 = .ok (.aload_n 0, 1) := by decide +kernel
theorem dX6_areRight_60 : decode cX6_areRight 60 = .ok (.iload 6, 2) := by decide +kernel
theorem dX6_areRight_62 : decode cX6_areRight 62 = .ok (.invokevirtual 95, 3) := by decide +kernel
theorem dX6_areRight_65 : decode cX6_areRight 65 = .ok (.ifCond .ne 36, 3) := by decide +kernel
theorem dX6_areRight_68 : decode cX6_areRight 68 = .ok (.iconst 1, 1) := by decide +kernel
theorem dX6_areRight_69 : decode cX6_areRight 69 = .ok (.istore_n 2, 1) := by decide +kernel
theorem dX6_areRight_70 : decode cX6_areRight 70 = .ok (.aload_n 0, 1) := by decide +kernel
theorem dX6_areRight_71 : decode cX6_areRight 71 = .ok (.iload 6, 2) := by decide +kernel
theorem dX6_areRight_73 : decode cX6_areRight 73 = .ok (.invokevirtual 88, 3) := by decide +kernel
theorem dX6_areRight_76 : decode cX6_areRight 76 = .ok (.istore_n 3, 1) := by decide +kernel
theorem dX6_areRight_77 : decode cX6_areRight 77 = .ok (.aload_n 0, 1) := by decide +kernel
theorem dX6_areRight_78 : decode cX6_areRight 78 = .ok (.iload 6, 2) := by decide +kernel
theorem dX6_areRight_80 : decode cX6_areRight 80 = .ok (.invokevirtual 88, 3) := by decide +kernel
theorem dX6_areRight_83 : decode cX6_areRight 83 = .ok (.istore 4, 2) := by decide +kernel
theorem dX6_areRight_85 : decode cX6_areRight 85 = .ok (.aload_n 0, 1) := by decide +kernel
theorem dX6_areRight_86 : decode cX6_areRight 86 = .ok (.getfield 22, 3) := by decide +kernel
theorem dX6_areRight_89 : decode cX6_areRight 89 = .ok (.iconst 5, 1) := by decide +kernel
theorem dX6_areRight_90 : decode cX6_areRight 90 = .ok (.iload 6, 2) := by decide +kernel
theorem dX6_areRight_92 : decode cX6_areRight 92 = .ok (.imul, 1) := by decide +kernel
theorem dX6_areRight_93 : decode cX6_areRight 93 = .ok (.iconst 3, 1) := by decide +kernel
theorem dX6_areRight_94 : decode cX6_areRight 94 = .ok (.iadd, 1) := by decide +kernel
theorem dX6_areRight_95 : decode cX6_areRight 95 = .ok (.iaload, 1) := by decide +kernel
theorem dX6_areRight_96 : decode cX6_areRight 96 = .ok (.istore 5, 2) := by decide +kernel
theorem dX6_areRight_98 : decode cX6_areRight 98 = .ok (.goto 86, 3) := by decide +kernel
theorem dX6_areRight_101 : decode cX6_areRight 101 = .ok (.aload_n 0, 1) := by decide +kernel
theorem dX6_areRight_102 : decode cX6_areRight 102 = .ok (.iload 6, 2) := by decide +kernel
theorem dX6_areRight_104 : decode cX6_areRight 104 = .ok (.invokevirtual 95, 3) := by decide +kernel
theorem dX6_areRight_107 : decode cX6_areRight 107 = .ok (.iconst 1, 1) := by decide +kernel
theorem dX6_areRight_108 : decode cX6_areRight 108 = .ok (.if_icmp .ne 52, 3) := by decide +kernel
theorem dX6_areRight_111 : decode cX6_areRight 111 = .ok (.aload_n 0, 1) := by decide +kernel
theorem dX6_areRight_112 : decode cX6_areRight 112 = .ok (.iload 6, 2) := by decide +kernel
theorem dX6_areRight_114 : decode cX6_areRight 114 = .ok (.invokevirtual 88, 3) := by decide +kernel
theorem dX6_areRight_117 : decode cX6_areRight 117 = .ok (.aload_n 0, 1) := by decide +kernel
theorem dX6_areRight_118 : decode cX6_areRight 118 = .ok (.getfield 22, 3) := by decide +kernel
theorem dX6_areRight_121 : decode cX6_areRight 121 = .ok (.iconst 5, 1) := by decide +kernel
theorem dX6_areRight_122 : decode cX6_areRight 122 = .ok (.iload 6, 2) := by decide +kernel
theorem dX6_areRight_124 : decode cX6_areRight 124 = .ok (.imul, 1) := by decide +kernel
theorem dX6_areRight_125 : decode cX6_areRight 125 = .ok (.iconst 3, 1) := by decide +kernel
theorem dX6_areRight_126 : decode cX6_areRight 126 = .ok (.iadd, 1) := by decide +kernel
theorem dX6_areRight_127 : decode cX6_areRight 127 = .ok (.iaload, 1) := by decide +kernel
theorem dX6_areRight_128 : decode cX6_areRight 128 = .ok (.iload 5, 2) := by decide +kernel
theorem dX6_areRight_130 : decode cX6_areRight 130 = .ok (.isub, 1) := by decide +kernel
theorem dX6_areRight_131 : decode cX6_areRight 131 = .ok (.invokestatic 98, 3) := by decide +kernel
theorem dX6_areRight_134 : decode cX6_areRight 134 = .ok (.iadd, 1) := by decide +kernel
theorem dX6_areRight_135 : decode cX6_areRight 135 = .ok (.istore 4, 2) := by decide +kernel
theorem dX6_areRight_137 : decode cX6_areRight 137 = .ok (.aload_n 0, 1) := by decide +kernel
theorem dX6_areRight_138 : decode cX6_areRight 138 = .ok (.getfield 22, 3) := by decide +kernel
theorem dX6_areRight_141 : decode cX6_areRight 141 = .ok (.iconst 5, 1) := by decide +kernel
theorem dX6_areRight_142 : decode cX6_areRight 142 = .ok (.iload 6, 2) := by decide +kernel
theorem dX6_areRight_144 : decode cX6_areRight 144 = .ok (.imul, 1) := by decide +kernel
theorem dX6_areRight_145 : decode cX6_areRight 145 = .ok (.iconst 3, 1) := by decide +kernel
theorem dX6_areRight_146 : decode cX6_areRight 146 = .ok (.iadd, 1) := by decide +kernel
theorem dX6_areRight_147 : decode cX6_areRight 147 = .ok (.iaload, 1) := by decide +kernel
theorem dX6_areRight_148 : decode cX6_areRight 148 = .ok (.istore 5, 2) := by decide +kernel
theorem dX6_areRight_150 : decode cX6_areRight 150 = .ok (.iload 4, 2) := by decide +kernel
theorem dX6_areRight_152 : decode cX6_areRight 152 = .ok (.sipush 1000, 3) := by decide +kernel
theorem dX6_areRight_155 : decode cX6_areRight 155 = .ok (.if_icmp .lt 29, 3) := by decide +kernel
theorem dX6_areRight_158 : decode cX6_areRight 158 = .ok (.iconst 0, 1) := by decide +kernel
theorem dX6_areRight_159 : decode cX6_areRight 159 = .ok (.ireturn, 1) := by decide +kernel
theorem dX6_areRight_160 : decode cX6_areRight 160 = .ok (.aload_n 0, 1) := by decide +kernel
theorem dX6_areRight_161 : decode cX6_areRight 161 = .ok (.iload 6, 2) := by decide +kernel
theorem dX6_areRight_163 : decode cX6_areRight 163 = .ok (.invokevirtual 95, 3) := by decide +kernel
theorem dX6_areRight_166 : decode cX6_areRight 166 = .ok (.iconst 3, 1) := by decide +kernel
theorem dX6_areRight_167 : decode cX6_areRight 167 = .ok (.if_icmp .ne 17, 3) := by decide +kernel
theorem dX6_areRight_170 : decode cX6_areRight 170 = .ok (.aload_n 0, 1) := by decide +kernel
theorem dX6_areRight_171 : decode cX6_areRight 171 = .ok (.iload 6, 2) := by decide +kernel
theorem dX6_areRight_173 : decode cX6_areRight 173 = .ok (.invokevirtual 88, 3) := by decide +kernel
theorem dX6_areRight_176 : decode cX6_areRight 176 = .ok (.iload_n 3, 1) := by decide +kernel
theorem dX6_areRight_177 : decode cX6_areRight 177 = .ok (.if_icmp .ne 5, 3) := by decide +kernel
theorem dX6_areRight_180 : decode cX6_areRight 180 = .ok (.iconst 0, 1) := by decide +kernel
theorem dX6_areRight_181 : decode cX6_areRight 181 = .ok (.ireturn, 1) := by decide +kernel
theorem dX6_areRight_182 : decode cX6_areRight 182 = .ok (.iconst 0, 1) := by decide +kernel
theorem dX6_areRight_183 : decode cX6_areRight 183 = .ok (.istore_n 2, 1) := by decide +kernel
theorem dX6_areRight_184 : decode cX6_areRight 184 = .ok (.aload_n 0, 1) := by decide +kernel
theorem dX6_areRight_185 : decode cX6_areRight 185 = .ok (.iload_n 1, 1) := by decide +kernel
theorem dX6_areRight_186 : decode cX6_areRight 186 = .ok (.iload 6, 2) := by decide +kernel
theorem dX6_areRight_188 : decode cX6_areRight 188 = .ok (.invokevirtual 91, 3) := by decide +kernel
theorem dX6_areRight_191 : decode cX6_areRight 191 = .ok (.istore 6, 2) := by decide +kernel
theorem dX6_areRight_193 : decode cX6_areRight 193 = .ok (.goto (-175), 3) := by decide +kernel
theorem dX6_areRight_196 : decode cX6_areRight 196 = .ok (.iconst 1, 1) := by decide +kernel
theorem dX6_areRight_197 : decode cX6_areRight 197 = .ok (.ireturn, 1) := by decide +kernel
theorem dX6_write_0 : decode cX6_write 0 = .ok (.aload_n 0, 1) := by decide +kernel
theorem dX6_write_1 : decode cX6_write 1 = .ok (.getfield 81, 3) := by decide +kernel
theorem dX6_write_4 : decode cX6_write 4 = .ok (.bipush 40, 2) := by decide +kernel
theorem dX6_write_6 : decode cX6_write 6 = .ok (.if_icmp .ne 5, 3) := by decide +kernel
theorem dX6_write_9 : decode cX6_write 9 = .ok (.iconst (-1), 1) := by decide +kernel
theorem dX6_write_10 : decode cX6_write 10 = .ok (.ireturn, 1) := by decide +kernel
theorem dX6_write_11 : decode cX6_write 11 = .ok (.iconst 5, 1) := by decide +kernel
theorem dX6_write_12 : decode cX6_write 12 = .ok (.aload_n 0, 1) := by decide +kernel
theorem dX6_write_13 : decode cX6_write 13 = .ok (.getfield 81, 3) := by decide +kernel
theorem dX6_write_16 : decode cX6_write 16 = .ok (.imul, 1) := by decide +kernel
theorem dX6_write_17 : decode cX6_write 17 = .ok (.istore 6, 2) := by decide +kernel
theorem dX6_write_19 : decode cX6_write 19 = .ok (.aload_n 0, 1) := by decide +kernel
theorem dX6_write_20 : decode cX6_write 20 = .ok (.getfield 22, 3) := by decide +kernel
theorem dX6_write_23 : decode cX6_write 23 = .ok (.iload 6, 2) := by decide +kernel
theorem dX6_write_25 : decode cX6_write 25 = .ok (.iload_n 1, 1) := by decide +kernel
theorem dX6_write_26 : decode cX6_write 26 = .ok (.iastore, 1) := by decide +kernel
theorem dX6_write_27 : decode cX6_write 27 = .ok (.aload_n 0, 1) := by decide +kernel
theorem dX6_write_28 : decode cX6_write 28 = .ok (.getfield 22, 3) := by decide +kernel
theorem dX6_write_31 : decode cX6_write 31 = .ok (.iload 6, 2) := by decide +kernel
theorem dX6_write_33 : decode cX6_write 33 = .ok (.iconst 1, 1) := by decide +kernel
theorem dX6_write_34 : decode cX6_write 34 = .ok (.iadd, 1) := by decide +kernel
theorem dX6_write_35 : decode cX6_write 35 = .ok (.iload_n 2, 1) := by decide +kernel
theorem dX6_write_36 : decode cX6_write 36 = .ok (.iastore, 1) := by decide +kernel
theorem dX6_write_37 : decode cX6_write 37 = .ok (.aload_n 0, 1) := by decide +kernel
theorem dX6_write_38 : decode cX6_write 38 = .ok (.getfield 22, 3) := by decide +kernel
theorem dX6_write_41 : decode cX6_write 41 = .ok (.iload 6, 2) := by decide +kernel
theorem dX6_write_43 : decode cX6_write 43 = .ok (.iconst 2, 1) := by decide +kernel
theorem dX6_write_44 : decode cX6_write 44 = .ok (.iadd, 1) := by decide +kernel
theorem dX6_write_45 : decode cX6_write 45 = .ok (.iload_n 3, 1) := by decide +kernel
theorem dX6_write_46 : decode cX6_write 46 = .ok (.iastore, 1) := by decide +kernel
theorem dX6_write_47 : decode cX6_write 47 = .ok (.aload_n 0, 1) := by decide +kernel
theorem dX6_write_48 : decode cX6_write 48 = .ok (.getfield 22, 3) := by decide +kernel
theorem dX6_write_51 : decode cX6_write 51 = .ok (.iload 6, 2) := by decide +kernel
theorem dX6_write_53 : decode cX6_write 53 = .ok (.iconst 3, 1) := by decide +kernel
theorem dX6_write_54 : decode cX6_write 54 = .ok (.iadd, 1) := by decide +kernel
theorem dX6_write_55 : decode cX6_write 55 = .ok (.iload 4, 2) := by decide +kernel
theorem dX6_write_57 : decode cX6_write 57 = .ok (.iastore, 1) := by decide +kernel
theorem dX6_write_58 : decode cX6_write 58 = .ok (.aload_n 0, 1) := by decide +kernel
theorem dX6_write_59 : decode cX6_write 59 = .ok (.getfield 22, 3) := by decide +kernel
theorem dX6_write_62 : decode cX6_write 62 = .ok (.iload 6, 2) := by decide +kernel
theorem dX6_write_64 : decode cX6_write 64 = .ok (.iconst 4, 1) := by decide +kernel
theorem dX6_write_65 : decode cX6_write 65 = .ok (.iadd, 1) := by decide +kernel
theorem dX6_write_66 : decode cX6_write 66 = .ok (.iload 5, 2) := by decide +kernel
theorem dX6_write_68 : decode cX6_write 68 = .ok (.iastore, 1) := by decide +kernel
theorem dX6_write_69 : decode cX6_write 69 = .ok (.aload_n 0, 1) := by decide +kernel
theorem dX6_write_70 : decode cX6_write 70 = .ok (.dup, 1) := by decide +kernel
theorem dX6_write_71 : decode cX6_write 71 = .ok (.getfield 81, 3) := by decide +kernel
theorem dX6_write_74 : decode cX6_write 74 = .ok (.iconst 1, 1) := by decide +kernel
theorem dX6_write_75 : decode cX6_write 75 = .ok (.iadd, 1) := by decide +kernel
theorem dX6_write_76 : decode cX6_write 76 = .ok (.putfield 81, 3) := by decide +kernel
theorem dX6_write_79 : decode cX6_write 79 = .ok (.aload_n 0, 1) := by decide +kernel
theorem dX6_write_80 : decode cX6_write 80 = .ok (.iload_n 2, 1) := by decide +kernel
theorem dX6_write_81 : decode cX6_write 81 = .ok (.invokevirtual 103, 3) := by decide +kernel
theorem dX6_write_84 : decode cX6_write 84 = .ok (.ifCond .ne 15, 3) := by decide +kernel
theorem dX6_write_87 : decode cX6_write 87 = .ok (.aload_n 0, 1) := by decide +kernel
theorem dX6_write_88 : decode cX6_write 88 = .ok (.dup, 1) := by decide +kernel
theorem dX6_write_89 : decode cX6_write 89 = .ok (.getfield 81, 3) := by decide +kernel
theorem dX6_write_92 : decode cX6_write 92 = .ok (.iconst 1, 1) := by decide +kernel
theorem dX6_write_93 : decode cX6_write 93 = .ok (.isub, 1) := by decide +kernel
theorem dX6_write_94 : decode cX6_write 94 = .ok (.putfield 81, 3) := by decide +kernel
theorem dX6_write_97 : decode cX6_write 97 = .ok (.iconst (-1), 1) := by decide +kernel
theorem dX6_write_98 : decode cX6_write 98 = .ok (.ireturn, 1) := by decide +kernel
theorem dX6_write_99 : decode cX6_write 99 = .ok (.aload_n 0, 1) := by decide +kernel
theorem dX6_write_100 : decode cX6_write 100 = .ok (.iconst 0, 1) := by decide +kernel
theorem dX6_write_101 : decode cX6_write 101 = .ok (.putfield 77, 3) := by decide +kernel
theorem dX6_write_104 : decode cX6_write 104 = .ok (.aload_n 0, 1) := by decide +kernel
theorem dX6_write_105 : decode cX6_write 105 = .ok (.getfield 81, 3) := by decide +kernel
theorem dX6_write_108 : decode cX6_write 108 = .ok (.iconst 1, 1) := by decide +kernel
theorem dX6_write_109 : decode cX6_write 109 = .ok (.isub, 1) := by decide +kernel
theorem dX6_write_110 : decode cX6_write 110 = .ok (.ireturn, 1) := by decide +kernel
theorem dX6_written_0 : decode cX6_written 0 = .ok (.aload_n 0, 1) := by decide +kernel
theorem dX6_written_1 : decode cX6_written 1 = .ok (.iconst 0, 1) := by decide +kernel
theorem dX6_written_2 : decode cX6_written 2 = .ok (.putfield 59, 3) := by decide +kernel
theorem dX6_written_5 : decode cX6_written 5 = .ok (.aload_n 0, 1) := by decide +kernel
theorem dX6_written_6 : decode cX6_written 6 = .ok (.iload_n 2, 1) := by decide +kernel
theorem dX6_written_7 : decode cX6_written 7 = .ok (.invokevirtual 107, 3) := by decide +kernel
theorem dX6_written_10 : decode cX6_written 10 = .ok (.ifCond .ne 9, 3) := by decide +kernel
theorem dX6_written_13 : decode cX6_written 13 = .ok (.aload_n 0, 1) := by decide +kernel
theorem dX6_written_14 : decode cX6_written 14 = .ok (.iconst 1, 1) := by decide +kernel
theorem dX6_written_15 : decode cX6_written 15 = .ok (.invokevirtual 73, 3) := by decide +kernel
theorem dX6_written_18 : decode cX6_written 18 = .ok (.ireturn, 1) := by decide +kernel
theorem dX6_written_19 : decode cX6_written 19 = .ok (.iload_n 3, 1) := by decide +kernel
theorem dX6_written_20 : decode cX6_written 20 = .ok (.invokestatic 110, 3) := by decide +kernel
theorem dX6_written_23 : decode cX6_written 23 = .ok (.ifCond .eq 43, 3) := by decide +kernel
theorem dX6_written_26 : decode cX6_written 26 = .ok (.iload_n 1, 1) := by decide +kernel
theorem dX6_written_27 : decode cX6_written 27 = .ok (.iconst 1, 1) := by decide +kernel
theorem dX6_written_28 : decode cX6_written 28 = .ok (.if_icmp .gt 14, 3) := by decide +kernel
theorem dX6_written_31 : decode cX6_written 31 = .ok (.iload 4, 2) := by decide +kernel
theorem dX6_written_33 : decode cX6_written 33 = .ok (.iconst 0, 1) := by decide +kernel
theorem dX6_written_34 : decode cX6_written 34 = .ok (.bipush 19, 2) := by decide +kernel
theorem dX6_written_36 : decode cX6_written 36 = .ok (.invokestatic 66, 3) := by decide +kernel
theorem dX6_written_39 : decode cX6_written 39 = .ok (.ifCond .eq 27, 3) := by decide +kernel
theorem dX6_written_42 : decode cX6_written 42 = .ok (.iload_n 1, 1) := by decide +kernel
theorem dX6_written_43 : decode cX6_written 43 = .ok (.iconst 1, 1) := by decide +kernel
theorem dX6_written_44 : decode cX6_written 44 = .ok (.if_icmp .eq 18, 3) := by decide +kernel
theorem dX6_written_47 : decode cX6_written 47 = .ok (.iload_n 1, 1) := by decide +kernel
theorem dX6_written_48 : decode cX6_written 48 = .ok (.iconst 3, 1) := by decide +kernel
theorem dX6_written_49 : decode cX6_written 49 = .ok (.if_icmp .eq 13, 3) := by decide +kernel
theorem dX6_written_52 : decode cX6_written 52 = .ok (.iload 5, 2) := by decide +kernel
theorem dX6_written_54 : decode cX6_written 54 = .ok (.iconst 0, 1) := by decide +kernel
theorem dX6_written_55 : decode cX6_written 55 = .ok (.iconst 3, 1) := by decide +kernel
theorem dX6_written_56 : decode cX6_written 56 = .ok (.invokestatic 66, 3) := by decide +kernel
theorem dX6_written_59 : decode cX6_written 59 = .ok (.ifCond .eq 7, 3) := by decide +kernel
theorem dX6_written_62 : decode cX6_written 62 = .ok (.iconst 1, 1) := by decide +kernel
theorem dX6_written_63 : decode cX6_written 63 = .ok (.goto 4, 3) := by decide +kernel
theorem dX6_written_66 : decode cX6_written 66 = .ok (.iconst 0, 1) := by decide +kernel
theorem dX6_written_67 : decode cX6_written 67 = .ok (.istore 6, 2) := by decide +kernel
theorem dX6_written_69 : decode cX6_written 69 = .ok (.iload 6, 2) := by decide +kernel
theorem dX6_written_71 : decode cX6_written 71 = .ok (.ifCond .ne 9, 3) := by decide +kernel
theorem dX6_written_74 : decode cX6_written 74 = .ok (.aload_n 0, 1) := by decide +kernel
theorem dX6_written_75 : decode cX6_written 75 = .ok (.iconst 2, 1) := by decide +kernel
theorem dX6_written_76 : decode cX6_written 76 = .ok (.invokevirtual 73, 3) := by decide +kernel
theorem dX6_written_79 : decode cX6_written 79 = .ok (.ireturn, 1) := by decide +kernel
theorem dX6_written_80 : decode cX6_written 80 = .ok (.aload_n 0, 1) := by decide +kernel
theorem dX6_written_81 : decode cX6_written 81 = .ok (.iload_n 1, 1) := by decide +kernel
theorem dX6_written_82 : decode cX6_written 82 = .ok (.iload_n 2, 1) := by decide +kernel
theorem dX6_written_83 : decode cX6_written 83 = .ok (.iload_n 3, 1) := by decide +kernel
theorem dX6_written_84 : decode cX6_written 84 = .ok (.iload 4, 2) := by decide +kernel
theorem dX6_written_86 : decode cX6_written 86 = .ok (.iload 5, 2) := by decide +kernel
theorem dX6_written_88 : decode cX6_written 88 = .ok (.invokevirtual 113, 3) := by decide +kernel
theorem dX6_written_91 : decode cX6_written 91 = .ok (.istore 7, 2) := by decide +kernel
theorem dX6_written_93 : decode cX6_written 93 = .ok (.iload 7, 2) := by decide +kernel
theorem dX6_written_95 : decode cX6_written 95 = .ok (.iconst (-1), 1) := by decide +kernel
theorem dX6_written_96 : decode cX6_written 96 = .ok (.if_icmp .ne 11, 3) := by decide +kernel
theorem dX6_written_99 : decode cX6_written 99 = .ok (.aload_n 0, 1) := by decide +kernel
theorem dX6_written_100 : decode cX6_written 100 = .ok (.iconst 3, 1) := by decide +kernel
theorem dX6_written_101 : decode cX6_written 101 = .ok (.invokevirtual 73, 3) := by decide +kernel
theorem dX6_written_104 : decode cX6_written 104 = .ok (.goto 5, 3) := by decide +kernel
theorem dX6_written_107 : decode cX6_written 107 = .ok (.iload 7, 2) := by decide +kernel
theorem dX6_written_109 : decode cX6_written 109 = .ok (.ireturn, 1) := by decide +kernel
theorem dX6_enter_0 : decode cX6_enter 0 = .ok (.aload_n 0, 1) := by decide +kernel
theorem dX6_enter_1 : decode cX6_enter 1 = .ok (.iconst 0, 1) := by decide +kernel
theorem dX6_enter_2 : decode cX6_enter 2 = .ok (.iload_n 1, 1) := by decide +kernel
theorem dX6_enter_3 : decode cX6_enter 3 = .ok (.iload_n 2, 1) := by decide +kernel
theorem dX6_enter_4 : decode cX6_enter 4 = .ok (.iload_n 3, 1) := by decide +kernel
theorem dX6_enter_5 : decode cX6_enter 5 = .ok (.iload 4, 2) := by decide +kernel
theorem dX6_enter_7 : decode cX6_enter 7 = .ok (.invokevirtual 117, 3) := by decide +kernel
theorem dX6_enter_10 : decode cX6_enter 10 = .ok (.ireturn, 1) := by decide +kernel
theorem dX6_move_0 : decode cX6_move 0 = .ok (.aload_n 0, 1) := by decide +kernel
theorem dX6_move_1 : decode cX6_move 1 = .ok (.iconst 1, 1) := by decide +kernel
theorem dX6_move_2 : decode cX6_move 2 = .ok (.iload_n 1, 1) := by decide +kernel
theorem dX6_move_3 : decode cX6_move 3 = .ok (.iload_n 2, 1) := by decide +kernel
theorem dX6_move_4 : decode cX6_move 4 = .ok (.iload_n 3, 1) := by decide +kernel
theorem dX6_move_5 : decode cX6_move 5 = .ok (.iconst (-1), 1) := by decide +kernel
theorem dX6_move_6 : decode cX6_move 6 = .ok (.invokevirtual 117, 3) := by decide +kernel
theorem dX6_move_9 : decode cX6_move 9 = .ok (.ireturn, 1) := by decide +kernel
theorem dX6_shift_0 : decode cX6_shift 0 = .ok (.aload_n 0, 1) := by decide +kernel
theorem dX6_shift_1 : decode cX6_shift 1 = .ok (.iconst 2, 1) := by decide +kernel
theorem dX6_shift_2 : decode cX6_shift 2 = .ok (.iload_n 1, 1) := by decide +kernel
theorem dX6_shift_3 : decode cX6_shift 3 = .ok (.iload_n 2, 1) := by decide +kernel
theorem dX6_shift_4 : decode cX6_shift 4 = .ok (.iconst (-1), 1) := by decide +kernel
theorem dX6_shift_5 : decode cX6_shift 5 = .ok (.iload_n 3, 1) := by decide +kernel
theorem dX6_shift_6 : decode cX6_shift 6 = .ok (.invokevirtual 117, 3) := by decide +kernel
theorem dX6_shift_9 : decode cX6_shift 9 = .ok (.ireturn, 1) := by decide +kernel
theorem dX6_leave_0 : decode cX6_leave 0 = .ok (.aload_n 0, 1) := by decide +kernel
theorem dX6_leave_1 : decode cX6_leave 1 = .ok (.iconst 3, 1) := by decide +kernel
theorem dX6_leave_2 : decode cX6_leave 2 = .ok (.iload_n 1, 1) := by decide +kernel
theorem dX6_leave_3 : decode cX6_leave 3 = .ok (.iload_n 2, 1) := by decide +kernel
theorem dX6_leave_4 : decode cX6_leave 4 = .ok (.iconst (-1), 1) := by decide +kernel
theorem dX6_leave_5 : decode cX6_leave 5 = .ok (.iconst (-1), 1) := by decide +kernel
theorem dX6_leave_6 : decode cX6_leave 6 = .ok (.invokevirtual 117, 3) := by decide +kernel
theorem dX6_leave_9 : decode cX6_leave 9 = .ok (.ireturn, 1) := by decide +kernel
theorem dX6_isCue_0 : decode cX6_isCue 0 = .ok (.iload_n 1, 1) := by decide +kernel
theorem dX6_isCue_1 : decode cX6_isCue 1 = .ok (.iconst 0, 1) := by decide +kernel
theorem dX6_isCue_2 : decode cX6_isCue 2 = .ok (.aload_n 0, 1) := by decide +kernel
theorem dX6_isCue_3 : decode cX6_isCue 3 = .ok (.getfield 81, 3) := by decide +kernel
theorem dX6_isCue_6 : decode cX6_isCue 6 = .ok (.iconst 1, 1) := by decide +kernel
theorem dX6_isCue_7 : decode cX6_isCue 7 = .ok (.isub, 1) := by decide +kernel
theorem dX6_isCue_8 : decode cX6_isCue 8 = .ok (.invokestatic 66, 3) := by decide +kernel
theorem dX6_isCue_11 : decode cX6_isCue 11 = .ok (.ifCond .eq 16, 3) := by decide +kernel
theorem dX6_isCue_14 : decode cX6_isCue 14 = .ok (.aload_n 0, 1) := by decide +kernel
theorem dX6_isCue_15 : decode cX6_isCue 15 = .ok (.getfield 25, 3) := by decide +kernel
theorem dX6_isCue_18 : decode cX6_isCue 18 = .ok (.iload_n 1, 1) := by decide +kernel
theorem dX6_isCue_19 : decode cX6_isCue 19 = .ok (.baload, 1) := by decide +kernel
theorem dX6_isCue_20 : decode cX6_isCue 20 = .ok (.ifCond .ne 7, 3) := by decide +kernel
theorem dX6_isCue_23 : decode cX6_isCue 23 = .ok (.iconst 1, 1) := by decide +kernel
theorem dX6_isCue_24 : decode cX6_isCue 24 = .ok (.goto 4, 3) := by decide +kernel
theorem dX6_isCue_27 : decode cX6_isCue 27 = .ok (.iconst 0, 1) := by decide +kernel
theorem dX6_isCue_28 : decode cX6_isCue 28 = .ok (.ireturn, 1) := by decide +kernel
theorem dX6_strike_0 : decode cX6_strike 0 = .ok (.aload_n 0, 1) := by decide +kernel
theorem dX6_strike_1 : decode cX6_strike 1 = .ok (.iconst 0, 1) := by decide +kernel
theorem dX6_strike_2 : decode cX6_strike 2 = .ok (.putfield 59, 3) := by decide +kernel
theorem dX6_strike_5 : decode cX6_strike 5 = .ok (.aload_n 0, 1) := by decide +kernel
theorem dX6_strike_6 : decode cX6_strike 6 = .ok (.iload_n 1, 1) := by decide +kernel
theorem dX6_strike_7 : decode cX6_strike 7 = .ok (.invokevirtual 120, 3) := by decide +kernel
theorem dX6_strike_10 : decode cX6_strike 10 = .ok (.ifCond .ne 9, 3) := by decide +kernel
theorem dX6_strike_13 : decode cX6_strike 13 = .ok (.aload_n 0, 1) := by decide +kernel
theorem dX6_strike_14 : decode cX6_strike 14 = .ok (.iconst 1, 1) := by decide +kernel
theorem dX6_strike_15 : decode cX6_strike 15 = .ok (.invokevirtual 73, 3) := by decide +kernel
theorem dX6_strike_18 : decode cX6_strike 18 = .ok (.ireturn, 1) := by decide +kernel
theorem dX6_strike_19 : decode cX6_strike 19 = .ok (.aload_n 0, 1) := by decide +kernel
theorem dX6_strike_20 : decode cX6_strike 20 = .ok (.getfield 22, 3) := by decide +kernel
theorem dX6_strike_23 : decode cX6_strike 23 = .ok (.iconst 5, 1) := by decide +kernel
theorem dX6_strike_24 : decode cX6_strike 24 = .ok (.iload_n 1, 1) := by decide +kernel
theorem dX6_strike_25 : decode cX6_strike 25 = .ok (.imul, 1) := by decide +kernel
theorem dX6_strike_26 : decode cX6_strike 26 = .ok (.iconst 1, 1) := by decide +kernel
theorem dX6_strike_27 : decode cX6_strike 27 = .ok (.iadd, 1) := by decide +kernel
theorem dX6_strike_28 : decode cX6_strike 28 = .ok (.iaload, 1) := by decide +kernel
theorem dX6_strike_29 : decode cX6_strike 29 = .ok (.istore_n 2, 1) := by decide +kernel
theorem dX6_strike_30 : decode cX6_strike 30 = .ok (.aload_n 0, 1) := by decide +kernel
theorem dX6_strike_31 : decode cX6_strike 31 = .ok (.getfield 25, 3) := by decide +kernel
theorem dX6_strike_34 : decode cX6_strike 34 = .ok (.iload_n 1, 1) := by decide +kernel
theorem dX6_strike_35 : decode cX6_strike 35 = .ok (.iconst 1, 1) := by decide +kernel
theorem dX6_strike_36 : decode cX6_strike 36 = .ok (.bastore, 1) := by decide +kernel
theorem dX6_strike_37 : decode cX6_strike 37 = .ok (.aload_n 0, 1) := by decide +kernel
theorem dX6_strike_38 : decode cX6_strike 38 = .ok (.iload_n 2, 1) := by decide +kernel
theorem dX6_strike_39 : decode cX6_strike 39 = .ok (.invokevirtual 103, 3) := by decide +kernel
theorem dX6_strike_42 : decode cX6_strike 42 = .ok (.ifCond .ne 16, 3) := by decide +kernel
theorem dX6_strike_45 : decode cX6_strike 45 = .ok (.aload_n 0, 1) := by decide +kernel
theorem dX6_strike_46 : decode cX6_strike 46 = .ok (.getfield 25, 3) := by decide +kernel
theorem dX6_strike_49 : decode cX6_strike 49 = .ok (.iload_n 1, 1) := by decide +kernel
theorem dX6_strike_50 : decode cX6_strike 50 = .ok (.iconst 0, 1) := by decide +kernel
theorem dX6_strike_51 : decode cX6_strike 51 = .ok (.bastore, 1) := by decide +kernel
theorem dX6_strike_52 : decode cX6_strike 52 = .ok (.aload_n 0, 1) := by decide +kernel
theorem dX6_strike_53 : decode cX6_strike 53 = .ok (.iconst 2, 1) := by decide +kernel
theorem dX6_strike_54 : decode cX6_strike 54 = .ok (.invokevirtual 73, 3) := by decide +kernel
theorem dX6_strike_57 : decode cX6_strike 57 = .ok (.ireturn, 1) := by decide +kernel
theorem dX6_strike_58 : decode cX6_strike 58 = .ok (.aload_n 0, 1) := by decide +kernel
theorem dX6_strike_59 : decode cX6_strike 59 = .ok (.dup, 1) := by decide +kernel
theorem dX6_strike_60 : decode cX6_strike 60 = .ok (.getfield 123, 3) := by decide +kernel
theorem dX6_strike_63 : decode cX6_strike 63 = .ok (.iconst 1, 1) := by decide +kernel
theorem dX6_strike_64 : decode cX6_strike 64 = .ok (.iadd, 1) := by decide +kernel
theorem dX6_strike_65 : decode cX6_strike 65 = .ok (.putfield 123, 3) := by decide +kernel
theorem dX6_strike_68 : decode cX6_strike 68 = .ok (.aload_n 0, 1) := by decide +kernel
theorem dX6_strike_69 : decode cX6_strike 69 = .ok (.iconst 0, 1) := by decide +kernel
theorem dX6_strike_70 : decode cX6_strike 70 = .ok (.putfield 77, 3) := by decide +kernel
theorem dX6_strike_73 : decode cX6_strike 73 = .ok (.iconst 0, 1) := by decide +kernel
theorem dX6_strike_74 : decode cX6_strike 74 = .ok (.istore_n 3, 1) := by decide +kernel
theorem dX6_strike_75 : decode cX6_strike 75 = .ok (.iconst 0, 1) := by decide +kernel
theorem dX6_strike_76 : decode cX6_strike 76 = .ok (.istore 4, 2) := by decide +kernel
theorem dX6_strike_78 : decode cX6_strike 78 = .ok (.iload 4, 2) := by decide +kernel
theorem dX6_strike_80 : decode cX6_strike 80 = .ok (.aload_n 0, 1) := by decide +kernel
theorem dX6_strike_81 : decode cX6_strike 81 = .ok (.getfield 81, 3) := by decide +kernel
theorem dX6_strike_84 : decode cX6_strike 84 = .ok (.if_icmp .ge 42, 3) := by decide +kernel
theorem dX6_strike_87 : decode cX6_strike 87 = .ok (.iload_n 3, 1) := by decide +kernel
theorem dX6_strike_88 : decode cX6_strike 88 = .ok (.aload_n 0, 1) := by decide +kernel
theorem dX6_strike_89 : decode cX6_strike 89 = .ok (.getfield 25, 3) := by decide +kernel
theorem dX6_strike_92 : decode cX6_strike 92 = .ok (.iload 4, 2) := by decide +kernel
theorem dX6_strike_94 : decode cX6_strike 94 = .ok (.baload, 1) := by decide +kernel
theorem dX6_strike_95 : decode cX6_strike 95 = .ok (.ifCond .ne 22, 3) := by decide +kernel
theorem dX6_strike_98 : decode cX6_strike 98 = .ok (.aload_n 0, 1) := by decide +kernel
theorem dX6_strike_99 : decode cX6_strike 99 = .ok (.getfield 22, 3) := by decide +kernel
theorem dX6_strike_102 : decode cX6_strike 102 = .ok (.iconst 5, 1) := by decide +kernel
theorem dX6_strike_103 : decode cX6_strike 103 = .ok (.iload 4, 2) := by decide +kernel
theorem dX6_strike_105 : decode cX6_strike 105 = .ok (.imul, 1) := by decide +kernel
theorem dX6_strike_106 : decode cX6_strike 106 = .ok (.iconst 1, 1) := by decide +kernel
theorem dX6_strike_107 : decode cX6_strike 107 = .ok (.iadd, 1) := by decide +kernel
theorem dX6_strike_108 : decode cX6_strike 108 = .ok (.iaload, 1) := by decide +kernel
theorem dX6_strike_109 : decode cX6_strike 109 = .ok (.iload_n 2, 1) := by decide +kernel
theorem dX6_strike_110 : decode cX6_strike 110 = .ok (.if_icmp .ne 7, 3) := by decide +kernel
theorem dX6_strike_113 : decode cX6_strike 113 = .ok (.iconst 1, 1) := by decide +kernel
theorem dX6_strike_114 : decode cX6_strike 114 = .ok (.goto 4, 3) := by decide +kernel
theorem dX6_strike_117 : decode cX6_strike 117 = .ok (.iconst 0, 1) := by decide +kernel
theorem dX6_strike_118 : decode cX6_strike 118 = .ok (.iadd, 1) := by decide +kernel
theorem dX6_strike_119 : decode cX6_strike 119 = .ok (.istore_n 3, 1) := by decide +kernel
theorem dX6_strike_120 : decode cX6_strike 120 = .ok (.iinc 4 1, 3) := by decide +kernel
theorem dX6_strike_123 : decode cX6_strike 123 = .ok (.goto (-45), 3) := by decide +kernel
theorem dX6_strike_126 : decode cX6_strike 126 = .ok (.iload_n 3, 1) := by decide +kernel
theorem dX6_strike_127 : decode cX6_strike 127 = .ok (.ireturn, 1) := by decide +kernel
theorem dX6_count_0 : decode cX6_count 0 = .ok (.aload_n 0, 1) := by decide +kernel
theorem dX6_count_1 : decode cX6_count 1 = .ok (.iconst 0, 1) := by decide +kernel
theorem dX6_count_2 : decode cX6_count 2 = .ok (.putfield 59, 3) := by decide +kernel
theorem dX6_count_5 : decode cX6_count 5 = .ok (.iload_n 1, 1) := by decide +kernel
theorem dX6_count_6 : decode cX6_count 6 = .ok (.iconst 0, 1) := by decide +kernel
theorem dX6_count_7 : decode cX6_count 7 = .ok (.iconst 3, 1) := by decide +kernel
theorem dX6_count_8 : decode cX6_count 8 = .ok (.invokestatic 66, 3) := by decide +kernel
theorem dX6_count_11 : decode cX6_count 11 = .ok (.ifCond .ne 9, 3) := by decide +kernel
theorem dX6_count_14 : decode cX6_count 14 = .ok (.aload_n 0, 1) := by decide +kernel
theorem dX6_count_15 : decode cX6_count 15 = .ok (.iconst 1, 1) := by decide +kernel
theorem dX6_count_16 : decode cX6_count 16 = .ok (.invokevirtual 73, 3) := by decide +kernel
theorem dX6_count_19 : decode cX6_count 19 = .ok (.ireturn, 1) := by decide +kernel
theorem dX6_count_20 : decode cX6_count 20 = .ok (.iload_n 1, 1) := by decide +kernel
theorem dX6_count_21 : decode cX6_count 21 = .ok (.ifCond .ne 10, 3) := by decide +kernel
theorem dX6_count_24 : decode cX6_count 24 = .ok (.aload_n 0, 1) := by decide +kernel
theorem dX6_count_25 : decode cX6_count 25 = .ok (.getfield 63, 3) := by decide +kernel
theorem dX6_count_28 : decode cX6_count 28 = .ok (.goto 31, 3) := by decide +kernel
theorem dX6_count_31 : decode cX6_count 31 = .ok (.iload_n 1, 1) := by decide +kernel
theorem dX6_count_32 : decode cX6_count 32 = .ok (.iconst 1, 1) := by decide +kernel
theorem dX6_count_33 : decode cX6_count 33 = .ok (.if_icmp .ne 10, 3) := by decide +kernel
theorem dX6_count_36 : decode cX6_count 36 = .ok (.aload_n 0, 1) := by decide +kernel
theorem dX6_count_37 : decode cX6_count 37 = .ok (.getfield 70, 3) := by decide +kernel
theorem dX6_count_40 : decode cX6_count 40 = .ok (.goto 19, 3) := by decide +kernel
theorem dX6_count_43 : decode cX6_count 43 = .ok (.iload_n 1, 1) := by decide +kernel
theorem dX6_count_44 : decode cX6_count 44 = .ok (.iconst 2, 1) := by decide +kernel
theorem dX6_count_45 : decode cX6_count 45 = .ok (.if_icmp .ne 10, 3) := by decide +kernel
theorem dX6_count_48 : decode cX6_count 48 = .ok (.aload_n 0, 1) := by decide +kernel
theorem dX6_count_49 : decode cX6_count 49 = .ok (.getfield 81, 3) := by decide +kernel
theorem dX6_count_52 : decode cX6_count 52 = .ok (.goto 7, 3) := by decide +kernel
theorem dX6_count_55 : decode cX6_count 55 = .ok (.aload_n 0, 1) := by decide +kernel
theorem dX6_count_56 : decode cX6_count 56 = .ok (.getfield 123, 3) := by decide +kernel
theorem dX6_count_59 : decode cX6_count 59 = .ok (.ireturn, 1) := by decide +kernel
theorem dX6_cue_0 : decode cX6_cue 0 = .ok (.aload_n 0, 1) := by decide +kernel
theorem dX6_cue_1 : decode cX6_cue 1 = .ok (.iconst 0, 1) := by decide +kernel
theorem dX6_cue_2 : decode cX6_cue 2 = .ok (.putfield 59, 3) := by decide +kernel
theorem dX6_cue_5 : decode cX6_cue 5 = .ok (.aload_n 0, 1) := by decide +kernel
theorem dX6_cue_6 : decode cX6_cue 6 = .ok (.iload_n 1, 1) := by decide +kernel
theorem dX6_cue_7 : decode cX6_cue 7 = .ok (.invokevirtual 120, 3) := by decide +kernel
theorem dX6_cue_10 : decode cX6_cue 10 = .ok (.ifCond .eq 25, 3) := by decide +kernel
theorem dX6_cue_13 : decode cX6_cue 13 = .ok (.iload_n 2, 1) := by decide +kernel
theorem dX6_cue_14 : decode cX6_cue 14 = .ok (.iconst 0, 1) := by decide +kernel
theorem dX6_cue_15 : decode cX6_cue 15 = .ok (.iconst 4, 1) := by decide +kernel
theorem dX6_cue_16 : decode cX6_cue 16 = .ok (.invokestatic 66, 3) := by decide +kernel
theorem dX6_cue_19 : decode cX6_cue 19 = .ok (.ifCond .eq 16, 3) := by decide +kernel
theorem dX6_cue_22 : decode cX6_cue 22 = .ok (.aload_n 0, 1) := by decide +kernel
theorem dX6_cue_23 : decode cX6_cue 23 = .ok (.getfield 22, 3) := by decide +kernel
theorem dX6_cue_26 : decode cX6_cue 26 = .ok (.iconst 5, 1) := by decide +kernel
theorem dX6_cue_27 : decode cX6_cue 27 = .ok (.iload_n 1, 1) := by decide +kernel
theorem dX6_cue_28 : decode cX6_cue 28 = .ok (.imul, 1) := by decide +kernel
theorem dX6_cue_29 : decode cX6_cue 29 = .ok (.iload_n 2, 1) := by decide +kernel
theorem dX6_cue_30 : decode cX6_cue 30 = .ok (.iadd, 1) := by decide +kernel
theorem dX6_cue_31 : decode cX6_cue 31 = .ok (.iaload, 1) := by decide +kernel
theorem dX6_cue_32 : decode cX6_cue 32 = .ok (.goto 8, 3) := by decide +kernel
theorem dX6_cue_35 : decode cX6_cue 35 = .ok (.aload_n 0, 1) := by decide +kernel
theorem dX6_cue_36 : decode cX6_cue 36 = .ok (.iconst 1, 1) := by decide +kernel
theorem dX6_cue_37 : decode cX6_cue 37 = .ok (.invokevirtual 73, 3) := by decide +kernel
theorem dX6_cue_40 : decode cX6_cue 40 = .ok (.ireturn, 1) := by decide +kernel
theorem dX6_workOut_0 : decode cX6_workOut 0 = .ok (.aload_n 0, 1) := by decide +kernel
theorem dX6_workOut_1 : decode cX6_workOut 1 = .ok (.getfield 77, 3) := by decide +kernel
theorem dX6_workOut_4 : decode cX6_workOut 4 = .ok (.ifCond .eq 4, 3) := by decide +kernel
theorem dX6_workOut_7 : decode cX6_workOut 7 = .ok (.return_, 1) := by decide +kernel
theorem dX6_workOut_8 : decode cX6_workOut 8 = .ok (.aload_n 0, 1) := by decide +kernel
theorem dX6_workOut_9 : decode cX6_workOut 9 = .ok (.iconst 1, 1) := by decide +kernel
theorem dX6_workOut_10 : decode cX6_workOut 10 = .ok (.putfield 77, 3) := by decide +kernel
theorem dX6_workOut_13 : decode cX6_workOut 13 = .ok (.iconst 0, 1) := by decide +kernel
theorem dX6_workOut_14 : decode cX6_workOut 14 = .ok (.istore_n 1, 1) := by decide +kernel
theorem dX6_workOut_15 : decode cX6_workOut 15 = .ok (.iload_n 1, 1) := by decide +kernel
theorem dX6_workOut_16 : decode cX6_workOut 16 = .ok (.aload_n 0, 1) := by decide +kernel
theorem dX6_workOut_17 : decode cX6_workOut 17 = .ok (.getfield 63, 3) := by decide +kernel
theorem dX6_workOut_20 : decode cX6_workOut 20 = .ok (.if_icmp .ge 14, 3) := by decide +kernel
theorem dX6_workOut_23 : decode cX6_workOut 23 = .ok (.aload_n 0, 1) := by decide +kernel
theorem dX6_workOut_24 : decode cX6_workOut 24 = .ok (.iload_n 1, 1) := by decide +kernel
theorem dX6_workOut_25 : decode cX6_workOut 25 = .ok (.invokevirtual 126, 3) := by decide +kernel
theorem dX6_workOut_28 : decode cX6_workOut 28 = .ok (.iinc 1 1, 3) := by decide +kernel
theorem dX6_workOut_31 : decode cX6_workOut 31 = .ok (.goto (-16), 3) := by decide +kernel
theorem dX6_workOut_34 : decode cX6_workOut 34 = .ok (.aload_n 0, 1) := by decide +kernel
theorem dX6_workOut_35 : decode cX6_workOut 35 = .ok (.invokevirtual 130, 3) := by decide +kernel
theorem dX6_workOut_38 : decode cX6_workOut 38 = .ok (.return_, 1) := by decide +kernel
theorem dX6_workOut__0 : decode cX6_workOut_ 0 = .ok (.aload_n 0, 1) := by decide +kernel
theorem dX6_workOut__1 : decode cX6_workOut_ 1 = .ok (.getfield 47, 3) := by decide +kernel
theorem dX6_workOut__4 : decode cX6_workOut_ 4 = .ok (.iload_n 1, 1) := by decide +kernel
theorem dX6_workOut__5 : decode cX6_workOut_ 5 = .ok (.iconst 0, 1) := by decide +kernel
theorem dX6_workOut__6 : decode cX6_workOut_ 6 = .ok (.iastore, 1) := by decide +kernel
theorem dX6_workOut__7 : decode cX6_workOut_ 7 = .ok (.iconst (-1), 1) := by decide +kernel
theorem dX6_workOut__8 : decode cX6_workOut_ 8 = .ok (.istore_n 2, 1) := by decide +kernel
theorem dX6_workOut__9 : decode cX6_workOut_ 9 = .ok (.iconst (-1), 1) := by decide +kernel
theorem dX6_workOut__10 : decode cX6_workOut_ 10 = .ok (.istore_n 3, 1) := by decide +kernel
theorem dX6_workOut__11 : decode cX6_workOut_ 11 = .ok (.iconst (-1), 1) := by decide +kernel
theorem dX6_workOut__12 : decode cX6_workOut_ 12 = .ok (.istore 4, 2) := by decide +kernel
theorem dX6_workOut__14 : decode cX6_workOut_ 14 = .ok (.aload_n 0, 1) := by decide +kernel
theorem dX6_workOut__15 : decode cX6_workOut_ 15 = .ok (.iload_n 1, 1) := by decide +kernel
theorem dX6_workOut__16 : decode cX6_workOut_ 16 = .ok (.iconst (-1), 1) := by decide +kernel
theorem dX6_workOut__17 : decode cX6_workOut_ 17 = .ok (.invokevirtual 91, 3) := by decide +kernel
theorem dX6_workOut__20 : decode cX6_workOut_ 20 = .ok (.istore 5, 2) := by decide +kernel
theorem dX6_workOut__22 : decode cX6_workOut_ 22 = .ok (.iconst 0, 1) := by decide +kernel
theorem dX6_workOut__23 : decode cX6_workOut_ 23 = .ok (.istore 6, 2) := by decide +kernel
theorem dX6_workOut__25 : decode cX6_workOut_ 25 = .ok (.iload 6, 2) := by decide +kernel
theorem dX6_workOut__27 : decode cX6_workOut_ 27 = .ok (.sipush 1000, 3) := by decide +kernel
theorem dX6_workOut__30 : decode cX6_workOut_ 30 = .ok (.if_icmp .ge 255, 3) := by decide +kernel
theorem dX6_workOut__33 : decode cX6_workOut_ 33 = .ok (.iload_n 2, 1) := by decide +kernel
theorem dX6_workOut__34 : decode cX6_workOut_ 34 = .ok (.iconst (-1), 1) := by decide +kernel
theorem dX6_workOut__35 : decode cX6_workOut_ 35 = .ok (.if_icmp .eq 17, 3) := by decide +kernel
theorem dX6_workOut__38 : decode cX6_workOut_ 38 = .ok (.iload_n 2, 1) := by decide +kernel
theorem dX6_workOut__39 : decode cX6_workOut_ 39 = .ok (.iload_n 3, 1) := by decide +kernel
theorem dX6_workOut__40 : decode cX6_workOut_ 40 = .ok (.if_icmp .eq 12, 3) := by decide +kernel
theorem dX6_workOut__43 : decode cX6_workOut_ 43 = .ok (.iload_n 2, 1) := by decide +kernel
theorem dX6_workOut__44 : decode cX6_workOut_ 44 = .ok (.iload_n 3, 1) := by decide +kernel
theorem dX6_workOut__45 : decode cX6_workOut_ 45 = .ok (.iload_n 2, 1) := by decide +kernel
theorem dX6_workOut__46 : decode cX6_workOut_ 46 = .ok (.isub, 1) := by decide +kernel
theorem dX6_workOut__47 : decode cX6_workOut_ 47 = .ok (.invokestatic 133, 3) := by decide +kernel
theorem dX6_workOut__50 : decode cX6_workOut_ 50 = .ok (.iadd, 1) := by decide +kernel
theorem dX6_workOut__51 : decode cX6_workOut_ 51 = .ok (.istore_n 2, 1) := by decide +kernel
theorem dX6_workOut__52 : decode cX6_workOut_ 52 = .ok (.iload 5, 2) := by decide +kernel
theorem dX6_workOut__54 : decode cX6_workOut_ 54 = .ok (.iconst (-1), 1) := by decide +kernel
theorem dX6_workOut__55 : decode cX6_workOut_ 55 = .ok (.if_icmp .eq 174, 3) := by decide +kernel
theorem dX6_workOut__58 : decode cX6_workOut_ 58 = .ok (.aload_n 0, 1) := by decide +kernel
theorem dX6_workOut__59 : decode cX6_workOut_ 59 = .ok (.iload 5, 2) := by decide +kernel
theorem dX6_workOut__61 : decode cX6_workOut_ 61 = .ok (.invokevirtual 88, 3) := by decide +kernel
theorem dX6_workOut__64 : decode cX6_workOut_ 64 = .ok (.iload 6, 2) := by decide +kernel
theorem dX6_workOut__66 : decode cX6_workOut_ 66 = .ok (.if_icmp .ne 163, 3) := by decide +kernel
theorem dX6_workOut__69 : decode cX6_workOut_ 69 = .ok (.bipush 40, 2) := by decide +kernel
theorem dX6_workOut__71 : decode cX6_workOut_ 71 = .ok (.iload_n 1, 1) := by decide +kernel
theorem dX6_workOut__72 : decode cX6_workOut_ 72 = .ok (.imul, 1) := by decide +kernel
theorem dX6_workOut__73 : decode cX6_workOut_ 73 = .ok (.aload_n 0, 1) := by decide +kernel
theorem dX6_workOut__74 : decode cX6_workOut_ 74 = .ok (.getfield 47, 3) := by decide +kernel
theorem dX6_workOut__77 : decode cX6_workOut_ 77 = .ok (.iload_n 1, 1) := by decide +kernel
theorem dX6_workOut__78 : decode cX6_workOut_ 78 = .ok (.iaload, 1) := by decide +kernel
theorem dX6_workOut__79 : decode cX6_workOut_ 79 = .ok (.iadd, 1) := by decide +kernel
theorem dX6_workOut__80 : decode cX6_workOut_ 80 = .ok (.istore 7, 2) := by decide +kernel
theorem dX6_workOut__82 : decode cX6_workOut_ 82 = .ok (.aload_n 0, 1) := by decide +kernel
theorem dX6_workOut__83 : decode cX6_workOut_ 83 = .ok (.iload 5, 2) := by decide +kernel
theorem dX6_workOut__85 : decode cX6_workOut_ 85 = .ok (.invokevirtual 95, 3) := by decide +kernel
theorem dX6_workOut__88 : decode cX6_workOut_ 88 = .ok (.ifCond .ne 62, 3) := by decide +kernel
theorem dX6_workOut__91 : decode cX6_workOut_ 91 = .ok (.aload_n 0, 1) := by decide +kernel
theorem dX6_workOut__92 : decode cX6_workOut_ 92 = .ok (.getfield 22, 3) := by decide +kernel
theorem dX6_workOut__95 : decode cX6_workOut_ 95 = .ok (.iconst 5, 1) := by decide +kernel
theorem dX6_workOut__96 : decode cX6_workOut_ 96 = .ok (.iload 5, 2) := by decide +kernel
theorem dX6_workOut__98 : decode cX6_workOut_ 98 = .ok (.imul, 1) := by decide +kernel
theorem dX6_workOut__99 : decode cX6_workOut_ 99 = .ok (.iconst 3, 1) := by decide +kernel
theorem dX6_workOut__100 : decode cX6_workOut_ 100 = .ok (.iadd, 1) := by decide +kernel
theorem dX6_workOut__101 : decode cX6_workOut_ 101 = .ok (.iaload, 1) := by decide +kernel
theorem dX6_workOut__102 : decode cX6_workOut_ 102 = .ok (.istore_n 2, 1) := by decide +kernel
theorem dX6_workOut__103 : decode cX6_workOut_ 103 = .ok (.iload_n 2, 1) := by decide +kernel
theorem dX6_workOut__104 : decode cX6_workOut_ 104 = .ok (.istore_n 3, 1) := by decide +kernel
theorem dX6_workOut__105 : decode cX6_workOut_ 105 = .ok (.aload_n 0, 1) := by decide +kernel
theorem dX6_workOut__106 : decode cX6_workOut_ 106 = .ok (.getfield 22, 3) := by decide +kernel
theorem dX6_workOut__109 : decode cX6_workOut_ 109 = .ok (.iconst 5, 1) := by decide +kernel
theorem dX6_workOut__110 : decode cX6_workOut_ 110 = .ok (.iload 5, 2) := by decide +kernel
theorem dX6_workOut__112 : decode cX6_workOut_ 112 = .ok (.imul, 1) := by decide +kernel
theorem dX6_workOut__113 : decode cX6_workOut_ 113 = .ok (.iconst 4, 1) := by decide +kernel
theorem dX6_workOut__114 : decode cX6_workOut_ 114 = .ok (.iadd, 1) := by decide +kernel
theorem dX6_workOut__115 : decode cX6_workOut_ 115 = .ok (.iaload, 1) := by decide +kernel
theorem dX6_workOut__116 : decode cX6_workOut_ 116 = .ok (.istore 4, 2) := by decide +kernel
theorem dX6_workOut__118 : decode cX6_workOut_ 118 = .ok (.aload_n 0, 1) := by decide +kernel
theorem dX6_workOut__119 : decode cX6_workOut_ 119 = .ok (.getfield 50, 3) := by decide +kernel
theorem dX6_workOut__122 : decode cX6_workOut_ 122 = .ok (.iload 7, 2) := by decide +kernel
theorem dX6_workOut__124 : decode cX6_workOut_ 124 = .ok (.iload 6, 2) := by decide +kernel
theorem dX6_workOut__126 : decode cX6_workOut_ 126 = .ok (.iastore, 1) := by decide +kernel
theorem dX6_workOut__127 : decode cX6_workOut_ 127 = .ok (.aload_n 0, 1) := by decide +kernel
theorem dX6_workOut__128 : decode cX6_workOut_ 128 = .ok (.getfield 53, 3) := by decide +kernel
theorem dX6_workOut__131 : decode cX6_workOut_ 131 = .ok (.iload 7, 2) := by decide +kernel
theorem dX6_workOut__133 : decode cX6_workOut_ 133 = .ok (.sipush 1000, 3) := by decide +kernel
theorem dX6_workOut__136 : decode cX6_workOut_ 136 = .ok (.iastore, 1) := by decide +kernel
theorem dX6_workOut__137 : decode cX6_workOut_ 137 = .ok (.aload_n 0, 1) := by decide +kernel
theorem dX6_workOut__138 : decode cX6_workOut_ 138 = .ok (.getfield 47, 3) := by decide +kernel
theorem dX6_workOut__141 : decode cX6_workOut_ 141 = .ok (.iload_n 1, 1) := by decide +kernel
theorem dX6_workOut__142 : decode cX6_workOut_ 142 = .ok (.dup2, 1) := by decide +kernel
theorem dX6_workOut__143 : decode cX6_workOut_ 143 = .ok (.iaload, 1) := by decide +kernel
theorem dX6_workOut__144 : decode cX6_workOut_ 144 = .ok (.iconst 1, 1) := by decide +kernel
theorem dX6_workOut__145 : decode cX6_workOut_ 145 = .ok (.iadd, 1) := by decide +kernel
theorem dX6_workOut__146 : decode cX6_workOut_ 146 = .ok (.iastore, 1) := by decide +kernel
theorem dX6_workOut__147 : decode cX6_workOut_ 147 = .ok (.goto 70, 3) := by decide +kernel
theorem dX6_workOut__150 : decode cX6_workOut_ 150 = .ok (.aload_n 0, 1) := by decide +kernel
theorem dX6_workOut__151 : decode cX6_workOut_ 151 = .ok (.iload 5, 2) := by decide +kernel
theorem dX6_workOut__153 : decode cX6_workOut_ 153 = .ok (.invokevirtual 95, 3) := by decide +kernel
theorem dX6_workOut__156 : decode cX6_workOut_ 156 = .ok (.iconst 1, 1) := by decide +kernel
theorem dX6_workOut__157 : decode cX6_workOut_ 157 = .ok (.if_icmp .ne 18, 3) := by decide +kernel
theorem dX6_workOut__160 : decode cX6_workOut_ 160 = .ok (.aload_n 0, 1) := by decide +kernel
theorem dX6_workOut__161 : decode cX6_workOut_ 161 = .ok (.getfield 22, 3) := by decide +kernel
theorem dX6_workOut__164 : decode cX6_workOut_ 164 = .ok (.iconst 5, 1) := by decide +kernel
theorem dX6_workOut__165 : decode cX6_workOut_ 165 = .ok (.iload 5, 2) := by decide +kernel
theorem dX6_workOut__167 : decode cX6_workOut_ 167 = .ok (.imul, 1) := by decide +kernel
theorem dX6_workOut__168 : decode cX6_workOut_ 168 = .ok (.iconst 3, 1) := by decide +kernel
theorem dX6_workOut__169 : decode cX6_workOut_ 169 = .ok (.iadd, 1) := by decide +kernel
theorem dX6_workOut__170 : decode cX6_workOut_ 170 = .ok (.iaload, 1) := by decide +kernel
theorem dX6_workOut__171 : decode cX6_workOut_ 171 = .ok (.istore_n 3, 1) := by decide +kernel
theorem dX6_workOut__172 : decode cX6_workOut_ 172 = .ok (.goto 45, 3) := by decide +kernel
theorem dX6_workOut__175 : decode cX6_workOut_ 175 = .ok (.aload_n 0, 1) := by decide +kernel
theorem dX6_workOut__176 : decode cX6_workOut_ 176 = .ok (.iload 5, 2) := by decide +kernel
theorem dX6_workOut__178 : decode cX6_workOut_ 178 = .ok (.invokevirtual 95, 3) := by decide +kernel
theorem dX6_workOut__181 : decode cX6_workOut_ 181 = .ok (.iconst 2, 1) := by decide +kernel
theorem dX6_workOut__182 : decode cX6_workOut_ 182 = .ok (.if_icmp .ne 19, 3) := by decide +kernel
theorem dX6_workOut__185 : decode cX6_workOut_ 185 = .ok (.aload_n 0, 1) := by decide +kernel
theorem dX6_workOut__186 : decode cX6_workOut_ 186 = .ok (.getfield 22, 3) := by decide +kernel
theorem dX6_workOut__189 : decode cX6_workOut_ 189 = .ok (.iconst 5, 1) := by decide +kernel
theorem dX6_workOut__190 : decode cX6_workOut_ 190 = .ok (.iload 5, 2) := by decide +kernel
theorem dX6_workOut__192 : decode cX6_workOut_ 192 = .ok (.imul, 1) := by decide +kernel
theorem dX6_workOut__193 : decode cX6_workOut_ 193 = .ok (.iconst 4, 1) := by decide +kernel
theorem dX6_workOut__194 : decode cX6_workOut_ 194 = .ok (.iadd, 1) := by decide +kernel
theorem dX6_workOut__195 : decode cX6_workOut_ 195 = .ok (.iaload, 1) := by decide +kernel
theorem dX6_workOut__196 : decode cX6_workOut_ 196 = .ok (.istore 4, 2) := by decide +kernel
theorem dX6_workOut__198 : decode cX6_workOut_ 198 = .ok (.goto 19, 3) := by decide +kernel
theorem dX6_workOut__201 : decode cX6_workOut_ 201 = .ok (.iconst (-1), 1) := by decide +kernel
theorem dX6_workOut__202 : decode cX6_workOut_ 202 = .ok (.istore_n 2, 1) := by decide +kernel
theorem dX6_workOut__203 : decode cX6_workOut_ 203 = .ok (.iconst (-1), 1) := by decide +kernel
theorem dX6_workOut__204 : decode cX6_workOut_ 204 = .ok (.istore 4, 2) := by decide +kernel
theorem dX6_workOut__206 : decode cX6_workOut_ 206 = .ok (.aload_n 0, 1) := by decide +kernel
theorem dX6_workOut__207 : decode cX6_workOut_ 207 = .ok (.getfield 53, 3) := by decide +kernel
theorem dX6_workOut__210 : decode cX6_workOut_ 210 = .ok (.iload 7, 2) := by decide +kernel
theorem dX6_workOut__212 : decode cX6_workOut_ 212 = .ok (.iconst 1, 1) := by decide +kernel
theorem dX6_workOut__213 : decode cX6_workOut_ 213 = .ok (.isub, 1) := by decide +kernel
theorem dX6_workOut__214 : decode cX6_workOut_ 214 = .ok (.iload 6, 2) := by decide +kernel
theorem dX6_workOut__216 : decode cX6_workOut_ 216 = .ok (.iastore, 1) := by decide +kernel
theorem dX6_workOut__217 : decode cX6_workOut_ 217 = .ok (.aload_n 0, 1) := by decide +kernel
theorem dX6_workOut__218 : decode cX6_workOut_ 218 = .ok (.iload_n 1, 1) := by decide +kernel
theorem dX6_workOut__219 : decode cX6_workOut_ 219 = .ok (.iload 5, 2) := by decide +kernel
theorem dX6_workOut__221 : decode cX6_workOut_ 221 = .ok (.invokevirtual 91, 3) := by decide +kernel
theorem dX6_workOut__224 : decode cX6_workOut_ 224 = .ok (.istore 5, 2) := by decide +kernel
theorem dX6_workOut__226 : decode cX6_workOut_ 226 = .ok (.goto (-174), 3) := by decide +kernel
theorem dX6_workOut__229 : decode cX6_workOut_ 229 = .ok (.aload_n 0, 1) := by decide +kernel
theorem dX6_workOut__230 : decode cX6_workOut_ 230 = .ok (.getfield 38, 3) := by decide +kernel
theorem dX6_workOut__233 : decode cX6_workOut_ 233 = .ok (.sipush 1000, 3) := by decide +kernel
theorem dX6_workOut__236 : decode cX6_workOut_ 236 = .ok (.iload_n 1, 1) := by decide +kernel
theorem dX6_workOut__237 : decode cX6_workOut_ 237 = .ok (.imul, 1) := by decide +kernel
theorem dX6_workOut__238 : decode cX6_workOut_ 238 = .ok (.iload 6, 2) := by decide +kernel
theorem dX6_workOut__240 : decode cX6_workOut_ 240 = .ok (.iadd, 1) := by decide +kernel
theorem dX6_workOut__241 : decode cX6_workOut_ 241 = .ok (.iload_n 2, 1) := by decide +kernel
theorem dX6_workOut__242 : decode cX6_workOut_ 242 = .ok (.iastore, 1) := by decide +kernel
theorem dX6_workOut__243 : decode cX6_workOut_ 243 = .ok (.aload_n 0, 1) := by decide +kernel
theorem dX6_workOut__244 : decode cX6_workOut_ 244 = .ok (.getfield 41, 3) := by decide +kernel
theorem dX6_workOut__247 : decode cX6_workOut_ 247 = .ok (.sipush 1000, 3) := by decide +kernel
theorem dX6_workOut__250 : decode cX6_workOut_ 250 = .ok (.iload_n 1, 1) := by decide +kernel
theorem dX6_workOut__251 : decode cX6_workOut_ 251 = .ok (.imul, 1) := by decide +kernel
theorem dX6_workOut__252 : decode cX6_workOut_ 252 = .ok (.iload 6, 2) := by decide +kernel
theorem dX6_workOut__254 : decode cX6_workOut_ 254 = .ok (.iadd, 1) := by decide +kernel
theorem dX6_workOut__255 : decode cX6_workOut_ 255 = .ok (.iload 4, 2) := by decide +kernel
theorem dX6_workOut__257 : decode cX6_workOut_ 257 = .ok (.iastore, 1) := by decide +kernel
theorem dX6_workOut__258 : decode cX6_workOut_ 258 = .ok (.aload_n 0, 1) := by decide +kernel
theorem dX6_workOut__259 : decode cX6_workOut_ 259 = .ok (.getfield 44, 3) := by decide +kernel
theorem dX6_workOut__262 : decode cX6_workOut_ 262 = .ok (.sipush 1000, 3) := by decide +kernel
theorem dX6_workOut__265 : decode cX6_workOut_ 265 = .ok (.iload_n 1, 1) := by decide +kernel
theorem dX6_workOut__266 : decode cX6_workOut_ 266 = .ok (.imul, 1) := by decide +kernel
theorem dX6_workOut__267 : decode cX6_workOut_ 267 = .ok (.iload 6, 2) := by decide +kernel
theorem dX6_workOut__269 : decode cX6_workOut_ 269 = .ok (.iadd, 1) := by decide +kernel
theorem dX6_workOut__270 : decode cX6_workOut_ 270 = .ok (.aload_n 0, 1) := by decide +kernel
theorem dX6_workOut__271 : decode cX6_workOut_ 271 = .ok (.getfield 47, 3) := by decide +kernel
theorem dX6_workOut__274 : decode cX6_workOut_ 274 = .ok (.iload_n 1, 1) := by decide +kernel
theorem dX6_workOut__275 : decode cX6_workOut_ 275 = .ok (.iaload, 1) := by decide +kernel
theorem dX6_workOut__276 : decode cX6_workOut_ 276 = .ok (.iconst 1, 1) := by decide +kernel
theorem dX6_workOut__277 : decode cX6_workOut_ 277 = .ok (.isub, 1) := by decide +kernel
theorem dX6_workOut__278 : decode cX6_workOut_ 278 = .ok (.iastore, 1) := by decide +kernel
theorem dX6_workOut__279 : decode cX6_workOut_ 279 = .ok (.iinc 6 1, 3) := by decide +kernel
theorem dX6_workOut__282 : decode cX6_workOut_ 282 = .ok (.goto (-257), 3) := by decide +kernel
theorem dX6_workOut__285 : decode cX6_workOut_ 285 = .ok (.return_, 1) := by decide +kernel
theorem dX6_playerAt_0 : decode cX6_playerAt 0 = .ok (.aload_n 0, 1) := by decide +kernel
theorem dX6_playerAt_1 : decode cX6_playerAt 1 = .ok (.getfield 38, 3) := by decide +kernel
theorem dX6_playerAt_4 : decode cX6_playerAt 4 = .ok (.sipush 1000, 3) := by decide +kernel
theorem dX6_playerAt_7 : decode cX6_playerAt 7 = .ok (.iload_n 1, 1) := by decide +kernel
theorem dX6_playerAt_8 : decode cX6_playerAt 8 = .ok (.imul, 1) := by decide +kernel
theorem dX6_playerAt_9 : decode cX6_playerAt 9 = .ok (.iload_n 2, 1) := by decide +kernel
theorem dX6_playerAt_10 : decode cX6_playerAt 10 = .ok (.iadd, 1) := by decide +kernel
theorem dX6_playerAt_11 : decode cX6_playerAt 11 = .ok (.iaload, 1) := by decide +kernel
theorem dX6_playerAt_12 : decode cX6_playerAt 12 = .ok (.iconst (-1), 1) := by decide +kernel
theorem dX6_playerAt_13 : decode cX6_playerAt 13 = .ok (.if_icmp .ne 7, 3) := by decide +kernel
theorem dX6_playerAt_16 : decode cX6_playerAt 16 = .ok (.iconst (-1), 1) := by decide +kernel
theorem dX6_playerAt_17 : decode cX6_playerAt 17 = .ok (.goto 25, 3) := by decide +kernel
theorem dX6_playerAt_20 : decode cX6_playerAt 20 = .ok (.aload_n 0, 1) := by decide +kernel
theorem dX6_playerAt_21 : decode cX6_playerAt 21 = .ok (.getfield 56, 3) := by decide +kernel
theorem dX6_playerAt_24 : decode cX6_playerAt 24 = .ok (.bipush 40, 2) := by decide +kernel
theorem dX6_playerAt_26 : decode cX6_playerAt 26 = .ok (.iload_n 1, 1) := by decide +kernel
theorem dX6_playerAt_27 : decode cX6_playerAt 27 = .ok (.imul, 1) := by decide +kernel
theorem dX6_playerAt_28 : decode cX6_playerAt 28 = .ok (.aload_n 0, 1) := by decide +kernel
theorem dX6_playerAt_29 : decode cX6_playerAt 29 = .ok (.getfield 44, 3) := by decide +kernel
theorem dX6_playerAt_32 : decode cX6_playerAt 32 = .ok (.sipush 1000, 3) := by decide +kernel
theorem dX6_playerAt_35 : decode cX6_playerAt 35 = .ok (.iload_n 1, 1) := by decide +kernel
theorem dX6_playerAt_36 : decode cX6_playerAt 36 = .ok (.imul, 1) := by decide +kernel
theorem dX6_playerAt_37 : decode cX6_playerAt 37 = .ok (.iload_n 2, 1) := by decide +kernel
theorem dX6_playerAt_38 : decode cX6_playerAt 38 = .ok (.iadd, 1) := by decide +kernel
theorem dX6_playerAt_39 : decode cX6_playerAt 39 = .ok (.iaload, 1) := by decide +kernel
theorem dX6_playerAt_40 : decode cX6_playerAt 40 = .ok (.iadd, 1) := by decide +kernel
theorem dX6_playerAt_41 : decode cX6_playerAt 41 = .ok (.iaload, 1) := by decide +kernel
theorem dX6_playerAt_42 : decode cX6_playerAt 42 = .ok (.ireturn, 1) := by decide +kernel
theorem dX6_canDo_0 : decode cX6_canDo 0 = .ok (.aload_n 0, 1) := by decide +kernel
theorem dX6_canDo_1 : decode cX6_canDo 1 = .ok (.getfield 19, 3) := by decide +kernel
theorem dX6_canDo_4 : decode cX6_canDo 4 = .ok (.iload_n 1, 1) := by decide +kernel
theorem dX6_canDo_5 : decode cX6_canDo 5 = .ok (.iaload, 1) := by decide +kernel
theorem dX6_canDo_6 : decode cX6_canDo 6 = .ok (.istore_n 2, 1) := by decide +kernel
theorem dX6_canDo_7 : decode cX6_canDo 7 = .ok (.iconst 0, 1) := by decide +kernel
theorem dX6_canDo_8 : decode cX6_canDo 8 = .ok (.istore_n 3, 1) := by decide +kernel
theorem dX6_canDo_9 : decode cX6_canDo 9 = .ok (.iconst 0, 1) := by decide +kernel
theorem dX6_canDo_10 : decode cX6_canDo 10 = .ok (.istore 4, 2) := by decide +kernel
theorem dX6_canDo_12 : decode cX6_canDo 12 = .ok (.iload 4, 2) := by decide +kernel
theorem dX6_canDo_14 : decode cX6_canDo 14 = .ok (.sipush 1000, 3) := by decide +kernel
theorem dX6_canDo_17 : decode cX6_canDo 17 = .ok (.if_icmp .ge 166, 3) := by decide +kernel
theorem dX6_canDo_20 : decode cX6_canDo 20 = .ok (.iconst 0, 1) := by decide +kernel
theorem dX6_canDo_21 : decode cX6_canDo 21 = .ok (.istore 5, 2) := by decide +kernel
theorem dX6_canDo_23 : decode cX6_canDo 23 = .ok (.iconst 0, 1) := by decide +kernel
theorem dX6_canDo_24 : decode cX6_canDo 24 = .ok (.istore 6, 2) := by decide +kernel
theorem dX6_canDo_26 : decode cX6_canDo 26 = .ok (.iconst (-1), 1) := by decide +kernel
theorem dX6_canDo_27 : decode cX6_canDo 27 = .ok (.istore 7, 2) := by decide +kernel
theorem dX6_canDo_29 : decode cX6_canDo 29 = .ok (.iconst 0, 1) := by decide +kernel
theorem dX6_canDo_30 : decode cX6_canDo 30 = .ok (.istore 8, 2) := by decide +kernel
theorem dX6_canDo_32 : decode cX6_canDo 32 = .ok (.iload 8, 2) := by decide +kernel
theorem dX6_canDo_34 : decode cX6_canDo 34 = .ok (.aload_n 0, 1) := by decide +kernel
theorem dX6_canDo_35 : decode cX6_canDo 35 = .ok (.getfield 63, 3) := by decide +kernel
theorem dX6_canDo_38 : decode cX6_canDo 38 = .ok (.if_icmp .ge 91, 3) := by decide +kernel
theorem dX6_canDo_41 : decode cX6_canDo 41 = .ok (.aload_n 0, 1) := by decide +kernel
theorem dX6_canDo_42 : decode cX6_canDo 42 = .ok (.iload 8, 2) := by decide +kernel
theorem dX6_canDo_44 : decode cX6_canDo 44 = .ok (.iload 4, 2) := by decide +kernel
theorem dX6_canDo_46 : decode cX6_canDo 46 = .ok (.invokevirtual 138, 3) := by decide +kernel
theorem dX6_canDo_49 : decode cX6_canDo 49 = .ok (.iload_n 1, 1) := by decide +kernel
theorem dX6_canDo_50 : decode cX6_canDo 50 = .ok (.if_icmp .eq 6, 3) := by decide +kernel
theorem dX6_canDo_53 : decode cX6_canDo 53 = .ok (.goto 70, 3) := by decide +kernel
theorem dX6_canDo_56 : decode cX6_canDo 56 = .ok (.iload 5, 2) := by decide +kernel
theorem dX6_canDo_58 : decode cX6_canDo 58 = .ok (.aload_n 0, 1) := by decide +kernel
theorem dX6_canDo_59 : decode cX6_canDo 59 = .ok (.getfield 13, 3) := by decide +kernel
theorem dX6_canDo_62 : decode cX6_canDo 62 = .ok (.iload 8, 2) := by decide +kernel
theorem dX6_canDo_64 : decode cX6_canDo 64 = .ok (.iaload, 1) := by decide +kernel
theorem dX6_canDo_65 : decode cX6_canDo 65 = .ok (.iadd, 1) := by decide +kernel
theorem dX6_canDo_66 : decode cX6_canDo 66 = .ok (.istore 5, 2) := by decide +kernel
theorem dX6_canDo_68 : decode cX6_canDo 68 = .ok (.iload 6, 2) := by decide +kernel
theorem dX6_canDo_70 : decode cX6_canDo 70 = .ok (.aload_n 0, 1) := by decide +kernel
theorem dX6_canDo_71 : decode cX6_canDo 71 = .ok (.getfield 9, 3) := by decide +kernel
theorem dX6_canDo_74 : decode cX6_canDo 74 = .ok (.iload 8, 2) := by decide +kernel
theorem dX6_canDo_76 : decode cX6_canDo 76 = .ok (.iaload, 1) := by decide +kernel
theorem dX6_canDo_77 : decode cX6_canDo 77 = .ok (.iadd, 1) := by decide +kernel
theorem dX6_canDo_78 : decode cX6_canDo 78 = .ok (.istore 6, 2) := by decide +kernel
theorem dX6_canDo_80 : decode cX6_canDo 80 = .ok (.iload 7, 2) := by decide +kernel
theorem dX6_canDo_82 : decode cX6_canDo 82 = .ok (.iconst (-1), 1) := by decide +kernel
theorem dX6_canDo_83 : decode cX6_canDo 83 = .ok (.if_icmp .eq 24, 3) := by decide +kernel
theorem dX6_canDo_86 : decode cX6_canDo 86 = .ok (.aload_n 0, 1) := by decide +kernel
theorem dX6_canDo_87 : decode cX6_canDo 87 = .ok (.getfield 38, 3) := by decide +kernel
theorem dX6_canDo_90 : decode cX6_canDo 90 = .ok (.sipush 1000, 3) := by decide +kernel
theorem dX6_canDo_93 : decode cX6_canDo 93 = .ok (.iload 8, 2) := by decide +kernel
theorem dX6_canDo_95 : decode cX6_canDo 95 = .ok (.imul, 1) := by decide +kernel
theorem dX6_canDo_96 : decode cX6_canDo 96 = .ok (.iload 4, 2) := by decide +kernel
theorem dX6_canDo_98 : decode cX6_canDo 98 = .ok (.iadd, 1) := by decide +kernel
theorem dX6_canDo_99 : decode cX6_canDo 99 = .ok (.iaload, 1) := by decide +kernel
theorem dX6_canDo_100 : decode cX6_canDo 100 = .ok (.iload 7, 2) := by decide +kernel
theorem dX6_canDo_102 : decode cX6_canDo 102 = .ok (.if_icmp .eq 5, 3) := by decide +kernel
theorem dX6_canDo_105 : decode cX6_canDo 105 = .ok (.iconst 0, 1) := by decide +kernel
theorem dX6_canDo_106 : decode cX6_canDo 106 = .ok (.ireturn, 1) := by decide +kernel
theorem dX6_canDo_107 : decode cX6_canDo 107 = .ok (.aload_n 0, 1) := by decide +kernel
theorem dX6_canDo_108 : decode cX6_canDo 108 = .ok (.getfield 38, 3) := by decide +kernel
theorem dX6_canDo_111 : decode cX6_canDo 111 = .ok (.sipush 1000, 3) := by decide +kernel
theorem dX6_canDo_114 : decode cX6_canDo 114 = .ok (.iload 8, 2) := by decide +kernel
theorem dX6_canDo_116 : decode cX6_canDo 116 = .ok (.imul, 1) := by decide +kernel
theorem dX6_canDo_117 : decode cX6_canDo 117 = .ok (.iload 4, 2) := by decide +kernel
theorem dX6_canDo_119 : decode cX6_canDo 119 = .ok (.iadd, 1) := by decide +kernel
theorem dX6_canDo_120 : decode cX6_canDo 120 = .ok (.iaload, 1) := by decide +kernel
theorem dX6_canDo_121 : decode cX6_canDo 121 = .ok (.istore 7, 2) := by decide +kernel
theorem dX6_canDo_123 : decode cX6_canDo 123 = .ok (.iinc 8 1, 3) := by decide +kernel
theorem dX6_canDo_126 : decode cX6_canDo 126 = .ok (.goto (-94), 3) := by decide +kernel
theorem dX6_canDo_129 : decode cX6_canDo 129 = .ok (.iload 7, 2) := by decide +kernel
theorem dX6_canDo_131 : decode cX6_canDo 131 = .ok (.iconst (-1), 1) := by decide +kernel
theorem dX6_canDo_132 : decode cX6_canDo 132 = .ok (.if_icmp .ne 6, 3) := by decide +kernel
theorem dX6_canDo_135 : decode cX6_canDo 135 = .ok (.goto 42, 3) := by decide +kernel
theorem dX6_canDo_138 : decode cX6_canDo 138 = .ok (.iload 5, 2) := by decide +kernel
theorem dX6_canDo_140 : decode cX6_canDo 140 = .ok (.iconst 2, 1) := by decide +kernel
theorem dX6_canDo_141 : decode cX6_canDo 141 = .ok (.if_icmp .gt 28, 3) := by decide +kernel
theorem dX6_canDo_144 : decode cX6_canDo 144 = .ok (.iload 6, 2) := by decide +kernel
theorem dX6_canDo_146 : decode cX6_canDo 146 = .ok (.aload_n 0, 1) := by decide +kernel
theorem dX6_canDo_147 : decode cX6_canDo 147 = .ok (.getfield 16, 3) := by decide +kernel
theorem dX6_canDo_150 : decode cX6_canDo 150 = .ok (.iload_n 1, 1) := by decide +kernel
theorem dX6_canDo_151 : decode cX6_canDo 151 = .ok (.iaload, 1) := by decide +kernel
theorem dX6_canDo_152 : decode cX6_canDo 152 = .ok (.if_icmp .gt 17, 3) := by decide +kernel
theorem dX6_canDo_155 : decode cX6_canDo 155 = .ok (.iload 7, 2) := by decide +kernel
theorem dX6_canDo_157 : decode cX6_canDo 157 = .ok (.iload_n 2, 1) := by decide +kernel
theorem dX6_canDo_158 : decode cX6_canDo 158 = .ok (.isub, 1) := by decide +kernel
theorem dX6_canDo_159 : decode cX6_canDo 159 = .ok (.invokestatic 98, 3) := by decide +kernel
theorem dX6_canDo_162 : decode cX6_canDo 162 = .ok (.iload 4, 2) := by decide +kernel
theorem dX6_canDo_164 : decode cX6_canDo 164 = .ok (.iload_n 3, 1) := by decide +kernel
theorem dX6_canDo_165 : decode cX6_canDo 165 = .ok (.isub, 1) := by decide +kernel
theorem dX6_canDo_166 : decode cX6_canDo 166 = .ok (.if_icmp .le 5, 3) := by decide +kernel
theorem dX6_canDo_169 : decode cX6_canDo 169 = .ok (.iconst 0, 1) := by decide +kernel
theorem dX6_canDo_170 : decode cX6_canDo 170 = .ok (.ireturn, 1) := by decide +kernel
theorem dX6_canDo_171 : decode cX6_canDo 171 = .ok (.iload 7, 2) := by decide +kernel
theorem dX6_canDo_173 : decode cX6_canDo 173 = .ok (.istore_n 2, 1) := by decide +kernel
theorem dX6_canDo_174 : decode cX6_canDo 174 = .ok (.iload 4, 2) := by decide +kernel
theorem dX6_canDo_176 : decode cX6_canDo 176 = .ok (.istore_n 3, 1) := by decide +kernel
theorem dX6_canDo_177 : decode cX6_canDo 177 = .ok (.iinc 4 1, 3) := by decide +kernel
theorem dX6_canDo_180 : decode cX6_canDo 180 = .ok (.goto (-168), 3) := by decide +kernel
theorem dX6_canDo_183 : decode cX6_canDo 183 = .ok (.iconst 1, 1) := by decide +kernel
theorem dX6_canDo_184 : decode cX6_canDo 184 = .ok (.ireturn, 1) := by decide +kernel
theorem dX6_castAll_0 : decode cX6_castAll 0 = .ok (.iconst 0, 1) := by decide +kernel
theorem dX6_castAll_1 : decode cX6_castAll 1 = .ok (.istore_n 1, 1) := by decide +kernel
theorem dX6_castAll_2 : decode cX6_castAll 2 = .ok (.iconst 0, 1) := by decide +kernel
theorem dX6_castAll_3 : decode cX6_castAll 3 = .ok (.istore_n 2, 1) := by decide +kernel
theorem dX6_castAll_4 : decode cX6_castAll 4 = .ok (.iload_n 2, 1) := by decide +kernel
theorem dX6_castAll_5 : decode cX6_castAll 5 = .ok (.aload_n 0, 1) := by decide +kernel
theorem dX6_castAll_6 : decode cX6_castAll 6 = .ok (.getfield 63, 3) := by decide +kernel
theorem dX6_castAll_9 : decode cX6_castAll 9 = .ok (.if_icmp .ge 48, 3) := by decide +kernel
theorem dX6_castAll_12 : decode cX6_castAll 12 = .ok (.iload_n 1, 1) := by decide +kernel
theorem dX6_castAll_13 : decode cX6_castAll 13 = .ok (.aload_n 0, 1) := by decide +kernel
theorem dX6_castAll_14 : decode cX6_castAll 14 = .ok (.getfield 47, 3) := by decide +kernel
theorem dX6_castAll_17 : decode cX6_castAll 17 = .ok (.iload_n 2, 1) := by decide +kernel
theorem dX6_castAll_18 : decode cX6_castAll 18 = .ok (.iaload, 1) := by decide +kernel
theorem dX6_castAll_19 : decode cX6_castAll 19 = .ok (.iadd, 1) := by decide +kernel
theorem dX6_castAll_20 : decode cX6_castAll 20 = .ok (.istore_n 1, 1) := by decide +kernel
theorem dX6_castAll_21 : decode cX6_castAll 21 = .ok (.iconst 0, 1) := by decide +kernel
theorem dX6_castAll_22 : decode cX6_castAll 22 = .ok (.istore_n 3, 1) := by decide +kernel
theorem dX6_castAll_23 : decode cX6_castAll 23 = .ok (.iload_n 3, 1) := by decide +kernel
theorem dX6_castAll_24 : decode cX6_castAll 24 = .ok (.aload_n 0, 1) := by decide +kernel
theorem dX6_castAll_25 : decode cX6_castAll 25 = .ok (.getfield 47, 3) := by decide +kernel
theorem dX6_castAll_28 : decode cX6_castAll 28 = .ok (.iload_n 2, 1) := by decide +kernel
theorem dX6_castAll_29 : decode cX6_castAll 29 = .ok (.iaload, 1) := by decide +kernel
theorem dX6_castAll_30 : decode cX6_castAll 30 = .ok (.if_icmp .ge 21, 3) := by decide +kernel
theorem dX6_castAll_33 : decode cX6_castAll 33 = .ok (.aload_n 0, 1) := by decide +kernel
theorem dX6_castAll_34 : decode cX6_castAll 34 = .ok (.getfield 56, 3) := by decide +kernel
theorem dX6_castAll_37 : decode cX6_castAll 37 = .ok (.bipush 40, 2) := by decide +kernel
theorem dX6_castAll_39 : decode cX6_castAll 39 = .ok (.iload_n 2, 1) := by decide +kernel
theorem dX6_castAll_40 : decode cX6_castAll 40 = .ok (.imul, 1) := by decide +kernel
theorem dX6_castAll_41 : decode cX6_castAll 41 = .ok (.iload_n 3, 1) := by decide +kernel
theorem dX6_castAll_42 : decode cX6_castAll 42 = .ok (.iadd, 1) := by decide +kernel
theorem dX6_castAll_43 : decode cX6_castAll 43 = .ok (.iconst (-1), 1) := by decide +kernel
theorem dX6_castAll_44 : decode cX6_castAll 44 = .ok (.iastore, 1) := by decide +kernel
theorem dX6_castAll_45 : decode cX6_castAll 45 = .ok (.iinc 3 1, 3) := by decide +kernel
theorem dX6_castAll_48 : decode cX6_castAll 48 = .ok (.goto (-25), 3) := by decide +kernel
theorem dX6_castAll_51 : decode cX6_castAll 51 = .ok (.iinc 2 1, 3) := by decide +kernel
theorem dX6_castAll_54 : decode cX6_castAll 54 = .ok (.goto (-50), 3) := by decide +kernel
theorem dX6_castAll_57 : decode cX6_castAll 57 = .ok (.bipush 8, 2) := by decide +kernel
theorem dX6_castAll_59 : decode cX6_castAll 59 = .ok (.newarray .int, 2) := by decide +kernel
theorem dX6_castAll_61 : decode cX6_castAll 61 = .ok (.astore_n 2, 1) := by decide +kernel
theorem dX6_castAll_62 : decode cX6_castAll 62 = .ok (.iload_n 1, 1) := by decide +kernel
theorem dX6_castAll_63 : decode cX6_castAll 63 = .ok (.ifCond .le 160, 3) := by decide +kernel
theorem dX6_castAll_66 : decode cX6_castAll 66 = .ok (.iconst (-1), 1) := by decide +kernel
theorem dX6_castAll_67 : decode cX6_castAll 67 = .ok (.istore_n 3, 1) := by decide +kernel
theorem dX6_castAll_68 : decode cX6_castAll 68 = .ok (.iconst 0, 1) := by decide +kernel
theorem dX6_castAll_69 : decode cX6_castAll 69 = .ok (.istore 4, 2) := by decide +kernel
theorem dX6_castAll_71 : decode cX6_castAll 71 = .ok (.iload 4, 2) := by decide +kernel
theorem dX6_castAll_73 : decode cX6_castAll 73 = .ok (.aload_n 0, 1) := by decide +kernel
theorem dX6_castAll_74 : decode cX6_castAll 74 = .ok (.getfield 63, 3) := by decide +kernel
theorem dX6_castAll_77 : decode cX6_castAll 77 = .ok (.if_icmp .ge 62, 3) := by decide +kernel
theorem dX6_castAll_80 : decode cX6_castAll 80 = .ok (.aload_n 2, 1) := by decide +kernel
theorem dX6_castAll_81 : decode cX6_castAll 81 = .ok (.iload 4, 2) := by decide +kernel
theorem dX6_castAll_83 : decode cX6_castAll 83 = .ok (.iaload, 1) := by decide +kernel
theorem dX6_castAll_84 : decode cX6_castAll 84 = .ok (.aload_n 0, 1) := by decide +kernel
theorem dX6_castAll_85 : decode cX6_castAll 85 = .ok (.getfield 47, 3) := by decide +kernel
theorem dX6_castAll_88 : decode cX6_castAll 88 = .ok (.iload 4, 2) := by decide +kernel
theorem dX6_castAll_90 : decode cX6_castAll 90 = .ok (.iaload, 1) := by decide +kernel
theorem dX6_castAll_91 : decode cX6_castAll 91 = .ok (.if_icmp .ge 42, 3) := by decide +kernel
theorem dX6_castAll_94 : decode cX6_castAll 94 = .ok (.iload_n 3, 1) := by decide +kernel
theorem dX6_castAll_95 : decode cX6_castAll 95 = .ok (.iconst (-1), 1) := by decide +kernel
theorem dX6_castAll_96 : decode cX6_castAll 96 = .ok (.if_icmp .eq 34, 3) := by decide +kernel
theorem dX6_castAll_99 : decode cX6_castAll 99 = .ok (.aload_n 0, 1) := by decide +kernel
theorem dX6_castAll_100 : decode cX6_castAll 100 = .ok (.getfield 50, 3) := by decide +kernel
theorem dX6_castAll_103 : decode cX6_castAll 103 = .ok (.bipush 40, 2) := by decide +kernel
theorem dX6_castAll_105 : decode cX6_castAll 105 = .ok (.iload 4, 2) := by decide +kernel
theorem dX6_castAll_107 : decode cX6_castAll 107 = .ok (.imul, 1) := by decide +kernel
theorem dX6_castAll_108 : decode cX6_castAll 108 = .ok (.aload_n 2, 1) := by decide +kernel
theorem dX6_castAll_109 : decode cX6_castAll 109 = .ok (.iload 4, 2) := by decide +kernel
theorem dX6_castAll_111 : decode cX6_castAll 111 = .ok (.iaload, 1) := by decide +kernel
theorem dX6_castAll_112 : decode cX6_castAll 112 = .ok (.iadd, 1) := by decide +kernel
theorem dX6_castAll_113 : decode cX6_castAll 113 = .ok (.iaload, 1) := by decide +kernel
theorem dX6_castAll_114 : decode cX6_castAll 114 = .ok (.aload_n 0, 1) := by decide +kernel
theorem dX6_castAll_115 : decode cX6_castAll 115 = .ok (.getfield 50, 3) := by decide +kernel
theorem dX6_castAll_118 : decode cX6_castAll 118 = .ok (.bipush 40, 2) := by decide +kernel
theorem dX6_castAll_120 : decode cX6_castAll 120 = .ok (.iload_n 3, 1) := by decide +kernel
theorem dX6_castAll_121 : decode cX6_castAll 121 = .ok (.imul, 1) := by decide +kernel
theorem dX6_castAll_122 : decode cX6_castAll 122 = .ok (.aload_n 2, 1) := by decide +kernel
theorem dX6_castAll_123 : decode cX6_castAll 123 = .ok (.iload_n 3, 1) := by decide +kernel
theorem dX6_castAll_124 : decode cX6_castAll 124 = .ok (.iaload, 1) := by decide +kernel
theorem dX6_castAll_125 : decode cX6_castAll 125 = .ok (.iadd, 1) := by decide +kernel
theorem dX6_castAll_126 : decode cX6_castAll 126 = .ok (.iaload, 1) := by decide +kernel
theorem dX6_castAll_127 : decode cX6_castAll 127 = .ok (.if_icmp .ge 6, 3) := by decide +kernel
theorem dX6_castAll_130 : decode cX6_castAll 130 = .ok (.iload 4, 2) := by decide +kernel
theorem dX6_castAll_132 : decode cX6_castAll 132 = .ok (.istore_n 3, 1) := by decide +kernel
theorem dX6_castAll_133 : decode cX6_castAll 133 = .ok (.iinc 4 1, 3) := by decide +kernel
theorem dX6_castAll_136 : decode cX6_castAll 136 = .ok (.goto (-65), 3) := by decide +kernel
theorem dX6_castAll_139 : decode cX6_castAll 139 = .ok (.bipush 40, 2) := by decide +kernel
theorem dX6_castAll_141 : decode cX6_castAll 141 = .ok (.iload_n 3, 1) := by decide +kernel
theorem dX6_castAll_142 : decode cX6_castAll 142 = .ok (.imul, 1) := by decide +kernel
theorem dX6_castAll_143 : decode cX6_castAll 143 = .ok (.aload_n 2, 1) := by decide +kernel
theorem dX6_castAll_144 : decode cX6_castAll 144 = .ok (.iload_n 3, 1) := by decide +kernel
theorem dX6_castAll_145 : decode cX6_castAll 145 = .ok (.iaload, 1) := by decide +kernel
theorem dX6_castAll_146 : decode cX6_castAll 146 = .ok (.iadd, 1) := by decide +kernel
theorem dX6_castAll_147 : decode cX6_castAll 147 = .ok (.istore 4, 2) := by decide +kernel
theorem dX6_castAll_149 : decode cX6_castAll 149 = .ok (.iconst 0, 1) := by decide +kernel
theorem dX6_castAll_150 : decode cX6_castAll 150 = .ok (.istore 5, 2) := by decide +kernel
theorem dX6_castAll_152 : decode cX6_castAll 152 = .ok (.aload_n 0, 1) := by decide +kernel
theorem dX6_castAll_153 : decode cX6_castAll 153 = .ok (.getfield 56, 3) := by decide +kernel
theorem dX6_castAll_156 : decode cX6_castAll 156 = .ok (.iload 4, 2) := by decide +kernel
theorem dX6_castAll_158 : decode cX6_castAll 158 = .ok (.iconst 0, 1) := by decide +kernel
theorem dX6_castAll_159 : decode cX6_castAll 159 = .ok (.iastore, 1) := by decide +kernel
theorem dX6_castAll_160 : decode cX6_castAll 160 = .ok (.iload 5, 2) := by decide +kernel
theorem dX6_castAll_162 : decode cX6_castAll 162 = .ok (.aload_n 0, 1) := by decide +kernel
theorem dX6_castAll_163 : decode cX6_castAll 163 = .ok (.getfield 70, 3) := by decide +kernel
theorem dX6_castAll_166 : decode cX6_castAll 166 = .ok (.if_icmp .ge 27, 3) := by decide +kernel
theorem dX6_castAll_169 : decode cX6_castAll 169 = .ok (.aload_n 0, 1) := by decide +kernel
theorem dX6_castAll_170 : decode cX6_castAll 170 = .ok (.iload 5, 2) := by decide +kernel
theorem dX6_castAll_172 : decode cX6_castAll 172 = .ok (.invokevirtual 141, 3) := by decide +kernel
theorem dX6_castAll_175 : decode cX6_castAll 175 = .ok (.ifCond .ne 18, 3) := by decide +kernel
theorem dX6_castAll_178 : decode cX6_castAll 178 = .ok (.iinc 5 1, 3) := by decide +kernel
theorem dX6_castAll_181 : decode cX6_castAll 181 = .ok (.aload_n 0, 1) := by decide +kernel
theorem dX6_castAll_182 : decode cX6_castAll 182 = .ok (.getfield 56, 3) := by decide +kernel
theorem dX6_castAll_185 : decode cX6_castAll 185 = .ok (.iload 4, 2) := by decide +kernel
theorem dX6_castAll_187 : decode cX6_castAll 187 = .ok (.iload 5, 2) := by decide +kernel
theorem dX6_castAll_189 : decode cX6_castAll 189 = .ok (.iastore, 1) := by decide +kernel
theorem dX6_castAll_190 : decode cX6_castAll 190 = .ok (.goto (-30), 3) := by decide +kernel
theorem dX6_castAll_193 : decode cX6_castAll 193 = .ok (.iload 5, 2) := by decide +kernel
theorem dX6_castAll_195 : decode cX6_castAll 195 = .ok (.aload_n 0, 1) := by decide +kernel
theorem dX6_castAll_196 : decode cX6_castAll 196 = .ok (.getfield 70, 3) := by decide +kernel
theorem dX6_castAll_199 : decode cX6_castAll 199 = .ok (.if_icmp .ne 11, 3) := by decide +kernel
theorem dX6_castAll_202 : decode cX6_castAll 202 = .ok (.aload_n 0, 1) := by decide +kernel
theorem dX6_castAll_203 : decode cX6_castAll 203 = .ok (.getfield 56, 3) := by decide +kernel
theorem dX6_castAll_206 : decode cX6_castAll 206 = .ok (.iload 4, 2) := by decide +kernel
theorem dX6_castAll_208 : decode cX6_castAll 208 = .ok (.iconst (-1), 1) := by decide +kernel
theorem dX6_castAll_209 : decode cX6_castAll 209 = .ok (.iastore, 1) := by decide +kernel
theorem dX6_castAll_210 : decode cX6_castAll 210 = .ok (.aload_n 2, 1) := by decide +kernel
theorem dX6_castAll_211 : decode cX6_castAll 211 = .ok (.iload_n 3, 1) := by decide +kernel
theorem dX6_castAll_212 : decode cX6_castAll 212 = .ok (.dup2, 1) := by decide +kernel
theorem dX6_castAll_213 : decode cX6_castAll 213 = .ok (.iaload, 1) := by decide +kernel
theorem dX6_castAll_214 : decode cX6_castAll 214 = .ok (.iconst 1, 1) := by decide +kernel
theorem dX6_castAll_215 : decode cX6_castAll 215 = .ok (.iadd, 1) := by decide +kernel
theorem dX6_castAll_216 : decode cX6_castAll 216 = .ok (.iastore, 1) := by decide +kernel
theorem dX6_castAll_217 : decode cX6_castAll 217 = .ok (.iinc 1 (-1), 3) := by decide +kernel
theorem dX6_castAll_220 : decode cX6_castAll 220 = .ok (.goto (-158), 3) := by decide +kernel
theorem dX6_castAll_223 : decode cX6_castAll 223 = .ok (.return_, 1) := by decide +kernel
theorem dX6_placeAt_0 : decode cX6_placeAt 0 = .ok (.aload_n 0, 1) := by decide +kernel
theorem dX6_placeAt_1 : decode cX6_placeAt 1 = .ok (.getfield 38, 3) := by decide +kernel
theorem dX6_placeAt_4 : decode cX6_placeAt 4 = .ok (.sipush 1000, 3) := by decide +kernel
theorem dX6_placeAt_7 : decode cX6_placeAt 7 = .ok (.iload_n 1, 1) := by decide +kernel
theorem dX6_placeAt_8 : decode cX6_placeAt 8 = .ok (.imul, 1) := by decide +kernel
theorem dX6_placeAt_9 : decode cX6_placeAt 9 = .ok (.iload_n 2, 1) := by decide +kernel
theorem dX6_placeAt_10 : decode cX6_placeAt 10 = .ok (.iadd, 1) := by decide +kernel
theorem dX6_placeAt_11 : decode cX6_placeAt 11 = .ok (.iaload, 1) := by decide +kernel
theorem dX6_placeAt_12 : decode cX6_placeAt 12 = .ok (.ireturn, 1) := by decide +kernel
theorem dX6_trackAt_0 : decode cX6_trackAt 0 = .ok (.aload_n 0, 1) := by decide +kernel
theorem dX6_trackAt_1 : decode cX6_trackAt 1 = .ok (.getfield 41, 3) := by decide +kernel
theorem dX6_trackAt_4 : decode cX6_trackAt 4 = .ok (.sipush 1000, 3) := by decide +kernel
theorem dX6_trackAt_7 : decode cX6_trackAt 7 = .ok (.iload_n 1, 1) := by decide +kernel
theorem dX6_trackAt_8 : decode cX6_trackAt 8 = .ok (.imul, 1) := by decide +kernel
theorem dX6_trackAt_9 : decode cX6_trackAt 9 = .ok (.iload_n 2, 1) := by decide +kernel
theorem dX6_trackAt_10 : decode cX6_trackAt 10 = .ok (.iadd, 1) := by decide +kernel
theorem dX6_trackAt_11 : decode cX6_trackAt 11 = .ok (.iaload, 1) := by decide +kernel
theorem dX6_trackAt_12 : decode cX6_trackAt 12 = .ok (.ireturn, 1) := by decide +kernel
theorem dX6_whyBeat_0 : decode cX6_whyBeat 0 = .ok (.iload_n 1, 1) := by decide +kernel
theorem dX6_whyBeat_1 : decode cX6_whyBeat 1 = .ok (.invokestatic 110, 3) := by decide +kernel
theorem dX6_whyBeat_4 : decode cX6_whyBeat 4 = .ok (.ifCond .eq 7, 3) := by decide +kernel
theorem dX6_whyBeat_7 : decode cX6_whyBeat 7 = .ok (.iconst 0, 1) := by decide +kernel
theorem dX6_whyBeat_8 : decode cX6_whyBeat 8 = .ok (.goto 4, 3) := by decide +kernel
theorem dX6_whyBeat_11 : decode cX6_whyBeat 11 = .ok (.iconst 2, 1) := by decide +kernel
theorem dX6_whyBeat_12 : decode cX6_whyBeat 12 = .ok (.ireturn, 1) := by decide +kernel
theorem dX6_place_0 : decode cX6_place 0 = .ok (.aload_n 0, 1) := by decide +kernel
theorem dX6_place_1 : decode cX6_place 1 = .ok (.aload_n 0, 1) := by decide +kernel
theorem dX6_place_2 : decode cX6_place 2 = .ok (.iload_n 1, 1) := by decide +kernel
theorem dX6_place_3 : decode cX6_place 3 = .ok (.invokevirtual 107, 3) := by decide +kernel
theorem dX6_place_6 : decode cX6_place 6 = .ok (.ifCond .eq 11, 3) := by decide +kernel
theorem dX6_place_9 : decode cX6_place 9 = .ok (.aload_n 0, 1) := by decide +kernel
theorem dX6_place_10 : decode cX6_place 10 = .ok (.iload_n 2, 1) := by decide +kernel
theorem dX6_place_11 : decode cX6_place 11 = .ok (.invokevirtual 144, 3) := by decide +kernel
theorem dX6_place_14 : decode cX6_place 14 = .ok (.goto 4, 3) := by decide +kernel
theorem dX6_place_17 : decode cX6_place 17 = .ok (.iconst 1, 1) := by decide +kernel
theorem dX6_place_18 : decode cX6_place 18 = .ok (.putfield 59, 3) := by decide +kernel
theorem dX6_place_21 : decode cX6_place 21 = .ok (.aload_n 0, 1) := by decide +kernel
theorem dX6_place_22 : decode cX6_place 22 = .ok (.getfield 59, 3) := by decide +kernel
theorem dX6_place_25 : decode cX6_place 25 = .ok (.ifCond .eq 5, 3) := by decide +kernel
theorem dX6_place_28 : decode cX6_place 28 = .ok (.iconst 0, 1) := by decide +kernel
theorem dX6_place_29 : decode cX6_place 29 = .ok (.ireturn, 1) := by decide +kernel
theorem dX6_place_30 : decode cX6_place 30 = .ok (.aload_n 0, 1) := by decide +kernel
theorem dX6_place_31 : decode cX6_place 31 = .ok (.invokevirtual 147, 3) := by decide +kernel
theorem dX6_place_34 : decode cX6_place 34 = .ok (.aload_n 0, 1) := by decide +kernel
theorem dX6_place_35 : decode cX6_place 35 = .ok (.iload_n 1, 1) := by decide +kernel
theorem dX6_place_36 : decode cX6_place 36 = .ok (.iload_n 2, 1) := by decide +kernel
theorem dX6_place_37 : decode cX6_place 37 = .ok (.invokevirtual 149, 3) := by decide +kernel
theorem dX6_place_40 : decode cX6_place 40 = .ok (.ireturn, 1) := by decide +kernel
theorem dX6_track_0 : decode cX6_track 0 = .ok (.aload_n 0, 1) := by decide +kernel
theorem dX6_track_1 : decode cX6_track 1 = .ok (.aload_n 0, 1) := by decide +kernel
theorem dX6_track_2 : decode cX6_track 2 = .ok (.iload_n 1, 1) := by decide +kernel
theorem dX6_track_3 : decode cX6_track 3 = .ok (.invokevirtual 107, 3) := by decide +kernel
theorem dX6_track_6 : decode cX6_track 6 = .ok (.ifCond .eq 11, 3) := by decide +kernel
theorem dX6_track_9 : decode cX6_track 9 = .ok (.aload_n 0, 1) := by decide +kernel
theorem dX6_track_10 : decode cX6_track 10 = .ok (.iload_n 2, 1) := by decide +kernel
theorem dX6_track_11 : decode cX6_track 11 = .ok (.invokevirtual 144, 3) := by decide +kernel
theorem dX6_track_14 : decode cX6_track 14 = .ok (.goto 4, 3) := by decide +kernel
theorem dX6_track_17 : decode cX6_track 17 = .ok (.iconst 1, 1) := by decide +kernel
theorem dX6_track_18 : decode cX6_track 18 = .ok (.putfield 59, 3) := by decide +kernel
theorem dX6_track_21 : decode cX6_track 21 = .ok (.aload_n 0, 1) := by decide +kernel
theorem dX6_track_22 : decode cX6_track 22 = .ok (.getfield 59, 3) := by decide +kernel
theorem dX6_track_25 : decode cX6_track 25 = .ok (.ifCond .eq 5, 3) := by decide +kernel
theorem dX6_track_28 : decode cX6_track 28 = .ok (.iconst 0, 1) := by decide +kernel
theorem dX6_track_29 : decode cX6_track 29 = .ok (.ireturn, 1) := by decide +kernel
theorem dX6_track_30 : decode cX6_track 30 = .ok (.aload_n 0, 1) := by decide +kernel
theorem dX6_track_31 : decode cX6_track 31 = .ok (.invokevirtual 147, 3) := by decide +kernel
theorem dX6_track_34 : decode cX6_track 34 = .ok (.aload_n 0, 1) := by decide +kernel
theorem dX6_track_35 : decode cX6_track 35 = .ok (.iload_n 1, 1) := by decide +kernel
theorem dX6_track_36 : decode cX6_track 36 = .ok (.iload_n 2, 1) := by decide +kernel
theorem dX6_track_37 : decode cX6_track 37 = .ok (.invokevirtual 152, 3) := by decide +kernel
theorem dX6_track_40 : decode cX6_track 40 = .ok (.ireturn, 1) := by decide +kernel
theorem dX6_onStage_0 : decode cX6_onStage 0 = .ok (.aload_n 0, 1) := by decide +kernel
theorem dX6_onStage_1 : decode cX6_onStage 1 = .ok (.iconst 0, 1) := by decide +kernel
theorem dX6_onStage_2 : decode cX6_onStage 2 = .ok (.putfield 59, 3) := by decide +kernel
theorem dX6_onStage_5 : decode cX6_onStage 5 = .ok (.iload_n 1, 1) := by decide +kernel
theorem dX6_onStage_6 : decode cX6_onStage 6 = .ok (.invokestatic 110, 3) := by decide +kernel
theorem dX6_onStage_9 : decode cX6_onStage 9 = .ok (.ifCond .ne 9, 3) := by decide +kernel
theorem dX6_onStage_12 : decode cX6_onStage 12 = .ok (.aload_n 0, 1) := by decide +kernel
theorem dX6_onStage_13 : decode cX6_onStage 13 = .ok (.iconst 1, 1) := by decide +kernel
theorem dX6_onStage_14 : decode cX6_onStage 14 = .ok (.invokevirtual 73, 3) := by decide +kernel
theorem dX6_onStage_17 : decode cX6_onStage 17 = .ok (.ireturn, 1) := by decide +kernel
theorem dX6_onStage_18 : decode cX6_onStage 18 = .ok (.aload_n 0, 1) := by decide +kernel
theorem dX6_onStage_19 : decode cX6_onStage 19 = .ok (.invokevirtual 147, 3) := by decide +kernel
theorem dX6_onStage_22 : decode cX6_onStage 22 = .ok (.iconst 0, 1) := by decide +kernel
theorem dX6_onStage_23 : decode cX6_onStage 23 = .ok (.istore_n 2, 1) := by decide +kernel
theorem dX6_onStage_24 : decode cX6_onStage 24 = .ok (.iconst 0, 1) := by decide +kernel
theorem dX6_onStage_25 : decode cX6_onStage 25 = .ok (.istore_n 3, 1) := by decide +kernel
theorem dX6_onStage_26 : decode cX6_onStage 26 = .ok (.iload_n 3, 1) := by decide +kernel
theorem dX6_onStage_27 : decode cX6_onStage 27 = .ok (.aload_n 0, 1) := by decide +kernel
theorem dX6_onStage_28 : decode cX6_onStage 28 = .ok (.getfield 63, 3) := by decide +kernel
theorem dX6_onStage_31 : decode cX6_onStage 31 = .ok (.if_icmp .ge 25, 3) := by decide +kernel
theorem dX6_onStage_34 : decode cX6_onStage 34 = .ok (.aload_n 0, 1) := by decide +kernel
theorem dX6_onStage_35 : decode cX6_onStage 35 = .ok (.iload_n 3, 1) := by decide +kernel
theorem dX6_onStage_36 : decode cX6_onStage 36 = .ok (.iload_n 1, 1) := by decide +kernel
theorem dX6_onStage_37 : decode cX6_onStage 37 = .ok (.invokevirtual 149, 3) := by decide +kernel
theorem dX6_onStage_40 : decode cX6_onStage 40 = .ok (.iconst (-1), 1) := by decide +kernel
theorem dX6_onStage_41 : decode cX6_onStage 41 = .ok (.if_icmp .eq 9, 3) := by decide +kernel
theorem dX6_onStage_44 : decode cX6_onStage 44 = .ok (.iload_n 2, 1) := by decide +kernel
theorem dX6_onStage_45 : decode cX6_onStage 45 = .ok (.iconst 1, 1) := by decide +kernel
theorem dX6_onStage_46 : decode cX6_onStage 46 = .ok (.iload_n 3, 1) := by decide +kernel
theorem dX6_onStage_47 : decode cX6_onStage 47 = .ok (.ishl, 1) := by decide +kernel
theorem dX6_onStage_48 : decode cX6_onStage 48 = .ok (.ior, 1) := by decide +kernel
theorem dX6_onStage_49 : decode cX6_onStage 49 = .ok (.istore_n 2, 1) := by decide +kernel
theorem dX6_onStage_50 : decode cX6_onStage 50 = .ok (.iinc 3 1, 3) := by decide +kernel
theorem dX6_onStage_53 : decode cX6_onStage 53 = .ok (.goto (-27), 3) := by decide +kernel
theorem dX6_onStage_56 : decode cX6_onStage 56 = .ok (.iload_n 2, 1) := by decide +kernel
theorem dX6_onStage_57 : decode cX6_onStage 57 = .ok (.ireturn, 1) := by decide +kernel
theorem dX6_areOnOneTrack_0 : decode cX6_areOnOneTrack 0 = .ok (.aload_n 0, 1) := by decide +kernel
theorem dX6_areOnOneTrack_1 : decode cX6_areOnOneTrack 1 = .ok (.iload_n 1, 1) := by decide +kernel
theorem dX6_areOnOneTrack_2 : decode cX6_areOnOneTrack 2 = .ok (.iload_n 3, 1) := by decide +kernel
theorem dX6_areOnOneTrack_3 : decode cX6_areOnOneTrack 3 = .ok (.invokevirtual 149, 3) := by decide +kernel
theorem dX6_areOnOneTrack_6 : decode cX6_areOnOneTrack 6 = .ok (.iconst (-1), 1) := by decide +kernel
theorem dX6_areOnOneTrack_7 : decode cX6_areOnOneTrack 7 = .ok (.if_icmp .eq 32, 3) := by decide +kernel
theorem dX6_areOnOneTrack_10 : decode cX6_areOnOneTrack 10 = .ok (.aload_n 0, 1) := by decide +kernel
theorem dX6_areOnOneTrack_11 : decode cX6_areOnOneTrack 11 = .ok (.iload_n 2, 1) := by decide +kernel
theorem dX6_areOnOneTrack_12 : decode cX6_areOnOneTrack 12 = .ok (.iload_n 3, 1) := by decide +kernel
theorem dX6_areOnOneTrack_13 : decode cX6_areOnOneTrack 13 = .ok (.invokevirtual 149, 3) := by decide +kernel
theorem dX6_areOnOneTrack_16 : decode cX6_areOnOneTrack 16 = .ok (.iconst (-1), 1) := by decide +kernel
theorem dX6_areOnOneTrack_17 : decode cX6_areOnOneTrack 17 = .ok (.if_icmp .eq 22, 3) := by decide +kernel
theorem dX6_areOnOneTrack_20 : decode cX6_areOnOneTrack 20 = .ok (.aload_n 0, 1) := by decide +kernel
theorem dX6_areOnOneTrack_21 : decode cX6_areOnOneTrack 21 = .ok (.iload_n 1, 1) := by decide +kernel
theorem dX6_areOnOneTrack_22 : decode cX6_areOnOneTrack 22 = .ok (.iload_n 3, 1) := by decide +kernel
theorem dX6_areOnOneTrack_23 : decode cX6_areOnOneTrack 23 = .ok (.invokevirtual 152, 3) := by decide +kernel
theorem dX6_areOnOneTrack_26 : decode cX6_areOnOneTrack 26 = .ok (.aload_n 0, 1) := by decide +kernel
theorem dX6_areOnOneTrack_27 : decode cX6_areOnOneTrack 27 = .ok (.iload_n 2, 1) := by decide +kernel
theorem dX6_areOnOneTrack_28 : decode cX6_areOnOneTrack 28 = .ok (.iload_n 3, 1) := by decide +kernel
theorem dX6_areOnOneTrack_29 : decode cX6_areOnOneTrack 29 = .ok (.invokevirtual 152, 3) := by decide +kernel
theorem dX6_areOnOneTrack_32 : decode cX6_areOnOneTrack 32 = .ok (.if_icmp .ne 7, 3) := by decide +kernel
theorem dX6_areOnOneTrack_35 : decode cX6_areOnOneTrack 35 = .ok (.iconst 1, 1) := by decide +kernel
theorem dX6_areOnOneTrack_36 : decode cX6_areOnOneTrack 36 = .ok (.goto 4, 3) := by decide +kernel
theorem dX6_areOnOneTrack_39 : decode cX6_areOnOneTrack 39 = .ok (.iconst 0, 1) := by decide +kernel
theorem dX6_areOnOneTrack_40 : decode cX6_areOnOneTrack 40 = .ok (.ireturn, 1) := by decide +kernel
theorem dX6_firstClash_0 : decode cX6_firstClash 0 = .ok (.iconst 0, 1) := by decide +kernel
theorem dX6_firstClash_1 : decode cX6_firstClash 1 = .ok (.istore_n 3, 1) := by decide +kernel
theorem dX6_firstClash_2 : decode cX6_firstClash 2 = .ok (.iload_n 3, 1) := by decide +kernel
theorem dX6_firstClash_3 : decode cX6_firstClash 3 = .ok (.sipush 1000, 3) := by decide +kernel
theorem dX6_firstClash_6 : decode cX6_firstClash 6 = .ok (.if_icmp .ge 96, 3) := by decide +kernel
theorem dX6_firstClash_9 : decode cX6_firstClash 9 = .ok (.aload_n 0, 1) := by decide +kernel
theorem dX6_firstClash_10 : decode cX6_firstClash 10 = .ok (.iload_n 1, 1) := by decide +kernel
theorem dX6_firstClash_11 : decode cX6_firstClash 11 = .ok (.iload_n 2, 1) := by decide +kernel
theorem dX6_firstClash_12 : decode cX6_firstClash 12 = .ok (.iload_n 3, 1) := by decide +kernel
theorem dX6_firstClash_13 : decode cX6_firstClash 13 = .ok (.invokevirtual 155, 3) := by decide +kernel
theorem dX6_firstClash_16 : decode cX6_firstClash 16 = .ok (.ifCond .ne 6, 3) := by decide +kernel
theorem dX6_firstClash_19 : decode cX6_firstClash 19 = .ok (.goto 77, 3) := by decide +kernel
theorem dX6_firstClash_22 : decode cX6_firstClash 22 = .ok (.aload_n 0, 1) := by decide +kernel
theorem dX6_firstClash_23 : decode cX6_firstClash 23 = .ok (.iload_n 1, 1) := by decide +kernel
theorem dX6_firstClash_24 : decode cX6_firstClash 24 = .ok (.iload_n 3, 1) := by decide +kernel
theorem dX6_firstClash_25 : decode cX6_firstClash 25 = .ok (.invokevirtual 149, 3) := by decide +kernel
theorem dX6_firstClash_28 : decode cX6_firstClash 28 = .ok (.aload_n 0, 1) := by decide +kernel
theorem dX6_firstClash_29 : decode cX6_firstClash 29 = .ok (.iload_n 2, 1) := by decide +kernel
theorem dX6_firstClash_30 : decode cX6_firstClash 30 = .ok (.iload_n 3, 1) := by decide +kernel
theorem dX6_firstClash_31 : decode cX6_firstClash 31 = .ok (.invokevirtual 149, 3) := by decide +kernel
theorem dX6_firstClash_34 : decode cX6_firstClash 34 = .ok (.if_icmp .ne 5, 3) := by decide +kernel
theorem dX6_firstClash_37 : decode cX6_firstClash 37 = .ok (.iload_n 3, 1) := by decide +kernel
theorem dX6_firstClash_38 : decode cX6_firstClash 38 = .ok (.ireturn, 1) := by decide +kernel
theorem dX6_firstClash_39 : decode cX6_firstClash 39 = .ok (.iload_n 3, 1) := by decide +kernel
theorem dX6_firstClash_40 : decode cX6_firstClash 40 = .ok (.iconst 1, 1) := by decide +kernel
theorem dX6_firstClash_41 : decode cX6_firstClash 41 = .ok (.iadd, 1) := by decide +kernel
theorem dX6_firstClash_42 : decode cX6_firstClash 42 = .ok (.sipush 1000, 3) := by decide +kernel
theorem dX6_firstClash_45 : decode cX6_firstClash 45 = .ok (.if_icmp .ge 51, 3) := by decide +kernel
theorem dX6_firstClash_48 : decode cX6_firstClash 48 = .ok (.aload_n 0, 1) := by decide +kernel
theorem dX6_firstClash_49 : decode cX6_firstClash 49 = .ok (.iload_n 1, 1) := by decide +kernel
theorem dX6_firstClash_50 : decode cX6_firstClash 50 = .ok (.iload_n 2, 1) := by decide +kernel
theorem dX6_firstClash_51 : decode cX6_firstClash 51 = .ok (.iload_n 3, 1) := by decide +kernel
theorem dX6_firstClash_52 : decode cX6_firstClash 52 = .ok (.iconst 1, 1) := by decide +kernel
theorem dX6_firstClash_53 : decode cX6_firstClash 53 = .ok (.iadd, 1) := by decide +kernel
theorem dX6_firstClash_54 : decode cX6_firstClash 54 = .ok (.invokevirtual 155, 3) := by decide +kernel
theorem dX6_firstClash_57 : decode cX6_firstClash 57 = .ok (.ifCond .eq 39, 3) := by decide +kernel
theorem dX6_firstClash_60 : decode cX6_firstClash 60 = .ok (.aload_n 0, 1) := by decide +kernel
theorem dX6_firstClash_61 : decode cX6_firstClash 61 = .ok (.iload_n 1, 1) := by decide +kernel
theorem dX6_firstClash_62 : decode cX6_firstClash 62 = .ok (.iload_n 3, 1) := by decide +kernel
theorem dX6_firstClash_63 : decode cX6_firstClash 63 = .ok (.invokevirtual 149, 3) := by decide +kernel
theorem dX6_firstClash_66 : decode cX6_firstClash 66 = .ok (.aload_n 0, 1) := by decide +kernel
theorem dX6_firstClash_67 : decode cX6_firstClash 67 = .ok (.iload_n 2, 1) := by decide +kernel
theorem dX6_firstClash_68 : decode cX6_firstClash 68 = .ok (.iload_n 3, 1) := by decide +kernel
theorem dX6_firstClash_69 : decode cX6_firstClash 69 = .ok (.iconst 1, 1) := by decide +kernel
theorem dX6_firstClash_70 : decode cX6_firstClash 70 = .ok (.iadd, 1) := by decide +kernel
theorem dX6_firstClash_71 : decode cX6_firstClash 71 = .ok (.invokevirtual 149, 3) := by decide +kernel
theorem dX6_firstClash_74 : decode cX6_firstClash 74 = .ok (.if_icmp .ne 22, 3) := by decide +kernel
theorem dX6_firstClash_77 : decode cX6_firstClash 77 = .ok (.aload_n 0, 1) := by decide +kernel
theorem dX6_firstClash_78 : decode cX6_firstClash 78 = .ok (.iload_n 2, 1) := by decide +kernel
theorem dX6_firstClash_79 : decode cX6_firstClash 79 = .ok (.iload_n 3, 1) := by decide +kernel
theorem dX6_firstClash_80 : decode cX6_firstClash 80 = .ok (.invokevirtual 149, 3) := by decide +kernel
theorem dX6_firstClash_83 : decode cX6_firstClash 83 = .ok (.aload_n 0, 1) := by decide +kernel
theorem dX6_firstClash_84 : decode cX6_firstClash 84 = .ok (.iload_n 1, 1) := by decide +kernel
theorem dX6_firstClash_85 : decode cX6_firstClash 85 = .ok (.iload_n 3, 1) := by decide +kernel
theorem dX6_firstClash_86 : decode cX6_firstClash 86 = .ok (.iconst 1, 1) := by decide +kernel
theorem dX6_firstClash_87 : decode cX6_firstClash 87 = .ok (.iadd, 1) := by decide +kernel
theorem dX6_firstClash_88 : decode cX6_firstClash 88 = .ok (.invokevirtual 149, 3) := by decide +kernel
theorem dX6_firstClash_91 : decode cX6_firstClash 91 = .ok (.if_icmp .ne 5, 3) := by decide +kernel
theorem dX6_firstClash_94 : decode cX6_firstClash 94 = .ok (.iload_n 3, 1) := by decide +kernel
theorem dX6_firstClash_95 : decode cX6_firstClash 95 = .ok (.ireturn, 1) := by decide +kernel
theorem dX6_firstClash_96 : decode cX6_firstClash 96 = .ok (.iinc 3 1, 3) := by decide +kernel
theorem dX6_firstClash_99 : decode cX6_firstClash 99 = .ok (.goto (-97), 3) := by decide +kernel
theorem dX6_firstClash_102 : decode cX6_firstClash 102 = .ok (.iconst (-1), 1) := by decide +kernel
theorem dX6_firstClash_103 : decode cX6_firstClash 103 = .ok (.ireturn, 1) := by decide +kernel
theorem dX6_clash_0 : decode cX6_clash 0 = .ok (.aload_n 0, 1) := by decide +kernel
theorem dX6_clash_1 : decode cX6_clash 1 = .ok (.aload_n 0, 1) := by decide +kernel
theorem dX6_clash_2 : decode cX6_clash 2 = .ok (.iload_n 1, 1) := by decide +kernel
theorem dX6_clash_3 : decode cX6_clash 3 = .ok (.invokevirtual 107, 3) := by decide +kernel
theorem dX6_clash_6 : decode cX6_clash 6 = .ok (.ifCond .eq 11, 3) := by decide +kernel
theorem dX6_clash_9 : decode cX6_clash 9 = .ok (.aload_n 0, 1) := by decide +kernel
theorem dX6_clash_10 : decode cX6_clash 10 = .ok (.iload_n 2, 1) := by decide +kernel
theorem dX6_clash_11 : decode cX6_clash 11 = .ok (.invokevirtual 107, 3) := by decide +kernel
theorem dX6_clash_14 : decode cX6_clash 14 = .ok (.ifCond .ne 7, 3) := by decide +kernel
theorem dX6_clash_17 : decode cX6_clash 17 = .ok (.iconst 1, 1) := by decide +kernel
theorem dX6_clash_18 : decode cX6_clash 18 = .ok (.goto 13, 3) := by decide +kernel
theorem dX6_clash_21 : decode cX6_clash 21 = .ok (.iload_n 1, 1) := by decide +kernel
theorem dX6_clash_22 : decode cX6_clash 22 = .ok (.iload_n 2, 1) := by decide +kernel
theorem dX6_clash_23 : decode cX6_clash 23 = .ok (.if_icmp .ne 7, 3) := by decide +kernel
theorem dX6_clash_26 : decode cX6_clash 26 = .ok (.iconst 2, 1) := by decide +kernel
theorem dX6_clash_27 : decode cX6_clash 27 = .ok (.goto 4, 3) := by decide +kernel
theorem dX6_clash_30 : decode cX6_clash 30 = .ok (.iconst 0, 1) := by decide +kernel
theorem dX6_clash_31 : decode cX6_clash 31 = .ok (.putfield 59, 3) := by decide +kernel
theorem dX6_clash_34 : decode cX6_clash 34 = .ok (.aload_n 0, 1) := by decide +kernel
theorem dX6_clash_35 : decode cX6_clash 35 = .ok (.getfield 59, 3) := by decide +kernel
theorem dX6_clash_38 : decode cX6_clash 38 = .ok (.ifCond .eq 5, 3) := by decide +kernel
theorem dX6_clash_41 : decode cX6_clash 41 = .ok (.iconst 0, 1) := by decide +kernel
theorem dX6_clash_42 : decode cX6_clash 42 = .ok (.ireturn, 1) := by decide +kernel
theorem dX6_clash_43 : decode cX6_clash 43 = .ok (.aload_n 0, 1) := by decide +kernel
theorem dX6_clash_44 : decode cX6_clash 44 = .ok (.invokevirtual 147, 3) := by decide +kernel
theorem dX6_clash_47 : decode cX6_clash 47 = .ok (.aload_n 0, 1) := by decide +kernel
theorem dX6_clash_48 : decode cX6_clash 48 = .ok (.iload_n 1, 1) := by decide +kernel
theorem dX6_clash_49 : decode cX6_clash 49 = .ok (.iload_n 2, 1) := by decide +kernel
theorem dX6_clash_50 : decode cX6_clash 50 = .ok (.invokevirtual 158, 3) := by decide +kernel
theorem dX6_clash_53 : decode cX6_clash 53 = .ok (.ireturn, 1) := by decide +kernel
theorem dX6_allClashes_0 : decode cX6_allClashes 0 = .ok (.iconst 0, 1) := by decide +kernel
theorem dX6_allClashes_1 : decode cX6_allClashes 1 = .ok (.istore_n 1, 1) := by decide +kernel
theorem dX6_allClashes_2 : decode cX6_allClashes 2 = .ok (.iconst 0, 1) := by decide +kernel
theorem dX6_allClashes_3 : decode cX6_allClashes 3 = .ok (.istore_n 2, 1) := by decide +kernel
theorem dX6_allClashes_4 : decode cX6_allClashes 4 = .ok (.iload_n 2, 1) := by decide +kernel
theorem dX6_allClashes_5 : decode cX6_allClashes 5 = .ok (.aload_n 0, 1) := by decide +kernel
theorem dX6_allClashes_6 : decode cX6_allClashes 6 = .ok (.getfield 63, 3) := by decide +kernel
theorem dX6_allClashes_9 : decode cX6_allClashes 9 = .ok (.if_icmp .ge 40, 3) := by decide +kernel
theorem dX6_allClashes_12 : decode cX6_allClashes 12 = .ok (.iconst 0, 1) := by decide +kernel
theorem dX6_allClashes_13 : decode cX6_allClashes 13 = .ok (.istore_n 3, 1) := by decide +kernel
theorem dX6_allClashes_14 : decode cX6_allClashes 14 = .ok (.iload_n 3, 1) := by decide +kernel
theorem dX6_allClashes_15 : decode cX6_allClashes 15 = .ok (.iload_n 2, 1) := by decide +kernel
theorem dX6_allClashes_16 : decode cX6_allClashes 16 = .ok (.if_icmp .ge 27, 3) := by decide +kernel
theorem dX6_allClashes_19 : decode cX6_allClashes 19 = .ok (.iload_n 1, 1) := by decide +kernel
theorem dX6_allClashes_20 : decode cX6_allClashes 20 = .ok (.aload_n 0, 1) := by decide +kernel
theorem dX6_allClashes_21 : decode cX6_allClashes 21 = .ok (.iload_n 2, 1) := by decide +kernel
theorem dX6_allClashes_22 : decode cX6_allClashes 22 = .ok (.iload_n 3, 1) := by decide +kernel
theorem dX6_allClashes_23 : decode cX6_allClashes 23 = .ok (.invokevirtual 158, 3) := by decide +kernel
theorem dX6_allClashes_26 : decode cX6_allClashes 26 = .ok (.iconst (-1), 1) := by decide +kernel
theorem dX6_allClashes_27 : decode cX6_allClashes 27 = .ok (.if_icmp .ne 7, 3) := by decide +kernel
theorem dX6_allClashes_30 : decode cX6_allClashes 30 = .ok (.iconst 0, 1) := by decide +kernel
theorem dX6_allClashes_31 : decode cX6_allClashes 31 = .ok (.goto 4, 3) := by decide +kernel
theorem dX6_allClashes_34 : decode cX6_allClashes 34 = .ok (.iconst 1, 1) := by decide +kernel
theorem dX6_allClashes_35 : decode cX6_allClashes 35 = .ok (.iadd, 1) := by decide +kernel
theorem dX6_allClashes_36 : decode cX6_allClashes 36 = .ok (.istore_n 1, 1) := by decide +kernel
theorem dX6_allClashes_37 : decode cX6_allClashes 37 = .ok (.iinc 3 1, 3) := by decide +kernel
theorem dX6_allClashes_40 : decode cX6_allClashes 40 = .ok (.goto (-26), 3) := by decide +kernel
theorem dX6_allClashes_43 : decode cX6_allClashes 43 = .ok (.iinc 2 1, 3) := by decide +kernel
theorem dX6_allClashes_46 : decode cX6_allClashes 46 = .ok (.goto (-42), 3) := by decide +kernel
theorem dX6_allClashes_49 : decode cX6_allClashes 49 = .ok (.iload_n 1, 1) := by decide +kernel
theorem dX6_allClashes_50 : decode cX6_allClashes 50 = .ok (.ireturn, 1) := by decide +kernel
theorem dX6_clashes_0 : decode cX6_clashes 0 = .ok (.aload_n 0, 1) := by decide +kernel
theorem dX6_clashes_1 : decode cX6_clashes 1 = .ok (.iconst 0, 1) := by decide +kernel
theorem dX6_clashes_2 : decode cX6_clashes 2 = .ok (.putfield 59, 3) := by decide +kernel
theorem dX6_clashes_5 : decode cX6_clashes 5 = .ok (.aload_n 0, 1) := by decide +kernel
theorem dX6_clashes_6 : decode cX6_clashes 6 = .ok (.invokevirtual 147, 3) := by decide +kernel
theorem dX6_clashes_9 : decode cX6_clashes 9 = .ok (.aload_n 0, 1) := by decide +kernel
theorem dX6_clashes_10 : decode cX6_clashes 10 = .ok (.invokevirtual 161, 3) := by decide +kernel
theorem dX6_clashes_13 : decode cX6_clashes 13 = .ok (.ireturn, 1) := by decide +kernel
theorem dX6_beats_0 : decode cX6_beats 0 = .ok (.aload_n 0, 1) := by decide +kernel
theorem dX6_beats_1 : decode cX6_beats 1 = .ok (.iconst 0, 1) := by decide +kernel
theorem dX6_beats_2 : decode cX6_beats 2 = .ok (.putfield 59, 3) := by decide +kernel
theorem dX6_beats_5 : decode cX6_beats 5 = .ok (.aload_n 0, 1) := by decide +kernel
theorem dX6_beats_6 : decode cX6_beats 6 = .ok (.iload_n 1, 1) := by decide +kernel
theorem dX6_beats_7 : decode cX6_beats 7 = .ok (.invokevirtual 107, 3) := by decide +kernel
theorem dX6_beats_10 : decode cX6_beats 10 = .ok (.ifCond .ne 9, 3) := by decide +kernel
theorem dX6_beats_13 : decode cX6_beats 13 = .ok (.aload_n 0, 1) := by decide +kernel
theorem dX6_beats_14 : decode cX6_beats 14 = .ok (.iconst 1, 1) := by decide +kernel
theorem dX6_beats_15 : decode cX6_beats 15 = .ok (.invokevirtual 73, 3) := by decide +kernel
theorem dX6_beats_18 : decode cX6_beats 18 = .ok (.ireturn, 1) := by decide +kernel
theorem dX6_beats_19 : decode cX6_beats 19 = .ok (.aload_n 0, 1) := by decide +kernel
theorem dX6_beats_20 : decode cX6_beats 20 = .ok (.invokevirtual 147, 3) := by decide +kernel
theorem dX6_beats_23 : decode cX6_beats 23 = .ok (.iconst 0, 1) := by decide +kernel
theorem dX6_beats_24 : decode cX6_beats 24 = .ok (.istore_n 2, 1) := by decide +kernel
theorem dX6_beats_25 : decode cX6_beats 25 = .ok (.iconst 0, 1) := by decide +kernel
theorem dX6_beats_26 : decode cX6_beats 26 = .ok (.istore_n 3, 1) := by decide +kernel
theorem dX6_beats_27 : decode cX6_beats 27 = .ok (.iload_n 3, 1) := by decide +kernel
theorem dX6_beats_28 : decode cX6_beats 28 = .ok (.sipush 1000, 3) := by decide +kernel
theorem dX6_beats_31 : decode cX6_beats 31 = .ok (.if_icmp .ge 27, 3) := by decide +kernel
theorem dX6_beats_34 : decode cX6_beats 34 = .ok (.iload_n 2, 1) := by decide +kernel
theorem dX6_beats_35 : decode cX6_beats 35 = .ok (.aload_n 0, 1) := by decide +kernel
theorem dX6_beats_36 : decode cX6_beats 36 = .ok (.iload_n 1, 1) := by decide +kernel
theorem dX6_beats_37 : decode cX6_beats 37 = .ok (.iload_n 3, 1) := by decide +kernel
theorem dX6_beats_38 : decode cX6_beats 38 = .ok (.invokevirtual 149, 3) := by decide +kernel
theorem dX6_beats_41 : decode cX6_beats 41 = .ok (.iconst (-1), 1) := by decide +kernel
theorem dX6_beats_42 : decode cX6_beats 42 = .ok (.if_icmp .ne 7, 3) := by decide +kernel
theorem dX6_beats_45 : decode cX6_beats 45 = .ok (.iconst 0, 1) := by decide +kernel
theorem dX6_beats_46 : decode cX6_beats 46 = .ok (.goto 4, 3) := by decide +kernel
theorem dX6_beats_49 : decode cX6_beats 49 = .ok (.iconst 1, 1) := by decide +kernel
theorem dX6_beats_50 : decode cX6_beats 50 = .ok (.iadd, 1) := by decide +kernel
theorem dX6_beats_51 : decode cX6_beats 51 = .ok (.istore_n 2, 1) := by decide +kernel
theorem dX6_beats_52 : decode cX6_beats 52 = .ok (.iinc 3 1, 3) := by decide +kernel
theorem dX6_beats_55 : decode cX6_beats 55 = .ok (.goto (-28), 3) := by decide +kernel
theorem dX6_beats_58 : decode cX6_beats 58 = .ok (.iload_n 2, 1) := by decide +kernel
theorem dX6_beats_59 : decode cX6_beats 59 = .ok (.ireturn, 1) := by decide +kernel
theorem dX6_stays_0 : decode cX6_stays 0 = .ok (.aload_n 0, 1) := by decide +kernel
theorem dX6_stays_1 : decode cX6_stays 1 = .ok (.iconst 0, 1) := by decide +kernel
theorem dX6_stays_2 : decode cX6_stays 2 = .ok (.putfield 59, 3) := by decide +kernel
theorem dX6_stays_5 : decode cX6_stays 5 = .ok (.aload_n 0, 1) := by decide +kernel
theorem dX6_stays_6 : decode cX6_stays 6 = .ok (.iload_n 1, 1) := by decide +kernel
theorem dX6_stays_7 : decode cX6_stays 7 = .ok (.invokevirtual 107, 3) := by decide +kernel
theorem dX6_stays_10 : decode cX6_stays 10 = .ok (.ifCond .ne 9, 3) := by decide +kernel
theorem dX6_stays_13 : decode cX6_stays 13 = .ok (.aload_n 0, 1) := by decide +kernel
theorem dX6_stays_14 : decode cX6_stays 14 = .ok (.iconst 1, 1) := by decide +kernel
theorem dX6_stays_15 : decode cX6_stays 15 = .ok (.invokevirtual 73, 3) := by decide +kernel
theorem dX6_stays_18 : decode cX6_stays 18 = .ok (.ireturn, 1) := by decide +kernel
theorem dX6_stays_19 : decode cX6_stays 19 = .ok (.aload_n 0, 1) := by decide +kernel
theorem dX6_stays_20 : decode cX6_stays 20 = .ok (.invokevirtual 147, 3) := by decide +kernel
theorem dX6_stays_23 : decode cX6_stays 23 = .ok (.aload_n 0, 1) := by decide +kernel
theorem dX6_stays_24 : decode cX6_stays 24 = .ok (.getfield 47, 3) := by decide +kernel
theorem dX6_stays_27 : decode cX6_stays 27 = .ok (.iload_n 1, 1) := by decide +kernel
theorem dX6_stays_28 : decode cX6_stays 28 = .ok (.iaload, 1) := by decide +kernel
theorem dX6_stays_29 : decode cX6_stays 29 = .ok (.ireturn, 1) := by decide +kernel
theorem dX6_stayTold_0 : decode cX6_stayTold 0 = .ok (.bipush 40, 2) := by decide +kernel
theorem dX6_stayTold_2 : decode cX6_stayTold 2 = .ok (.iload_n 1, 1) := by decide +kernel
theorem dX6_stayTold_3 : decode cX6_stayTold 3 = .ok (.imul, 1) := by decide +kernel
theorem dX6_stayTold_4 : decode cX6_stayTold 4 = .ok (.iload_n 2, 1) := by decide +kernel
theorem dX6_stayTold_5 : decode cX6_stayTold 5 = .ok (.iadd, 1) := by decide +kernel
theorem dX6_stayTold_6 : decode cX6_stayTold 6 = .ok (.istore 4, 2) := by decide +kernel
theorem dX6_stayTold_8 : decode cX6_stayTold 8 = .ok (.iload_n 3, 1) := by decide +kernel
theorem dX6_stayTold_9 : decode cX6_stayTold 9 = .ok (.ifCond .ne 13, 3) := by decide +kernel
theorem dX6_stayTold_12 : decode cX6_stayTold 12 = .ok (.aload_n 0, 1) := by decide +kernel
theorem dX6_stayTold_13 : decode cX6_stayTold 13 = .ok (.getfield 50, 3) := by decide +kernel
theorem dX6_stayTold_16 : decode cX6_stayTold 16 = .ok (.iload 4, 2) := by decide +kernel
theorem dX6_stayTold_18 : decode cX6_stayTold 18 = .ok (.iaload, 1) := by decide +kernel
theorem dX6_stayTold_19 : decode cX6_stayTold 19 = .ok (.goto 25, 3) := by decide +kernel
theorem dX6_stayTold_22 : decode cX6_stayTold 22 = .ok (.iload_n 3, 1) := by decide +kernel
theorem dX6_stayTold_23 : decode cX6_stayTold 23 = .ok (.iconst 1, 1) := by decide +kernel
theorem dX6_stayTold_24 : decode cX6_stayTold 24 = .ok (.if_icmp .ne 13, 3) := by decide +kernel
theorem dX6_stayTold_27 : decode cX6_stayTold 27 = .ok (.aload_n 0, 1) := by decide +kernel
theorem dX6_stayTold_28 : decode cX6_stayTold 28 = .ok (.getfield 53, 3) := by decide +kernel
theorem dX6_stayTold_31 : decode cX6_stayTold 31 = .ok (.iload 4, 2) := by decide +kernel
theorem dX6_stayTold_33 : decode cX6_stayTold 33 = .ok (.iaload, 1) := by decide +kernel
theorem dX6_stayTold_34 : decode cX6_stayTold 34 = .ok (.goto 10, 3) := by decide +kernel
theorem dX6_stayTold_37 : decode cX6_stayTold 37 = .ok (.aload_n 0, 1) := by decide +kernel
theorem dX6_stayTold_38 : decode cX6_stayTold 38 = .ok (.getfield 56, 3) := by decide +kernel
theorem dX6_stayTold_41 : decode cX6_stayTold 41 = .ok (.iload 4, 2) := by decide +kernel
theorem dX6_stayTold_43 : decode cX6_stayTold 43 = .ok (.iaload, 1) := by decide +kernel
theorem dX6_stayTold_44 : decode cX6_stayTold 44 = .ok (.ireturn, 1) := by decide +kernel
theorem dX6_stay_0 : decode cX6_stay 0 = .ok (.aload_n 0, 1) := by decide +kernel
theorem dX6_stay_1 : decode cX6_stay 1 = .ok (.iconst 0, 1) := by decide +kernel
theorem dX6_stay_2 : decode cX6_stay 2 = .ok (.putfield 59, 3) := by decide +kernel
theorem dX6_stay_5 : decode cX6_stay 5 = .ok (.aload_n 0, 1) := by decide +kernel
theorem dX6_stay_6 : decode cX6_stay 6 = .ok (.iload_n 1, 1) := by decide +kernel
theorem dX6_stay_7 : decode cX6_stay 7 = .ok (.invokevirtual 107, 3) := by decide +kernel
theorem dX6_stay_10 : decode cX6_stay 10 = .ok (.ifCond .ne 9, 3) := by decide +kernel
theorem dX6_stay_13 : decode cX6_stay 13 = .ok (.aload_n 0, 1) := by decide +kernel
theorem dX6_stay_14 : decode cX6_stay 14 = .ok (.iconst 1, 1) := by decide +kernel
theorem dX6_stay_15 : decode cX6_stay 15 = .ok (.invokevirtual 73, 3) := by decide +kernel
theorem dX6_stay_18 : decode cX6_stay 18 = .ok (.ireturn, 1) := by decide +kernel
theorem dX6_stay_19 : decode cX6_stay 19 = .ok (.aload_n 0, 1) := by decide +kernel
theorem dX6_stay_20 : decode cX6_stay 20 = .ok (.invokevirtual 147, 3) := by decide +kernel
theorem dX6_stay_23 : decode cX6_stay 23 = .ok (.iload_n 2, 1) := by decide +kernel
theorem dX6_stay_24 : decode cX6_stay 24 = .ok (.iconst 0, 1) := by decide +kernel
theorem dX6_stay_25 : decode cX6_stay 25 = .ok (.aload_n 0, 1) := by decide +kernel
theorem dX6_stay_26 : decode cX6_stay 26 = .ok (.getfield 47, 3) := by decide +kernel
theorem dX6_stay_29 : decode cX6_stay 29 = .ok (.iload_n 1, 1) := by decide +kernel
theorem dX6_stay_30 : decode cX6_stay 30 = .ok (.iaload, 1) := by decide +kernel
theorem dX6_stay_31 : decode cX6_stay 31 = .ok (.iconst 1, 1) := by decide +kernel
theorem dX6_stay_32 : decode cX6_stay 32 = .ok (.isub, 1) := by decide +kernel
theorem dX6_stay_33 : decode cX6_stay 33 = .ok (.invokestatic 66, 3) := by decide +kernel
theorem dX6_stay_36 : decode cX6_stay 36 = .ok (.ifCond .eq 22, 3) := by decide +kernel
theorem dX6_stay_39 : decode cX6_stay 39 = .ok (.iload_n 3, 1) := by decide +kernel
theorem dX6_stay_40 : decode cX6_stay 40 = .ok (.iconst 0, 1) := by decide +kernel
theorem dX6_stay_41 : decode cX6_stay 41 = .ok (.iconst 2, 1) := by decide +kernel
theorem dX6_stay_42 : decode cX6_stay 42 = .ok (.invokestatic 66, 3) := by decide +kernel
theorem dX6_stay_45 : decode cX6_stay 45 = .ok (.ifCond .eq 13, 3) := by decide +kernel
theorem dX6_stay_48 : decode cX6_stay 48 = .ok (.aload_n 0, 1) := by decide +kernel
theorem dX6_stay_49 : decode cX6_stay 49 = .ok (.iload_n 1, 1) := by decide +kernel
theorem dX6_stay_50 : decode cX6_stay 50 = .ok (.iload_n 2, 1) := by decide +kernel
theorem dX6_stay_51 : decode cX6_stay 51 = .ok (.iload_n 3, 1) := by decide +kernel
theorem dX6_stay_52 : decode cX6_stay 52 = .ok (.invokevirtual 165, 3) := by decide +kernel
theorem dX6_stay_55 : decode cX6_stay 55 = .ok (.goto 8, 3) := by decide +kernel
theorem dX6_stay_58 : decode cX6_stay 58 = .ok (.aload_n 0, 1) := by decide +kernel
theorem dX6_stay_59 : decode cX6_stay 59 = .ok (.iconst 1, 1) := by decide +kernel
theorem dX6_stay_60 : decode cX6_stay 60 = .ok (.invokevirtual 73, 3) := by decide +kernel
theorem dX6_stay_63 : decode cX6_stay 63 = .ok (.ireturn, 1) := by decide +kernel
theorem dX6_uncast_0 : decode cX6_uncast 0 = .ok (.aload_n 0, 1) := by decide +kernel
theorem dX6_uncast_1 : decode cX6_uncast 1 = .ok (.iconst 0, 1) := by decide +kernel
theorem dX6_uncast_2 : decode cX6_uncast 2 = .ok (.putfield 59, 3) := by decide +kernel
theorem dX6_uncast_5 : decode cX6_uncast 5 = .ok (.aload_n 0, 1) := by decide +kernel
theorem dX6_uncast_6 : decode cX6_uncast 6 = .ok (.invokevirtual 147, 3) := by decide +kernel
theorem dX6_uncast_9 : decode cX6_uncast 9 = .ok (.iconst 0, 1) := by decide +kernel
theorem dX6_uncast_10 : decode cX6_uncast 10 = .ok (.istore_n 1, 1) := by decide +kernel
theorem dX6_uncast_11 : decode cX6_uncast 11 = .ok (.iconst 0, 1) := by decide +kernel
theorem dX6_uncast_12 : decode cX6_uncast 12 = .ok (.istore_n 2, 1) := by decide +kernel
theorem dX6_uncast_13 : decode cX6_uncast 13 = .ok (.iload_n 2, 1) := by decide +kernel
theorem dX6_uncast_14 : decode cX6_uncast 14 = .ok (.aload_n 0, 1) := by decide +kernel
theorem dX6_uncast_15 : decode cX6_uncast 15 = .ok (.getfield 63, 3) := by decide +kernel
theorem dX6_uncast_18 : decode cX6_uncast 18 = .ok (.if_icmp .ge 50, 3) := by decide +kernel
theorem dX6_uncast_21 : decode cX6_uncast 21 = .ok (.iconst 0, 1) := by decide +kernel
theorem dX6_uncast_22 : decode cX6_uncast 22 = .ok (.istore_n 3, 1) := by decide +kernel
theorem dX6_uncast_23 : decode cX6_uncast 23 = .ok (.iload_n 3, 1) := by decide +kernel
theorem dX6_uncast_24 : decode cX6_uncast 24 = .ok (.aload_n 0, 1) := by decide +kernel
theorem dX6_uncast_25 : decode cX6_uncast 25 = .ok (.getfield 47, 3) := by decide +kernel
theorem dX6_uncast_28 : decode cX6_uncast 28 = .ok (.iload_n 2, 1) := by decide +kernel
theorem dX6_uncast_29 : decode cX6_uncast 29 = .ok (.iaload, 1) := by decide +kernel
theorem dX6_uncast_30 : decode cX6_uncast 30 = .ok (.if_icmp .ge 32, 3) := by decide +kernel
theorem dX6_uncast_33 : decode cX6_uncast 33 = .ok (.iload_n 1, 1) := by decide +kernel
theorem dX6_uncast_34 : decode cX6_uncast 34 = .ok (.aload_n 0, 1) := by decide +kernel
theorem dX6_uncast_35 : decode cX6_uncast 35 = .ok (.getfield 56, 3) := by decide +kernel
theorem dX6_uncast_38 : decode cX6_uncast 38 = .ok (.bipush 40, 2) := by decide +kernel
theorem dX6_uncast_40 : decode cX6_uncast 40 = .ok (.iload_n 2, 1) := by decide +kernel
theorem dX6_uncast_41 : decode cX6_uncast 41 = .ok (.imul, 1) := by decide +kernel
theorem dX6_uncast_42 : decode cX6_uncast 42 = .ok (.iload_n 3, 1) := by decide +kernel
theorem dX6_uncast_43 : decode cX6_uncast 43 = .ok (.iadd, 1) := by decide +kernel
theorem dX6_uncast_44 : decode cX6_uncast 44 = .ok (.iaload, 1) := by decide +kernel
theorem dX6_uncast_45 : decode cX6_uncast 45 = .ok (.iconst (-1), 1) := by decide +kernel
theorem dX6_uncast_46 : decode cX6_uncast 46 = .ok (.if_icmp .ne 7, 3) := by decide +kernel
theorem dX6_uncast_49 : decode cX6_uncast 49 = .ok (.iconst 1, 1) := by decide +kernel
theorem dX6_uncast_50 : decode cX6_uncast 50 = .ok (.goto 4, 3) := by decide +kernel
theorem dX6_uncast_53 : decode cX6_uncast 53 = .ok (.iconst 0, 1) := by decide +kernel
theorem dX6_uncast_54 : decode cX6_uncast 54 = .ok (.iadd, 1) := by decide +kernel
theorem dX6_uncast_55 : decode cX6_uncast 55 = .ok (.istore_n 1, 1) := by decide +kernel
theorem dX6_uncast_56 : decode cX6_uncast 56 = .ok (.iinc 3 1, 3) := by decide +kernel
theorem dX6_uncast_59 : decode cX6_uncast 59 = .ok (.goto (-36), 3) := by decide +kernel
theorem dX6_uncast_62 : decode cX6_uncast 62 = .ok (.iinc 2 1, 3) := by decide +kernel
theorem dX6_uncast_65 : decode cX6_uncast 65 = .ok (.goto (-52), 3) := by decide +kernel
theorem dX6_uncast_68 : decode cX6_uncast 68 = .ok (.iload_n 1, 1) := by decide +kernel
theorem dX6_uncast_69 : decode cX6_uncast 69 = .ok (.ireturn, 1) := by decide +kernel
theorem dX6_handsOf_0 : decode cX6_handsOf 0 = .ok (.iconst 0, 1) := by decide +kernel
theorem dX6_handsOf_1 : decode cX6_handsOf 1 = .ok (.istore_n 3, 1) := by decide +kernel
theorem dX6_handsOf_2 : decode cX6_handsOf 2 = .ok (.iconst 0, 1) := by decide +kernel
theorem dX6_handsOf_3 : decode cX6_handsOf 3 = .ok (.istore 4, 2) := by decide +kernel
theorem dX6_handsOf_5 : decode cX6_handsOf 5 = .ok (.iload 4, 2) := by decide +kernel
theorem dX6_handsOf_7 : decode cX6_handsOf 7 = .ok (.aload_n 0, 1) := by decide +kernel
theorem dX6_handsOf_8 : decode cX6_handsOf 8 = .ok (.getfield 63, 3) := by decide +kernel
theorem dX6_handsOf_11 : decode cX6_handsOf 11 = .ok (.if_icmp .ge 27, 3) := by decide +kernel
theorem dX6_handsOf_14 : decode cX6_handsOf 14 = .ok (.aload_n 0, 1) := by decide +kernel
theorem dX6_handsOf_15 : decode cX6_handsOf 15 = .ok (.iload 4, 2) := by decide +kernel
theorem dX6_handsOf_17 : decode cX6_handsOf 17 = .ok (.iload_n 2, 1) := by decide +kernel
theorem dX6_handsOf_18 : decode cX6_handsOf 18 = .ok (.invokevirtual 138, 3) := by decide +kernel
theorem dX6_handsOf_21 : decode cX6_handsOf 21 = .ok (.iload_n 1, 1) := by decide +kernel
theorem dX6_handsOf_22 : decode cX6_handsOf 22 = .ok (.if_icmp .ne 10, 3) := by decide +kernel
theorem dX6_handsOf_25 : decode cX6_handsOf 25 = .ok (.iload_n 3, 1) := by decide +kernel
theorem dX6_handsOf_26 : decode cX6_handsOf 26 = .ok (.iconst 1, 1) := by decide +kernel
theorem dX6_handsOf_27 : decode cX6_handsOf 27 = .ok (.iload 4, 2) := by decide +kernel
theorem dX6_handsOf_29 : decode cX6_handsOf 29 = .ok (.ishl, 1) := by decide +kernel
theorem dX6_handsOf_30 : decode cX6_handsOf 30 = .ok (.ior, 1) := by decide +kernel
theorem dX6_handsOf_31 : decode cX6_handsOf 31 = .ok (.istore_n 3, 1) := by decide +kernel
theorem dX6_handsOf_32 : decode cX6_handsOf 32 = .ok (.iinc 4 1, 3) := by decide +kernel
theorem dX6_handsOf_35 : decode cX6_handsOf 35 = .ok (.goto (-30), 3) := by decide +kernel
theorem dX6_handsOf_38 : decode cX6_handsOf 38 = .ok (.iload_n 3, 1) := by decide +kernel
theorem dX6_handsOf_39 : decode cX6_handsOf 39 = .ok (.ireturn, 1) := by decide +kernel
theorem dX6_hands_0 : decode cX6_hands 0 = .ok (.aload_n 0, 1) := by decide +kernel
theorem dX6_hands_1 : decode cX6_hands 1 = .ok (.aload_n 0, 1) := by decide +kernel
theorem dX6_hands_2 : decode cX6_hands 2 = .ok (.iload_n 1, 1) := by decide +kernel
theorem dX6_hands_3 : decode cX6_hands 3 = .ok (.invokevirtual 169, 3) := by decide +kernel
theorem dX6_hands_6 : decode cX6_hands 6 = .ok (.ifCond .eq 11, 3) := by decide +kernel
theorem dX6_hands_9 : decode cX6_hands 9 = .ok (.aload_n 0, 1) := by decide +kernel
theorem dX6_hands_10 : decode cX6_hands 10 = .ok (.iload_n 2, 1) := by decide +kernel
theorem dX6_hands_11 : decode cX6_hands 11 = .ok (.invokevirtual 144, 3) := by decide +kernel
theorem dX6_hands_14 : decode cX6_hands 14 = .ok (.goto 4, 3) := by decide +kernel
theorem dX6_hands_17 : decode cX6_hands 17 = .ok (.iconst 1, 1) := by decide +kernel
theorem dX6_hands_18 : decode cX6_hands 18 = .ok (.putfield 59, 3) := by decide +kernel
theorem dX6_hands_21 : decode cX6_hands 21 = .ok (.aload_n 0, 1) := by decide +kernel
theorem dX6_hands_22 : decode cX6_hands 22 = .ok (.getfield 59, 3) := by decide +kernel
theorem dX6_hands_25 : decode cX6_hands 25 = .ok (.ifCond .eq 5, 3) := by decide +kernel
theorem dX6_hands_28 : decode cX6_hands 28 = .ok (.iconst 0, 1) := by decide +kernel
theorem dX6_hands_29 : decode cX6_hands 29 = .ok (.ireturn, 1) := by decide +kernel
theorem dX6_hands_30 : decode cX6_hands 30 = .ok (.aload_n 0, 1) := by decide +kernel
theorem dX6_hands_31 : decode cX6_hands 31 = .ok (.invokevirtual 147, 3) := by decide +kernel
theorem dX6_hands_34 : decode cX6_hands 34 = .ok (.aload_n 0, 1) := by decide +kernel
theorem dX6_hands_35 : decode cX6_hands 35 = .ok (.iload_n 1, 1) := by decide +kernel
theorem dX6_hands_36 : decode cX6_hands 36 = .ok (.iload_n 2, 1) := by decide +kernel
theorem dX6_hands_37 : decode cX6_hands 37 = .ok (.invokevirtual 172, 3) := by decide +kernel
theorem dX6_hands_40 : decode cX6_hands 40 = .ok (.ireturn, 1) := by decide +kernel
theorem dX6_loadOf_0 : decode cX6_loadOf 0 = .ok (.iconst 0, 1) := by decide +kernel
theorem dX6_loadOf_1 : decode cX6_loadOf 1 = .ok (.istore_n 2, 1) := by decide +kernel
theorem dX6_loadOf_2 : decode cX6_loadOf 2 = .ok (.iconst 0, 1) := by decide +kernel
theorem dX6_loadOf_3 : decode cX6_loadOf 3 = .ok (.istore_n 3, 1) := by decide +kernel
theorem dX6_loadOf_4 : decode cX6_loadOf 4 = .ok (.iload_n 3, 1) := by decide +kernel
theorem dX6_loadOf_5 : decode cX6_loadOf 5 = .ok (.sipush 1000, 3) := by decide +kernel
theorem dX6_loadOf_8 : decode cX6_loadOf 8 = .ok (.if_icmp .ge 26, 3) := by decide +kernel
theorem dX6_loadOf_11 : decode cX6_loadOf 11 = .ok (.iload_n 2, 1) := by decide +kernel
theorem dX6_loadOf_12 : decode cX6_loadOf 12 = .ok (.aload_n 0, 1) := by decide +kernel
theorem dX6_loadOf_13 : decode cX6_loadOf 13 = .ok (.iload_n 1, 1) := by decide +kernel
theorem dX6_loadOf_14 : decode cX6_loadOf 14 = .ok (.iload_n 3, 1) := by decide +kernel
theorem dX6_loadOf_15 : decode cX6_loadOf 15 = .ok (.invokevirtual 172, 3) := by decide +kernel
theorem dX6_loadOf_18 : decode cX6_loadOf 18 = .ok (.ifCond .ne 7, 3) := by decide +kernel
theorem dX6_loadOf_21 : decode cX6_loadOf 21 = .ok (.iconst 0, 1) := by decide +kernel
theorem dX6_loadOf_22 : decode cX6_loadOf 22 = .ok (.goto 4, 3) := by decide +kernel
theorem dX6_loadOf_25 : decode cX6_loadOf 25 = .ok (.iconst 1, 1) := by decide +kernel
theorem dX6_loadOf_26 : decode cX6_loadOf 26 = .ok (.iadd, 1) := by decide +kernel
theorem dX6_loadOf_27 : decode cX6_loadOf 27 = .ok (.istore_n 2, 1) := by decide +kernel
theorem dX6_loadOf_28 : decode cX6_loadOf 28 = .ok (.iinc 3 1, 3) := by decide +kernel
theorem dX6_loadOf_31 : decode cX6_loadOf 31 = .ok (.goto (-27), 3) := by decide +kernel
theorem dX6_loadOf_34 : decode cX6_loadOf 34 = .ok (.iload_n 2, 1) := by decide +kernel
theorem dX6_loadOf_35 : decode cX6_loadOf 35 = .ok (.ireturn, 1) := by decide +kernel
theorem dX6_load_0 : decode cX6_load 0 = .ok (.aload_n 0, 1) := by decide +kernel
theorem dX6_load_1 : decode cX6_load 1 = .ok (.iconst 0, 1) := by decide +kernel
theorem dX6_load_2 : decode cX6_load 2 = .ok (.putfield 59, 3) := by decide +kernel
theorem dX6_load_5 : decode cX6_load 5 = .ok (.aload_n 0, 1) := by decide +kernel
theorem dX6_load_6 : decode cX6_load 6 = .ok (.iload_n 1, 1) := by decide +kernel
theorem dX6_load_7 : decode cX6_load 7 = .ok (.invokevirtual 169, 3) := by decide +kernel
theorem dX6_load_10 : decode cX6_load 10 = .ok (.ifCond .ne 9, 3) := by decide +kernel
theorem dX6_load_13 : decode cX6_load 13 = .ok (.aload_n 0, 1) := by decide +kernel
theorem dX6_load_14 : decode cX6_load 14 = .ok (.iconst 1, 1) := by decide +kernel
theorem dX6_load_15 : decode cX6_load 15 = .ok (.invokevirtual 73, 3) := by decide +kernel
theorem dX6_load_18 : decode cX6_load 18 = .ok (.ireturn, 1) := by decide +kernel
theorem dX6_load_19 : decode cX6_load 19 = .ok (.aload_n 0, 1) := by decide +kernel
theorem dX6_load_20 : decode cX6_load 20 = .ok (.invokevirtual 147, 3) := by decide +kernel
theorem dX6_load_23 : decode cX6_load 23 = .ok (.aload_n 0, 1) := by decide +kernel
theorem dX6_load_24 : decode cX6_load 24 = .ok (.iload_n 1, 1) := by decide +kernel
theorem dX6_load_25 : decode cX6_load 25 = .ok (.invokevirtual 175, 3) := by decide +kernel
theorem dX6_load_28 : decode cX6_load 28 = .ok (.ireturn, 1) := by decide +kernel
theorem dX6_note_0 : decode cX6_note 0 = .ok (.aload_n 0, 1) := by decide +kernel
theorem dX6_note_1 : decode cX6_note 1 = .ok (.iconst 0, 1) := by decide +kernel
theorem dX6_note_2 : decode cX6_note 2 = .ok (.putfield 59, 3) := by decide +kernel
theorem dX6_note_5 : decode cX6_note 5 = .ok (.aload_n 0, 1) := by decide +kernel
theorem dX6_note_6 : decode cX6_note 6 = .ok (.iload_n 1, 1) := by decide +kernel
theorem dX6_note_7 : decode cX6_note 7 = .ok (.invokevirtual 120, 3) := by decide +kernel
theorem dX6_note_10 : decode cX6_note 10 = .ok (.ifCond .ne 9, 3) := by decide +kernel
theorem dX6_note_13 : decode cX6_note 13 = .ok (.aload_n 0, 1) := by decide +kernel
theorem dX6_note_14 : decode cX6_note 14 = .ok (.iconst 1, 1) := by decide +kernel
theorem dX6_note_15 : decode cX6_note 15 = .ok (.invokevirtual 73, 3) := by decide +kernel
theorem dX6_note_18 : decode cX6_note 18 = .ok (.ireturn, 1) := by decide +kernel
theorem dX6_note_19 : decode cX6_note 19 = .ok (.iload_n 2, 1) := by decide +kernel
theorem dX6_note_20 : decode cX6_note 20 = .ok (.bipush (-50), 2) := by decide +kernel
theorem dX6_note_22 : decode cX6_note 22 = .ok (.bipush 50, 2) := by decide +kernel
theorem dX6_note_24 : decode cX6_note 24 = .ok (.invokestatic 66, 3) := by decide +kernel
theorem dX6_note_27 : decode cX6_note 27 = .ok (.ifCond .ne 9, 3) := by decide +kernel
theorem dX6_note_30 : decode cX6_note 30 = .ok (.aload_n 0, 1) := by decide +kernel
theorem dX6_note_31 : decode cX6_note 31 = .ok (.iconst 2, 1) := by decide +kernel
theorem dX6_note_32 : decode cX6_note 32 = .ok (.invokevirtual 73, 3) := by decide +kernel
theorem dX6_note_35 : decode cX6_note 35 = .ok (.ireturn, 1) := by decide +kernel
theorem dX6_note_36 : decode cX6_note 36 = .ok (.aload_n 0, 1) := by decide +kernel
theorem dX6_note_37 : decode cX6_note 37 = .ok (.getfield 29, 3) := by decide +kernel
theorem dX6_note_40 : decode cX6_note 40 = .ok (.iload_n 1, 1) := by decide +kernel
theorem dX6_note_41 : decode cX6_note 41 = .ok (.iaload, 1) := by decide +kernel
theorem dX6_note_42 : decode cX6_note 42 = .ok (.bipush 20, 2) := by decide +kernel
theorem dX6_note_44 : decode cX6_note 44 = .ok (.if_icmp .ne 9, 3) := by decide +kernel
theorem dX6_note_47 : decode cX6_note 47 = .ok (.aload_n 0, 1) := by decide +kernel
theorem dX6_note_48 : decode cX6_note 48 = .ok (.iconst 3, 1) := by decide +kernel
theorem dX6_note_49 : decode cX6_note 49 = .ok (.invokevirtual 73, 3) := by decide +kernel
theorem dX6_note_52 : decode cX6_note 52 = .ok (.ireturn, 1) := by decide +kernel
theorem dX6_note_53 : decode cX6_note 53 = .ok (.aload_n 0, 1) := by decide +kernel
theorem dX6_note_54 : decode cX6_note 54 = .ok (.getfield 29, 3) := by decide +kernel
theorem dX6_note_57 : decode cX6_note 57 = .ok (.iload_n 1, 1) := by decide +kernel
theorem dX6_note_58 : decode cX6_note 58 = .ok (.dup2, 1) := by decide +kernel
theorem dX6_note_59 : decode cX6_note 59 = .ok (.iaload, 1) := by decide +kernel
theorem dX6_note_60 : decode cX6_note 60 = .ok (.iconst 1, 1) := by decide +kernel
theorem dX6_note_61 : decode cX6_note 61 = .ok (.iadd, 1) := by decide +kernel
theorem dX6_note_62 : decode cX6_note 62 = .ok (.iastore, 1) := by decide +kernel
theorem dX6_note_63 : decode cX6_note 63 = .ok (.aload_n 0, 1) := by decide +kernel
theorem dX6_note_64 : decode cX6_note 64 = .ok (.getfield 32, 3) := by decide +kernel
theorem dX6_note_67 : decode cX6_note 67 = .ok (.iload_n 1, 1) := by decide +kernel
theorem dX6_note_68 : decode cX6_note 68 = .ok (.dup2, 1) := by decide +kernel
theorem dX6_note_69 : decode cX6_note 69 = .ok (.iaload, 1) := by decide +kernel
theorem dX6_note_70 : decode cX6_note 70 = .ok (.iload_n 2, 1) := by decide +kernel
theorem dX6_note_71 : decode cX6_note 71 = .ok (.iadd, 1) := by decide +kernel
theorem dX6_note_72 : decode cX6_note 72 = .ok (.iastore, 1) := by decide +kernel
theorem dX6_note_73 : decode cX6_note 73 = .ok (.aload_n 0, 1) := by decide +kernel
theorem dX6_note_74 : decode cX6_note 74 = .ok (.getfield 35, 3) := by decide +kernel
theorem dX6_note_77 : decode cX6_note 77 = .ok (.iload_n 1, 1) := by decide +kernel
theorem dX6_note_78 : decode cX6_note 78 = .ok (.dup2, 1) := by decide +kernel
theorem dX6_note_79 : decode cX6_note 79 = .ok (.iaload, 1) := by decide +kernel
theorem dX6_note_80 : decode cX6_note 80 = .ok (.iload_n 2, 1) := by decide +kernel
theorem dX6_note_81 : decode cX6_note 81 = .ok (.invokestatic 98, 3) := by decide +kernel
theorem dX6_note_84 : decode cX6_note 84 = .ok (.iadd, 1) := by decide +kernel
theorem dX6_note_85 : decode cX6_note 85 = .ok (.iastore, 1) := by decide +kernel
theorem dX6_note_86 : decode cX6_note 86 = .ok (.aload_n 0, 1) := by decide +kernel
theorem dX6_note_87 : decode cX6_note 87 = .ok (.getfield 29, 3) := by decide +kernel
theorem dX6_note_90 : decode cX6_note 90 = .ok (.iload_n 1, 1) := by decide +kernel
theorem dX6_note_91 : decode cX6_note 91 = .ok (.iaload, 1) := by decide +kernel
theorem dX6_note_92 : decode cX6_note 92 = .ok (.ireturn, 1) := by decide +kernel
theorem dX6_mean_0 : decode cX6_mean 0 = .ok (.aload_n 0, 1) := by decide +kernel
theorem dX6_mean_1 : decode cX6_mean 1 = .ok (.aload_n 0, 1) := by decide +kernel
theorem dX6_mean_2 : decode cX6_mean 2 = .ok (.iload_n 1, 1) := by decide +kernel
theorem dX6_mean_3 : decode cX6_mean 3 = .ok (.invokevirtual 120, 3) := by decide +kernel
theorem dX6_mean_6 : decode cX6_mean 6 = .ok (.ifCond .eq 7, 3) := by decide +kernel
theorem dX6_mean_9 : decode cX6_mean 9 = .ok (.iconst 0, 1) := by decide +kernel
theorem dX6_mean_10 : decode cX6_mean 10 = .ok (.goto 4, 3) := by decide +kernel
theorem dX6_mean_13 : decode cX6_mean 13 = .ok (.iconst 1, 1) := by decide +kernel
theorem dX6_mean_14 : decode cX6_mean 14 = .ok (.putfield 59, 3) := by decide +kernel
theorem dX6_mean_17 : decode cX6_mean 17 = .ok (.aload_n 0, 1) := by decide +kernel
theorem dX6_mean_18 : decode cX6_mean 18 = .ok (.getfield 59, 3) := by decide +kernel
theorem dX6_mean_21 : decode cX6_mean 21 = .ok (.ifCond .ne 12, 3) := by decide +kernel
theorem dX6_mean_24 : decode cX6_mean 24 = .ok (.aload_n 0, 1) := by decide +kernel
theorem dX6_mean_25 : decode cX6_mean 25 = .ok (.getfield 29, 3) := by decide +kernel
theorem dX6_mean_28 : decode cX6_mean 28 = .ok (.iload_n 1, 1) := by decide +kernel
theorem dX6_mean_29 : decode cX6_mean 29 = .ok (.iaload, 1) := by decide +kernel
theorem dX6_mean_30 : decode cX6_mean 30 = .ok (.ifCond .ne 7, 3) := by decide +kernel
theorem dX6_mean_33 : decode cX6_mean 33 = .ok (.dconst 0, 1) := by decide +kernel
theorem dX6_mean_34 : decode cX6_mean 34 = .ok (.goto 18, 3) := by decide +kernel
theorem dX6_mean_37 : decode cX6_mean 37 = .ok (.aload_n 0, 1) := by decide +kernel
theorem dX6_mean_38 : decode cX6_mean 38 = .ok (.getfield 32, 3) := by decide +kernel
theorem dX6_mean_41 : decode cX6_mean 41 = .ok (.iload_n 1, 1) := by decide +kernel
theorem dX6_mean_42 : decode cX6_mean 42 = .ok (.iaload, 1) := by decide +kernel
theorem dX6_mean_43 : decode cX6_mean 43 = .ok (.i2d, 1) := by decide +kernel
theorem dX6_mean_44 : decode cX6_mean 44 = .ok (.aload_n 0, 1) := by decide +kernel
theorem dX6_mean_45 : decode cX6_mean 45 = .ok (.getfield 29, 3) := by decide +kernel
theorem dX6_mean_48 : decode cX6_mean 48 = .ok (.iload_n 1, 1) := by decide +kernel
theorem dX6_mean_49 : decode cX6_mean 49 = .ok (.iaload, 1) := by decide +kernel
theorem dX6_mean_50 : decode cX6_mean 50 = .ok (.i2d, 1) := by decide +kernel
theorem dX6_mean_51 : decode cX6_mean 51 = .ok (.ddiv, 1) := by decide +kernel
theorem dX6_mean_52 : decode cX6_mean 52 = .ok (.dreturn, 1) := by decide +kernel
theorem dX6_worst_0 : decode cX6_worst 0 = .ok (.aload_n 0, 1) := by decide +kernel
theorem dX6_worst_1 : decode cX6_worst 1 = .ok (.iconst 0, 1) := by decide +kernel
theorem dX6_worst_2 : decode cX6_worst 2 = .ok (.putfield 59, 3) := by decide +kernel
theorem dX6_worst_5 : decode cX6_worst 5 = .ok (.iconst (-1), 1) := by decide +kernel
theorem dX6_worst_6 : decode cX6_worst 6 = .ok (.istore_n 1, 1) := by decide +kernel
theorem dX6_worst_7 : decode cX6_worst 7 = .ok (.iconst 0, 1) := by decide +kernel
theorem dX6_worst_8 : decode cX6_worst 8 = .ok (.istore_n 2, 1) := by decide +kernel
theorem dX6_worst_9 : decode cX6_worst 9 = .ok (.iload_n 2, 1) := by decide +kernel
theorem dX6_worst_10 : decode cX6_worst 10 = .ok (.aload_n 0, 1) := by decide +kernel
theorem dX6_worst_11 : decode cX6_worst 11 = .ok (.getfield 81, 3) := by decide +kernel
theorem dX6_worst_14 : decode cX6_worst 14 = .ok (.if_icmp .ge 49, 3) := by decide +kernel
theorem dX6_worst_17 : decode cX6_worst 17 = .ok (.aload_n 0, 1) := by decide +kernel
theorem dX6_worst_18 : decode cX6_worst 18 = .ok (.getfield 25, 3) := by decide +kernel
theorem dX6_worst_21 : decode cX6_worst 21 = .ok (.iload_n 2, 1) := by decide +kernel
theorem dX6_worst_22 : decode cX6_worst 22 = .ok (.baload, 1) := by decide +kernel
theorem dX6_worst_23 : decode cX6_worst 23 = .ok (.ifCond .ne 34, 3) := by decide +kernel
theorem dX6_worst_26 : decode cX6_worst 26 = .ok (.aload_n 0, 1) := by decide +kernel
theorem dX6_worst_27 : decode cX6_worst 27 = .ok (.getfield 29, 3) := by decide +kernel
theorem dX6_worst_30 : decode cX6_worst 30 = .ok (.iload_n 2, 1) := by decide +kernel
theorem dX6_worst_31 : decode cX6_worst 31 = .ok (.iaload, 1) := by decide +kernel
theorem dX6_worst_32 : decode cX6_worst 32 = .ok (.ifCond .le 25, 3) := by decide +kernel
theorem dX6_worst_35 : decode cX6_worst 35 = .ok (.iload_n 1, 1) := by decide +kernel
theorem dX6_worst_36 : decode cX6_worst 36 = .ok (.iconst (-1), 1) := by decide +kernel
theorem dX6_worst_37 : decode cX6_worst 37 = .ok (.if_icmp .eq 18, 3) := by decide +kernel
theorem dX6_worst_40 : decode cX6_worst 40 = .ok (.aload_n 0, 1) := by decide +kernel
theorem dX6_worst_41 : decode cX6_worst 41 = .ok (.getfield 35, 3) := by decide +kernel
theorem dX6_worst_44 : decode cX6_worst 44 = .ok (.iload_n 2, 1) := by decide +kernel
theorem dX6_worst_45 : decode cX6_worst 45 = .ok (.iaload, 1) := by decide +kernel
theorem dX6_worst_46 : decode cX6_worst 46 = .ok (.aload_n 0, 1) := by decide +kernel
theorem dX6_worst_47 : decode cX6_worst 47 = .ok (.getfield 35, 3) := by decide +kernel
theorem dX6_worst_50 : decode cX6_worst 50 = .ok (.iload_n 1, 1) := by decide +kernel
theorem dX6_worst_51 : decode cX6_worst 51 = .ok (.iaload, 1) := by decide +kernel
theorem dX6_worst_52 : decode cX6_worst 52 = .ok (.if_icmp .le 5, 3) := by decide +kernel
theorem dX6_worst_55 : decode cX6_worst 55 = .ok (.iload_n 2, 1) := by decide +kernel
theorem dX6_worst_56 : decode cX6_worst 56 = .ok (.istore_n 1, 1) := by decide +kernel
theorem dX6_worst_57 : decode cX6_worst 57 = .ok (.iinc 2 1, 3) := by decide +kernel
theorem dX6_worst_60 : decode cX6_worst 60 = .ok (.goto (-51), 3) := by decide +kernel
theorem dX6_worst_63 : decode cX6_worst 63 = .ok (.iload_n 1, 1) := by decide +kernel
theorem dX6_worst_64 : decode cX6_worst 64 = .ok (.ireturn, 1) := by decide +kernel
theorem dX6_digest_0 : decode cX6_digest 0 = .ok (.aload_n 0, 1) := by decide +kernel
theorem dX6_digest_1 : decode cX6_digest 1 = .ok (.iconst 0, 1) := by decide +kernel
theorem dX6_digest_2 : decode cX6_digest 2 = .ok (.putfield 59, 3) := by decide +kernel
theorem dX6_digest_5 : decode cX6_digest 5 = .ok (.aload_n 0, 1) := by decide +kernel
theorem dX6_digest_6 : decode cX6_digest 6 = .ok (.invokevirtual 147, 3) := by decide +kernel
theorem dX6_digest_9 : decode cX6_digest 9 = .ok (.ldc2_w 178, 3) := by decide +kernel
theorem dX6_digest_12 : decode cX6_digest 12 = .ok (.aload_n 0, 1) := by decide +kernel
theorem dX6_digest_13 : decode cX6_digest 13 = .ok (.getfield 63, 3) := by decide +kernel
theorem dX6_digest_16 : decode cX6_digest 16 = .ok (.i2l, 1) := by decide +kernel
theorem dX6_digest_17 : decode cX6_digest 17 = .ok (.ladd, 1) := by decide +kernel
theorem dX6_digest_18 : decode cX6_digest 18 = .ok (.lstore_n 1, 1) := by decide +kernel
theorem dX6_digest_19 : decode cX6_digest 19 = .ok (.iconst 0, 1) := by decide +kernel
theorem dX6_digest_20 : decode cX6_digest 20 = .ok (.istore_n 3, 1) := by decide +kernel
theorem dX6_digest_21 : decode cX6_digest 21 = .ok (.iload_n 3, 1) := by decide +kernel
theorem dX6_digest_22 : decode cX6_digest 22 = .ok (.aload_n 0, 1) := by decide +kernel
theorem dX6_digest_23 : decode cX6_digest 23 = .ok (.getfield 63, 3) := by decide +kernel
theorem dX6_digest_26 : decode cX6_digest 26 = .ok (.if_icmp .ge 75, 3) := by decide +kernel
theorem dX6_digest_29 : decode cX6_digest 29 = .ok (.lload_n 1, 1) := by decide +kernel
theorem dX6_digest_30 : decode cX6_digest 30 = .ok (.ldc2_w 180, 3) := by decide +kernel
theorem dX6_digest_33 : decode cX6_digest 33 = .ok (.lmul, 1) := by decide +kernel
theorem dX6_digest_34 : decode cX6_digest 34 = .ok (.aload_n 0, 1) := by decide +kernel
theorem dX6_digest_35 : decode cX6_digest 35 = .ok (.getfield 47, 3) := by decide +kernel
theorem dX6_digest_38 : decode cX6_digest 38 = .ok (.iload_n 3, 1) := by decide +kernel
theorem dX6_digest_39 : decode cX6_digest 39 = .ok (.iaload, 1) := by decide +kernel
theorem dX6_digest_40 : decode cX6_digest 40 = .ok (.i2l, 1) := by decide +kernel
theorem dX6_digest_41 : decode cX6_digest 41 = .ok (.ladd, 1) := by decide +kernel
theorem dX6_digest_42 : decode cX6_digest 42 = .ok (.lstore_n 1, 1) := by decide +kernel
theorem dX6_digest_43 : decode cX6_digest 43 = .ok (.iconst 0, 1) := by decide +kernel
theorem dX6_digest_44 : decode cX6_digest 44 = .ok (.istore 4, 2) := by decide +kernel
theorem dX6_digest_46 : decode cX6_digest 46 = .ok (.iload 4, 2) := by decide +kernel
theorem dX6_digest_48 : decode cX6_digest 48 = .ok (.aload_n 0, 1) := by decide +kernel
theorem dX6_digest_49 : decode cX6_digest 49 = .ok (.getfield 47, 3) := by decide +kernel
theorem dX6_digest_52 : decode cX6_digest 52 = .ok (.iload_n 3, 1) := by decide +kernel
theorem dX6_digest_53 : decode cX6_digest 53 = .ok (.iaload, 1) := by decide +kernel
theorem dX6_digest_54 : decode cX6_digest 54 = .ok (.if_icmp .ge 41, 3) := by decide +kernel
theorem dX6_digest_57 : decode cX6_digest 57 = .ok (.iconst 0, 1) := by decide +kernel
theorem dX6_digest_58 : decode cX6_digest 58 = .ok (.istore 5, 2) := by decide +kernel
theorem dX6_digest_60 : decode cX6_digest 60 = .ok (.iload 5, 2) := by decide +kernel
theorem dX6_digest_62 : decode cX6_digest 62 = .ok (.iconst 3, 1) := by decide +kernel
theorem dX6_digest_63 : decode cX6_digest 63 = .ok (.if_icmp .ge 26, 3) := by decide +kernel
theorem dX6_digest_66 : decode cX6_digest 66 = .ok (.lload_n 1, 1) := by decide +kernel
theorem dX6_digest_67 : decode cX6_digest 67 = .ok (.ldc2_w 180, 3) := by decide +kernel
theorem dX6_digest_70 : decode cX6_digest 70 = .ok (.lmul, 1) := by decide +kernel
theorem dX6_digest_71 : decode cX6_digest 71 = .ok (.aload_n 0, 1) := by decide +kernel
theorem dX6_digest_72 : decode cX6_digest 72 = .ok (.iload_n 3, 1) := by decide +kernel
theorem dX6_digest_73 : decode cX6_digest 73 = .ok (.iload 4, 2) := by decide +kernel
theorem dX6_digest_75 : decode cX6_digest 75 = .ok (.iload 5, 2) := by decide +kernel
theorem dX6_digest_77 : decode cX6_digest 77 = .ok (.invokevirtual 165, 3) := by decide +kernel
theorem dX6_digest_80 : decode cX6_digest 80 = .ok (.i2l, 1) := by decide +kernel
theorem dX6_digest_81 : decode cX6_digest 81 = .ok (.ladd, 1) := by decide +kernel
theorem dX6_digest_82 : decode cX6_digest 82 = .ok (.lstore_n 1, 1) := by decide +kernel
theorem dX6_digest_83 : decode cX6_digest 83 = .ok (.iinc 5 1, 3) := by decide +kernel
theorem dX6_digest_86 : decode cX6_digest 86 = .ok (.goto (-26), 3) := by decide +kernel
theorem dX6_digest_89 : decode cX6_digest 89 = .ok (.iinc 4 1, 3) := by decide +kernel
theorem dX6_digest_92 : decode cX6_digest 92 = .ok (.goto (-46), 3) := by decide +kernel
theorem dX6_digest_95 : decode cX6_digest 95 = .ok (.iinc 3 1, 3) := by decide +kernel
theorem dX6_digest_98 : decode cX6_digest 98 = .ok (.goto (-77), 3) := by decide +kernel
theorem dX6_digest_101 : decode cX6_digest 101 = .ok (.lload_n 1, 1) := by decide +kernel
theorem dX6_digest_102 : decode cX6_digest 102 = .ok (.ldc2_w 180, 3) := by decide +kernel
theorem dX6_digest_105 : decode cX6_digest 105 = .ok (.lmul, 1) := by decide +kernel
theorem dX6_digest_106 : decode cX6_digest 106 = .ok (.aload_n 0, 1) := by decide +kernel
theorem dX6_digest_107 : decode cX6_digest 107 = .ok (.getfield 70, 3) := by decide +kernel
theorem dX6_digest_110 : decode cX6_digest 110 = .ok (.i2l, 1) := by decide +kernel
theorem dX6_digest_111 : decode cX6_digest 111 = .ok (.ladd, 1) := by decide +kernel
theorem dX6_digest_112 : decode cX6_digest 112 = .ok (.lstore_n 1, 1) := by decide +kernel
theorem dX6_digest_113 : decode cX6_digest 113 = .ok (.iconst 0, 1) := by decide +kernel
theorem dX6_digest_114 : decode cX6_digest 114 = .ok (.istore_n 3, 1) := by decide +kernel
theorem dX6_digest_115 : decode cX6_digest 115 = .ok (.iload_n 3, 1) := by decide +kernel
theorem dX6_digest_116 : decode cX6_digest 116 = .ok (.aload_n 0, 1) := by decide +kernel
theorem dX6_digest_117 : decode cX6_digest 117 = .ok (.getfield 70, 3) := by decide +kernel
theorem dX6_digest_120 : decode cX6_digest 120 = .ok (.if_icmp .ge 22, 3) := by decide +kernel
theorem dX6_digest_123 : decode cX6_digest 123 = .ok (.lload_n 1, 1) := by decide +kernel
theorem dX6_digest_124 : decode cX6_digest 124 = .ok (.ldc2_w 180, 3) := by decide +kernel
theorem dX6_digest_127 : decode cX6_digest 127 = .ok (.lmul, 1) := by decide +kernel
theorem dX6_digest_128 : decode cX6_digest 128 = .ok (.aload_n 0, 1) := by decide +kernel
theorem dX6_digest_129 : decode cX6_digest 129 = .ok (.iload_n 3, 1) := by decide +kernel
theorem dX6_digest_130 : decode cX6_digest 130 = .ok (.invokevirtual 175, 3) := by decide +kernel
theorem dX6_digest_133 : decode cX6_digest 133 = .ok (.i2l, 1) := by decide +kernel
theorem dX6_digest_134 : decode cX6_digest 134 = .ok (.ladd, 1) := by decide +kernel
theorem dX6_digest_135 : decode cX6_digest 135 = .ok (.lstore_n 1, 1) := by decide +kernel
theorem dX6_digest_136 : decode cX6_digest 136 = .ok (.iinc 3 1, 3) := by decide +kernel
theorem dX6_digest_139 : decode cX6_digest 139 = .ok (.goto (-24), 3) := by decide +kernel
theorem dX6_digest_142 : decode cX6_digest 142 = .ok (.lload_n 1, 1) := by decide +kernel
theorem dX6_digest_143 : decode cX6_digest 143 = .ok (.ldc2_w 180, 3) := by decide +kernel
theorem dX6_digest_146 : decode cX6_digest 146 = .ok (.lmul, 1) := by decide +kernel
theorem dX6_digest_147 : decode cX6_digest 147 = .ok (.aload_n 0, 1) := by decide +kernel
theorem dX6_digest_148 : decode cX6_digest 148 = .ok (.getfield 81, 3) := by decide +kernel
theorem dX6_digest_151 : decode cX6_digest 151 = .ok (.i2l, 1) := by decide +kernel
theorem dX6_digest_152 : decode cX6_digest 152 = .ok (.ladd, 1) := by decide +kernel
theorem dX6_digest_153 : decode cX6_digest 153 = .ok (.lstore_n 1, 1) := by decide +kernel
theorem dX6_digest_154 : decode cX6_digest 154 = .ok (.iconst 0, 1) := by decide +kernel
theorem dX6_digest_155 : decode cX6_digest 155 = .ok (.istore_n 3, 1) := by decide +kernel
theorem dX6_digest_156 : decode cX6_digest 156 = .ok (.iload_n 3, 1) := by decide +kernel
theorem dX6_digest_157 : decode cX6_digest 157 = .ok (.aload_n 0, 1) := by decide +kernel
theorem dX6_digest_158 : decode cX6_digest 158 = .ok (.getfield 81, 3) := by decide +kernel
theorem dX6_digest_161 : decode cX6_digest 161 = .ok (.if_icmp .ge 69, 3) := by decide +kernel
theorem dX6_digest_164 : decode cX6_digest 164 = .ok (.aload_n 0, 1) := by decide +kernel
theorem dX6_digest_165 : decode cX6_digest 165 = .ok (.getfield 25, 3) := by decide +kernel
theorem dX6_digest_168 : decode cX6_digest 168 = .ok (.iload_n 3, 1) := by decide +kernel
theorem dX6_digest_169 : decode cX6_digest 169 = .ok (.baload, 1) := by decide +kernel
theorem dX6_digest_170 : decode cX6_digest 170 = .ok (.ifCond .eq 6, 3) := by decide +kernel
theorem dX6_digest_173 : decode cX6_digest 173 = .ok (.goto 51, 3) := by decide +kernel
theorem dX6_digest_176 : decode cX6_digest 176 = .ok (.iconst 0, 1) := by decide +kernel
theorem dX6_digest_177 : decode cX6_digest 177 = .ok (.istore 4, 2) := by decide +kernel
theorem dX6_digest_179 : decode cX6_digest 179 = .ok (.iload 4, 2) := by decide +kernel
theorem dX6_digest_181 : decode cX6_digest 181 = .ok (.iconst 5, 1) := by decide +kernel
theorem dX6_digest_182 : decode cX6_digest 182 = .ok (.if_icmp .ge 28, 3) := by decide +kernel
theorem dX6_digest_185 : decode cX6_digest 185 = .ok (.lload_n 1, 1) := by decide +kernel
theorem dX6_digest_186 : decode cX6_digest 186 = .ok (.ldc2_w 180, 3) := by decide +kernel
theorem dX6_digest_189 : decode cX6_digest 189 = .ok (.lmul, 1) := by decide +kernel
theorem dX6_digest_190 : decode cX6_digest 190 = .ok (.aload_n 0, 1) := by decide +kernel
theorem dX6_digest_191 : decode cX6_digest 191 = .ok (.getfield 22, 3) := by decide +kernel
theorem dX6_digest_194 : decode cX6_digest 194 = .ok (.iconst 5, 1) := by decide +kernel
theorem dX6_digest_195 : decode cX6_digest 195 = .ok (.iload_n 3, 1) := by decide +kernel
theorem dX6_digest_196 : decode cX6_digest 196 = .ok (.imul, 1) := by decide +kernel
theorem dX6_digest_197 : decode cX6_digest 197 = .ok (.iload 4, 2) := by decide +kernel
theorem dX6_digest_199 : decode cX6_digest 199 = .ok (.iadd, 1) := by decide +kernel
theorem dX6_digest_200 : decode cX6_digest 200 = .ok (.iaload, 1) := by decide +kernel
theorem dX6_digest_201 : decode cX6_digest 201 = .ok (.i2l, 1) := by decide +kernel
theorem dX6_digest_202 : decode cX6_digest 202 = .ok (.ladd, 1) := by decide +kernel
theorem dX6_digest_203 : decode cX6_digest 203 = .ok (.lstore_n 1, 1) := by decide +kernel
theorem dX6_digest_204 : decode cX6_digest 204 = .ok (.iinc 4 1, 3) := by decide +kernel
theorem dX6_digest_207 : decode cX6_digest 207 = .ok (.goto (-28), 3) := by decide +kernel
theorem dX6_digest_210 : decode cX6_digest 210 = .ok (.lload_n 1, 1) := by decide +kernel
theorem dX6_digest_211 : decode cX6_digest 211 = .ok (.ldc2_w 180, 3) := by decide +kernel
theorem dX6_digest_214 : decode cX6_digest 214 = .ok (.lmul, 1) := by decide +kernel
theorem dX6_digest_215 : decode cX6_digest 215 = .ok (.aload_n 0, 1) := by decide +kernel
theorem dX6_digest_216 : decode cX6_digest 216 = .ok (.getfield 29, 3) := by decide +kernel
theorem dX6_digest_219 : decode cX6_digest 219 = .ok (.iload_n 3, 1) := by decide +kernel
theorem dX6_digest_220 : decode cX6_digest 220 = .ok (.iaload, 1) := by decide +kernel
theorem dX6_digest_221 : decode cX6_digest 221 = .ok (.i2l, 1) := by decide +kernel
theorem dX6_digest_222 : decode cX6_digest 222 = .ok (.ladd, 1) := by decide +kernel
theorem dX6_digest_223 : decode cX6_digest 223 = .ok (.lstore_n 1, 1) := by decide +kernel
theorem dX6_digest_224 : decode cX6_digest 224 = .ok (.iinc 3 1, 3) := by decide +kernel
theorem dX6_digest_227 : decode cX6_digest 227 = .ok (.goto (-71), 3) := by decide +kernel
theorem dX6_digest_230 : decode cX6_digest 230 = .ok (.lload_n 1, 1) := by decide +kernel
theorem dX6_digest_231 : decode cX6_digest 231 = .ok (.ldc2_w 180, 3) := by decide +kernel
theorem dX6_digest_234 : decode cX6_digest 234 = .ok (.lmul, 1) := by decide +kernel
theorem dX6_digest_235 : decode cX6_digest 235 = .ok (.aload_n 0, 1) := by decide +kernel
theorem dX6_digest_236 : decode cX6_digest 236 = .ok (.invokevirtual 161, 3) := by decide +kernel
theorem dX6_digest_239 : decode cX6_digest 239 = .ok (.i2l, 1) := by decide +kernel
theorem dX6_digest_240 : decode cX6_digest 240 = .ok (.ladd, 1) := by decide +kernel
theorem dX6_digest_241 : decode cX6_digest 241 = .ok (.lreturn, 1) := by decide +kernel
