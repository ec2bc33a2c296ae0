theorem dX0_init_0 : decode cX0_init 0 = .ok (.aload_n 0, 1) := by decide +kernel
theorem dX0_init_1 : decode cX0_init 1 = .ok (.invokespecial 1, 3) := by decide +kernel
theorem dX0_init_4 : decode cX0_init 4 = .ok (.aload_n 0, 1) := by decide +kernel
theorem dX0_init_5 : decode cX0_init 5 = .ok (.iconst 0, 1) := by decide +kernel
theorem dX0_init_6 : decode cX0_init 6 = .ok (.putfield 7, 3) := by decide +kernel
theorem dX0_init_9 : decode cX0_init 9 = .ok (.aload_n 0, 1) := by decide +kernel
theorem dX0_init_10 : decode cX0_init 10 = .ok (.iconst 0, 1) := by decide +kernel
theorem dX0_init_11 : decode cX0_init 11 = .ok (.putfield 13, 3) := by decide +kernel
theorem dX0_init_14 : decode cX0_init 14 = .ok (.aload_n 0, 1) := by decide +kernel
theorem dX0_init_15 : decode cX0_init 15 = .ok (.iconst 0, 1) := by decide +kernel
theorem dX0_init_16 : decode cX0_init 16 = .ok (.putfield 17, 3) := by decide +kernel
theorem dX0_init_19 : decode cX0_init 19 = .ok (.aload_n 0, 1) := by decide +kernel
theorem dX0_init_20 : decode cX0_init 20 = .ok (.iconst 0, 1) := by decide +kernel
theorem dX0_init_21 : decode cX0_init 21 = .ok (.putfield 20, 3) := by decide +kernel
theorem dX0_init_24 : decode cX0_init 24 = .ok (.aload_n 0, 1) := by decide +kernel
theorem dX0_init_25 : decode cX0_init 25 = .ok (.iload_n 1, 1) := by decide +kernel
theorem dX0_init_26 : decode cX0_init 26 = .ok (.putfield 23, 3) := by decide +kernel
theorem dX0_init_29 : decode cX0_init 29 = .ok (.aload_n 0, 1) := by decide +kernel
theorem dX0_init_30 : decode cX0_init 30 = .ok (.aload_n 2, 1) := by decide +kernel
theorem dX0_init_31 : decode cX0_init 31 = .ok (.putfield 26, 3) := by decide +kernel
theorem dX0_init_34 : decode cX0_init 34 = .ok (.aload_n 0, 1) := by decide +kernel
theorem dX0_init_35 : decode cX0_init 35 = .ok (.iload_n 3, 1) := by decide +kernel
theorem dX0_init_36 : decode cX0_init 36 = .ok (.putfield 30, 3) := by decide +kernel
theorem dX0_init_39 : decode cX0_init 39 = .ok (.aload_n 0, 1) := by decide +kernel
theorem dX0_init_40 : decode cX0_init 40 = .ok (.iload 4, 2) := by decide +kernel
theorem dX0_init_42 : decode cX0_init 42 = .ok (.putfield 33, 3) := by decide +kernel
theorem dX0_init_45 : decode cX0_init 45 = .ok (.aload_n 0, 1) := by decide +kernel
theorem dX0_init_46 : decode cX0_init 46 = .ok (.iload 5, 2) := by decide +kernel
theorem dX0_init_48 : decode cX0_init 48 = .ok (.putfield 36, 3) := by decide +kernel
theorem dX0_init_51 : decode cX0_init 51 = .ok (.return_, 1) := by decide +kernel
theorem dX1_init_0 : decode cX1_init 0 = .ok (.aload_n 0, 1) := by decide +kernel
theorem dX1_init_1 : decode cX1_init 1 = .ok (.invokespecial 3, 3) := by decide +kernel
theorem dX1_init_4 : decode cX1_init 4 = .ok (.aload_n 0, 1) := by decide +kernel
theorem dX1_init_5 : decode cX1_init 5 = .ok (.iconst 0, 1) := by decide +kernel
theorem dX1_init_6 : decode cX1_init 6 = .ok (.putfield 9, 3) := by decide +kernel
theorem dX1_init_9 : decode cX1_init 9 = .ok (.aload_n 0, 1) := by decide +kernel
theorem dX1_init_10 : decode cX1_init 10 = .ok (.iconst 0, 1) := by decide +kernel
theorem dX1_init_11 : decode cX1_init 11 = .ok (.putfield 15, 3) := by decide +kernel
theorem dX1_init_14 : decode cX1_init 14 = .ok (.aload_n 0, 1) := by decide +kernel
theorem dX1_init_15 : decode cX1_init 15 = .ok (.iconst (-1), 1) := by decide +kernel
theorem dX1_init_16 : decode cX1_init 16 = .ok (.putfield 19, 3) := by decide +kernel
theorem dX1_init_19 : decode cX1_init 19 = .ok (.aload_n 0, 1) := by decide +kernel
theorem dX1_init_20 : decode cX1_init 20 = .ok (.iconst (-1), 1) := by decide +kernel
theorem dX1_init_21 : decode cX1_init 21 = .ok (.putfield 22, 3) := by decide +kernel
theorem dX1_init_24 : decode cX1_init 24 = .ok (.aload_n 0, 1) := by decide +kernel
theorem dX1_init_25 : decode cX1_init 25 = .ok (.iconst (-1), 1) := by decide +kernel
theorem dX1_init_26 : decode cX1_init 26 = .ok (.putfield 25, 3) := by decide +kernel
theorem dX1_init_29 : decode cX1_init 29 = .ok (.aload_n 0, 1) := by decide +kernel
theorem dX1_init_30 : decode cX1_init 30 = .ok (.iconst 0, 1) := by decide +kernel
theorem dX1_init_31 : decode cX1_init 31 = .ok (.putfield 28, 3) := by decide +kernel
theorem dX1_init_34 : decode cX1_init 34 = .ok (.aload_n 0, 1) := by decide +kernel
theorem dX1_init_35 : decode cX1_init 35 = .ok (.iconst 0, 1) := by decide +kernel
theorem dX1_init_36 : decode cX1_init 36 = .ok (.putfield 31, 3) := by decide +kernel
theorem dX1_init_39 : decode cX1_init 39 = .ok (.return_, 1) := by decide +kernel
theorem dX1_allows_0 : decode cX1_allows 0 = .ok (.aload_n 1, 1) := by decide +kernel
theorem dX1_allows_1 : decode cX1_allows 1 = .ok (.getfield 34, 3) := by decide +kernel
theorem dX1_allows_4 : decode cX1_allows 4 = .ok (.ifCond .ne 16, 3) := by decide +kernel
theorem dX1_allows_7 : decode cX1_allows 7 = .ok (.aload_n 0, 1) := by decide +kernel
theorem dX1_allows_8 : decode cX1_allows 8 = .ok (.getfield 9, 3) := by decide +kernel
theorem dX1_allows_11 : decode cX1_allows 11 = .ok (.ifCond .ne 7, 3) := by decide +kernel
theorem dX1_allows_14 : decode cX1_allows 14 = .ok (.iconst 1, 1) := by decide +kernel
theorem dX1_allows_15 : decode cX1_allows 15 = .ok (.goto 4, 3) := by decide +kernel
theorem dX1_allows_18 : decode cX1_allows 18 = .ok (.iconst 0, 1) := by decide +kernel
theorem dX1_allows_19 : decode cX1_allows 19 = .ok (.ireturn, 1) := by decide +kernel
theorem dX1_allows_20 : decode cX1_allows 20 = .ok (.aload_n 0, 1) := by decide +kernel
theorem dX1_allows_21 : decode cX1_allows 21 = .ok (.getfield 9, 3) := by decide +kernel
theorem dX1_allows_24 : decode cX1_allows 24 = .ok (.ifCond .eq 14, 3) := by decide +kernel
theorem dX1_allows_27 : decode cX1_allows 27 = .ok (.aload_n 1, 1) := by decide +kernel
theorem dX1_allows_28 : decode cX1_allows 28 = .ok (.getfield 39, 3) := by decide +kernel
theorem dX1_allows_31 : decode cX1_allows 31 = .ok (.aload_n 0, 1) := by decide +kernel
theorem dX1_allows_32 : decode cX1_allows 32 = .ok (.getfield 31, 3) := by decide +kernel
theorem dX1_allows_35 : decode cX1_allows 35 = .ok (.if_icmp .ge 5, 3) := by decide +kernel
theorem dX1_allows_38 : decode cX1_allows 38 = .ok (.iconst 0, 1) := by decide +kernel
theorem dX1_allows_39 : decode cX1_allows 39 = .ok (.ireturn, 1) := by decide +kernel
theorem dX1_allows_40 : decode cX1_allows 40 = .ok (.aload_n 1, 1) := by decide +kernel
theorem dX1_allows_41 : decode cX1_allows 41 = .ok (.getfield 34, 3) := by decide +kernel
theorem dX1_allows_44 : decode cX1_allows 44 = .ok (.iconst 1, 1) := by decide +kernel
theorem dX1_allows_45 : decode cX1_allows 45 = .ok (.if_icmp .ne 31, 3) := by decide +kernel
theorem dX1_allows_48 : decode cX1_allows 48 = .ok (.aload_n 1, 1) := by decide +kernel
theorem dX1_allows_49 : decode cX1_allows 49 = .ok (.getfield 39, 3) := by decide +kernel
theorem dX1_allows_52 : decode cX1_allows 52 = .ok (.aload_n 0, 1) := by decide +kernel
theorem dX1_allows_53 : decode cX1_allows 53 = .ok (.getfield 25, 3) := by decide +kernel
theorem dX1_allows_56 : decode cX1_allows 56 = .ok (.aload_n 1, 1) := by decide +kernel
theorem dX1_allows_57 : decode cX1_allows 57 = .ok (.getfield 42, 3) := by decide +kernel
theorem dX1_allows_60 : decode cX1_allows 60 = .ok (.invokestatic 45, 3) := by decide +kernel
theorem dX1_allows_63 : decode cX1_allows 63 = .ok (.iadd, 1) := by decide +kernel
theorem dX1_allows_64 : decode cX1_allows 64 = .ok (.sipush 1000, 3) := by decide +kernel
theorem dX1_allows_67 : decode cX1_allows 67 = .ok (.if_icmp .ge 7, 3) := by decide +kernel
theorem dX1_allows_70 : decode cX1_allows 70 = .ok (.iconst 1, 1) := by decide +kernel
theorem dX1_allows_71 : decode cX1_allows 71 = .ok (.goto 4, 3) := by decide +kernel
theorem dX1_allows_74 : decode cX1_allows 74 = .ok (.iconst 0, 1) := by decide +kernel
theorem dX1_allows_75 : decode cX1_allows 75 = .ok (.ireturn, 1) := by decide +kernel
theorem dX1_allows_76 : decode cX1_allows 76 = .ok (.aload_n 1, 1) := by decide +kernel
theorem dX1_allows_77 : decode cX1_allows 77 = .ok (.getfield 34, 3) := by decide +kernel
theorem dX1_allows_80 : decode cX1_allows 80 = .ok (.iconst 3, 1) := by decide +kernel
theorem dX1_allows_81 : decode cX1_allows 81 = .ok (.if_icmp .ne 14, 3) := by decide +kernel
theorem dX1_allows_84 : decode cX1_allows 84 = .ok (.aload_n 1, 1) := by decide +kernel
theorem dX1_allows_85 : decode cX1_allows 85 = .ok (.getfield 39, 3) := by decide +kernel
theorem dX1_allows_88 : decode cX1_allows 88 = .ok (.aload_n 0, 1) := by decide +kernel
theorem dX1_allows_89 : decode cX1_allows 89 = .ok (.getfield 15, 3) := by decide +kernel
theorem dX1_allows_92 : decode cX1_allows 92 = .ok (.if_icmp .le 7, 3) := by decide +kernel
theorem dX1_allows_95 : decode cX1_allows 95 = .ok (.iconst 1, 1) := by decide +kernel
theorem dX1_allows_96 : decode cX1_allows 96 = .ok (.goto 4, 3) := by decide +kernel
theorem dX1_allows_99 : decode cX1_allows 99 = .ok (.iconst 0, 1) := by decide +kernel
theorem dX1_allows_100 : decode cX1_allows 100 = .ok (.ireturn, 1) := by decide +kernel
theorem dX1_follow_0 : decode cX1_follow 0 = .ok (.aload_n 1, 1) := by decide +kernel
theorem dX1_follow_1 : decode cX1_follow 1 = .ok (.getfield 34, 3) := by decide +kernel
theorem dX1_follow_4 : decode cX1_follow 4 = .ok (.tableswitch 98 0 2 #[28, 68, 87], 28) := by decide +kernel
theorem dX1_follow_32 : decode cX1_follow 32 = .ok (.aload_n 0, 1) := by decide +kernel
theorem dX1_follow_33 : decode cX1_follow 33 = .ok (.iconst 1, 1) := by decide +kernel
theorem dX1_follow_34 : decode cX1_follow 34 = .ok (.putfield 9, 3) := by decide +kernel
theorem dX1_follow_37 : decode cX1_follow 37 = .ok (.aload_n 0, 1) := by decide +kernel
theorem dX1_follow_38 : decode cX1_follow 38 = .ok (.aload_n 1, 1) := by decide +kernel
theorem dX1_follow_39 : decode cX1_follow 39 = .ok (.getfield 39, 3) := by decide +kernel
theorem dX1_follow_42 : decode cX1_follow 42 = .ok (.putfield 15, 3) := by decide +kernel
theorem dX1_follow_45 : decode cX1_follow 45 = .ok (.aload_n 0, 1) := by decide +kernel
theorem dX1_follow_46 : decode cX1_follow 46 = .ok (.aload_n 1, 1) := by decide +kernel
theorem dX1_follow_47 : decode cX1_follow 47 = .ok (.getfield 49, 3) := by decide +kernel
theorem dX1_follow_50 : decode cX1_follow 50 = .ok (.putfield 19, 3) := by decide +kernel
theorem dX1_follow_53 : decode cX1_follow 53 = .ok (.aload_n 0, 1) := by decide +kernel
theorem dX1_follow_54 : decode cX1_follow 54 = .ok (.aload_n 1, 1) := by decide +kernel
theorem dX1_follow_55 : decode cX1_follow 55 = .ok (.getfield 42, 3) := by decide +kernel
theorem dX1_follow_58 : decode cX1_follow 58 = .ok (.aload_n 1, 1) := by decide +kernel
theorem dX1_follow_59 : decode cX1_follow 59 = .ok (.getfield 42, 3) := by decide +kernel
theorem dX1_follow_62 : decode cX1_follow 62 = .ok (.aload_n 1, 1) := by decide +kernel
theorem dX1_follow_63 : decode cX1_follow 63 = .ok (.getfield 39, 3) := by decide +kernel
theorem dX1_follow_66 : decode cX1_follow 66 = .ok (.invokevirtual 50, 3) := by decide +kernel
theorem dX1_follow_69 : decode cX1_follow 69 = .ok (.goto 38, 3) := by decide +kernel
theorem dX1_follow_72 : decode cX1_follow 72 = .ok (.aload_n 0, 1) := by decide +kernel
theorem dX1_follow_73 : decode cX1_follow 73 = .ok (.aload_n 0, 1) := by decide +kernel
theorem dX1_follow_74 : decode cX1_follow 74 = .ok (.getfield 25, 3) := by decide +kernel
theorem dX1_follow_77 : decode cX1_follow 77 = .ok (.aload_n 1, 1) := by decide +kernel
theorem dX1_follow_78 : decode cX1_follow 78 = .ok (.getfield 42, 3) := by decide +kernel
theorem dX1_follow_81 : decode cX1_follow 81 = .ok (.aload_n 1, 1) := by decide +kernel
theorem dX1_follow_82 : decode cX1_follow 82 = .ok (.getfield 39, 3) := by decide +kernel
theorem dX1_follow_85 : decode cX1_follow 85 = .ok (.invokevirtual 50, 3) := by decide +kernel
theorem dX1_follow_88 : decode cX1_follow 88 = .ok (.goto 19, 3) := by decide +kernel
theorem dX1_follow_91 : decode cX1_follow 91 = .ok (.aload_n 0, 1) := by decide +kernel
theorem dX1_follow_92 : decode cX1_follow 92 = .ok (.aload_n 1, 1) := by decide +kernel
theorem dX1_follow_93 : decode cX1_follow 93 = .ok (.getfield 49, 3) := by decide +kernel
theorem dX1_follow_96 : decode cX1_follow 96 = .ok (.putfield 19, 3) := by decide +kernel
theorem dX1_follow_99 : decode cX1_follow 99 = .ok (.goto 8, 3) := by decide +kernel
theorem dX1_follow_102 : decode cX1_follow 102 = .ok (.aload_n 0, 1) := by decide +kernel
theorem dX1_follow_103 : decode cX1_follow 103 = .ok (.iconst 0, 1) := by decide +kernel
theorem dX1_follow_104 : decode cX1_follow 104 = .ok (.putfield 9, 3) := by decide +kernel
theorem dX1_follow_107 : decode cX1_follow 107 = .ok (.return_, 1) := by decide +kernel
theorem dX1_walk_0 : decode cX1_walk 0 = .ok (.aload_n 0, 1) := by decide +kernel
theorem dX1_walk_1 : decode cX1_walk 1 = .ok (.iload_n 1, 1) := by decide +kernel
theorem dX1_walk_2 : decode cX1_walk 2 = .ok (.putfield 22, 3) := by decide +kernel
theorem dX1_walk_5 : decode cX1_walk 5 = .ok (.aload_n 0, 1) := by decide +kernel
theorem dX1_walk_6 : decode cX1_walk 6 = .ok (.iload_n 2, 1) := by decide +kernel
theorem dX1_walk_7 : decode cX1_walk 7 = .ok (.putfield 25, 3) := by decide +kernel
theorem dX1_walk_10 : decode cX1_walk 10 = .ok (.aload_n 0, 1) := by decide +kernel
theorem dX1_walk_11 : decode cX1_walk 11 = .ok (.iload_n 3, 1) := by decide +kernel
theorem dX1_walk_12 : decode cX1_walk 12 = .ok (.putfield 28, 3) := by decide +kernel
theorem dX1_walk_15 : decode cX1_walk 15 = .ok (.aload_n 0, 1) := by decide +kernel
theorem dX1_walk_16 : decode cX1_walk 16 = .ok (.iload_n 3, 1) := by decide +kernel
theorem dX1_walk_17 : decode cX1_walk 17 = .ok (.iload_n 1, 1) := by decide +kernel
theorem dX1_walk_18 : decode cX1_walk 18 = .ok (.iload_n 2, 1) := by decide +kernel
theorem dX1_walk_19 : decode cX1_walk 19 = .ok (.invokestatic 45, 3) := by decide +kernel
theorem dX1_walk_22 : decode cX1_walk 22 = .ok (.iadd, 1) := by decide +kernel
theorem dX1_walk_23 : decode cX1_walk 23 = .ok (.putfield 31, 3) := by decide +kernel
theorem dX1_walk_26 : decode cX1_walk 26 = .ok (.return_, 1) := by decide +kernel
theorem dX1_placeAtBeat_0 : decode cX1_placeAtBeat 0 = .ok (.aload_n 0, 1) := by decide +kernel
theorem dX1_placeAtBeat_1 : decode cX1_placeAtBeat 1 = .ok (.getfield 9, 3) := by decide +kernel
theorem dX1_placeAtBeat_4 : decode cX1_placeAtBeat 4 = .ok (.ifCond .ne 5, 3) := by decide +kernel
theorem dX1_placeAtBeat_7 : decode cX1_placeAtBeat 7 = .ok (.iconst (-1), 1) := by decide +kernel
theorem dX1_placeAtBeat_8 : decode cX1_placeAtBeat 8 = .ok (.ireturn, 1) := by decide +kernel
theorem dX1_placeAtBeat_9 : decode cX1_placeAtBeat 9 = .ok (.iload_n 1, 1) := by decide +kernel
theorem dX1_placeAtBeat_10 : decode cX1_placeAtBeat 10 = .ok (.aload_n 0, 1) := by decide +kernel
theorem dX1_placeAtBeat_11 : decode cX1_placeAtBeat 11 = .ok (.getfield 31, 3) := by decide +kernel
theorem dX1_placeAtBeat_14 : decode cX1_placeAtBeat 14 = .ok (.if_icmp .lt 8, 3) := by decide +kernel
theorem dX1_placeAtBeat_17 : decode cX1_placeAtBeat 17 = .ok (.aload_n 0, 1) := by decide +kernel
theorem dX1_placeAtBeat_18 : decode cX1_placeAtBeat 18 = .ok (.getfield 25, 3) := by decide +kernel
theorem dX1_placeAtBeat_21 : decode cX1_placeAtBeat 21 = .ok (.ireturn, 1) := by decide +kernel
theorem dX1_placeAtBeat_22 : decode cX1_placeAtBeat 22 = .ok (.iload_n 1, 1) := by decide +kernel
theorem dX1_placeAtBeat_23 : decode cX1_placeAtBeat 23 = .ok (.aload_n 0, 1) := by decide +kernel
theorem dX1_placeAtBeat_24 : decode cX1_placeAtBeat 24 = .ok (.getfield 28, 3) := by decide +kernel
theorem dX1_placeAtBeat_27 : decode cX1_placeAtBeat 27 = .ok (.isub, 1) := by decide +kernel
theorem dX1_placeAtBeat_28 : decode cX1_placeAtBeat 28 = .ok (.istore_n 2, 1) := by decide +kernel
theorem dX1_placeAtBeat_29 : decode cX1_placeAtBeat 29 = .ok (.aload_n 0, 1) := by decide +kernel
theorem dX1_placeAtBeat_30 : decode cX1_placeAtBeat 30 = .ok (.getfield 22, 3) := by decide +kernel
theorem dX1_placeAtBeat_33 : decode cX1_placeAtBeat 33 = .ok (.aload_n 0, 1) := by decide +kernel
theorem dX1_placeAtBeat_34 : decode cX1_placeAtBeat 34 = .ok (.getfield 25, 3) := by decide +kernel
theorem dX1_placeAtBeat_37 : decode cX1_placeAtBeat 37 = .ok (.if_icmp .ge 12, 3) := by decide +kernel
theorem dX1_placeAtBeat_40 : decode cX1_placeAtBeat 40 = .ok (.aload_n 0, 1) := by decide +kernel
theorem dX1_placeAtBeat_41 : decode cX1_placeAtBeat 41 = .ok (.getfield 22, 3) := by decide +kernel
theorem dX1_placeAtBeat_44 : decode cX1_placeAtBeat 44 = .ok (.iload_n 2, 1) := by decide +kernel
theorem dX1_placeAtBeat_45 : decode cX1_placeAtBeat 45 = .ok (.iadd, 1) := by decide +kernel
theorem dX1_placeAtBeat_46 : decode cX1_placeAtBeat 46 = .ok (.goto 9, 3) := by decide +kernel
theorem dX1_placeAtBeat_49 : decode cX1_placeAtBeat 49 = .ok (.aload_n 0, 1) := by decide +kernel
theorem dX1_placeAtBeat_50 : decode cX1_placeAtBeat 50 = .ok (.getfield 22, 3) := by decide +kernel
theorem dX1_placeAtBeat_53 : decode cX1_placeAtBeat 53 = .ok (.iload_n 2, 1) := by decide +kernel
theorem dX1_placeAtBeat_54 : decode cX1_placeAtBeat 54 = .ok (.isub, 1) := by decide +kernel
theorem dX1_placeAtBeat_55 : decode cX1_placeAtBeat 55 = .ok (.ireturn, 1) := by decide +kernel
theorem dX1_trackNow_0 : decode cX1_trackNow 0 = .ok (.aload_n 0, 1) := by decide +kernel
theorem dX1_trackNow_1 : decode cX1_trackNow 1 = .ok (.getfield 9, 3) := by decide +kernel
theorem dX1_trackNow_4 : decode cX1_trackNow 4 = .ok (.ifCond .eq 10, 3) := by decide +kernel
theorem dX1_trackNow_7 : decode cX1_trackNow 7 = .ok (.aload_n 0, 1) := by decide +kernel
theorem dX1_trackNow_8 : decode cX1_trackNow 8 = .ok (.getfield 19, 3) := by decide +kernel
theorem dX1_trackNow_11 : decode cX1_trackNow 11 = .ok (.goto 4, 3) := by decide +kernel
theorem dX1_trackNow_14 : decode cX1_trackNow 14 = .ok (.iconst (-1), 1) := by decide +kernel
theorem dX1_trackNow_15 : decode cX1_trackNow 15 = .ok (.ireturn, 1) := by decide +kernel
theorem dX2_init_0 : decode cX2_init 0 = .ok (.aload_n 0, 1) := by decide +kernel
theorem dX2_init_1 : decode cX2_init 1 = .ok (.invokespecial 3, 3) := by decide +kernel
theorem dX2_init_4 : decode cX2_init 4 = .ok (.aload_n 0, 1) := by decide +kernel
theorem dX2_init_5 : decode cX2_init 5 = .ok (.sipush 1000, 3) := by decide +kernel
theorem dX2_init_8 : decode cX2_init 8 = .ok (.newarray .int, 2) := by decide +kernel
theorem dX2_init_10 : decode cX2_init 10 = .ok (.putfield 9, 3) := by decide +kernel
theorem dX2_init_13 : decode cX2_init 13 = .ok (.aload_n 0, 1) := by decide +kernel
theorem dX2_init_14 : decode cX2_init 14 = .ok (.iload_n 1, 1) := by decide +kernel
theorem dX2_init_15 : decode cX2_init 15 = .ok (.putfield 15, 3) := by decide +kernel
theorem dX2_init_18 : decode cX2_init 18 = .ok (.aload_n 0, 1) := by decide +kernel
theorem dX2_init_19 : decode cX2_init 19 = .ok (.iload_n 2, 1) := by decide +kernel
theorem dX2_init_20 : decode cX2_init 20 = .ok (.putfield 19, 3) := by decide +kernel
theorem dX2_init_23 : decode cX2_init 23 = .ok (.return_, 1) := by decide +kernel
theorem dX2_holds_0 : decode cX2_holds 0 = .ok (.aload_n 0, 1) := by decide +kernel
theorem dX2_holds_1 : decode cX2_holds 1 = .ok (.getfield 9, 3) := by decide +kernel
theorem dX2_holds_4 : decode cX2_holds 4 = .ok (.iload_n 2, 1) := by decide +kernel
theorem dX2_holds_5 : decode cX2_holds 5 = .ok (.iaload, 1) := by decide +kernel
theorem dX2_holds_6 : decode cX2_holds 6 = .ok (.aload_n 1, 1) := by decide +kernel
theorem dX2_holds_7 : decode cX2_holds 7 = .ok (.getfield 22, 3) := by decide +kernel
theorem dX2_holds_10 : decode cX2_holds 10 = .ok (.iand, 1) := by decide +kernel
theorem dX2_holds_11 : decode cX2_holds 11 = .ok (.ifCond .eq 7, 3) := by decide +kernel
theorem dX2_holds_14 : decode cX2_holds 14 = .ok (.iconst 1, 1) := by decide +kernel
theorem dX2_holds_15 : decode cX2_holds 15 = .ok (.goto 4, 3) := by decide +kernel
theorem dX2_holds_18 : decode cX2_holds 18 = .ok (.iconst 0, 1) := by decide +kernel
theorem dX2_holds_19 : decode cX2_holds 19 = .ok (.ireturn, 1) := by decide +kernel
theorem dX2_putDownAll_0 : decode cX2_putDownAll 0 = .ok (.aload_n 0, 1) := by decide +kernel
theorem dX2_putDownAll_1 : decode cX2_putDownAll 1 = .ok (.getfield 9, 3) := by decide +kernel
theorem dX2_putDownAll_4 : decode cX2_putDownAll 4 = .ok (.iconst 0, 1) := by decide +kernel
theorem dX2_putDownAll_5 : decode cX2_putDownAll 5 = .ok (.invokestatic 27, 3) := by decide +kernel
theorem dX2_putDownAll_8 : decode cX2_putDownAll 8 = .ok (.return_, 1) := by decide +kernel
theorem dX2_take_0 : decode cX2_take 0 = .ok (.aload_n 1, 1) := by decide +kernel
theorem dX2_take_1 : decode cX2_take 1 = .ok (.getfield 33, 3) := by decide +kernel
theorem dX2_take_4 : decode cX2_take 4 = .ok (.istore_n 2, 1) := by decide +kernel
theorem dX2_take_5 : decode cX2_take 5 = .ok (.iload_n 2, 1) := by decide +kernel
theorem dX2_take_6 : decode cX2_take 6 = .ok (.aload_n 1, 1) := by decide +kernel
theorem dX2_take_7 : decode cX2_take 7 = .ok (.getfield 38, 3) := by decide +kernel
theorem dX2_take_10 : decode cX2_take 10 = .ok (.if_icmp .ge 25, 3) := by decide +kernel
theorem dX2_take_13 : decode cX2_take 13 = .ok (.aload_n 0, 1) := by decide +kernel
theorem dX2_take_14 : decode cX2_take 14 = .ok (.getfield 9, 3) := by decide +kernel
theorem dX2_take_17 : decode cX2_take 17 = .ok (.iload_n 2, 1) := by decide +kernel
theorem dX2_take_18 : decode cX2_take 18 = .ok (.dup2, 1) := by decide +kernel
theorem dX2_take_19 : decode cX2_take 19 = .ok (.iaload, 1) := by decide +kernel
theorem dX2_take_20 : decode cX2_take 20 = .ok (.aload_n 1, 1) := by decide +kernel
theorem dX2_take_21 : decode cX2_take 21 = .ok (.getfield 41, 3) := by decide +kernel
theorem dX2_take_24 : decode cX2_take 24 = .ok (.getfield 22, 3) := by decide +kernel
theorem dX2_take_27 : decode cX2_take 27 = .ok (.ior, 1) := by decide +kernel
theorem dX2_take_28 : decode cX2_take 28 = .ok (.iastore, 1) := by decide +kernel
theorem dX2_take_29 : decode cX2_take 29 = .ok (.iinc 2 1, 3) := by decide +kernel
theorem dX2_take_32 : decode cX2_take 32 = .ok (.goto (-27), 3) := by decide +kernel
theorem dX2_take_35 : decode cX2_take 35 = .ok (.return_, 1) := by decide +kernel
theorem dX2_busyBeats_0 : decode cX2_busyBeats 0 = .ok (.iconst 0, 1) := by decide +kernel
theorem dX2_busyBeats_1 : decode cX2_busyBeats 1 = .ok (.istore_n 1, 1) := by decide +kernel
theorem dX2_busyBeats_2 : decode cX2_busyBeats 2 = .ok (.iconst 0, 1) := by decide +kernel
theorem dX2_busyBeats_3 : decode cX2_busyBeats 3 = .ok (.istore_n 2, 1) := by decide +kernel
theorem dX2_busyBeats_4 : decode cX2_busyBeats 4 = .ok (.iload_n 2, 1) := by decide +kernel
theorem dX2_busyBeats_5 : decode cX2_busyBeats 5 = .ok (.sipush 1000, 3) := by decide +kernel
theorem dX2_busyBeats_8 : decode cX2_busyBeats 8 = .ok (.if_icmp .ge 21, 3) := by decide +kernel
theorem dX2_busyBeats_11 : decode cX2_busyBeats 11 = .ok (.aload_n 0, 1) := by decide +kernel
theorem dX2_busyBeats_12 : decode cX2_busyBeats 12 = .ok (.getfield 9, 3) := by decide +kernel
theorem dX2_busyBeats_15 : decode cX2_busyBeats 15 = .ok (.iload_n 2, 1) := by decide +kernel
theorem dX2_busyBeats_16 : decode cX2_busyBeats 16 = .ok (.iaload, 1) := by decide +kernel
theorem dX2_busyBeats_17 : decode cX2_busyBeats 17 = .ok (.ifCond .eq 6, 3) := by decide +kernel
theorem dX2_busyBeats_20 : decode cX2_busyBeats 20 = .ok (.iinc 1 1, 3) := by decide +kernel
theorem dX2_busyBeats_23 : decode cX2_busyBeats 23 = .ok (.iinc 2 1, 3) := by decide +kernel
theorem dX2_busyBeats_26 : decode cX2_busyBeats 26 = .ok (.goto (-22), 3) := by decide +kernel
theorem dX2_busyBeats_29 : decode cX2_busyBeats 29 = .ok (.iload_n 1, 1) := by decide +kernel
theorem dX2_busyBeats_30 : decode cX2_busyBeats 30 = .ok (.ireturn, 1) := by decide +kernel
theorem dX3_init_0 : decode cX3_init 0 = .ok (.aload_n 0, 1) := by decide +kernel
theorem dX3_init_1 : decode cX3_init 1 = .ok (.invokespecial 3, 3) := by decide +kernel
theorem dX3_init_4 : decode cX3_init 4 = .ok (.aload_n 0, 1) := by decide +kernel
theorem dX3_init_5 : decode cX3_init 5 = .ok (.new 9, 3) := by decide +kernel
theorem dX3_init_8 : decode cX3_init 8 = .ok (.dup, 1) := by decide +kernel
theorem dX3_init_9 : decode cX3_init 9 = .ok (.invokespecial 11, 3) := by decide +kernel
theorem dX3_init_12 : decode cX3_init 12 = .ok (.putfield 12, 3) := by decide +kernel
theorem dX3_init_15 : decode cX3_init 15 = .ok (.aload_n 0, 1) := by decide +kernel
theorem dX3_init_16 : decode cX3_init 16 = .ok (.new 9, 3) := by decide +kernel
theorem dX3_init_19 : decode cX3_init 19 = .ok (.dup, 1) := by decide +kernel
theorem dX3_init_20 : decode cX3_init 20 = .ok (.invokespecial 11, 3) := by decide +kernel
theorem dX3_init_23 : decode cX3_init 23 = .ok (.putfield 18, 3) := by decide +kernel
theorem dX3_init_26 : decode cX3_init 26 = .ok (.aload_n 0, 1) := by decide +kernel
theorem dX3_init_27 : decode cX3_init 27 = .ok (.sipush 1000, 3) := by decide +kernel
theorem dX3_init_30 : decode cX3_init 30 = .ok (.newarray .int, 2) := by decide +kernel
theorem dX3_init_32 : decode cX3_init 32 = .ok (.putfield 21, 3) := by decide +kernel
theorem dX3_init_35 : decode cX3_init 35 = .ok (.aload_n 0, 1) := by decide +kernel
theorem dX3_init_36 : decode cX3_init 36 = .ok (.sipush 1000, 3) := by decide +kernel
theorem dX3_init_39 : decode cX3_init 39 = .ok (.newarray .int, 2) := by decide +kernel
theorem dX3_init_41 : decode cX3_init 41 = .ok (.putfield 25, 3) := by decide +kernel
theorem dX3_init_44 : decode cX3_init 44 = .ok (.aload_n 0, 1) := by decide +kernel
theorem dX3_init_45 : decode cX3_init 45 = .ok (.iload_n 1, 1) := by decide +kernel
theorem dX3_init_46 : decode cX3_init 46 = .ok (.putfield 28, 3) := by decide +kernel
theorem dX3_init_49 : decode cX3_init 49 = .ok (.aload_n 0, 1) := by decide +kernel
theorem dX3_init_50 : decode cX3_init 50 = .ok (.iconst 1, 1) := by decide +kernel
theorem dX3_init_51 : decode cX3_init 51 = .ok (.iload_n 1, 1) := by decide +kernel
theorem dX3_init_52 : decode cX3_init 52 = .ok (.ishl, 1) := by decide +kernel
theorem dX3_init_53 : decode cX3_init 53 = .ok (.putfield 32, 3) := by decide +kernel
theorem dX3_init_56 : decode cX3_init 56 = .ok (.aload_n 0, 1) := by decide +kernel
theorem dX3_init_57 : decode cX3_init 57 = .ok (.iload_n 2, 1) := by decide +kernel
theorem dX3_init_58 : decode cX3_init 58 = .ok (.putfield 35, 3) := by decide +kernel
theorem dX3_init_61 : decode cX3_init 61 = .ok (.aload_n 0, 1) := by decide +kernel
theorem dX3_init_62 : decode cX3_init 62 = .ok (.iload_n 3, 1) := by decide +kernel
theorem dX3_init_63 : decode cX3_init 63 = .ok (.putfield 38, 3) := by decide +kernel
theorem dX3_init_66 : decode cX3_init 66 = .ok (.aload_n 0, 1) := by decide +kernel
theorem dX3_init_67 : decode cX3_init 67 = .ok (.getfield 21, 3) := by decide +kernel
theorem dX3_init_70 : decode cX3_init 70 = .ok (.iconst (-1), 1) := by decide +kernel
theorem dX3_init_71 : decode cX3_init 71 = .ok (.invokestatic 41, 3) := by decide +kernel
theorem dX3_init_74 : decode cX3_init 74 = .ok (.aload_n 0, 1) := by decide +kernel
theorem dX3_init_75 : decode cX3_init 75 = .ok (.getfield 25, 3) := by decide +kernel
theorem dX3_init_78 : decode cX3_init 78 = .ok (.iconst (-1), 1) := by decide +kernel
theorem dX3_init_79 : decode cX3_init 79 = .ok (.invokestatic 41, 3) := by decide +kernel
theorem dX3_init_82 : decode cX3_init 82 = .ok (.return_, 1) := by decide +kernel
theorem dX3_takesIn_0 : decode cX3_takesIn 0 = .ok (.aload_n 0, 1) := by decide +kernel
theorem dX3_takesIn_1 : decode cX3_takesIn 1 = .ok (.getfield 12, 3) := by decide +kernel
theorem dX3_takesIn_4 : decode cX3_takesIn 4 = .ok (.invokevirtual 47, 3) := by decide +kernel
theorem dX3_takesIn_7 : decode cX3_takesIn 7 = .ok (.istore_n 2, 1) := by decide +kernel
theorem dX3_takesIn_8 : decode cX3_takesIn 8 = .ok (.iload_n 2, 1) := by decide +kernel
theorem dX3_takesIn_9 : decode cX3_takesIn 9 = .ok (.ifCond .le 32, 3) := by decide +kernel
theorem dX3_takesIn_12 : decode cX3_takesIn 12 = .ok (.aload_n 0, 1) := by decide +kernel
theorem dX3_takesIn_13 : decode cX3_takesIn 13 = .ok (.getfield 12, 3) := by decide +kernel
theorem dX3_takesIn_16 : decode cX3_takesIn 16 = .ok (.iload_n 2, 1) := by decide +kernel
theorem dX3_takesIn_17 : decode cX3_takesIn 17 = .ok (.iconst 1, 1) := by decide +kernel
theorem dX3_takesIn_18 : decode cX3_takesIn 18 = .ok (.isub, 1) := by decide +kernel
theorem dX3_takesIn_19 : decode cX3_takesIn 19 = .ok (.invokevirtual 51, 3) := by decide +kernel
theorem dX3_takesIn_22 : decode cX3_takesIn 22 = .ok (.checkcast 55, 3) := by decide +kernel
theorem dX3_takesIn_25 : decode cX3_takesIn 25 = .ok (.getfield 57, 3) := by decide +kernel
theorem dX3_takesIn_28 : decode cX3_takesIn 28 = .ok (.aload_n 1, 1) := by decide +kernel
theorem dX3_takesIn_29 : decode cX3_takesIn 29 = .ok (.getfield 57, 3) := by decide +kernel
theorem dX3_takesIn_32 : decode cX3_takesIn 32 = .ok (.if_icmp .le 9, 3) := by decide +kernel
theorem dX3_takesIn_35 : decode cX3_takesIn 35 = .ok (.iinc 2 (-1), 3) := by decide +kernel
theorem dX3_takesIn_38 : decode cX3_takesIn 38 = .ok (.goto (-30), 3) := by decide +kernel
theorem dX3_takesIn_41 : decode cX3_takesIn 41 = .ok (.aload_n 0, 1) := by decide +kernel
theorem dX3_takesIn_42 : decode cX3_takesIn 42 = .ok (.getfield 12, 3) := by decide +kernel
theorem dX3_takesIn_45 : decode cX3_takesIn 45 = .ok (.iload_n 2, 1) := by decide +kernel
theorem dX3_takesIn_46 : decode cX3_takesIn 46 = .ok (.aload_n 1, 1) := by decide +kernel
theorem dX3_takesIn_47 : decode cX3_takesIn 47 = .ok (.invokevirtual 60, 3) := by decide +kernel
theorem dX3_takesIn_50 : decode cX3_takesIn 50 = .ok (.aload_n 0, 1) := by decide +kernel
theorem dX3_takesIn_51 : decode cX3_takesIn 51 = .ok (.invokevirtual 64, 3) := by decide +kernel
theorem dX3_takesIn_54 : decode cX3_takesIn 54 = .ok (.ifCond .ne 14, 3) := by decide +kernel
theorem dX3_takesIn_57 : decode cX3_takesIn 57 = .ok (.aload_n 0, 1) := by decide +kernel
theorem dX3_takesIn_58 : decode cX3_takesIn 58 = .ok (.getfield 12, 3) := by decide +kernel
theorem dX3_takesIn_61 : decode cX3_takesIn 61 = .ok (.iload_n 2, 1) := by decide +kernel
theorem dX3_takesIn_62 : decode cX3_takesIn 62 = .ok (.invokevirtual 68, 3) := by decide +kernel
theorem dX3_takesIn_65 : decode cX3_takesIn 65 = .ok (.pop, 1) := by decide +kernel
theorem dX3_takesIn_66 : decode cX3_takesIn 66 = .ok (.iconst 0, 1) := by decide +kernel
theorem dX3_takesIn_67 : decode cX3_takesIn 67 = .ok (.ireturn, 1) := by decide +kernel
theorem dX3_takesIn_68 : decode cX3_takesIn 68 = .ok (.aload_n 0, 1) := by decide +kernel
theorem dX3_takesIn_69 : decode cX3_takesIn 69 = .ok (.invokevirtual 71, 3) := by decide +kernel
theorem dX3_takesIn_72 : decode cX3_takesIn 72 = .ok (.iconst 1, 1) := by decide +kernel
theorem dX3_takesIn_73 : decode cX3_takesIn 73 = .ok (.ireturn, 1) := by decide +kernel
theorem dX3_isScriptRight_0 : decode cX3_isScriptRight 0 = .ok (.new 74, 3) := by decide +kernel
theorem dX3_isScriptRight_3 : decode cX3_isScriptRight 3 = .ok (.dup, 1) := by decide +kernel
theorem dX3_isScriptRight_4 : decode cX3_isScriptRight 4 = .ok (.invokespecial 76, 3) := by decide +kernel
theorem dX3_isScriptRight_7 : decode cX3_isScriptRight 7 = .ok (.astore_n 1, 1) := by decide +kernel
theorem dX3_isScriptRight_8 : decode cX3_isScriptRight 8 = .ok (.iconst 0, 1) := by decide +kernel
theorem dX3_isScriptRight_9 : decode cX3_isScriptRight 9 = .ok (.istore_n 2, 1) := by decide +kernel
theorem dX3_isScriptRight_10 : decode cX3_isScriptRight 10 = .ok (.iload_n 2, 1) := by decide +kernel
theorem dX3_isScriptRight_11 : decode cX3_isScriptRight 11 = .ok (.aload_n 0, 1) := by decide +kernel
theorem dX3_isScriptRight_12 : decode cX3_isScriptRight 12 = .ok (.getfield 12, 3) := by decide +kernel
theorem dX3_isScriptRight_15 : decode cX3_isScriptRight 15 = .ok (.invokevirtual 47, 3) := by decide +kernel
theorem dX3_isScriptRight_18 : decode cX3_isScriptRight 18 = .ok (.if_icmp .ge 36, 3) := by decide +kernel
theorem dX3_isScriptRight_21 : decode cX3_isScriptRight 21 = .ok (.aload_n 0, 1) := by decide +kernel
theorem dX3_isScriptRight_22 : decode cX3_isScriptRight 22 = .ok (.getfield 12, 3) := by decide +kernel
theorem dX3_isScriptRight_25 : decode cX3_isScriptRight 25 = .ok (.iload_n 2, 1) := by decide +kernel
theorem dX3_isScriptRight_26 : decode cX3_isScriptRight 26 = .ok (.invokevirtual 51, 3) := by decide +kernel
theorem dX3_isScriptRight_29 : decode cX3_isScriptRight 29 = .ok (.checkcast 55, 3) := by decide +kernel
theorem dX3_isScriptRight_32 : decode cX3_isScriptRight 32 = .ok (.astore_n 3, 1) := by decide +kernel
theorem dX3_isScriptRight_33 : decode cX3_isScriptRight 33 = .ok (.aload_n 1, 1) := by decide +kernel
theorem dX3_isScriptRight_34 : decode cX3_isScriptRight 34 = .ok (.aload_n 3, 1) := by decide +kernel
theorem dX3_isScriptRight_35 : decode cX3_isScriptRight 35 = .ok (.invokevirtual 77, 3) := by decide +kernel
theorem dX3_isScriptRight_38 : decode cX3_isScriptRight 38 = .ok (.ifCond .ne 5, 3) := by decide +kernel
theorem dX3_isScriptRight_41 : decode cX3_isScriptRight 41 = .ok (.iconst 0, 1) := by decide +kernel
theorem dX3_isScriptRight_42 : decode cX3_isScriptRight 42 = .ok (.ireturn, 1) := by decide +kernel
theorem dX3_isScriptRight_43 : decode cX3_isScriptRight 43 = .ok (.aload_n 1, 1) := by decide +kernel
theorem dX3_isScriptRight_44 : decode cX3_isScriptRight 44 = .ok (.aload_n 3, 1) := by decide +kernel
theorem dX3_isScriptRight_45 : decode cX3_isScriptRight 45 = .ok (.invokevirtual 81, 3) := by decide +kernel
theorem dX3_isScriptRight_48 : decode cX3_isScriptRight 48 = .ok (.iinc 2 1, 3) := by decide +kernel
theorem dX3_isScriptRight_51 : decode cX3_isScriptRight 51 = .ok (.goto (-41), 3) := by decide +kernel
theorem dX3_isScriptRight_54 : decode cX3_isScriptRight 54 = .ok (.iconst 1, 1) := by decide +kernel
theorem dX3_isScriptRight_55 : decode cX3_isScriptRight 55 = .ok (.ireturn, 1) := by decide +kernel
theorem dX3_playScript_0 : decode cX3_playScript 0 = .ok (.aload_n 0, 1) := by decide +kernel
theorem dX3_playScript_1 : decode cX3_playScript 1 = .ok (.getfield 18, 3) := by decide +kernel
theorem dX3_playScript_4 : decode cX3_playScript 4 = .ok (.invokevirtual 85, 3) := by decide +kernel
theorem dX3_playScript_7 : decode cX3_playScript 7 = .ok (.new 74, 3) := by decide +kernel
theorem dX3_playScript_10 : decode cX3_playScript 10 = .ok (.dup, 1) := by decide +kernel
theorem dX3_playScript_11 : decode cX3_playScript 11 = .ok (.invokespecial 76, 3) := by decide +kernel
theorem dX3_playScript_14 : decode cX3_playScript 14 = .ok (.astore_n 1, 1) := by decide +kernel
theorem dX3_playScript_15 : decode cX3_playScript 15 = .ok (.iconst 0, 1) := by decide +kernel
theorem dX3_playScript_16 : decode cX3_playScript 16 = .ok (.istore_n 2, 1) := by decide +kernel
theorem dX3_playScript_17 : decode cX3_playScript 17 = .ok (.iconst 0, 1) := by decide +kernel
theorem dX3_playScript_18 : decode cX3_playScript 18 = .ok (.istore_n 3, 1) := by decide +kernel
theorem dX3_playScript_19 : decode cX3_playScript 19 = .ok (.iload_n 3, 1) := by decide +kernel
theorem dX3_playScript_20 : decode cX3_playScript 20 = .ok (.aload_n 0, 1) := by decide +kernel
theorem dX3_playScript_21 : decode cX3_playScript 21 = .ok (.getfield 12, 3) := by decide +kernel
theorem dX3_playScript_24 : decode cX3_playScript 24 = .ok (.invokevirtual 47, 3) := by decide +kernel
theorem dX3_playScript_27 : decode cX3_playScript 27 = .ok (.if_icmp .ge 51, 3) := by decide +kernel
theorem dX3_playScript_30 : decode cX3_playScript 30 = .ok (.aload_n 0, 1) := by decide +kernel
theorem dX3_playScript_31 : decode cX3_playScript 31 = .ok (.getfield 12, 3) := by decide +kernel
theorem dX3_playScript_34 : decode cX3_playScript 34 = .ok (.iload_n 3, 1) := by decide +kernel
theorem dX3_playScript_35 : decode cX3_playScript 35 = .ok (.invokevirtual 51, 3) := by decide +kernel
theorem dX3_playScript_38 : decode cX3_playScript 38 = .ok (.checkcast 55, 3) := by decide +kernel
theorem dX3_playScript_41 : decode cX3_playScript 41 = .ok (.astore 4, 2) := by decide +kernel
theorem dX3_playScript_43 : decode cX3_playScript 43 = .ok (.aload_n 0, 1) := by decide +kernel
theorem dX3_playScript_44 : decode cX3_playScript 44 = .ok (.aload_n 1, 1) := by decide +kernel
theorem dX3_playScript_45 : decode cX3_playScript 45 = .ok (.iload_n 2, 1) := by decide +kernel
theorem dX3_playScript_46 : decode cX3_playScript 46 = .ok (.aload 4, 2) := by decide +kernel
theorem dX3_playScript_48 : decode cX3_playScript 48 = .ok (.getfield 57, 3) := by decide +kernel
theorem dX3_playScript_51 : decode cX3_playScript 51 = .ok (.invokevirtual 88, 3) := by decide +kernel
theorem dX3_playScript_54 : decode cX3_playScript 54 = .ok (.aload 4, 2) := by decide +kernel
theorem dX3_playScript_56 : decode cX3_playScript 56 = .ok (.getfield 57, 3) := by decide +kernel
theorem dX3_playScript_59 : decode cX3_playScript 59 = .ok (.istore_n 2, 1) := by decide +kernel
theorem dX3_playScript_60 : decode cX3_playScript 60 = .ok (.aload_n 1, 1) := by decide +kernel
theorem dX3_playScript_61 : decode cX3_playScript 61 = .ok (.aload 4, 2) := by decide +kernel
theorem dX3_playScript_63 : decode cX3_playScript 63 = .ok (.invokevirtual 81, 3) := by decide +kernel
theorem dX3_playScript_66 : decode cX3_playScript 66 = .ok (.aload_n 0, 1) := by decide +kernel
theorem dX3_playScript_67 : decode cX3_playScript 67 = .ok (.aload 4, 2) := by decide +kernel
theorem dX3_playScript_69 : decode cX3_playScript 69 = .ok (.invokevirtual 92, 3) := by decide +kernel
theorem dX3_playScript_72 : decode cX3_playScript 72 = .ok (.iinc 3 1, 3) := by decide +kernel
theorem dX3_playScript_75 : decode cX3_playScript 75 = .ok (.goto (-56), 3) := by decide +kernel
theorem dX3_playScript_78 : decode cX3_playScript 78 = .ok (.aload_n 0, 1) := by decide +kernel
theorem dX3_playScript_79 : decode cX3_playScript 79 = .ok (.aload_n 1, 1) := by decide +kernel
theorem dX3_playScript_80 : decode cX3_playScript 80 = .ok (.iload_n 2, 1) := by decide +kernel
theorem dX3_playScript_81 : decode cX3_playScript 81 = .ok (.sipush 1000, 3) := by decide +kernel
theorem dX3_playScript_84 : decode cX3_playScript 84 = .ok (.invokevirtual 88, 3) := by decide +kernel
theorem dX3_playScript_87 : decode cX3_playScript 87 = .ok (.return_, 1) := by decide +kernel
theorem dX3_playBeats_0 : decode cX3_playBeats 0 = .ok (.iload_n 2, 1) := by decide +kernel
theorem dX3_playBeats_1 : decode cX3_playBeats 1 = .ok (.istore 4, 2) := by decide +kernel
theorem dX3_playBeats_3 : decode cX3_playBeats 3 = .ok (.iload 4, 2) := by decide +kernel
theorem dX3_playBeats_5 : decode cX3_playBeats 5 = .ok (.iload_n 3, 1) := by decide +kernel
theorem dX3_playBeats_6 : decode cX3_playBeats 6 = .ok (.if_icmp .ge 33, 3) := by decide +kernel
theorem dX3_playBeats_9 : decode cX3_playBeats 9 = .ok (.aload_n 0, 1) := by decide +kernel
theorem dX3_playBeats_10 : decode cX3_playBeats 10 = .ok (.getfield 21, 3) := by decide +kernel
theorem dX3_playBeats_13 : decode cX3_playBeats 13 = .ok (.iload 4, 2) := by decide +kernel
theorem dX3_playBeats_15 : decode cX3_playBeats 15 = .ok (.aload_n 1, 1) := by decide +kernel
theorem dX3_playBeats_16 : decode cX3_playBeats 16 = .ok (.iload 4, 2) := by decide +kernel
theorem dX3_playBeats_18 : decode cX3_playBeats 18 = .ok (.invokevirtual 95, 3) := by decide +kernel
theorem dX3_playBeats_21 : decode cX3_playBeats 21 = .ok (.iastore, 1) := by decide +kernel
theorem dX3_playBeats_22 : decode cX3_playBeats 22 = .ok (.aload_n 0, 1) := by decide +kernel
theorem dX3_playBeats_23 : decode cX3_playBeats 23 = .ok (.getfield 25, 3) := by decide +kernel
theorem dX3_playBeats_26 : decode cX3_playBeats 26 = .ok (.iload 4, 2) := by decide +kernel
theorem dX3_playBeats_28 : decode cX3_playBeats 28 = .ok (.aload_n 1, 1) := by decide +kernel
theorem dX3_playBeats_29 : decode cX3_playBeats 29 = .ok (.invokevirtual 99, 3) := by decide +kernel
theorem dX3_playBeats_32 : decode cX3_playBeats 32 = .ok (.iastore, 1) := by decide +kernel
theorem dX3_playBeats_33 : decode cX3_playBeats 33 = .ok (.iinc 4 1, 3) := by decide +kernel
theorem dX3_playBeats_36 : decode cX3_playBeats 36 = .ok (.goto (-33), 3) := by decide +kernel
theorem dX3_playBeats_39 : decode cX3_playBeats 39 = .ok (.return_, 1) := by decide +kernel
theorem dX3_recordStay_0 : decode cX3_recordStay 0 = .ok (.aload_n 1, 1) := by decide +kernel
theorem dX3_recordStay_1 : decode cX3_recordStay 1 = .ok (.getfield 102, 3) := by decide +kernel
theorem dX3_recordStay_4 : decode cX3_recordStay 4 = .ok (.ifCond .ne 26, 3) := by decide +kernel
theorem dX3_recordStay_7 : decode cX3_recordStay 7 = .ok (.aload_n 0, 1) := by decide +kernel
theorem dX3_recordStay_8 : decode cX3_recordStay 8 = .ok (.getfield 18, 3) := by decide +kernel
theorem dX3_recordStay_11 : decode cX3_recordStay 11 = .ok (.new 105, 3) := by decide +kernel
theorem dX3_recordStay_14 : decode cX3_recordStay 14 = .ok (.dup, 1) := by decide +kernel
theorem dX3_recordStay_15 : decode cX3_recordStay 15 = .ok (.aload_n 0, 1) := by decide +kernel
theorem dX3_recordStay_16 : decode cX3_recordStay 16 = .ok (.aload_n 1, 1) := by decide +kernel
theorem dX3_recordStay_17 : decode cX3_recordStay 17 = .ok (.getfield 57, 3) := by decide +kernel
theorem dX3_recordStay_20 : decode cX3_recordStay 20 = .ok (.invokespecial 107, 3) := by decide +kernel
theorem dX3_recordStay_23 : decode cX3_recordStay 23 = .ok (.invokevirtual 110, 3) := by decide +kernel
theorem dX3_recordStay_26 : decode cX3_recordStay 26 = .ok (.pop, 1) := by decide +kernel
theorem dX3_recordStay_27 : decode cX3_recordStay 27 = .ok (.goto 47, 3) := by decide +kernel
theorem dX3_recordStay_30 : decode cX3_recordStay 30 = .ok (.aload_n 1, 1) := by decide +kernel
theorem dX3_recordStay_31 : decode cX3_recordStay 31 = .ok (.getfield 102, 3) := by decide +kernel
theorem dX3_recordStay_34 : decode cX3_recordStay 34 = .ok (.iconst 3, 1) := by decide +kernel
theorem dX3_recordStay_35 : decode cX3_recordStay 35 = .ok (.if_icmp .ne 39, 3) := by decide +kernel
theorem dX3_recordStay_38 : decode cX3_recordStay 38 = .ok (.aload_n 0, 1) := by decide +kernel
theorem dX3_recordStay_39 : decode cX3_recordStay 39 = .ok (.getfield 18, 3) := by decide +kernel
theorem dX3_recordStay_42 : decode cX3_recordStay 42 = .ok (.invokevirtual 113, 3) := by decide +kernel
theorem dX3_recordStay_45 : decode cX3_recordStay 45 = .ok (.ifCond .ne 29, 3) := by decide +kernel
theorem dX3_recordStay_48 : decode cX3_recordStay 48 = .ok (.aload_n 0, 1) := by decide +kernel
theorem dX3_recordStay_49 : decode cX3_recordStay 49 = .ok (.getfield 18, 3) := by decide +kernel
theorem dX3_recordStay_52 : decode cX3_recordStay 52 = .ok (.aload_n 0, 1) := by decide +kernel
theorem dX3_recordStay_53 : decode cX3_recordStay 53 = .ok (.getfield 18, 3) := by decide +kernel
theorem dX3_recordStay_56 : decode cX3_recordStay 56 = .ok (.invokevirtual 47, 3) := by decide +kernel
theorem dX3_recordStay_59 : decode cX3_recordStay 59 = .ok (.iconst 1, 1) := by decide +kernel
theorem dX3_recordStay_60 : decode cX3_recordStay 60 = .ok (.isub, 1) := by decide +kernel
theorem dX3_recordStay_61 : decode cX3_recordStay 61 = .ok (.invokevirtual 51, 3) := by decide +kernel
theorem dX3_recordStay_64 : decode cX3_recordStay 64 = .ok (.checkcast 105, 3) := by decide +kernel
theorem dX3_recordStay_67 : decode cX3_recordStay 67 = .ok (.aload_n 1, 1) := by decide +kernel
theorem dX3_recordStay_68 : decode cX3_recordStay 68 = .ok (.getfield 57, 3) := by decide +kernel
theorem dX3_recordStay_71 : decode cX3_recordStay 71 = .ok (.putfield 116, 3) := by decide +kernel
theorem dX3_recordStay_74 : decode cX3_recordStay 74 = .ok (.return_, 1) := by decide +kernel
theorem dX4_init_0 : decode cX4_init 0 = .ok (.aload_n 0, 1) := by decide +kernel
theorem dX4_init_1 : decode cX4_init 1 = .ok (.invokespecial 3, 3) := by decide +kernel
theorem dX4_init_4 : decode cX4_init 4 = .ok (.aload_n 0, 1) := by decide +kernel
theorem dX4_init_5 : decode cX4_init 5 = .ok (.sipush 1000, 3) := by decide +kernel
theorem dX4_init_8 : decode cX4_init 8 = .ok (.putfield 9, 3) := by decide +kernel
theorem dX4_init_11 : decode cX4_init 11 = .ok (.aload_n 0, 1) := by decide +kernel
theorem dX4_init_12 : decode cX4_init 12 = .ok (.iconst (-1), 1) := by decide +kernel
theorem dX4_init_13 : decode cX4_init 13 = .ok (.putfield 15, 3) := by decide +kernel
theorem dX4_init_16 : decode cX4_init 16 = .ok (.aload_n 0, 1) := by decide +kernel
theorem dX4_init_17 : decode cX4_init 17 = .ok (.aload_n 1, 1) := by decide +kernel
theorem dX4_init_18 : decode cX4_init 18 = .ok (.putfield 18, 3) := by decide +kernel
theorem dX4_init_21 : decode cX4_init 21 = .ok (.aload_n 0, 1) := by decide +kernel
theorem dX4_init_22 : decode cX4_init 22 = .ok (.iload_n 2, 1) := by decide +kernel
theorem dX4_init_23 : decode cX4_init 23 = .ok (.putfield 22, 3) := by decide +kernel
theorem dX4_init_26 : decode cX4_init 26 = .ok (.return_, 1) := by decide +kernel
theorem dX5_init_0 : decode cX5_init 0 = .ok (.aload_n 0, 1) := by decide +kernel
theorem dX5_init_1 : decode cX5_init 1 = .ok (.invokespecial 1, 3) := by decide +kernel
theorem dX5_init_4 : decode cX5_init 4 = .ok (.aload_n 0, 1) := by decide +kernel
theorem dX5_init_5 : decode cX5_init 5 = .ok (.new 7, 3) := by decide +kernel
theorem dX5_init_8 : decode cX5_init 8 = .ok (.dup, 1) := by decide +kernel
theorem dX5_init_9 : decode cX5_init 9 = .ok (.invokespecial 9, 3) := by decide +kernel
theorem dX5_init_12 : decode cX5_init 12 = .ok (.putfield 10, 3) := by decide +kernel
theorem dX5_init_15 : decode cX5_init 15 = .ok (.aload_n 0, 1) := by decide +kernel
theorem dX5_init_16 : decode cX5_init 16 = .ok (.new 7, 3) := by decide +kernel
theorem dX5_init_19 : decode cX5_init 19 = .ok (.dup, 1) := by decide +kernel
theorem dX5_init_20 : decode cX5_init 20 = .ok (.invokespecial 9, 3) := by decide +kernel
theorem dX5_init_23 : decode cX5_init 23 = .ok (.putfield 16, 3) := by decide +kernel
theorem dX5_init_26 : decode cX5_init 26 = .ok (.aload_n 0, 1) := by decide +kernel
theorem dX5_init_27 : decode cX5_init 27 = .ok (.new 7, 3) := by decide +kernel
theorem dX5_init_30 : decode cX5_init 30 = .ok (.dup, 1) := by decide +kernel
theorem dX5_init_31 : decode cX5_init 31 = .ok (.invokespecial 9, 3) := by decide +kernel
theorem dX5_init_34 : decode cX5_init 34 = .ok (.putfield 19, 3) := by decide +kernel
theorem dX5_init_37 : decode cX5_init 37 = .ok (.aload_n 0, 1) := by decide +kernel
theorem dX5_init_38 : decode cX5_init 38 = .ok (.new 7, 3) := by decide +kernel
theorem dX5_init_41 : decode cX5_init 41 = .ok (.dup, 1) := by decide +kernel
theorem dX5_init_42 : decode cX5_init 42 = .ok (.invokespecial 9, 3) := by decide +kernel
theorem dX5_init_45 : decode cX5_init 45 = .ok (.putfield 22, 3) := by decide +kernel
theorem dX5_init_48 : decode cX5_init 48 = .ok (.aload_n 0, 1) := by decide +kernel
theorem dX5_init_49 : decode cX5_init 49 = .ok (.iconst 0, 1) := by decide +kernel
theorem dX5_init_50 : decode cX5_init 50 = .ok (.putfield 25, 3) := by decide +kernel
theorem dX5_init_53 : decode cX5_init 53 = .ok (.aload_n 0, 1) := by decide +kernel
theorem dX5_init_54 : decode cX5_init 54 = .ok (.iconst 0, 1) := by decide +kernel
theorem dX5_init_55 : decode cX5_init 55 = .ok (.putfield 29, 3) := by decide +kernel
theorem dX5_init_58 : decode cX5_init 58 = .ok (.aload_n 0, 1) := by decide +kernel
theorem dX5_init_59 : decode cX5_init 59 = .ok (.iconst 0, 1) := by decide +kernel
theorem dX5_init_60 : decode cX5_init 60 = .ok (.putfield 33, 3) := by decide +kernel
theorem dX5_init_63 : decode cX5_init 63 = .ok (.aload_n 0, 1) := by decide +kernel
theorem dX5_init_64 : decode cX5_init 64 = .ok (.iconst 0, 1) := by decide +kernel
theorem dX5_init_65 : decode cX5_init 65 = .ok (.putfield 36, 3) := by decide +kernel
theorem dX5_init_68 : decode cX5_init 68 = .ok (.return_, 1) := by decide +kernel
theorem dX5_addPuppet_0 : decode cX5_addPuppet 0 = .ok (.iload_n 1, 1) := by decide +kernel
theorem dX5_addPuppet_1 : decode cX5_addPuppet 1 = .ok (.iconst 1, 1) := by decide +kernel
theorem dX5_addPuppet_2 : decode cX5_addPuppet 2 = .ok (.if_icmp .lt 9, 3) := by decide +kernel
theorem dX5_addPuppet_5 : decode cX5_addPuppet 5 = .ok (.iload_n 1, 1) := by decide +kernel
theorem dX5_addPuppet_6 : decode cX5_addPuppet 6 = .ok (.bipush 9, 2) := by decide +kernel
theorem dX5_addPuppet_8 : decode cX5_addPuppet 8 = .ok (.if_icmp .le 13, 3) := by decide +kernel
theorem dX5_addPuppet_11 : decode cX5_addPuppet 11 = .ok (.new 39, 3) := by decide +kernel
theorem dX5_addPuppet_14 : decode cX5_addPuppet 14 = .ok (.dup, 1) := by decide +kernel
theorem dX5_addPuppet_15 : decode cX5_addPuppet 15 = .ok (.ldc 41, 2) := by decide +kernel
theorem dX5_addPuppet_17 : decode cX5_addPuppet 17 = .ok (.invokespecial 43, 3) := by decide +kernel
theorem dX5_addPuppet_20 : decode cX5_addPuppet 20 = .ok (.athrow, 1) := by decide +kernel
theorem dX5_addPuppet_21 : decode cX5_addPuppet 21 = .ok (.iload_n 2, 1) := by decide +kernel
theorem dX5_addPuppet_22 : decode cX5_addPuppet 22 = .ok (.iconst 1, 1) := by decide +kernel
theorem dX5_addPuppet_23 : decode cX5_addPuppet 23 = .ok (.if_icmp .lt 8, 3) := by decide +kernel
theorem dX5_addPuppet_26 : decode cX5_addPuppet 26 = .ok (.iload_n 2, 1) := by decide +kernel
theorem dX5_addPuppet_27 : decode cX5_addPuppet 27 = .ok (.iconst 2, 1) := by decide +kernel
theorem dX5_addPuppet_28 : decode cX5_addPuppet 28 = .ok (.if_icmp .le 13, 3) := by decide +kernel
theorem dX5_addPuppet_31 : decode cX5_addPuppet 31 = .ok (.new 39, 3) := by decide +kernel
theorem dX5_addPuppet_34 : decode cX5_addPuppet 34 = .ok (.dup, 1) := by decide +kernel
theorem dX5_addPuppet_35 : decode cX5_addPuppet 35 = .ok (.ldc 46, 2) := by decide +kernel
theorem dX5_addPuppet_37 : decode cX5_addPuppet 37 = .ok (.invokespecial 43, 3) := by decide +kernel
theorem dX5_addPuppet_40 : decode cX5_addPuppet 40 = .ok (.athrow, 1) := by decide +kernel
theorem dX5_addPuppet_41 : decode cX5_addPuppet 41 = .ok (.aload_n 0, 1) := by decide +kernel
theorem dX5_addPuppet_42 : decode cX5_addPuppet 42 = .ok (.getfield 10, 3) := by decide +kernel
theorem dX5_addPuppet_45 : decode cX5_addPuppet 45 = .ok (.invokevirtual 48, 3) := by decide +kernel
theorem dX5_addPuppet_48 : decode cX5_addPuppet 48 = .ok (.bipush 8, 2) := by decide +kernel
theorem dX5_addPuppet_50 : decode cX5_addPuppet 50 = .ok (.if_icmp .lt 13, 3) := by decide +kernel
theorem dX5_addPuppet_53 : decode cX5_addPuppet 53 = .ok (.new 52, 3) := by decide +kernel
theorem dX5_addPuppet_56 : decode cX5_addPuppet 56 = .ok (.dup, 1) := by decide +kernel
theorem dX5_addPuppet_57 : decode cX5_addPuppet 57 = .ok (.ldc 54, 2) := by decide +kernel
theorem dX5_addPuppet_59 : decode cX5_addPuppet 59 = .ok (.invokespecial 56, 3) := by decide +kernel
theorem dX5_addPuppet_62 : decode cX5_addPuppet 62 = .ok (.athrow, 1) := by decide +kernel
theorem dX5_addPuppet_63 : decode cX5_addPuppet 63 = .ok (.aload_n 0, 1) := by decide +kernel
theorem dX5_addPuppet_64 : decode cX5_addPuppet 64 = .ok (.getfield 10, 3) := by decide +kernel
theorem dX5_addPuppet_67 : decode cX5_addPuppet 67 = .ok (.invokevirtual 48, 3) := by decide +kernel
theorem dX5_addPuppet_70 : decode cX5_addPuppet 70 = .ok (.istore_n 3, 1) := by decide +kernel
theorem dX5_addPuppet_71 : decode cX5_addPuppet 71 = .ok (.aload_n 0, 1) := by decide +kernel
theorem dX5_addPuppet_72 : decode cX5_addPuppet 72 = .ok (.getfield 10, 3) := by decide +kernel
theorem dX5_addPuppet_75 : decode cX5_addPuppet 75 = .ok (.new 57, 3) := by decide +kernel
theorem dX5_addPuppet_78 : decode cX5_addPuppet 78 = .ok (.dup, 1) := by decide +kernel
theorem dX5_addPuppet_79 : decode cX5_addPuppet 79 = .ok (.iload_n 3, 1) := by decide +kernel
theorem dX5_addPuppet_80 : decode cX5_addPuppet 80 = .ok (.iload_n 1, 1) := by decide +kernel
theorem dX5_addPuppet_81 : decode cX5_addPuppet 81 = .ok (.iload_n 2, 1) := by decide +kernel
theorem dX5_addPuppet_82 : decode cX5_addPuppet 82 = .ok (.invokespecial 59, 3) := by decide +kernel
theorem dX5_addPuppet_85 : decode cX5_addPuppet 85 = .ok (.invokevirtual 62, 3) := by decide +kernel
theorem dX5_addPuppet_88 : decode cX5_addPuppet 88 = .ok (.pop, 1) := by decide +kernel
theorem dX5_addPuppet_89 : decode cX5_addPuppet 89 = .ok (.iload_n 3, 1) := by decide +kernel
theorem dX5_addPuppet_90 : decode cX5_addPuppet 90 = .ok (.ireturn, 1) := by decide +kernel
theorem dX5_addPlayer_0 : decode cX5_addPlayer 0 = .ok (.iload_n 1, 1) := by decide +kernel
theorem dX5_addPlayer_1 : decode cX5_addPlayer 1 = .ok (.iconst 1, 1) := by decide +kernel
theorem dX5_addPlayer_2 : decode cX5_addPlayer 2 = .ok (.if_icmp .lt 9, 3) := by decide +kernel
theorem dX5_addPlayer_5 : decode cX5_addPlayer 5 = .ok (.iload_n 1, 1) := by decide +kernel
theorem dX5_addPlayer_6 : decode cX5_addPlayer 6 = .ok (.bipush 20, 2) := by decide +kernel
theorem dX5_addPlayer_8 : decode cX5_addPlayer 8 = .ok (.if_icmp .le 13, 3) := by decide +kernel
theorem dX5_addPlayer_11 : decode cX5_addPlayer 11 = .ok (.new 39, 3) := by decide +kernel
theorem dX5_addPlayer_14 : decode cX5_addPlayer 14 = .ok (.dup, 1) := by decide +kernel
theorem dX5_addPlayer_15 : decode cX5_addPlayer 15 = .ok (.ldc 66, 2) := by decide +kernel
theorem dX5_addPlayer_17 : decode cX5_addPlayer 17 = .ok (.invokespecial 43, 3) := by decide +kernel
theorem dX5_addPlayer_20 : decode cX5_addPlayer 20 = .ok (.athrow, 1) := by decide +kernel
theorem dX5_addPlayer_21 : decode cX5_addPlayer 21 = .ok (.iload_n 2, 1) := by decide +kernel
theorem dX5_addPlayer_22 : decode cX5_addPlayer 22 = .ok (.invokestatic 68, 3) := by decide +kernel
theorem dX5_addPlayer_25 : decode cX5_addPlayer 25 = .ok (.aload_n 0, 1) := by decide +kernel
theorem dX5_addPlayer_26 : decode cX5_addPlayer 26 = .ok (.getfield 16, 3) := by decide +kernel
theorem dX5_addPlayer_29 : decode cX5_addPlayer 29 = .ok (.invokevirtual 48, 3) := by decide +kernel
theorem dX5_addPlayer_32 : decode cX5_addPlayer 32 = .ok (.iconst 5, 1) := by decide +kernel
theorem dX5_addPlayer_33 : decode cX5_addPlayer 33 = .ok (.if_icmp .lt 13, 3) := by decide +kernel
theorem dX5_addPlayer_36 : decode cX5_addPlayer 36 = .ok (.new 52, 3) := by decide +kernel
theorem dX5_addPlayer_39 : decode cX5_addPlayer 39 = .ok (.dup, 1) := by decide +kernel
theorem dX5_addPlayer_40 : decode cX5_addPlayer 40 = .ok (.ldc 72, 2) := by decide +kernel
theorem dX5_addPlayer_42 : decode cX5_addPlayer 42 = .ok (.invokespecial 56, 3) := by decide +kernel
theorem dX5_addPlayer_45 : decode cX5_addPlayer 45 = .ok (.athrow, 1) := by decide +kernel
theorem dX5_addPlayer_46 : decode cX5_addPlayer 46 = .ok (.aload_n 0, 1) := by decide +kernel
theorem dX5_addPlayer_47 : decode cX5_addPlayer 47 = .ok (.getfield 16, 3) := by decide +kernel
theorem dX5_addPlayer_50 : decode cX5_addPlayer 50 = .ok (.invokevirtual 48, 3) := by decide +kernel
theorem dX5_addPlayer_53 : decode cX5_addPlayer 53 = .ok (.istore_n 3, 1) := by decide +kernel
theorem dX5_addPlayer_54 : decode cX5_addPlayer 54 = .ok (.aload_n 0, 1) := by decide +kernel
theorem dX5_addPlayer_55 : decode cX5_addPlayer 55 = .ok (.getfield 16, 3) := by decide +kernel
theorem dX5_addPlayer_58 : decode cX5_addPlayer 58 = .ok (.new 74, 3) := by decide +kernel
theorem dX5_addPlayer_61 : decode cX5_addPlayer 61 = .ok (.dup, 1) := by decide +kernel
theorem dX5_addPlayer_62 : decode cX5_addPlayer 62 = .ok (.iload_n 1, 1) := by decide +kernel
theorem dX5_addPlayer_63 : decode cX5_addPlayer 63 = .ok (.iload_n 2, 1) := by decide +kernel
theorem dX5_addPlayer_64 : decode cX5_addPlayer 64 = .ok (.invokespecial 76, 3) := by decide +kernel
theorem dX5_addPlayer_67 : decode cX5_addPlayer 67 = .ok (.invokevirtual 62, 3) := by decide +kernel
theorem dX5_addPlayer_70 : decode cX5_addPlayer 70 = .ok (.pop, 1) := by decide +kernel
theorem dX5_addPlayer_71 : decode cX5_addPlayer 71 = .ok (.aload_n 0, 1) := by decide +kernel
theorem dX5_addPlayer_72 : decode cX5_addPlayer 72 = .ok (.iconst 0, 1) := by decide +kernel
theorem dX5_addPlayer_73 : decode cX5_addPlayer 73 = .ok (.putfield 29, 3) := by decide +kernel
theorem dX5_addPlayer_76 : decode cX5_addPlayer 76 = .ok (.iload_n 3, 1) := by decide +kernel
theorem dX5_addPlayer_77 : decode cX5_addPlayer 77 = .ok (.ireturn, 1) := by decide +kernel
theorem dX5_enter_0 : decode cX5_enter 0 = .ok (.aload_n 0, 1) := by decide +kernel
theorem dX5_enter_1 : decode cX5_enter 1 = .ok (.iload_n 1, 1) := by decide +kernel
theorem dX5_enter_2 : decode cX5_enter 2 = .ok (.invokevirtual 79, 3) := by decide +kernel
theorem dX5_enter_5 : decode cX5_enter 5 = .ok (.astore 5, 2) := by decide +kernel
theorem dX5_enter_7 : decode cX5_enter 7 = .ok (.iload_n 2, 1) := by decide +kernel
theorem dX5_enter_8 : decode cX5_enter 8 = .ok (.invokestatic 83, 3) := by decide +kernel
theorem dX5_enter_11 : decode cX5_enter 11 = .ok (.iload_n 3, 1) := by decide +kernel
theorem dX5_enter_12 : decode cX5_enter 12 = .ok (.invokestatic 68, 3) := by decide +kernel
theorem dX5_enter_15 : decode cX5_enter 15 = .ok (.iload 4, 2) := by decide +kernel
theorem dX5_enter_17 : decode cX5_enter 17 = .ok (.invokestatic 86, 3) := by decide +kernel
theorem dX5_enter_20 : decode cX5_enter 20 = .ok (.aload_n 0, 1) := by decide +kernel
theorem dX5_enter_21 : decode cX5_enter 21 = .ok (.new 89, 3) := by decide +kernel
theorem dX5_enter_24 : decode cX5_enter 24 = .ok (.dup, 1) := by decide +kernel
theorem dX5_enter_25 : decode cX5_enter 25 = .ok (.iconst 0, 1) := by decide +kernel
theorem dX5_enter_26 : decode cX5_enter 26 = .ok (.aload 5, 2) := by decide +kernel
theorem dX5_enter_28 : decode cX5_enter 28 = .ok (.iload_n 2, 1) := by decide +kernel
theorem dX5_enter_29 : decode cX5_enter 29 = .ok (.iload_n 3, 1) := by decide +kernel
theorem dX5_enter_30 : decode cX5_enter 30 = .ok (.iload 4, 2) := by decide +kernel
theorem dX5_enter_32 : decode cX5_enter 32 = .ok (.invokespecial 91, 3) := by decide +kernel
theorem dX5_enter_35 : decode cX5_enter 35 = .ok (.invokevirtual 94, 3) := by decide +kernel
theorem dX5_enter_38 : decode cX5_enter 38 = .ok (.ireturn, 1) := by decide +kernel
theorem dX5_move_0 : decode cX5_move 0 = .ok (.aload_n 0, 1) := by decide +kernel
theorem dX5_move_1 : decode cX5_move 1 = .ok (.iload_n 1, 1) := by decide +kernel
theorem dX5_move_2 : decode cX5_move 2 = .ok (.invokevirtual 79, 3) := by decide +kernel
theorem dX5_move_5 : decode cX5_move 5 = .ok (.astore 4, 2) := by decide +kernel
theorem dX5_move_7 : decode cX5_move 7 = .ok (.iload_n 2, 1) := by decide +kernel
theorem dX5_move_8 : decode cX5_move 8 = .ok (.invokestatic 83, 3) := by decide +kernel
theorem dX5_move_11 : decode cX5_move 11 = .ok (.iload_n 3, 1) := by decide +kernel
theorem dX5_move_12 : decode cX5_move 12 = .ok (.invokestatic 68, 3) := by decide +kernel
theorem dX5_move_15 : decode cX5_move 15 = .ok (.aload_n 0, 1) := by decide +kernel
theorem dX5_move_16 : decode cX5_move 16 = .ok (.new 89, 3) := by decide +kernel
theorem dX5_move_19 : decode cX5_move 19 = .ok (.dup, 1) := by decide +kernel
theorem dX5_move_20 : decode cX5_move 20 = .ok (.iconst 1, 1) := by decide +kernel
theorem dX5_move_21 : decode cX5_move 21 = .ok (.aload 4, 2) := by decide +kernel
theorem dX5_move_23 : decode cX5_move 23 = .ok (.iload_n 2, 1) := by decide +kernel
theorem dX5_move_24 : decode cX5_move 24 = .ok (.iload_n 3, 1) := by decide +kernel
theorem dX5_move_25 : decode cX5_move 25 = .ok (.iconst (-1), 1) := by decide +kernel
theorem dX5_move_26 : decode cX5_move 26 = .ok (.invokespecial 91, 3) := by decide +kernel
theorem dX5_move_29 : decode cX5_move 29 = .ok (.invokevirtual 94, 3) := by decide +kernel
theorem dX5_move_32 : decode cX5_move 32 = .ok (.ireturn, 1) := by decide +kernel
theorem dX5_shift_0 : decode cX5_shift 0 = .ok (.aload_n 0, 1) := by decide +kernel
theorem dX5_shift_1 : decode cX5_shift 1 = .ok (.iload_n 1, 1) := by decide +kernel
theorem dX5_shift_2 : decode cX5_shift 2 = .ok (.invokevirtual 79, 3) := by decide +kernel
theorem dX5_shift_5 : decode cX5_shift 5 = .ok (.astore 4, 2) := by decide +kernel
theorem dX5_shift_7 : decode cX5_shift 7 = .ok (.iload_n 2, 1) := by decide +kernel
theorem dX5_shift_8 : decode cX5_shift 8 = .ok (.invokestatic 83, 3) := by decide +kernel
theorem dX5_shift_11 : decode cX5_shift 11 = .ok (.iload_n 3, 1) := by decide +kernel
theorem dX5_shift_12 : decode cX5_shift 12 = .ok (.invokestatic 86, 3) := by decide +kernel
theorem dX5_shift_15 : decode cX5_shift 15 = .ok (.aload_n 0, 1) := by decide +kernel
theorem dX5_shift_16 : decode cX5_shift 16 = .ok (.new 89, 3) := by decide +kernel
theorem dX5_shift_19 : decode cX5_shift 19 = .ok (.dup, 1) := by decide +kernel
theorem dX5_shift_20 : decode cX5_shift 20 = .ok (.iconst 2, 1) := by decide +kernel
theorem dX5_shift_21 : decode cX5_shift 21 = .ok (.aload 4, 2) := by decide +kernel
theorem dX5_shift_23 : decode cX5_shift 23 = .ok (.iload_n 2, 1) := by decide +kernel
theorem dX5_shift_24 : decode cX5_shift 24 = .ok (.iconst (-1), 1) := by decide +kernel
theorem dX5_shift_25 : decode cX5_shift 25 = .ok (.iload_n 3, 1) := by decide +kernel
theorem dX5_shift_26 : decode cX5_shift 26 = .ok (.invokespecial 91, 3) := by decide +kernel
theorem dX5_shift_29 : decode cX5_shift 29 = .ok (.invokevirtual 94, 3) := by decide +kernel
theorem dX5_shift_32 : decode cX5_shift 32 = .ok (.ireturn, 1) := by decide +kernel
theorem dX5_leave_0 : decode cX5_leave 0 = .ok (.aload_n 0, 1) := by decide +kernel
theorem dX5_leave_1 : decode cX5_leave 1 = .ok (.iload_n 1, 1) := by decide +kernel
theorem dX5_leave_2 : decode cX5_leave 2 = .ok (.invokevirtual 79, 3) := by decide +kernel
theorem dX5_leave_5 : decode cX5_leave 5 = .ok (.astore_n 3, 1) := by decide +kernel
theorem dX5_leave_6 : decode cX5_leave 6 = .ok (.iload_n 2, 1) := by decide +kernel
theorem dX5_leave_7 : decode cX5_leave 7 = .ok (.invokestatic 83, 3) := by decide +kernel
theorem dX5_leave_10 : decode cX5_leave 10 = .ok (.aload_n 0, 1) := by decide +kernel
theorem dX5_leave_11 : decode cX5_leave 11 = .ok (.new 89, 3) := by decide +kernel
theorem dX5_leave_14 : decode cX5_leave 14 = .ok (.dup, 1) := by decide +kernel
theorem dX5_leave_15 : decode cX5_leave 15 = .ok (.iconst 3, 1) := by decide +kernel
theorem dX5_leave_16 : decode cX5_leave 16 = .ok (.aload_n 3, 1) := by decide +kernel
theorem dX5_leave_17 : decode cX5_leave 17 = .ok (.iload_n 2, 1) := by decide +kernel
theorem dX5_leave_18 : decode cX5_leave 18 = .ok (.iconst (-1), 1) := by decide +kernel
theorem dX5_leave_19 : decode cX5_leave 19 = .ok (.iconst (-1), 1) := by decide +kernel
theorem dX5_leave_20 : decode cX5_leave 20 = .ok (.invokespecial 91, 3) := by decide +kernel
theorem dX5_leave_23 : decode cX5_leave 23 = .ok (.invokevirtual 94, 3) := by decide +kernel
theorem dX5_leave_26 : decode cX5_leave 26 = .ok (.ireturn, 1) := by decide +kernel
theorem dX5_place_0 : decode cX5_place 0 = .ok (.aload_n 0, 1) := by decide +kernel
theorem dX5_place_1 : decode cX5_place 1 = .ok (.iload_n 1, 1) := by decide +kernel
theorem dX5_place_2 : decode cX5_place 2 = .ok (.invokevirtual 79, 3) := by decide +kernel
theorem dX5_place_5 : decode cX5_place 5 = .ok (.astore_n 3, 1) := by decide +kernel
theorem dX5_place_6 : decode cX5_place 6 = .ok (.iload_n 2, 1) := by decide +kernel
theorem dX5_place_7 : decode cX5_place 7 = .ok (.invokestatic 83, 3) := by decide +kernel
theorem dX5_place_10 : decode cX5_place 10 = .ok (.aload_n 3, 1) := by decide +kernel
theorem dX5_place_11 : decode cX5_place 11 = .ok (.getfield 130, 3) := by decide +kernel
theorem dX5_place_14 : decode cX5_place 14 = .ok (.iload_n 2, 1) := by decide +kernel
theorem dX5_place_15 : decode cX5_place 15 = .ok (.iaload, 1) := by decide +kernel
theorem dX5_place_16 : decode cX5_place 16 = .ok (.ireturn, 1) := by decide +kernel
theorem dX5_track_0 : decode cX5_track 0 = .ok (.aload_n 0, 1) := by decide +kernel
theorem dX5_track_1 : decode cX5_track 1 = .ok (.iload_n 1, 1) := by decide +kernel
theorem dX5_track_2 : decode cX5_track 2 = .ok (.invokevirtual 79, 3) := by decide +kernel
theorem dX5_track_5 : decode cX5_track 5 = .ok (.astore_n 3, 1) := by decide +kernel
theorem dX5_track_6 : decode cX5_track 6 = .ok (.iload_n 2, 1) := by decide +kernel
theorem dX5_track_7 : decode cX5_track 7 = .ok (.invokestatic 83, 3) := by decide +kernel
theorem dX5_track_10 : decode cX5_track 10 = .ok (.aload_n 3, 1) := by decide +kernel
theorem dX5_track_11 : decode cX5_track 11 = .ok (.getfield 134, 3) := by decide +kernel
theorem dX5_track_14 : decode cX5_track 14 = .ok (.iload_n 2, 1) := by decide +kernel
theorem dX5_track_15 : decode cX5_track 15 = .ok (.iaload, 1) := by decide +kernel
theorem dX5_track_16 : decode cX5_track 16 = .ok (.ireturn, 1) := by decide +kernel
theorem dX5_beats_0 : decode cX5_beats 0 = .ok (.aload_n 0, 1) := by decide +kernel
theorem dX5_beats_1 : decode cX5_beats 1 = .ok (.iload_n 1, 1) := by decide +kernel
theorem dX5_beats_2 : decode cX5_beats 2 = .ok (.invokevirtual 79, 3) := by decide +kernel
theorem dX5_beats_5 : decode cX5_beats 5 = .ok (.getfield 153, 3) := by decide +kernel
theorem dX5_beats_8 : decode cX5_beats 8 = .ok (.astore_n 2, 1) := by decide +kernel
theorem dX5_beats_9 : decode cX5_beats 9 = .ok (.iconst 0, 1) := by decide +kernel
theorem dX5_beats_10 : decode cX5_beats 10 = .ok (.istore_n 3, 1) := by decide +kernel
theorem dX5_beats_11 : decode cX5_beats 11 = .ok (.iconst 0, 1) := by decide +kernel
theorem dX5_beats_12 : decode cX5_beats 12 = .ok (.istore 4, 2) := by decide +kernel
theorem dX5_beats_14 : decode cX5_beats 14 = .ok (.iload 4, 2) := by decide +kernel
theorem dX5_beats_16 : decode cX5_beats 16 = .ok (.aload_n 2, 1) := by decide +kernel
theorem dX5_beats_17 : decode cX5_beats 17 = .ok (.invokevirtual 48, 3) := by decide +kernel
theorem dX5_beats_20 : decode cX5_beats 20 = .ok (.if_icmp .ge 34, 3) := by decide +kernel
theorem dX5_beats_23 : decode cX5_beats 23 = .ok (.aload_n 2, 1) := by decide +kernel
theorem dX5_beats_24 : decode cX5_beats 24 = .ok (.iload 4, 2) := by decide +kernel
theorem dX5_beats_26 : decode cX5_beats 26 = .ok (.invokevirtual 137, 3) := by decide +kernel
theorem dX5_beats_29 : decode cX5_beats 29 = .ok (.checkcast 156, 3) := by decide +kernel
theorem dX5_beats_32 : decode cX5_beats 32 = .ok (.astore 5, 2) := by decide +kernel
theorem dX5_beats_34 : decode cX5_beats 34 = .ok (.iload_n 3, 1) := by decide +kernel
theorem dX5_beats_35 : decode cX5_beats 35 = .ok (.aload 5, 2) := by decide +kernel
theorem dX5_beats_37 : decode cX5_beats 37 = .ok (.getfield 158, 3) := by decide +kernel
theorem dX5_beats_40 : decode cX5_beats 40 = .ok (.aload 5, 2) := by decide +kernel
theorem dX5_beats_42 : decode cX5_beats 42 = .ok (.getfield 161, 3) := by decide +kernel
theorem dX5_beats_45 : decode cX5_beats 45 = .ok (.isub, 1) := by decide +kernel
theorem dX5_beats_46 : decode cX5_beats 46 = .ok (.iadd, 1) := by decide +kernel
theorem dX5_beats_47 : decode cX5_beats 47 = .ok (.istore_n 3, 1) := by decide +kernel
theorem dX5_beats_48 : decode cX5_beats 48 = .ok (.iinc 4 1, 3) := by decide +kernel
theorem dX5_beats_51 : decode cX5_beats 51 = .ok (.goto (-37), 3) := by decide +kernel
theorem dX5_beats_54 : decode cX5_beats 54 = .ok (.iload_n 3, 1) := by decide +kernel
theorem dX5_beats_55 : decode cX5_beats 55 = .ok (.ireturn, 1) := by decide +kernel
theorem dX5_stays_0 : decode cX5_stays 0 = .ok (.aload_n 0, 1) := by decide +kernel
theorem dX5_stays_1 : decode cX5_stays 1 = .ok (.iload_n 1, 1) := by decide +kernel
theorem dX5_stays_2 : decode cX5_stays 2 = .ok (.invokevirtual 79, 3) := by decide +kernel
theorem dX5_stays_5 : decode cX5_stays 5 = .ok (.getfield 153, 3) := by decide +kernel
theorem dX5_stays_8 : decode cX5_stays 8 = .ok (.invokevirtual 48, 3) := by decide +kernel
theorem dX5_stays_11 : decode cX5_stays 11 = .ok (.ireturn, 1) := by decide +kernel
theorem dX5_stay_0 : decode cX5_stay 0 = .ok (.aload_n 0, 1) := by decide +kernel
theorem dX5_stay_1 : decode cX5_stay 1 = .ok (.iload_n 1, 1) := by decide +kernel
theorem dX5_stay_2 : decode cX5_stay 2 = .ok (.invokevirtual 79, 3) := by decide +kernel
theorem dX5_stay_5 : decode cX5_stay 5 = .ok (.getfield 153, 3) := by decide +kernel
theorem dX5_stay_8 : decode cX5_stay 8 = .ok (.astore 4, 2) := by decide +kernel
theorem dX5_stay_10 : decode cX5_stay 10 = .ok (.iload_n 2, 1) := by decide +kernel
theorem dX5_stay_11 : decode cX5_stay 11 = .ok (.ifCond .lt 12, 3) := by decide +kernel
theorem dX5_stay_14 : decode cX5_stay 14 = .ok (.iload_n 2, 1) := by decide +kernel
theorem dX5_stay_15 : decode cX5_stay 15 = .ok (.aload 4, 2) := by decide +kernel
theorem dX5_stay_17 : decode cX5_stay 17 = .ok (.invokevirtual 48, 3) := by decide +kernel
theorem dX5_stay_20 : decode cX5_stay 20 = .ok (.if_icmp .lt 13, 3) := by decide +kernel
theorem dX5_stay_23 : decode cX5_stay 23 = .ok (.new 121, 3) := by decide +kernel
theorem dX5_stay_26 : decode cX5_stay 26 = .ok (.dup, 1) := by decide +kernel
theorem dX5_stay_27 : decode cX5_stay 27 = .ok (.ldc 164, 2) := by decide +kernel
theorem dX5_stay_29 : decode cX5_stay 29 = .ok (.invokespecial 125, 3) := by decide +kernel
theorem dX5_stay_32 : decode cX5_stay 32 = .ok (.athrow, 1) := by decide +kernel
theorem dX5_stay_33 : decode cX5_stay 33 = .ok (.aload_n 0, 1) := by decide +kernel
theorem dX5_stay_34 : decode cX5_stay 34 = .ok (.invokevirtual 166, 3) := by decide +kernel
theorem dX5_stay_37 : decode cX5_stay 37 = .ok (.aload 4, 2) := by decide +kernel
theorem dX5_stay_39 : decode cX5_stay 39 = .ok (.iload_n 2, 1) := by decide +kernel
theorem dX5_stay_40 : decode cX5_stay 40 = .ok (.invokevirtual 137, 3) := by decide +kernel
theorem dX5_stay_43 : decode cX5_stay 43 = .ok (.checkcast 156, 3) := by decide +kernel
theorem dX5_stay_46 : decode cX5_stay 46 = .ok (.iload_n 3, 1) := by decide +kernel
theorem dX5_stay_47 : decode cX5_stay 47 = .ok (.invokestatic 169, 3) := by decide +kernel
theorem dX5_stay_50 : decode cX5_stay 50 = .ok (.ireturn, 1) := by decide +kernel
theorem dX5_hands_0 : decode cX5_hands 0 = .ok (.aload_n 0, 1) := by decide +kernel
theorem dX5_hands_1 : decode cX5_hands 1 = .ok (.iload_n 1, 1) := by decide +kernel
theorem dX5_hands_2 : decode cX5_hands 2 = .ok (.invokevirtual 176, 3) := by decide +kernel
theorem dX5_hands_5 : decode cX5_hands 5 = .ok (.astore_n 3, 1) := by decide +kernel
theorem dX5_hands_6 : decode cX5_hands 6 = .ok (.iload_n 2, 1) := by decide +kernel
theorem dX5_hands_7 : decode cX5_hands 7 = .ok (.invokestatic 83, 3) := by decide +kernel
theorem dX5_hands_10 : decode cX5_hands 10 = .ok (.aload_n 0, 1) := by decide +kernel
theorem dX5_hands_11 : decode cX5_hands 11 = .ok (.invokevirtual 166, 3) := by decide +kernel
theorem dX5_hands_14 : decode cX5_hands 14 = .ok (.aload_n 3, 1) := by decide +kernel
theorem dX5_hands_15 : decode cX5_hands 15 = .ok (.getfield 180, 3) := by decide +kernel
theorem dX5_hands_18 : decode cX5_hands 18 = .ok (.iload_n 2, 1) := by decide +kernel
theorem dX5_hands_19 : decode cX5_hands 19 = .ok (.iaload, 1) := by decide +kernel
theorem dX5_hands_20 : decode cX5_hands 20 = .ok (.ireturn, 1) := by decide +kernel
theorem dX5_load_0 : decode cX5_load 0 = .ok (.aload_n 0, 1) := by decide +kernel
theorem dX5_load_1 : decode cX5_load 1 = .ok (.iload_n 1, 1) := by decide +kernel
theorem dX5_load_2 : decode cX5_load 2 = .ok (.invokevirtual 176, 3) := by decide +kernel
theorem dX5_load_5 : decode cX5_load 5 = .ok (.astore_n 2, 1) := by decide +kernel
theorem dX5_load_6 : decode cX5_load 6 = .ok (.aload_n 0, 1) := by decide +kernel
theorem dX5_load_7 : decode cX5_load 7 = .ok (.invokevirtual 166, 3) := by decide +kernel
theorem dX5_load_10 : decode cX5_load 10 = .ok (.aload_n 2, 1) := by decide +kernel
theorem dX5_load_11 : decode cX5_load 11 = .ok (.invokevirtual 183, 3) := by decide +kernel
theorem dX5_load_14 : decode cX5_load 14 = .ok (.ireturn, 1) := by decide +kernel
theorem dX5_puppetNumbered_0 : decode cX5_puppetNumbered 0 = .ok (.iload_n 1, 1) := by decide +kernel
theorem dX5_puppetNumbered_1 : decode cX5_puppetNumbered 1 = .ok (.ifCond .lt 14, 3) := by decide +kernel
theorem dX5_puppetNumbered_4 : decode cX5_puppetNumbered 4 = .ok (.iload_n 1, 1) := by decide +kernel
theorem dX5_puppetNumbered_5 : decode cX5_puppetNumbered 5 = .ok (.aload_n 0, 1) := by decide +kernel
theorem dX5_puppetNumbered_6 : decode cX5_puppetNumbered 6 = .ok (.getfield 10, 3) := by decide +kernel
theorem dX5_puppetNumbered_9 : decode cX5_puppetNumbered 9 = .ok (.invokevirtual 48, 3) := by decide +kernel
theorem dX5_puppetNumbered_12 : decode cX5_puppetNumbered 12 = .ok (.if_icmp .lt 13, 3) := by decide +kernel
theorem dX5_puppetNumbered_15 : decode cX5_puppetNumbered 15 = .ok (.new 121, 3) := by decide +kernel
theorem dX5_puppetNumbered_18 : decode cX5_puppetNumbered 18 = .ok (.dup, 1) := by decide +kernel
theorem dX5_puppetNumbered_19 : decode cX5_puppetNumbered 19 = .ok (.ldc 222, 2) := by decide +kernel
theorem dX5_puppetNumbered_21 : decode cX5_puppetNumbered 21 = .ok (.invokespecial 125, 3) := by decide +kernel
theorem dX5_puppetNumbered_24 : decode cX5_puppetNumbered 24 = .ok (.athrow, 1) := by decide +kernel
theorem dX5_puppetNumbered_25 : decode cX5_puppetNumbered 25 = .ok (.aload_n 0, 1) := by decide +kernel
theorem dX5_puppetNumbered_26 : decode cX5_puppetNumbered 26 = .ok (.getfield 10, 3) := by decide +kernel
theorem dX5_puppetNumbered_29 : decode cX5_puppetNumbered 29 = .ok (.iload_n 1, 1) := by decide +kernel
theorem dX5_puppetNumbered_30 : decode cX5_puppetNumbered 30 = .ok (.invokevirtual 137, 3) := by decide +kernel
theorem dX5_puppetNumbered_33 : decode cX5_puppetNumbered 33 = .ok (.checkcast 57, 3) := by decide +kernel
theorem dX5_puppetNumbered_36 : decode cX5_puppetNumbered 36 = .ok (.areturn, 1) := by decide +kernel
theorem dX5_playerNumbered_0 : decode cX5_playerNumbered 0 = .ok (.iload_n 1, 1) := by decide +kernel
theorem dX5_playerNumbered_1 : decode cX5_playerNumbered 1 = .ok (.ifCond .lt 14, 3) := by decide +kernel
theorem dX5_playerNumbered_4 : decode cX5_playerNumbered 4 = .ok (.iload_n 1, 1) := by decide +kernel
theorem dX5_playerNumbered_5 : decode cX5_playerNumbered 5 = .ok (.aload_n 0, 1) := by decide +kernel
theorem dX5_playerNumbered_6 : decode cX5_playerNumbered 6 = .ok (.getfield 16, 3) := by decide +kernel
theorem dX5_playerNumbered_9 : decode cX5_playerNumbered 9 = .ok (.invokevirtual 48, 3) := by decide +kernel
theorem dX5_playerNumbered_12 : decode cX5_playerNumbered 12 = .ok (.if_icmp .lt 13, 3) := by decide +kernel
theorem dX5_playerNumbered_15 : decode cX5_playerNumbered 15 = .ok (.new 121, 3) := by decide +kernel
theorem dX5_playerNumbered_18 : decode cX5_playerNumbered 18 = .ok (.dup, 1) := by decide +kernel
theorem dX5_playerNumbered_19 : decode cX5_playerNumbered 19 = .ok (.ldc 224, 2) := by decide +kernel
theorem dX5_playerNumbered_21 : decode cX5_playerNumbered 21 = .ok (.invokespecial 125, 3) := by decide +kernel
theorem dX5_playerNumbered_24 : decode cX5_playerNumbered 24 = .ok (.athrow, 1) := by decide +kernel
theorem dX5_playerNumbered_25 : decode cX5_playerNumbered 25 = .ok (.aload_n 0, 1) := by decide +kernel
theorem dX5_playerNumbered_26 : decode cX5_playerNumbered 26 = .ok (.getfield 16, 3) := by decide +kernel
theorem dX5_playerNumbered_29 : decode cX5_playerNumbered 29 = .ok (.iload_n 1, 1) := by decide +kernel
theorem dX5_playerNumbered_30 : decode cX5_playerNumbered 30 = .ok (.invokevirtual 137, 3) := by decide +kernel
theorem dX5_playerNumbered_33 : decode cX5_playerNumbered 33 = .ok (.checkcast 74, 3) := by decide +kernel
theorem dX5_playerNumbered_36 : decode cX5_playerNumbered 36 = .ok (.areturn, 1) := by decide +kernel
theorem dX5_requireBeat_0 : decode cX5_requireBeat 0 = .ok (.iload_n 0, 1) := by decide +kernel
theorem dX5_requireBeat_1 : decode cX5_requireBeat 1 = .ok (.ifCond .lt 10, 3) := by decide +kernel
theorem dX5_requireBeat_4 : decode cX5_requireBeat 4 = .ok (.iload_n 0, 1) := by decide +kernel
theorem dX5_requireBeat_5 : decode cX5_requireBeat 5 = .ok (.sipush 1000, 3) := by decide +kernel
theorem dX5_requireBeat_8 : decode cX5_requireBeat 8 = .ok (.if_icmp .lt 13, 3) := by decide +kernel
theorem dX5_requireBeat_11 : decode cX5_requireBeat 11 = .ok (.new 39, 3) := by decide +kernel
theorem dX5_requireBeat_14 : decode cX5_requireBeat 14 = .ok (.dup, 1) := by decide +kernel
theorem dX5_requireBeat_15 : decode cX5_requireBeat 15 = .ok (.ldc 230, 2) := by decide +kernel
theorem dX5_requireBeat_17 : decode cX5_requireBeat 17 = .ok (.invokespecial 43, 3) := by decide +kernel
theorem dX5_requireBeat_20 : decode cX5_requireBeat 20 = .ok (.athrow, 1) := by decide +kernel
theorem dX5_requireBeat_21 : decode cX5_requireBeat 21 = .ok (.return_, 1) := by decide +kernel
theorem dX5_requirePlace_0 : decode cX5_requirePlace 0 = .ok (.iload_n 0, 1) := by decide +kernel
theorem dX5_requirePlace_1 : decode cX5_requirePlace 1 = .ok (.ifCond .lt 9, 3) := by decide +kernel
theorem dX5_requirePlace_4 : decode cX5_requirePlace 4 = .ok (.iload_n 0, 1) := by decide +kernel
theorem dX5_requirePlace_5 : decode cX5_requirePlace 5 = .ok (.bipush 20, 2) := by decide +kernel
theorem dX5_requirePlace_7 : decode cX5_requirePlace 7 = .ok (.if_icmp .lt 13, 3) := by decide +kernel
theorem dX5_requirePlace_10 : decode cX5_requirePlace 10 = .ok (.new 39, 3) := by decide +kernel
theorem dX5_requirePlace_13 : decode cX5_requirePlace 13 = .ok (.dup, 1) := by decide +kernel
theorem dX5_requirePlace_14 : decode cX5_requirePlace 14 = .ok (.ldc 232, 2) := by decide +kernel
theorem dX5_requirePlace_16 : decode cX5_requirePlace 16 = .ok (.invokespecial 43, 3) := by decide +kernel
theorem dX5_requirePlace_19 : decode cX5_requirePlace 19 = .ok (.athrow, 1) := by decide +kernel
theorem dX5_requirePlace_20 : decode cX5_requirePlace 20 = .ok (.return_, 1) := by decide +kernel
theorem dX5_requireTrack_0 : decode cX5_requireTrack 0 = .ok (.iload_n 0, 1) := by decide +kernel
theorem dX5_requireTrack_1 : decode cX5_requireTrack 1 = .ok (.ifCond .lt 8, 3) := by decide +kernel
theorem dX5_requireTrack_4 : decode cX5_requireTrack 4 = .ok (.iload_n 0, 1) := by decide +kernel
theorem dX5_requireTrack_5 : decode cX5_requireTrack 5 = .ok (.iconst 4, 1) := by decide +kernel
theorem dX5_requireTrack_6 : decode cX5_requireTrack 6 = .ok (.if_icmp .lt 13, 3) := by decide +kernel
theorem dX5_requireTrack_9 : decode cX5_requireTrack 9 = .ok (.new 39, 3) := by decide +kernel
theorem dX5_requireTrack_12 : decode cX5_requireTrack 12 = .ok (.dup, 1) := by decide +kernel
theorem dX5_requireTrack_13 : decode cX5_requireTrack 13 = .ok (.ldc 234, 2) := by decide +kernel
theorem dX5_requireTrack_15 : decode cX5_requireTrack 15 = .ok (.invokespecial 43, 3) := by decide +kernel
theorem dX5_requireTrack_18 : decode cX5_requireTrack 18 = .ok (.athrow, 1) := by decide +kernel
theorem dX5_requireTrack_19 : decode cX5_requireTrack 19 = .ok (.return_, 1) := by decide +kernel
theorem dX5_write_0 : decode cX5_write 0 = .ok (.aload_n 0, 1) := by decide +kernel
theorem dX5_write_1 : decode cX5_write 1 = .ok (.getfield 19, 3) := by decide +kernel
theorem dX5_write_4 : decode cX5_write 4 = .ok (.invokevirtual 48, 3) := by decide +kernel
theorem dX5_write_7 : decode cX5_write 7 = .ok (.bipush 40, 2) := by decide +kernel
theorem dX5_write_9 : decode cX5_write 9 = .ok (.if_icmp .lt 13, 3) := by decide +kernel
theorem dX5_write_12 : decode cX5_write 12 = .ok (.new 52, 3) := by decide +kernel
theorem dX5_write_15 : decode cX5_write 15 = .ok (.dup, 1) := by decide +kernel
theorem dX5_write_16 : decode cX5_write 16 = .ok (.ldc 236, 2) := by decide +kernel
theorem dX5_write_18 : decode cX5_write 18 = .ok (.invokespecial 56, 3) := by decide +kernel
theorem dX5_write_21 : decode cX5_write 21 = .ok (.athrow, 1) := by decide +kernel
theorem dX5_write_22 : decode cX5_write 22 = .ok (.aload_n 1, 1) := by decide +kernel
theorem dX5_write_23 : decode cX5_write 23 = .ok (.getfield 102, 3) := by decide +kernel
theorem dX5_write_26 : decode cX5_write 26 = .ok (.aload_n 1, 1) := by decide +kernel
theorem dX5_write_27 : decode cX5_write 27 = .ok (.invokevirtual 238, 3) := by decide +kernel
theorem dX5_write_30 : decode cX5_write 30 = .ok (.ifCond .ne 13, 3) := by decide +kernel
theorem dX5_write_33 : decode cX5_write 33 = .ok (.new 52, 3) := by decide +kernel
theorem dX5_write_36 : decode cX5_write 36 = .ok (.dup, 1) := by decide +kernel
theorem dX5_write_37 : decode cX5_write 37 = .ok (.ldc 241, 2) := by decide +kernel
theorem dX5_write_39 : decode cX5_write 39 = .ok (.invokespecial 56, 3) := by decide +kernel
theorem dX5_write_42 : decode cX5_write 42 = .ok (.athrow, 1) := by decide +kernel
theorem dX5_write_43 : decode cX5_write 43 = .ok (.aload_n 0, 1) := by decide +kernel
theorem dX5_write_44 : decode cX5_write 44 = .ok (.getfield 19, 3) := by decide +kernel
theorem dX5_write_47 : decode cX5_write 47 = .ok (.invokevirtual 48, 3) := by decide +kernel
theorem dX5_write_50 : decode cX5_write 50 = .ok (.istore_n 2, 1) := by decide +kernel
theorem dX5_write_51 : decode cX5_write 51 = .ok (.aload_n 0, 1) := by decide +kernel
theorem dX5_write_52 : decode cX5_write 52 = .ok (.getfield 19, 3) := by decide +kernel
theorem dX5_write_55 : decode cX5_write 55 = .ok (.aload_n 1, 1) := by decide +kernel
theorem dX5_write_56 : decode cX5_write 56 = .ok (.invokevirtual 62, 3) := by decide +kernel
theorem dX5_write_59 : decode cX5_write 59 = .ok (.pop, 1) := by decide +kernel
theorem dX5_write_60 : decode cX5_write 60 = .ok (.aload_n 0, 1) := by decide +kernel
theorem dX5_write_61 : decode cX5_write 61 = .ok (.invokevirtual 115, 3) := by decide +kernel
theorem dX5_write_64 : decode cX5_write 64 = .ok (.iload_n 2, 1) := by decide +kernel
theorem dX5_write_65 : decode cX5_write 65 = .ok (.ireturn, 1) := by decide +kernel
theorem dX5_forgetWhatWasFound_0 : decode cX5_forgetWhatWasFound 0 = .ok (.aload_n 0, 1) := by decide +kernel
theorem dX5_forgetWhatWasFound_1 : decode cX5_forgetWhatWasFound 1 = .ok (.iconst 0, 1) := by decide +kernel
theorem dX5_forgetWhatWasFound_2 : decode cX5_forgetWhatWasFound 2 = .ok (.putfield 29, 3) := by decide +kernel
theorem dX5_forgetWhatWasFound_5 : decode cX5_forgetWhatWasFound 5 = .ok (.aload_n 0, 1) := by decide +kernel
theorem dX5_forgetWhatWasFound_6 : decode cX5_forgetWhatWasFound 6 = .ok (.iconst 0, 1) := by decide +kernel
theorem dX5_forgetWhatWasFound_7 : decode cX5_forgetWhatWasFound 7 = .ok (.putfield 33, 3) := by decide +kernel
theorem dX5_forgetWhatWasFound_10 : decode cX5_forgetWhatWasFound 10 = .ok (.return_, 1) := by decide +kernel
theorem dX5_tellOfStay_0 : decode cX5_tellOfStay 0 = .ok (.iload_n 1, 1) := by decide +kernel
theorem dX5_tellOfStay_1 : decode cX5_tellOfStay 1 = .ok (.tableswitch 42 0 2 #[27, 32, 37], 27) := by decide +kernel
theorem dX5_tellOfStay_28 : decode cX5_tellOfStay 28 = .ok (.aload_n 0, 1) := by decide +kernel
theorem dX5_tellOfStay_29 : decode cX5_tellOfStay 29 = .ok (.getfield 161, 3) := by decide +kernel
theorem dX5_tellOfStay_32 : decode cX5_tellOfStay 32 = .ok (.ireturn, 1) := by decide +kernel
theorem dX5_tellOfStay_33 : decode cX5_tellOfStay 33 = .ok (.aload_n 0, 1) := by decide +kernel
theorem dX5_tellOfStay_34 : decode cX5_tellOfStay 34 = .ok (.getfield 158, 3) := by decide +kernel
theorem dX5_tellOfStay_37 : decode cX5_tellOfStay 37 = .ok (.ireturn, 1) := by decide +kernel
theorem dX5_tellOfStay_38 : decode cX5_tellOfStay 38 = .ok (.aload_n 0, 1) := by decide +kernel
theorem dX5_tellOfStay_39 : decode cX5_tellOfStay 39 = .ok (.getfield 173, 3) := by decide +kernel
theorem dX5_tellOfStay_42 : decode cX5_tellOfStay 42 = .ok (.ireturn, 1) := by decide +kernel
theorem dX5_tellOfStay_43 : decode cX5_tellOfStay 43 = .ok (.new 121, 3) := by decide +kernel
theorem dX5_tellOfStay_46 : decode cX5_tellOfStay 46 = .ok (.dup, 1) := by decide +kernel
theorem dX5_tellOfStay_47 : decode cX5_tellOfStay 47 = .ok (.ldc_w 260, 3) := by decide +kernel
theorem dX5_tellOfStay_50 : decode cX5_tellOfStay 50 = .ok (.invokespecial 125, 3) := by decide +kernel
theorem dX5_tellOfStay_53 : decode cX5_tellOfStay 53 = .ok (.athrow, 1) := by decide +kernel
theorem dX5_distance_0 : decode cX5_distance 0 = .ok (.iload_n 0, 1) := by decide +kernel
theorem dX5_distance_1 : decode cX5_distance 1 = .ok (.iload_n 1, 1) := by decide +kernel
theorem dX5_distance_2 : decode cX5_distance 2 = .ok (.isub, 1) := by decide +kernel
theorem dX5_distance_3 : decode cX5_distance 3 = .ok (.invokestatic 199, 3) := by decide +kernel
theorem dX5_distance_6 : decode cX5_distance 6 = .ok (.ireturn, 1) := by decide +kernel
theorem dX5_findCasting_0 : decode cX5_findCasting 0 = .ok (.aload_n 0, 1) := by decide +kernel
theorem dX5_findCasting_1 : decode cX5_findCasting 1 = .ok (.getfield 29, 3) := by decide +kernel
theorem dX5_findCasting_4 : decode cX5_findCasting 4 = .ok (.ifCond .eq 4, 3) := by decide +kernel
theorem dX5_findCasting_7 : decode cX5_findCasting 7 = .ok (.return_, 1) := by decide +kernel
theorem dX5_findCasting_8 : decode cX5_findCasting 8 = .ok (.iconst 0, 1) := by decide +kernel
theorem dX5_findCasting_9 : decode cX5_findCasting 9 = .ok (.istore_n 1, 1) := by decide +kernel
theorem dX5_findCasting_10 : decode cX5_findCasting 10 = .ok (.iload_n 1, 1) := by decide +kernel
theorem dX5_findCasting_11 : decode cX5_findCasting 11 = .ok (.aload_n 0, 1) := by decide +kernel
theorem dX5_findCasting_12 : decode cX5_findCasting 12 = .ok (.getfield 16, 3) := by decide +kernel
theorem dX5_findCasting_15 : decode cX5_findCasting 15 = .ok (.invokevirtual 48, 3) := by decide +kernel
theorem dX5_findCasting_18 : decode cX5_findCasting 18 = .ok (.if_icmp .ge 23, 3) := by decide +kernel
theorem dX5_findCasting_21 : decode cX5_findCasting 21 = .ok (.aload_n 0, 1) := by decide +kernel
theorem dX5_findCasting_22 : decode cX5_findCasting 22 = .ok (.getfield 16, 3) := by decide +kernel
theorem dX5_findCasting_25 : decode cX5_findCasting 25 = .ok (.iload_n 1, 1) := by decide +kernel
theorem dX5_findCasting_26 : decode cX5_findCasting 26 = .ok (.invokevirtual 137, 3) := by decide +kernel
theorem dX5_findCasting_29 : decode cX5_findCasting 29 = .ok (.checkcast 74, 3) := by decide +kernel
theorem dX5_findCasting_32 : decode cX5_findCasting 32 = .ok (.invokevirtual 269, 3) := by decide +kernel
theorem dX5_findCasting_35 : decode cX5_findCasting 35 = .ok (.iinc 1 1, 3) := by decide +kernel
theorem dX5_findCasting_38 : decode cX5_findCasting 38 = .ok (.goto (-28), 3) := by decide +kernel
theorem dX5_findCasting_41 : decode cX5_findCasting 41 = .ok (.aload_n 0, 1) := by decide +kernel
theorem dX5_findCasting_42 : decode cX5_findCasting 42 = .ok (.invokevirtual 272, 3) := by decide +kernel
theorem dX5_findCasting_45 : decode cX5_findCasting 45 = .ok (.iconst 0, 1) := by decide +kernel
theorem dX5_findCasting_46 : decode cX5_findCasting 46 = .ok (.istore_n 1, 1) := by decide +kernel
theorem dX5_findCasting_47 : decode cX5_findCasting 47 = .ok (.iload_n 1, 1) := by decide +kernel
theorem dX5_findCasting_48 : decode cX5_findCasting 48 = .ok (.aload_n 0, 1) := by decide +kernel
theorem dX5_findCasting_49 : decode cX5_findCasting 49 = .ok (.getfield 22, 3) := by decide +kernel
theorem dX5_findCasting_52 : decode cX5_findCasting 52 = .ok (.invokevirtual 48, 3) := by decide +kernel
theorem dX5_findCasting_55 : decode cX5_findCasting 55 = .ok (.if_icmp .ge 24, 3) := by decide +kernel
theorem dX5_findCasting_58 : decode cX5_findCasting 58 = .ok (.aload_n 0, 1) := by decide +kernel
theorem dX5_findCasting_59 : decode cX5_findCasting 59 = .ok (.aload_n 0, 1) := by decide +kernel
theorem dX5_findCasting_60 : decode cX5_findCasting 60 = .ok (.getfield 22, 3) := by decide +kernel
theorem dX5_findCasting_63 : decode cX5_findCasting 63 = .ok (.iload_n 1, 1) := by decide +kernel
theorem dX5_findCasting_64 : decode cX5_findCasting 64 = .ok (.invokevirtual 137, 3) := by decide +kernel
theorem dX5_findCasting_67 : decode cX5_findCasting 67 = .ok (.checkcast 156, 3) := by decide +kernel
theorem dX5_findCasting_70 : decode cX5_findCasting 70 = .ok (.invokevirtual 275, 3) := by decide +kernel
theorem dX5_findCasting_73 : decode cX5_findCasting 73 = .ok (.iinc 1 1, 3) := by decide +kernel
theorem dX5_findCasting_76 : decode cX5_findCasting 76 = .ok (.goto (-29), 3) := by decide +kernel
theorem dX5_findCasting_79 : decode cX5_findCasting 79 = .ok (.aload_n 0, 1) := by decide +kernel
theorem dX5_findCasting_80 : decode cX5_findCasting 80 = .ok (.iconst 1, 1) := by decide +kernel
theorem dX5_findCasting_81 : decode cX5_findCasting 81 = .ok (.putfield 29, 3) := by decide +kernel
theorem dX5_findCasting_84 : decode cX5_findCasting 84 = .ok (.return_, 1) := by decide +kernel
theorem dX5_orderStays_0 : decode cX5_orderStays 0 = .ok (.aload_n 0, 1) := by decide +kernel
theorem dX5_orderStays_1 : decode cX5_orderStays 1 = .ok (.getfield 22, 3) := by decide +kernel
theorem dX5_orderStays_4 : decode cX5_orderStays 4 = .ok (.invokevirtual 279, 3) := by decide +kernel
theorem dX5_orderStays_7 : decode cX5_orderStays 7 = .ok (.iconst 0, 1) := by decide +kernel
theorem dX5_orderStays_8 : decode cX5_orderStays 8 = .ok (.istore_n 1, 1) := by decide +kernel
theorem dX5_orderStays_9 : decode cX5_orderStays 9 = .ok (.iload_n 1, 1) := by decide +kernel
theorem dX5_orderStays_10 : decode cX5_orderStays 10 = .ok (.aload_n 0, 1) := by decide +kernel
theorem dX5_orderStays_11 : decode cX5_orderStays 11 = .ok (.getfield 10, 3) := by decide +kernel
theorem dX5_orderStays_14 : decode cX5_orderStays 14 = .ok (.invokevirtual 48, 3) := by decide +kernel
theorem dX5_orderStays_17 : decode cX5_orderStays 17 = .ok (.if_icmp .ge 52, 3) := by decide +kernel
theorem dX5_orderStays_20 : decode cX5_orderStays 20 = .ok (.aload_n 0, 1) := by decide +kernel
theorem dX5_orderStays_21 : decode cX5_orderStays 21 = .ok (.getfield 10, 3) := by decide +kernel
theorem dX5_orderStays_24 : decode cX5_orderStays 24 = .ok (.iload_n 1, 1) := by decide +kernel
theorem dX5_orderStays_25 : decode cX5_orderStays 25 = .ok (.invokevirtual 137, 3) := by decide +kernel
theorem dX5_orderStays_28 : decode cX5_orderStays 28 = .ok (.checkcast 57, 3) := by decide +kernel
theorem dX5_orderStays_31 : decode cX5_orderStays 31 = .ok (.getfield 153, 3) := by decide +kernel
theorem dX5_orderStays_34 : decode cX5_orderStays 34 = .ok (.astore_n 2, 1) := by decide +kernel
theorem dX5_orderStays_35 : decode cX5_orderStays 35 = .ok (.iconst 0, 1) := by decide +kernel
theorem dX5_orderStays_36 : decode cX5_orderStays 36 = .ok (.istore_n 3, 1) := by decide +kernel
theorem dX5_orderStays_37 : decode cX5_orderStays 37 = .ok (.iload_n 3, 1) := by decide +kernel
theorem dX5_orderStays_38 : decode cX5_orderStays 38 = .ok (.aload_n 2, 1) := by decide +kernel
theorem dX5_orderStays_39 : decode cX5_orderStays 39 = .ok (.invokevirtual 48, 3) := by decide +kernel
theorem dX5_orderStays_42 : decode cX5_orderStays 42 = .ok (.if_icmp .ge 21, 3) := by decide +kernel
theorem dX5_orderStays_45 : decode cX5_orderStays 45 = .ok (.aload_n 0, 1) := by decide +kernel
theorem dX5_orderStays_46 : decode cX5_orderStays 46 = .ok (.aload_n 2, 1) := by decide +kernel
theorem dX5_orderStays_47 : decode cX5_orderStays 47 = .ok (.iload_n 3, 1) := by decide +kernel
theorem dX5_orderStays_48 : decode cX5_orderStays 48 = .ok (.invokevirtual 137, 3) := by decide +kernel
theorem dX5_orderStays_51 : decode cX5_orderStays 51 = .ok (.checkcast 156, 3) := by decide +kernel
theorem dX5_orderStays_54 : decode cX5_orderStays 54 = .ok (.invokevirtual 282, 3) := by decide +kernel
theorem dX5_orderStays_57 : decode cX5_orderStays 57 = .ok (.iinc 3 1, 3) := by decide +kernel
theorem dX5_orderStays_60 : decode cX5_orderStays 60 = .ok (.goto (-23), 3) := by decide +kernel
theorem dX5_orderStays_63 : decode cX5_orderStays 63 = .ok (.iinc 1 1, 3) := by decide +kernel
theorem dX5_orderStays_66 : decode cX5_orderStays 66 = .ok (.goto (-57), 3) := by decide +kernel
theorem dX5_orderStays_69 : decode cX5_orderStays 69 = .ok (.return_, 1) := by decide +kernel
theorem dX5_putInOrder_0 : decode cX5_putInOrder 0 = .ok (.aload_n 0, 1) := by decide +kernel
theorem dX5_putInOrder_1 : decode cX5_putInOrder 1 = .ok (.getfield 22, 3) := by decide +kernel
theorem dX5_putInOrder_4 : decode cX5_putInOrder 4 = .ok (.invokevirtual 48, 3) := by decide +kernel
theorem dX5_putInOrder_7 : decode cX5_putInOrder 7 = .ok (.istore_n 2, 1) := by decide +kernel
theorem dX5_putInOrder_8 : decode cX5_putInOrder 8 = .ok (.iload_n 2, 1) := by decide +kernel
theorem dX5_putInOrder_9 : decode cX5_putInOrder 9 = .ok (.ifCond .le 32, 3) := by decide +kernel
theorem dX5_putInOrder_12 : decode cX5_putInOrder 12 = .ok (.aload_n 0, 1) := by decide +kernel
theorem dX5_putInOrder_13 : decode cX5_putInOrder 13 = .ok (.getfield 22, 3) := by decide +kernel
theorem dX5_putInOrder_16 : decode cX5_putInOrder 16 = .ok (.iload_n 2, 1) := by decide +kernel
theorem dX5_putInOrder_17 : decode cX5_putInOrder 17 = .ok (.iconst 1, 1) := by decide +kernel
theorem dX5_putInOrder_18 : decode cX5_putInOrder 18 = .ok (.isub, 1) := by decide +kernel
theorem dX5_putInOrder_19 : decode cX5_putInOrder 19 = .ok (.invokevirtual 137, 3) := by decide +kernel
theorem dX5_putInOrder_22 : decode cX5_putInOrder 22 = .ok (.checkcast 156, 3) := by decide +kernel
theorem dX5_putInOrder_25 : decode cX5_putInOrder 25 = .ok (.getfield 161, 3) := by decide +kernel
theorem dX5_putInOrder_28 : decode cX5_putInOrder 28 = .ok (.aload_n 1, 1) := by decide +kernel
theorem dX5_putInOrder_29 : decode cX5_putInOrder 29 = .ok (.getfield 161, 3) := by decide +kernel
theorem dX5_putInOrder_32 : decode cX5_putInOrder 32 = .ok (.if_icmp .le 9, 3) := by decide +kernel
theorem dX5_putInOrder_35 : decode cX5_putInOrder 35 = .ok (.iinc 2 (-1), 3) := by decide +kernel
theorem dX5_putInOrder_38 : decode cX5_putInOrder 38 = .ok (.goto (-30), 3) := by decide +kernel
theorem dX5_putInOrder_41 : decode cX5_putInOrder 41 = .ok (.aload_n 0, 1) := by decide +kernel
theorem dX5_putInOrder_42 : decode cX5_putInOrder 42 = .ok (.getfield 22, 3) := by decide +kernel
theorem dX5_putInOrder_45 : decode cX5_putInOrder 45 = .ok (.iload_n 2, 1) := by decide +kernel
theorem dX5_putInOrder_46 : decode cX5_putInOrder 46 = .ok (.aload_n 1, 1) := by decide +kernel
theorem dX5_putInOrder_47 : decode cX5_putInOrder 47 = .ok (.invokevirtual 285, 3) := by decide +kernel
theorem dX5_putInOrder_50 : decode cX5_putInOrder 50 = .ok (.return_, 1) := by decide +kernel
theorem dX5_namePlayer_0 : decode cX5_namePlayer 0 = .ok (.aload_n 1, 1) := by decide +kernel
theorem dX5_namePlayer_1 : decode cX5_namePlayer 1 = .ok (.iconst (-1), 1) := by decide +kernel
theorem dX5_namePlayer_2 : decode cX5_namePlayer 2 = .ok (.putfield 173, 3) := by decide +kernel
theorem dX5_namePlayer_5 : decode cX5_namePlayer 5 = .ok (.iconst 0, 1) := by decide +kernel
theorem dX5_namePlayer_6 : decode cX5_namePlayer 6 = .ok (.istore_n 2, 1) := by decide +kernel
theorem dX5_namePlayer_7 : decode cX5_namePlayer 7 = .ok (.iload_n 2, 1) := by decide +kernel
theorem dX5_namePlayer_8 : decode cX5_namePlayer 8 = .ok (.aload_n 0, 1) := by decide +kernel
theorem dX5_namePlayer_9 : decode cX5_namePlayer 9 = .ok (.getfield 16, 3) := by decide +kernel
theorem dX5_namePlayer_12 : decode cX5_namePlayer 12 = .ok (.invokevirtual 48, 3) := by decide +kernel
theorem dX5_namePlayer_15 : decode cX5_namePlayer 15 = .ok (.if_icmp .ge 41, 3) := by decide +kernel
theorem dX5_namePlayer_18 : decode cX5_namePlayer 18 = .ok (.aload_n 0, 1) := by decide +kernel
theorem dX5_namePlayer_19 : decode cX5_namePlayer 19 = .ok (.getfield 16, 3) := by decide +kernel
theorem dX5_namePlayer_22 : decode cX5_namePlayer 22 = .ok (.iload_n 2, 1) := by decide +kernel
theorem dX5_namePlayer_23 : decode cX5_namePlayer 23 = .ok (.invokevirtual 137, 3) := by decide +kernel
theorem dX5_namePlayer_26 : decode cX5_namePlayer 26 = .ok (.checkcast 74, 3) := by decide +kernel
theorem dX5_namePlayer_29 : decode cX5_namePlayer 29 = .ok (.astore_n 3, 1) := by decide +kernel
theorem dX5_namePlayer_30 : decode cX5_namePlayer 30 = .ok (.aload_n 0, 1) := by decide +kernel
theorem dX5_namePlayer_31 : decode cX5_namePlayer 31 = .ok (.aload_n 3, 1) := by decide +kernel
theorem dX5_namePlayer_32 : decode cX5_namePlayer 32 = .ok (.aload_n 1, 1) := by decide +kernel
theorem dX5_namePlayer_33 : decode cX5_namePlayer 33 = .ok (.invokevirtual 288, 3) := by decide +kernel
theorem dX5_namePlayer_36 : decode cX5_namePlayer 36 = .ok (.ifCond .eq 14, 3) := by decide +kernel
theorem dX5_namePlayer_39 : decode cX5_namePlayer 39 = .ok (.aload_n 3, 1) := by decide +kernel
theorem dX5_namePlayer_40 : decode cX5_namePlayer 40 = .ok (.aload_n 1, 1) := by decide +kernel
theorem dX5_namePlayer_41 : decode cX5_namePlayer 41 = .ok (.invokevirtual 292, 3) := by decide +kernel
theorem dX5_namePlayer_44 : decode cX5_namePlayer 44 = .ok (.aload_n 1, 1) := by decide +kernel
theorem dX5_namePlayer_45 : decode cX5_namePlayer 45 = .ok (.iload_n 2, 1) := by decide +kernel
theorem dX5_namePlayer_46 : decode cX5_namePlayer 46 = .ok (.putfield 173, 3) := by decide +kernel
theorem dX5_namePlayer_49 : decode cX5_namePlayer 49 = .ok (.return_, 1) := by decide +kernel
theorem dX5_namePlayer_50 : decode cX5_namePlayer 50 = .ok (.iinc 2 1, 3) := by decide +kernel
theorem dX5_namePlayer_53 : decode cX5_namePlayer 53 = .ok (.goto (-46), 3) := by decide +kernel
theorem dX5_namePlayer_56 : decode cX5_namePlayer 56 = .ok (.return_, 1) := by decide +kernel
theorem dX5_canDo_0 : decode cX5_canDo 0 = .ok (.aload_n 0, 1) := by decide +kernel
theorem dX5_canDo_1 : decode cX5_canDo 1 = .ok (.aload_n 1, 1) := by decide +kernel
theorem dX5_canDo_2 : decode cX5_canDo 2 = .ok (.aload_n 2, 1) := by decide +kernel
theorem dX5_canDo_3 : decode cX5_canDo 3 = .ok (.invokevirtual 295, 3) := by decide +kernel
theorem dX5_canDo_6 : decode cX5_canDo 6 = .ok (.ifCond .ne 5, 3) := by decide +kernel
theorem dX5_canDo_9 : decode cX5_canDo 9 = .ok (.iconst 0, 1) := by decide +kernel
theorem dX5_canDo_10 : decode cX5_canDo 10 = .ok (.ireturn, 1) := by decide +kernel
theorem dX5_canDo_11 : decode cX5_canDo 11 = .ok (.aload_n 2, 1) := by decide +kernel
theorem dX5_canDo_12 : decode cX5_canDo 12 = .ok (.getfield 161, 3) := by decide +kernel
theorem dX5_canDo_15 : decode cX5_canDo 15 = .ok (.istore_n 3, 1) := by decide +kernel
theorem dX5_canDo_16 : decode cX5_canDo 16 = .ok (.iload_n 3, 1) := by decide +kernel
theorem dX5_canDo_17 : decode cX5_canDo 17 = .ok (.aload_n 2, 1) := by decide +kernel
theorem dX5_canDo_18 : decode cX5_canDo 18 = .ok (.getfield 158, 3) := by decide +kernel
theorem dX5_canDo_21 : decode cX5_canDo 21 = .ok (.if_icmp .ge 24, 3) := by decide +kernel
theorem dX5_canDo_24 : decode cX5_canDo 24 = .ok (.aload_n 0, 1) := by decide +kernel
theorem dX5_canDo_25 : decode cX5_canDo 25 = .ok (.aload_n 1, 1) := by decide +kernel
theorem dX5_canDo_26 : decode cX5_canDo 26 = .ok (.aload_n 2, 1) := by decide +kernel
theorem dX5_canDo_27 : decode cX5_canDo 27 = .ok (.getfield 298, 3) := by decide +kernel
theorem dX5_canDo_30 : decode cX5_canDo 30 = .ok (.iload_n 3, 1) := by decide +kernel
theorem dX5_canDo_31 : decode cX5_canDo 31 = .ok (.invokevirtual 299, 3) := by decide +kernel
theorem dX5_canDo_34 : decode cX5_canDo 34 = .ok (.ifCond .ne 5, 3) := by decide +kernel
theorem dX5_canDo_37 : decode cX5_canDo 37 = .ok (.iconst 0, 1) := by decide +kernel
theorem dX5_canDo_38 : decode cX5_canDo 38 = .ok (.ireturn, 1) := by decide +kernel
theorem dX5_canDo_39 : decode cX5_canDo 39 = .ok (.iinc 3 1, 3) := by decide +kernel
theorem dX5_canDo_42 : decode cX5_canDo 42 = .ok (.goto (-26), 3) := by decide +kernel
theorem dX5_canDo_45 : decode cX5_canDo 45 = .ok (.iconst 1, 1) := by decide +kernel
theorem dX5_canDo_46 : decode cX5_canDo 46 = .ok (.ireturn, 1) := by decide +kernel
theorem dX5_canComeToBeginning_0 : decode cX5_canComeToBeginning 0 = .ok (.aload_n 2, 1) := by decide +kernel
theorem dX5_canComeToBeginning_1 : decode cX5_canComeToBeginning 1 = .ok (.getfield 298, 3) := by decide +kernel
theorem dX5_canComeToBeginning_4 : decode cX5_canComeToBeginning 4 = .ok (.getfield 130, 3) := by decide +kernel
theorem dX5_canComeToBeginning_7 : decode cX5_canComeToBeginning 7 = .ok (.aload_n 2, 1) := by decide +kernel
theorem dX5_canComeToBeginning_8 : decode cX5_canComeToBeginning 8 = .ok (.getfield 161, 3) := by decide +kernel
theorem dX5_canComeToBeginning_11 : decode cX5_canComeToBeginning 11 = .ok (.iaload, 1) := by decide +kernel
theorem dX5_canComeToBeginning_12 : decode cX5_canComeToBeginning 12 = .ok (.istore_n 3, 1) := by decide +kernel
theorem dX5_canComeToBeginning_13 : decode cX5_canComeToBeginning 13 = .ok (.aload_n 2, 1) := by decide +kernel
theorem dX5_canComeToBeginning_14 : decode cX5_canComeToBeginning 14 = .ok (.getfield 161, 3) := by decide +kernel
theorem dX5_canComeToBeginning_17 : decode cX5_canComeToBeginning 17 = .ok (.iconst 1, 1) := by decide +kernel
theorem dX5_canComeToBeginning_18 : decode cX5_canComeToBeginning 18 = .ok (.isub, 1) := by decide +kernel
theorem dX5_canComeToBeginning_19 : decode cX5_canComeToBeginning 19 = .ok (.istore 4, 2) := by decide +kernel
theorem dX5_canComeToBeginning_21 : decode cX5_canComeToBeginning 21 = .ok (.iload 4, 2) := by decide +kernel
theorem dX5_canComeToBeginning_23 : decode cX5_canComeToBeginning 23 = .ok (.ifCond .lt 46, 3) := by decide +kernel
theorem dX5_canComeToBeginning_26 : decode cX5_canComeToBeginning 26 = .ok (.aload_n 1, 1) := by decide +kernel
theorem dX5_canComeToBeginning_27 : decode cX5_canComeToBeginning 27 = .ok (.getfield 180, 3) := by decide +kernel
theorem dX5_canComeToBeginning_30 : decode cX5_canComeToBeginning 30 = .ok (.iload 4, 2) := by decide +kernel
theorem dX5_canComeToBeginning_32 : decode cX5_canComeToBeginning 32 = .ok (.iaload, 1) := by decide +kernel
theorem dX5_canComeToBeginning_33 : decode cX5_canComeToBeginning 33 = .ok (.ifCond .eq 30, 3) := by decide +kernel
theorem dX5_canComeToBeginning_36 : decode cX5_canComeToBeginning 36 = .ok (.aload_n 0, 1) := by decide +kernel
theorem dX5_canComeToBeginning_37 : decode cX5_canComeToBeginning 37 = .ok (.aload_n 1, 1) := by decide +kernel
theorem dX5_canComeToBeginning_38 : decode cX5_canComeToBeginning 38 = .ok (.iload 4, 2) := by decide +kernel
theorem dX5_canComeToBeginning_40 : decode cX5_canComeToBeginning 40 = .ok (.invokevirtual 303, 3) := by decide +kernel
theorem dX5_canComeToBeginning_43 : decode cX5_canComeToBeginning 43 = .ok (.iload_n 3, 1) := by decide +kernel
theorem dX5_canComeToBeginning_44 : decode cX5_canComeToBeginning 44 = .ok (.invokestatic 307, 3) := by decide +kernel
theorem dX5_canComeToBeginning_47 : decode cX5_canComeToBeginning 47 = .ok (.aload_n 2, 1) := by decide +kernel
theorem dX5_canComeToBeginning_48 : decode cX5_canComeToBeginning 48 = .ok (.getfield 161, 3) := by decide +kernel
theorem dX5_canComeToBeginning_51 : decode cX5_canComeToBeginning 51 = .ok (.iload 4, 2) := by decide +kernel
theorem dX5_canComeToBeginning_53 : decode cX5_canComeToBeginning 53 = .ok (.isub, 1) := by decide +kernel
theorem dX5_canComeToBeginning_54 : decode cX5_canComeToBeginning 54 = .ok (.if_icmp .gt 7, 3) := by decide +kernel
theorem dX5_canComeToBeginning_57 : decode cX5_canComeToBeginning 57 = .ok (.iconst 1, 1) := by decide +kernel
theorem dX5_canComeToBeginning_58 : decode cX5_canComeToBeginning 58 = .ok (.goto 4, 3) := by decide +kernel
theorem dX5_canComeToBeginning_61 : decode cX5_canComeToBeginning 61 = .ok (.iconst 0, 1) := by decide +kernel
theorem dX5_canComeToBeginning_62 : decode cX5_canComeToBeginning 62 = .ok (.ireturn, 1) := by decide +kernel
theorem dX5_canComeToBeginning_63 : decode cX5_canComeToBeginning 63 = .ok (.iinc 4 (-1), 3) := by decide +kernel
theorem dX5_canComeToBeginning_66 : decode cX5_canComeToBeginning 66 = .ok (.goto (-45), 3) := by decide +kernel
theorem dX5_canComeToBeginning_69 : decode cX5_canComeToBeginning 69 = .ok (.aload_n 1, 1) := by decide +kernel
theorem dX5_canComeToBeginning_70 : decode cX5_canComeToBeginning 70 = .ok (.getfield 311, 3) := by decide +kernel
theorem dX5_canComeToBeginning_73 : decode cX5_canComeToBeginning 73 = .ok (.iload_n 3, 1) := by decide +kernel
theorem dX5_canComeToBeginning_74 : decode cX5_canComeToBeginning 74 = .ok (.invokestatic 307, 3) := by decide +kernel
theorem dX5_canComeToBeginning_77 : decode cX5_canComeToBeginning 77 = .ok (.aload_n 2, 1) := by decide +kernel
theorem dX5_canComeToBeginning_78 : decode cX5_canComeToBeginning 78 = .ok (.getfield 161, 3) := by decide +kernel
theorem dX5_canComeToBeginning_81 : decode cX5_canComeToBeginning 81 = .ok (.if_icmp .gt 7, 3) := by decide +kernel
theorem dX5_canComeToBeginning_84 : decode cX5_canComeToBeginning 84 = .ok (.iconst 1, 1) := by decide +kernel
theorem dX5_canComeToBeginning_85 : decode cX5_canComeToBeginning 85 = .ok (.goto 4, 3) := by decide +kernel
theorem dX5_canComeToBeginning_88 : decode cX5_canComeToBeginning 88 = .ok (.iconst 0, 1) := by decide +kernel
theorem dX5_canComeToBeginning_89 : decode cX5_canComeToBeginning 89 = .ok (.ireturn, 1) := by decide +kernel
theorem dX5_placeOfHeld_0 : decode cX5_placeOfHeld 0 = .ok (.iconst 0, 1) := by decide +kernel
theorem dX5_placeOfHeld_1 : decode cX5_placeOfHeld 1 = .ok (.istore_n 3, 1) := by decide +kernel
theorem dX5_placeOfHeld_2 : decode cX5_placeOfHeld 2 = .ok (.iload_n 3, 1) := by decide +kernel
theorem dX5_placeOfHeld_3 : decode cX5_placeOfHeld 3 = .ok (.aload_n 0, 1) := by decide +kernel
theorem dX5_placeOfHeld_4 : decode cX5_placeOfHeld 4 = .ok (.getfield 10, 3) := by decide +kernel
theorem dX5_placeOfHeld_7 : decode cX5_placeOfHeld 7 = .ok (.invokevirtual 48, 3) := by decide +kernel
theorem dX5_placeOfHeld_10 : decode cX5_placeOfHeld 10 = .ok (.if_icmp .ge 45, 3) := by decide +kernel
theorem dX5_placeOfHeld_13 : decode cX5_placeOfHeld 13 = .ok (.aload_n 1, 1) := by decide +kernel
theorem dX5_placeOfHeld_14 : decode cX5_placeOfHeld 14 = .ok (.aload_n 0, 1) := by decide +kernel
theorem dX5_placeOfHeld_15 : decode cX5_placeOfHeld 15 = .ok (.getfield 10, 3) := by decide +kernel
theorem dX5_placeOfHeld_18 : decode cX5_placeOfHeld 18 = .ok (.iload_n 3, 1) := by decide +kernel
theorem dX5_placeOfHeld_19 : decode cX5_placeOfHeld 19 = .ok (.invokevirtual 137, 3) := by decide +kernel
theorem dX5_placeOfHeld_22 : decode cX5_placeOfHeld 22 = .ok (.checkcast 57, 3) := by decide +kernel
theorem dX5_placeOfHeld_25 : decode cX5_placeOfHeld 25 = .ok (.iload_n 2, 1) := by decide +kernel
theorem dX5_placeOfHeld_26 : decode cX5_placeOfHeld 26 = .ok (.invokevirtual 314, 3) := by decide +kernel
theorem dX5_placeOfHeld_29 : decode cX5_placeOfHeld 29 = .ok (.ifCond .eq 20, 3) := by decide +kernel
theorem dX5_placeOfHeld_32 : decode cX5_placeOfHeld 32 = .ok (.aload_n 0, 1) := by decide +kernel
theorem dX5_placeOfHeld_33 : decode cX5_placeOfHeld 33 = .ok (.getfield 10, 3) := by decide +kernel
theorem dX5_placeOfHeld_36 : decode cX5_placeOfHeld 36 = .ok (.iload_n 3, 1) := by decide +kernel
theorem dX5_placeOfHeld_37 : decode cX5_placeOfHeld 37 = .ok (.invokevirtual 137, 3) := by decide +kernel
theorem dX5_placeOfHeld_40 : decode cX5_placeOfHeld 40 = .ok (.checkcast 57, 3) := by decide +kernel
theorem dX5_placeOfHeld_43 : decode cX5_placeOfHeld 43 = .ok (.getfield 130, 3) := by decide +kernel
theorem dX5_placeOfHeld_46 : decode cX5_placeOfHeld 46 = .ok (.iload_n 2, 1) := by decide +kernel
theorem dX5_placeOfHeld_47 : decode cX5_placeOfHeld 47 = .ok (.iaload, 1) := by decide +kernel
theorem dX5_placeOfHeld_48 : decode cX5_placeOfHeld 48 = .ok (.ireturn, 1) := by decide +kernel
theorem dX5_placeOfHeld_49 : decode cX5_placeOfHeld 49 = .ok (.iinc 3 1, 3) := by decide +kernel
theorem dX5_placeOfHeld_52 : decode cX5_placeOfHeld 52 = .ok (.goto (-50), 3) := by decide +kernel
theorem dX5_placeOfHeld_55 : decode cX5_placeOfHeld 55 = .ok (.aload_n 1, 1) := by decide +kernel
theorem dX5_placeOfHeld_56 : decode cX5_placeOfHeld 56 = .ok (.getfield 311, 3) := by decide +kernel
theorem dX5_placeOfHeld_59 : decode cX5_placeOfHeld 59 = .ok (.ireturn, 1) := by decide +kernel
theorem dX5_canHold_0 : decode cX5_canHold 0 = .ok (.aload_n 1, 1) := by decide +kernel
theorem dX5_canHold_1 : decode cX5_canHold 1 = .ok (.getfield 180, 3) := by decide +kernel
theorem dX5_canHold_4 : decode cX5_canHold 4 = .ok (.iload_n 3, 1) := by decide +kernel
theorem dX5_canHold_5 : decode cX5_canHold 5 = .ok (.iaload, 1) := by decide +kernel
theorem dX5_canHold_6 : decode cX5_canHold 6 = .ok (.ifCond .ne 20, 3) := by decide +kernel
theorem dX5_canHold_9 : decode cX5_canHold 9 = .ok (.aload_n 2, 1) := by decide +kernel
theorem dX5_canHold_10 : decode cX5_canHold 10 = .ok (.getfield 318, 3) := by decide +kernel
theorem dX5_canHold_13 : decode cX5_canHold 13 = .ok (.aload_n 1, 1) := by decide +kernel
theorem dX5_canHold_14 : decode cX5_canHold 14 = .ok (.getfield 321, 3) := by decide +kernel
theorem dX5_canHold_17 : decode cX5_canHold 17 = .ok (.if_icmp .gt 7, 3) := by decide +kernel
theorem dX5_canHold_20 : decode cX5_canHold 20 = .ok (.iconst 1, 1) := by decide +kernel
theorem dX5_canHold_21 : decode cX5_canHold 21 = .ok (.goto 4, 3) := by decide +kernel
theorem dX5_canHold_24 : decode cX5_canHold 24 = .ok (.iconst 0, 1) := by decide +kernel
theorem dX5_canHold_25 : decode cX5_canHold 25 = .ok (.ireturn, 1) := by decide +kernel
theorem dX5_canHold_26 : decode cX5_canHold 26 = .ok (.aload_n 2, 1) := by decide +kernel
theorem dX5_canHold_27 : decode cX5_canHold 27 = .ok (.getfield 324, 3) := by decide +kernel
theorem dX5_canHold_30 : decode cX5_canHold 30 = .ok (.istore 4, 2) := by decide +kernel
theorem dX5_canHold_32 : decode cX5_canHold 32 = .ok (.aload_n 2, 1) := by decide +kernel
theorem dX5_canHold_33 : decode cX5_canHold 33 = .ok (.getfield 318, 3) := by decide +kernel
theorem dX5_canHold_36 : decode cX5_canHold 36 = .ok (.istore 5, 2) := by decide +kernel
theorem dX5_canHold_38 : decode cX5_canHold 38 = .ok (.iconst 0, 1) := by decide +kernel
theorem dX5_canHold_39 : decode cX5_canHold 39 = .ok (.istore 6, 2) := by decide +kernel
theorem dX5_canHold_41 : decode cX5_canHold 41 = .ok (.iload 6, 2) := by decide +kernel
theorem dX5_canHold_43 : decode cX5_canHold 43 = .ok (.aload_n 0, 1) := by decide +kernel
theorem dX5_canHold_44 : decode cX5_canHold 44 = .ok (.getfield 10, 3) := by decide +kernel
theorem dX5_canHold_47 : decode cX5_canHold 47 = .ok (.invokevirtual 48, 3) := by decide +kernel
theorem dX5_canHold_50 : decode cX5_canHold 50 = .ok (.if_icmp .ge 71, 3) := by decide +kernel
theorem dX5_canHold_53 : decode cX5_canHold 53 = .ok (.aload_n 0, 1) := by decide +kernel
theorem dX5_canHold_54 : decode cX5_canHold 54 = .ok (.getfield 10, 3) := by decide +kernel
theorem dX5_canHold_57 : decode cX5_canHold 57 = .ok (.iload 6, 2) := by decide +kernel
theorem dX5_canHold_59 : decode cX5_canHold 59 = .ok (.invokevirtual 137, 3) := by decide +kernel
theorem dX5_canHold_62 : decode cX5_canHold 62 = .ok (.checkcast 57, 3) := by decide +kernel
theorem dX5_canHold_65 : decode cX5_canHold 65 = .ok (.astore 7, 2) := by decide +kernel
theorem dX5_canHold_67 : decode cX5_canHold 67 = .ok (.aload_n 1, 1) := by decide +kernel
theorem dX5_canHold_68 : decode cX5_canHold 68 = .ok (.aload 7, 2) := by decide +kernel
theorem dX5_canHold_70 : decode cX5_canHold 70 = .ok (.iload_n 3, 1) := by decide +kernel
theorem dX5_canHold_71 : decode cX5_canHold 71 = .ok (.invokevirtual 314, 3) := by decide +kernel
theorem dX5_canHold_74 : decode cX5_canHold 74 = .ok (.ifCond .eq 41, 3) := by decide +kernel
theorem dX5_canHold_77 : decode cX5_canHold 77 = .ok (.iload 4, 2) := by decide +kernel
theorem dX5_canHold_79 : decode cX5_canHold 79 = .ok (.aload 7, 2) := by decide +kernel
theorem dX5_canHold_81 : decode cX5_canHold 81 = .ok (.getfield 324, 3) := by decide +kernel
theorem dX5_canHold_84 : decode cX5_canHold 84 = .ok (.iadd, 1) := by decide +kernel
theorem dX5_canHold_85 : decode cX5_canHold 85 = .ok (.istore 4, 2) := by decide +kernel
theorem dX5_canHold_87 : decode cX5_canHold 87 = .ok (.iload 5, 2) := by decide +kernel
theorem dX5_canHold_89 : decode cX5_canHold 89 = .ok (.aload 7, 2) := by decide +kernel
theorem dX5_canHold_91 : decode cX5_canHold 91 = .ok (.getfield 318, 3) := by decide +kernel
theorem dX5_canHold_94 : decode cX5_canHold 94 = .ok (.iadd, 1) := by decide +kernel
theorem dX5_canHold_95 : decode cX5_canHold 95 = .ok (.istore 5, 2) := by decide +kernel
theorem dX5_canHold_97 : decode cX5_canHold 97 = .ok (.aload 7, 2) := by decide +kernel
theorem dX5_canHold_99 : decode cX5_canHold 99 = .ok (.getfield 130, 3) := by decide +kernel
theorem dX5_canHold_102 : decode cX5_canHold 102 = .ok (.iload_n 3, 1) := by decide +kernel
theorem dX5_canHold_103 : decode cX5_canHold 103 = .ok (.iaload, 1) := by decide +kernel
theorem dX5_canHold_104 : decode cX5_canHold 104 = .ok (.aload_n 2, 1) := by decide +kernel
theorem dX5_canHold_105 : decode cX5_canHold 105 = .ok (.getfield 130, 3) := by decide +kernel
theorem dX5_canHold_108 : decode cX5_canHold 108 = .ok (.iload_n 3, 1) := by decide +kernel
theorem dX5_canHold_109 : decode cX5_canHold 109 = .ok (.iaload, 1) := by decide +kernel
theorem dX5_canHold_110 : decode cX5_canHold 110 = .ok (.if_icmp .eq 5, 3) := by decide +kernel
theorem dX5_canHold_113 : decode cX5_canHold 113 = .ok (.iconst 0, 1) := by decide +kernel
theorem dX5_canHold_114 : decode cX5_canHold 114 = .ok (.ireturn, 1) := by decide +kernel
theorem dX5_canHold_115 : decode cX5_canHold 115 = .ok (.iinc 6 1, 3) := by decide +kernel
theorem dX5_canHold_118 : decode cX5_canHold 118 = .ok (.goto (-77), 3) := by decide +kernel
theorem dX5_canHold_121 : decode cX5_canHold 121 = .ok (.iload 4, 2) := by decide +kernel
theorem dX5_canHold_123 : decode cX5_canHold 123 = .ok (.iconst 2, 1) := by decide +kernel
theorem dX5_canHold_124 : decode cX5_canHold 124 = .ok (.if_icmp .gt 16, 3) := by decide +kernel
theorem dX5_canHold_127 : decode cX5_canHold 127 = .ok (.iload 5, 2) := by decide +kernel
theorem dX5_canHold_129 : decode cX5_canHold 129 = .ok (.aload_n 1, 1) := by decide +kernel
theorem dX5_canHold_130 : decode cX5_canHold 130 = .ok (.getfield 321, 3) := by decide +kernel
theorem dX5_canHold_133 : decode cX5_canHold 133 = .ok (.if_icmp .gt 7, 3) := by decide +kernel
theorem dX5_canHold_136 : decode cX5_canHold 136 = .ok (.iconst 1, 1) := by decide +kernel
theorem dX5_canHold_137 : decode cX5_canHold 137 = .ok (.goto 4, 3) := by decide +kernel
theorem dX5_canHold_140 : decode cX5_canHold 140 = .ok (.iconst 0, 1) := by decide +kernel
theorem dX5_canHold_141 : decode cX5_canHold 141 = .ok (.ireturn, 1) := by decide +kernel
theorem dJxa1e45_init_da8c8_0 : decode cJxa1e45_init_da8c8 0 = .ok (.aload_n 0, 1) := by decide +kernel
theorem dJxa1e45_init_da8c8_1 : decode cJxa1e45_init_da8c8 1 = .ok (.invokespecial 1, 3) := by decide +kernel
theorem dJxa1e45_init_da8c8_4 : decode cJxa1e45_init_da8c8 4 = .ok (.return_, 1) := by decide +kernel
theorem dJxc12de_init_da8c8_0 : decode cJxc12de_init_da8c8 0 = .ok (.aload_n 0, 1) := by decide +kernel
theorem dJxc12de_init_da8c8_1 : decode cJxc12de_init_da8c8 1 = .ok (.invokespecial 1, 3) := by decide +kernel
theorem dJxc12de_init_da8c8_4 : decode cJxc12de_init_da8c8 4 = .ok (.aload_n 0, 1) := by decide +kernel
theorem dJxc12de_init_da8c8_5 : decode cJxc12de_init_da8c8 5 = .ok (.iconst 0, 1) := by decide +kernel
theorem dJxc12de_init_da8c8_6 : decode cJxc12de_init_da8c8 6 = .ok (.putfield 7, 3) := by decide +kernel
theorem dJxc12de_init_da8c8_9 : decode cJxc12de_init_da8c8 9 = .ok (.return_, 1) := by decide +kernel
theorem dJx4a65c_init_da8c8_0 : decode cJx4a65c_init_da8c8 0 = .ok (.aload_n 0, 1) := by decide +kernel
theorem dJx4a65c_init_da8c8_1 : decode cJx4a65c_init_da8c8 1 = .ok (.invokespecial 1, 3) := by decide +kernel
theorem dJx4a65c_init_da8c8_4 : decode cJx4a65c_init_da8c8 4 = .ok (.aload_n 0, 1) := by decide +kernel
theorem dJx4a65c_init_da8c8_5 : decode cJx4a65c_init_da8c8 5 = .ok (.getstatic 39, 3) := by decide +kernel
theorem dJx4a65c_init_da8c8_8 : decode cJx4a65c_init_da8c8 8 = .ok (.putfield 9, 3) := by decide +kernel
theorem dJx4a65c_init_da8c8_11 : decode cJx4a65c_init_da8c8 11 = .ok (.return_, 1) := by decide +kernel
theorem dJx4a65c_grow_92f84_0 : decode cJx4a65c_grow_92f84 0 = .ok (.aload_n 0, 1) := by decide +kernel
theorem dJx4a65c_grow_92f84_1 : decode cJx4a65c_grow_92f84 1 = .ok (.getfield 9, 3) := by decide +kernel
theorem dJx4a65c_grow_92f84_4 : decode cJx4a65c_grow_92f84 4 = .ok (.arraylength, 1) := by decide +kernel
theorem dJx4a65c_grow_92f84_5 : decode cJx4a65c_grow_92f84 5 = .ok (.istore_n 2, 1) := by decide +kernel
theorem dJx4a65c_grow_92f84_6 : decode cJx4a65c_grow_92f84 6 = .ok (.iload_n 2, 1) := by decide +kernel
theorem dJx4a65c_grow_92f84_7 : decode cJx4a65c_grow_92f84 7 = .ok (.ifCond .gt 13, 3) := by decide +kernel
theorem dJx4a65c_grow_92f84_10 : decode cJx4a65c_grow_92f84 10 = .ok (.aload_n 0, 1) := by decide +kernel
theorem dJx4a65c_grow_92f84_11 : decode cJx4a65c_grow_92f84 11 = .ok (.getfield 9, 3) := by decide +kernel
theorem dJx4a65c_grow_92f84_14 : decode cJx4a65c_grow_92f84 14 = .ok (.getstatic 39, 3) := by decide +kernel
theorem dJx4a65c_grow_92f84_17 : decode cJx4a65c_grow_92f84 17 = .ok (.if_acmp .eq 28, 3) := by decide +kernel
theorem dJx4a65c_grow_92f84_20 : decode cJx4a65c_grow_92f84 20 = .ok (.iload_n 2, 1) := by decide +kernel
theorem dJx4a65c_grow_92f84_21 : decode cJx4a65c_grow_92f84 21 = .ok (.iload_n 1, 1) := by decide +kernel
theorem dJx4a65c_grow_92f84_22 : decode cJx4a65c_grow_92f84 22 = .ok (.iload_n 2, 1) := by decide +kernel
theorem dJx4a65c_grow_92f84_23 : decode cJx4a65c_grow_92f84 23 = .ok (.isub, 1) := by decide +kernel
theorem dJx4a65c_grow_92f84_24 : decode cJx4a65c_grow_92f84 24 = .ok (.iload_n 2, 1) := by decide +kernel
theorem dJx4a65c_grow_92f84_25 : decode cJx4a65c_grow_92f84 25 = .ok (.iconst 1, 1) := by decide +kernel
theorem dJx4a65c_grow_92f84_26 : decode cJx4a65c_grow_92f84 26 = .ok (.ishr, 1) := by decide +kernel
theorem dJx4a65c_grow_92f84_27 : decode cJx4a65c_grow_92f84 27 = .ok (.invokestatic 73, 3) := by decide +kernel
theorem dJx4a65c_grow_92f84_30 : decode cJx4a65c_grow_92f84 30 = .ok (.istore_n 3, 1) := by decide +kernel
theorem dJx4a65c_grow_92f84_31 : decode cJx4a65c_grow_92f84 31 = .ok (.aload_n 0, 1) := by decide +kernel
theorem dJx4a65c_grow_92f84_32 : decode cJx4a65c_grow_92f84 32 = .ok (.aload_n 0, 1) := by decide +kernel
theorem dJx4a65c_grow_92f84_33 : decode cJx4a65c_grow_92f84 33 = .ok (.getfield 9, 3) := by decide +kernel
theorem dJx4a65c_grow_92f84_36 : decode cJx4a65c_grow_92f84 36 = .ok (.iload_n 3, 1) := by decide +kernel
theorem dJx4a65c_grow_92f84_37 : decode cJx4a65c_grow_92f84 37 = .ok (.invokestatic 66, 3) := by decide +kernel
theorem dJx4a65c_grow_92f84_40 : decode cJx4a65c_grow_92f84 40 = .ok (.dup_x1, 1) := by decide +kernel
theorem dJx4a65c_grow_92f84_41 : decode cJx4a65c_grow_92f84 41 = .ok (.putfield 9, 3) := by decide +kernel
theorem dJx4a65c_grow_92f84_44 : decode cJx4a65c_grow_92f84 44 = .ok (.areturn, 1) := by decide +kernel
theorem dJx4a65c_grow_92f84_45 : decode cJx4a65c_grow_92f84 45 = .ok (.aload_n 0, 1) := by decide +kernel
theorem dJx4a65c_grow_92f84_46 : decode cJx4a65c_grow_92f84 46 = .ok (.bipush 10, 2) := by decide +kernel
theorem dJx4a65c_grow_92f84_48 : decode cJx4a65c_grow_92f84 48 = .ok (.iload_n 1, 1) := by decide +kernel
theorem dJx4a65c_grow_92f84_49 : decode cJx4a65c_grow_92f84 49 = .ok (.invokestatic 79, 3) := by decide +kernel
theorem dJx4a65c_grow_92f84_52 : decode cJx4a65c_grow_92f84 52 = .ok (.anewarray 7, 3) := by decide +kernel
theorem dJx4a65c_grow_92f84_55 : decode cJx4a65c_grow_92f84 55 = .ok (.dup_x1, 1) := by decide +kernel
theorem dJx4a65c_grow_92f84_56 : decode cJx4a65c_grow_92f84 56 = .ok (.putfield 9, 3) := by decide +kernel
theorem dJx4a65c_grow_92f84_59 : decode cJx4a65c_grow_92f84 59 = .ok (.areturn, 1) := by decide +kernel
theorem dJx4a65c_grow_d5877_0 : decode cJx4a65c_grow_d5877 0 = .ok (.aload_n 0, 1) := by decide +kernel
theorem dJx4a65c_grow_d5877_1 : decode cJx4a65c_grow_d5877 1 = .ok (.aload_n 0, 1) := by decide +kernel
theorem dJx4a65c_grow_d5877_2 : decode cJx4a65c_grow_d5877 2 = .ok (.getfield 48, 3) := by decide +kernel
theorem dJx4a65c_grow_d5877_5 : decode cJx4a65c_grow_d5877 5 = .ok (.iconst 1, 1) := by decide +kernel
theorem dJx4a65c_grow_d5877_6 : decode cJx4a65c_grow_d5877 6 = .ok (.iadd, 1) := by decide +kernel
theorem dJx4a65c_grow_d5877_7 : decode cJx4a65c_grow_d5877 7 = .ok (.invokevirtual 69, 3) := by decide +kernel
theorem dJx4a65c_grow_d5877_10 : decode cJx4a65c_grow_d5877 10 = .ok (.areturn, 1) := by decide +kernel
theorem dJx4a65c_size_8abf5_0 : decode cJx4a65c_size_8abf5 0 = .ok (.aload_n 0, 1) := by decide +kernel
theorem dJx4a65c_size_8abf5_1 : decode cJx4a65c_size_8abf5 1 = .ok (.getfield 48, 3) := by decide +kernel
theorem dJx4a65c_size_8abf5_4 : decode cJx4a65c_size_8abf5 4 = .ok (.ireturn, 1) := by decide +kernel
theorem dJx4a65c_isEmpty_aae02_0 : decode cJx4a65c_isEmpty_aae02 0 = .ok (.aload_n 0, 1) := by decide +kernel
theorem dJx4a65c_isEmpty_aae02_1 : decode cJx4a65c_isEmpty_aae02 1 = .ok (.getfield 48, 3) := by decide +kernel
theorem dJx4a65c_isEmpty_aae02_4 : decode cJx4a65c_isEmpty_aae02 4 = .ok (.ifCond .ne 7, 3) := by decide +kernel
theorem dJx4a65c_isEmpty_aae02_7 : decode cJx4a65c_isEmpty_aae02 7 = .ok (.iconst 1, 1) := by decide +kernel
theorem dJx4a65c_isEmpty_aae02_8 : decode cJx4a65c_isEmpty_aae02 8 = .ok (.goto 4, 3) := by decide +kernel
theorem dJx4a65c_isEmpty_aae02_11 : decode cJx4a65c_isEmpty_aae02 11 = .ok (.iconst 0, 1) := by decide +kernel
theorem dJx4a65c_isEmpty_aae02_12 : decode cJx4a65c_isEmpty_aae02 12 = .ok (.ireturn, 1) := by decide +kernel
theorem dJx4a65c_elementData_915e3_0 : decode cJx4a65c_elementData_915e3 0 = .ok (.aload_n 0, 1) := by decide +kernel
theorem dJx4a65c_elementData_915e3_1 : decode cJx4a65c_elementData_915e3 1 = .ok (.getfield 9, 3) := by decide +kernel
theorem dJx4a65c_elementData_915e3_4 : decode cJx4a65c_elementData_915e3 4 = .ok (.iload_n 1, 1) := by decide +kernel
theorem dJx4a65c_elementData_915e3_5 : decode cJx4a65c_elementData_915e3 5 = .ok (.aaload, 1) := by decide +kernel
theorem dJx4a65c_elementData_915e3_6 : decode cJx4a65c_elementData_915e3 6 = .ok (.areturn, 1) := by decide +kernel
theorem dJx4a65c_get_915e3_0 : decode cJx4a65c_get_915e3 0 = .ok (.iload_n 1, 1) := by decide +kernel
theorem dJx4a65c_get_915e3_1 : decode cJx4a65c_get_915e3 1 = .ok (.aload_n 0, 1) := by decide +kernel
theorem dJx4a65c_get_915e3_2 : decode cJx4a65c_get_915e3 2 = .ok (.getfield 48, 3) := by decide +kernel
theorem dJx4a65c_get_915e3_5 : decode cJx4a65c_get_915e3 5 = .ok (.invokestatic 118, 3) := by decide +kernel
theorem dJx4a65c_get_915e3_8 : decode cJx4a65c_get_915e3 8 = .ok (.pop, 1) := by decide +kernel
theorem dJx4a65c_get_915e3_9 : decode cJx4a65c_get_915e3 9 = .ok (.aload_n 0, 1) := by decide +kernel
theorem dJx4a65c_get_915e3_10 : decode cJx4a65c_get_915e3 10 = .ok (.iload_n 1, 1) := by decide +kernel
theorem dJx4a65c_get_915e3_11 : decode cJx4a65c_get_915e3 11 = .ok (.invokevirtual 123, 3) := by decide +kernel
theorem dJx4a65c_get_915e3_14 : decode cJx4a65c_get_915e3 14 = .ok (.areturn, 1) := by decide +kernel
theorem dJx4a65c_add_72be8_0 : decode cJx4a65c_add_72be8 0 = .ok (.iload_n 3, 1) := by decide +kernel
theorem dJx4a65c_add_72be8_1 : decode cJx4a65c_add_72be8 1 = .ok (.aload_n 2, 1) := by decide +kernel
theorem dJx4a65c_add_72be8_2 : decode cJx4a65c_add_72be8 2 = .ok (.arraylength, 1) := by decide +kernel
theorem dJx4a65c_add_72be8_3 : decode cJx4a65c_add_72be8 3 = .ok (.if_icmp .ne 8, 3) := by decide +kernel
theorem dJx4a65c_add_72be8_6 : decode cJx4a65c_add_72be8 6 = .ok (.aload_n 0, 1) := by decide +kernel
theorem dJx4a65c_add_72be8_7 : decode cJx4a65c_add_72be8 7 = .ok (.invokevirtual 129, 3) := by decide +kernel
theorem dJx4a65c_add_72be8_10 : decode cJx4a65c_add_72be8 10 = .ok (.astore_n 2, 1) := by decide +kernel
theorem dJx4a65c_add_72be8_11 : decode cJx4a65c_add_72be8 11 = .ok (.aload_n 2, 1) := by decide +kernel
theorem dJx4a65c_add_72be8_12 : decode cJx4a65c_add_72be8 12 = .ok (.iload_n 3, 1) := by decide +kernel
theorem dJx4a65c_add_72be8_13 : decode cJx4a65c_add_72be8 13 = .ok (.aload_n 1, 1) := by decide +kernel
theorem dJx4a65c_add_72be8_14 : decode cJx4a65c_add_72be8 14 = .ok (.aastore, 1) := by decide +kernel
theorem dJx4a65c_add_72be8_15 : decode cJx4a65c_add_72be8 15 = .ok (.aload_n 0, 1) := by decide +kernel
theorem dJx4a65c_add_72be8_16 : decode cJx4a65c_add_72be8 16 = .ok (.iload_n 3, 1) := by decide +kernel
theorem dJx4a65c_add_72be8_17 : decode cJx4a65c_add_72be8 17 = .ok (.iconst 1, 1) := by decide +kernel
theorem dJx4a65c_add_72be8_18 : decode cJx4a65c_add_72be8 18 = .ok (.iadd, 1) := by decide +kernel
theorem dJx4a65c_add_72be8_19 : decode cJx4a65c_add_72be8 19 = .ok (.putfield 48, 3) := by decide +kernel
theorem dJx4a65c_add_72be8_22 : decode cJx4a65c_add_72be8 22 = .ok (.return_, 1) := by decide +kernel
theorem dJx4a65c_add_9ea2d_0 : decode cJx4a65c_add_9ea2d 0 = .ok (.aload_n 0, 1) := by decide +kernel
theorem dJx4a65c_add_9ea2d_1 : decode cJx4a65c_add_9ea2d 1 = .ok (.dup, 1) := by decide +kernel
theorem dJx4a65c_add_9ea2d_2 : decode cJx4a65c_add_9ea2d 2 = .ok (.getfield 63, 3) := by decide +kernel
theorem dJx4a65c_add_9ea2d_5 : decode cJx4a65c_add_9ea2d 5 = .ok (.iconst 1, 1) := by decide +kernel
theorem dJx4a65c_add_9ea2d_6 : decode cJx4a65c_add_9ea2d 6 = .ok (.iadd, 1) := by decide +kernel
theorem dJx4a65c_add_9ea2d_7 : decode cJx4a65c_add_9ea2d 7 = .ok (.putfield 63, 3) := by decide +kernel
theorem dJx4a65c_add_9ea2d_10 : decode cJx4a65c_add_9ea2d 10 = .ok (.aload_n 0, 1) := by decide +kernel
theorem dJx4a65c_add_9ea2d_11 : decode cJx4a65c_add_9ea2d 11 = .ok (.aload_n 1, 1) := by decide +kernel
theorem dJx4a65c_add_9ea2d_12 : decode cJx4a65c_add_9ea2d 12 = .ok (.aload_n 0, 1) := by decide +kernel
theorem dJx4a65c_add_9ea2d_13 : decode cJx4a65c_add_9ea2d 13 = .ok (.getfield 9, 3) := by decide +kernel
theorem dJx4a65c_add_9ea2d_16 : decode cJx4a65c_add_9ea2d 16 = .ok (.aload_n 0, 1) := by decide +kernel
theorem dJx4a65c_add_9ea2d_17 : decode cJx4a65c_add_9ea2d 17 = .ok (.getfield 48, 3) := by decide +kernel
theorem dJx4a65c_add_9ea2d_20 : decode cJx4a65c_add_9ea2d 20 = .ok (.invokevirtual 131, 3) := by decide +kernel
theorem dJx4a65c_add_9ea2d_23 : decode cJx4a65c_add_9ea2d 23 = .ok (.iconst 1, 1) := by decide +kernel
theorem dJx4a65c_add_9ea2d_24 : decode cJx4a65c_add_9ea2d 24 = .ok (.ireturn, 1) := by decide +kernel
theorem dJx4a65c_add_7a177_0 : decode cJx4a65c_add_7a177 0 = .ok (.aload_n 0, 1) := by decide +kernel
theorem dJx4a65c_add_7a177_1 : decode cJx4a65c_add_7a177 1 = .ok (.iload_n 1, 1) := by decide +kernel
theorem dJx4a65c_add_7a177_2 : decode cJx4a65c_add_7a177 2 = .ok (.invokevirtual 135, 3) := by decide +kernel
theorem dJx4a65c_add_7a177_5 : decode cJx4a65c_add_7a177 5 = .ok (.aload_n 0, 1) := by decide +kernel
theorem dJx4a65c_add_7a177_6 : decode cJx4a65c_add_7a177 6 = .ok (.dup, 1) := by decide +kernel
theorem dJx4a65c_add_7a177_7 : decode cJx4a65c_add_7a177 7 = .ok (.getfield 63, 3) := by decide +kernel
theorem dJx4a65c_add_7a177_10 : decode cJx4a65c_add_7a177 10 = .ok (.iconst 1, 1) := by decide +kernel
theorem dJx4a65c_add_7a177_11 : decode cJx4a65c_add_7a177 11 = .ok (.iadd, 1) := by decide +kernel
theorem dJx4a65c_add_7a177_12 : decode cJx4a65c_add_7a177 12 = .ok (.putfield 63, 3) := by decide +kernel
theorem dJx4a65c_add_7a177_15 : decode cJx4a65c_add_7a177 15 = .ok (.aload_n 0, 1) := by decide +kernel
theorem dJx4a65c_add_7a177_16 : decode cJx4a65c_add_7a177 16 = .ok (.getfield 48, 3) := by decide +kernel
theorem dJx4a65c_add_7a177_19 : decode cJx4a65c_add_7a177 19 = .ok (.dup, 1) := by decide +kernel
theorem dJx4a65c_add_7a177_20 : decode cJx4a65c_add_7a177 20 = .ok (.istore_n 3, 1) := by decide +kernel
theorem dJx4a65c_add_7a177_21 : decode cJx4a65c_add_7a177 21 = .ok (.aload_n 0, 1) := by decide +kernel
theorem dJx4a65c_add_7a177_22 : decode cJx4a65c_add_7a177 22 = .ok (.getfield 9, 3) := by decide +kernel
theorem dJx4a65c_add_7a177_25 : decode cJx4a65c_add_7a177 25 = .ok (.dup, 1) := by decide +kernel
theorem dJx4a65c_add_7a177_26 : decode cJx4a65c_add_7a177 26 = .ok (.astore 4, 2) := by decide +kernel
theorem dJx4a65c_add_7a177_28 : decode cJx4a65c_add_7a177 28 = .ok (.arraylength, 1) := by decide +kernel
theorem dJx4a65c_add_7a177_29 : decode cJx4a65c_add_7a177 29 = .ok (.if_icmp .ne 9, 3) := by decide +kernel
theorem dJx4a65c_add_7a177_32 : decode cJx4a65c_add_7a177 32 = .ok (.aload_n 0, 1) := by decide +kernel
theorem dJx4a65c_add_7a177_33 : decode cJx4a65c_add_7a177 33 = .ok (.invokevirtual 129, 3) := by decide +kernel
theorem dJx4a65c_add_7a177_36 : decode cJx4a65c_add_7a177 36 = .ok (.astore 4, 2) := by decide +kernel
theorem dJx4a65c_add_7a177_38 : decode cJx4a65c_add_7a177 38 = .ok (.aload 4, 2) := by decide +kernel
theorem dJx4a65c_add_7a177_40 : decode cJx4a65c_add_7a177 40 = .ok (.iload_n 1, 1) := by decide +kernel
theorem dJx4a65c_add_7a177_41 : decode cJx4a65c_add_7a177 41 = .ok (.aload 4, 2) := by decide +kernel
theorem dJx4a65c_add_7a177_43 : decode cJx4a65c_add_7a177 43 = .ok (.iload_n 1, 1) := by decide +kernel
theorem dJx4a65c_add_7a177_44 : decode cJx4a65c_add_7a177 44 = .ok (.iconst 1, 1) := by decide +kernel
theorem dJx4a65c_add_7a177_45 : decode cJx4a65c_add_7a177 45 = .ok (.iadd, 1) := by decide +kernel
theorem dJx4a65c_add_7a177_46 : decode cJx4a65c_add_7a177 46 = .ok (.iload_n 3, 1) := by decide +kernel
theorem dJx4a65c_add_7a177_47 : decode cJx4a65c_add_7a177 47 = .ok (.iload_n 1, 1) := by decide +kernel
theorem dJx4a65c_add_7a177_48 : decode cJx4a65c_add_7a177 48 = .ok (.isub, 1) := by decide +kernel
theorem dJx4a65c_add_7a177_49 : decode cJx4a65c_add_7a177 49 = .ok (.invokestatic 112, 3) := by decide +kernel
theorem dJx4a65c_add_7a177_52 : decode cJx4a65c_add_7a177 52 = .ok (.aload 4, 2) := by decide +kernel
theorem dJx4a65c_add_7a177_54 : decode cJx4a65c_add_7a177 54 = .ok (.iload_n 1, 1) := by decide +kernel
theorem dJx4a65c_add_7a177_55 : decode cJx4a65c_add_7a177 55 = .ok (.aload_n 2, 1) := by decide +kernel
theorem dJx4a65c_add_7a177_56 : decode cJx4a65c_add_7a177 56 = .ok (.aastore, 1) := by decide +kernel
theorem dJx4a65c_add_7a177_57 : decode cJx4a65c_add_7a177 57 = .ok (.aload_n 0, 1) := by decide +kernel
theorem dJx4a65c_add_7a177_58 : decode cJx4a65c_add_7a177 58 = .ok (.iload_n 3, 1) := by decide +kernel
theorem dJx4a65c_add_7a177_59 : decode cJx4a65c_add_7a177 59 = .ok (.iconst 1, 1) := by decide +kernel
theorem dJx4a65c_add_7a177_60 : decode cJx4a65c_add_7a177 60 = .ok (.iadd, 1) := by decide +kernel
theorem dJx4a65c_add_7a177_61 : decode cJx4a65c_add_7a177 61 = .ok (.putfield 48, 3) := by decide +kernel
theorem dJx4a65c_add_7a177_64 : decode cJx4a65c_add_7a177 64 = .ok (.return_, 1) := by decide +kernel
theorem dJx4a65c_remove_915e3_0 : decode cJx4a65c_remove_915e3 0 = .ok (.iload_n 1, 1) := by decide +kernel
theorem dJx4a65c_remove_915e3_1 : decode cJx4a65c_remove_915e3 1 = .ok (.aload_n 0, 1) := by decide +kernel
theorem dJx4a65c_remove_915e3_2 : decode cJx4a65c_remove_915e3 2 = .ok (.getfield 48, 3) := by decide +kernel
theorem dJx4a65c_remove_915e3_5 : decode cJx4a65c_remove_915e3 5 = .ok (.invokestatic 118, 3) := by decide +kernel
theorem dJx4a65c_remove_915e3_8 : decode cJx4a65c_remove_915e3 8 = .ok (.pop, 1) := by decide +kernel
theorem dJx4a65c_remove_915e3_9 : decode cJx4a65c_remove_915e3 9 = .ok (.aload_n 0, 1) := by decide +kernel
theorem dJx4a65c_remove_915e3_10 : decode cJx4a65c_remove_915e3 10 = .ok (.getfield 9, 3) := by decide +kernel
theorem dJx4a65c_remove_915e3_13 : decode cJx4a65c_remove_915e3 13 = .ok (.astore_n 2, 1) := by decide +kernel
theorem dJx4a65c_remove_915e3_14 : decode cJx4a65c_remove_915e3 14 = .ok (.aload_n 2, 1) := by decide +kernel
theorem dJx4a65c_remove_915e3_15 : decode cJx4a65c_remove_915e3 15 = .ok (.iload_n 1, 1) := by decide +kernel
theorem dJx4a65c_remove_915e3_16 : decode cJx4a65c_remove_915e3 16 = .ok (.aaload, 1) := by decide +kernel
theorem dJx4a65c_remove_915e3_17 : decode cJx4a65c_remove_915e3 17 = .ok (.astore_n 3, 1) := by decide +kernel
theorem dJx4a65c_remove_915e3_18 : decode cJx4a65c_remove_915e3 18 = .ok (.aload_n 0, 1) := by decide +kernel
theorem dJx4a65c_remove_915e3_19 : decode cJx4a65c_remove_915e3 19 = .ok (.aload_n 2, 1) := by decide +kernel
theorem dJx4a65c_remove_915e3_20 : decode cJx4a65c_remove_915e3 20 = .ok (.iload_n 1, 1) := by decide +kernel
theorem dJx4a65c_remove_915e3_21 : decode cJx4a65c_remove_915e3 21 = .ok (.invokevirtual 144, 3) := by decide +kernel
theorem dJx4a65c_remove_915e3_24 : decode cJx4a65c_remove_915e3 24 = .ok (.aload_n 3, 1) := by decide +kernel
theorem dJx4a65c_remove_915e3_25 : decode cJx4a65c_remove_915e3 25 = .ok (.areturn, 1) := by decide +kernel
theorem dJx4a65c_fastRemove_b59b0_0 : decode cJx4a65c_fastRemove_b59b0 0 = .ok (.aload_n 0, 1) := by decide +kernel
theorem dJx4a65c_fastRemove_b59b0_1 : decode cJx4a65c_fastRemove_b59b0 1 = .ok (.dup, 1) := by decide +kernel
theorem dJx4a65c_fastRemove_b59b0_2 : decode cJx4a65c_fastRemove_b59b0 2 = .ok (.getfield 63, 3) := by decide +kernel
theorem dJx4a65c_fastRemove_b59b0_5 : decode cJx4a65c_fastRemove_b59b0 5 = .ok (.iconst 1, 1) := by decide +kernel
theorem dJx4a65c_fastRemove_b59b0_6 : decode cJx4a65c_fastRemove_b59b0 6 = .ok (.iadd, 1) := by decide +kernel
theorem dJx4a65c_fastRemove_b59b0_7 : decode cJx4a65c_fastRemove_b59b0 7 = .ok (.putfield 63, 3) := by decide +kernel
theorem dJx4a65c_fastRemove_b59b0_10 : decode cJx4a65c_fastRemove_b59b0 10 = .ok (.aload_n 0, 1) := by decide +kernel
theorem dJx4a65c_fastRemove_b59b0_11 : decode cJx4a65c_fastRemove_b59b0 11 = .ok (.getfield 48, 3) := by decide +kernel
theorem dJx4a65c_fastRemove_b59b0_14 : decode cJx4a65c_fastRemove_b59b0 14 = .ok (.iconst 1, 1) := by decide +kernel
theorem dJx4a65c_fastRemove_b59b0_15 : decode cJx4a65c_fastRemove_b59b0 15 = .ok (.isub, 1) := by decide +kernel
theorem dJx4a65c_fastRemove_b59b0_16 : decode cJx4a65c_fastRemove_b59b0 16 = .ok (.dup, 1) := by decide +kernel
theorem dJx4a65c_fastRemove_b59b0_17 : decode cJx4a65c_fastRemove_b59b0 17 = .ok (.istore_n 3, 1) := by decide +kernel
theorem dJx4a65c_fastRemove_b59b0_18 : decode cJx4a65c_fastRemove_b59b0 18 = .ok (.iload_n 2, 1) := by decide +kernel
theorem dJx4a65c_fastRemove_b59b0_19 : decode cJx4a65c_fastRemove_b59b0 19 = .ok (.if_icmp .le 15, 3) := by decide +kernel
theorem dJx4a65c_fastRemove_b59b0_22 : decode cJx4a65c_fastRemove_b59b0 22 = .ok (.aload_n 1, 1) := by decide +kernel
theorem dJx4a65c_fastRemove_b59b0_23 : decode cJx4a65c_fastRemove_b59b0 23 = .ok (.iload_n 2, 1) := by decide +kernel
theorem dJx4a65c_fastRemove_b59b0_24 : decode cJx4a65c_fastRemove_b59b0 24 = .ok (.iconst 1, 1) := by decide +kernel
theorem dJx4a65c_fastRemove_b59b0_25 : decode cJx4a65c_fastRemove_b59b0 25 = .ok (.iadd, 1) := by decide +kernel
theorem dJx4a65c_fastRemove_b59b0_26 : decode cJx4a65c_fastRemove_b59b0 26 = .ok (.aload_n 1, 1) := by decide +kernel
theorem dJx4a65c_fastRemove_b59b0_27 : decode cJx4a65c_fastRemove_b59b0 27 = .ok (.iload_n 2, 1) := by decide +kernel
theorem dJx4a65c_fastRemove_b59b0_28 : decode cJx4a65c_fastRemove_b59b0 28 = .ok (.iload_n 3, 1) := by decide +kernel
theorem dJx4a65c_fastRemove_b59b0_29 : decode cJx4a65c_fastRemove_b59b0 29 = .ok (.iload_n 2, 1) := by decide +kernel
theorem dJx4a65c_fastRemove_b59b0_30 : decode cJx4a65c_fastRemove_b59b0 30 = .ok (.isub, 1) := by decide +kernel
theorem dJx4a65c_fastRemove_b59b0_31 : decode cJx4a65c_fastRemove_b59b0 31 = .ok (.invokestatic 112, 3) := by decide +kernel
theorem dJx4a65c_fastRemove_b59b0_34 : decode cJx4a65c_fastRemove_b59b0 34 = .ok (.aload_n 1, 1) := by decide +kernel
theorem dJx4a65c_fastRemove_b59b0_35 : decode cJx4a65c_fastRemove_b59b0 35 = .ok (.aload_n 0, 1) := by decide +kernel
theorem dJx4a65c_fastRemove_b59b0_36 : decode cJx4a65c_fastRemove_b59b0 36 = .ok (.iload_n 3, 1) := by decide +kernel
theorem dJx4a65c_fastRemove_b59b0_37 : decode cJx4a65c_fastRemove_b59b0 37 = .ok (.dup_x1, 1) := by decide +kernel
theorem dJx4a65c_fastRemove_b59b0_38 : decode cJx4a65c_fastRemove_b59b0 38 = .ok (.putfield 48, 3) := by decide +kernel
theorem dJx4a65c_fastRemove_b59b0_41 : decode cJx4a65c_fastRemove_b59b0 41 = .ok (.aconst_null, 1) := by decide +kernel
theorem dJx4a65c_fastRemove_b59b0_42 : decode cJx4a65c_fastRemove_b59b0 42 = .ok (.aastore, 1) := by decide +kernel
theorem dJx4a65c_fastRemove_b59b0_43 : decode cJx4a65c_fastRemove_b59b0 43 = .ok (.return_, 1) := by decide +kernel
theorem dJx4a65c_clear_da8c8_0 : decode cJx4a65c_clear_da8c8 0 = .ok (.aload_n 0, 1) := by decide +kernel
theorem dJx4a65c_clear_da8c8_1 : decode cJx4a65c_clear_da8c8 1 = .ok (.dup, 1) := by decide +kernel
theorem dJx4a65c_clear_da8c8_2 : decode cJx4a65c_clear_da8c8 2 = .ok (.getfield 63, 3) := by decide +kernel
theorem dJx4a65c_clear_da8c8_5 : decode cJx4a65c_clear_da8c8 5 = .ok (.iconst 1, 1) := by decide +kernel
theorem dJx4a65c_clear_da8c8_6 : decode cJx4a65c_clear_da8c8 6 = .ok (.iadd, 1) := by decide +kernel
theorem dJx4a65c_clear_da8c8_7 : decode cJx4a65c_clear_da8c8 7 = .ok (.putfield 63, 3) := by decide +kernel
theorem dJx4a65c_clear_da8c8_10 : decode cJx4a65c_clear_da8c8 10 = .ok (.aload_n 0, 1) := by decide +kernel
theorem dJx4a65c_clear_da8c8_11 : decode cJx4a65c_clear_da8c8 11 = .ok (.getfield 9, 3) := by decide +kernel
theorem dJx4a65c_clear_da8c8_14 : decode cJx4a65c_clear_da8c8 14 = .ok (.astore_n 1, 1) := by decide +kernel
theorem dJx4a65c_clear_da8c8_15 : decode cJx4a65c_clear_da8c8 15 = .ok (.aload_n 0, 1) := by decide +kernel
theorem dJx4a65c_clear_da8c8_16 : decode cJx4a65c_clear_da8c8 16 = .ok (.getfield 48, 3) := by decide +kernel
theorem dJx4a65c_clear_da8c8_19 : decode cJx4a65c_clear_da8c8 19 = .ok (.istore_n 2, 1) := by decide +kernel
theorem dJx4a65c_clear_da8c8_20 : decode cJx4a65c_clear_da8c8 20 = .ok (.aload_n 0, 1) := by decide +kernel
theorem dJx4a65c_clear_da8c8_21 : decode cJx4a65c_clear_da8c8 21 = .ok (.iconst 0, 1) := by decide +kernel
theorem dJx4a65c_clear_da8c8_22 : decode cJx4a65c_clear_da8c8 22 = .ok (.dup_x1, 1) := by decide +kernel
theorem dJx4a65c_clear_da8c8_23 : decode cJx4a65c_clear_da8c8 23 = .ok (.putfield 48, 3) := by decide +kernel
theorem dJx4a65c_clear_da8c8_26 : decode cJx4a65c_clear_da8c8 26 = .ok (.istore_n 3, 1) := by decide +kernel
theorem dJx4a65c_clear_da8c8_27 : decode cJx4a65c_clear_da8c8 27 = .ok (.iload_n 3, 1) := by decide +kernel
theorem dJx4a65c_clear_da8c8_28 : decode cJx4a65c_clear_da8c8 28 = .ok (.iload_n 2, 1) := by decide +kernel
theorem dJx4a65c_clear_da8c8_29 : decode cJx4a65c_clear_da8c8 29 = .ok (.if_icmp .ge 13, 3) := by decide +kernel
theorem dJx4a65c_clear_da8c8_32 : decode cJx4a65c_clear_da8c8 32 = .ok (.aload_n 1, 1) := by decide +kernel
theorem dJx4a65c_clear_da8c8_33 : decode cJx4a65c_clear_da8c8 33 = .ok (.iload_n 3, 1) := by decide +kernel
theorem dJx4a65c_clear_da8c8_34 : decode cJx4a65c_clear_da8c8 34 = .ok (.aconst_null, 1) := by decide +kernel
theorem dJx4a65c_clear_da8c8_35 : decode cJx4a65c_clear_da8c8 35 = .ok (.aastore, 1) := by decide +kernel
theorem dJx4a65c_clear_da8c8_36 : decode cJx4a65c_clear_da8c8 36 = .ok (.iinc 3 1, 3) := by decide +kernel
theorem dJx4a65c_clear_da8c8_39 : decode cJx4a65c_clear_da8c8 39 = .ok (.goto (-12), 3) := by decide +kernel
theorem dJx4a65c_clear_da8c8_42 : decode cJx4a65c_clear_da8c8 42 = .ok (.return_, 1) := by decide +kernel
theorem dJx4a65c_rangeCheckForAdd_d00df_0 : decode cJx4a65c_rangeCheckForAdd_d00df 0 = .ok (.iload_n 1, 1) := by decide +kernel
theorem dJx4a65c_rangeCheckForAdd_d00df_1 : decode cJx4a65c_rangeCheckForAdd_d00df 1 = .ok (.aload_n 0, 1) := by decide +kernel
theorem dJx4a65c_rangeCheckForAdd_d00df_2 : decode cJx4a65c_rangeCheckForAdd_d00df 2 = .ok (.getfield 48, 3) := by decide +kernel
theorem dJx4a65c_rangeCheckForAdd_d00df_5 : decode cJx4a65c_rangeCheckForAdd_d00df 5 = .ok (.if_icmp .gt 7, 3) := by decide +kernel
theorem dJx4a65c_rangeCheckForAdd_d00df_8 : decode cJx4a65c_rangeCheckForAdd_d00df 8 = .ok (.iload_n 1, 1) := by decide +kernel
theorem dJx4a65c_rangeCheckForAdd_d00df_9 : decode cJx4a65c_rangeCheckForAdd_d00df 9 = .ok (.ifCond .ge 16, 3) := by decide +kernel
theorem dJx4a65c_rangeCheckForAdd_d00df_12 : decode cJx4a65c_rangeCheckForAdd_d00df 12 = .ok (.new 187, 3) := by decide +kernel
theorem dJx4a65c_rangeCheckForAdd_d00df_15 : decode cJx4a65c_rangeCheckForAdd_d00df 15 = .ok (.dup, 1) := by decide +kernel
theorem dJx4a65c_rangeCheckForAdd_d00df_16 : decode cJx4a65c_rangeCheckForAdd_d00df 16 = .ok (.aload_n 0, 1) := by decide +kernel
theorem dJx4a65c_rangeCheckForAdd_d00df_17 : decode cJx4a65c_rangeCheckForAdd_d00df 17 = .ok (.iload_n 1, 1) := by decide +kernel
theorem dJx4a65c_rangeCheckForAdd_d00df_18 : decode cJx4a65c_rangeCheckForAdd_d00df 18 = .ok (.invokevirtual 198, 3) := by decide +kernel
theorem dJx4a65c_rangeCheckForAdd_d00df_21 : decode cJx4a65c_rangeCheckForAdd_d00df 21 = .ok (.invokespecial 193, 3) := by decide +kernel
theorem dJx4a65c_rangeCheckForAdd_d00df_24 : decode cJx4a65c_rangeCheckForAdd_d00df 24 = .ok (.athrow, 1) := by decide +kernel
theorem dJx4a65c_rangeCheckForAdd_d00df_25 : decode cJx4a65c_rangeCheckForAdd_d00df 25 = .ok (.return_, 1) := by decide +kernel
theorem dJ7_fill_53178_0 : decode cJ7_fill_53178 0 = .ok (.iconst 0, 1) := by decide +kernel
theorem dJ7_fill_53178_1 : decode cJ7_fill_53178 1 = .ok (.istore_n 2, 1) := by decide +kernel
theorem dJ7_fill_53178_2 : decode cJ7_fill_53178 2 = .ok (.aload_n 0, 1) := by decide +kernel
theorem dJ7_fill_53178_3 : decode cJ7_fill_53178 3 = .ok (.arraylength, 1) := by decide +kernel
theorem dJ7_fill_53178_4 : decode cJ7_fill_53178 4 = .ok (.istore_n 3, 1) := by decide +kernel
theorem dJ7_fill_53178_5 : decode cJ7_fill_53178 5 = .ok (.iload_n 2, 1) := by decide +kernel
theorem dJ7_fill_53178_6 : decode cJ7_fill_53178 6 = .ok (.iload_n 3, 1) := by decide +kernel
theorem dJ7_fill_53178_7 : decode cJ7_fill_53178 7 = .ok (.if_icmp .ge 13, 3) := by decide +kernel
theorem dJ7_fill_53178_10 : decode cJ7_fill_53178 10 = .ok (.aload_n 0, 1) := by decide +kernel
theorem dJ7_fill_53178_11 : decode cJ7_fill_53178 11 = .ok (.iload_n 2, 1) := by decide +kernel
theorem dJ7_fill_53178_12 : decode cJ7_fill_53178 12 = .ok (.iload_n 1, 1) := by decide +kernel
theorem dJ7_fill_53178_13 : decode cJ7_fill_53178 13 = .ok (.iastore, 1) := by decide +kernel
theorem dJ7_fill_53178_14 : decode cJ7_fill_53178 14 = .ok (.iinc 2 1, 3) := by decide +kernel
theorem dJ7_fill_53178_17 : decode cJ7_fill_53178 17 = .ok (.goto (-12), 3) := by decide +kernel
theorem dJ7_fill_53178_20 : decode cJ7_fill_53178 20 = .ok (.return_, 1) := by decide +kernel
theorem dJ7_copyOf_1904c_0 : decode cJ7_copyOf_1904c 0 = .ok (.aload_n 0, 1) := by decide +kernel
theorem dJ7_copyOf_1904c_1 : decode cJ7_copyOf_1904c 1 = .ok (.iload_n 1, 1) := by decide +kernel
theorem dJ7_copyOf_1904c_2 : decode cJ7_copyOf_1904c 2 = .ok (.aload_n 0, 1) := by decide +kernel
theorem dJ7_copyOf_1904c_3 : decode cJ7_copyOf_1904c 3 = .ok (.invokevirtual 86, 3) := by decide +kernel
theorem dJ7_copyOf_1904c_6 : decode cJ7_copyOf_1904c 6 = .ok (.invokestatic 300, 3) := by decide +kernel
theorem dJ7_copyOf_1904c_9 : decode cJ7_copyOf_1904c 9 = .ok (.areturn, 1) := by decide +kernel
theorem dJ7_copyOf_6403c_0 : decode cJ7_copyOf_6403c 0 = .ok (.aload_n 2, 1) := by decide +kernel
theorem dJ7_copyOf_6403c_1 : decode cJ7_copyOf_6403c 1 = .ok (.ldc 110, 2) := by decide +kernel
theorem dJ7_copyOf_6403c_3 : decode cJ7_copyOf_6403c 3 = .ok (.if_acmp .ne 10, 3) := by decide +kernel
theorem dJ7_copyOf_6403c_6 : decode cJ7_copyOf_6403c 6 = .ok (.iload_n 1, 1) := by decide +kernel
theorem dJ7_copyOf_6403c_7 : decode cJ7_copyOf_6403c 7 = .ok (.anewarray 2, 3) := by decide +kernel
theorem dJ7_copyOf_6403c_10 : decode cJ7_copyOf_6403c 10 = .ok (.goto 14, 3) := by decide +kernel
theorem dJ7_copyOf_6403c_13 : decode cJ7_copyOf_6403c 13 = .ok (.aload_n 2, 1) := by decide +kernel
theorem dJ7_copyOf_6403c_14 : decode cJ7_copyOf_6403c 14 = .ok (.invokevirtual 90, 3) := by decide +kernel
theorem dJ7_copyOf_6403c_17 : decode cJ7_copyOf_6403c 17 = .ok (.iload_n 1, 1) := by decide +kernel
theorem dJ7_copyOf_6403c_18 : decode cJ7_copyOf_6403c 18 = .ok (.invokestatic 95, 3) := by decide +kernel
theorem dJ7_copyOf_6403c_21 : decode cJ7_copyOf_6403c 21 = .ok (.checkcast 110, 3) := by decide +kernel
theorem dJ7_copyOf_6403c_24 : decode cJ7_copyOf_6403c 24 = .ok (.astore_n 3, 1) := by decide +kernel
theorem dJ7_copyOf_6403c_25 : decode cJ7_copyOf_6403c 25 = .ok (.aload_n 0, 1) := by decide +kernel
theorem dJ7_copyOf_6403c_26 : decode cJ7_copyOf_6403c 26 = .ok (.iconst 0, 1) := by decide +kernel
theorem dJ7_copyOf_6403c_27 : decode cJ7_copyOf_6403c 27 = .ok (.aload_n 3, 1) := by decide +kernel
theorem dJ7_copyOf_6403c_28 : decode cJ7_copyOf_6403c 28 = .ok (.iconst 0, 1) := by decide +kernel
theorem dJ7_copyOf_6403c_29 : decode cJ7_copyOf_6403c 29 = .ok (.aload_n 0, 1) := by decide +kernel
theorem dJ7_copyOf_6403c_30 : decode cJ7_copyOf_6403c 30 = .ok (.arraylength, 1) := by decide +kernel
theorem dJ7_copyOf_6403c_31 : decode cJ7_copyOf_6403c 31 = .ok (.iload_n 1, 1) := by decide +kernel
theorem dJ7_copyOf_6403c_32 : decode cJ7_copyOf_6403c 32 = .ok (.invokestatic 304, 3) := by decide +kernel
theorem dJ7_copyOf_6403c_35 : decode cJ7_copyOf_6403c 35 = .ok (.invokestatic 150, 3) := by decide +kernel
theorem dJ7_copyOf_6403c_38 : decode cJ7_copyOf_6403c 38 = .ok (.aload_n 3, 1) := by decide +kernel
theorem dJ7_copyOf_6403c_39 : decode cJ7_copyOf_6403c 39 = .ok (.areturn, 1) := by decide +kernel
theorem dJ15_checkIndex_7cf53_0 : decode cJ15_checkIndex_7cf53 0 = .ok (.iload_n 0, 1) := by decide +kernel
theorem dJ15_checkIndex_7cf53_1 : decode cJ15_checkIndex_7cf53 1 = .ok (.iload_n 1, 1) := by decide +kernel
theorem dJ15_checkIndex_7cf53_2 : decode cJ15_checkIndex_7cf53 2 = .ok (.aconst_null, 1) := by decide +kernel
theorem dJ15_checkIndex_7cf53_3 : decode cJ15_checkIndex_7cf53 3 = .ok (.invokestatic 105, 3) := by decide +kernel
theorem dJ15_checkIndex_7cf53_6 : decode cJ15_checkIndex_7cf53 6 = .ok (.ireturn, 1) := by decide +kernel
theorem dJ8_newLength_cabcc_0 : decode cJ8_newLength_cabcc 0 = .ok (.iload_n 0, 1) := by decide +kernel
theorem dJ8_newLength_cabcc_1 : decode cJ8_newLength_cabcc 1 = .ok (.iload_n 1, 1) := by decide +kernel
theorem dJ8_newLength_cabcc_2 : decode cJ8_newLength_cabcc 2 = .ok (.iload_n 2, 1) := by decide +kernel
theorem dJ8_newLength_cabcc_3 : decode cJ8_newLength_cabcc 3 = .ok (.invokestatic 194, 3) := by decide +kernel
theorem dJ8_newLength_cabcc_6 : decode cJ8_newLength_cabcc 6 = .ok (.iadd, 1) := by decide +kernel
theorem dJ8_newLength_cabcc_7 : decode cJ8_newLength_cabcc 7 = .ok (.istore_n 3, 1) := by decide +kernel
theorem dJ8_newLength_cabcc_8 : decode cJ8_newLength_cabcc 8 = .ok (.iconst 0, 1) := by decide +kernel
theorem dJ8_newLength_cabcc_9 : decode cJ8_newLength_cabcc 9 = .ok (.iload_n 3, 1) := by decide +kernel
theorem dJ8_newLength_cabcc_10 : decode cJ8_newLength_cabcc 10 = .ok (.if_icmp .ge 11, 3) := by decide +kernel
theorem dJ8_newLength_cabcc_13 : decode cJ8_newLength_cabcc 13 = .ok (.iload_n 3, 1) := by decide +kernel
theorem dJ8_newLength_cabcc_14 : decode cJ8_newLength_cabcc 14 = .ok (.ldc 200, 2) := by decide +kernel
theorem dJ8_newLength_cabcc_16 : decode cJ8_newLength_cabcc 16 = .ok (.if_icmp .gt 5, 3) := by decide +kernel
theorem dJ8_newLength_cabcc_19 : decode cJ8_newLength_cabcc 19 = .ok (.iload_n 3, 1) := by decide +kernel
theorem dJ8_newLength_cabcc_20 : decode cJ8_newLength_cabcc 20 = .ok (.ireturn, 1) := by decide +kernel
theorem dJ8_newLength_cabcc_21 : decode cJ8_newLength_cabcc 21 = .ok (.iload_n 0, 1) := by decide +kernel
theorem dJ8_newLength_cabcc_22 : decode cJ8_newLength_cabcc 22 = .ok (.iload_n 1, 1) := by decide +kernel
theorem dJ8_newLength_cabcc_23 : decode cJ8_newLength_cabcc 23 = .ok (.invokestatic 201, 3) := by decide +kernel
theorem dJ8_newLength_cabcc_26 : decode cJ8_newLength_cabcc 26 = .ok (.ireturn, 1) := by decide +kernel
theorem dJ3_checkIndex_8e157_0 : decode cJ3_checkIndex_8e157 0 = .ok (.iload_n 0, 1) := by decide +kernel
theorem dJ3_checkIndex_8e157_1 : decode cJ3_checkIndex_8e157 1 = .ok (.ifCond .lt 8, 3) := by decide +kernel
theorem dJ3_checkIndex_8e157_4 : decode cJ3_checkIndex_8e157 4 = .ok (.iload_n 0, 1) := by decide +kernel
theorem dJ3_checkIndex_8e157_5 : decode cJ3_checkIndex_8e157 5 = .ok (.iload_n 1, 1) := by decide +kernel
theorem dJ3_checkIndex_8e157_6 : decode cJ3_checkIndex_8e157 6 = .ok (.if_icmp .lt 10, 3) := by decide +kernel
theorem dJ3_checkIndex_8e157_9 : decode cJ3_checkIndex_8e157 9 = .ok (.aload_n 2, 1) := by decide +kernel
theorem dJ3_checkIndex_8e157_10 : decode cJ3_checkIndex_8e157 10 = .ok (.iload_n 0, 1) := by decide +kernel
theorem dJ3_checkIndex_8e157_11 : decode cJ3_checkIndex_8e157 11 = .ok (.iload_n 1, 1) := by decide +kernel
theorem dJ3_checkIndex_8e157_12 : decode cJ3_checkIndex_8e157 12 = .ok (.invokestatic 95, 3) := by decide +kernel
theorem dJ3_checkIndex_8e157_15 : decode cJ3_checkIndex_8e157 15 = .ok (.athrow, 1) := by decide +kernel
theorem dJ3_checkIndex_8e157_16 : decode cJ3_checkIndex_8e157 16 = .ok (.iload_n 0, 1) := by decide +kernel
theorem dJ3_checkIndex_8e157_17 : decode cJ3_checkIndex_8e157 17 = .ok (.ireturn, 1) := by decide +kernel
