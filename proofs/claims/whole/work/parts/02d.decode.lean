theorem dX5_init_0 : decode cX5_init 0 = .ok (.aload_n 0, 1) := by decide +kernel
theorem dX5_init_1 : decode cX5_init 1 = .ok (.invokespecial 1, 3) := by decide +kernel
theorem dX5_init_4 : decode cX5_init 4 = .ok (.aload_n 0, 1) := by decide +kernel
theorem dX5_init_5 : decode cX5_init 5 = .ok (.bipush 7, 2) := by decide +kernel
theorem dX5_init_7 : decode cX5_init 7 = .ok (.newarray .int, 2) := by decide +kernel
theorem dX5_init_9 : decode cX5_init 9 = .ok (.putfield 7, 3) := by decide +kernel
theorem dX5_init_12 : decode cX5_init 12 = .ok (.aload_n 0, 1) := by decide +kernel
theorem dX5_init_13 : decode cX5_init 13 = .ok (.iconst 5, 1) := by decide +kernel
theorem dX5_init_14 : decode cX5_init 14 = .ok (.newarray .int, 2) := by decide +kernel
theorem dX5_init_16 : decode cX5_init 16 = .ok (.putfield 13, 3) := by decide +kernel
theorem dX5_init_19 : decode cX5_init 19 = .ok (.aload_n 0, 1) := by decide +kernel
theorem dX5_init_20 : decode cX5_init 20 = .ok (.iconst 5, 1) := by decide +kernel
theorem dX5_init_21 : decode cX5_init 21 = .ok (.newarray .int, 2) := by decide +kernel
theorem dX5_init_23 : decode cX5_init 23 = .ok (.putfield 16, 3) := by decide +kernel
theorem dX5_init_26 : decode cX5_init 26 = .ok (.aload_n 0, 1) := by decide +kernel
theorem dX5_init_27 : decode cX5_init 27 = .ok (.iconst 5, 1) := by decide +kernel
theorem dX5_init_28 : decode cX5_init 28 = .ok (.newarray .int, 2) := by decide +kernel
theorem dX5_init_30 : decode cX5_init 30 = .ok (.putfield 19, 3) := by decide +kernel
theorem dX5_init_33 : decode cX5_init 33 = .ok (.aload_n 0, 1) := by decide +kernel
theorem dX5_init_34 : decode cX5_init 34 = .ok (.iconst 5, 1) := by decide +kernel
theorem dX5_init_35 : decode cX5_init 35 = .ok (.newarray .int, 2) := by decide +kernel
theorem dX5_init_37 : decode cX5_init 37 = .ok (.putfield 22, 3) := by decide +kernel
theorem dX5_init_40 : decode cX5_init 40 = .ok (.aload_n 0, 1) := by decide +kernel
theorem dX5_init_41 : decode cX5_init 41 = .ok (.bipush 6, 2) := by decide +kernel
theorem dX5_init_43 : decode cX5_init 43 = .ok (.newarray .int, 2) := by decide +kernel
theorem dX5_init_45 : decode cX5_init 45 = .ok (.putfield 25, 3) := by decide +kernel
theorem dX5_init_48 : decode cX5_init 48 = .ok (.aload_n 0, 1) := by decide +kernel
theorem dX5_init_49 : decode cX5_init 49 = .ok (.bipush 6, 2) := by decide +kernel
theorem dX5_init_51 : decode cX5_init 51 = .ok (.newarray .int, 2) := by decide +kernel
theorem dX5_init_53 : decode cX5_init 53 = .ok (.putfield 28, 3) := by decide +kernel
theorem dX5_init_56 : decode cX5_init 56 = .ok (.aload_n 0, 1) := by decide +kernel
theorem dX5_init_57 : decode cX5_init 57 = .ok (.bipush 6, 2) := by decide +kernel
theorem dX5_init_59 : decode cX5_init 59 = .ok (.newarray .int, 2) := by decide +kernel
theorem dX5_init_61 : decode cX5_init 61 = .ok (.putfield 31, 3) := by decide +kernel
theorem dX5_init_64 : decode cX5_init 64 = .ok (.aload_n 0, 1) := by decide +kernel
theorem dX5_init_65 : decode cX5_init 65 = .ok (.bipush 12, 2) := by decide +kernel
theorem dX5_init_67 : decode cX5_init 67 = .ok (.putfield 34, 3) := by decide +kernel
theorem dX5_init_70 : decode cX5_init 70 = .ok (.aload_n 0, 1) := by decide +kernel
theorem dX5_init_71 : decode cX5_init 71 = .ok (.bipush (-9), 2) := by decide +kernel
theorem dX5_init_73 : decode cX5_init 73 = .ok (.putfield 38, 3) := by decide +kernel
theorem dX5_init_76 : decode cX5_init 76 = .ok (.aload_n 0, 1) := by decide +kernel
theorem dX5_init_77 : decode cX5_init 77 = .ok (.bipush 80, 2) := by decide +kernel
theorem dX5_init_79 : decode cX5_init 79 = .ok (.newarray .int, 2) := by decide +kernel
theorem dX5_init_81 : decode cX5_init 81 = .ok (.putfield 41, 3) := by decide +kernel
theorem dX5_init_84 : decode cX5_init 84 = .ok (.aload_n 0, 1) := by decide +kernel
theorem dX5_init_85 : decode cX5_init 85 = .ok (.bipush 40, 2) := by decide +kernel
theorem dX5_init_87 : decode cX5_init 87 = .ok (.newarray .int, 2) := by decide +kernel
theorem dX5_init_89 : decode cX5_init 89 = .ok (.putfield 44, 3) := by decide +kernel
theorem dX5_init_92 : decode cX5_init 92 = .ok (.aload_n 0, 1) := by decide +kernel
theorem dX5_init_93 : decode cX5_init 93 = .ok (.bipush 40, 2) := by decide +kernel
theorem dX5_init_95 : decode cX5_init 95 = .ok (.newarray .int, 2) := by decide +kernel
theorem dX5_init_97 : decode cX5_init 97 = .ok (.putfield 47, 3) := by decide +kernel
theorem dX5_init_100 : decode cX5_init 100 = .ok (.aload_n 0, 1) := by decide +kernel
theorem dX5_init_101 : decode cX5_init 101 = .ok (.bipush 120, 2) := by decide +kernel
theorem dX5_init_103 : decode cX5_init 103 = .ok (.newarray .int, 2) := by decide +kernel
theorem dX5_init_105 : decode cX5_init 105 = .ok (.putfield 50, 3) := by decide +kernel
theorem dX5_init_108 : decode cX5_init 108 = .ok (.aload_n 0, 1) := by decide +kernel
theorem dX5_init_109 : decode cX5_init 109 = .ok (.bipush 90, 2) := by decide +kernel
theorem dX5_init_111 : decode cX5_init 111 = .ok (.newarray .int, 2) := by decide +kernel
theorem dX5_init_113 : decode cX5_init 113 = .ok (.putfield 53, 3) := by decide +kernel
theorem dX5_init_116 : decode cX5_init 116 = .ok (.aload_n 0, 1) := by decide +kernel
theorem dX5_init_117 : decode cX5_init 117 = .ok (.bipush 8, 2) := by decide +kernel
theorem dX5_init_119 : decode cX5_init 119 = .ok (.newarray .int, 2) := by decide +kernel
theorem dX5_init_121 : decode cX5_init 121 = .ok (.putfield 56, 3) := by decide +kernel
theorem dX5_init_124 : decode cX5_init 124 = .ok (.return_, 1) := by decide +kernel
theorem dX5_no_0 : decode cX5_no 0 = .ok (.aload_n 0, 1) := by decide +kernel
theorem dX5_no_1 : decode cX5_no 1 = .ok (.getfield 7, 3) := by decide +kernel
theorem dX5_no_4 : decode cX5_no 4 = .ok (.iload_n 1, 1) := by decide +kernel
theorem dX5_no_5 : decode cX5_no 5 = .ok (.ineg, 1) := by decide +kernel
theorem dX5_no_6 : decode cX5_no 6 = .ok (.dup2, 1) := by decide +kernel
theorem dX5_no_7 : decode cX5_no 7 = .ok (.iaload, 1) := by decide +kernel
theorem dX5_no_8 : decode cX5_no 8 = .ok (.iconst 1, 1) := by decide +kernel
theorem dX5_no_9 : decode cX5_no 9 = .ok (.iadd, 1) := by decide +kernel
theorem dX5_no_10 : decode cX5_no 10 = .ok (.iastore, 1) := by decide +kernel
theorem dX5_no_11 : decode cX5_no 11 = .ok (.iload_n 1, 1) := by decide +kernel
theorem dX5_no_12 : decode cX5_no 12 = .ok (.ireturn, 1) := by decide +kernel
theorem dX5_lowest_0 : decode cX5_lowest 0 = .ok (.aload_n 0, 1) := by decide +kernel
theorem dX5_lowest_1 : decode cX5_lowest 1 = .ok (.getfield 7, 3) := by decide +kernel
theorem dX5_lowest_4 : decode cX5_lowest 4 = .ok (.iload_n 1, 1) := by decide +kernel
theorem dX5_lowest_5 : decode cX5_lowest 5 = .ok (.ineg, 1) := by decide +kernel
theorem dX5_lowest_6 : decode cX5_lowest 6 = .ok (.dup2, 1) := by decide +kernel
theorem dX5_lowest_7 : decode cX5_lowest 7 = .ok (.iaload, 1) := by decide +kernel
theorem dX5_lowest_8 : decode cX5_lowest 8 = .ok (.iconst 1, 1) := by decide +kernel
theorem dX5_lowest_9 : decode cX5_lowest 9 = .ok (.iadd, 1) := by decide +kernel
theorem dX5_lowest_10 : decode cX5_lowest 10 = .ok (.iastore, 1) := by decide +kernel
theorem dX5_lowest_11 : decode cX5_lowest 11 = .ok (.ldc2_w 59, 3) := by decide +kernel
theorem dX5_lowest_14 : decode cX5_lowest 14 = .ok (.iload_n 1, 1) := by decide +kernel
theorem dX5_lowest_15 : decode cX5_lowest 15 = .ok (.i2l, 1) := by decide +kernel
theorem dX5_lowest_16 : decode cX5_lowest 16 = .ok (.lsub, 1) := by decide +kernel
theorem dX5_lowest_17 : decode cX5_lowest 17 = .ok (.lreturn, 1) := by decide +kernel
theorem dX5_isIn_0 : decode cX5_isIn 0 = .ok (.iload_n 0, 1) := by decide +kernel
theorem dX5_isIn_1 : decode cX5_isIn 1 = .ok (.iload_n 1, 1) := by decide +kernel
theorem dX5_isIn_2 : decode cX5_isIn 2 = .ok (.if_icmp .lt 12, 3) := by decide +kernel
theorem dX5_isIn_5 : decode cX5_isIn 5 = .ok (.iload_n 0, 1) := by decide +kernel
theorem dX5_isIn_6 : decode cX5_isIn 6 = .ok (.iload_n 2, 1) := by decide +kernel
theorem dX5_isIn_7 : decode cX5_isIn 7 = .ok (.if_icmp .gt 7, 3) := by decide +kernel
theorem dX5_isIn_10 : decode cX5_isIn 10 = .ok (.iconst 1, 1) := by decide +kernel
theorem dX5_isIn_11 : decode cX5_isIn 11 = .ok (.goto 4, 3) := by decide +kernel
theorem dX5_isIn_14 : decode cX5_isIn 14 = .ok (.iconst 0, 1) := by decide +kernel
theorem dX5_isIn_15 : decode cX5_isIn 15 = .ok (.ireturn, 1) := by decide +kernel
theorem dX5_bound_0 : decode cX5_bound 0 = .ok (.iload_n 0, 1) := by decide +kernel
theorem dX5_bound_1 : decode cX5_bound 1 = .ok (.iload_n 1, 1) := by decide +kernel
theorem dX5_bound_2 : decode cX5_bound 2 = .ok (.if_icmp .ge 8, 3) := by decide +kernel
theorem dX5_bound_5 : decode cX5_bound 5 = .ok (.bipush (-4), 2) := by decide +kernel
theorem dX5_bound_7 : decode cX5_bound 7 = .ok (.goto 14, 3) := by decide +kernel
theorem dX5_bound_10 : decode cX5_bound 10 = .ok (.iload_n 0, 1) := by decide +kernel
theorem dX5_bound_11 : decode cX5_bound 11 = .ok (.iload_n 2, 1) := by decide +kernel
theorem dX5_bound_12 : decode cX5_bound 12 = .ok (.if_icmp .le 8, 3) := by decide +kernel
theorem dX5_bound_15 : decode cX5_bound 15 = .ok (.bipush (-6), 2) := by decide +kernel
theorem dX5_bound_17 : decode cX5_bound 17 = .ok (.goto 4, 3) := by decide +kernel
theorem dX5_bound_20 : decode cX5_bound 20 = .ok (.iconst 0, 1) := by decide +kernel
theorem dX5_bound_21 : decode cX5_bound 21 = .ok (.ireturn, 1) := by decide +kernel
theorem dX5_isPlayer_0 : decode cX5_isPlayer 0 = .ok (.iload_n 1, 1) := by decide +kernel
theorem dX5_isPlayer_1 : decode cX5_isPlayer 1 = .ok (.ifCond .lt 15, 3) := by decide +kernel
theorem dX5_isPlayer_4 : decode cX5_isPlayer 4 = .ok (.iload_n 1, 1) := by decide +kernel
theorem dX5_isPlayer_5 : decode cX5_isPlayer 5 = .ok (.aload_n 0, 1) := by decide +kernel
theorem dX5_isPlayer_6 : decode cX5_isPlayer 6 = .ok (.getfield 61, 3) := by decide +kernel
theorem dX5_isPlayer_9 : decode cX5_isPlayer 9 = .ok (.if_icmp .ge 7, 3) := by decide +kernel
theorem dX5_isPlayer_12 : decode cX5_isPlayer 12 = .ok (.iconst 1, 1) := by decide +kernel
theorem dX5_isPlayer_13 : decode cX5_isPlayer 13 = .ok (.goto 4, 3) := by decide +kernel
theorem dX5_isPlayer_16 : decode cX5_isPlayer 16 = .ok (.iconst 0, 1) := by decide +kernel
theorem dX5_isPlayer_17 : decode cX5_isPlayer 17 = .ok (.ireturn, 1) := by decide +kernel
theorem dX5_isTouch_0 : decode cX5_isTouch 0 = .ok (.iload_n 1, 1) := by decide +kernel
theorem dX5_isTouch_1 : decode cX5_isTouch 1 = .ok (.ifCond .lt 15, 3) := by decide +kernel
theorem dX5_isTouch_4 : decode cX5_isTouch 4 = .ok (.iload_n 1, 1) := by decide +kernel
theorem dX5_isTouch_5 : decode cX5_isTouch 5 = .ok (.aload_n 0, 1) := by decide +kernel
theorem dX5_isTouch_6 : decode cX5_isTouch 6 = .ok (.getfield 64, 3) := by decide +kernel
theorem dX5_isTouch_9 : decode cX5_isTouch 9 = .ok (.if_icmp .ge 7, 3) := by decide +kernel
theorem dX5_isTouch_12 : decode cX5_isTouch 12 = .ok (.iconst 1, 1) := by decide +kernel
theorem dX5_isTouch_13 : decode cX5_isTouch 13 = .ok (.goto 4, 3) := by decide +kernel
theorem dX5_isTouch_16 : decode cX5_isTouch 16 = .ok (.iconst 0, 1) := by decide +kernel
theorem dX5_isTouch_17 : decode cX5_isTouch 17 = .ok (.ireturn, 1) := by decide +kernel
theorem dX5_isYard_0 : decode cX5_isYard 0 = .ok (.iload_n 1, 1) := by decide +kernel
theorem dX5_isYard_1 : decode cX5_isYard 1 = .ok (.ifCond .lt 15, 3) := by decide +kernel
theorem dX5_isYard_4 : decode cX5_isYard 4 = .ok (.iload_n 1, 1) := by decide +kernel
theorem dX5_isYard_5 : decode cX5_isYard 5 = .ok (.aload_n 0, 1) := by decide +kernel
theorem dX5_isYard_6 : decode cX5_isYard 6 = .ok (.getfield 34, 3) := by decide +kernel
theorem dX5_isYard_9 : decode cX5_isYard 9 = .ok (.if_icmp .ge 7, 3) := by decide +kernel
theorem dX5_isYard_12 : decode cX5_isYard 12 = .ok (.iconst 1, 1) := by decide +kernel
theorem dX5_isYard_13 : decode cX5_isYard 13 = .ok (.goto 4, 3) := by decide +kernel
theorem dX5_isYard_16 : decode cX5_isYard 16 = .ok (.iconst 0, 1) := by decide +kernel
theorem dX5_isYard_17 : decode cX5_isYard 17 = .ok (.ireturn, 1) := by decide +kernel
theorem dX5_feed_0 : decode cX5_feed 0 = .ok (.iload_n 1, 1) := by decide +kernel
theorem dX5_feed_1 : decode cX5_feed 1 = .ok (.iconst 0, 1) := by decide +kernel
theorem dX5_feed_2 : decode cX5_feed 2 = .ok (.sipush 255, 3) := by decide +kernel
theorem dX5_feed_5 : decode cX5_feed 5 = .ok (.invokestatic 67, 3) := by decide +kernel
theorem dX5_feed_8 : decode cX5_feed 8 = .ok (.istore_n 2, 1) := by decide +kernel
theorem dX5_feed_9 : decode cX5_feed 9 = .ok (.iload_n 2, 1) := by decide +kernel
theorem dX5_feed_10 : decode cX5_feed 10 = .ok (.ifCond .ne 15, 3) := by decide +kernel
theorem dX5_feed_13 : decode cX5_feed 13 = .ok (.aload_n 0, 1) := by decide +kernel
theorem dX5_feed_14 : decode cX5_feed 14 = .ok (.getfield 71, 3) := by decide +kernel
theorem dX5_feed_17 : decode cX5_feed 17 = .ok (.bipush 80, 2) := by decide +kernel
theorem dX5_feed_19 : decode cX5_feed 19 = .ok (.if_icmp .ne 6, 3) := by decide +kernel
theorem dX5_feed_22 : decode cX5_feed 22 = .ok (.bipush (-6), 2) := by decide +kernel
theorem dX5_feed_24 : decode cX5_feed 24 = .ok (.istore_n 2, 1) := by decide +kernel
theorem dX5_feed_25 : decode cX5_feed 25 = .ok (.iload_n 2, 1) := by decide +kernel
theorem dX5_feed_26 : decode cX5_feed 26 = .ok (.ifCond .eq 9, 3) := by decide +kernel
theorem dX5_feed_29 : decode cX5_feed 29 = .ok (.aload_n 0, 1) := by decide +kernel
theorem dX5_feed_30 : decode cX5_feed 30 = .ok (.iload_n 2, 1) := by decide +kernel
theorem dX5_feed_31 : decode cX5_feed 31 = .ok (.invokevirtual 74, 3) := by decide +kernel
theorem dX5_feed_34 : decode cX5_feed 34 = .ok (.ireturn, 1) := by decide +kernel
theorem dX5_feed_35 : decode cX5_feed 35 = .ok (.aload_n 0, 1) := by decide +kernel
theorem dX5_feed_36 : decode cX5_feed 36 = .ok (.getfield 41, 3) := by decide +kernel
theorem dX5_feed_39 : decode cX5_feed 39 = .ok (.aload_n 0, 1) := by decide +kernel
theorem dX5_feed_40 : decode cX5_feed 40 = .ok (.getfield 71, 3) := by decide +kernel
theorem dX5_feed_43 : decode cX5_feed 43 = .ok (.iload_n 1, 1) := by decide +kernel
theorem dX5_feed_44 : decode cX5_feed 44 = .ok (.iastore, 1) := by decide +kernel
theorem dX5_feed_45 : decode cX5_feed 45 = .ok (.aload_n 0, 1) := by decide +kernel
theorem dX5_feed_46 : decode cX5_feed 46 = .ok (.dup, 1) := by decide +kernel
theorem dX5_feed_47 : decode cX5_feed 47 = .ok (.getfield 71, 3) := by decide +kernel
theorem dX5_feed_50 : decode cX5_feed 50 = .ok (.iconst 1, 1) := by decide +kernel
theorem dX5_feed_51 : decode cX5_feed 51 = .ok (.iadd, 1) := by decide +kernel
theorem dX5_feed_52 : decode cX5_feed 52 = .ok (.putfield 71, 3) := by decide +kernel
theorem dX5_feed_55 : decode cX5_feed 55 = .ok (.aload_n 0, 1) := by decide +kernel
theorem dX5_feed_56 : decode cX5_feed 56 = .ok (.getfield 71, 3) := by decide +kernel
theorem dX5_feed_59 : decode cX5_feed 59 = .ok (.ireturn, 1) := by decide +kernel
theorem dX5_next_0 : decode cX5_next 0 = .ok (.aload_n 0, 1) := by decide +kernel
theorem dX5_next_1 : decode cX5_next 1 = .ok (.getfield 78, 3) := by decide +kernel
theorem dX5_next_4 : decode cX5_next 4 = .ok (.aload_n 0, 1) := by decide +kernel
theorem dX5_next_5 : decode cX5_next 5 = .ok (.getfield 71, 3) := by decide +kernel
theorem dX5_next_8 : decode cX5_next 8 = .ok (.if_icmp .ge 15, 3) := by decide +kernel
theorem dX5_next_11 : decode cX5_next 11 = .ok (.aload_n 0, 1) := by decide +kernel
theorem dX5_next_12 : decode cX5_next 12 = .ok (.getfield 41, 3) := by decide +kernel
theorem dX5_next_15 : decode cX5_next 15 = .ok (.aload_n 0, 1) := by decide +kernel
theorem dX5_next_16 : decode cX5_next 16 = .ok (.getfield 78, 3) := by decide +kernel
theorem dX5_next_19 : decode cX5_next 19 = .ok (.iaload, 1) := by decide +kernel
theorem dX5_next_20 : decode cX5_next 20 = .ok (.goto 4, 3) := by decide +kernel
theorem dX5_next_23 : decode cX5_next 23 = .ok (.iconst (-1), 1) := by decide +kernel
theorem dX5_next_24 : decode cX5_next 24 = .ok (.ireturn, 1) := by decide +kernel
theorem dX5_readsNumber_0 : decode cX5_readsNumber 0 = .ok (.aload_n 0, 1) := by decide +kernel
theorem dX5_readsNumber_1 : decode cX5_readsNumber 1 = .ok (.invokevirtual 81, 3) := by decide +kernel
theorem dX5_readsNumber_4 : decode cX5_readsNumber 4 = .ok (.bipush 48, 2) := by decide +kernel
theorem dX5_readsNumber_6 : decode cX5_readsNumber 6 = .ok (.bipush 57, 2) := by decide +kernel
theorem dX5_readsNumber_8 : decode cX5_readsNumber 8 = .ok (.invokestatic 85, 3) := by decide +kernel
theorem dX5_readsNumber_11 : decode cX5_readsNumber 11 = .ok (.ifCond .ne 5, 3) := by decide +kernel
theorem dX5_readsNumber_14 : decode cX5_readsNumber 14 = .ok (.iconst 0, 1) := by decide +kernel
theorem dX5_readsNumber_15 : decode cX5_readsNumber 15 = .ok (.ireturn, 1) := by decide +kernel
theorem dX5_readsNumber_16 : decode cX5_readsNumber 16 = .ok (.iconst 0, 1) := by decide +kernel
theorem dX5_readsNumber_17 : decode cX5_readsNumber 17 = .ok (.istore_n 3, 1) := by decide +kernel
theorem dX5_readsNumber_18 : decode cX5_readsNumber 18 = .ok (.iconst 0, 1) := by decide +kernel
theorem dX5_readsNumber_19 : decode cX5_readsNumber 19 = .ok (.istore 4, 2) := by decide +kernel
theorem dX5_readsNumber_21 : decode cX5_readsNumber 21 = .ok (.iload 4, 2) := by decide +kernel
theorem dX5_readsNumber_23 : decode cX5_readsNumber 23 = .ok (.iload_n 2, 1) := by decide +kernel
theorem dX5_readsNumber_24 : decode cX5_readsNumber 24 = .ok (.if_icmp .ge 46, 3) := by decide +kernel
theorem dX5_readsNumber_27 : decode cX5_readsNumber 27 = .ok (.aload_n 0, 1) := by decide +kernel
theorem dX5_readsNumber_28 : decode cX5_readsNumber 28 = .ok (.invokevirtual 81, 3) := by decide +kernel
theorem dX5_readsNumber_31 : decode cX5_readsNumber 31 = .ok (.bipush 48, 2) := by decide +kernel
theorem dX5_readsNumber_33 : decode cX5_readsNumber 33 = .ok (.bipush 57, 2) := by decide +kernel
theorem dX5_readsNumber_35 : decode cX5_readsNumber 35 = .ok (.invokestatic 85, 3) := by decide +kernel
theorem dX5_readsNumber_38 : decode cX5_readsNumber 38 = .ok (.ifCond .eq 32, 3) := by decide +kernel
theorem dX5_readsNumber_41 : decode cX5_readsNumber 41 = .ok (.bipush 10, 2) := by decide +kernel
theorem dX5_readsNumber_43 : decode cX5_readsNumber 43 = .ok (.iload_n 3, 1) := by decide +kernel
theorem dX5_readsNumber_44 : decode cX5_readsNumber 44 = .ok (.imul, 1) := by decide +kernel
theorem dX5_readsNumber_45 : decode cX5_readsNumber 45 = .ok (.aload_n 0, 1) := by decide +kernel
theorem dX5_readsNumber_46 : decode cX5_readsNumber 46 = .ok (.invokevirtual 81, 3) := by decide +kernel
theorem dX5_readsNumber_49 : decode cX5_readsNumber 49 = .ok (.iadd, 1) := by decide +kernel
theorem dX5_readsNumber_50 : decode cX5_readsNumber 50 = .ok (.bipush 48, 2) := by decide +kernel
theorem dX5_readsNumber_52 : decode cX5_readsNumber 52 = .ok (.isub, 1) := by decide +kernel
theorem dX5_readsNumber_53 : decode cX5_readsNumber 53 = .ok (.istore_n 3, 1) := by decide +kernel
theorem dX5_readsNumber_54 : decode cX5_readsNumber 54 = .ok (.aload_n 0, 1) := by decide +kernel
theorem dX5_readsNumber_55 : decode cX5_readsNumber 55 = .ok (.dup, 1) := by decide +kernel
theorem dX5_readsNumber_56 : decode cX5_readsNumber 56 = .ok (.getfield 78, 3) := by decide +kernel
theorem dX5_readsNumber_59 : decode cX5_readsNumber 59 = .ok (.iconst 1, 1) := by decide +kernel
theorem dX5_readsNumber_60 : decode cX5_readsNumber 60 = .ok (.iadd, 1) := by decide +kernel
theorem dX5_readsNumber_61 : decode cX5_readsNumber 61 = .ok (.putfield 78, 3) := by decide +kernel
theorem dX5_readsNumber_64 : decode cX5_readsNumber 64 = .ok (.iinc 4 1, 3) := by decide +kernel
theorem dX5_readsNumber_67 : decode cX5_readsNumber 67 = .ok (.goto (-46), 3) := by decide +kernel
theorem dX5_readsNumber_70 : decode cX5_readsNumber 70 = .ok (.aload_n 0, 1) := by decide +kernel
theorem dX5_readsNumber_71 : decode cX5_readsNumber 71 = .ok (.getfield 50, 3) := by decide +kernel
theorem dX5_readsNumber_74 : decode cX5_readsNumber 74 = .ok (.iload_n 1, 1) := by decide +kernel
theorem dX5_readsNumber_75 : decode cX5_readsNumber 75 = .ok (.iload_n 3, 1) := by decide +kernel
theorem dX5_readsNumber_76 : decode cX5_readsNumber 76 = .ok (.iastore, 1) := by decide +kernel
theorem dX5_readsNumber_77 : decode cX5_readsNumber 77 = .ok (.iconst 1, 1) := by decide +kernel
theorem dX5_readsNumber_78 : decode cX5_readsNumber 78 = .ok (.ireturn, 1) := by decide +kernel
theorem dX5_readsWind_0 : decode cX5_readsWind 0 = .ok (.aload_n 0, 1) := by decide +kernel
theorem dX5_readsWind_1 : decode cX5_readsWind 1 = .ok (.invokevirtual 81, 3) := by decide +kernel
theorem dX5_readsWind_4 : decode cX5_readsWind 4 = .ok (.bipush 43, 2) := by decide +kernel
theorem dX5_readsWind_6 : decode cX5_readsWind 6 = .ok (.if_icmp .ne 7, 3) := by decide +kernel
theorem dX5_readsWind_9 : decode cX5_readsWind 9 = .ok (.iconst 1, 1) := by decide +kernel
theorem dX5_readsWind_10 : decode cX5_readsWind 10 = .ok (.goto 17, 3) := by decide +kernel
theorem dX5_readsWind_13 : decode cX5_readsWind 13 = .ok (.aload_n 0, 1) := by decide +kernel
theorem dX5_readsWind_14 : decode cX5_readsWind 14 = .ok (.invokevirtual 81, 3) := by decide +kernel
theorem dX5_readsWind_17 : decode cX5_readsWind 17 = .ok (.bipush 45, 2) := by decide +kernel
theorem dX5_readsWind_19 : decode cX5_readsWind 19 = .ok (.if_icmp .ne 7, 3) := by decide +kernel
theorem dX5_readsWind_22 : decode cX5_readsWind 22 = .ok (.iconst (-1), 1) := by decide +kernel
theorem dX5_readsWind_23 : decode cX5_readsWind 23 = .ok (.goto 4, 3) := by decide +kernel
theorem dX5_readsWind_26 : decode cX5_readsWind 26 = .ok (.iconst 0, 1) := by decide +kernel
theorem dX5_readsWind_27 : decode cX5_readsWind 27 = .ok (.istore_n 2, 1) := by decide +kernel
theorem dX5_readsWind_28 : decode cX5_readsWind 28 = .ok (.iload_n 2, 1) := by decide +kernel
theorem dX5_readsWind_29 : decode cX5_readsWind 29 = .ok (.ifCond .ne 5, 3) := by decide +kernel
theorem dX5_readsWind_32 : decode cX5_readsWind 32 = .ok (.iconst 0, 1) := by decide +kernel
theorem dX5_readsWind_33 : decode cX5_readsWind 33 = .ok (.ireturn, 1) := by decide +kernel
theorem dX5_readsWind_34 : decode cX5_readsWind 34 = .ok (.aload_n 0, 1) := by decide +kernel
theorem dX5_readsWind_35 : decode cX5_readsWind 35 = .ok (.dup, 1) := by decide +kernel
theorem dX5_readsWind_36 : decode cX5_readsWind 36 = .ok (.getfield 78, 3) := by decide +kernel
theorem dX5_readsWind_39 : decode cX5_readsWind 39 = .ok (.iconst 1, 1) := by decide +kernel
theorem dX5_readsWind_40 : decode cX5_readsWind 40 = .ok (.iadd, 1) := by decide +kernel
theorem dX5_readsWind_41 : decode cX5_readsWind 41 = .ok (.putfield 78, 3) := by decide +kernel
theorem dX5_readsWind_44 : decode cX5_readsWind 44 = .ok (.aload_n 0, 1) := by decide +kernel
theorem dX5_readsWind_45 : decode cX5_readsWind 45 = .ok (.iload_n 1, 1) := by decide +kernel
theorem dX5_readsWind_46 : decode cX5_readsWind 46 = .ok (.iconst 1, 1) := by decide +kernel
theorem dX5_readsWind_47 : decode cX5_readsWind 47 = .ok (.invokevirtual 89, 3) := by decide +kernel
theorem dX5_readsWind_50 : decode cX5_readsWind 50 = .ok (.ifCond .ne 5, 3) := by decide +kernel
theorem dX5_readsWind_53 : decode cX5_readsWind 53 = .ok (.iconst 0, 1) := by decide +kernel
theorem dX5_readsWind_54 : decode cX5_readsWind 54 = .ok (.ireturn, 1) := by decide +kernel
theorem dX5_readsWind_55 : decode cX5_readsWind 55 = .ok (.aload_n 0, 1) := by decide +kernel
theorem dX5_readsWind_56 : decode cX5_readsWind 56 = .ok (.getfield 50, 3) := by decide +kernel
theorem dX5_readsWind_59 : decode cX5_readsWind 59 = .ok (.iload_n 1, 1) := by decide +kernel
theorem dX5_readsWind_60 : decode cX5_readsWind 60 = .ok (.dup2, 1) := by decide +kernel
theorem dX5_readsWind_61 : decode cX5_readsWind 61 = .ok (.iaload, 1) := by decide +kernel
theorem dX5_readsWind_62 : decode cX5_readsWind 62 = .ok (.iload_n 2, 1) := by decide +kernel
theorem dX5_readsWind_63 : decode cX5_readsWind 63 = .ok (.imul, 1) := by decide +kernel
theorem dX5_readsWind_64 : decode cX5_readsWind 64 = .ok (.iastore, 1) := by decide +kernel
theorem dX5_readsWind_65 : decode cX5_readsWind 65 = .ok (.iconst 1, 1) := by decide +kernel
theorem dX5_readsWind_66 : decode cX5_readsWind 66 = .ok (.ireturn, 1) := by decide +kernel
theorem dX5_readsPlayer_0 : decode cX5_readsPlayer 0 = .ok (.aload_n 0, 1) := by decide +kernel
theorem dX5_readsPlayer_1 : decode cX5_readsPlayer 1 = .ok (.iload_n 1, 1) := by decide +kernel
theorem dX5_readsPlayer_2 : decode cX5_readsPlayer 2 = .ok (.iconst 2, 1) := by decide +kernel
theorem dX5_readsPlayer_3 : decode cX5_readsPlayer 3 = .ok (.invokevirtual 89, 3) := by decide +kernel
theorem dX5_readsPlayer_6 : decode cX5_readsPlayer 6 = .ok (.ifCond .eq 12, 3) := by decide +kernel
theorem dX5_readsPlayer_9 : decode cX5_readsPlayer 9 = .ok (.aload_n 0, 1) := by decide +kernel
theorem dX5_readsPlayer_10 : decode cX5_readsPlayer 10 = .ok (.invokevirtual 81, 3) := by decide +kernel
theorem dX5_readsPlayer_13 : decode cX5_readsPlayer 13 = .ok (.bipush 44, 2) := by decide +kernel
theorem dX5_readsPlayer_15 : decode cX5_readsPlayer 15 = .ok (.if_icmp .eq 5, 3) := by decide +kernel
theorem dX5_readsPlayer_18 : decode cX5_readsPlayer 18 = .ok (.iconst 0, 1) := by decide +kernel
theorem dX5_readsPlayer_19 : decode cX5_readsPlayer 19 = .ok (.ireturn, 1) := by decide +kernel
theorem dX5_readsPlayer_20 : decode cX5_readsPlayer 20 = .ok (.aload_n 0, 1) := by decide +kernel
theorem dX5_readsPlayer_21 : decode cX5_readsPlayer 21 = .ok (.dup, 1) := by decide +kernel
theorem dX5_readsPlayer_22 : decode cX5_readsPlayer 22 = .ok (.getfield 78, 3) := by decide +kernel
theorem dX5_readsPlayer_25 : decode cX5_readsPlayer 25 = .ok (.iconst 1, 1) := by decide +kernel
theorem dX5_readsPlayer_26 : decode cX5_readsPlayer 26 = .ok (.iadd, 1) := by decide +kernel
theorem dX5_readsPlayer_27 : decode cX5_readsPlayer 27 = .ok (.putfield 78, 3) := by decide +kernel
theorem dX5_readsPlayer_30 : decode cX5_readsPlayer 30 = .ok (.aload_n 0, 1) := by decide +kernel
theorem dX5_readsPlayer_31 : decode cX5_readsPlayer 31 = .ok (.iload_n 1, 1) := by decide +kernel
theorem dX5_readsPlayer_32 : decode cX5_readsPlayer 32 = .ok (.iconst 1, 1) := by decide +kernel
theorem dX5_readsPlayer_33 : decode cX5_readsPlayer 33 = .ok (.iadd, 1) := by decide +kernel
theorem dX5_readsPlayer_34 : decode cX5_readsPlayer 34 = .ok (.iconst 1, 1) := by decide +kernel
theorem dX5_readsPlayer_35 : decode cX5_readsPlayer 35 = .ok (.invokevirtual 89, 3) := by decide +kernel
theorem dX5_readsPlayer_38 : decode cX5_readsPlayer 38 = .ok (.ifCond .eq 18, 3) := by decide +kernel
theorem dX5_readsPlayer_41 : decode cX5_readsPlayer 41 = .ok (.aload_n 0, 1) := by decide +kernel
theorem dX5_readsPlayer_42 : decode cX5_readsPlayer 42 = .ok (.iload_n 1, 1) := by decide +kernel
theorem dX5_readsPlayer_43 : decode cX5_readsPlayer 43 = .ok (.iconst 2, 1) := by decide +kernel
theorem dX5_readsPlayer_44 : decode cX5_readsPlayer 44 = .ok (.iadd, 1) := by decide +kernel
theorem dX5_readsPlayer_45 : decode cX5_readsPlayer 45 = .ok (.iconst 1, 1) := by decide +kernel
theorem dX5_readsPlayer_46 : decode cX5_readsPlayer 46 = .ok (.invokevirtual 89, 3) := by decide +kernel
theorem dX5_readsPlayer_49 : decode cX5_readsPlayer 49 = .ok (.ifCond .eq 7, 3) := by decide +kernel
theorem dX5_readsPlayer_52 : decode cX5_readsPlayer 52 = .ok (.iconst 1, 1) := by decide +kernel
theorem dX5_readsPlayer_53 : decode cX5_readsPlayer 53 = .ok (.goto 4, 3) := by decide +kernel
theorem dX5_readsPlayer_56 : decode cX5_readsPlayer 56 = .ok (.iconst 0, 1) := by decide +kernel
theorem dX5_readsPlayer_57 : decode cX5_readsPlayer 57 = .ok (.ireturn, 1) := by decide +kernel
theorem dX5_readsAll_0 : decode cX5_readsAll 0 = .ok (.iload_n 1, 1) := by decide +kernel
theorem dX5_readsAll_1 : decode cX5_readsAll 1 = .ok (.tableswitch 111 112 121 #[68, 111, 111, 111, 74, 111, 111, 62, 111, 55], 55) := by decide +kernel
theorem dX5_readsAll_56 : decode cX5_readsAll 56 = .ok (.aload_n 0, 1) := by decide +kernel
theorem dX5_readsAll_57 : decode cX5_readsAll 57 = .ok (.iload_n 2, 1) := by decide +kernel
theorem dX5_readsAll_58 : decode cX5_readsAll 58 = .ok (.iconst 2, 1) := by decide +kernel
theorem dX5_readsAll_59 : decode cX5_readsAll 59 = .ok (.invokevirtual 89, 3) := by decide +kernel
theorem dX5_readsAll_62 : decode cX5_readsAll 62 = .ok (.ireturn, 1) := by decide +kernel
theorem dX5_readsAll_63 : decode cX5_readsAll 63 = .ok (.aload_n 0, 1) := by decide +kernel
theorem dX5_readsAll_64 : decode cX5_readsAll 64 = .ok (.iload_n 2, 1) := by decide +kernel
theorem dX5_readsAll_65 : decode cX5_readsAll 65 = .ok (.invokevirtual 93, 3) := by decide +kernel
theorem dX5_readsAll_68 : decode cX5_readsAll 68 = .ok (.ireturn, 1) := by decide +kernel
theorem dX5_readsAll_69 : decode cX5_readsAll 69 = .ok (.aload_n 0, 1) := by decide +kernel
theorem dX5_readsAll_70 : decode cX5_readsAll 70 = .ok (.iload_n 2, 1) := by decide +kernel
theorem dX5_readsAll_71 : decode cX5_readsAll 71 = .ok (.invokevirtual 97, 3) := by decide +kernel
theorem dX5_readsAll_74 : decode cX5_readsAll 74 = .ok (.ireturn, 1) := by decide +kernel
theorem dX5_readsAll_75 : decode cX5_readsAll 75 = .ok (.aload_n 0, 1) := by decide +kernel
theorem dX5_readsAll_76 : decode cX5_readsAll 76 = .ok (.iload_n 2, 1) := by decide +kernel
theorem dX5_readsAll_77 : decode cX5_readsAll 77 = .ok (.iconst 1, 1) := by decide +kernel
theorem dX5_readsAll_78 : decode cX5_readsAll 78 = .ok (.invokevirtual 89, 3) := by decide +kernel
theorem dX5_readsAll_81 : decode cX5_readsAll 81 = .ok (.ifCond .eq 29, 3) := by decide +kernel
theorem dX5_readsAll_84 : decode cX5_readsAll 84 = .ok (.aload_n 0, 1) := by decide +kernel
theorem dX5_readsAll_85 : decode cX5_readsAll 85 = .ok (.iload_n 2, 1) := by decide +kernel
theorem dX5_readsAll_86 : decode cX5_readsAll 86 = .ok (.iconst 1, 1) := by decide +kernel
theorem dX5_readsAll_87 : decode cX5_readsAll 87 = .ok (.iadd, 1) := by decide +kernel
theorem dX5_readsAll_88 : decode cX5_readsAll 88 = .ok (.iconst 1, 1) := by decide +kernel
theorem dX5_readsAll_89 : decode cX5_readsAll 89 = .ok (.invokevirtual 89, 3) := by decide +kernel
theorem dX5_readsAll_92 : decode cX5_readsAll 92 = .ok (.ifCond .eq 18, 3) := by decide +kernel
theorem dX5_readsAll_95 : decode cX5_readsAll 95 = .ok (.aload_n 0, 1) := by decide +kernel
theorem dX5_readsAll_96 : decode cX5_readsAll 96 = .ok (.iload_n 2, 1) := by decide +kernel
theorem dX5_readsAll_97 : decode cX5_readsAll 97 = .ok (.iconst 2, 1) := by decide +kernel
theorem dX5_readsAll_98 : decode cX5_readsAll 98 = .ok (.iadd, 1) := by decide +kernel
theorem dX5_readsAll_99 : decode cX5_readsAll 99 = .ok (.iconst 1, 1) := by decide +kernel
theorem dX5_readsAll_100 : decode cX5_readsAll 100 = .ok (.invokevirtual 89, 3) := by decide +kernel
theorem dX5_readsAll_103 : decode cX5_readsAll 103 = .ok (.ifCond .eq 7, 3) := by decide +kernel
theorem dX5_readsAll_106 : decode cX5_readsAll 106 = .ok (.iconst 1, 1) := by decide +kernel
theorem dX5_readsAll_107 : decode cX5_readsAll 107 = .ok (.goto 4, 3) := by decide +kernel
theorem dX5_readsAll_110 : decode cX5_readsAll 110 = .ok (.iconst 0, 1) := by decide +kernel
theorem dX5_readsAll_111 : decode cX5_readsAll 111 = .ok (.ireturn, 1) := by decide +kernel
theorem dX5_readsAll_112 : decode cX5_readsAll 112 = .ok (.aload_n 0, 1) := by decide +kernel
theorem dX5_readsAll_113 : decode cX5_readsAll 113 = .ok (.iload_n 2, 1) := by decide +kernel
theorem dX5_readsAll_114 : decode cX5_readsAll 114 = .ok (.iconst 1, 1) := by decide +kernel
theorem dX5_readsAll_115 : decode cX5_readsAll 115 = .ok (.invokevirtual 89, 3) := by decide +kernel
theorem dX5_readsAll_118 : decode cX5_readsAll 118 = .ok (.ireturn, 1) := by decide +kernel
theorem dX5_statement_0 : decode cX5_statement 0 = .ok (.aload_n 0, 1) := by decide +kernel
theorem dX5_statement_1 : decode cX5_statement 1 = .ok (.invokevirtual 81, 3) := by decide +kernel
theorem dX5_statement_4 : decode cX5_statement 4 = .ok (.istore_n 1, 1) := by decide +kernel
theorem dX5_statement_5 : decode cX5_statement 5 = .ok (.iload_n 1, 1) := by decide +kernel
theorem dX5_statement_6 : decode cX5_statement 6 = .ok (.bipush 121, 2) := by decide +kernel
theorem dX5_statement_8 : decode cX5_statement 8 = .ok (.if_icmp .eq 29, 3) := by decide +kernel
theorem dX5_statement_11 : decode cX5_statement 11 = .ok (.iload_n 1, 1) := by decide +kernel
theorem dX5_statement_12 : decode cX5_statement 12 = .ok (.bipush 119, 2) := by decide +kernel
theorem dX5_statement_14 : decode cX5_statement 14 = .ok (.if_icmp .eq 23, 3) := by decide +kernel
theorem dX5_statement_17 : decode cX5_statement 17 = .ok (.iload_n 1, 1) := by decide +kernel
theorem dX5_statement_18 : decode cX5_statement 18 = .ok (.bipush 112, 2) := by decide +kernel
theorem dX5_statement_20 : decode cX5_statement 20 = .ok (.if_icmp .eq 17, 3) := by decide +kernel
theorem dX5_statement_23 : decode cX5_statement 23 = .ok (.iload_n 1, 1) := by decide +kernel
theorem dX5_statement_24 : decode cX5_statement 24 = .ok (.bipush 116, 2) := by decide +kernel
theorem dX5_statement_26 : decode cX5_statement 26 = .ok (.if_icmp .eq 11, 3) := by decide +kernel
theorem dX5_statement_29 : decode cX5_statement 29 = .ok (.iload_n 1, 1) := by decide +kernel
theorem dX5_statement_30 : decode cX5_statement 30 = .ok (.bipush 98, 2) := by decide +kernel
theorem dX5_statement_32 : decode cX5_statement 32 = .ok (.if_icmp .eq 5, 3) := by decide +kernel
theorem dX5_statement_35 : decode cX5_statement 35 = .ok (.iconst 0, 1) := by decide +kernel
theorem dX5_statement_36 : decode cX5_statement 36 = .ok (.ireturn, 1) := by decide +kernel
theorem dX5_statement_37 : decode cX5_statement 37 = .ok (.aload_n 0, 1) := by decide +kernel
theorem dX5_statement_38 : decode cX5_statement 38 = .ok (.getfield 44, 3) := by decide +kernel
theorem dX5_statement_41 : decode cX5_statement 41 = .ok (.aload_n 0, 1) := by decide +kernel
theorem dX5_statement_42 : decode cX5_statement 42 = .ok (.getfield 100, 3) := by decide +kernel
theorem dX5_statement_45 : decode cX5_statement 45 = .ok (.iload_n 1, 1) := by decide +kernel
theorem dX5_statement_46 : decode cX5_statement 46 = .ok (.iastore, 1) := by decide +kernel
theorem dX5_statement_47 : decode cX5_statement 47 = .ok (.aload_n 0, 1) := by decide +kernel
theorem dX5_statement_48 : decode cX5_statement 48 = .ok (.getfield 47, 3) := by decide +kernel
theorem dX5_statement_51 : decode cX5_statement 51 = .ok (.aload_n 0, 1) := by decide +kernel
theorem dX5_statement_52 : decode cX5_statement 52 = .ok (.getfield 100, 3) := by decide +kernel
theorem dX5_statement_55 : decode cX5_statement 55 = .ok (.aload_n 0, 1) := by decide +kernel
theorem dX5_statement_56 : decode cX5_statement 56 = .ok (.getfield 78, 3) := by decide +kernel
theorem dX5_statement_59 : decode cX5_statement 59 = .ok (.iastore, 1) := by decide +kernel
theorem dX5_statement_60 : decode cX5_statement 60 = .ok (.aload_n 0, 1) := by decide +kernel
theorem dX5_statement_61 : decode cX5_statement 61 = .ok (.dup, 1) := by decide +kernel
theorem dX5_statement_62 : decode cX5_statement 62 = .ok (.getfield 78, 3) := by decide +kernel
theorem dX5_statement_65 : decode cX5_statement 65 = .ok (.iconst 1, 1) := by decide +kernel
theorem dX5_statement_66 : decode cX5_statement 66 = .ok (.iadd, 1) := by decide +kernel
theorem dX5_statement_67 : decode cX5_statement 67 = .ok (.putfield 78, 3) := by decide +kernel
theorem dX5_statement_70 : decode cX5_statement 70 = .ok (.aload_n 0, 1) := by decide +kernel
theorem dX5_statement_71 : decode cX5_statement 71 = .ok (.iload_n 1, 1) := by decide +kernel
theorem dX5_statement_72 : decode cX5_statement 72 = .ok (.iconst 3, 1) := by decide +kernel
theorem dX5_statement_73 : decode cX5_statement 73 = .ok (.aload_n 0, 1) := by decide +kernel
theorem dX5_statement_74 : decode cX5_statement 74 = .ok (.getfield 100, 3) := by decide +kernel
theorem dX5_statement_77 : decode cX5_statement 77 = .ok (.imul, 1) := by decide +kernel
theorem dX5_statement_78 : decode cX5_statement 78 = .ok (.invokevirtual 103, 3) := by decide +kernel
theorem dX5_statement_81 : decode cX5_statement 81 = .ok (.ifCond .eq 12, 3) := by decide +kernel
theorem dX5_statement_84 : decode cX5_statement 84 = .ok (.aload_n 0, 1) := by decide +kernel
theorem dX5_statement_85 : decode cX5_statement 85 = .ok (.invokevirtual 81, 3) := by decide +kernel
theorem dX5_statement_88 : decode cX5_statement 88 = .ok (.bipush 59, 2) := by decide +kernel
theorem dX5_statement_90 : decode cX5_statement 90 = .ok (.if_icmp .eq 5, 3) := by decide +kernel
theorem dX5_statement_93 : decode cX5_statement 93 = .ok (.iconst 0, 1) := by decide +kernel
theorem dX5_statement_94 : decode cX5_statement 94 = .ok (.ireturn, 1) := by decide +kernel
theorem dX5_statement_95 : decode cX5_statement 95 = .ok (.aload_n 0, 1) := by decide +kernel
theorem dX5_statement_96 : decode cX5_statement 96 = .ok (.dup, 1) := by decide +kernel
theorem dX5_statement_97 : decode cX5_statement 97 = .ok (.getfield 78, 3) := by decide +kernel
theorem dX5_statement_100 : decode cX5_statement 100 = .ok (.iconst 1, 1) := by decide +kernel
theorem dX5_statement_101 : decode cX5_statement 101 = .ok (.iadd, 1) := by decide +kernel
theorem dX5_statement_102 : decode cX5_statement 102 = .ok (.putfield 78, 3) := by decide +kernel
theorem dX5_statement_105 : decode cX5_statement 105 = .ok (.iconst 1, 1) := by decide +kernel
theorem dX5_statement_106 : decode cX5_statement 106 = .ok (.ireturn, 1) := by decide +kernel
theorem dX5_comesPlayer_0 : decode cX5_comesPlayer 0 = .ok (.aload_n 0, 1) := by decide +kernel
theorem dX5_comesPlayer_1 : decode cX5_comesPlayer 1 = .ok (.aload_n 0, 1) := by decide +kernel
theorem dX5_comesPlayer_2 : decode cX5_comesPlayer 2 = .ok (.getfield 50, 3) := by decide +kernel
theorem dX5_comesPlayer_5 : decode cX5_comesPlayer 5 = .ok (.iload_n 1, 1) := by decide +kernel
theorem dX5_comesPlayer_6 : decode cX5_comesPlayer 6 = .ok (.iaload, 1) := by decide +kernel
theorem dX5_comesPlayer_7 : decode cX5_comesPlayer 7 = .ok (.invokevirtual 106, 3) := by decide +kernel
theorem dX5_comesPlayer_10 : decode cX5_comesPlayer 10 = .ok (.ifCond .eq 27, 3) := by decide +kernel
theorem dX5_comesPlayer_13 : decode cX5_comesPlayer 13 = .ok (.aload_n 0, 1) := by decide +kernel
theorem dX5_comesPlayer_14 : decode cX5_comesPlayer 14 = .ok (.getfield 50, 3) := by decide +kernel
theorem dX5_comesPlayer_17 : decode cX5_comesPlayer 17 = .ok (.iload_n 1, 1) := by decide +kernel
theorem dX5_comesPlayer_18 : decode cX5_comesPlayer 18 = .ok (.iconst 1, 1) := by decide +kernel
theorem dX5_comesPlayer_19 : decode cX5_comesPlayer 19 = .ok (.iadd, 1) := by decide +kernel
theorem dX5_comesPlayer_20 : decode cX5_comesPlayer 20 = .ok (.iaload, 1) := by decide +kernel
theorem dX5_comesPlayer_21 : decode cX5_comesPlayer 21 = .ok (.iconst 1, 1) := by decide +kernel
theorem dX5_comesPlayer_22 : decode cX5_comesPlayer 22 = .ok (.iconst 3, 1) := by decide +kernel
theorem dX5_comesPlayer_23 : decode cX5_comesPlayer 23 = .ok (.invokestatic 85, 3) := by decide +kernel
theorem dX5_comesPlayer_26 : decode cX5_comesPlayer 26 = .ok (.ifCond .eq 11, 3) := by decide +kernel
theorem dX5_comesPlayer_29 : decode cX5_comesPlayer 29 = .ok (.aload_n 0, 1) := by decide +kernel
theorem dX5_comesPlayer_30 : decode cX5_comesPlayer 30 = .ok (.getfield 61, 3) := by decide +kernel
theorem dX5_comesPlayer_33 : decode cX5_comesPlayer 33 = .ok (.iconst 5, 1) := by decide +kernel
theorem dX5_comesPlayer_34 : decode cX5_comesPlayer 34 = .ok (.if_icmp .ne 5, 3) := by decide +kernel
theorem dX5_comesPlayer_37 : decode cX5_comesPlayer 37 = .ok (.iconst 0, 1) := by decide +kernel
theorem dX5_comesPlayer_38 : decode cX5_comesPlayer 38 = .ok (.ireturn, 1) := by decide +kernel
theorem dX5_comesPlayer_39 : decode cX5_comesPlayer 39 = .ok (.aload_n 0, 1) := by decide +kernel
theorem dX5_comesPlayer_40 : decode cX5_comesPlayer 40 = .ok (.getfield 13, 3) := by decide +kernel
theorem dX5_comesPlayer_43 : decode cX5_comesPlayer 43 = .ok (.aload_n 0, 1) := by decide +kernel
theorem dX5_comesPlayer_44 : decode cX5_comesPlayer 44 = .ok (.getfield 61, 3) := by decide +kernel
theorem dX5_comesPlayer_47 : decode cX5_comesPlayer 47 = .ok (.aload_n 0, 1) := by decide +kernel
theorem dX5_comesPlayer_48 : decode cX5_comesPlayer 48 = .ok (.getfield 50, 3) := by decide +kernel
theorem dX5_comesPlayer_51 : decode cX5_comesPlayer 51 = .ok (.iload_n 1, 1) := by decide +kernel
theorem dX5_comesPlayer_52 : decode cX5_comesPlayer 52 = .ok (.iaload, 1) := by decide +kernel
theorem dX5_comesPlayer_53 : decode cX5_comesPlayer 53 = .ok (.iastore, 1) := by decide +kernel
theorem dX5_comesPlayer_54 : decode cX5_comesPlayer 54 = .ok (.aload_n 0, 1) := by decide +kernel
theorem dX5_comesPlayer_55 : decode cX5_comesPlayer 55 = .ok (.getfield 16, 3) := by decide +kernel
theorem dX5_comesPlayer_58 : decode cX5_comesPlayer 58 = .ok (.aload_n 0, 1) := by decide +kernel
theorem dX5_comesPlayer_59 : decode cX5_comesPlayer 59 = .ok (.getfield 61, 3) := by decide +kernel
theorem dX5_comesPlayer_62 : decode cX5_comesPlayer 62 = .ok (.aload_n 0, 1) := by decide +kernel
theorem dX5_comesPlayer_63 : decode cX5_comesPlayer 63 = .ok (.getfield 50, 3) := by decide +kernel
theorem dX5_comesPlayer_66 : decode cX5_comesPlayer 66 = .ok (.iload_n 1, 1) := by decide +kernel
theorem dX5_comesPlayer_67 : decode cX5_comesPlayer 67 = .ok (.iconst 1, 1) := by decide +kernel
theorem dX5_comesPlayer_68 : decode cX5_comesPlayer 68 = .ok (.iadd, 1) := by decide +kernel
theorem dX5_comesPlayer_69 : decode cX5_comesPlayer 69 = .ok (.iaload, 1) := by decide +kernel
theorem dX5_comesPlayer_70 : decode cX5_comesPlayer 70 = .ok (.iastore, 1) := by decide +kernel
theorem dX5_comesPlayer_71 : decode cX5_comesPlayer 71 = .ok (.aload_n 0, 1) := by decide +kernel
theorem dX5_comesPlayer_72 : decode cX5_comesPlayer 72 = .ok (.getfield 19, 3) := by decide +kernel
theorem dX5_comesPlayer_75 : decode cX5_comesPlayer 75 = .ok (.aload_n 0, 1) := by decide +kernel
theorem dX5_comesPlayer_76 : decode cX5_comesPlayer 76 = .ok (.getfield 61, 3) := by decide +kernel
theorem dX5_comesPlayer_79 : decode cX5_comesPlayer 79 = .ok (.aload_n 0, 1) := by decide +kernel
theorem dX5_comesPlayer_80 : decode cX5_comesPlayer 80 = .ok (.getfield 50, 3) := by decide +kernel
theorem dX5_comesPlayer_83 : decode cX5_comesPlayer 83 = .ok (.iload_n 1, 1) := by decide +kernel
theorem dX5_comesPlayer_84 : decode cX5_comesPlayer 84 = .ok (.iconst 2, 1) := by decide +kernel
theorem dX5_comesPlayer_85 : decode cX5_comesPlayer 85 = .ok (.iadd, 1) := by decide +kernel
theorem dX5_comesPlayer_86 : decode cX5_comesPlayer 86 = .ok (.iaload, 1) := by decide +kernel
theorem dX5_comesPlayer_87 : decode cX5_comesPlayer 87 = .ok (.iastore, 1) := by decide +kernel
theorem dX5_comesPlayer_88 : decode cX5_comesPlayer 88 = .ok (.aload_n 0, 1) := by decide +kernel
theorem dX5_comesPlayer_89 : decode cX5_comesPlayer 89 = .ok (.getfield 22, 3) := by decide +kernel
theorem dX5_comesPlayer_92 : decode cX5_comesPlayer 92 = .ok (.aload_n 0, 1) := by decide +kernel
theorem dX5_comesPlayer_93 : decode cX5_comesPlayer 93 = .ok (.getfield 61, 3) := by decide +kernel
theorem dX5_comesPlayer_96 : decode cX5_comesPlayer 96 = .ok (.iconst 0, 1) := by decide +kernel
theorem dX5_comesPlayer_97 : decode cX5_comesPlayer 97 = .ok (.iastore, 1) := by decide +kernel
theorem dX5_comesPlayer_98 : decode cX5_comesPlayer 98 = .ok (.aload_n 0, 1) := by decide +kernel
theorem dX5_comesPlayer_99 : decode cX5_comesPlayer 99 = .ok (.dup, 1) := by decide +kernel
theorem dX5_comesPlayer_100 : decode cX5_comesPlayer 100 = .ok (.getfield 61, 3) := by decide +kernel
theorem dX5_comesPlayer_103 : decode cX5_comesPlayer 103 = .ok (.iconst 1, 1) := by decide +kernel
theorem dX5_comesPlayer_104 : decode cX5_comesPlayer 104 = .ok (.iadd, 1) := by decide +kernel
theorem dX5_comesPlayer_105 : decode cX5_comesPlayer 105 = .ok (.putfield 61, 3) := by decide +kernel
theorem dX5_comesPlayer_108 : decode cX5_comesPlayer 108 = .ok (.iconst 1, 1) := by decide +kernel
theorem dX5_comesPlayer_109 : decode cX5_comesPlayer 109 = .ok (.ireturn, 1) := by decide +kernel
theorem dX5_comesTouch_0 : decode cX5_comesTouch 0 = .ok (.aload_n 0, 1) := by decide +kernel
theorem dX5_comesTouch_1 : decode cX5_comesTouch 1 = .ok (.getfield 50, 3) := by decide +kernel
theorem dX5_comesTouch_4 : decode cX5_comesTouch 4 = .ok (.iload_n 1, 1) := by decide +kernel
theorem dX5_comesTouch_5 : decode cX5_comesTouch 5 = .ok (.iaload, 1) := by decide +kernel
theorem dX5_comesTouch_6 : decode cX5_comesTouch 6 = .ok (.iconst 5, 1) := by decide +kernel
theorem dX5_comesTouch_7 : decode cX5_comesTouch 7 = .ok (.if_icmp .gt 23, 3) := by decide +kernel
theorem dX5_comesTouch_10 : decode cX5_comesTouch 10 = .ok (.aload_n 0, 1) := by decide +kernel
theorem dX5_comesTouch_11 : decode cX5_comesTouch 11 = .ok (.getfield 50, 3) := by decide +kernel
theorem dX5_comesTouch_14 : decode cX5_comesTouch 14 = .ok (.iload_n 1, 1) := by decide +kernel
theorem dX5_comesTouch_15 : decode cX5_comesTouch 15 = .ok (.iconst 2, 1) := by decide +kernel
theorem dX5_comesTouch_16 : decode cX5_comesTouch 16 = .ok (.iadd, 1) := by decide +kernel
theorem dX5_comesTouch_17 : decode cX5_comesTouch 17 = .ok (.iaload, 1) := by decide +kernel
theorem dX5_comesTouch_18 : decode cX5_comesTouch 18 = .ok (.ifCond .eq 12, 3) := by decide +kernel
theorem dX5_comesTouch_21 : decode cX5_comesTouch 21 = .ok (.aload_n 0, 1) := by decide +kernel
theorem dX5_comesTouch_22 : decode cX5_comesTouch 22 = .ok (.getfield 64, 3) := by decide +kernel
theorem dX5_comesTouch_25 : decode cX5_comesTouch 25 = .ok (.bipush 6, 2) := by decide +kernel
theorem dX5_comesTouch_27 : decode cX5_comesTouch 27 = .ok (.if_icmp .ne 5, 3) := by decide +kernel
theorem dX5_comesTouch_30 : decode cX5_comesTouch 30 = .ok (.iconst 0, 1) := by decide +kernel
theorem dX5_comesTouch_31 : decode cX5_comesTouch 31 = .ok (.ireturn, 1) := by decide +kernel
theorem dX5_comesTouch_32 : decode cX5_comesTouch 32 = .ok (.aload_n 0, 1) := by decide +kernel
theorem dX5_comesTouch_33 : decode cX5_comesTouch 33 = .ok (.getfield 25, 3) := by decide +kernel
theorem dX5_comesTouch_36 : decode cX5_comesTouch 36 = .ok (.aload_n 0, 1) := by decide +kernel
theorem dX5_comesTouch_37 : decode cX5_comesTouch 37 = .ok (.getfield 64, 3) := by decide +kernel
theorem dX5_comesTouch_40 : decode cX5_comesTouch 40 = .ok (.aload_n 0, 1) := by decide +kernel
theorem dX5_comesTouch_41 : decode cX5_comesTouch 41 = .ok (.getfield 50, 3) := by decide +kernel
theorem dX5_comesTouch_44 : decode cX5_comesTouch 44 = .ok (.iload_n 1, 1) := by decide +kernel
theorem dX5_comesTouch_45 : decode cX5_comesTouch 45 = .ok (.iaload, 1) := by decide +kernel
theorem dX5_comesTouch_46 : decode cX5_comesTouch 46 = .ok (.iastore, 1) := by decide +kernel
theorem dX5_comesTouch_47 : decode cX5_comesTouch 47 = .ok (.aload_n 0, 1) := by decide +kernel
theorem dX5_comesTouch_48 : decode cX5_comesTouch 48 = .ok (.getfield 28, 3) := by decide +kernel
theorem dX5_comesTouch_51 : decode cX5_comesTouch 51 = .ok (.aload_n 0, 1) := by decide +kernel
theorem dX5_comesTouch_52 : decode cX5_comesTouch 52 = .ok (.getfield 64, 3) := by decide +kernel
theorem dX5_comesTouch_55 : decode cX5_comesTouch 55 = .ok (.aload_n 0, 1) := by decide +kernel
theorem dX5_comesTouch_56 : decode cX5_comesTouch 56 = .ok (.getfield 50, 3) := by decide +kernel
theorem dX5_comesTouch_59 : decode cX5_comesTouch 59 = .ok (.iload_n 1, 1) := by decide +kernel
theorem dX5_comesTouch_60 : decode cX5_comesTouch 60 = .ok (.iconst 1, 1) := by decide +kernel
theorem dX5_comesTouch_61 : decode cX5_comesTouch 61 = .ok (.iadd, 1) := by decide +kernel
theorem dX5_comesTouch_62 : decode cX5_comesTouch 62 = .ok (.iaload, 1) := by decide +kernel
theorem dX5_comesTouch_63 : decode cX5_comesTouch 63 = .ok (.iastore, 1) := by decide +kernel
theorem dX5_comesTouch_64 : decode cX5_comesTouch 64 = .ok (.aload_n 0, 1) := by decide +kernel
theorem dX5_comesTouch_65 : decode cX5_comesTouch 65 = .ok (.getfield 31, 3) := by decide +kernel
theorem dX5_comesTouch_68 : decode cX5_comesTouch 68 = .ok (.aload_n 0, 1) := by decide +kernel
theorem dX5_comesTouch_69 : decode cX5_comesTouch 69 = .ok (.getfield 64, 3) := by decide +kernel
theorem dX5_comesTouch_72 : decode cX5_comesTouch 72 = .ok (.aload_n 0, 1) := by decide +kernel
theorem dX5_comesTouch_73 : decode cX5_comesTouch 73 = .ok (.getfield 50, 3) := by decide +kernel
theorem dX5_comesTouch_76 : decode cX5_comesTouch 76 = .ok (.iload_n 1, 1) := by decide +kernel
theorem dX5_comesTouch_77 : decode cX5_comesTouch 77 = .ok (.iconst 2, 1) := by decide +kernel
theorem dX5_comesTouch_78 : decode cX5_comesTouch 78 = .ok (.iadd, 1) := by decide +kernel
theorem dX5_comesTouch_79 : decode cX5_comesTouch 79 = .ok (.iaload, 1) := by decide +kernel
theorem dX5_comesTouch_80 : decode cX5_comesTouch 80 = .ok (.iastore, 1) := by decide +kernel
theorem dX5_comesTouch_81 : decode cX5_comesTouch 81 = .ok (.aload_n 0, 1) := by decide +kernel
theorem dX5_comesTouch_82 : decode cX5_comesTouch 82 = .ok (.dup, 1) := by decide +kernel
theorem dX5_comesTouch_83 : decode cX5_comesTouch 83 = .ok (.getfield 64, 3) := by decide +kernel
theorem dX5_comesTouch_86 : decode cX5_comesTouch 86 = .ok (.iconst 1, 1) := by decide +kernel
theorem dX5_comesTouch_87 : decode cX5_comesTouch 87 = .ok (.iadd, 1) := by decide +kernel
theorem dX5_comesTouch_88 : decode cX5_comesTouch 88 = .ok (.putfield 64, 3) := by decide +kernel
theorem dX5_comesTouch_91 : decode cX5_comesTouch 91 = .ok (.iconst 1, 1) := by decide +kernel
theorem dX5_comesTouch_92 : decode cX5_comesTouch 92 = .ok (.ireturn, 1) := by decide +kernel
theorem dX5_comesYards_0 : decode cX5_comesYards 0 = .ok (.iload_n 1, 1) := by decide +kernel
theorem dX5_comesYards_1 : decode cX5_comesYards 1 = .ok (.iconst 3, 1) := by decide +kernel
theorem dX5_comesYards_2 : decode cX5_comesYards 2 = .ok (.bipush 12, 2) := by decide +kernel
theorem dX5_comesYards_4 : decode cX5_comesYards 4 = .ok (.invokestatic 85, 3) := by decide +kernel
theorem dX5_comesYards_7 : decode cX5_comesYards 7 = .ok (.ifCond .ne 5, 3) := by decide +kernel
theorem dX5_comesYards_10 : decode cX5_comesYards 10 = .ok (.iconst 0, 1) := by decide +kernel
theorem dX5_comesYards_11 : decode cX5_comesYards 11 = .ok (.ireturn, 1) := by decide +kernel
theorem dX5_comesYards_12 : decode cX5_comesYards 12 = .ok (.aload_n 0, 1) := by decide +kernel
theorem dX5_comesYards_13 : decode cX5_comesYards 13 = .ok (.iload_n 1, 1) := by decide +kernel
theorem dX5_comesYards_14 : decode cX5_comesYards 14 = .ok (.putfield 34, 3) := by decide +kernel
theorem dX5_comesYards_17 : decode cX5_comesYards 17 = .ok (.iconst 0, 1) := by decide +kernel
theorem dX5_comesYards_18 : decode cX5_comesYards 18 = .ok (.istore_n 2, 1) := by decide +kernel
theorem dX5_comesYards_19 : decode cX5_comesYards 19 = .ok (.iload_n 2, 1) := by decide +kernel
theorem dX5_comesYards_20 : decode cX5_comesYards 20 = .ok (.aload_n 0, 1) := by decide +kernel
theorem dX5_comesYards_21 : decode cX5_comesYards 21 = .ok (.getfield 61, 3) := by decide +kernel
theorem dX5_comesYards_24 : decode cX5_comesYards 24 = .ok (.if_icmp .ge 37, 3) := by decide +kernel
theorem dX5_comesYards_27 : decode cX5_comesYards 27 = .ok (.aload_n 0, 1) := by decide +kernel
theorem dX5_comesYards_28 : decode cX5_comesYards 28 = .ok (.getfield 13, 3) := by decide +kernel
theorem dX5_comesYards_31 : decode cX5_comesYards 31 = .ok (.iload_n 2, 1) := by decide +kernel
theorem dX5_comesYards_32 : decode cX5_comesYards 32 = .ok (.aload_n 0, 1) := by decide +kernel
theorem dX5_comesYards_33 : decode cX5_comesYards 33 = .ok (.getfield 13, 3) := by decide +kernel
theorem dX5_comesYards_36 : decode cX5_comesYards 36 = .ok (.iload_n 2, 1) := by decide +kernel
theorem dX5_comesYards_37 : decode cX5_comesYards 37 = .ok (.iaload, 1) := by decide +kernel
theorem dX5_comesYards_38 : decode cX5_comesYards 38 = .ok (.iload_n 1, 1) := by decide +kernel
theorem dX5_comesYards_39 : decode cX5_comesYards 39 = .ok (.if_icmp .ge 12, 3) := by decide +kernel
theorem dX5_comesYards_42 : decode cX5_comesYards 42 = .ok (.aload_n 0, 1) := by decide +kernel
theorem dX5_comesYards_43 : decode cX5_comesYards 43 = .ok (.getfield 13, 3) := by decide +kernel
theorem dX5_comesYards_46 : decode cX5_comesYards 46 = .ok (.iload_n 2, 1) := by decide +kernel
theorem dX5_comesYards_47 : decode cX5_comesYards 47 = .ok (.iaload, 1) := by decide +kernel
theorem dX5_comesYards_48 : decode cX5_comesYards 48 = .ok (.goto 6, 3) := by decide +kernel
theorem dX5_comesYards_51 : decode cX5_comesYards 51 = .ok (.iload_n 1, 1) := by decide +kernel
theorem dX5_comesYards_52 : decode cX5_comesYards 52 = .ok (.iconst 1, 1) := by decide +kernel
theorem dX5_comesYards_53 : decode cX5_comesYards 53 = .ok (.isub, 1) := by decide +kernel
theorem dX5_comesYards_54 : decode cX5_comesYards 54 = .ok (.iastore, 1) := by decide +kernel
theorem dX5_comesYards_55 : decode cX5_comesYards 55 = .ok (.iinc 2 1, 3) := by decide +kernel
theorem dX5_comesYards_58 : decode cX5_comesYards 58 = .ok (.goto (-39), 3) := by decide +kernel
theorem dX5_comesYards_61 : decode cX5_comesYards 61 = .ok (.iconst 1, 1) := by decide +kernel
theorem dX5_comesYards_62 : decode cX5_comesYards 62 = .ok (.ireturn, 1) := by decide +kernel
theorem dX5_comes_0 : decode cX5_comes 0 = .ok (.iconst 3, 1) := by decide +kernel
theorem dX5_comes_1 : decode cX5_comes 1 = .ok (.iload_n 1, 1) := by decide +kernel
theorem dX5_comes_2 : decode cX5_comes 2 = .ok (.imul, 1) := by decide +kernel
theorem dX5_comes_3 : decode cX5_comes 3 = .ok (.istore_n 2, 1) := by decide +kernel
theorem dX5_comes_4 : decode cX5_comes 4 = .ok (.aload_n 0, 1) := by decide +kernel
theorem dX5_comes_5 : decode cX5_comes 5 = .ok (.getfield 44, 3) := by decide +kernel
theorem dX5_comes_8 : decode cX5_comes 8 = .ok (.iload_n 1, 1) := by decide +kernel
theorem dX5_comes_9 : decode cX5_comes 9 = .ok (.iaload, 1) := by decide +kernel
theorem dX5_comes_10 : decode cX5_comes 10 = .ok (.tableswitch 98 112 121 #[86, 98, 98, 98, 92, 98, 98, 65, 98, 54], 54) := by decide +kernel
theorem dX5_comes_64 : decode cX5_comes 64 = .ok (.aload_n 0, 1) := by decide +kernel
theorem dX5_comes_65 : decode cX5_comes 65 = .ok (.aload_n 0, 1) := by decide +kernel
theorem dX5_comes_66 : decode cX5_comes 66 = .ok (.getfield 50, 3) := by decide +kernel
theorem dX5_comes_69 : decode cX5_comes 69 = .ok (.iload_n 2, 1) := by decide +kernel
theorem dX5_comes_70 : decode cX5_comes 70 = .ok (.iaload, 1) := by decide +kernel
theorem dX5_comes_71 : decode cX5_comes 71 = .ok (.invokevirtual 109, 3) := by decide +kernel
theorem dX5_comes_74 : decode cX5_comes 74 = .ok (.ireturn, 1) := by decide +kernel
theorem dX5_comes_75 : decode cX5_comes 75 = .ok (.aload_n 0, 1) := by decide +kernel
theorem dX5_comes_76 : decode cX5_comes 76 = .ok (.aload_n 0, 1) := by decide +kernel
theorem dX5_comes_77 : decode cX5_comes 77 = .ok (.getfield 50, 3) := by decide +kernel
theorem dX5_comes_80 : decode cX5_comes 80 = .ok (.iload_n 2, 1) := by decide +kernel
theorem dX5_comes_81 : decode cX5_comes 81 = .ok (.iaload, 1) := by decide +kernel
theorem dX5_comes_82 : decode cX5_comes 82 = .ok (.putfield 112, 3) := by decide +kernel
theorem dX5_comes_85 : decode cX5_comes 85 = .ok (.aload_n 0, 1) := by decide +kernel
theorem dX5_comes_86 : decode cX5_comes 86 = .ok (.getfield 112, 3) := by decide +kernel
theorem dX5_comes_89 : decode cX5_comes 89 = .ok (.bipush (-3), 2) := by decide +kernel
theorem dX5_comes_91 : decode cX5_comes 91 = .ok (.iconst 3, 1) := by decide +kernel
theorem dX5_comes_92 : decode cX5_comes 92 = .ok (.invokestatic 85, 3) := by decide +kernel
theorem dX5_comes_95 : decode cX5_comes 95 = .ok (.ireturn, 1) := by decide +kernel
theorem dX5_comes_96 : decode cX5_comes 96 = .ok (.aload_n 0, 1) := by decide +kernel
theorem dX5_comes_97 : decode cX5_comes 97 = .ok (.iload_n 2, 1) := by decide +kernel
theorem dX5_comes_98 : decode cX5_comes 98 = .ok (.invokevirtual 115, 3) := by decide +kernel
theorem dX5_comes_101 : decode cX5_comes 101 = .ok (.ireturn, 1) := by decide +kernel
theorem dX5_comes_102 : decode cX5_comes 102 = .ok (.aload_n 0, 1) := by decide +kernel
theorem dX5_comes_103 : decode cX5_comes 103 = .ok (.iload_n 2, 1) := by decide +kernel
theorem dX5_comes_104 : decode cX5_comes 104 = .ok (.invokevirtual 118, 3) := by decide +kernel
theorem dX5_comes_107 : decode cX5_comes 107 = .ok (.ireturn, 1) := by decide +kernel
theorem dX5_comes_108 : decode cX5_comes 108 = .ok (.aload_n 0, 1) := by decide +kernel
theorem dX5_comes_109 : decode cX5_comes 109 = .ok (.aload_n 0, 1) := by decide +kernel
theorem dX5_comes_110 : decode cX5_comes 110 = .ok (.getfield 50, 3) := by decide +kernel
theorem dX5_comes_113 : decode cX5_comes 113 = .ok (.iload_n 2, 1) := by decide +kernel
theorem dX5_comes_114 : decode cX5_comes 114 = .ok (.iaload, 1) := by decide +kernel
theorem dX5_comes_115 : decode cX5_comes 115 = .ok (.putfield 38, 3) := by decide +kernel
theorem dX5_comes_118 : decode cX5_comes 118 = .ok (.aload_n 0, 1) := by decide +kernel
theorem dX5_comes_119 : decode cX5_comes 119 = .ok (.iconst 0, 1) := by decide +kernel
theorem dX5_comes_120 : decode cX5_comes 120 = .ok (.putfield 121, 3) := by decide +kernel
theorem dX5_comes_123 : decode cX5_comes 123 = .ok (.aload_n 0, 1) := by decide +kernel
theorem dX5_comes_124 : decode cX5_comes 124 = .ok (.aload_n 0, 1) := by decide +kernel
theorem dX5_comes_125 : decode cX5_comes 125 = .ok (.getfield 38, 3) := by decide +kernel
theorem dX5_comes_128 : decode cX5_comes 128 = .ok (.invokevirtual 124, 3) := by decide +kernel
theorem dX5_comes_131 : decode cX5_comes 131 = .ok (.ireturn, 1) := by decide +kernel
theorem dX5_lane_0 : decode cX5_lane 0 = .ok (.aload_n 0, 1) := by decide +kernel
theorem dX5_lane_1 : decode cX5_lane 1 = .ok (.iconst 0, 1) := by decide +kernel
theorem dX5_lane_2 : decode cX5_lane 2 = .ok (.putfield 78, 3) := by decide +kernel
theorem dX5_lane_5 : decode cX5_lane 5 = .ok (.aload_n 0, 1) := by decide +kernel
theorem dX5_lane_6 : decode cX5_lane 6 = .ok (.iconst 0, 1) := by decide +kernel
theorem dX5_lane_7 : decode cX5_lane 7 = .ok (.putfield 100, 3) := by decide +kernel
theorem dX5_lane_10 : decode cX5_lane 10 = .ok (.iconst 1, 1) := by decide +kernel
theorem dX5_lane_11 : decode cX5_lane 11 = .ok (.istore_n 1, 1) := by decide +kernel
theorem dX5_lane_12 : decode cX5_lane 12 = .ok (.iload_n 1, 1) := by decide +kernel
theorem dX5_lane_13 : decode cX5_lane 13 = .ok (.ifCond .eq 47, 3) := by decide +kernel
theorem dX5_lane_16 : decode cX5_lane 16 = .ok (.aload_n 0, 1) := by decide +kernel
theorem dX5_lane_17 : decode cX5_lane 17 = .ok (.getfield 78, 3) := by decide +kernel
theorem dX5_lane_20 : decode cX5_lane 20 = .ok (.aload_n 0, 1) := by decide +kernel
theorem dX5_lane_21 : decode cX5_lane 21 = .ok (.getfield 71, 3) := by decide +kernel
theorem dX5_lane_24 : decode cX5_lane 24 = .ok (.if_icmp .lt 10, 3) := by decide +kernel
theorem dX5_lane_27 : decode cX5_lane 27 = .ok (.aload_n 0, 1) := by decide +kernel
theorem dX5_lane_28 : decode cX5_lane 28 = .ok (.getfield 100, 3) := by decide +kernel
theorem dX5_lane_31 : decode cX5_lane 31 = .ok (.ifCond .ne 29, 3) := by decide +kernel
theorem dX5_lane_34 : decode cX5_lane 34 = .ok (.aload_n 0, 1) := by decide +kernel
theorem dX5_lane_35 : decode cX5_lane 35 = .ok (.invokevirtual 127, 3) := by decide +kernel
theorem dX5_lane_38 : decode cX5_lane 38 = .ok (.istore_n 1, 1) := by decide +kernel
theorem dX5_lane_39 : decode cX5_lane 39 = .ok (.aload_n 0, 1) := by decide +kernel
theorem dX5_lane_40 : decode cX5_lane 40 = .ok (.dup, 1) := by decide +kernel
theorem dX5_lane_41 : decode cX5_lane 41 = .ok (.getfield 100, 3) := by decide +kernel
theorem dX5_lane_44 : decode cX5_lane 44 = .ok (.iload_n 1, 1) := by decide +kernel
theorem dX5_lane_45 : decode cX5_lane 45 = .ok (.ifCond .eq 7, 3) := by decide +kernel
theorem dX5_lane_48 : decode cX5_lane 48 = .ok (.iconst 1, 1) := by decide +kernel
theorem dX5_lane_49 : decode cX5_lane 49 = .ok (.goto 4, 3) := by decide +kernel
theorem dX5_lane_52 : decode cX5_lane 52 = .ok (.iconst 0, 1) := by decide +kernel
theorem dX5_lane_53 : decode cX5_lane 53 = .ok (.iadd, 1) := by decide +kernel
theorem dX5_lane_54 : decode cX5_lane 54 = .ok (.putfield 100, 3) := by decide +kernel
theorem dX5_lane_57 : decode cX5_lane 57 = .ok (.goto (-45), 3) := by decide +kernel
theorem dX5_lane_60 : decode cX5_lane 60 = .ok (.aload_n 0, 1) := by decide +kernel
theorem dX5_lane_61 : decode cX5_lane 61 = .ok (.iconst 0, 1) := by decide +kernel
theorem dX5_lane_62 : decode cX5_lane 62 = .ok (.putfield 71, 3) := by decide +kernel
theorem dX5_lane_65 : decode cX5_lane 65 = .ok (.iload_n 1, 1) := by decide +kernel
theorem dX5_lane_66 : decode cX5_lane 66 = .ok (.ifCond .ne 12, 3) := by decide +kernel
theorem dX5_lane_69 : decode cX5_lane 69 = .ok (.sipush (-1000), 3) := by decide +kernel
theorem dX5_lane_72 : decode cX5_lane 72 = .ok (.aload_n 0, 1) := by decide +kernel
theorem dX5_lane_73 : decode cX5_lane 73 = .ok (.getfield 78, 3) := by decide +kernel
theorem dX5_lane_76 : decode cX5_lane 76 = .ok (.isub, 1) := by decide +kernel
theorem dX5_lane_77 : decode cX5_lane 77 = .ok (.ireturn, 1) := by decide +kernel
theorem dX5_lane_78 : decode cX5_lane 78 = .ok (.aload_n 0, 1) := by decide +kernel
theorem dX5_lane_79 : decode cX5_lane 79 = .ok (.iconst 1, 1) := by decide +kernel
theorem dX5_lane_80 : decode cX5_lane 80 = .ok (.iconst 1, 1) := by decide +kernel
theorem dX5_lane_81 : decode cX5_lane 81 = .ok (.invokevirtual 131, 3) := by decide +kernel
theorem dX5_lane_84 : decode cX5_lane 84 = .ok (.iconst 0, 1) := by decide +kernel
theorem dX5_lane_85 : decode cX5_lane 85 = .ok (.istore_n 2, 1) := by decide +kernel
theorem dX5_lane_86 : decode cX5_lane 86 = .ok (.iload_n 2, 1) := by decide +kernel
theorem dX5_lane_87 : decode cX5_lane 87 = .ok (.aload_n 0, 1) := by decide +kernel
theorem dX5_lane_88 : decode cX5_lane 88 = .ok (.getfield 100, 3) := by decide +kernel
theorem dX5_lane_91 : decode cX5_lane 91 = .ok (.if_icmp .ge 37, 3) := by decide +kernel
theorem dX5_lane_94 : decode cX5_lane 94 = .ok (.aload_n 0, 1) := by decide +kernel
theorem dX5_lane_95 : decode cX5_lane 95 = .ok (.iload_n 2, 1) := by decide +kernel
theorem dX5_lane_96 : decode cX5_lane 96 = .ok (.invokevirtual 135, 3) := by decide +kernel
theorem dX5_lane_99 : decode cX5_lane 99 = .ok (.ifCond .eq 6, 3) := by decide +kernel
theorem dX5_lane_102 : decode cX5_lane 102 = .ok (.goto 20, 3) := by decide +kernel
theorem dX5_lane_105 : decode cX5_lane 105 = .ok (.aload_n 0, 1) := by decide +kernel
theorem dX5_lane_106 : decode cX5_lane 106 = .ok (.iconst 1, 1) := by decide +kernel
theorem dX5_lane_107 : decode cX5_lane 107 = .ok (.iconst 0, 1) := by decide +kernel
theorem dX5_lane_108 : decode cX5_lane 108 = .ok (.invokevirtual 131, 3) := by decide +kernel
theorem dX5_lane_111 : decode cX5_lane 111 = .ok (.sipush (-2000), 3) := by decide +kernel
theorem dX5_lane_114 : decode cX5_lane 114 = .ok (.aload_n 0, 1) := by decide +kernel
theorem dX5_lane_115 : decode cX5_lane 115 = .ok (.getfield 47, 3) := by decide +kernel
theorem dX5_lane_118 : decode cX5_lane 118 = .ok (.iload_n 2, 1) := by decide +kernel
theorem dX5_lane_119 : decode cX5_lane 119 = .ok (.iaload, 1) := by decide +kernel
theorem dX5_lane_120 : decode cX5_lane 120 = .ok (.isub, 1) := by decide +kernel
theorem dX5_lane_121 : decode cX5_lane 121 = .ok (.ireturn, 1) := by decide +kernel
theorem dX5_lane_122 : decode cX5_lane 122 = .ok (.iinc 2 1, 3) := by decide +kernel
theorem dX5_lane_125 : decode cX5_lane 125 = .ok (.goto (-39), 3) := by decide +kernel
theorem dX5_lane_128 : decode cX5_lane 128 = .ok (.aload_n 0, 1) := by decide +kernel
theorem dX5_lane_129 : decode cX5_lane 129 = .ok (.getfield 100, 3) := by decide +kernel
theorem dX5_lane_132 : decode cX5_lane 132 = .ok (.ireturn, 1) := by decide +kernel
theorem dX5_passes_0 : decode cX5_passes 0 = .ok (.iconst 0, 1) := by decide +kernel
theorem dX5_passes_1 : decode cX5_passes 1 = .ok (.istore_n 2, 1) := by decide +kernel
theorem dX5_passes_2 : decode cX5_passes 2 = .ok (.iload_n 2, 1) := by decide +kernel
theorem dX5_passes_3 : decode cX5_passes 3 = .ok (.aload_n 1, 1) := by decide +kernel
theorem dX5_passes_4 : decode cX5_passes 4 = .ok (.arraylength, 1) := by decide +kernel
theorem dX5_passes_5 : decode cX5_passes 5 = .ok (.if_icmp .ge 53, 3) := by decide +kernel
theorem dX5_passes_8 : decode cX5_passes 8 = .ok (.aload_n 0, 1) := by decide +kernel
theorem dX5_passes_9 : decode cX5_passes 9 = .ok (.getfield 138, 3) := by decide +kernel
theorem dX5_passes_12 : decode cX5_passes 12 = .ok (.ifCond .eq 18, 3) := by decide +kernel
theorem dX5_passes_15 : decode cX5_passes 15 = .ok (.aload_n 0, 1) := by decide +kernel
theorem dX5_passes_16 : decode cX5_passes 16 = .ok (.getfield 53, 3) := by decide +kernel
theorem dX5_passes_19 : decode cX5_passes 19 = .ok (.aload_n 0, 1) := by decide +kernel
theorem dX5_passes_20 : decode cX5_passes 20 = .ok (.getfield 142, 3) := by decide +kernel
theorem dX5_passes_23 : decode cX5_passes 23 = .ok (.aload_n 1, 1) := by decide +kernel
theorem dX5_passes_24 : decode cX5_passes 24 = .ok (.iload_n 2, 1) := by decide +kernel
theorem dX5_passes_25 : decode cX5_passes 25 = .ok (.iaload, 1) := by decide +kernel
theorem dX5_passes_26 : decode cX5_passes 26 = .ok (.iastore, 1) := by decide +kernel
theorem dX5_passes_27 : decode cX5_passes 27 = .ok (.goto 15, 3) := by decide +kernel
theorem dX5_passes_30 : decode cX5_passes 30 = .ok (.aload_n 1, 1) := by decide +kernel
theorem dX5_passes_31 : decode cX5_passes 31 = .ok (.iload_n 2, 1) := by decide +kernel
theorem dX5_passes_32 : decode cX5_passes 32 = .ok (.aload_n 0, 1) := by decide +kernel
theorem dX5_passes_33 : decode cX5_passes 33 = .ok (.getfield 53, 3) := by decide +kernel
theorem dX5_passes_36 : decode cX5_passes 36 = .ok (.aload_n 0, 1) := by decide +kernel
theorem dX5_passes_37 : decode cX5_passes 37 = .ok (.getfield 142, 3) := by decide +kernel
theorem dX5_passes_40 : decode cX5_passes 40 = .ok (.iaload, 1) := by decide +kernel
theorem dX5_passes_41 : decode cX5_passes 41 = .ok (.iastore, 1) := by decide +kernel
theorem dX5_passes_42 : decode cX5_passes 42 = .ok (.aload_n 0, 1) := by decide +kernel
theorem dX5_passes_43 : decode cX5_passes 43 = .ok (.dup, 1) := by decide +kernel
theorem dX5_passes_44 : decode cX5_passes 44 = .ok (.getfield 142, 3) := by decide +kernel
theorem dX5_passes_47 : decode cX5_passes 47 = .ok (.iconst 1, 1) := by decide +kernel
theorem dX5_passes_48 : decode cX5_passes 48 = .ok (.iadd, 1) := by decide +kernel
theorem dX5_passes_49 : decode cX5_passes 49 = .ok (.putfield 142, 3) := by decide +kernel
theorem dX5_passes_52 : decode cX5_passes 52 = .ok (.iinc 2 1, 3) := by decide +kernel
theorem dX5_passes_55 : decode cX5_passes 55 = .ok (.goto (-53), 3) := by decide +kernel
theorem dX5_passes_58 : decode cX5_passes 58 = .ok (.return_, 1) := by decide +kernel
theorem dX5_passOne_0 : decode cX5_passOne 0 = .ok (.aload_n 0, 1) := by decide +kernel
theorem dX5_passOne_1 : decode cX5_passOne 1 = .ok (.getfield 138, 3) := by decide +kernel
theorem dX5_passOne_4 : decode cX5_passOne 4 = .ok (.ifCond .eq 7, 3) := by decide +kernel
theorem dX5_passOne_7 : decode cX5_passOne 7 = .ok (.iload_n 1, 1) := by decide +kernel
theorem dX5_passOne_8 : decode cX5_passOne 8 = .ok (.goto 12, 3) := by decide +kernel
theorem dX5_passOne_11 : decode cX5_passOne 11 = .ok (.aload_n 0, 1) := by decide +kernel
theorem dX5_passOne_12 : decode cX5_passOne 12 = .ok (.getfield 53, 3) := by decide +kernel
theorem dX5_passOne_15 : decode cX5_passOne 15 = .ok (.aload_n 0, 1) := by decide +kernel
theorem dX5_passOne_16 : decode cX5_passOne 16 = .ok (.getfield 142, 3) := by decide +kernel
theorem dX5_passOne_19 : decode cX5_passOne 19 = .ok (.iaload, 1) := by decide +kernel
theorem dX5_passOne_20 : decode cX5_passOne 20 = .ok (.istore_n 2, 1) := by decide +kernel
theorem dX5_passOne_21 : decode cX5_passOne 21 = .ok (.aload_n 0, 1) := by decide +kernel
theorem dX5_passOne_22 : decode cX5_passOne 22 = .ok (.getfield 138, 3) := by decide +kernel
theorem dX5_passOne_25 : decode cX5_passOne 25 = .ok (.ifCond .eq 13, 3) := by decide +kernel
theorem dX5_passOne_28 : decode cX5_passOne 28 = .ok (.aload_n 0, 1) := by decide +kernel
theorem dX5_passOne_29 : decode cX5_passOne 29 = .ok (.getfield 53, 3) := by decide +kernel
theorem dX5_passOne_32 : decode cX5_passOne 32 = .ok (.aload_n 0, 1) := by decide +kernel
theorem dX5_passOne_33 : decode cX5_passOne 33 = .ok (.getfield 142, 3) := by decide +kernel
theorem dX5_passOne_36 : decode cX5_passOne 36 = .ok (.iload_n 1, 1) := by decide +kernel
theorem dX5_passOne_37 : decode cX5_passOne 37 = .ok (.iastore, 1) := by decide +kernel
theorem dX5_passOne_38 : decode cX5_passOne 38 = .ok (.aload_n 0, 1) := by decide +kernel
theorem dX5_passOne_39 : decode cX5_passOne 39 = .ok (.dup, 1) := by decide +kernel
theorem dX5_passOne_40 : decode cX5_passOne 40 = .ok (.getfield 142, 3) := by decide +kernel
theorem dX5_passOne_43 : decode cX5_passOne 43 = .ok (.iconst 1, 1) := by decide +kernel
theorem dX5_passOne_44 : decode cX5_passOne 44 = .ok (.iadd, 1) := by decide +kernel
theorem dX5_passOne_45 : decode cX5_passOne 45 = .ok (.putfield 142, 3) := by decide +kernel
theorem dX5_passOne_48 : decode cX5_passOne 48 = .ok (.iload_n 2, 1) := by decide +kernel
theorem dX5_passOne_49 : decode cX5_passOne 49 = .ok (.ireturn, 1) := by decide +kernel
theorem dX5_passesAll_0 : decode cX5_passesAll 0 = .ok (.aload_n 0, 1) := by decide +kernel
theorem dX5_passesAll_1 : decode cX5_passesAll 1 = .ok (.bipush 45, 2) := by decide +kernel
theorem dX5_passesAll_3 : decode cX5_passesAll 3 = .ok (.iload_n 1, 1) := by decide +kernel
theorem dX5_passesAll_4 : decode cX5_passesAll 4 = .ok (.imul, 1) := by decide +kernel
theorem dX5_passesAll_5 : decode cX5_passesAll 5 = .ok (.putfield 142, 3) := by decide +kernel
theorem dX5_passesAll_8 : decode cX5_passesAll 8 = .ok (.aload_n 0, 1) := by decide +kernel
theorem dX5_passesAll_9 : decode cX5_passesAll 9 = .ok (.iload_n 2, 1) := by decide +kernel
theorem dX5_passesAll_10 : decode cX5_passesAll 10 = .ok (.putfield 138, 3) := by decide +kernel
theorem dX5_passesAll_13 : decode cX5_passesAll 13 = .ok (.aload_n 0, 1) := by decide +kernel
theorem dX5_passesAll_14 : decode cX5_passesAll 14 = .ok (.aload_n 0, 1) := by decide +kernel
theorem dX5_passesAll_15 : decode cX5_passesAll 15 = .ok (.getfield 13, 3) := by decide +kernel
theorem dX5_passesAll_18 : decode cX5_passesAll 18 = .ok (.invokevirtual 145, 3) := by decide +kernel
theorem dX5_passesAll_21 : decode cX5_passesAll 21 = .ok (.aload_n 0, 1) := by decide +kernel
theorem dX5_passesAll_22 : decode cX5_passesAll 22 = .ok (.aload_n 0, 1) := by decide +kernel
theorem dX5_passesAll_23 : decode cX5_passesAll 23 = .ok (.getfield 16, 3) := by decide +kernel
theorem dX5_passesAll_26 : decode cX5_passesAll 26 = .ok (.invokevirtual 145, 3) := by decide +kernel
theorem dX5_passesAll_29 : decode cX5_passesAll 29 = .ok (.aload_n 0, 1) := by decide +kernel
theorem dX5_passesAll_30 : decode cX5_passesAll 30 = .ok (.aload_n 0, 1) := by decide +kernel
theorem dX5_passesAll_31 : decode cX5_passesAll 31 = .ok (.getfield 19, 3) := by decide +kernel
theorem dX5_passesAll_34 : decode cX5_passesAll 34 = .ok (.invokevirtual 145, 3) := by decide +kernel
theorem dX5_passesAll_37 : decode cX5_passesAll 37 = .ok (.aload_n 0, 1) := by decide +kernel
theorem dX5_passesAll_38 : decode cX5_passesAll 38 = .ok (.aload_n 0, 1) := by decide +kernel
theorem dX5_passesAll_39 : decode cX5_passesAll 39 = .ok (.getfield 22, 3) := by decide +kernel
theorem dX5_passesAll_42 : decode cX5_passesAll 42 = .ok (.invokevirtual 145, 3) := by decide +kernel
theorem dX5_passesAll_45 : decode cX5_passesAll 45 = .ok (.aload_n 0, 1) := by decide +kernel
theorem dX5_passesAll_46 : decode cX5_passesAll 46 = .ok (.aload_n 0, 1) := by decide +kernel
theorem dX5_passesAll_47 : decode cX5_passesAll 47 = .ok (.getfield 25, 3) := by decide +kernel
theorem dX5_passesAll_50 : decode cX5_passesAll 50 = .ok (.invokevirtual 145, 3) := by decide +kernel
theorem dX5_passesAll_53 : decode cX5_passesAll 53 = .ok (.aload_n 0, 1) := by decide +kernel
theorem dX5_passesAll_54 : decode cX5_passesAll 54 = .ok (.aload_n 0, 1) := by decide +kernel
theorem dX5_passesAll_55 : decode cX5_passesAll 55 = .ok (.getfield 28, 3) := by decide +kernel
theorem dX5_passesAll_58 : decode cX5_passesAll 58 = .ok (.invokevirtual 145, 3) := by decide +kernel
theorem dX5_passesAll_61 : decode cX5_passesAll 61 = .ok (.aload_n 0, 1) := by decide +kernel
theorem dX5_passesAll_62 : decode cX5_passesAll 62 = .ok (.aload_n 0, 1) := by decide +kernel
theorem dX5_passesAll_63 : decode cX5_passesAll 63 = .ok (.getfield 31, 3) := by decide +kernel
theorem dX5_passesAll_66 : decode cX5_passesAll 66 = .ok (.invokevirtual 145, 3) := by decide +kernel
theorem dX5_passesAll_69 : decode cX5_passesAll 69 = .ok (.aload_n 0, 1) := by decide +kernel
theorem dX5_passesAll_70 : decode cX5_passesAll 70 = .ok (.aload_n 0, 1) := by decide +kernel
theorem dX5_passesAll_71 : decode cX5_passesAll 71 = .ok (.aload_n 0, 1) := by decide +kernel
theorem dX5_passesAll_72 : decode cX5_passesAll 72 = .ok (.getfield 34, 3) := by decide +kernel
theorem dX5_passesAll_75 : decode cX5_passesAll 75 = .ok (.invokevirtual 149, 3) := by decide +kernel
theorem dX5_passesAll_78 : decode cX5_passesAll 78 = .ok (.putfield 34, 3) := by decide +kernel
theorem dX5_passesAll_81 : decode cX5_passesAll 81 = .ok (.aload_n 0, 1) := by decide +kernel
theorem dX5_passesAll_82 : decode cX5_passesAll 82 = .ok (.aload_n 0, 1) := by decide +kernel
theorem dX5_passesAll_83 : decode cX5_passesAll 83 = .ok (.aload_n 0, 1) := by decide +kernel
theorem dX5_passesAll_84 : decode cX5_passesAll 84 = .ok (.getfield 112, 3) := by decide +kernel
theorem dX5_passesAll_87 : decode cX5_passesAll 87 = .ok (.invokevirtual 149, 3) := by decide +kernel
theorem dX5_passesAll_90 : decode cX5_passesAll 90 = .ok (.putfield 112, 3) := by decide +kernel
theorem dX5_passesAll_93 : decode cX5_passesAll 93 = .ok (.aload_n 0, 1) := by decide +kernel
theorem dX5_passesAll_94 : decode cX5_passesAll 94 = .ok (.aload_n 0, 1) := by decide +kernel
theorem dX5_passesAll_95 : decode cX5_passesAll 95 = .ok (.aload_n 0, 1) := by decide +kernel
theorem dX5_passesAll_96 : decode cX5_passesAll 96 = .ok (.getfield 61, 3) := by decide +kernel
theorem dX5_passesAll_99 : decode cX5_passesAll 99 = .ok (.invokevirtual 149, 3) := by decide +kernel
theorem dX5_passesAll_102 : decode cX5_passesAll 102 = .ok (.putfield 61, 3) := by decide +kernel
theorem dX5_passesAll_105 : decode cX5_passesAll 105 = .ok (.aload_n 0, 1) := by decide +kernel
theorem dX5_passesAll_106 : decode cX5_passesAll 106 = .ok (.aload_n 0, 1) := by decide +kernel
theorem dX5_passesAll_107 : decode cX5_passesAll 107 = .ok (.aload_n 0, 1) := by decide +kernel
theorem dX5_passesAll_108 : decode cX5_passesAll 108 = .ok (.getfield 64, 3) := by decide +kernel
theorem dX5_passesAll_111 : decode cX5_passesAll 111 = .ok (.invokevirtual 149, 3) := by decide +kernel
theorem dX5_passesAll_114 : decode cX5_passesAll 114 = .ok (.putfield 64, 3) := by decide +kernel
theorem dX5_passesAll_117 : decode cX5_passesAll 117 = .ok (.aload_n 0, 1) := by decide +kernel
theorem dX5_passesAll_118 : decode cX5_passesAll 118 = .ok (.aload_n 0, 1) := by decide +kernel
theorem dX5_passesAll_119 : decode cX5_passesAll 119 = .ok (.aload_n 0, 1) := by decide +kernel
theorem dX5_passesAll_120 : decode cX5_passesAll 120 = .ok (.getfield 38, 3) := by decide +kernel
theorem dX5_passesAll_123 : decode cX5_passesAll 123 = .ok (.invokevirtual 149, 3) := by decide +kernel
theorem dX5_passesAll_126 : decode cX5_passesAll 126 = .ok (.putfield 38, 3) := by decide +kernel
theorem dX5_passesAll_129 : decode cX5_passesAll 129 = .ok (.aload_n 0, 1) := by decide +kernel
theorem dX5_passesAll_130 : decode cX5_passesAll 130 = .ok (.aload_n 0, 1) := by decide +kernel
theorem dX5_passesAll_131 : decode cX5_passesAll 131 = .ok (.aload_n 0, 1) := by decide +kernel
theorem dX5_passesAll_132 : decode cX5_passesAll 132 = .ok (.getfield 121, 3) := by decide +kernel
theorem dX5_passesAll_135 : decode cX5_passesAll 135 = .ok (.invokevirtual 149, 3) := by decide +kernel
theorem dX5_passesAll_138 : decode cX5_passesAll 138 = .ok (.putfield 121, 3) := by decide +kernel
theorem dX5_passesAll_141 : decode cX5_passesAll 141 = .ok (.return_, 1) := by decide +kernel
theorem dX5_image_0 : decode cX5_image 0 = .ok (.aload_n 0, 1) := by decide +kernel
theorem dX5_image_1 : decode cX5_image 1 = .ok (.iconst 1, 1) := by decide +kernel
theorem dX5_image_2 : decode cX5_image 2 = .ok (.putfield 152, 3) := by decide +kernel
theorem dX5_image_5 : decode cX5_image 5 = .ok (.aload_n 0, 1) := by decide +kernel
theorem dX5_image_6 : decode cX5_image 6 = .ok (.iconst 0, 1) := by decide +kernel
theorem dX5_image_7 : decode cX5_image 7 = .ok (.iconst 1, 1) := by decide +kernel
theorem dX5_image_8 : decode cX5_image 8 = .ok (.invokevirtual 131, 3) := by decide +kernel
theorem dX5_image_11 : decode cX5_image 11 = .ok (.aload_n 0, 1) := by decide +kernel
theorem dX5_image_12 : decode cX5_image 12 = .ok (.getfield 121, 3) := by decide +kernel
theorem dX5_image_15 : decode cX5_image 15 = .ok (.ireturn, 1) := by decide +kernel
theorem dX5_restore_0 : decode cX5_restore 0 = .ok (.aload_n 0, 1) := by decide +kernel
theorem dX5_restore_1 : decode cX5_restore 1 = .ok (.getfield 152, 3) := by decide +kernel
theorem dX5_restore_4 : decode cX5_restore 4 = .ok (.ifCond .ne 10, 3) := by decide +kernel
theorem dX5_restore_7 : decode cX5_restore 7 = .ok (.aload_n 0, 1) := by decide +kernel
theorem dX5_restore_8 : decode cX5_restore 8 = .ok (.bipush (-3), 2) := by decide +kernel
theorem dX5_restore_10 : decode cX5_restore 10 = .ok (.invokevirtual 74, 3) := by decide +kernel
theorem dX5_restore_13 : decode cX5_restore 13 = .ok (.ireturn, 1) := by decide +kernel
theorem dX5_restore_14 : decode cX5_restore 14 = .ok (.aload_n 0, 1) := by decide +kernel
theorem dX5_restore_15 : decode cX5_restore 15 = .ok (.iconst 0, 1) := by decide +kernel
theorem dX5_restore_16 : decode cX5_restore 16 = .ok (.iconst 0, 1) := by decide +kernel
theorem dX5_restore_17 : decode cX5_restore 17 = .ok (.invokevirtual 131, 3) := by decide +kernel
theorem dX5_restore_20 : decode cX5_restore 20 = .ok (.aload_n 0, 1) := by decide +kernel
theorem dX5_restore_21 : decode cX5_restore 21 = .ok (.getfield 121, 3) := by decide +kernel
theorem dX5_restore_24 : decode cX5_restore 24 = .ok (.ireturn, 1) := by decide +kernel
theorem dX5_airOf_0 : decode cX5_airOf 0 = .ok (.aload_n 0, 1) := by decide +kernel
theorem dX5_airOf_1 : decode cX5_airOf 1 = .ok (.getfield 31, 3) := by decide +kernel
theorem dX5_airOf_4 : decode cX5_airOf 4 = .ok (.iload_n 1, 1) := by decide +kernel
theorem dX5_airOf_5 : decode cX5_airOf 5 = .ok (.iaload, 1) := by decide +kernel
theorem dX5_airOf_6 : decode cX5_airOf 6 = .ok (.iconst 1, 1) := by decide +kernel
theorem dX5_airOf_7 : decode cX5_airOf 7 = .ok (.if_icmp .le 14, 3) := by decide +kernel
theorem dX5_airOf_10 : decode cX5_airOf 10 = .ok (.aload_n 0, 1) := by decide +kernel
theorem dX5_airOf_11 : decode cX5_airOf 11 = .ok (.getfield 31, 3) := by decide +kernel
theorem dX5_airOf_14 : decode cX5_airOf 14 = .ok (.iload_n 1, 1) := by decide +kernel
theorem dX5_airOf_15 : decode cX5_airOf 15 = .ok (.iaload, 1) := by decide +kernel
theorem dX5_airOf_16 : decode cX5_airOf 16 = .ok (.iconst 2, 1) := by decide +kernel
theorem dX5_airOf_17 : decode cX5_airOf 17 = .ok (.idiv, 1) := by decide +kernel
theorem dX5_airOf_18 : decode cX5_airOf 18 = .ok (.goto 4, 3) := by decide +kernel
theorem dX5_airOf_21 : decode cX5_airOf 21 = .ok (.iconst 1, 1) := by decide +kernel
theorem dX5_airOf_22 : decode cX5_airOf 22 = .ok (.istore_n 2, 1) := by decide +kernel
theorem dX5_airOf_23 : decode cX5_airOf 23 = .ok (.aload_n 0, 1) := by decide +kernel
theorem dX5_airOf_24 : decode cX5_airOf 24 = .ok (.getfield 25, 3) := by decide +kernel
theorem dX5_airOf_27 : decode cX5_airOf 27 = .ok (.iload_n 1, 1) := by decide +kernel
theorem dX5_airOf_28 : decode cX5_airOf 28 = .ok (.iaload, 1) := by decide +kernel
theorem dX5_airOf_29 : decode cX5_airOf 29 = .ok (.tableswitch 46 1 4 #[31, 33, 42, 33], 31) := by decide +kernel
theorem dX5_airOf_60 : decode cX5_airOf 60 = .ok (.iload_n 2, 1) := by decide +kernel
theorem dX5_airOf_61 : decode cX5_airOf 61 = .ok (.ireturn, 1) := by decide +kernel
theorem dX5_airOf_62 : decode cX5_airOf 62 = .ok (.aload_n 0, 1) := by decide +kernel
theorem dX5_airOf_63 : decode cX5_airOf 63 = .ok (.getfield 31, 3) := by decide +kernel
theorem dX5_airOf_66 : decode cX5_airOf 66 = .ok (.iload_n 1, 1) := by decide +kernel
theorem dX5_airOf_67 : decode cX5_airOf 67 = .ok (.iaload, 1) := by decide +kernel
theorem dX5_airOf_68 : decode cX5_airOf 68 = .ok (.iconst 1, 1) := by decide +kernel
theorem dX5_airOf_69 : decode cX5_airOf 69 = .ok (.iadd, 1) := by decide +kernel
theorem dX5_airOf_70 : decode cX5_airOf 70 = .ok (.ireturn, 1) := by decide +kernel
theorem dX5_airOf_71 : decode cX5_airOf 71 = .ok (.iload_n 2, 1) := by decide +kernel
theorem dX5_airOf_72 : decode cX5_airOf 72 = .ok (.iconst 1, 1) := by decide +kernel
theorem dX5_airOf_73 : decode cX5_airOf 73 = .ok (.iadd, 1) := by decide +kernel
theorem dX5_airOf_74 : decode cX5_airOf 74 = .ok (.ireturn, 1) := by decide +kernel
theorem dX5_airOf_75 : decode cX5_airOf 75 = .ok (.aload_n 0, 1) := by decide +kernel
theorem dX5_airOf_76 : decode cX5_airOf 76 = .ok (.getfield 31, 3) := by decide +kernel
theorem dX5_airOf_79 : decode cX5_airOf 79 = .ok (.iload_n 1, 1) := by decide +kernel
theorem dX5_airOf_80 : decode cX5_airOf 80 = .ok (.iaload, 1) := by decide +kernel
theorem dX5_airOf_81 : decode cX5_airOf 81 = .ok (.ireturn, 1) := by decide +kernel
theorem dX5_errorOf_0 : decode cX5_errorOf 0 = .ok (.iconst 4, 1) := by decide +kernel
theorem dX5_errorOf_1 : decode cX5_errorOf 1 = .ok (.aload_n 0, 1) := by decide +kernel
theorem dX5_errorOf_2 : decode cX5_errorOf 2 = .ok (.getfield 22, 3) := by decide +kernel
theorem dX5_errorOf_5 : decode cX5_errorOf 5 = .ok (.iload_n 2, 1) := by decide +kernel
theorem dX5_errorOf_6 : decode cX5_errorOf 6 = .ok (.iaload, 1) := by decide +kernel
theorem dX5_errorOf_7 : decode cX5_errorOf 7 = .ok (.bipush 20, 2) := by decide +kernel
theorem dX5_errorOf_9 : decode cX5_errorOf 9 = .ok (.idiv, 1) := by decide +kernel
theorem dX5_errorOf_10 : decode cX5_errorOf 10 = .ok (.iadd, 1) := by decide +kernel
theorem dX5_errorOf_11 : decode cX5_errorOf 11 = .ok (.aload_n 0, 1) := by decide +kernel
theorem dX5_errorOf_12 : decode cX5_errorOf 12 = .ok (.getfield 19, 3) := by decide +kernel
theorem dX5_errorOf_15 : decode cX5_errorOf 15 = .ok (.iload_n 2, 1) := by decide +kernel
theorem dX5_errorOf_16 : decode cX5_errorOf 16 = .ok (.iaload, 1) := by decide +kernel
theorem dX5_errorOf_17 : decode cX5_errorOf 17 = .ok (.iconst 2, 1) := by decide +kernel
theorem dX5_errorOf_18 : decode cX5_errorOf 18 = .ok (.idiv, 1) := by decide +kernel
theorem dX5_errorOf_19 : decode cX5_errorOf 19 = .ok (.isub, 1) := by decide +kernel
theorem dX5_errorOf_20 : decode cX5_errorOf 20 = .ok (.istore 4, 2) := by decide +kernel
theorem dX5_errorOf_22 : decode cX5_errorOf 22 = .ok (.iload 4, 2) := by decide +kernel
theorem dX5_errorOf_24 : decode cX5_errorOf 24 = .ok (.ifCond .ge 6, 3) := by decide +kernel
theorem dX5_errorOf_27 : decode cX5_errorOf 27 = .ok (.iconst 0, 1) := by decide +kernel
theorem dX5_errorOf_28 : decode cX5_errorOf 28 = .ok (.istore 4, 2) := by decide +kernel
theorem dX5_errorOf_30 : decode cX5_errorOf 30 = .ok (.aload_n 0, 1) := by decide +kernel
theorem dX5_errorOf_31 : decode cX5_errorOf 31 = .ok (.getfield 25, 3) := by decide +kernel
theorem dX5_errorOf_34 : decode cX5_errorOf 34 = .ok (.iload_n 1, 1) := by decide +kernel
theorem dX5_errorOf_35 : decode cX5_errorOf 35 = .ok (.iaload, 1) := by decide +kernel
theorem dX5_errorOf_36 : decode cX5_errorOf 36 = .ok (.tableswitch 96 1 5 #[36, 41, 53, 60, 81], 36) := by decide +kernel
theorem dX5_errorOf_72 : decode cX5_errorOf 72 = .ok (.iload 4, 2) := by decide +kernel
theorem dX5_errorOf_74 : decode cX5_errorOf 74 = .ok (.iconst 1, 1) := by decide +kernel
theorem dX5_errorOf_75 : decode cX5_errorOf 75 = .ok (.iadd, 1) := by decide +kernel
theorem dX5_errorOf_76 : decode cX5_errorOf 76 = .ok (.ireturn, 1) := by decide +kernel
theorem dX5_errorOf_77 : decode cX5_errorOf 77 = .ok (.iload 4, 2) := by decide +kernel
theorem dX5_errorOf_79 : decode cX5_errorOf 79 = .ok (.aload_n 0, 1) := by decide +kernel
theorem dX5_errorOf_80 : decode cX5_errorOf 80 = .ok (.getfield 31, 3) := by decide +kernel
theorem dX5_errorOf_83 : decode cX5_errorOf 83 = .ok (.iload_n 1, 1) := by decide +kernel
theorem dX5_errorOf_84 : decode cX5_errorOf 84 = .ok (.iaload, 1) := by decide +kernel
theorem dX5_errorOf_85 : decode cX5_errorOf 85 = .ok (.iconst 3, 1) := by decide +kernel
theorem dX5_errorOf_86 : decode cX5_errorOf 86 = .ok (.idiv, 1) := by decide +kernel
theorem dX5_errorOf_87 : decode cX5_errorOf 87 = .ok (.iadd, 1) := by decide +kernel
theorem dX5_errorOf_88 : decode cX5_errorOf 88 = .ok (.ireturn, 1) := by decide +kernel
theorem dX5_errorOf_89 : decode cX5_errorOf 89 = .ok (.iload 4, 2) := by decide +kernel
theorem dX5_errorOf_91 : decode cX5_errorOf 91 = .ok (.iconst 1, 1) := by decide +kernel
theorem dX5_errorOf_92 : decode cX5_errorOf 92 = .ok (.iadd, 1) := by decide +kernel
theorem dX5_errorOf_93 : decode cX5_errorOf 93 = .ok (.iconst 2, 1) := by decide +kernel
theorem dX5_errorOf_94 : decode cX5_errorOf 94 = .ok (.idiv, 1) := by decide +kernel
theorem dX5_errorOf_95 : decode cX5_errorOf 95 = .ok (.ireturn, 1) := by decide +kernel
theorem dX5_errorOf_96 : decode cX5_errorOf 96 = .ok (.iload 4, 2) := by decide +kernel
theorem dX5_errorOf_98 : decode cX5_errorOf 98 = .ok (.aload_n 0, 1) := by decide +kernel
theorem dX5_errorOf_99 : decode cX5_errorOf 99 = .ok (.getfield 31, 3) := by decide +kernel
theorem dX5_errorOf_102 : decode cX5_errorOf 102 = .ok (.iload_n 1, 1) := by decide +kernel
theorem dX5_errorOf_103 : decode cX5_errorOf 103 = .ok (.iaload, 1) := by decide +kernel
theorem dX5_errorOf_104 : decode cX5_errorOf 104 = .ok (.iconst 3, 1) := by decide +kernel
theorem dX5_errorOf_105 : decode cX5_errorOf 105 = .ok (.idiv, 1) := by decide +kernel
theorem dX5_errorOf_106 : decode cX5_errorOf 106 = .ok (.iadd, 1) := by decide +kernel
theorem dX5_errorOf_107 : decode cX5_errorOf 107 = .ok (.aload_n 0, 1) := by decide +kernel
theorem dX5_errorOf_108 : decode cX5_errorOf 108 = .ok (.getfield 28, 3) := by decide +kernel
theorem dX5_errorOf_111 : decode cX5_errorOf 111 = .ok (.iload_n 1, 1) := by decide +kernel
theorem dX5_errorOf_112 : decode cX5_errorOf 112 = .ok (.iaload, 1) := by decide +kernel
theorem dX5_errorOf_113 : decode cX5_errorOf 113 = .ok (.iconst 4, 1) := by decide +kernel
theorem dX5_errorOf_114 : decode cX5_errorOf 114 = .ok (.idiv, 1) := by decide +kernel
theorem dX5_errorOf_115 : decode cX5_errorOf 115 = .ok (.iadd, 1) := by decide +kernel
theorem dX5_errorOf_116 : decode cX5_errorOf 116 = .ok (.ireturn, 1) := by decide +kernel
theorem dX5_errorOf_117 : decode cX5_errorOf 117 = .ok (.iload_n 2, 1) := by decide +kernel
theorem dX5_errorOf_118 : decode cX5_errorOf 118 = .ok (.iload_n 3, 1) := by decide +kernel
theorem dX5_errorOf_119 : decode cX5_errorOf 119 = .ok (.if_icmp .ne 10, 3) := by decide +kernel
theorem dX5_errorOf_122 : decode cX5_errorOf 122 = .ok (.iload 4, 2) := by decide +kernel
theorem dX5_errorOf_124 : decode cX5_errorOf 124 = .ok (.iconst 2, 1) := by decide +kernel
theorem dX5_errorOf_125 : decode cX5_errorOf 125 = .ok (.iadd, 1) := by decide +kernel
theorem dX5_errorOf_126 : decode cX5_errorOf 126 = .ok (.goto 5, 3) := by decide +kernel
theorem dX5_errorOf_129 : decode cX5_errorOf 129 = .ok (.iload 4, 2) := by decide +kernel
theorem dX5_errorOf_131 : decode cX5_errorOf 131 = .ok (.ireturn, 1) := by decide +kernel
theorem dX5_errorOf_132 : decode cX5_errorOf 132 = .ok (.iload 4, 2) := by decide +kernel
theorem dX5_errorOf_134 : decode cX5_errorOf 134 = .ok (.ireturn, 1) := by decide +kernel
theorem dX5_driftOf_0 : decode cX5_driftOf 0 = .ok (.aload_n 0, 1) := by decide +kernel
theorem dX5_driftOf_1 : decode cX5_driftOf 1 = .ok (.getfield 112, 3) := by decide +kernel
theorem dX5_driftOf_4 : decode cX5_driftOf 4 = .ok (.aload_n 0, 1) := by decide +kernel
theorem dX5_driftOf_5 : decode cX5_driftOf 5 = .ok (.iload_n 1, 1) := by decide +kernel
theorem dX5_driftOf_6 : decode cX5_driftOf 6 = .ok (.invokevirtual 155, 3) := by decide +kernel
theorem dX5_driftOf_9 : decode cX5_driftOf 9 = .ok (.imul, 1) := by decide +kernel
theorem dX5_driftOf_10 : decode cX5_driftOf 10 = .ok (.iconst 4, 1) := by decide +kernel
theorem dX5_driftOf_11 : decode cX5_driftOf 11 = .ok (.idiv, 1) := by decide +kernel
theorem dX5_driftOf_12 : decode cX5_driftOf 12 = .ok (.istore_n 2, 1) := by decide +kernel
theorem dX5_driftOf_13 : decode cX5_driftOf 13 = .ok (.aload_n 0, 1) := by decide +kernel
theorem dX5_driftOf_14 : decode cX5_driftOf 14 = .ok (.getfield 25, 3) := by decide +kernel
theorem dX5_driftOf_17 : decode cX5_driftOf 17 = .ok (.iload_n 1, 1) := by decide +kernel
theorem dX5_driftOf_18 : decode cX5_driftOf 18 = .ok (.iaload, 1) := by decide +kernel
theorem dX5_driftOf_19 : decode cX5_driftOf 19 = .ok (.tableswitch 65 1 5 #[33, 35, 33, 39, 61], 33) := by decide +kernel
theorem dX5_driftOf_52 : decode cX5_driftOf 52 = .ok (.iconst 0, 1) := by decide +kernel
theorem dX5_driftOf_53 : decode cX5_driftOf 53 = .ok (.ireturn, 1) := by decide +kernel
theorem dX5_driftOf_54 : decode cX5_driftOf 54 = .ok (.iconst 2, 1) := by decide +kernel
theorem dX5_driftOf_55 : decode cX5_driftOf 55 = .ok (.iload_n 2, 1) := by decide +kernel
theorem dX5_driftOf_56 : decode cX5_driftOf 56 = .ok (.imul, 1) := by decide +kernel
theorem dX5_driftOf_57 : decode cX5_driftOf 57 = .ok (.ireturn, 1) := by decide +kernel
theorem dX5_driftOf_58 : decode cX5_driftOf 58 = .ok (.iconst 2, 1) := by decide +kernel
theorem dX5_driftOf_59 : decode cX5_driftOf 59 = .ok (.iload_n 2, 1) := by decide +kernel
theorem dX5_driftOf_60 : decode cX5_driftOf 60 = .ok (.imul, 1) := by decide +kernel
theorem dX5_driftOf_61 : decode cX5_driftOf 61 = .ok (.aload_n 0, 1) := by decide +kernel
theorem dX5_driftOf_62 : decode cX5_driftOf 62 = .ok (.getfield 28, 3) := by decide +kernel
theorem dX5_driftOf_65 : decode cX5_driftOf 65 = .ok (.iload_n 1, 1) := by decide +kernel
theorem dX5_driftOf_66 : decode cX5_driftOf 66 = .ok (.iaload, 1) := by decide +kernel
theorem dX5_driftOf_67 : decode cX5_driftOf 67 = .ok (.iconst 2, 1) := by decide +kernel
theorem dX5_driftOf_68 : decode cX5_driftOf 68 = .ok (.irem, 1) := by decide +kernel
theorem dX5_driftOf_69 : decode cX5_driftOf 69 = .ok (.iconst 1, 1) := by decide +kernel
theorem dX5_driftOf_70 : decode cX5_driftOf 70 = .ok (.if_icmp .ne 7, 3) := by decide +kernel
theorem dX5_driftOf_73 : decode cX5_driftOf 73 = .ok (.iconst 1, 1) := by decide +kernel
theorem dX5_driftOf_74 : decode cX5_driftOf 74 = .ok (.goto 4, 3) := by decide +kernel
theorem dX5_driftOf_77 : decode cX5_driftOf 77 = .ok (.iconst (-1), 1) := by decide +kernel
theorem dX5_driftOf_78 : decode cX5_driftOf 78 = .ok (.iadd, 1) := by decide +kernel
theorem dX5_driftOf_79 : decode cX5_driftOf 79 = .ok (.ireturn, 1) := by decide +kernel
theorem dX5_driftOf_80 : decode cX5_driftOf 80 = .ok (.iload_n 2, 1) := by decide +kernel
theorem dX5_driftOf_81 : decode cX5_driftOf 81 = .ok (.iconst 2, 1) := by decide +kernel
theorem dX5_driftOf_82 : decode cX5_driftOf 82 = .ok (.idiv, 1) := by decide +kernel
theorem dX5_driftOf_83 : decode cX5_driftOf 83 = .ok (.ireturn, 1) := by decide +kernel
theorem dX5_driftOf_84 : decode cX5_driftOf 84 = .ok (.iload_n 2, 1) := by decide +kernel
theorem dX5_driftOf_85 : decode cX5_driftOf 85 = .ok (.ireturn, 1) := by decide +kernel
theorem dX5_tiresOf_0 : decode cX5_tiresOf 0 = .ok (.aload_n 0, 1) := by decide +kernel
theorem dX5_tiresOf_1 : decode cX5_tiresOf 1 = .ok (.getfield 25, 3) := by decide +kernel
theorem dX5_tiresOf_4 : decode cX5_tiresOf 4 = .ok (.iload_n 1, 1) := by decide +kernel
theorem dX5_tiresOf_5 : decode cX5_tiresOf 5 = .ok (.iaload, 1) := by decide +kernel
theorem dX5_tiresOf_6 : decode cX5_tiresOf 6 = .ok (.iconst 2, 1) := by decide +kernel
theorem dX5_tiresOf_7 : decode cX5_tiresOf 7 = .ok (.if_icmp .ne 7, 3) := by decide +kernel
theorem dX5_tiresOf_10 : decode cX5_tiresOf 10 = .ok (.iconst 2, 1) := by decide +kernel
theorem dX5_tiresOf_11 : decode cX5_tiresOf 11 = .ok (.goto 39, 3) := by decide +kernel
theorem dX5_tiresOf_14 : decode cX5_tiresOf 14 = .ok (.aload_n 0, 1) := by decide +kernel
theorem dX5_tiresOf_15 : decode cX5_tiresOf 15 = .ok (.getfield 25, 3) := by decide +kernel
theorem dX5_tiresOf_18 : decode cX5_tiresOf 18 = .ok (.iload_n 1, 1) := by decide +kernel
theorem dX5_tiresOf_19 : decode cX5_tiresOf 19 = .ok (.iaload, 1) := by decide +kernel
theorem dX5_tiresOf_20 : decode cX5_tiresOf 20 = .ok (.iconst 3, 1) := by decide +kernel
theorem dX5_tiresOf_21 : decode cX5_tiresOf 21 = .ok (.if_icmp .ne 7, 3) := by decide +kernel
theorem dX5_tiresOf_24 : decode cX5_tiresOf 24 = .ok (.iconst 0, 1) := by decide +kernel
theorem dX5_tiresOf_25 : decode cX5_tiresOf 25 = .ok (.goto 25, 3) := by decide +kernel
theorem dX5_tiresOf_28 : decode cX5_tiresOf 28 = .ok (.aload_n 0, 1) := by decide +kernel
theorem dX5_tiresOf_29 : decode cX5_tiresOf 29 = .ok (.getfield 25, 3) := by decide +kernel
theorem dX5_tiresOf_32 : decode cX5_tiresOf 32 = .ok (.iload_n 1, 1) := by decide +kernel
theorem dX5_tiresOf_33 : decode cX5_tiresOf 33 = .ok (.iaload, 1) := by decide +kernel
theorem dX5_tiresOf_34 : decode cX5_tiresOf 34 = .ok (.iconst 4, 1) := by decide +kernel
theorem dX5_tiresOf_35 : decode cX5_tiresOf 35 = .ok (.if_icmp .ne 14, 3) := by decide +kernel
theorem dX5_tiresOf_38 : decode cX5_tiresOf 38 = .ok (.iconst 2, 1) := by decide +kernel
theorem dX5_tiresOf_39 : decode cX5_tiresOf 39 = .ok (.aload_n 0, 1) := by decide +kernel
theorem dX5_tiresOf_40 : decode cX5_tiresOf 40 = .ok (.getfield 28, 3) := by decide +kernel
theorem dX5_tiresOf_43 : decode cX5_tiresOf 43 = .ok (.iload_n 1, 1) := by decide +kernel
theorem dX5_tiresOf_44 : decode cX5_tiresOf 44 = .ok (.iaload, 1) := by decide +kernel
theorem dX5_tiresOf_45 : decode cX5_tiresOf 45 = .ok (.iadd, 1) := by decide +kernel
theorem dX5_tiresOf_46 : decode cX5_tiresOf 46 = .ok (.goto 4, 3) := by decide +kernel
theorem dX5_tiresOf_49 : decode cX5_tiresOf 49 = .ok (.iconst 1, 1) := by decide +kernel
theorem dX5_tiresOf_50 : decode cX5_tiresOf 50 = .ok (.ireturn, 1) := by decide +kernel
theorem dX5_player_0 : decode cX5_player 0 = .ok (.aload_n 0, 1) := by decide +kernel
theorem dX5_player_1 : decode cX5_player 1 = .ok (.iload_n 1, 1) := by decide +kernel
theorem dX5_player_2 : decode cX5_player 2 = .ok (.invokevirtual 124, 3) := by decide +kernel
theorem dX5_player_5 : decode cX5_player 5 = .ok (.ifCond .ne 9, 3) := by decide +kernel
theorem dX5_player_8 : decode cX5_player 8 = .ok (.aload_n 0, 1) := by decide +kernel
theorem dX5_player_9 : decode cX5_player 9 = .ok (.iconst (-1), 1) := by decide +kernel
theorem dX5_player_10 : decode cX5_player 10 = .ok (.invokevirtual 74, 3) := by decide +kernel
theorem dX5_player_13 : decode cX5_player 13 = .ok (.ireturn, 1) := by decide +kernel
theorem dX5_player_14 : decode cX5_player 14 = .ok (.iload_n 2, 1) := by decide +kernel
theorem dX5_player_15 : decode cX5_player 15 = .ok (.tableswitch 57 0 3 #[29, 36, 43, 50], 29) := by decide +kernel
theorem dX5_player_44 : decode cX5_player 44 = .ok (.aload_n 0, 1) := by decide +kernel
theorem dX5_player_45 : decode cX5_player 45 = .ok (.getfield 13, 3) := by decide +kernel
theorem dX5_player_48 : decode cX5_player 48 = .ok (.iload_n 1, 1) := by decide +kernel
theorem dX5_player_49 : decode cX5_player 49 = .ok (.iaload, 1) := by decide +kernel
theorem dX5_player_50 : decode cX5_player 50 = .ok (.ireturn, 1) := by decide +kernel
theorem dX5_player_51 : decode cX5_player 51 = .ok (.aload_n 0, 1) := by decide +kernel
theorem dX5_player_52 : decode cX5_player 52 = .ok (.getfield 16, 3) := by decide +kernel
theorem dX5_player_55 : decode cX5_player 55 = .ok (.iload_n 1, 1) := by decide +kernel
theorem dX5_player_56 : decode cX5_player 56 = .ok (.iaload, 1) := by decide +kernel
theorem dX5_player_57 : decode cX5_player 57 = .ok (.ireturn, 1) := by decide +kernel
theorem dX5_player_58 : decode cX5_player 58 = .ok (.aload_n 0, 1) := by decide +kernel
theorem dX5_player_59 : decode cX5_player 59 = .ok (.getfield 19, 3) := by decide +kernel
theorem dX5_player_62 : decode cX5_player 62 = .ok (.iload_n 1, 1) := by decide +kernel
theorem dX5_player_63 : decode cX5_player 63 = .ok (.iaload, 1) := by decide +kernel
theorem dX5_player_64 : decode cX5_player 64 = .ok (.ireturn, 1) := by decide +kernel
theorem dX5_player_65 : decode cX5_player 65 = .ok (.aload_n 0, 1) := by decide +kernel
theorem dX5_player_66 : decode cX5_player 66 = .ok (.getfield 22, 3) := by decide +kernel
theorem dX5_player_69 : decode cX5_player 69 = .ok (.iload_n 1, 1) := by decide +kernel
theorem dX5_player_70 : decode cX5_player 70 = .ok (.iaload, 1) := by decide +kernel
theorem dX5_player_71 : decode cX5_player 71 = .ok (.ireturn, 1) := by decide +kernel
theorem dX5_player_72 : decode cX5_player 72 = .ok (.aload_n 0, 1) := by decide +kernel
theorem dX5_player_73 : decode cX5_player 73 = .ok (.bipush (-2), 2) := by decide +kernel
theorem dX5_player_75 : decode cX5_player 75 = .ok (.invokevirtual 74, 3) := by decide +kernel
theorem dX5_player_78 : decode cX5_player 78 = .ok (.ireturn, 1) := by decide +kernel
theorem dX5_touch_0 : decode cX5_touch 0 = .ok (.aload_n 0, 1) := by decide +kernel
theorem dX5_touch_1 : decode cX5_touch 1 = .ok (.iload_n 1, 1) := by decide +kernel
theorem dX5_touch_2 : decode cX5_touch 2 = .ok (.invokevirtual 158, 3) := by decide +kernel
theorem dX5_touch_5 : decode cX5_touch 5 = .ok (.ifCond .ne 9, 3) := by decide +kernel
theorem dX5_touch_8 : decode cX5_touch 8 = .ok (.aload_n 0, 1) := by decide +kernel
theorem dX5_touch_9 : decode cX5_touch 9 = .ok (.iconst (-1), 1) := by decide +kernel
theorem dX5_touch_10 : decode cX5_touch 10 = .ok (.invokevirtual 74, 3) := by decide +kernel
theorem dX5_touch_13 : decode cX5_touch 13 = .ok (.ireturn, 1) := by decide +kernel
theorem dX5_touch_14 : decode cX5_touch 14 = .ok (.iload_n 2, 1) := by decide +kernel
theorem dX5_touch_15 : decode cX5_touch 15 = .ok (.tableswitch 79 0 5 #[37, 44, 51, 58, 64, 73], 37) := by decide +kernel
theorem dX5_touch_52 : decode cX5_touch 52 = .ok (.aload_n 0, 1) := by decide +kernel
theorem dX5_touch_53 : decode cX5_touch 53 = .ok (.getfield 25, 3) := by decide +kernel
theorem dX5_touch_56 : decode cX5_touch 56 = .ok (.iload_n 1, 1) := by decide +kernel
theorem dX5_touch_57 : decode cX5_touch 57 = .ok (.iaload, 1) := by decide +kernel
theorem dX5_touch_58 : decode cX5_touch 58 = .ok (.ireturn, 1) := by decide +kernel
theorem dX5_touch_59 : decode cX5_touch 59 = .ok (.aload_n 0, 1) := by decide +kernel
theorem dX5_touch_60 : decode cX5_touch 60 = .ok (.getfield 28, 3) := by decide +kernel
theorem dX5_touch_63 : decode cX5_touch 63 = .ok (.iload_n 1, 1) := by decide +kernel
theorem dX5_touch_64 : decode cX5_touch 64 = .ok (.iaload, 1) := by decide +kernel
theorem dX5_touch_65 : decode cX5_touch 65 = .ok (.ireturn, 1) := by decide +kernel
theorem dX5_touch_66 : decode cX5_touch 66 = .ok (.aload_n 0, 1) := by decide +kernel
theorem dX5_touch_67 : decode cX5_touch 67 = .ok (.getfield 31, 3) := by decide +kernel
theorem dX5_touch_70 : decode cX5_touch 70 = .ok (.iload_n 1, 1) := by decide +kernel
theorem dX5_touch_71 : decode cX5_touch 71 = .ok (.iaload, 1) := by decide +kernel
theorem dX5_touch_72 : decode cX5_touch 72 = .ok (.ireturn, 1) := by decide +kernel
theorem dX5_touch_73 : decode cX5_touch 73 = .ok (.aload_n 0, 1) := by decide +kernel
theorem dX5_touch_74 : decode cX5_touch 74 = .ok (.iload_n 1, 1) := by decide +kernel
theorem dX5_touch_75 : decode cX5_touch 75 = .ok (.invokevirtual 155, 3) := by decide +kernel
theorem dX5_touch_78 : decode cX5_touch 78 = .ok (.ireturn, 1) := by decide +kernel
theorem dX5_touch_79 : decode cX5_touch 79 = .ok (.bipush 10, 2) := by decide +kernel
theorem dX5_touch_81 : decode cX5_touch 81 = .ok (.aload_n 0, 1) := by decide +kernel
theorem dX5_touch_82 : decode cX5_touch 82 = .ok (.iload_n 1, 1) := by decide +kernel
theorem dX5_touch_83 : decode cX5_touch 83 = .ok (.invokevirtual 161, 3) := by decide +kernel
theorem dX5_touch_86 : decode cX5_touch 86 = .ok (.iadd, 1) := by decide +kernel
theorem dX5_touch_87 : decode cX5_touch 87 = .ok (.ireturn, 1) := by decide +kernel
theorem dX5_touch_88 : decode cX5_touch 88 = .ok (.aload_n 0, 1) := by decide +kernel
theorem dX5_touch_89 : decode cX5_touch 89 = .ok (.iload_n 1, 1) := by decide +kernel
theorem dX5_touch_90 : decode cX5_touch 90 = .ok (.invokevirtual 164, 3) := by decide +kernel
theorem dX5_touch_93 : decode cX5_touch 93 = .ok (.ireturn, 1) := by decide +kernel
theorem dX5_touch_94 : decode cX5_touch 94 = .ok (.aload_n 0, 1) := by decide +kernel
theorem dX5_touch_95 : decode cX5_touch 95 = .ok (.bipush (-2), 2) := by decide +kernel
theorem dX5_touch_97 : decode cX5_touch 97 = .ok (.invokevirtual 74, 3) := by decide +kernel
theorem dX5_touch_100 : decode cX5_touch 100 = .ok (.ireturn, 1) := by decide +kernel
theorem dX5_wind_0 : decode cX5_wind 0 = .ok (.iload_n 1, 1) := by decide +kernel
theorem dX5_wind_1 : decode cX5_wind 1 = .ok (.bipush (-3), 2) := by decide +kernel
theorem dX5_wind_3 : decode cX5_wind 3 = .ok (.iconst 3, 1) := by decide +kernel
theorem dX5_wind_4 : decode cX5_wind 4 = .ok (.invokestatic 67, 3) := by decide +kernel
theorem dX5_wind_7 : decode cX5_wind 7 = .ok (.istore_n 2, 1) := by decide +kernel
theorem dX5_wind_8 : decode cX5_wind 8 = .ok (.iload_n 2, 1) := by decide +kernel
theorem dX5_wind_9 : decode cX5_wind 9 = .ok (.ifCond .eq 9, 3) := by decide +kernel
theorem dX5_wind_12 : decode cX5_wind 12 = .ok (.aload_n 0, 1) := by decide +kernel
theorem dX5_wind_13 : decode cX5_wind 13 = .ok (.iload_n 2, 1) := by decide +kernel
theorem dX5_wind_14 : decode cX5_wind 14 = .ok (.invokevirtual 74, 3) := by decide +kernel
theorem dX5_wind_17 : decode cX5_wind 17 = .ok (.ireturn, 1) := by decide +kernel
theorem dX5_wind_18 : decode cX5_wind 18 = .ok (.aload_n 0, 1) := by decide +kernel
theorem dX5_wind_19 : decode cX5_wind 19 = .ok (.getfield 112, 3) := by decide +kernel
theorem dX5_wind_22 : decode cX5_wind 22 = .ok (.istore_n 3, 1) := by decide +kernel
theorem dX5_wind_23 : decode cX5_wind 23 = .ok (.aload_n 0, 1) := by decide +kernel
theorem dX5_wind_24 : decode cX5_wind 24 = .ok (.iload_n 1, 1) := by decide +kernel
theorem dX5_wind_25 : decode cX5_wind 25 = .ok (.putfield 112, 3) := by decide +kernel
theorem dX5_wind_28 : decode cX5_wind 28 = .ok (.iconst 3, 1) := by decide +kernel
theorem dX5_wind_29 : decode cX5_wind 29 = .ok (.iload_n 3, 1) := by decide +kernel
theorem dX5_wind_30 : decode cX5_wind 30 = .ok (.iadd, 1) := by decide +kernel
theorem dX5_wind_31 : decode cX5_wind 31 = .ok (.ireturn, 1) := by decide +kernel
theorem dX5_move_0 : decode cX5_move 0 = .ok (.aload_n 0, 1) := by decide +kernel
theorem dX5_move_1 : decode cX5_move 1 = .ok (.iload_n 1, 1) := by decide +kernel
theorem dX5_move_2 : decode cX5_move 2 = .ok (.invokevirtual 124, 3) := by decide +kernel
theorem dX5_move_5 : decode cX5_move 5 = .ok (.ifCond .ne 7, 3) := by decide +kernel
theorem dX5_move_8 : decode cX5_move 8 = .ok (.iconst (-1), 1) := by decide +kernel
theorem dX5_move_9 : decode cX5_move 9 = .ok (.goto 14, 3) := by decide +kernel
theorem dX5_move_12 : decode cX5_move 12 = .ok (.iload_n 2, 1) := by decide +kernel
theorem dX5_move_13 : decode cX5_move 13 = .ok (.iconst 0, 1) := by decide +kernel
theorem dX5_move_14 : decode cX5_move 14 = .ok (.aload_n 0, 1) := by decide +kernel
theorem dX5_move_15 : decode cX5_move 15 = .ok (.getfield 34, 3) := by decide +kernel
theorem dX5_move_18 : decode cX5_move 18 = .ok (.iconst 1, 1) := by decide +kernel
theorem dX5_move_19 : decode cX5_move 19 = .ok (.isub, 1) := by decide +kernel
theorem dX5_move_20 : decode cX5_move 20 = .ok (.invokestatic 67, 3) := by decide +kernel
theorem dX5_move_23 : decode cX5_move 23 = .ok (.istore_n 3, 1) := by decide +kernel
theorem dX5_move_24 : decode cX5_move 24 = .ok (.iload_n 3, 1) := by decide +kernel
theorem dX5_move_25 : decode cX5_move 25 = .ok (.ifCond .eq 9, 3) := by decide +kernel
theorem dX5_move_28 : decode cX5_move 28 = .ok (.aload_n 0, 1) := by decide +kernel
theorem dX5_move_29 : decode cX5_move 29 = .ok (.iload_n 3, 1) := by decide +kernel
theorem dX5_move_30 : decode cX5_move 30 = .ok (.invokevirtual 74, 3) := by decide +kernel
theorem dX5_move_33 : decode cX5_move 33 = .ok (.ireturn, 1) := by decide +kernel
theorem dX5_move_34 : decode cX5_move 34 = .ok (.aload_n 0, 1) := by decide +kernel
theorem dX5_move_35 : decode cX5_move 35 = .ok (.getfield 13, 3) := by decide +kernel
theorem dX5_move_38 : decode cX5_move 38 = .ok (.iload_n 1, 1) := by decide +kernel
theorem dX5_move_39 : decode cX5_move 39 = .ok (.iaload, 1) := by decide +kernel
theorem dX5_move_40 : decode cX5_move 40 = .ok (.istore 4, 2) := by decide +kernel
theorem dX5_move_42 : decode cX5_move 42 = .ok (.aload_n 0, 1) := by decide +kernel
theorem dX5_move_43 : decode cX5_move 43 = .ok (.getfield 13, 3) := by decide +kernel
theorem dX5_move_46 : decode cX5_move 46 = .ok (.iload_n 1, 1) := by decide +kernel
theorem dX5_move_47 : decode cX5_move 47 = .ok (.iload_n 2, 1) := by decide +kernel
theorem dX5_move_48 : decode cX5_move 48 = .ok (.iastore, 1) := by decide +kernel
theorem dX5_move_49 : decode cX5_move 49 = .ok (.iload 4, 2) := by decide +kernel
theorem dX5_move_51 : decode cX5_move 51 = .ok (.ireturn, 1) := by decide +kernel
theorem dX5_give_0 : decode cX5_give 0 = .ok (.aload_n 0, 1) := by decide +kernel
theorem dX5_give_1 : decode cX5_give 1 = .ok (.iload_n 1, 1) := by decide +kernel
theorem dX5_give_2 : decode cX5_give 2 = .ok (.invokevirtual 124, 3) := by decide +kernel
theorem dX5_give_5 : decode cX5_give 5 = .ok (.ifCond .ne 9, 3) := by decide +kernel
theorem dX5_give_8 : decode cX5_give 8 = .ok (.aload_n 0, 1) := by decide +kernel
theorem dX5_give_9 : decode cX5_give 9 = .ok (.iconst (-1), 1) := by decide +kernel
theorem dX5_give_10 : decode cX5_give 10 = .ok (.invokevirtual 74, 3) := by decide +kernel
theorem dX5_give_13 : decode cX5_give 13 = .ok (.ireturn, 1) := by decide +kernel
theorem dX5_give_14 : decode cX5_give 14 = .ok (.aload_n 0, 1) := by decide +kernel
theorem dX5_give_15 : decode cX5_give 15 = .ok (.getfield 38, 3) := by decide +kernel
theorem dX5_give_18 : decode cX5_give 18 = .ok (.istore_n 2, 1) := by decide +kernel
theorem dX5_give_19 : decode cX5_give 19 = .ok (.aload_n 0, 1) := by decide +kernel
theorem dX5_give_20 : decode cX5_give 20 = .ok (.iload_n 1, 1) := by decide +kernel
theorem dX5_give_21 : decode cX5_give 21 = .ok (.putfield 38, 3) := by decide +kernel
theorem dX5_give_24 : decode cX5_give 24 = .ok (.aload_n 0, 1) := by decide +kernel
theorem dX5_give_25 : decode cX5_give 25 = .ok (.iconst 0, 1) := by decide +kernel
theorem dX5_give_26 : decode cX5_give 26 = .ok (.putfield 121, 3) := by decide +kernel
theorem dX5_give_29 : decode cX5_give 29 = .ok (.iload_n 2, 1) := by decide +kernel
theorem dX5_give_30 : decode cX5_give 30 = .ok (.ireturn, 1) := by decide +kernel
theorem dX5_skill_0 : decode cX5_skill 0 = .ok (.aload_n 0, 1) := by decide +kernel
theorem dX5_skill_1 : decode cX5_skill 1 = .ok (.iload_n 1, 1) := by decide +kernel
theorem dX5_skill_2 : decode cX5_skill 2 = .ok (.invokevirtual 124, 3) := by decide +kernel
theorem dX5_skill_5 : decode cX5_skill 5 = .ok (.ifCond .ne 7, 3) := by decide +kernel
theorem dX5_skill_8 : decode cX5_skill 8 = .ok (.iconst (-1), 1) := by decide +kernel
theorem dX5_skill_9 : decode cX5_skill 9 = .ok (.goto 10, 3) := by decide +kernel
theorem dX5_skill_12 : decode cX5_skill 12 = .ok (.iload_n 2, 1) := by decide +kernel
theorem dX5_skill_13 : decode cX5_skill 13 = .ok (.iconst 0, 1) := by decide +kernel
theorem dX5_skill_14 : decode cX5_skill 14 = .ok (.bipush 9, 2) := by decide +kernel
theorem dX5_skill_16 : decode cX5_skill 16 = .ok (.invokestatic 67, 3) := by decide +kernel
theorem dX5_skill_19 : decode cX5_skill 19 = .ok (.istore_n 3, 1) := by decide +kernel
theorem dX5_skill_20 : decode cX5_skill 20 = .ok (.iload_n 3, 1) := by decide +kernel
theorem dX5_skill_21 : decode cX5_skill 21 = .ok (.ifCond .eq 9, 3) := by decide +kernel
theorem dX5_skill_24 : decode cX5_skill 24 = .ok (.aload_n 0, 1) := by decide +kernel
theorem dX5_skill_25 : decode cX5_skill 25 = .ok (.iload_n 3, 1) := by decide +kernel
theorem dX5_skill_26 : decode cX5_skill 26 = .ok (.invokevirtual 74, 3) := by decide +kernel
theorem dX5_skill_29 : decode cX5_skill 29 = .ok (.ireturn, 1) := by decide +kernel
theorem dX5_skill_30 : decode cX5_skill 30 = .ok (.aload_n 0, 1) := by decide +kernel
theorem dX5_skill_31 : decode cX5_skill 31 = .ok (.getfield 19, 3) := by decide +kernel
theorem dX5_skill_34 : decode cX5_skill 34 = .ok (.iload_n 1, 1) := by decide +kernel
theorem dX5_skill_35 : decode cX5_skill 35 = .ok (.iaload, 1) := by decide +kernel
theorem dX5_skill_36 : decode cX5_skill 36 = .ok (.istore 4, 2) := by decide +kernel
theorem dX5_skill_38 : decode cX5_skill 38 = .ok (.aload_n 0, 1) := by decide +kernel
theorem dX5_skill_39 : decode cX5_skill 39 = .ok (.getfield 19, 3) := by decide +kernel
theorem dX5_skill_42 : decode cX5_skill 42 = .ok (.iload_n 1, 1) := by decide +kernel
theorem dX5_skill_43 : decode cX5_skill 43 = .ok (.iload_n 2, 1) := by decide +kernel
theorem dX5_skill_44 : decode cX5_skill 44 = .ok (.iastore, 1) := by decide +kernel
theorem dX5_skill_45 : decode cX5_skill 45 = .ok (.iload 4, 2) := by decide +kernel
theorem dX5_skill_47 : decode cX5_skill 47 = .ok (.ireturn, 1) := by decide +kernel
theorem dX5_areThere_0 : decode cX5_areThere 0 = .ok (.aload_n 0, 1) := by decide +kernel
theorem dX5_areThere_1 : decode cX5_areThere 1 = .ok (.iload_n 1, 1) := by decide +kernel
theorem dX5_areThere_2 : decode cX5_areThere 2 = .ok (.invokevirtual 158, 3) := by decide +kernel
theorem dX5_areThere_5 : decode cX5_areThere 5 = .ok (.ifCond .eq 23, 3) := by decide +kernel
theorem dX5_areThere_8 : decode cX5_areThere 8 = .ok (.aload_n 0, 1) := by decide +kernel
theorem dX5_areThere_9 : decode cX5_areThere 9 = .ok (.iload_n 2, 1) := by decide +kernel
theorem dX5_areThere_10 : decode cX5_areThere 10 = .ok (.invokevirtual 124, 3) := by decide +kernel
theorem dX5_areThere_13 : decode cX5_areThere 13 = .ok (.ifCond .eq 15, 3) := by decide +kernel
theorem dX5_areThere_16 : decode cX5_areThere 16 = .ok (.aload_n 0, 1) := by decide +kernel
theorem dX5_areThere_17 : decode cX5_areThere 17 = .ok (.iload_n 3, 1) := by decide +kernel
theorem dX5_areThere_18 : decode cX5_areThere 18 = .ok (.invokevirtual 124, 3) := by decide +kernel
theorem dX5_areThere_21 : decode cX5_areThere 21 = .ok (.ifCond .eq 7, 3) := by decide +kernel
theorem dX5_areThere_24 : decode cX5_areThere 24 = .ok (.iconst 1, 1) := by decide +kernel
theorem dX5_areThere_25 : decode cX5_areThere 25 = .ok (.goto 4, 3) := by decide +kernel
theorem dX5_areThere_28 : decode cX5_areThere 28 = .ok (.iconst 0, 1) := by decide +kernel
theorem dX5_areThere_29 : decode cX5_areThere 29 = .ok (.ireturn, 1) := by decide +kernel
theorem dX5_error_0 : decode cX5_error 0 = .ok (.aload_n 0, 1) := by decide +kernel
theorem dX5_error_1 : decode cX5_error 1 = .ok (.iload_n 1, 1) := by decide +kernel
theorem dX5_error_2 : decode cX5_error 2 = .ok (.iload_n 2, 1) := by decide +kernel
theorem dX5_error_3 : decode cX5_error 3 = .ok (.iload_n 3, 1) := by decide +kernel
theorem dX5_error_4 : decode cX5_error 4 = .ok (.invokevirtual 167, 3) := by decide +kernel
theorem dX5_error_7 : decode cX5_error 7 = .ok (.ifCond .eq 13, 3) := by decide +kernel
theorem dX5_error_10 : decode cX5_error 10 = .ok (.aload_n 0, 1) := by decide +kernel
theorem dX5_error_11 : decode cX5_error 11 = .ok (.iload_n 1, 1) := by decide +kernel
theorem dX5_error_12 : decode cX5_error 12 = .ok (.iload_n 2, 1) := by decide +kernel
theorem dX5_error_13 : decode cX5_error 13 = .ok (.iload_n 3, 1) := by decide +kernel
theorem dX5_error_14 : decode cX5_error 14 = .ok (.invokevirtual 170, 3) := by decide +kernel
theorem dX5_error_17 : decode cX5_error 17 = .ok (.goto 8, 3) := by decide +kernel
theorem dX5_error_20 : decode cX5_error 20 = .ok (.aload_n 0, 1) := by decide +kernel
theorem dX5_error_21 : decode cX5_error 21 = .ok (.iconst (-1), 1) := by decide +kernel
theorem dX5_error_22 : decode cX5_error 22 = .ok (.invokevirtual 74, 3) := by decide +kernel
theorem dX5_error_25 : decode cX5_error 25 = .ok (.ireturn, 1) := by decide +kernel
theorem dX5_isHad_0 : decode cX5_isHad 0 = .ok (.aload_n 0, 1) := by decide +kernel
theorem dX5_isHad_1 : decode cX5_isHad 1 = .ok (.iload_n 1, 1) := by decide +kernel
theorem dX5_isHad_2 : decode cX5_isHad 2 = .ok (.invokevirtual 161, 3) := by decide +kernel
theorem dX5_isHad_5 : decode cX5_isHad 5 = .ok (.iload_n 3, 1) := by decide +kernel
theorem dX5_isHad_6 : decode cX5_isHad 6 = .ok (.iadd, 1) := by decide +kernel
theorem dX5_isHad_7 : decode cX5_isHad 7 = .ok (.istore 4, 2) := by decide +kernel
theorem dX5_isHad_9 : decode cX5_isHad 9 = .ok (.aload_n 0, 1) := by decide +kernel
theorem dX5_isHad_10 : decode cX5_isHad 10 = .ok (.aload_n 0, 1) := by decide +kernel
theorem dX5_isHad_11 : decode cX5_isHad 11 = .ok (.getfield 13, 3) := by decide +kernel
theorem dX5_isHad_14 : decode cX5_isHad 14 = .ok (.iload_n 2, 1) := by decide +kernel
theorem dX5_isHad_15 : decode cX5_isHad 15 = .ok (.iaload, 1) := by decide +kernel
theorem dX5_isHad_16 : decode cX5_isHad 16 = .ok (.iload 4, 2) := by decide +kernel
theorem dX5_isHad_18 : decode cX5_isHad 18 = .ok (.iadd, 1) := by decide +kernel
theorem dX5_isHad_19 : decode cX5_isHad 19 = .ok (.invokevirtual 106, 3) := by decide +kernel
theorem dX5_isHad_22 : decode cX5_isHad 22 = .ok (.ifCond .eq 35, 3) := by decide +kernel
theorem dX5_isHad_25 : decode cX5_isHad 25 = .ok (.iload 4, 2) := by decide +kernel
theorem dX5_isHad_27 : decode cX5_isHad 27 = .ok (.ifCond .ge 9, 3) := by decide +kernel
theorem dX5_isHad_30 : decode cX5_isHad 30 = .ok (.iload 4, 2) := by decide +kernel
theorem dX5_isHad_32 : decode cX5_isHad 32 = .ok (.ineg, 1) := by decide +kernel
theorem dX5_isHad_33 : decode cX5_isHad 33 = .ok (.goto 5, 3) := by decide +kernel
theorem dX5_isHad_36 : decode cX5_isHad 36 = .ok (.iload 4, 2) := by decide +kernel
theorem dX5_isHad_38 : decode cX5_isHad 38 = .ok (.aload_n 0, 1) := by decide +kernel
theorem dX5_isHad_39 : decode cX5_isHad 39 = .ok (.getfield 16, 3) := by decide +kernel
theorem dX5_isHad_42 : decode cX5_isHad 42 = .ok (.iload_n 2, 1) := by decide +kernel
theorem dX5_isHad_43 : decode cX5_isHad 43 = .ok (.iaload, 1) := by decide +kernel
theorem dX5_isHad_44 : decode cX5_isHad 44 = .ok (.aload_n 0, 1) := by decide +kernel
theorem dX5_isHad_45 : decode cX5_isHad 45 = .ok (.iload_n 1, 1) := by decide +kernel
theorem dX5_isHad_46 : decode cX5_isHad 46 = .ok (.invokevirtual 155, 3) := by decide +kernel
theorem dX5_isHad_49 : decode cX5_isHad 49 = .ok (.imul, 1) := by decide +kernel
theorem dX5_isHad_50 : decode cX5_isHad 50 = .ok (.if_icmp .gt 7, 3) := by decide +kernel
theorem dX5_isHad_53 : decode cX5_isHad 53 = .ok (.iconst 1, 1) := by decide +kernel
theorem dX5_isHad_54 : decode cX5_isHad 54 = .ok (.goto 4, 3) := by decide +kernel
theorem dX5_isHad_57 : decode cX5_isHad 57 = .ok (.iconst 0, 1) := by decide +kernel
theorem dX5_isHad_58 : decode cX5_isHad 58 = .ok (.ireturn, 1) := by decide +kernel
theorem dX5_keeps_0 : decode cX5_keeps 0 = .ok (.aload_n 0, 1) := by decide +kernel
theorem dX5_keeps_1 : decode cX5_keeps 1 = .ok (.getfield 38, 3) := by decide +kernel
theorem dX5_keeps_4 : decode cX5_keeps 4 = .ok (.istore 4, 2) := by decide +kernel
theorem dX5_keeps_6 : decode cX5_keeps 6 = .ok (.aload_n 0, 1) := by decide +kernel
theorem dX5_keeps_7 : decode cX5_keeps 7 = .ok (.iload_n 1, 1) := by decide +kernel
theorem dX5_keeps_8 : decode cX5_keeps 8 = .ok (.iload_n 2, 1) := by decide +kernel
theorem dX5_keeps_9 : decode cX5_keeps 9 = .ok (.iload_n 3, 1) := by decide +kernel
theorem dX5_keeps_10 : decode cX5_keeps 10 = .ok (.invokevirtual 173, 3) := by decide +kernel
theorem dX5_keeps_13 : decode cX5_keeps 13 = .ok (.istore 5, 2) := by decide +kernel
theorem dX5_keeps_15 : decode cX5_keeps 15 = .ok (.iload 5, 2) := by decide +kernel
theorem dX5_keeps_17 : decode cX5_keeps 17 = .ok (.ifCond .eq 19, 3) := by decide +kernel
theorem dX5_keeps_20 : decode cX5_keeps 20 = .ok (.aload_n 0, 1) := by decide +kernel
theorem dX5_keeps_21 : decode cX5_keeps 21 = .ok (.getfield 13, 3) := by decide +kernel
theorem dX5_keeps_24 : decode cX5_keeps 24 = .ok (.iload_n 2, 1) := by decide +kernel
theorem dX5_keeps_25 : decode cX5_keeps 25 = .ok (.dup2, 1) := by decide +kernel
theorem dX5_keeps_26 : decode cX5_keeps 26 = .ok (.iaload, 1) := by decide +kernel
theorem dX5_keeps_27 : decode cX5_keeps 27 = .ok (.aload_n 0, 1) := by decide +kernel
theorem dX5_keeps_28 : decode cX5_keeps 28 = .ok (.iload_n 1, 1) := by decide +kernel
theorem dX5_keeps_29 : decode cX5_keeps 29 = .ok (.invokevirtual 161, 3) := by decide +kernel
theorem dX5_keeps_32 : decode cX5_keeps 32 = .ok (.iload_n 3, 1) := by decide +kernel
theorem dX5_keeps_33 : decode cX5_keeps 33 = .ok (.iadd, 1) := by decide +kernel
theorem dX5_keeps_34 : decode cX5_keeps 34 = .ok (.iadd, 1) := by decide +kernel
theorem dX5_keeps_35 : decode cX5_keeps 35 = .ok (.iastore, 1) := by decide +kernel
theorem dX5_keeps_36 : decode cX5_keeps 36 = .ok (.aload_n 0, 1) := by decide +kernel
theorem dX5_keeps_37 : decode cX5_keeps 37 = .ok (.iload 5, 2) := by decide +kernel
theorem dX5_keeps_39 : decode cX5_keeps 39 = .ok (.ifCond .eq 7, 3) := by decide +kernel
theorem dX5_keeps_42 : decode cX5_keeps 42 = .ok (.iload_n 2, 1) := by decide +kernel
theorem dX5_keeps_43 : decode cX5_keeps 43 = .ok (.goto 5, 3) := by decide +kernel
theorem dX5_keeps_46 : decode cX5_keeps 46 = .ok (.bipush (-9), 2) := by decide +kernel
theorem dX5_keeps_48 : decode cX5_keeps 48 = .ok (.putfield 38, 3) := by decide +kernel
theorem dX5_keeps_51 : decode cX5_keeps 51 = .ok (.aload_n 0, 1) := by decide +kernel
theorem dX5_keeps_52 : decode cX5_keeps 52 = .ok (.iload 5, 2) := by decide +kernel
theorem dX5_keeps_54 : decode cX5_keeps 54 = .ok (.ifCond .eq 12, 3) := by decide +kernel
theorem dX5_keeps_57 : decode cX5_keeps 57 = .ok (.aload_n 0, 1) := by decide +kernel
theorem dX5_keeps_58 : decode cX5_keeps 58 = .ok (.getfield 121, 3) := by decide +kernel
theorem dX5_keeps_61 : decode cX5_keeps 61 = .ok (.iconst 1, 1) := by decide +kernel
theorem dX5_keeps_62 : decode cX5_keeps 62 = .ok (.iadd, 1) := by decide +kernel
theorem dX5_keeps_63 : decode cX5_keeps 63 = .ok (.goto 4, 3) := by decide +kernel
theorem dX5_keeps_66 : decode cX5_keeps 66 = .ok (.iconst 0, 1) := by decide +kernel
theorem dX5_keeps_67 : decode cX5_keeps 67 = .ok (.putfield 121, 3) := by decide +kernel
theorem dX5_keeps_70 : decode cX5_keeps 70 = .ok (.iconst 0, 1) := by decide +kernel
theorem dX5_keeps_71 : decode cX5_keeps 71 = .ok (.istore 6, 2) := by decide +kernel
theorem dX5_keeps_73 : decode cX5_keeps 73 = .ok (.iload 6, 2) := by decide +kernel
theorem dX5_keeps_75 : decode cX5_keeps 75 = .ok (.aload_n 0, 1) := by decide +kernel
theorem dX5_keeps_76 : decode cX5_keeps 76 = .ok (.getfield 61, 3) := by decide +kernel
theorem dX5_keeps_79 : decode cX5_keeps 79 = .ok (.if_icmp .ge 73, 3) := by decide +kernel
theorem dX5_keeps_82 : decode cX5_keeps 82 = .ok (.iload 6, 2) := by decide +kernel
theorem dX5_keeps_84 : decode cX5_keeps 84 = .ok (.iload 4, 2) := by decide +kernel
theorem dX5_keeps_86 : decode cX5_keeps 86 = .ok (.if_icmp .ne 19, 3) := by decide +kernel
theorem dX5_keeps_89 : decode cX5_keeps 89 = .ok (.aload_n 0, 1) := by decide +kernel
theorem dX5_keeps_90 : decode cX5_keeps 90 = .ok (.getfield 22, 3) := by decide +kernel
theorem dX5_keeps_93 : decode cX5_keeps 93 = .ok (.iload 6, 2) := by decide +kernel
theorem dX5_keeps_95 : decode cX5_keeps 95 = .ok (.iaload, 1) := by decide +kernel
theorem dX5_keeps_96 : decode cX5_keeps 96 = .ok (.aload_n 0, 1) := by decide +kernel
theorem dX5_keeps_97 : decode cX5_keeps 97 = .ok (.iload_n 1, 1) := by decide +kernel
theorem dX5_keeps_98 : decode cX5_keeps 98 = .ok (.invokevirtual 164, 3) := by decide +kernel
theorem dX5_keeps_101 : decode cX5_keeps 101 = .ok (.iadd, 1) := by decide +kernel
theorem dX5_keeps_102 : decode cX5_keeps 102 = .ok (.goto 12, 3) := by decide +kernel
theorem dX5_keeps_105 : decode cX5_keeps 105 = .ok (.aload_n 0, 1) := by decide +kernel
theorem dX5_keeps_106 : decode cX5_keeps 106 = .ok (.getfield 22, 3) := by decide +kernel
theorem dX5_keeps_109 : decode cX5_keeps 109 = .ok (.iload 6, 2) := by decide +kernel
theorem dX5_keeps_111 : decode cX5_keeps 111 = .ok (.iaload, 1) := by decide +kernel
theorem dX5_keeps_112 : decode cX5_keeps 112 = .ok (.iconst 1, 1) := by decide +kernel
theorem dX5_keeps_113 : decode cX5_keeps 113 = .ok (.isub, 1) := by decide +kernel
theorem dX5_keeps_114 : decode cX5_keeps 114 = .ok (.istore 7, 2) := by decide +kernel
theorem dX5_keeps_116 : decode cX5_keeps 116 = .ok (.aload_n 0, 1) := by decide +kernel
theorem dX5_keeps_117 : decode cX5_keeps 117 = .ok (.getfield 22, 3) := by decide +kernel
theorem dX5_keeps_120 : decode cX5_keeps 120 = .ok (.iload 6, 2) := by decide +kernel
theorem dX5_keeps_122 : decode cX5_keeps 122 = .ok (.iload 7, 2) := by decide +kernel
theorem dX5_keeps_124 : decode cX5_keeps 124 = .ok (.ifCond .ge 7, 3) := by decide +kernel
theorem dX5_keeps_127 : decode cX5_keeps 127 = .ok (.iconst 0, 1) := by decide +kernel
theorem dX5_keeps_128 : decode cX5_keeps 128 = .ok (.goto 17, 3) := by decide +kernel
theorem dX5_keeps_131 : decode cX5_keeps 131 = .ok (.iload 7, 2) := by decide +kernel
theorem dX5_keeps_133 : decode cX5_keeps 133 = .ok (.bipush 99, 2) := by decide +kernel
theorem dX5_keeps_135 : decode cX5_keeps 135 = .ok (.if_icmp .le 8, 3) := by decide +kernel
theorem dX5_keeps_138 : decode cX5_keeps 138 = .ok (.bipush 99, 2) := by decide +kernel
theorem dX5_keeps_140 : decode cX5_keeps 140 = .ok (.goto 5, 3) := by decide +kernel
theorem dX5_keeps_143 : decode cX5_keeps 143 = .ok (.iload 7, 2) := by decide +kernel
theorem dX5_keeps_145 : decode cX5_keeps 145 = .ok (.iastore, 1) := by decide +kernel
theorem dX5_keeps_146 : decode cX5_keeps 146 = .ok (.iinc 6 1, 3) := by decide +kernel
theorem dX5_keeps_149 : decode cX5_keeps 149 = .ok (.goto (-76), 3) := by decide +kernel
theorem dX5_keeps_152 : decode cX5_keeps 152 = .ok (.iload 5, 2) := by decide +kernel
theorem dX5_keeps_154 : decode cX5_keeps 154 = .ok (.ireturn, 1) := by decide +kernel
theorem dX5_keep_0 : decode cX5_keep 0 = .ok (.aload_n 0, 1) := by decide +kernel
theorem dX5_keep_1 : decode cX5_keep 1 = .ok (.iload_n 1, 1) := by decide +kernel
theorem dX5_keep_2 : decode cX5_keep 2 = .ok (.invokevirtual 158, 3) := by decide +kernel
theorem dX5_keep_5 : decode cX5_keep 5 = .ok (.ifCond .eq 11, 3) := by decide +kernel
theorem dX5_keep_8 : decode cX5_keep 8 = .ok (.aload_n 0, 1) := by decide +kernel
theorem dX5_keep_9 : decode cX5_keep 9 = .ok (.iload_n 2, 1) := by decide +kernel
theorem dX5_keep_10 : decode cX5_keep 10 = .ok (.invokevirtual 124, 3) := by decide +kernel
theorem dX5_keep_13 : decode cX5_keep 13 = .ok (.ifCond .ne 7, 3) := by decide +kernel
theorem dX5_keep_16 : decode cX5_keep 16 = .ok (.iconst (-1), 1) := by decide +kernel
theorem dX5_keep_17 : decode cX5_keep 17 = .ok (.goto 16, 3) := by decide +kernel
theorem dX5_keep_20 : decode cX5_keep 20 = .ok (.aload_n 0, 1) := by decide +kernel
theorem dX5_keep_21 : decode cX5_keep 21 = .ok (.getfield 38, 3) := by decide +kernel
theorem dX5_keep_24 : decode cX5_keep 24 = .ok (.ifCond .ge 8, 3) := by decide +kernel
theorem dX5_keep_27 : decode cX5_keep 27 = .ok (.bipush (-3), 2) := by decide +kernel
theorem dX5_keep_29 : decode cX5_keep 29 = .ok (.goto 4, 3) := by decide +kernel
theorem dX5_keep_32 : decode cX5_keep 32 = .ok (.iconst 0, 1) := by decide +kernel
theorem dX5_keep_33 : decode cX5_keep 33 = .ok (.istore 4, 2) := by decide +kernel
theorem dX5_keep_35 : decode cX5_keep 35 = .ok (.iload 4, 2) := by decide +kernel
theorem dX5_keep_37 : decode cX5_keep 37 = .ok (.ifCond .ne 30, 3) := by decide +kernel
theorem dX5_keep_40 : decode cX5_keep 40 = .ok (.iload_n 3, 1) := by decide +kernel
theorem dX5_keep_41 : decode cX5_keep 41 = .ok (.aload_n 0, 1) := by decide +kernel
theorem dX5_keep_42 : decode cX5_keep 42 = .ok (.iload_n 1, 1) := by decide +kernel
theorem dX5_keep_43 : decode cX5_keep 43 = .ok (.aload_n 0, 1) := by decide +kernel
theorem dX5_keep_44 : decode cX5_keep 44 = .ok (.getfield 38, 3) := by decide +kernel
theorem dX5_keep_47 : decode cX5_keep 47 = .ok (.iload_n 2, 1) := by decide +kernel
theorem dX5_keep_48 : decode cX5_keep 48 = .ok (.invokevirtual 170, 3) := by decide +kernel
theorem dX5_keep_51 : decode cX5_keep 51 = .ok (.ineg, 1) := by decide +kernel
theorem dX5_keep_52 : decode cX5_keep 52 = .ok (.aload_n 0, 1) := by decide +kernel
theorem dX5_keep_53 : decode cX5_keep 53 = .ok (.iload_n 1, 1) := by decide +kernel
theorem dX5_keep_54 : decode cX5_keep 54 = .ok (.aload_n 0, 1) := by decide +kernel
theorem dX5_keep_55 : decode cX5_keep 55 = .ok (.getfield 38, 3) := by decide +kernel
theorem dX5_keep_58 : decode cX5_keep 58 = .ok (.iload_n 2, 1) := by decide +kernel
theorem dX5_keep_59 : decode cX5_keep 59 = .ok (.invokevirtual 170, 3) := by decide +kernel
theorem dX5_keep_62 : decode cX5_keep 62 = .ok (.invokestatic 67, 3) := by decide +kernel
theorem dX5_keep_65 : decode cX5_keep 65 = .ok (.istore 4, 2) := by decide +kernel
theorem dX5_keep_67 : decode cX5_keep 67 = .ok (.iload 4, 2) := by decide +kernel
theorem dX5_keep_69 : decode cX5_keep 69 = .ok (.ifCond .eq 10, 3) := by decide +kernel
theorem dX5_keep_72 : decode cX5_keep 72 = .ok (.aload_n 0, 1) := by decide +kernel
theorem dX5_keep_73 : decode cX5_keep 73 = .ok (.iload 4, 2) := by decide +kernel
theorem dX5_keep_75 : decode cX5_keep 75 = .ok (.invokevirtual 74, 3) := by decide +kernel
theorem dX5_keep_78 : decode cX5_keep 78 = .ok (.ireturn, 1) := by decide +kernel
theorem dX5_keep_79 : decode cX5_keep 79 = .ok (.aload_n 0, 1) := by decide +kernel
theorem dX5_keep_80 : decode cX5_keep 80 = .ok (.iload_n 1, 1) := by decide +kernel
theorem dX5_keep_81 : decode cX5_keep 81 = .ok (.iload_n 2, 1) := by decide +kernel
theorem dX5_keep_82 : decode cX5_keep 82 = .ok (.iload_n 3, 1) := by decide +kernel
theorem dX5_keep_83 : decode cX5_keep 83 = .ok (.invokevirtual 176, 3) := by decide +kernel
theorem dX5_keep_86 : decode cX5_keep 86 = .ok (.pop, 1) := by decide +kernel
theorem dX5_keep_87 : decode cX5_keep 87 = .ok (.aload_n 0, 1) := by decide +kernel
theorem dX5_keep_88 : decode cX5_keep 88 = .ok (.getfield 121, 3) := by decide +kernel
theorem dX5_keep_91 : decode cX5_keep 91 = .ok (.ireturn, 1) := by decide +kernel
theorem dX5_hadMany_0 : decode cX5_hadMany 0 = .ok (.iconst 0, 1) := by decide +kernel
theorem dX5_hadMany_1 : decode cX5_hadMany 1 = .ok (.istore 4, 2) := by decide +kernel
theorem dX5_hadMany_3 : decode cX5_hadMany 3 = .ok (.aload_n 0, 1) := by decide +kernel
theorem dX5_hadMany_4 : decode cX5_hadMany 4 = .ok (.iload_n 1, 1) := by decide +kernel
theorem dX5_hadMany_5 : decode cX5_hadMany 5 = .ok (.iload_n 2, 1) := by decide +kernel
theorem dX5_hadMany_6 : decode cX5_hadMany 6 = .ok (.iload_n 3, 1) := by decide +kernel
theorem dX5_hadMany_7 : decode cX5_hadMany 7 = .ok (.invokevirtual 170, 3) := by decide +kernel
theorem dX5_hadMany_10 : decode cX5_hadMany 10 = .ok (.ineg, 1) := by decide +kernel
theorem dX5_hadMany_11 : decode cX5_hadMany 11 = .ok (.istore 5, 2) := by decide +kernel
theorem dX5_hadMany_13 : decode cX5_hadMany 13 = .ok (.iload 5, 2) := by decide +kernel
theorem dX5_hadMany_15 : decode cX5_hadMany 15 = .ok (.aload_n 0, 1) := by decide +kernel
theorem dX5_hadMany_16 : decode cX5_hadMany 16 = .ok (.iload_n 1, 1) := by decide +kernel
theorem dX5_hadMany_17 : decode cX5_hadMany 17 = .ok (.iload_n 2, 1) := by decide +kernel
theorem dX5_hadMany_18 : decode cX5_hadMany 18 = .ok (.iload_n 3, 1) := by decide +kernel
theorem dX5_hadMany_19 : decode cX5_hadMany 19 = .ok (.invokevirtual 170, 3) := by decide +kernel
theorem dX5_hadMany_22 : decode cX5_hadMany 22 = .ok (.if_icmp .gt 30, 3) := by decide +kernel
theorem dX5_hadMany_25 : decode cX5_hadMany 25 = .ok (.iload 4, 2) := by decide +kernel
theorem dX5_hadMany_27 : decode cX5_hadMany 27 = .ok (.aload_n 0, 1) := by decide +kernel
theorem dX5_hadMany_28 : decode cX5_hadMany 28 = .ok (.iload_n 1, 1) := by decide +kernel
theorem dX5_hadMany_29 : decode cX5_hadMany 29 = .ok (.iload_n 3, 1) := by decide +kernel
theorem dX5_hadMany_30 : decode cX5_hadMany 30 = .ok (.iload 5, 2) := by decide +kernel
theorem dX5_hadMany_32 : decode cX5_hadMany 32 = .ok (.invokevirtual 173, 3) := by decide +kernel
theorem dX5_hadMany_35 : decode cX5_hadMany 35 = .ok (.ifCond .eq 7, 3) := by decide +kernel
theorem dX5_hadMany_38 : decode cX5_hadMany 38 = .ok (.iconst 1, 1) := by decide +kernel
theorem dX5_hadMany_39 : decode cX5_hadMany 39 = .ok (.goto 4, 3) := by decide +kernel
theorem dX5_hadMany_42 : decode cX5_hadMany 42 = .ok (.iconst 0, 1) := by decide +kernel
theorem dX5_hadMany_43 : decode cX5_hadMany 43 = .ok (.iadd, 1) := by decide +kernel
theorem dX5_hadMany_44 : decode cX5_hadMany 44 = .ok (.istore 4, 2) := by decide +kernel
theorem dX5_hadMany_46 : decode cX5_hadMany 46 = .ok (.iinc 5 1, 3) := by decide +kernel
theorem dX5_hadMany_49 : decode cX5_hadMany 49 = .ok (.goto (-36), 3) := by decide +kernel
theorem dX5_hadMany_52 : decode cX5_hadMany 52 = .ok (.iload 4, 2) := by decide +kernel
theorem dX5_hadMany_54 : decode cX5_hadMany 54 = .ok (.ireturn, 1) := by decide +kernel
theorem dX5_eachOf_0 : decode cX5_eachOf 0 = .ok (.iconst 2, 1) := by decide +kernel
theorem dX5_eachOf_1 : decode cX5_eachOf 1 = .ok (.aload_n 0, 1) := by decide +kernel
theorem dX5_eachOf_2 : decode cX5_eachOf 2 = .ok (.iload_n 1, 1) := by decide +kernel
theorem dX5_eachOf_3 : decode cX5_eachOf 3 = .ok (.iload_n 2, 1) := by decide +kernel
theorem dX5_eachOf_4 : decode cX5_eachOf 4 = .ok (.iload_n 3, 1) := by decide +kernel
theorem dX5_eachOf_5 : decode cX5_eachOf 5 = .ok (.invokevirtual 170, 3) := by decide +kernel
theorem dX5_eachOf_8 : decode cX5_eachOf 8 = .ok (.imul, 1) := by decide +kernel
theorem dX5_eachOf_9 : decode cX5_eachOf 9 = .ok (.iconst 1, 1) := by decide +kernel
theorem dX5_eachOf_10 : decode cX5_eachOf 10 = .ok (.iadd, 1) := by decide +kernel
theorem dX5_eachOf_11 : decode cX5_eachOf 11 = .ok (.ireturn, 1) := by decide +kernel
theorem dX5_partsOf_0 : decode cX5_partsOf 0 = .ok (.ldc2_w 179, 3) := by decide +kernel
theorem dX5_partsOf_3 : decode cX5_partsOf 3 = .ok (.aload_n 0, 1) := by decide +kernel
theorem dX5_partsOf_4 : decode cX5_partsOf 4 = .ok (.iload_n 1, 1) := by decide +kernel
theorem dX5_partsOf_5 : decode cX5_partsOf 5 = .ok (.iload_n 2, 1) := by decide +kernel
theorem dX5_partsOf_6 : decode cX5_partsOf 6 = .ok (.iload_n 3, 1) := by decide +kernel
theorem dX5_partsOf_7 : decode cX5_partsOf 7 = .ok (.invokevirtual 181, 3) := by decide +kernel
theorem dX5_partsOf_10 : decode cX5_partsOf 10 = .ok (.i2l, 1) := by decide +kernel
theorem dX5_partsOf_11 : decode cX5_partsOf 11 = .ok (.ldiv, 1) := by decide +kernel
theorem dX5_partsOf_12 : decode cX5_partsOf 12 = .ok (.aload_n 0, 1) := by decide +kernel
theorem dX5_partsOf_13 : decode cX5_partsOf 13 = .ok (.iload_n 1, 1) := by decide +kernel
theorem dX5_partsOf_14 : decode cX5_partsOf 14 = .ok (.iload_n 2, 1) := by decide +kernel
theorem dX5_partsOf_15 : decode cX5_partsOf 15 = .ok (.iload_n 3, 1) := by decide +kernel
theorem dX5_partsOf_16 : decode cX5_partsOf 16 = .ok (.invokevirtual 184, 3) := by decide +kernel
theorem dX5_partsOf_19 : decode cX5_partsOf 19 = .ok (.i2l, 1) := by decide +kernel
theorem dX5_partsOf_20 : decode cX5_partsOf 20 = .ok (.lmul, 1) := by decide +kernel
theorem dX5_partsOf_21 : decode cX5_partsOf 21 = .ok (.lreturn, 1) := by decide +kernel
theorem dX5_divisor_0 : decode cX5_divisor 0 = .ok (.lload_n 0, 1) := by decide +kernel
theorem dX5_divisor_1 : decode cX5_divisor 1 = .ok (.lstore 4, 2) := by decide +kernel
theorem dX5_divisor_3 : decode cX5_divisor 3 = .ok (.lload_n 2, 1) := by decide +kernel
theorem dX5_divisor_4 : decode cX5_divisor 4 = .ok (.lstore 6, 2) := by decide +kernel
theorem dX5_divisor_6 : decode cX5_divisor 6 = .ok (.lload 6, 2) := by decide +kernel
theorem dX5_divisor_8 : decode cX5_divisor 8 = .ok (.lconst 0, 1) := by decide +kernel
theorem dX5_divisor_9 : decode cX5_divisor 9 = .ok (.lcmp, 1) := by decide +kernel
theorem dX5_divisor_10 : decode cX5_divisor 10 = .ok (.ifCond .eq 21, 3) := by decide +kernel
theorem dX5_divisor_13 : decode cX5_divisor 13 = .ok (.lload 4, 2) := by decide +kernel
theorem dX5_divisor_15 : decode cX5_divisor 15 = .ok (.lload 6, 2) := by decide +kernel
theorem dX5_divisor_17 : decode cX5_divisor 17 = .ok (.lrem, 1) := by decide +kernel
theorem dX5_divisor_18 : decode cX5_divisor 18 = .ok (.lstore 8, 2) := by decide +kernel
theorem dX5_divisor_20 : decode cX5_divisor 20 = .ok (.lload 6, 2) := by decide +kernel
theorem dX5_divisor_22 : decode cX5_divisor 22 = .ok (.lstore 4, 2) := by decide +kernel
theorem dX5_divisor_24 : decode cX5_divisor 24 = .ok (.lload 8, 2) := by decide +kernel
theorem dX5_divisor_26 : decode cX5_divisor 26 = .ok (.lstore 6, 2) := by decide +kernel
theorem dX5_divisor_28 : decode cX5_divisor 28 = .ok (.goto (-22), 3) := by decide +kernel
theorem dX5_divisor_31 : decode cX5_divisor 31 = .ok (.lload 4, 2) := by decide +kernel
theorem dX5_divisor_33 : decode cX5_divisor 33 = .ok (.lreturn, 1) := by decide +kernel
theorem dX5_partOf_0 : decode cX5_partOf 0 = .ok (.iload 4, 2) := by decide +kernel
theorem dX5_partOf_2 : decode cX5_partOf 2 = .ok (.ifCond .ne 7, 3) := by decide +kernel
theorem dX5_partOf_5 : decode cX5_partOf 5 = .ok (.lload_n 0, 1) := by decide +kernel
theorem dX5_partOf_6 : decode cX5_partOf 6 = .ok (.goto 4, 3) := by decide +kernel
theorem dX5_partOf_9 : decode cX5_partOf 9 = .ok (.lload_n 2, 1) := by decide +kernel
theorem dX5_partOf_10 : decode cX5_partOf 10 = .ok (.lload_n 0, 1) := by decide +kernel
theorem dX5_partOf_11 : decode cX5_partOf 11 = .ok (.lload_n 2, 1) := by decide +kernel
theorem dX5_partOf_12 : decode cX5_partOf 12 = .ok (.invokestatic 187, 3) := by decide +kernel
theorem dX5_partOf_15 : decode cX5_partOf 15 = .ok (.ldiv, 1) := by decide +kernel
theorem dX5_partOf_16 : decode cX5_partOf 16 = .ok (.lreturn, 1) := by decide +kernel
theorem dX5_again_0 : decode cX5_again 0 = .ok (.aload_n 0, 1) := by decide +kernel
theorem dX5_again_1 : decode cX5_again 1 = .ok (.iload_n 1, 1) := by decide +kernel
theorem dX5_again_2 : decode cX5_again 2 = .ok (.iload_n 2, 1) := by decide +kernel
theorem dX5_again_3 : decode cX5_again 3 = .ok (.iload_n 3, 1) := by decide +kernel
theorem dX5_again_4 : decode cX5_again 4 = .ok (.invokevirtual 167, 3) := by decide +kernel
theorem dX5_again_7 : decode cX5_again 7 = .ok (.ifCond .ne 7, 3) := by decide +kernel
theorem dX5_again_10 : decode cX5_again 10 = .ok (.iconst (-1), 1) := by decide +kernel
theorem dX5_again_11 : decode cX5_again 11 = .ok (.goto 19, 3) := by decide +kernel
theorem dX5_again_14 : decode cX5_again 14 = .ok (.iload 4, 2) := by decide +kernel
theorem dX5_again_16 : decode cX5_again 16 = .ok (.iconst 0, 1) := by decide +kernel
theorem dX5_again_17 : decode cX5_again 17 = .ok (.iconst 1, 1) := by decide +kernel
theorem dX5_again_18 : decode cX5_again 18 = .ok (.invokestatic 85, 3) := by decide +kernel
theorem dX5_again_21 : decode cX5_again 21 = .ok (.ifCond .ne 8, 3) := by decide +kernel
theorem dX5_again_24 : decode cX5_again 24 = .ok (.bipush (-2), 2) := by decide +kernel
theorem dX5_again_26 : decode cX5_again 26 = .ok (.goto 4, 3) := by decide +kernel
theorem dX5_again_29 : decode cX5_again 29 = .ok (.iconst 0, 1) := by decide +kernel
theorem dX5_again_30 : decode cX5_again 30 = .ok (.istore 5, 2) := by decide +kernel
theorem dX5_again_32 : decode cX5_again 32 = .ok (.iload 5, 2) := by decide +kernel
theorem dX5_again_34 : decode cX5_again 34 = .ok (.ifCond .eq 10, 3) := by decide +kernel
theorem dX5_again_37 : decode cX5_again 37 = .ok (.aload_n 0, 1) := by decide +kernel
theorem dX5_again_38 : decode cX5_again 38 = .ok (.iload 5, 2) := by decide +kernel
theorem dX5_again_40 : decode cX5_again 40 = .ok (.invokevirtual 191, 3) := by decide +kernel
theorem dX5_again_43 : decode cX5_again 43 = .ok (.lreturn, 1) := by decide +kernel
theorem dX5_again_44 : decode cX5_again 44 = .ok (.aload_n 0, 1) := by decide +kernel
theorem dX5_again_45 : decode cX5_again 45 = .ok (.iload_n 1, 1) := by decide +kernel
theorem dX5_again_46 : decode cX5_again 46 = .ok (.iload_n 2, 1) := by decide +kernel
theorem dX5_again_47 : decode cX5_again 47 = .ok (.iload_n 3, 1) := by decide +kernel
theorem dX5_again_48 : decode cX5_again 48 = .ok (.invokevirtual 184, 3) := by decide +kernel
theorem dX5_again_51 : decode cX5_again 51 = .ok (.i2l, 1) := by decide +kernel
theorem dX5_again_52 : decode cX5_again 52 = .ok (.aload_n 0, 1) := by decide +kernel
theorem dX5_again_53 : decode cX5_again 53 = .ok (.iload_n 1, 1) := by decide +kernel
theorem dX5_again_54 : decode cX5_again 54 = .ok (.iload_n 2, 1) := by decide +kernel
theorem dX5_again_55 : decode cX5_again 55 = .ok (.iload_n 3, 1) := by decide +kernel
theorem dX5_again_56 : decode cX5_again 56 = .ok (.invokevirtual 181, 3) := by decide +kernel
theorem dX5_again_59 : decode cX5_again 59 = .ok (.i2l, 1) := by decide +kernel
theorem dX5_again_60 : decode cX5_again 60 = .ok (.iload 4, 2) := by decide +kernel
theorem dX5_again_62 : decode cX5_again 62 = .ok (.invokestatic 195, 3) := by decide +kernel
theorem dX5_again_65 : decode cX5_again 65 = .ok (.lreturn, 1) := by decide +kernel
theorem dX5_canKeep_0 : decode cX5_canKeep 0 = .ok (.aload_n 0, 1) := by decide +kernel
theorem dX5_canKeep_1 : decode cX5_canKeep 1 = .ok (.getfield 38, 3) := by decide +kernel
theorem dX5_canKeep_4 : decode cX5_canKeep 4 = .ok (.ifCond .lt 14, 3) := by decide +kernel
theorem dX5_canKeep_7 : decode cX5_canKeep 7 = .ok (.aload_n 0, 1) := by decide +kernel
theorem dX5_canKeep_8 : decode cX5_canKeep 8 = .ok (.getfield 64, 3) := by decide +kernel
theorem dX5_canKeep_11 : decode cX5_canKeep 11 = .ok (.ifCond .le 7, 3) := by decide +kernel
theorem dX5_canKeep_14 : decode cX5_canKeep 14 = .ok (.iconst 1, 1) := by decide +kernel
theorem dX5_canKeep_15 : decode cX5_canKeep 15 = .ok (.goto 4, 3) := by decide +kernel
theorem dX5_canKeep_18 : decode cX5_canKeep 18 = .ok (.iconst 0, 1) := by decide +kernel
theorem dX5_canKeep_19 : decode cX5_canKeep 19 = .ok (.ireturn, 1) := by decide +kernel
theorem dX5_bestNow_0 : decode cX5_bestNow 0 = .ok (.bipush (-9), 2) := by decide +kernel
theorem dX5_bestNow_2 : decode cX5_bestNow 2 = .ok (.istore_n 1, 1) := by decide +kernel
theorem dX5_bestNow_3 : decode cX5_bestNow 3 = .ok (.ldc2_w 199, 3) := by decide +kernel
theorem dX5_bestNow_6 : decode cX5_bestNow 6 = .ok (.lstore_n 2, 1) := by decide +kernel
theorem dX5_bestNow_7 : decode cX5_bestNow 7 = .ok (.iconst 0, 1) := by decide +kernel
theorem dX5_bestNow_8 : decode cX5_bestNow 8 = .ok (.istore 4, 2) := by decide +kernel
theorem dX5_bestNow_10 : decode cX5_bestNow 10 = .ok (.iload 4, 2) := by decide +kernel
theorem dX5_bestNow_12 : decode cX5_bestNow 12 = .ok (.bipush 10, 2) := by decide +kernel
theorem dX5_bestNow_14 : decode cX5_bestNow 14 = .ok (.aload_n 0, 1) := by decide +kernel
theorem dX5_bestNow_15 : decode cX5_bestNow 15 = .ok (.getfield 64, 3) := by decide +kernel
theorem dX5_bestNow_18 : decode cX5_bestNow 18 = .ok (.imul, 1) := by decide +kernel
theorem dX5_bestNow_19 : decode cX5_bestNow 19 = .ok (.if_icmp .ge 69, 3) := by decide +kernel
theorem dX5_bestNow_22 : decode cX5_bestNow 22 = .ok (.iload 4, 2) := by decide +kernel
theorem dX5_bestNow_24 : decode cX5_bestNow 24 = .ok (.bipush 10, 2) := by decide +kernel
theorem dX5_bestNow_26 : decode cX5_bestNow 26 = .ok (.irem, 1) := by decide +kernel
theorem dX5_bestNow_27 : decode cX5_bestNow 27 = .ok (.aload_n 0, 1) := by decide +kernel
theorem dX5_bestNow_28 : decode cX5_bestNow 28 = .ok (.getfield 61, 3) := by decide +kernel
theorem dX5_bestNow_31 : decode cX5_bestNow 31 = .ok (.if_icmp .ge 51, 3) := by decide +kernel
theorem dX5_bestNow_34 : decode cX5_bestNow 34 = .ok (.aload_n 0, 1) := by decide +kernel
theorem dX5_bestNow_35 : decode cX5_bestNow 35 = .ok (.iload 4, 2) := by decide +kernel
theorem dX5_bestNow_37 : decode cX5_bestNow 37 = .ok (.bipush 10, 2) := by decide +kernel
theorem dX5_bestNow_39 : decode cX5_bestNow 39 = .ok (.idiv, 1) := by decide +kernel
theorem dX5_bestNow_40 : decode cX5_bestNow 40 = .ok (.aload_n 0, 1) := by decide +kernel
theorem dX5_bestNow_41 : decode cX5_bestNow 41 = .ok (.getfield 38, 3) := by decide +kernel
theorem dX5_bestNow_44 : decode cX5_bestNow 44 = .ok (.iload 4, 2) := by decide +kernel
theorem dX5_bestNow_46 : decode cX5_bestNow 46 = .ok (.bipush 10, 2) := by decide +kernel
theorem dX5_bestNow_48 : decode cX5_bestNow 48 = .ok (.irem, 1) := by decide +kernel
theorem dX5_bestNow_49 : decode cX5_bestNow 49 = .ok (.invokevirtual 201, 3) := by decide +kernel
theorem dX5_bestNow_52 : decode cX5_bestNow 52 = .ok (.lload_n 2, 1) := by decide +kernel
theorem dX5_bestNow_53 : decode cX5_bestNow 53 = .ok (.lcmp, 1) := by decide +kernel
theorem dX5_bestNow_54 : decode cX5_bestNow 54 = .ok (.ifCond .gt 6, 3) := by decide +kernel
theorem dX5_bestNow_57 : decode cX5_bestNow 57 = .ok (.goto 25, 3) := by decide +kernel
theorem dX5_bestNow_60 : decode cX5_bestNow 60 = .ok (.iload 4, 2) := by decide +kernel
theorem dX5_bestNow_62 : decode cX5_bestNow 62 = .ok (.istore_n 1, 1) := by decide +kernel
theorem dX5_bestNow_63 : decode cX5_bestNow 63 = .ok (.aload_n 0, 1) := by decide +kernel
theorem dX5_bestNow_64 : decode cX5_bestNow 64 = .ok (.iload 4, 2) := by decide +kernel
theorem dX5_bestNow_66 : decode cX5_bestNow 66 = .ok (.bipush 10, 2) := by decide +kernel
theorem dX5_bestNow_68 : decode cX5_bestNow 68 = .ok (.idiv, 1) := by decide +kernel
theorem dX5_bestNow_69 : decode cX5_bestNow 69 = .ok (.aload_n 0, 1) := by decide +kernel
theorem dX5_bestNow_70 : decode cX5_bestNow 70 = .ok (.getfield 38, 3) := by decide +kernel
theorem dX5_bestNow_73 : decode cX5_bestNow 73 = .ok (.iload 4, 2) := by decide +kernel
theorem dX5_bestNow_75 : decode cX5_bestNow 75 = .ok (.bipush 10, 2) := by decide +kernel
theorem dX5_bestNow_77 : decode cX5_bestNow 77 = .ok (.irem, 1) := by decide +kernel
theorem dX5_bestNow_78 : decode cX5_bestNow 78 = .ok (.invokevirtual 201, 3) := by decide +kernel
theorem dX5_bestNow_81 : decode cX5_bestNow 81 = .ok (.lstore_n 2, 1) := by decide +kernel
theorem dX5_bestNow_82 : decode cX5_bestNow 82 = .ok (.iinc 4 1, 3) := by decide +kernel
theorem dX5_bestNow_85 : decode cX5_bestNow 85 = .ok (.goto (-75), 3) := by decide +kernel
theorem dX5_bestNow_88 : decode cX5_bestNow 88 = .ok (.iload_n 1, 1) := by decide +kernel
theorem dX5_bestNow_89 : decode cX5_bestNow 89 = .ok (.ireturn, 1) := by decide +kernel
theorem dX5_best_0 : decode cX5_best 0 = .ok (.aload_n 0, 1) := by decide +kernel
theorem dX5_best_1 : decode cX5_best 1 = .ok (.invokevirtual 205, 3) := by decide +kernel
theorem dX5_best_4 : decode cX5_best 4 = .ok (.ifCond .eq 10, 3) := by decide +kernel
theorem dX5_best_7 : decode cX5_best 7 = .ok (.aload_n 0, 1) := by decide +kernel
theorem dX5_best_8 : decode cX5_best 8 = .ok (.invokevirtual 208, 3) := by decide +kernel
theorem dX5_best_11 : decode cX5_best 11 = .ok (.goto 5, 3) := by decide +kernel
theorem dX5_best_14 : decode cX5_best 14 = .ok (.bipush (-9), 2) := by decide +kernel
theorem dX5_best_16 : decode cX5_best 16 = .ok (.ireturn, 1) := by decide +kernel
theorem dX5_bestParts_0 : decode cX5_bestParts 0 = .ok (.aload_n 0, 1) := by decide +kernel
theorem dX5_bestParts_1 : decode cX5_bestParts 1 = .ok (.aload_n 0, 1) := by decide +kernel
theorem dX5_bestParts_2 : decode cX5_bestParts 2 = .ok (.invokevirtual 208, 3) := by decide +kernel
theorem dX5_bestParts_5 : decode cX5_bestParts 5 = .ok (.bipush 10, 2) := by decide +kernel
theorem dX5_bestParts_7 : decode cX5_bestParts 7 = .ok (.idiv, 1) := by decide +kernel
theorem dX5_bestParts_8 : decode cX5_bestParts 8 = .ok (.aload_n 0, 1) := by decide +kernel
theorem dX5_bestParts_9 : decode cX5_bestParts 9 = .ok (.getfield 38, 3) := by decide +kernel
theorem dX5_bestParts_12 : decode cX5_bestParts 12 = .ok (.aload_n 0, 1) := by decide +kernel
theorem dX5_bestParts_13 : decode cX5_bestParts 13 = .ok (.invokevirtual 208, 3) := by decide +kernel
theorem dX5_bestParts_16 : decode cX5_bestParts 16 = .ok (.bipush 10, 2) := by decide +kernel
theorem dX5_bestParts_18 : decode cX5_bestParts 18 = .ok (.irem, 1) := by decide +kernel
theorem dX5_bestParts_19 : decode cX5_bestParts 19 = .ok (.invokevirtual 201, 3) := by decide +kernel
theorem dX5_bestParts_22 : decode cX5_bestParts 22 = .ok (.lreturn, 1) := by decide +kernel
theorem dX5_triesTwo_0 : decode cX5_triesTwo 0 = .ok (.aload_n 0, 1) := by decide +kernel
theorem dX5_triesTwo_1 : decode cX5_triesTwo 1 = .ok (.iload_n 1, 1) := by decide +kernel
theorem dX5_triesTwo_2 : decode cX5_triesTwo 2 = .ok (.aload_n 0, 1) := by decide +kernel
theorem dX5_triesTwo_3 : decode cX5_triesTwo 3 = .ok (.getfield 38, 3) := by decide +kernel
theorem dX5_triesTwo_6 : decode cX5_triesTwo 6 = .ok (.iload_n 2, 1) := by decide +kernel
theorem dX5_triesTwo_7 : decode cX5_triesTwo 7 = .ok (.invokevirtual 170, 3) := by decide +kernel
theorem dX5_triesTwo_10 : decode cX5_triesTwo 10 = .ok (.istore_n 3, 1) := by decide +kernel
theorem dX5_triesTwo_11 : decode cX5_triesTwo 11 = .ok (.aload_n 0, 1) := by decide +kernel
theorem dX5_triesTwo_12 : decode cX5_triesTwo 12 = .ok (.iload_n 1, 1) := by decide +kernel
theorem dX5_triesTwo_13 : decode cX5_triesTwo 13 = .ok (.aload_n 0, 1) := by decide +kernel
theorem dX5_triesTwo_14 : decode cX5_triesTwo 14 = .ok (.getfield 38, 3) := by decide +kernel
theorem dX5_triesTwo_17 : decode cX5_triesTwo 17 = .ok (.iload_n 2, 1) := by decide +kernel
theorem dX5_triesTwo_18 : decode cX5_triesTwo 18 = .ok (.invokevirtual 181, 3) := by decide +kernel
theorem dX5_triesTwo_21 : decode cX5_triesTwo 21 = .ok (.i2l, 1) := by decide +kernel
theorem dX5_triesTwo_22 : decode cX5_triesTwo 22 = .ok (.lstore 4, 2) := by decide +kernel
theorem dX5_triesTwo_24 : decode cX5_triesTwo 24 = .ok (.lconst 0, 1) := by decide +kernel
theorem dX5_triesTwo_25 : decode cX5_triesTwo 25 = .ok (.lstore 6, 2) := by decide +kernel
theorem dX5_triesTwo_27 : decode cX5_triesTwo 27 = .ok (.iload_n 3, 1) := by decide +kernel
theorem dX5_triesTwo_28 : decode cX5_triesTwo 28 = .ok (.ineg, 1) := by decide +kernel
theorem dX5_triesTwo_29 : decode cX5_triesTwo 29 = .ok (.istore 8, 2) := by decide +kernel
theorem dX5_triesTwo_31 : decode cX5_triesTwo 31 = .ok (.iload 8, 2) := by decide +kernel
theorem dX5_triesTwo_33 : decode cX5_triesTwo 33 = .ok (.iload_n 3, 1) := by decide +kernel
theorem dX5_triesTwo_34 : decode cX5_triesTwo 34 = .ok (.if_icmp .gt 41, 3) := by decide +kernel
theorem dX5_triesTwo_37 : decode cX5_triesTwo 37 = .ok (.aload_n 0, 1) := by decide +kernel
theorem dX5_triesTwo_38 : decode cX5_triesTwo 38 = .ok (.iconst 1, 1) := by decide +kernel
theorem dX5_triesTwo_39 : decode cX5_triesTwo 39 = .ok (.iconst 1, 1) := by decide +kernel
theorem dX5_triesTwo_40 : decode cX5_triesTwo 40 = .ok (.invokevirtual 131, 3) := by decide +kernel
theorem dX5_triesTwo_43 : decode cX5_triesTwo 43 = .ok (.aload_n 0, 1) := by decide +kernel
theorem dX5_triesTwo_44 : decode cX5_triesTwo 44 = .ok (.iload_n 1, 1) := by decide +kernel
theorem dX5_triesTwo_45 : decode cX5_triesTwo 45 = .ok (.iload_n 2, 1) := by decide +kernel
theorem dX5_triesTwo_46 : decode cX5_triesTwo 46 = .ok (.iload 8, 2) := by decide +kernel
theorem dX5_triesTwo_48 : decode cX5_triesTwo 48 = .ok (.invokevirtual 176, 3) := by decide +kernel
theorem dX5_triesTwo_51 : decode cX5_triesTwo 51 = .ok (.ifCond .eq 12, 3) := by decide +kernel
theorem dX5_triesTwo_54 : decode cX5_triesTwo 54 = .ok (.lload 6, 2) := by decide +kernel
theorem dX5_triesTwo_56 : decode cX5_triesTwo 56 = .ok (.aload_n 0, 1) := by decide +kernel
theorem dX5_triesTwo_57 : decode cX5_triesTwo 57 = .ok (.invokevirtual 211, 3) := by decide +kernel
theorem dX5_triesTwo_60 : decode cX5_triesTwo 60 = .ok (.ladd, 1) := by decide +kernel
theorem dX5_triesTwo_61 : decode cX5_triesTwo 61 = .ok (.lstore 6, 2) := by decide +kernel
theorem dX5_triesTwo_63 : decode cX5_triesTwo 63 = .ok (.aload_n 0, 1) := by decide +kernel
theorem dX5_triesTwo_64 : decode cX5_triesTwo 64 = .ok (.iconst 1, 1) := by decide +kernel
theorem dX5_triesTwo_65 : decode cX5_triesTwo 65 = .ok (.iconst 0, 1) := by decide +kernel
theorem dX5_triesTwo_66 : decode cX5_triesTwo 66 = .ok (.invokevirtual 131, 3) := by decide +kernel
theorem dX5_triesTwo_69 : decode cX5_triesTwo 69 = .ok (.iinc 8 1, 3) := by decide +kernel
theorem dX5_triesTwo_72 : decode cX5_triesTwo 72 = .ok (.goto (-41), 3) := by decide +kernel
theorem dX5_triesTwo_75 : decode cX5_triesTwo 75 = .ok (.lload 6, 2) := by decide +kernel
theorem dX5_triesTwo_77 : decode cX5_triesTwo 77 = .ok (.aload_n 0, 1) := by decide +kernel
theorem dX5_triesTwo_78 : decode cX5_triesTwo 78 = .ok (.getfield 215, 3) := by decide +kernel
theorem dX5_triesTwo_81 : decode cX5_triesTwo 81 = .ok (.lmul, 1) := by decide +kernel
theorem dX5_triesTwo_82 : decode cX5_triesTwo 82 = .ok (.aload_n 0, 1) := by decide +kernel
theorem dX5_triesTwo_83 : decode cX5_triesTwo 83 = .ok (.getfield 219, 3) := by decide +kernel
theorem dX5_triesTwo_86 : decode cX5_triesTwo 86 = .ok (.lload 4, 2) := by decide +kernel
theorem dX5_triesTwo_88 : decode cX5_triesTwo 88 = .ok (.lmul, 1) := by decide +kernel
theorem dX5_triesTwo_89 : decode cX5_triesTwo 89 = .ok (.lcmp, 1) := by decide +kernel
theorem dX5_triesTwo_90 : decode cX5_triesTwo 90 = .ok (.ifCond .gt 4, 3) := by decide +kernel
theorem dX5_triesTwo_93 : decode cX5_triesTwo 93 = .ok (.return_, 1) := by decide +kernel
theorem dX5_triesTwo_94 : decode cX5_triesTwo 94 = .ok (.aload_n 0, 1) := by decide +kernel
theorem dX5_triesTwo_95 : decode cX5_triesTwo 95 = .ok (.lload 6, 2) := by decide +kernel
theorem dX5_triesTwo_97 : decode cX5_triesTwo 97 = .ok (.putfield 219, 3) := by decide +kernel
theorem dX5_triesTwo_100 : decode cX5_triesTwo 100 = .ok (.aload_n 0, 1) := by decide +kernel
theorem dX5_triesTwo_101 : decode cX5_triesTwo 101 = .ok (.lload 4, 2) := by decide +kernel
theorem dX5_triesTwo_103 : decode cX5_triesTwo 103 = .ok (.putfield 215, 3) := by decide +kernel
theorem dX5_triesTwo_106 : decode cX5_triesTwo 106 = .ok (.return_, 1) := by decide +kernel
theorem dX5_on_0 : decode cX5_on 0 = .ok (.iload_n 1, 1) := by decide +kernel
theorem dX5_on_1 : decode cX5_on 1 = .ok (.iconst 1, 1) := by decide +kernel
theorem dX5_on_2 : decode cX5_on 2 = .ok (.iconst 2, 1) := by decide +kernel
theorem dX5_on_3 : decode cX5_on 3 = .ok (.invokestatic 67, 3) := by decide +kernel
theorem dX5_on_6 : decode cX5_on 6 = .ok (.istore_n 3, 1) := by decide +kernel
theorem dX5_on_7 : decode cX5_on 7 = .ok (.iload_n 3, 1) := by decide +kernel
theorem dX5_on_8 : decode cX5_on 8 = .ok (.ifCond .ne 15, 3) := by decide +kernel
theorem dX5_on_11 : decode cX5_on 11 = .ok (.iload_n 2, 1) := by decide +kernel
theorem dX5_on_12 : decode cX5_on 12 = .ok (.iconst 0, 1) := by decide +kernel
theorem dX5_on_13 : decode cX5_on 13 = .ok (.iconst 1, 1) := by decide +kernel
theorem dX5_on_14 : decode cX5_on 14 = .ok (.invokestatic 85, 3) := by decide +kernel
theorem dX5_on_17 : decode cX5_on 17 = .ok (.ifCond .ne 6, 3) := by decide +kernel
theorem dX5_on_20 : decode cX5_on 20 = .ok (.bipush (-2), 2) := by decide +kernel
theorem dX5_on_22 : decode cX5_on 22 = .ok (.istore_n 3, 1) := by decide +kernel
theorem dX5_on_23 : decode cX5_on 23 = .ok (.iload_n 3, 1) := by decide +kernel
theorem dX5_on_24 : decode cX5_on 24 = .ok (.ifCond .eq 9, 3) := by decide +kernel
theorem dX5_on_27 : decode cX5_on 27 = .ok (.aload_n 0, 1) := by decide +kernel
theorem dX5_on_28 : decode cX5_on 28 = .ok (.iload_n 3, 1) := by decide +kernel
theorem dX5_on_29 : decode cX5_on 29 = .ok (.invokevirtual 191, 3) := by decide +kernel
theorem dX5_on_32 : decode cX5_on 32 = .ok (.lreturn, 1) := by decide +kernel
theorem dX5_on_33 : decode cX5_on 33 = .ok (.aload_n 0, 1) := by decide +kernel
theorem dX5_on_34 : decode cX5_on 34 = .ok (.invokevirtual 205, 3) := by decide +kernel
theorem dX5_on_37 : decode cX5_on 37 = .ok (.ifCond .ne 13, 3) := by decide +kernel
theorem dX5_on_40 : decode cX5_on 40 = .ok (.iload_n 2, 1) := by decide +kernel
theorem dX5_on_41 : decode cX5_on 41 = .ok (.ifCond .ne 7, 3) := by decide +kernel
theorem dX5_on_44 : decode cX5_on 44 = .ok (.lconst 0, 1) := by decide +kernel
theorem dX5_on_45 : decode cX5_on 45 = .ok (.goto 4, 3) := by decide +kernel
theorem dX5_on_48 : decode cX5_on 48 = .ok (.lconst 1, 1) := by decide +kernel
theorem dX5_on_49 : decode cX5_on 49 = .ok (.lreturn, 1) := by decide +kernel
theorem dX5_on_50 : decode cX5_on 50 = .ok (.iload_n 1, 1) := by decide +kernel
theorem dX5_on_51 : decode cX5_on 51 = .ok (.iconst 1, 1) := by decide +kernel
theorem dX5_on_52 : decode cX5_on 52 = .ok (.if_icmp .ne 15, 3) := by decide +kernel
theorem dX5_on_55 : decode cX5_on 55 = .ok (.aload_n 0, 1) := by decide +kernel
theorem dX5_on_56 : decode cX5_on 56 = .ok (.invokevirtual 211, 3) := by decide +kernel
theorem dX5_on_59 : decode cX5_on 59 = .ok (.ldc2_w 179, 3) := by decide +kernel
theorem dX5_on_62 : decode cX5_on 62 = .ok (.iload_n 2, 1) := by decide +kernel
theorem dX5_on_63 : decode cX5_on 63 = .ok (.invokestatic 195, 3) := by decide +kernel
theorem dX5_on_66 : decode cX5_on 66 = .ok (.lreturn, 1) := by decide +kernel
theorem dX5_on_67 : decode cX5_on 67 = .ok (.aload_n 0, 1) := by decide +kernel
theorem dX5_on_68 : decode cX5_on 68 = .ok (.lconst 0, 1) := by decide +kernel
theorem dX5_on_69 : decode cX5_on 69 = .ok (.putfield 219, 3) := by decide +kernel
theorem dX5_on_72 : decode cX5_on 72 = .ok (.aload_n 0, 1) := by decide +kernel
theorem dX5_on_73 : decode cX5_on 73 = .ok (.lconst 1, 1) := by decide +kernel
theorem dX5_on_74 : decode cX5_on 74 = .ok (.putfield 215, 3) := by decide +kernel
theorem dX5_on_77 : decode cX5_on 77 = .ok (.iconst 0, 1) := by decide +kernel
theorem dX5_on_78 : decode cX5_on 78 = .ok (.istore 4, 2) := by decide +kernel
theorem dX5_on_80 : decode cX5_on 80 = .ok (.iload 4, 2) := by decide +kernel
theorem dX5_on_82 : decode cX5_on 82 = .ok (.aload_n 0, 1) := by decide +kernel
theorem dX5_on_83 : decode cX5_on 83 = .ok (.getfield 64, 3) := by decide +kernel
theorem dX5_on_86 : decode cX5_on 86 = .ok (.if_icmp .ge 35, 3) := by decide +kernel
theorem dX5_on_89 : decode cX5_on 89 = .ok (.iconst 0, 1) := by decide +kernel
theorem dX5_on_90 : decode cX5_on 90 = .ok (.istore 5, 2) := by decide +kernel
theorem dX5_on_92 : decode cX5_on 92 = .ok (.iload 5, 2) := by decide +kernel
theorem dX5_on_94 : decode cX5_on 94 = .ok (.aload_n 0, 1) := by decide +kernel
theorem dX5_on_95 : decode cX5_on 95 = .ok (.getfield 61, 3) := by decide +kernel
theorem dX5_on_98 : decode cX5_on 98 = .ok (.if_icmp .ge 17, 3) := by decide +kernel
theorem dX5_on_101 : decode cX5_on 101 = .ok (.aload_n 0, 1) := by decide +kernel
theorem dX5_on_102 : decode cX5_on 102 = .ok (.iload 4, 2) := by decide +kernel
theorem dX5_on_104 : decode cX5_on 104 = .ok (.iload 5, 2) := by decide +kernel
theorem dX5_on_106 : decode cX5_on 106 = .ok (.invokevirtual 222, 3) := by decide +kernel
theorem dX5_on_109 : decode cX5_on 109 = .ok (.iinc 5 1, 3) := by decide +kernel
theorem dX5_on_112 : decode cX5_on 112 = .ok (.goto (-20), 3) := by decide +kernel
theorem dX5_on_115 : decode cX5_on 115 = .ok (.iinc 4 1, 3) := by decide +kernel
theorem dX5_on_118 : decode cX5_on 118 = .ok (.goto (-38), 3) := by decide +kernel
theorem dX5_on_121 : decode cX5_on 121 = .ok (.aload_n 0, 1) := by decide +kernel
theorem dX5_on_122 : decode cX5_on 122 = .ok (.getfield 219, 3) := by decide +kernel
theorem dX5_on_125 : decode cX5_on 125 = .ok (.ldc2_w 179, 3) := by decide +kernel
theorem dX5_on_128 : decode cX5_on 128 = .ok (.aload_n 0, 1) := by decide +kernel
theorem dX5_on_129 : decode cX5_on 129 = .ok (.getfield 215, 3) := by decide +kernel
theorem dX5_on_132 : decode cX5_on 132 = .ok (.lmul, 1) := by decide +kernel
theorem dX5_on_133 : decode cX5_on 133 = .ok (.iload_n 2, 1) := by decide +kernel
theorem dX5_on_134 : decode cX5_on 134 = .ok (.invokestatic 195, 3) := by decide +kernel
theorem dX5_on_137 : decode cX5_on 137 = .ok (.lreturn, 1) := by decide +kernel
theorem dX5_stand_0 : decode cX5_stand 0 = .ok (.aload_n 0, 1) := by decide +kernel
theorem dX5_stand_1 : decode cX5_stand 1 = .ok (.iload_n 1, 1) := by decide +kernel
theorem dX5_stand_2 : decode cX5_stand 2 = .ok (.invokevirtual 158, 3) := by decide +kernel
theorem dX5_stand_5 : decode cX5_stand 5 = .ok (.ifCond .eq 11, 3) := by decide +kernel
theorem dX5_stand_8 : decode cX5_stand 8 = .ok (.aload_n 0, 1) := by decide +kernel
theorem dX5_stand_9 : decode cX5_stand 9 = .ok (.iload_n 2, 1) := by decide +kernel
theorem dX5_stand_10 : decode cX5_stand 10 = .ok (.invokevirtual 124, 3) := by decide +kernel
theorem dX5_stand_13 : decode cX5_stand 13 = .ok (.ifCond .ne 9, 3) := by decide +kernel
theorem dX5_stand_16 : decode cX5_stand 16 = .ok (.aload_n 0, 1) := by decide +kernel
theorem dX5_stand_17 : decode cX5_stand 17 = .ok (.iconst (-1), 1) := by decide +kernel
theorem dX5_stand_18 : decode cX5_stand 18 = .ok (.invokevirtual 74, 3) := by decide +kernel
theorem dX5_stand_21 : decode cX5_stand 21 = .ok (.ireturn, 1) := by decide +kernel
theorem dX5_stand_22 : decode cX5_stand 22 = .ok (.aload_n 0, 1) := by decide +kernel
theorem dX5_stand_23 : decode cX5_stand 23 = .ok (.getfield 38, 3) := by decide +kernel
theorem dX5_stand_26 : decode cX5_stand 26 = .ok (.ifCond .ge 6, 3) := by decide +kernel
theorem dX5_stand_29 : decode cX5_stand 29 = .ok (.bipush (-9), 2) := by decide +kernel
theorem dX5_stand_31 : decode cX5_stand 31 = .ok (.ireturn, 1) := by decide +kernel
theorem dX5_stand_32 : decode cX5_stand 32 = .ok (.aload_n 0, 1) := by decide +kernel
theorem dX5_stand_33 : decode cX5_stand 33 = .ok (.getfield 13, 3) := by decide +kernel
theorem dX5_stand_36 : decode cX5_stand 36 = .ok (.iload_n 2, 1) := by decide +kernel
theorem dX5_stand_37 : decode cX5_stand 37 = .ok (.iaload, 1) := by decide +kernel
theorem dX5_stand_38 : decode cX5_stand 38 = .ok (.istore_n 3, 1) := by decide +kernel
theorem dX5_stand_39 : decode cX5_stand 39 = .ok (.bipush (-9), 2) := by decide +kernel
theorem dX5_stand_41 : decode cX5_stand 41 = .ok (.istore 4, 2) := by decide +kernel
theorem dX5_stand_43 : decode cX5_stand 43 = .ok (.ldc2_w 199, 3) := by decide +kernel
theorem dX5_stand_46 : decode cX5_stand 46 = .ok (.lstore 5, 2) := by decide +kernel
theorem dX5_stand_48 : decode cX5_stand 48 = .ok (.iconst 0, 1) := by decide +kernel
theorem dX5_stand_49 : decode cX5_stand 49 = .ok (.istore 7, 2) := by decide +kernel
theorem dX5_stand_51 : decode cX5_stand 51 = .ok (.iload 7, 2) := by decide +kernel
theorem dX5_stand_53 : decode cX5_stand 53 = .ok (.aload_n 0, 1) := by decide +kernel
theorem dX5_stand_54 : decode cX5_stand 54 = .ok (.getfield 34, 3) := by decide +kernel
theorem dX5_stand_57 : decode cX5_stand 57 = .ok (.if_icmp .ge 48, 3) := by decide +kernel
theorem dX5_stand_60 : decode cX5_stand 60 = .ok (.aload_n 0, 1) := by decide +kernel
theorem dX5_stand_61 : decode cX5_stand 61 = .ok (.getfield 13, 3) := by decide +kernel
theorem dX5_stand_64 : decode cX5_stand 64 = .ok (.iload_n 2, 1) := by decide +kernel
theorem dX5_stand_65 : decode cX5_stand 65 = .ok (.iload 7, 2) := by decide +kernel
theorem dX5_stand_67 : decode cX5_stand 67 = .ok (.iastore, 1) := by decide +kernel
theorem dX5_stand_68 : decode cX5_stand 68 = .ok (.aload_n 0, 1) := by decide +kernel
theorem dX5_stand_69 : decode cX5_stand 69 = .ok (.iload_n 1, 1) := by decide +kernel
theorem dX5_stand_70 : decode cX5_stand 70 = .ok (.aload_n 0, 1) := by decide +kernel
theorem dX5_stand_71 : decode cX5_stand 71 = .ok (.getfield 38, 3) := by decide +kernel
theorem dX5_stand_74 : decode cX5_stand 74 = .ok (.iload_n 2, 1) := by decide +kernel
theorem dX5_stand_75 : decode cX5_stand 75 = .ok (.invokevirtual 201, 3) := by decide +kernel
theorem dX5_stand_78 : decode cX5_stand 78 = .ok (.lstore 8, 2) := by decide +kernel
theorem dX5_stand_80 : decode cX5_stand 80 = .ok (.lload 8, 2) := by decide +kernel
theorem dX5_stand_82 : decode cX5_stand 82 = .ok (.lload 5, 2) := by decide +kernel
theorem dX5_stand_84 : decode cX5_stand 84 = .ok (.lcmp, 1) := by decide +kernel
theorem dX5_stand_85 : decode cX5_stand 85 = .ok (.ifCond .gt 6, 3) := by decide +kernel
theorem dX5_stand_88 : decode cX5_stand 88 = .ok (.goto 11, 3) := by decide +kernel
theorem dX5_stand_91 : decode cX5_stand 91 = .ok (.iload 7, 2) := by decide +kernel
theorem dX5_stand_93 : decode cX5_stand 93 = .ok (.istore 4, 2) := by decide +kernel
theorem dX5_stand_95 : decode cX5_stand 95 = .ok (.lload 8, 2) := by decide +kernel
theorem dX5_stand_97 : decode cX5_stand 97 = .ok (.lstore 5, 2) := by decide +kernel
theorem dX5_stand_99 : decode cX5_stand 99 = .ok (.iinc 7 1, 3) := by decide +kernel
theorem dX5_stand_102 : decode cX5_stand 102 = .ok (.goto (-51), 3) := by decide +kernel
theorem dX5_stand_105 : decode cX5_stand 105 = .ok (.aload_n 0, 1) := by decide +kernel
theorem dX5_stand_106 : decode cX5_stand 106 = .ok (.getfield 13, 3) := by decide +kernel
theorem dX5_stand_109 : decode cX5_stand 109 = .ok (.iload_n 2, 1) := by decide +kernel
theorem dX5_stand_110 : decode cX5_stand 110 = .ok (.iload_n 3, 1) := by decide +kernel
theorem dX5_stand_111 : decode cX5_stand 111 = .ok (.iastore, 1) := by decide +kernel
theorem dX5_stand_112 : decode cX5_stand 112 = .ok (.iload 4, 2) := by decide +kernel
theorem dX5_stand_114 : decode cX5_stand 114 = .ok (.ireturn, 1) := by decide +kernel
theorem dX5_grows_0 : decode cX5_grows 0 = .ok (.aload_n 0, 1) := by decide +kernel
theorem dX5_grows_1 : decode cX5_grows 1 = .ok (.iload_n 1, 1) := by decide +kernel
theorem dX5_grows_2 : decode cX5_grows 2 = .ok (.invokevirtual 158, 3) := by decide +kernel
theorem dX5_grows_5 : decode cX5_grows 5 = .ok (.ifCond .eq 11, 3) := by decide +kernel
theorem dX5_grows_8 : decode cX5_grows 8 = .ok (.aload_n 0, 1) := by decide +kernel
theorem dX5_grows_9 : decode cX5_grows 9 = .ok (.iload_n 2, 1) := by decide +kernel
theorem dX5_grows_10 : decode cX5_grows 10 = .ok (.invokevirtual 124, 3) := by decide +kernel
theorem dX5_grows_13 : decode cX5_grows 13 = .ok (.ifCond .ne 7, 3) := by decide +kernel
theorem dX5_grows_16 : decode cX5_grows 16 = .ok (.iconst (-1), 1) := by decide +kernel
theorem dX5_grows_17 : decode cX5_grows 17 = .ok (.goto 10, 3) := by decide +kernel
theorem dX5_grows_20 : decode cX5_grows 20 = .ok (.iload_n 3, 1) := by decide +kernel
theorem dX5_grows_21 : decode cX5_grows 21 = .ok (.iconst 1, 1) := by decide +kernel
theorem dX5_grows_22 : decode cX5_grows 22 = .ok (.bipush 20, 2) := by decide +kernel
theorem dX5_grows_24 : decode cX5_grows 24 = .ok (.invokestatic 67, 3) := by decide +kernel
theorem dX5_grows_27 : decode cX5_grows 27 = .ok (.istore 4, 2) := by decide +kernel
theorem dX5_grows_29 : decode cX5_grows 29 = .ok (.iload 4, 2) := by decide +kernel
theorem dX5_grows_31 : decode cX5_grows 31 = .ok (.ifCond .eq 10, 3) := by decide +kernel
theorem dX5_grows_34 : decode cX5_grows 34 = .ok (.aload_n 0, 1) := by decide +kernel
theorem dX5_grows_35 : decode cX5_grows 35 = .ok (.iload 4, 2) := by decide +kernel
theorem dX5_grows_37 : decode cX5_grows 37 = .ok (.invokevirtual 74, 3) := by decide +kernel
theorem dX5_grows_40 : decode cX5_grows 40 = .ok (.ireturn, 1) := by decide +kernel
theorem dX5_grows_41 : decode cX5_grows 41 = .ok (.aload_n 0, 1) := by decide +kernel
theorem dX5_grows_42 : decode cX5_grows 42 = .ok (.getfield 22, 3) := by decide +kernel
theorem dX5_grows_45 : decode cX5_grows 45 = .ok (.iload_n 2, 1) := by decide +kernel
theorem dX5_grows_46 : decode cX5_grows 46 = .ok (.iaload, 1) := by decide +kernel
theorem dX5_grows_47 : decode cX5_grows 47 = .ok (.istore 5, 2) := by decide +kernel
theorem dX5_grows_49 : decode cX5_grows 49 = .ok (.iload 5, 2) := by decide +kernel
theorem dX5_grows_51 : decode cX5_grows 51 = .ok (.iload_n 3, 1) := by decide +kernel
theorem dX5_grows_52 : decode cX5_grows 52 = .ok (.iconst 1, 1) := by decide +kernel
theorem dX5_grows_53 : decode cX5_grows 53 = .ok (.isub, 1) := by decide +kernel
theorem dX5_grows_54 : decode cX5_grows 54 = .ok (.aload_n 0, 1) := by decide +kernel
theorem dX5_grows_55 : decode cX5_grows 55 = .ok (.iload_n 1, 1) := by decide +kernel
theorem dX5_grows_56 : decode cX5_grows 56 = .ok (.invokevirtual 164, 3) := by decide +kernel
theorem dX5_grows_59 : decode cX5_grows 59 = .ok (.imul, 1) := by decide +kernel
theorem dX5_grows_60 : decode cX5_grows 60 = .ok (.iadd, 1) := by decide +kernel
theorem dX5_grows_61 : decode cX5_grows 61 = .ok (.istore 6, 2) := by decide +kernel
theorem dX5_grows_63 : decode cX5_grows 63 = .ok (.aload_n 0, 1) := by decide +kernel
theorem dX5_grows_64 : decode cX5_grows 64 = .ok (.getfield 22, 3) := by decide +kernel
theorem dX5_grows_67 : decode cX5_grows 67 = .ok (.iload_n 2, 1) := by decide +kernel
theorem dX5_grows_68 : decode cX5_grows 68 = .ok (.iload 6, 2) := by decide +kernel
theorem dX5_grows_70 : decode cX5_grows 70 = .ok (.bipush 99, 2) := by decide +kernel
theorem dX5_grows_72 : decode cX5_grows 72 = .ok (.if_icmp .le 8, 3) := by decide +kernel
theorem dX5_grows_75 : decode cX5_grows 75 = .ok (.bipush 99, 2) := by decide +kernel
theorem dX5_grows_77 : decode cX5_grows 77 = .ok (.goto 5, 3) := by decide +kernel
theorem dX5_grows_80 : decode cX5_grows 80 = .ok (.iload 6, 2) := by decide +kernel
theorem dX5_grows_82 : decode cX5_grows 82 = .ok (.iastore, 1) := by decide +kernel
theorem dX5_grows_83 : decode cX5_grows 83 = .ok (.aload_n 0, 1) := by decide +kernel
theorem dX5_grows_84 : decode cX5_grows 84 = .ok (.iload_n 1, 1) := by decide +kernel
theorem dX5_grows_85 : decode cX5_grows 85 = .ok (.iload_n 2, 1) := by decide +kernel
theorem dX5_grows_86 : decode cX5_grows 86 = .ok (.iload_n 2, 1) := by decide +kernel
theorem dX5_grows_87 : decode cX5_grows 87 = .ok (.invokevirtual 170, 3) := by decide +kernel
theorem dX5_grows_90 : decode cX5_grows 90 = .ok (.istore 7, 2) := by decide +kernel
theorem dX5_grows_92 : decode cX5_grows 92 = .ok (.aload_n 0, 1) := by decide +kernel
theorem dX5_grows_93 : decode cX5_grows 93 = .ok (.getfield 22, 3) := by decide +kernel
theorem dX5_grows_96 : decode cX5_grows 96 = .ok (.iload_n 2, 1) := by decide +kernel
theorem dX5_grows_97 : decode cX5_grows 97 = .ok (.iload 5, 2) := by decide +kernel
theorem dX5_grows_99 : decode cX5_grows 99 = .ok (.iastore, 1) := by decide +kernel
theorem dX5_grows_100 : decode cX5_grows 100 = .ok (.iload 7, 2) := by decide +kernel
theorem dX5_grows_102 : decode cX5_grows 102 = .ok (.ireturn, 1) := by decide +kernel
theorem dX5_ofThousand_0 : decode cX5_ofThousand 0 = .ok (.ldc2_w 226, 3) := by decide +kernel
theorem dX5_ofThousand_3 : decode cX5_ofThousand 3 = .ok (.lload_n 0, 1) := by decide +kernel
theorem dX5_ofThousand_4 : decode cX5_ofThousand 4 = .ok (.lmul, 1) := by decide +kernel
theorem dX5_ofThousand_5 : decode cX5_ofThousand 5 = .ok (.ldc2_w 179, 3) := by decide +kernel
theorem dX5_ofThousand_8 : decode cX5_ofThousand 8 = .ok (.ldiv, 1) := by decide +kernel
theorem dX5_ofThousand_9 : decode cX5_ofThousand 9 = .ok (.l2i, 1) := by decide +kernel
theorem dX5_ofThousand_10 : decode cX5_ofThousand 10 = .ok (.ireturn, 1) := by decide +kernel
theorem dX5_worth_0 : decode cX5_worth 0 = .ok (.aload_n 0, 1) := by decide +kernel
theorem dX5_worth_1 : decode cX5_worth 1 = .ok (.invokevirtual 205, 3) := by decide +kernel
theorem dX5_worth_4 : decode cX5_worth 4 = .ok (.ifCond .ne 6, 3) := by decide +kernel
theorem dX5_worth_7 : decode cX5_worth 7 = .ok (.bipush (-9), 2) := by decide +kernel
theorem dX5_worth_9 : decode cX5_worth 9 = .ok (.ireturn, 1) := by decide +kernel
theorem dX5_worth_10 : decode cX5_worth 10 = .ok (.aload_n 0, 1) := by decide +kernel
theorem dX5_worth_11 : decode cX5_worth 11 = .ok (.invokevirtual 211, 3) := by decide +kernel
theorem dX5_worth_14 : decode cX5_worth 14 = .ok (.invokestatic 228, 3) := by decide +kernel
theorem dX5_worth_17 : decode cX5_worth 17 = .ok (.istore_n 1, 1) := by decide +kernel
theorem dX5_worth_18 : decode cX5_worth 18 = .ok (.aload_n 0, 1) := by decide +kernel
theorem dX5_worth_19 : decode cX5_worth 19 = .ok (.getfield 19, 3) := by decide +kernel
theorem dX5_worth_22 : decode cX5_worth 22 = .ok (.aload_n 0, 1) := by decide +kernel
theorem dX5_worth_23 : decode cX5_worth 23 = .ok (.getfield 38, 3) := by decide +kernel
theorem dX5_worth_26 : decode cX5_worth 26 = .ok (.iaload, 1) := by decide +kernel
theorem dX5_worth_27 : decode cX5_worth 27 = .ok (.istore_n 2, 1) := by decide +kernel
theorem dX5_worth_28 : decode cX5_worth 28 = .ok (.aload_n 0, 1) := by decide +kernel
theorem dX5_worth_29 : decode cX5_worth 29 = .ok (.getfield 19, 3) := by decide +kernel
theorem dX5_worth_32 : decode cX5_worth 32 = .ok (.aload_n 0, 1) := by decide +kernel
theorem dX5_worth_33 : decode cX5_worth 33 = .ok (.getfield 38, 3) := by decide +kernel
theorem dX5_worth_36 : decode cX5_worth 36 = .ok (.iload_n 2, 1) := by decide +kernel
theorem dX5_worth_37 : decode cX5_worth 37 = .ok (.bipush 9, 2) := by decide +kernel
theorem dX5_worth_39 : decode cX5_worth 39 = .ok (.if_icmp .ge 9, 3) := by decide +kernel
theorem dX5_worth_42 : decode cX5_worth 42 = .ok (.iload_n 2, 1) := by decide +kernel
theorem dX5_worth_43 : decode cX5_worth 43 = .ok (.iconst 1, 1) := by decide +kernel
theorem dX5_worth_44 : decode cX5_worth 44 = .ok (.iadd, 1) := by decide +kernel
theorem dX5_worth_45 : decode cX5_worth 45 = .ok (.goto 5, 3) := by decide +kernel
theorem dX5_worth_48 : decode cX5_worth 48 = .ok (.bipush 9, 2) := by decide +kernel
theorem dX5_worth_50 : decode cX5_worth 50 = .ok (.iastore, 1) := by decide +kernel
theorem dX5_worth_51 : decode cX5_worth 51 = .ok (.aload_n 0, 1) := by decide +kernel
theorem dX5_worth_52 : decode cX5_worth 52 = .ok (.invokevirtual 211, 3) := by decide +kernel
theorem dX5_worth_55 : decode cX5_worth 55 = .ok (.invokestatic 228, 3) := by decide +kernel
theorem dX5_worth_58 : decode cX5_worth 58 = .ok (.istore_n 3, 1) := by decide +kernel
theorem dX5_worth_59 : decode cX5_worth 59 = .ok (.aload_n 0, 1) := by decide +kernel
theorem dX5_worth_60 : decode cX5_worth 60 = .ok (.getfield 19, 3) := by decide +kernel
theorem dX5_worth_63 : decode cX5_worth 63 = .ok (.aload_n 0, 1) := by decide +kernel
theorem dX5_worth_64 : decode cX5_worth 64 = .ok (.getfield 38, 3) := by decide +kernel
theorem dX5_worth_67 : decode cX5_worth 67 = .ok (.iload_n 2, 1) := by decide +kernel
theorem dX5_worth_68 : decode cX5_worth 68 = .ok (.iastore, 1) := by decide +kernel
theorem dX5_worth_69 : decode cX5_worth 69 = .ok (.iload_n 3, 1) := by decide +kernel
theorem dX5_worth_70 : decode cX5_worth 70 = .ok (.iload_n 1, 1) := by decide +kernel
theorem dX5_worth_71 : decode cX5_worth 71 = .ok (.if_icmp .le 9, 3) := by decide +kernel
theorem dX5_worth_74 : decode cX5_worth 74 = .ok (.iload_n 3, 1) := by decide +kernel
theorem dX5_worth_75 : decode cX5_worth 75 = .ok (.iload_n 1, 1) := by decide +kernel
theorem dX5_worth_76 : decode cX5_worth 76 = .ok (.isub, 1) := by decide +kernel
theorem dX5_worth_77 : decode cX5_worth 77 = .ok (.goto 4, 3) := by decide +kernel
theorem dX5_worth_80 : decode cX5_worth 80 = .ok (.iconst 0, 1) := by decide +kernel
theorem dX5_worth_81 : decode cX5_worth 81 = .ok (.ireturn, 1) := by decide +kernel
theorem dX5_who_0 : decode cX5_who 0 = .ok (.aload_n 0, 1) := by decide +kernel
theorem dX5_who_1 : decode cX5_who 1 = .ok (.iload_n 1, 1) := by decide +kernel
theorem dX5_who_2 : decode cX5_who 2 = .ok (.invokevirtual 158, 3) := by decide +kernel
theorem dX5_who_5 : decode cX5_who 5 = .ok (.ifCond .ne 9, 3) := by decide +kernel
theorem dX5_who_8 : decode cX5_who 8 = .ok (.aload_n 0, 1) := by decide +kernel
theorem dX5_who_9 : decode cX5_who 9 = .ok (.iconst (-1), 1) := by decide +kernel
theorem dX5_who_10 : decode cX5_who 10 = .ok (.invokevirtual 74, 3) := by decide +kernel
theorem dX5_who_13 : decode cX5_who 13 = .ok (.ireturn, 1) := by decide +kernel
theorem dX5_who_14 : decode cX5_who 14 = .ok (.bipush (-9), 2) := by decide +kernel
theorem dX5_who_16 : decode cX5_who 16 = .ok (.istore_n 2, 1) := by decide +kernel
theorem dX5_who_17 : decode cX5_who 17 = .ok (.ldc2_w 199, 3) := by decide +kernel
theorem dX5_who_20 : decode cX5_who 20 = .ok (.lstore_n 3, 1) := by decide +kernel
theorem dX5_who_21 : decode cX5_who 21 = .ok (.iconst 0, 1) := by decide +kernel
theorem dX5_who_22 : decode cX5_who 22 = .ok (.istore 5, 2) := by decide +kernel
theorem dX5_who_24 : decode cX5_who 24 = .ok (.iload 5, 2) := by decide +kernel
theorem dX5_who_26 : decode cX5_who 26 = .ok (.aload_n 0, 1) := by decide +kernel
theorem dX5_who_27 : decode cX5_who 27 = .ok (.getfield 61, 3) := by decide +kernel
theorem dX5_who_30 : decode cX5_who 30 = .ok (.if_icmp .ge 45, 3) := by decide +kernel
theorem dX5_who_33 : decode cX5_who 33 = .ok (.aload_n 0, 1) := by decide +kernel
theorem dX5_who_34 : decode cX5_who 34 = .ok (.getfield 38, 3) := by decide +kernel
theorem dX5_who_37 : decode cX5_who 37 = .ok (.ifCond .lt 38, 3) := by decide +kernel
theorem dX5_who_40 : decode cX5_who 40 = .ok (.aload_n 0, 1) := by decide +kernel
theorem dX5_who_41 : decode cX5_who 41 = .ok (.iload_n 1, 1) := by decide +kernel
theorem dX5_who_42 : decode cX5_who 42 = .ok (.aload_n 0, 1) := by decide +kernel
theorem dX5_who_43 : decode cX5_who 43 = .ok (.getfield 38, 3) := by decide +kernel
theorem dX5_who_46 : decode cX5_who 46 = .ok (.iload 5, 2) := by decide +kernel
theorem dX5_who_48 : decode cX5_who 48 = .ok (.invokevirtual 201, 3) := by decide +kernel
theorem dX5_who_51 : decode cX5_who 51 = .ok (.lstore 6, 2) := by decide +kernel
theorem dX5_who_53 : decode cX5_who 53 = .ok (.lload 6, 2) := by decide +kernel
theorem dX5_who_55 : decode cX5_who 55 = .ok (.lload_n 3, 1) := by decide +kernel
theorem dX5_who_56 : decode cX5_who 56 = .ok (.lcmp, 1) := by decide +kernel
theorem dX5_who_57 : decode cX5_who 57 = .ok (.ifCond .gt 6, 3) := by decide +kernel
theorem dX5_who_60 : decode cX5_who 60 = .ok (.goto 9, 3) := by decide +kernel
theorem dX5_who_63 : decode cX5_who 63 = .ok (.iload 5, 2) := by decide +kernel
theorem dX5_who_65 : decode cX5_who 65 = .ok (.istore_n 2, 1) := by decide +kernel
theorem dX5_who_66 : decode cX5_who 66 = .ok (.lload 6, 2) := by decide +kernel
theorem dX5_who_68 : decode cX5_who 68 = .ok (.lstore_n 3, 1) := by decide +kernel
theorem dX5_who_69 : decode cX5_who 69 = .ok (.iinc 5 1, 3) := by decide +kernel
theorem dX5_who_72 : decode cX5_who 72 = .ok (.goto (-48), 3) := by decide +kernel
theorem dX5_who_75 : decode cX5_who 75 = .ok (.iload_n 2, 1) := by decide +kernel
theorem dX5_who_76 : decode cX5_who 76 = .ok (.ireturn, 1) := by decide +kernel
theorem dX5_winds_0 : decode cX5_winds 0 = .ok (.aload_n 0, 1) := by decide +kernel
theorem dX5_winds_1 : decode cX5_winds 1 = .ok (.iload_n 1, 1) := by decide +kernel
theorem dX5_winds_2 : decode cX5_winds 2 = .ok (.iload_n 2, 1) := by decide +kernel
theorem dX5_winds_3 : decode cX5_winds 3 = .ok (.iload_n 3, 1) := by decide +kernel
theorem dX5_winds_4 : decode cX5_winds 4 = .ok (.invokevirtual 167, 3) := by decide +kernel
theorem dX5_winds_7 : decode cX5_winds 7 = .ok (.ifCond .ne 7, 3) := by decide +kernel
theorem dX5_winds_10 : decode cX5_winds 10 = .ok (.iconst (-1), 1) := by decide +kernel
theorem dX5_winds_11 : decode cX5_winds 11 = .ok (.goto 15, 3) := by decide +kernel
theorem dX5_winds_14 : decode cX5_winds 14 = .ok (.iload 4, 2) := by decide +kernel
theorem dX5_winds_16 : decode cX5_winds 16 = .ok (.iconst 0, 1) := by decide +kernel
theorem dX5_winds_17 : decode cX5_winds 17 = .ok (.aload_n 0, 1) := by decide +kernel
theorem dX5_winds_18 : decode cX5_winds 18 = .ok (.getfield 34, 3) := by decide +kernel
theorem dX5_winds_21 : decode cX5_winds 21 = .ok (.iconst 1, 1) := by decide +kernel
theorem dX5_winds_22 : decode cX5_winds 22 = .ok (.isub, 1) := by decide +kernel
theorem dX5_winds_23 : decode cX5_winds 23 = .ok (.invokestatic 67, 3) := by decide +kernel
theorem dX5_winds_26 : decode cX5_winds 26 = .ok (.istore 5, 2) := by decide +kernel
theorem dX5_winds_28 : decode cX5_winds 28 = .ok (.iload 5, 2) := by decide +kernel
theorem dX5_winds_30 : decode cX5_winds 30 = .ok (.ifCond .eq 10, 3) := by decide +kernel
theorem dX5_winds_33 : decode cX5_winds 33 = .ok (.aload_n 0, 1) := by decide +kernel
theorem dX5_winds_34 : decode cX5_winds 34 = .ok (.iload 5, 2) := by decide +kernel
theorem dX5_winds_36 : decode cX5_winds 36 = .ok (.invokevirtual 74, 3) := by decide +kernel
theorem dX5_winds_39 : decode cX5_winds 39 = .ok (.ireturn, 1) := by decide +kernel
theorem dX5_winds_40 : decode cX5_winds 40 = .ok (.aload_n 0, 1) := by decide +kernel
theorem dX5_winds_41 : decode cX5_winds 41 = .ok (.getfield 112, 3) := by decide +kernel
theorem dX5_winds_44 : decode cX5_winds 44 = .ok (.istore 6, 2) := by decide +kernel
theorem dX5_winds_46 : decode cX5_winds 46 = .ok (.iconst 0, 1) := by decide +kernel
theorem dX5_winds_47 : decode cX5_winds 47 = .ok (.istore 7, 2) := by decide +kernel
theorem dX5_winds_49 : decode cX5_winds 49 = .ok (.bipush (-3), 2) := by decide +kernel
theorem dX5_winds_51 : decode cX5_winds 51 = .ok (.istore 8, 2) := by decide +kernel
theorem dX5_winds_53 : decode cX5_winds 53 = .ok (.iload 8, 2) := by decide +kernel
theorem dX5_winds_55 : decode cX5_winds 55 = .ok (.iconst 4, 1) := by decide +kernel
theorem dX5_winds_56 : decode cX5_winds 56 = .ok (.if_icmp .ge 70, 3) := by decide +kernel
theorem dX5_winds_59 : decode cX5_winds 59 = .ok (.aload_n 0, 1) := by decide +kernel
theorem dX5_winds_60 : decode cX5_winds 60 = .ok (.iload 8, 2) := by decide +kernel
theorem dX5_winds_62 : decode cX5_winds 62 = .ok (.putfield 112, 3) := by decide +kernel
theorem dX5_winds_65 : decode cX5_winds 65 = .ok (.iload 4, 2) := by decide +kernel
theorem dX5_winds_67 : decode cX5_winds 67 = .ok (.aload_n 0, 1) := by decide +kernel
theorem dX5_winds_68 : decode cX5_winds 68 = .ok (.getfield 13, 3) := by decide +kernel
theorem dX5_winds_71 : decode cX5_winds 71 = .ok (.iload_n 3, 1) := by decide +kernel
theorem dX5_winds_72 : decode cX5_winds 72 = .ok (.iaload, 1) := by decide +kernel
theorem dX5_winds_73 : decode cX5_winds 73 = .ok (.isub, 1) := by decide +kernel
theorem dX5_winds_74 : decode cX5_winds 74 = .ok (.aload_n 0, 1) := by decide +kernel
theorem dX5_winds_75 : decode cX5_winds 75 = .ok (.iload_n 1, 1) := by decide +kernel
theorem dX5_winds_76 : decode cX5_winds 76 = .ok (.invokevirtual 161, 3) := by decide +kernel
theorem dX5_winds_79 : decode cX5_winds 79 = .ok (.isub, 1) := by decide +kernel
theorem dX5_winds_80 : decode cX5_winds 80 = .ok (.istore 9, 2) := by decide +kernel
theorem dX5_winds_82 : decode cX5_winds 82 = .ok (.iload 7, 2) := by decide +kernel
theorem dX5_winds_84 : decode cX5_winds 84 = .ok (.iload 9, 2) := by decide +kernel
theorem dX5_winds_86 : decode cX5_winds 86 = .ok (.ifCond .ge 9, 3) := by decide +kernel
theorem dX5_winds_89 : decode cX5_winds 89 = .ok (.iload 9, 2) := by decide +kernel
theorem dX5_winds_91 : decode cX5_winds 91 = .ok (.ineg, 1) := by decide +kernel
theorem dX5_winds_92 : decode cX5_winds 92 = .ok (.goto 5, 3) := by decide +kernel
theorem dX5_winds_95 : decode cX5_winds 95 = .ok (.iload 9, 2) := by decide +kernel
theorem dX5_winds_97 : decode cX5_winds 97 = .ok (.aload_n 0, 1) := by decide +kernel
theorem dX5_winds_98 : decode cX5_winds 98 = .ok (.iload_n 1, 1) := by decide +kernel
theorem dX5_winds_99 : decode cX5_winds 99 = .ok (.iload_n 2, 1) := by decide +kernel
theorem dX5_winds_100 : decode cX5_winds 100 = .ok (.iload_n 3, 1) := by decide +kernel
theorem dX5_winds_101 : decode cX5_winds 101 = .ok (.invokevirtual 170, 3) := by decide +kernel
theorem dX5_winds_104 : decode cX5_winds 104 = .ok (.if_icmp .gt 12, 3) := by decide +kernel
theorem dX5_winds_107 : decode cX5_winds 107 = .ok (.iconst 1, 1) := by decide +kernel
theorem dX5_winds_108 : decode cX5_winds 108 = .ok (.iload 8, 2) := by decide +kernel
theorem dX5_winds_110 : decode cX5_winds 110 = .ok (.iconst 3, 1) := by decide +kernel
theorem dX5_winds_111 : decode cX5_winds 111 = .ok (.iadd, 1) := by decide +kernel
theorem dX5_winds_112 : decode cX5_winds 112 = .ok (.ishl, 1) := by decide +kernel
theorem dX5_winds_113 : decode cX5_winds 113 = .ok (.goto 4, 3) := by decide +kernel
theorem dX5_winds_116 : decode cX5_winds 116 = .ok (.iconst 0, 1) := by decide +kernel
theorem dX5_winds_117 : decode cX5_winds 117 = .ok (.ior, 1) := by decide +kernel
theorem dX5_winds_118 : decode cX5_winds 118 = .ok (.istore 7, 2) := by decide +kernel
theorem dX5_winds_120 : decode cX5_winds 120 = .ok (.iinc 8 1, 3) := by decide +kernel
theorem dX5_winds_123 : decode cX5_winds 123 = .ok (.goto (-70), 3) := by decide +kernel
theorem dX5_winds_126 : decode cX5_winds 126 = .ok (.aload_n 0, 1) := by decide +kernel
theorem dX5_winds_127 : decode cX5_winds 127 = .ok (.iload 6, 2) := by decide +kernel
theorem dX5_winds_129 : decode cX5_winds 129 = .ok (.putfield 112, 3) := by decide +kernel
theorem dX5_winds_132 : decode cX5_winds 132 = .ok (.iload 7, 2) := by decide +kernel
theorem dX5_winds_134 : decode cX5_winds 134 = .ok (.ireturn, 1) := by decide +kernel
theorem dX5_triesLong_0 : decode cX5_triesLong 0 = .ok (.aload_n 0, 1) := by decide +kernel
theorem dX5_triesLong_1 : decode cX5_triesLong 1 = .ok (.iconst 1, 1) := by decide +kernel
theorem dX5_triesLong_2 : decode cX5_triesLong 2 = .ok (.iconst 1, 1) := by decide +kernel
theorem dX5_triesLong_3 : decode cX5_triesLong 3 = .ok (.invokevirtual 131, 3) := by decide +kernel
theorem dX5_triesLong_6 : decode cX5_triesLong 6 = .ok (.aload_n 0, 1) := by decide +kernel
theorem dX5_triesLong_7 : decode cX5_triesLong 7 = .ok (.getfield 38, 3) := by decide +kernel
theorem dX5_triesLong_10 : decode cX5_triesLong 10 = .ok (.istore_n 3, 1) := by decide +kernel
theorem dX5_triesLong_11 : decode cX5_triesLong 11 = .ok (.iconst 1, 1) := by decide +kernel
theorem dX5_triesLong_12 : decode cX5_triesLong 12 = .ok (.istore 4, 2) := by decide +kernel
theorem dX5_triesLong_14 : decode cX5_triesLong 14 = .ok (.iload_n 1, 1) := by decide +kernel
theorem dX5_triesLong_15 : decode cX5_triesLong 15 = .ok (.istore 5, 2) := by decide +kernel
theorem dX5_triesLong_17 : decode cX5_triesLong 17 = .ok (.iconst 0, 1) := by decide +kernel
theorem dX5_triesLong_18 : decode cX5_triesLong 18 = .ok (.istore 6, 2) := by decide +kernel
theorem dX5_triesLong_20 : decode cX5_triesLong 20 = .ok (.iload 6, 2) := by decide +kernel
theorem dX5_triesLong_22 : decode cX5_triesLong 22 = .ok (.iload_n 2, 1) := by decide +kernel
theorem dX5_triesLong_23 : decode cX5_triesLong 23 = .ok (.if_icmp .ge 38, 3) := by decide +kernel
theorem dX5_triesLong_26 : decode cX5_triesLong 26 = .ok (.iload 4, 2) := by decide +kernel
theorem dX5_triesLong_28 : decode cX5_triesLong 28 = .ok (.ifCond .eq 33, 3) := by decide +kernel
theorem dX5_triesLong_31 : decode cX5_triesLong 31 = .ok (.aload_n 0, 1) := by decide +kernel
theorem dX5_triesLong_32 : decode cX5_triesLong 32 = .ok (.iload 5, 2) := by decide +kernel
theorem dX5_triesLong_34 : decode cX5_triesLong 34 = .ok (.aload_n 0, 1) := by decide +kernel
theorem dX5_triesLong_35 : decode cX5_triesLong 35 = .ok (.getfield 64, 3) := by decide +kernel
theorem dX5_triesLong_38 : decode cX5_triesLong 38 = .ok (.irem, 1) := by decide +kernel
theorem dX5_triesLong_39 : decode cX5_triesLong 39 = .ok (.iload_n 3, 1) := by decide +kernel
theorem dX5_triesLong_40 : decode cX5_triesLong 40 = .ok (.iconst 0, 1) := by decide +kernel
theorem dX5_triesLong_41 : decode cX5_triesLong 41 = .ok (.invokevirtual 176, 3) := by decide +kernel
theorem dX5_triesLong_44 : decode cX5_triesLong 44 = .ok (.istore 4, 2) := by decide +kernel
theorem dX5_triesLong_46 : decode cX5_triesLong 46 = .ok (.iload 5, 2) := by decide +kernel
theorem dX5_triesLong_48 : decode cX5_triesLong 48 = .ok (.aload_n 0, 1) := by decide +kernel
theorem dX5_triesLong_49 : decode cX5_triesLong 49 = .ok (.getfield 64, 3) := by decide +kernel
theorem dX5_triesLong_52 : decode cX5_triesLong 52 = .ok (.idiv, 1) := by decide +kernel
theorem dX5_triesLong_53 : decode cX5_triesLong 53 = .ok (.istore 5, 2) := by decide +kernel
theorem dX5_triesLong_55 : decode cX5_triesLong 55 = .ok (.iinc 6 1, 3) := by decide +kernel
theorem dX5_triesLong_58 : decode cX5_triesLong 58 = .ok (.goto (-38), 3) := by decide +kernel
theorem dX5_triesLong_61 : decode cX5_triesLong 61 = .ok (.aload_n 0, 1) := by decide +kernel
theorem dX5_triesLong_62 : decode cX5_triesLong 62 = .ok (.getfield 22, 3) := by decide +kernel
theorem dX5_triesLong_65 : decode cX5_triesLong 65 = .ok (.iload_n 3, 1) := by decide +kernel
theorem dX5_triesLong_66 : decode cX5_triesLong 66 = .ok (.iaload, 1) := by decide +kernel
theorem dX5_triesLong_67 : decode cX5_triesLong 67 = .ok (.istore 6, 2) := by decide +kernel
theorem dX5_triesLong_69 : decode cX5_triesLong 69 = .ok (.aload_n 0, 1) := by decide +kernel
theorem dX5_triesLong_70 : decode cX5_triesLong 70 = .ok (.iconst 1, 1) := by decide +kernel
theorem dX5_triesLong_71 : decode cX5_triesLong 71 = .ok (.iconst 0, 1) := by decide +kernel
theorem dX5_triesLong_72 : decode cX5_triesLong 72 = .ok (.invokevirtual 131, 3) := by decide +kernel
theorem dX5_triesLong_75 : decode cX5_triesLong 75 = .ok (.iload 4, 2) := by decide +kernel
theorem dX5_triesLong_77 : decode cX5_triesLong 77 = .ok (.ifCond .ne 4, 3) := by decide +kernel
theorem dX5_triesLong_80 : decode cX5_triesLong 80 = .ok (.return_, 1) := by decide +kernel
theorem dX5_triesLong_81 : decode cX5_triesLong 81 = .ok (.aload_n 0, 1) := by decide +kernel
theorem dX5_triesLong_82 : decode cX5_triesLong 82 = .ok (.dup, 1) := by decide +kernel
theorem dX5_triesLong_83 : decode cX5_triesLong 83 = .ok (.getfield 232, 3) := by decide +kernel
theorem dX5_triesLong_86 : decode cX5_triesLong 86 = .ok (.iconst 1, 1) := by decide +kernel
theorem dX5_triesLong_87 : decode cX5_triesLong 87 = .ok (.iadd, 1) := by decide +kernel
theorem dX5_triesLong_88 : decode cX5_triesLong 88 = .ok (.putfield 232, 3) := by decide +kernel
theorem dX5_triesLong_91 : decode cX5_triesLong 91 = .ok (.aload_n 0, 1) := by decide +kernel
theorem dX5_triesLong_92 : decode cX5_triesLong 92 = .ok (.aload_n 0, 1) := by decide +kernel
theorem dX5_triesLong_93 : decode cX5_triesLong 93 = .ok (.getfield 235, 3) := by decide +kernel
theorem dX5_triesLong_96 : decode cX5_triesLong 96 = .ok (.ifCond .lt 12, 3) := by decide +kernel
theorem dX5_triesLong_99 : decode cX5_triesLong 99 = .ok (.iload 6, 2) := by decide +kernel
theorem dX5_triesLong_101 : decode cX5_triesLong 101 = .ok (.aload_n 0, 1) := by decide +kernel
theorem dX5_triesLong_102 : decode cX5_triesLong 102 = .ok (.getfield 235, 3) := by decide +kernel
theorem dX5_triesLong_105 : decode cX5_triesLong 105 = .ok (.if_icmp .ge 8, 3) := by decide +kernel
theorem dX5_triesLong_108 : decode cX5_triesLong 108 = .ok (.iload 6, 2) := by decide +kernel
theorem dX5_triesLong_110 : decode cX5_triesLong 110 = .ok (.goto 7, 3) := by decide +kernel
theorem dX5_triesLong_113 : decode cX5_triesLong 113 = .ok (.aload_n 0, 1) := by decide +kernel
theorem dX5_triesLong_114 : decode cX5_triesLong 114 = .ok (.getfield 235, 3) := by decide +kernel
theorem dX5_triesLong_117 : decode cX5_triesLong 117 = .ok (.putfield 235, 3) := by decide +kernel
theorem dX5_triesLong_120 : decode cX5_triesLong 120 = .ok (.return_, 1) := by decide +kernel
theorem dX5_longest_0 : decode cX5_longest 0 = .ok (.iload_n 1, 1) := by decide +kernel
theorem dX5_longest_1 : decode cX5_longest 1 = .ok (.iconst 1, 1) := by decide +kernel
theorem dX5_longest_2 : decode cX5_longest 2 = .ok (.iconst 3, 1) := by decide +kernel
theorem dX5_longest_3 : decode cX5_longest 3 = .ok (.invokestatic 67, 3) := by decide +kernel
theorem dX5_longest_6 : decode cX5_longest 6 = .ok (.istore_n 3, 1) := by decide +kernel
theorem dX5_longest_7 : decode cX5_longest 7 = .ok (.iload_n 3, 1) := by decide +kernel
theorem dX5_longest_8 : decode cX5_longest 8 = .ok (.ifCond .ne 31, 3) := by decide +kernel
theorem dX5_longest_11 : decode cX5_longest 11 = .ok (.iload_n 2, 1) := by decide +kernel
theorem dX5_longest_12 : decode cX5_longest 12 = .ok (.iconst 0, 1) := by decide +kernel
theorem dX5_longest_13 : decode cX5_longest 13 = .ok (.iconst 1, 1) := by decide +kernel
theorem dX5_longest_14 : decode cX5_longest 14 = .ok (.invokestatic 85, 3) := by decide +kernel
theorem dX5_longest_17 : decode cX5_longest 17 = .ok (.ifCond .ne 8, 3) := by decide +kernel
theorem dX5_longest_20 : decode cX5_longest 20 = .ok (.bipush (-2), 2) := by decide +kernel
theorem dX5_longest_22 : decode cX5_longest 22 = .ok (.goto 16, 3) := by decide +kernel
theorem dX5_longest_25 : decode cX5_longest 25 = .ok (.aload_n 0, 1) := by decide +kernel
theorem dX5_longest_26 : decode cX5_longest 26 = .ok (.getfield 38, 3) := by decide +kernel
theorem dX5_longest_29 : decode cX5_longest 29 = .ok (.ifCond .ge 8, 3) := by decide +kernel
theorem dX5_longest_32 : decode cX5_longest 32 = .ok (.bipush (-3), 2) := by decide +kernel
theorem dX5_longest_34 : decode cX5_longest 34 = .ok (.goto 4, 3) := by decide +kernel
theorem dX5_longest_37 : decode cX5_longest 37 = .ok (.iconst 0, 1) := by decide +kernel
theorem dX5_longest_38 : decode cX5_longest 38 = .ok (.istore_n 3, 1) := by decide +kernel
theorem dX5_longest_39 : decode cX5_longest 39 = .ok (.iload_n 3, 1) := by decide +kernel
theorem dX5_longest_40 : decode cX5_longest 40 = .ok (.ifCond .eq 9, 3) := by decide +kernel
theorem dX5_longest_43 : decode cX5_longest 43 = .ok (.aload_n 0, 1) := by decide +kernel
theorem dX5_longest_44 : decode cX5_longest 44 = .ok (.iload_n 3, 1) := by decide +kernel
theorem dX5_longest_45 : decode cX5_longest 45 = .ok (.invokevirtual 74, 3) := by decide +kernel
theorem dX5_longest_48 : decode cX5_longest 48 = .ok (.ireturn, 1) := by decide +kernel
theorem dX5_longest_49 : decode cX5_longest 49 = .ok (.aload_n 0, 1) := by decide +kernel
theorem dX5_longest_50 : decode cX5_longest 50 = .ok (.iconst 0, 1) := by decide +kernel
theorem dX5_longest_51 : decode cX5_longest 51 = .ok (.putfield 232, 3) := by decide +kernel
theorem dX5_longest_54 : decode cX5_longest 54 = .ok (.aload_n 0, 1) := by decide +kernel
theorem dX5_longest_55 : decode cX5_longest 55 = .ok (.bipush (-9), 2) := by decide +kernel
theorem dX5_longest_57 : decode cX5_longest 57 = .ok (.putfield 235, 3) := by decide +kernel
theorem dX5_longest_60 : decode cX5_longest 60 = .ok (.iconst 1, 1) := by decide +kernel
theorem dX5_longest_61 : decode cX5_longest 61 = .ok (.istore 4, 2) := by decide +kernel
theorem dX5_longest_63 : decode cX5_longest 63 = .ok (.iconst 0, 1) := by decide +kernel
theorem dX5_longest_64 : decode cX5_longest 64 = .ok (.istore 5, 2) := by decide +kernel
theorem dX5_longest_66 : decode cX5_longest 66 = .ok (.iload 5, 2) := by decide +kernel
theorem dX5_longest_68 : decode cX5_longest 68 = .ok (.iload_n 1, 1) := by decide +kernel
theorem dX5_longest_69 : decode cX5_longest 69 = .ok (.if_icmp .ge 18, 3) := by decide +kernel
theorem dX5_longest_72 : decode cX5_longest 72 = .ok (.iload 4, 2) := by decide +kernel
theorem dX5_longest_74 : decode cX5_longest 74 = .ok (.aload_n 0, 1) := by decide +kernel
theorem dX5_longest_75 : decode cX5_longest 75 = .ok (.getfield 64, 3) := by decide +kernel
theorem dX5_longest_78 : decode cX5_longest 78 = .ok (.imul, 1) := by decide +kernel
theorem dX5_longest_79 : decode cX5_longest 79 = .ok (.istore 4, 2) := by decide +kernel
theorem dX5_longest_81 : decode cX5_longest 81 = .ok (.iinc 5 1, 3) := by decide +kernel
theorem dX5_longest_84 : decode cX5_longest 84 = .ok (.goto (-18), 3) := by decide +kernel
theorem dX5_longest_87 : decode cX5_longest 87 = .ok (.iconst 0, 1) := by decide +kernel
theorem dX5_longest_88 : decode cX5_longest 88 = .ok (.istore 5, 2) := by decide +kernel
theorem dX5_longest_90 : decode cX5_longest 90 = .ok (.iload 5, 2) := by decide +kernel
theorem dX5_longest_92 : decode cX5_longest 92 = .ok (.iload 4, 2) := by decide +kernel
theorem dX5_longest_94 : decode cX5_longest 94 = .ok (.if_icmp .ge 16, 3) := by decide +kernel
theorem dX5_longest_97 : decode cX5_longest 97 = .ok (.aload_n 0, 1) := by decide +kernel
theorem dX5_longest_98 : decode cX5_longest 98 = .ok (.iload 5, 2) := by decide +kernel
theorem dX5_longest_100 : decode cX5_longest 100 = .ok (.iload_n 1, 1) := by decide +kernel
theorem dX5_longest_101 : decode cX5_longest 101 = .ok (.invokevirtual 238, 3) := by decide +kernel
theorem dX5_longest_104 : decode cX5_longest 104 = .ok (.iinc 5 1, 3) := by decide +kernel
theorem dX5_longest_107 : decode cX5_longest 107 = .ok (.goto (-17), 3) := by decide +kernel
theorem dX5_longest_110 : decode cX5_longest 110 = .ok (.iload_n 2, 1) := by decide +kernel
theorem dX5_longest_111 : decode cX5_longest 111 = .ok (.ifCond .ne 10, 3) := by decide +kernel
theorem dX5_longest_114 : decode cX5_longest 114 = .ok (.aload_n 0, 1) := by decide +kernel
theorem dX5_longest_115 : decode cX5_longest 115 = .ok (.getfield 232, 3) := by decide +kernel
theorem dX5_longest_118 : decode cX5_longest 118 = .ok (.goto 7, 3) := by decide +kernel
theorem dX5_longest_121 : decode cX5_longest 121 = .ok (.aload_n 0, 1) := by decide +kernel
theorem dX5_longest_122 : decode cX5_longest 122 = .ok (.getfield 235, 3) := by decide +kernel
theorem dX5_longest_125 : decode cX5_longest 125 = .ok (.ireturn, 1) := by decide +kernel
theorem dX5_row_0 : decode cX5_row 0 = .ok (.iload_n 1, 1) := by decide +kernel
theorem dX5_row_1 : decode cX5_row 1 = .ok (.iconst 0, 1) := by decide +kernel
theorem dX5_row_2 : decode cX5_row 2 = .ok (.sipush 999, 3) := by decide +kernel
theorem dX5_row_5 : decode cX5_row 5 = .ok (.invokestatic 67, 3) := by decide +kernel
theorem dX5_row_8 : decode cX5_row 8 = .ok (.istore_n 2, 1) := by decide +kernel
theorem dX5_row_9 : decode cX5_row 9 = .ok (.iload_n 2, 1) := by decide +kernel
theorem dX5_row_10 : decode cX5_row 10 = .ok (.ifCond .ne 15, 3) := by decide +kernel
theorem dX5_row_13 : decode cX5_row 13 = .ok (.aload_n 0, 1) := by decide +kernel
theorem dX5_row_14 : decode cX5_row 14 = .ok (.getfield 241, 3) := by decide +kernel
theorem dX5_row_17 : decode cX5_row 17 = .ok (.bipush 8, 2) := by decide +kernel
theorem dX5_row_19 : decode cX5_row 19 = .ok (.if_icmp .ne 6, 3) := by decide +kernel
theorem dX5_row_22 : decode cX5_row 22 = .ok (.bipush (-6), 2) := by decide +kernel
theorem dX5_row_24 : decode cX5_row 24 = .ok (.istore_n 2, 1) := by decide +kernel
theorem dX5_row_25 : decode cX5_row 25 = .ok (.iload_n 2, 1) := by decide +kernel
theorem dX5_row_26 : decode cX5_row 26 = .ok (.ifCond .eq 9, 3) := by decide +kernel
theorem dX5_row_29 : decode cX5_row 29 = .ok (.aload_n 0, 1) := by decide +kernel
theorem dX5_row_30 : decode cX5_row 30 = .ok (.iload_n 2, 1) := by decide +kernel
theorem dX5_row_31 : decode cX5_row 31 = .ok (.invokevirtual 74, 3) := by decide +kernel
theorem dX5_row_34 : decode cX5_row 34 = .ok (.ireturn, 1) := by decide +kernel
theorem dX5_row_35 : decode cX5_row 35 = .ok (.aload_n 0, 1) := by decide +kernel
theorem dX5_row_36 : decode cX5_row 36 = .ok (.getfield 56, 3) := by decide +kernel
theorem dX5_row_39 : decode cX5_row 39 = .ok (.aload_n 0, 1) := by decide +kernel
theorem dX5_row_40 : decode cX5_row 40 = .ok (.getfield 241, 3) := by decide +kernel
theorem dX5_row_43 : decode cX5_row 43 = .ok (.iload_n 1, 1) := by decide +kernel
theorem dX5_row_44 : decode cX5_row 44 = .ok (.iastore, 1) := by decide +kernel
theorem dX5_row_45 : decode cX5_row 45 = .ok (.aload_n 0, 1) := by decide +kernel
theorem dX5_row_46 : decode cX5_row 46 = .ok (.dup, 1) := by decide +kernel
theorem dX5_row_47 : decode cX5_row 47 = .ok (.getfield 241, 3) := by decide +kernel
theorem dX5_row_50 : decode cX5_row 50 = .ok (.iconst 1, 1) := by decide +kernel
theorem dX5_row_51 : decode cX5_row 51 = .ok (.iadd, 1) := by decide +kernel
theorem dX5_row_52 : decode cX5_row 52 = .ok (.putfield 241, 3) := by decide +kernel
theorem dX5_row_55 : decode cX5_row 55 = .ok (.aload_n 0, 1) := by decide +kernel
theorem dX5_row_56 : decode cX5_row 56 = .ok (.getfield 241, 3) := by decide +kernel
theorem dX5_row_59 : decode cX5_row 59 = .ok (.ireturn, 1) := by decide +kernel
theorem dX5_isKept_0 : decode cX5_isKept 0 = .ok (.iload_n 1, 1) := by decide +kernel
theorem dX5_isKept_1 : decode cX5_isKept 1 = .ok (.bipush 100, 2) := by decide +kernel
theorem dX5_isKept_3 : decode cX5_isKept 3 = .ok (.idiv, 1) := by decide +kernel
theorem dX5_isKept_4 : decode cX5_isKept 4 = .ok (.istore_n 2, 1) := by decide +kernel
theorem dX5_isKept_5 : decode cX5_isKept 5 = .ok (.iload_n 1, 1) := by decide +kernel
theorem dX5_isKept_6 : decode cX5_isKept 6 = .ok (.bipush 10, 2) := by decide +kernel
theorem dX5_isKept_8 : decode cX5_isKept 8 = .ok (.idiv, 1) := by decide +kernel
theorem dX5_isKept_9 : decode cX5_isKept 9 = .ok (.bipush 10, 2) := by decide +kernel
theorem dX5_isKept_11 : decode cX5_isKept 11 = .ok (.irem, 1) := by decide +kernel
theorem dX5_isKept_12 : decode cX5_isKept 12 = .ok (.istore_n 3, 1) := by decide +kernel
theorem dX5_isKept_13 : decode cX5_isKept 13 = .ok (.iload_n 1, 1) := by decide +kernel
theorem dX5_isKept_14 : decode cX5_isKept 14 = .ok (.bipush 10, 2) := by decide +kernel
theorem dX5_isKept_16 : decode cX5_isKept 16 = .ok (.irem, 1) := by decide +kernel
theorem dX5_isKept_17 : decode cX5_isKept 17 = .ok (.iconst 4, 1) := by decide +kernel
theorem dX5_isKept_18 : decode cX5_isKept 18 = .ok (.isub, 1) := by decide +kernel
theorem dX5_isKept_19 : decode cX5_isKept 19 = .ok (.istore 4, 2) := by decide +kernel
theorem dX5_isKept_21 : decode cX5_isKept 21 = .ok (.iload 4, 2) := by decide +kernel
theorem dX5_isKept_23 : decode cX5_isKept 23 = .ok (.iconst 4, 1) := by decide +kernel
theorem dX5_isKept_24 : decode cX5_isKept 24 = .ok (.if_icmp .gt 52, 3) := by decide +kernel
theorem dX5_isKept_27 : decode cX5_isKept 27 = .ok (.aload_n 0, 1) := by decide +kernel
theorem dX5_isKept_28 : decode cX5_isKept 28 = .ok (.iload_n 2, 1) := by decide +kernel
theorem dX5_isKept_29 : decode cX5_isKept 29 = .ok (.invokevirtual 158, 3) := by decide +kernel
theorem dX5_isKept_32 : decode cX5_isKept 32 = .ok (.ifCond .eq 44, 3) := by decide +kernel
theorem dX5_isKept_35 : decode cX5_isKept 35 = .ok (.aload_n 0, 1) := by decide +kernel
theorem dX5_isKept_36 : decode cX5_isKept 36 = .ok (.iload_n 3, 1) := by decide +kernel
theorem dX5_isKept_37 : decode cX5_isKept 37 = .ok (.invokevirtual 124, 3) := by decide +kernel
theorem dX5_isKept_40 : decode cX5_isKept 40 = .ok (.ifCond .eq 36, 3) := by decide +kernel
theorem dX5_isKept_43 : decode cX5_isKept 43 = .ok (.aload_n 0, 1) := by decide +kernel
theorem dX5_isKept_44 : decode cX5_isKept 44 = .ok (.getfield 38, 3) := by decide +kernel
theorem dX5_isKept_47 : decode cX5_isKept 47 = .ok (.ifCond .lt 29, 3) := by decide +kernel
theorem dX5_isKept_50 : decode cX5_isKept 50 = .ok (.iload 4, 2) := by decide +kernel
theorem dX5_isKept_52 : decode cX5_isKept 52 = .ok (.ifCond .ge 9, 3) := by decide +kernel
theorem dX5_isKept_55 : decode cX5_isKept 55 = .ok (.iload 4, 2) := by decide +kernel
theorem dX5_isKept_57 : decode cX5_isKept 57 = .ok (.ineg, 1) := by decide +kernel
theorem dX5_isKept_58 : decode cX5_isKept 58 = .ok (.goto 5, 3) := by decide +kernel
theorem dX5_isKept_61 : decode cX5_isKept 61 = .ok (.iload 4, 2) := by decide +kernel
theorem dX5_isKept_63 : decode cX5_isKept 63 = .ok (.aload_n 0, 1) := by decide +kernel
theorem dX5_isKept_64 : decode cX5_isKept 64 = .ok (.iload_n 2, 1) := by decide +kernel
theorem dX5_isKept_65 : decode cX5_isKept 65 = .ok (.aload_n 0, 1) := by decide +kernel
theorem dX5_isKept_66 : decode cX5_isKept 66 = .ok (.getfield 38, 3) := by decide +kernel
theorem dX5_isKept_69 : decode cX5_isKept 69 = .ok (.iload_n 3, 1) := by decide +kernel
theorem dX5_isKept_70 : decode cX5_isKept 70 = .ok (.invokevirtual 170, 3) := by decide +kernel
theorem dX5_isKept_73 : decode cX5_isKept 73 = .ok (.if_icmp .le 5, 3) := by decide +kernel
theorem dX5_isKept_76 : decode cX5_isKept 76 = .ok (.iconst 0, 1) := by decide +kernel
theorem dX5_isKept_77 : decode cX5_isKept 77 = .ok (.ireturn, 1) := by decide +kernel
theorem dX5_isKept_78 : decode cX5_isKept 78 = .ok (.aload_n 0, 1) := by decide +kernel
theorem dX5_isKept_79 : decode cX5_isKept 79 = .ok (.iload_n 2, 1) := by decide +kernel
theorem dX5_isKept_80 : decode cX5_isKept 80 = .ok (.iload_n 3, 1) := by decide +kernel
theorem dX5_isKept_81 : decode cX5_isKept 81 = .ok (.iload 4, 2) := by decide +kernel
theorem dX5_isKept_83 : decode cX5_isKept 83 = .ok (.invokevirtual 176, 3) := by decide +kernel
theorem dX5_isKept_86 : decode cX5_isKept 86 = .ok (.ireturn, 1) := by decide +kernel
theorem dX5_judge_0 : decode cX5_judge 0 = .ok (.aload_n 0, 1) := by decide +kernel
theorem dX5_judge_1 : decode cX5_judge 1 = .ok (.getfield 241, 3) := by decide +kernel
theorem dX5_judge_4 : decode cX5_judge 4 = .ok (.istore_n 1, 1) := by decide +kernel
theorem dX5_judge_5 : decode cX5_judge 5 = .ok (.aload_n 0, 1) := by decide +kernel
theorem dX5_judge_6 : decode cX5_judge 6 = .ok (.iconst 0, 1) := by decide +kernel
theorem dX5_judge_7 : decode cX5_judge 7 = .ok (.putfield 241, 3) := by decide +kernel
theorem dX5_judge_10 : decode cX5_judge 10 = .ok (.aload_n 0, 1) := by decide +kernel
theorem dX5_judge_11 : decode cX5_judge 11 = .ok (.iconst 1, 1) := by decide +kernel
theorem dX5_judge_12 : decode cX5_judge 12 = .ok (.iconst 1, 1) := by decide +kernel
theorem dX5_judge_13 : decode cX5_judge 13 = .ok (.invokevirtual 131, 3) := by decide +kernel
theorem dX5_judge_16 : decode cX5_judge 16 = .ok (.bipush (-9), 2) := by decide +kernel
theorem dX5_judge_18 : decode cX5_judge 18 = .ok (.istore_n 2, 1) := by decide +kernel
theorem dX5_judge_19 : decode cX5_judge 19 = .ok (.iconst 0, 1) := by decide +kernel
theorem dX5_judge_20 : decode cX5_judge 20 = .ok (.istore_n 3, 1) := by decide +kernel
theorem dX5_judge_21 : decode cX5_judge 21 = .ok (.iload_n 3, 1) := by decide +kernel
theorem dX5_judge_22 : decode cX5_judge 22 = .ok (.iload_n 1, 1) := by decide +kernel
theorem dX5_judge_23 : decode cX5_judge 23 = .ok (.if_icmp .ge 28, 3) := by decide +kernel
theorem dX5_judge_26 : decode cX5_judge 26 = .ok (.iload_n 2, 1) := by decide +kernel
theorem dX5_judge_27 : decode cX5_judge 27 = .ok (.ifCond .ge 24, 3) := by decide +kernel
theorem dX5_judge_30 : decode cX5_judge 30 = .ok (.aload_n 0, 1) := by decide +kernel
theorem dX5_judge_31 : decode cX5_judge 31 = .ok (.aload_n 0, 1) := by decide +kernel
theorem dX5_judge_32 : decode cX5_judge 32 = .ok (.getfield 56, 3) := by decide +kernel
theorem dX5_judge_35 : decode cX5_judge 35 = .ok (.iload_n 3, 1) := by decide +kernel
theorem dX5_judge_36 : decode cX5_judge 36 = .ok (.iaload, 1) := by decide +kernel
theorem dX5_judge_37 : decode cX5_judge 37 = .ok (.invokevirtual 244, 3) := by decide +kernel
theorem dX5_judge_40 : decode cX5_judge 40 = .ok (.ifCond .ne 5, 3) := by decide +kernel
theorem dX5_judge_43 : decode cX5_judge 43 = .ok (.iload_n 3, 1) := by decide +kernel
theorem dX5_judge_44 : decode cX5_judge 44 = .ok (.istore_n 2, 1) := by decide +kernel
theorem dX5_judge_45 : decode cX5_judge 45 = .ok (.iinc 3 1, 3) := by decide +kernel
theorem dX5_judge_48 : decode cX5_judge 48 = .ok (.goto (-27), 3) := by decide +kernel
theorem dX5_judge_51 : decode cX5_judge 51 = .ok (.aload_n 0, 1) := by decide +kernel
theorem dX5_judge_52 : decode cX5_judge 52 = .ok (.iconst 1, 1) := by decide +kernel
theorem dX5_judge_53 : decode cX5_judge 53 = .ok (.iconst 0, 1) := by decide +kernel
theorem dX5_judge_54 : decode cX5_judge 54 = .ok (.invokevirtual 131, 3) := by decide +kernel
theorem dX5_judge_57 : decode cX5_judge 57 = .ok (.iload_n 2, 1) := by decide +kernel
theorem dX5_judge_58 : decode cX5_judge 58 = .ok (.ireturn, 1) := by decide +kernel
theorem dX5_draw_0 : decode cX5_draw 0 = .ok (.aload_n 0, 1) := by decide +kernel
theorem dX5_draw_1 : decode cX5_draw 1 = .ok (.aload_n 0, 1) := by decide +kernel
theorem dX5_draw_2 : decode cX5_draw 2 = .ok (.getfield 247, 3) := by decide +kernel
theorem dX5_draw_5 : decode cX5_draw 5 = .ok (.ldc 250, 2) := by decide +kernel
theorem dX5_draw_7 : decode cX5_draw 7 = .ok (.imul, 1) := by decide +kernel
theorem dX5_draw_8 : decode cX5_draw 8 = .ok (.sipush 12345, 3) := by decide +kernel
theorem dX5_draw_11 : decode cX5_draw 11 = .ok (.iadd, 1) := by decide +kernel
theorem dX5_draw_12 : decode cX5_draw 12 = .ok (.putfield 247, 3) := by decide +kernel
theorem dX5_draw_15 : decode cX5_draw 15 = .ok (.aload_n 0, 1) := by decide +kernel
theorem dX5_draw_16 : decode cX5_draw 16 = .ok (.getfield 247, 3) := by decide +kernel
theorem dX5_draw_19 : decode cX5_draw 19 = .ok (.ldc 251, 2) := by decide +kernel
theorem dX5_draw_21 : decode cX5_draw 21 = .ok (.iand, 1) := by decide +kernel
theorem dX5_draw_22 : decode cX5_draw 22 = .ok (.ldc 252, 2) := by decide +kernel
theorem dX5_draw_24 : decode cX5_draw 24 = .ok (.idiv, 1) := by decide +kernel
theorem dX5_draw_25 : decode cX5_draw 25 = .ok (.iload_n 1, 1) := by decide +kernel
theorem dX5_draw_26 : decode cX5_draw 26 = .ok (.irem, 1) := by decide +kernel
theorem dX5_draw_27 : decode cX5_draw 27 = .ok (.ireturn, 1) := by decide +kernel
theorem dX5_seeds_0 : decode cX5_seeds 0 = .ok (.iload_n 1, 1) := by decide +kernel
theorem dX5_seeds_1 : decode cX5_seeds 1 = .ok (.iconst 1, 1) := by decide +kernel
theorem dX5_seeds_2 : decode cX5_seeds 2 = .ok (.bipush 40, 2) := by decide +kernel
theorem dX5_seeds_4 : decode cX5_seeds 4 = .ok (.invokestatic 67, 3) := by decide +kernel
theorem dX5_seeds_7 : decode cX5_seeds 7 = .ok (.istore_n 3, 1) := by decide +kernel
theorem dX5_seeds_8 : decode cX5_seeds 8 = .ok (.iload_n 3, 1) := by decide +kernel
theorem dX5_seeds_9 : decode cX5_seeds 9 = .ok (.ifCond .ne 13, 3) := by decide +kernel
theorem dX5_seeds_12 : decode cX5_seeds 12 = .ok (.aload_n 0, 1) := by decide +kernel
theorem dX5_seeds_13 : decode cX5_seeds 13 = .ok (.invokevirtual 205, 3) := by decide +kernel
theorem dX5_seeds_16 : decode cX5_seeds 16 = .ok (.ifCond .ne 6, 3) := by decide +kernel
theorem dX5_seeds_19 : decode cX5_seeds 19 = .ok (.bipush (-3), 2) := by decide +kernel
theorem dX5_seeds_21 : decode cX5_seeds 21 = .ok (.istore_n 3, 1) := by decide +kernel
theorem dX5_seeds_22 : decode cX5_seeds 22 = .ok (.iload_n 3, 1) := by decide +kernel
theorem dX5_seeds_23 : decode cX5_seeds 23 = .ok (.ifCond .eq 9, 3) := by decide +kernel
theorem dX5_seeds_26 : decode cX5_seeds 26 = .ok (.aload_n 0, 1) := by decide +kernel
theorem dX5_seeds_27 : decode cX5_seeds 27 = .ok (.iload_n 3, 1) := by decide +kernel
theorem dX5_seeds_28 : decode cX5_seeds 28 = .ok (.invokevirtual 74, 3) := by decide +kernel
theorem dX5_seeds_31 : decode cX5_seeds 31 = .ok (.ireturn, 1) := by decide +kernel
theorem dX5_seeds_32 : decode cX5_seeds 32 = .ok (.aload_n 0, 1) := by decide +kernel
theorem dX5_seeds_33 : decode cX5_seeds 33 = .ok (.iconst 1, 1) := by decide +kernel
theorem dX5_seeds_34 : decode cX5_seeds 34 = .ok (.iconst 1, 1) := by decide +kernel
theorem dX5_seeds_35 : decode cX5_seeds 35 = .ok (.invokevirtual 131, 3) := by decide +kernel
theorem dX5_seeds_38 : decode cX5_seeds 38 = .ok (.aload_n 0, 1) := by decide +kernel
theorem dX5_seeds_39 : decode cX5_seeds 39 = .ok (.iload_n 2, 1) := by decide +kernel
theorem dX5_seeds_40 : decode cX5_seeds 40 = .ok (.putfield 247, 3) := by decide +kernel
theorem dX5_seeds_43 : decode cX5_seeds 43 = .ok (.iconst 0, 1) := by decide +kernel
theorem dX5_seeds_44 : decode cX5_seeds 44 = .ok (.istore 4, 2) := by decide +kernel
theorem dX5_seeds_46 : decode cX5_seeds 46 = .ok (.iconst 0, 1) := by decide +kernel
theorem dX5_seeds_47 : decode cX5_seeds 47 = .ok (.istore 5, 2) := by decide +kernel
theorem dX5_seeds_49 : decode cX5_seeds 49 = .ok (.iload 5, 2) := by decide +kernel
theorem dX5_seeds_51 : decode cX5_seeds 51 = .ok (.iload_n 1, 1) := by decide +kernel
theorem dX5_seeds_52 : decode cX5_seeds 52 = .ok (.if_icmp .ge 90, 3) := by decide +kernel
theorem dX5_seeds_55 : decode cX5_seeds 55 = .ok (.aload_n 0, 1) := by decide +kernel
theorem dX5_seeds_56 : decode cX5_seeds 56 = .ok (.getfield 38, 3) := by decide +kernel
theorem dX5_seeds_59 : decode cX5_seeds 59 = .ok (.ifCond .lt 83, 3) := by decide +kernel
theorem dX5_seeds_62 : decode cX5_seeds 62 = .ok (.aload_n 0, 1) := by decide +kernel
theorem dX5_seeds_63 : decode cX5_seeds 63 = .ok (.aload_n 0, 1) := by decide +kernel
theorem dX5_seeds_64 : decode cX5_seeds 64 = .ok (.getfield 64, 3) := by decide +kernel
theorem dX5_seeds_67 : decode cX5_seeds 67 = .ok (.invokevirtual 253, 3) := by decide +kernel
theorem dX5_seeds_70 : decode cX5_seeds 70 = .ok (.istore 6, 2) := by decide +kernel
theorem dX5_seeds_72 : decode cX5_seeds 72 = .ok (.aload_n 0, 1) := by decide +kernel
theorem dX5_seeds_73 : decode cX5_seeds 73 = .ok (.aload_n 0, 1) := by decide +kernel
theorem dX5_seeds_74 : decode cX5_seeds 74 = .ok (.getfield 61, 3) := by decide +kernel
theorem dX5_seeds_77 : decode cX5_seeds 77 = .ok (.invokevirtual 253, 3) := by decide +kernel
theorem dX5_seeds_80 : decode cX5_seeds 80 = .ok (.istore 7, 2) := by decide +kernel
theorem dX5_seeds_82 : decode cX5_seeds 82 = .ok (.aload_n 0, 1) := by decide +kernel
theorem dX5_seeds_83 : decode cX5_seeds 83 = .ok (.aload_n 0, 1) := by decide +kernel
theorem dX5_seeds_84 : decode cX5_seeds 84 = .ok (.iload 6, 2) := by decide +kernel
theorem dX5_seeds_86 : decode cX5_seeds 86 = .ok (.aload_n 0, 1) := by decide +kernel
theorem dX5_seeds_87 : decode cX5_seeds 87 = .ok (.getfield 38, 3) := by decide +kernel
theorem dX5_seeds_90 : decode cX5_seeds 90 = .ok (.iload 7, 2) := by decide +kernel
theorem dX5_seeds_92 : decode cX5_seeds 92 = .ok (.invokevirtual 181, 3) := by decide +kernel
theorem dX5_seeds_95 : decode cX5_seeds 95 = .ok (.invokevirtual 253, 3) := by decide +kernel
theorem dX5_seeds_98 : decode cX5_seeds 98 = .ok (.aload_n 0, 1) := by decide +kernel
theorem dX5_seeds_99 : decode cX5_seeds 99 = .ok (.iload 6, 2) := by decide +kernel
theorem dX5_seeds_101 : decode cX5_seeds 101 = .ok (.aload_n 0, 1) := by decide +kernel
theorem dX5_seeds_102 : decode cX5_seeds 102 = .ok (.getfield 38, 3) := by decide +kernel
theorem dX5_seeds_105 : decode cX5_seeds 105 = .ok (.iload 7, 2) := by decide +kernel
theorem dX5_seeds_107 : decode cX5_seeds 107 = .ok (.invokevirtual 170, 3) := by decide +kernel
theorem dX5_seeds_110 : decode cX5_seeds 110 = .ok (.isub, 1) := by decide +kernel
theorem dX5_seeds_111 : decode cX5_seeds 111 = .ok (.istore 8, 2) := by decide +kernel
theorem dX5_seeds_113 : decode cX5_seeds 113 = .ok (.iload 4, 2) := by decide +kernel
theorem dX5_seeds_115 : decode cX5_seeds 115 = .ok (.aload_n 0, 1) := by decide +kernel
theorem dX5_seeds_116 : decode cX5_seeds 116 = .ok (.iload 6, 2) := by decide +kernel
theorem dX5_seeds_118 : decode cX5_seeds 118 = .ok (.iload 7, 2) := by decide +kernel
theorem dX5_seeds_120 : decode cX5_seeds 120 = .ok (.iload 8, 2) := by decide +kernel
theorem dX5_seeds_122 : decode cX5_seeds 122 = .ok (.invokevirtual 176, 3) := by decide +kernel
theorem dX5_seeds_125 : decode cX5_seeds 125 = .ok (.ifCond .eq 7, 3) := by decide +kernel
theorem dX5_seeds_128 : decode cX5_seeds 128 = .ok (.iconst 1, 1) := by decide +kernel
theorem dX5_seeds_129 : decode cX5_seeds 129 = .ok (.goto 4, 3) := by decide +kernel
theorem dX5_seeds_132 : decode cX5_seeds 132 = .ok (.iconst 0, 1) := by decide +kernel
theorem dX5_seeds_133 : decode cX5_seeds 133 = .ok (.iadd, 1) := by decide +kernel
theorem dX5_seeds_134 : decode cX5_seeds 134 = .ok (.istore 4, 2) := by decide +kernel
theorem dX5_seeds_136 : decode cX5_seeds 136 = .ok (.iinc 5 1, 3) := by decide +kernel
theorem dX5_seeds_139 : decode cX5_seeds 139 = .ok (.goto (-90), 3) := by decide +kernel
theorem dX5_seeds_142 : decode cX5_seeds 142 = .ok (.aload_n 0, 1) := by decide +kernel
theorem dX5_seeds_143 : decode cX5_seeds 143 = .ok (.getfield 38, 3) := by decide +kernel
theorem dX5_seeds_146 : decode cX5_seeds 146 = .ok (.ifCond .ge 8, 3) := by decide +kernel
theorem dX5_seeds_149 : decode cX5_seeds 149 = .ok (.iload 4, 2) := by decide +kernel
theorem dX5_seeds_151 : decode cX5_seeds 151 = .ok (.goto 7, 3) := by decide +kernel
theorem dX5_seeds_154 : decode cX5_seeds 154 = .ok (.aload_n 0, 1) := by decide +kernel
theorem dX5_seeds_155 : decode cX5_seeds 155 = .ok (.getfield 121, 3) := by decide +kernel
theorem dX5_seeds_158 : decode cX5_seeds 158 = .ok (.istore 5, 2) := by decide +kernel
theorem dX5_seeds_160 : decode cX5_seeds 160 = .ok (.aload_n 0, 1) := by decide +kernel
theorem dX5_seeds_161 : decode cX5_seeds 161 = .ok (.iconst 1, 1) := by decide +kernel
theorem dX5_seeds_162 : decode cX5_seeds 162 = .ok (.iconst 0, 1) := by decide +kernel
theorem dX5_seeds_163 : decode cX5_seeds 163 = .ok (.invokevirtual 131, 3) := by decide +kernel
theorem dX5_seeds_166 : decode cX5_seeds 166 = .ok (.iload 5, 2) := by decide +kernel
theorem dX5_seeds_168 : decode cX5_seeds 168 = .ok (.ireturn, 1) := by decide +kernel
theorem dX5_count_0 : decode cX5_count 0 = .ok (.iload_n 1, 1) := by decide +kernel
theorem dX5_count_1 : decode cX5_count 1 = .ok (.bipush 11, 2) := by decide +kernel
theorem dX5_count_3 : decode cX5_count 3 = .ok (.bipush 16, 2) := by decide +kernel
theorem dX5_count_5 : decode cX5_count 5 = .ok (.invokestatic 85, 3) := by decide +kernel
theorem dX5_count_8 : decode cX5_count 8 = .ok (.ifCond .eq 13, 3) := by decide +kernel
theorem dX5_count_11 : decode cX5_count 11 = .ok (.aload_n 0, 1) := by decide +kernel
theorem dX5_count_12 : decode cX5_count 12 = .ok (.getfield 7, 3) := by decide +kernel
theorem dX5_count_15 : decode cX5_count 15 = .ok (.iload_n 1, 1) := by decide +kernel
theorem dX5_count_16 : decode cX5_count 16 = .ok (.bipush 10, 2) := by decide +kernel
theorem dX5_count_18 : decode cX5_count 18 = .ok (.isub, 1) := by decide +kernel
theorem dX5_count_19 : decode cX5_count 19 = .ok (.iaload, 1) := by decide +kernel
theorem dX5_count_20 : decode cX5_count 20 = .ok (.ireturn, 1) := by decide +kernel
theorem dX5_count_21 : decode cX5_count 21 = .ok (.iconst 0, 1) := by decide +kernel
theorem dX5_count_22 : decode cX5_count 22 = .ok (.istore_n 2, 1) := by decide +kernel
theorem dX5_count_23 : decode cX5_count 23 = .ok (.iload_n 1, 1) := by decide +kernel
theorem dX5_count_24 : decode cX5_count 24 = .ok (.tableswitch 121 0 8 #[52, 57, 62, 67, 72, 77, 84, 111, 116], 52) := by decide +kernel
theorem dX5_count_76 : decode cX5_count 76 = .ok (.aload_n 0, 1) := by decide +kernel
theorem dX5_count_77 : decode cX5_count 77 = .ok (.getfield 34, 3) := by decide +kernel
theorem dX5_count_80 : decode cX5_count 80 = .ok (.ireturn, 1) := by decide +kernel
theorem dX5_count_81 : decode cX5_count 81 = .ok (.aload_n 0, 1) := by decide +kernel
theorem dX5_count_82 : decode cX5_count 82 = .ok (.getfield 61, 3) := by decide +kernel
theorem dX5_count_85 : decode cX5_count 85 = .ok (.ireturn, 1) := by decide +kernel
theorem dX5_count_86 : decode cX5_count 86 = .ok (.aload_n 0, 1) := by decide +kernel
theorem dX5_count_87 : decode cX5_count 87 = .ok (.getfield 64, 3) := by decide +kernel
theorem dX5_count_90 : decode cX5_count 90 = .ok (.ireturn, 1) := by decide +kernel
theorem dX5_count_91 : decode cX5_count 91 = .ok (.aload_n 0, 1) := by decide +kernel
theorem dX5_count_92 : decode cX5_count 92 = .ok (.getfield 121, 3) := by decide +kernel
theorem dX5_count_95 : decode cX5_count 95 = .ok (.ireturn, 1) := by decide +kernel
theorem dX5_count_96 : decode cX5_count 96 = .ok (.aload_n 0, 1) := by decide +kernel
theorem dX5_count_97 : decode cX5_count 97 = .ok (.getfield 38, 3) := by decide +kernel
theorem dX5_count_100 : decode cX5_count 100 = .ok (.ireturn, 1) := by decide +kernel
theorem dX5_count_101 : decode cX5_count 101 = .ok (.iconst 3, 1) := by decide +kernel
theorem dX5_count_102 : decode cX5_count 102 = .ok (.aload_n 0, 1) := by decide +kernel
theorem dX5_count_103 : decode cX5_count 103 = .ok (.getfield 112, 3) := by decide +kernel
theorem dX5_count_106 : decode cX5_count 106 = .ok (.iadd, 1) := by decide +kernel
theorem dX5_count_107 : decode cX5_count 107 = .ok (.ireturn, 1) := by decide +kernel
theorem dX5_count_108 : decode cX5_count 108 = .ok (.iconst 0, 1) := by decide +kernel
theorem dX5_count_109 : decode cX5_count 109 = .ok (.istore_n 3, 1) := by decide +kernel
theorem dX5_count_110 : decode cX5_count 110 = .ok (.iload_n 3, 1) := by decide +kernel
theorem dX5_count_111 : decode cX5_count 111 = .ok (.aload_n 0, 1) := by decide +kernel
theorem dX5_count_112 : decode cX5_count 112 = .ok (.getfield 61, 3) := by decide +kernel
theorem dX5_count_115 : decode cX5_count 115 = .ok (.if_icmp .ge 18, 3) := by decide +kernel
theorem dX5_count_118 : decode cX5_count 118 = .ok (.iload_n 2, 1) := by decide +kernel
theorem dX5_count_119 : decode cX5_count 119 = .ok (.aload_n 0, 1) := by decide +kernel
theorem dX5_count_120 : decode cX5_count 120 = .ok (.getfield 22, 3) := by decide +kernel
theorem dX5_count_123 : decode cX5_count 123 = .ok (.iload_n 3, 1) := by decide +kernel
theorem dX5_count_124 : decode cX5_count 124 = .ok (.iaload, 1) := by decide +kernel
theorem dX5_count_125 : decode cX5_count 125 = .ok (.iadd, 1) := by decide +kernel
theorem dX5_count_126 : decode cX5_count 126 = .ok (.istore_n 2, 1) := by decide +kernel
theorem dX5_count_127 : decode cX5_count 127 = .ok (.iinc 3 1, 3) := by decide +kernel
theorem dX5_count_130 : decode cX5_count 130 = .ok (.goto (-20), 3) := by decide +kernel
theorem dX5_count_133 : decode cX5_count 133 = .ok (.iload_n 2, 1) := by decide +kernel
theorem dX5_count_134 : decode cX5_count 134 = .ok (.ireturn, 1) := by decide +kernel
theorem dX5_count_135 : decode cX5_count 135 = .ok (.aload_n 0, 1) := by decide +kernel
theorem dX5_count_136 : decode cX5_count 136 = .ok (.getfield 71, 3) := by decide +kernel
theorem dX5_count_139 : decode cX5_count 139 = .ok (.ireturn, 1) := by decide +kernel
theorem dX5_count_140 : decode cX5_count 140 = .ok (.aload_n 0, 1) := by decide +kernel
theorem dX5_count_141 : decode cX5_count 141 = .ok (.getfield 241, 3) := by decide +kernel
theorem dX5_count_144 : decode cX5_count 144 = .ok (.ireturn, 1) := by decide +kernel
theorem dX5_count_145 : decode cX5_count 145 = .ok (.bipush (-9), 2) := by decide +kernel
theorem dX5_count_147 : decode cX5_count 147 = .ok (.ireturn, 1) := by decide +kernel
