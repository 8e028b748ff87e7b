theorem dX0_init_0 : decode cX0_init 0 = .ok (.aload_n 0, 1) := by decide +kernel
theorem dX0_init_1 : decode cX0_init 1 = .ok (.invokespecial 3, 3) := by decide +kernel
theorem dX0_init_4 : decode cX0_init 4 = .ok (.aload_n 0, 1) := by decide +kernel
theorem dX0_init_5 : decode cX0_init 5 = .ok (.bipush 12, 2) := by decide +kernel
theorem dX0_init_7 : decode cX0_init 7 = .ok (.putfield 9, 3) := by decide +kernel
theorem dX0_init_10 : decode cX0_init 10 = .ok (.aload_n 0, 1) := by decide +kernel
theorem dX0_init_11 : decode cX0_init 11 = .ok (.iconst 0, 1) := by decide +kernel
theorem dX0_init_12 : decode cX0_init 12 = .ok (.putfield 15, 3) := by decide +kernel
theorem dX0_init_15 : decode cX0_init 15 = .ok (.aload_n 0, 1) := by decide +kernel
theorem dX0_init_16 : decode cX0_init 16 = .ok (.iconst 0, 1) := by decide +kernel
theorem dX0_init_17 : decode cX0_init 17 = .ok (.putfield 18, 3) := by decide +kernel
theorem dX0_init_20 : decode cX0_init 20 = .ok (.aload_n 0, 1) := by decide +kernel
theorem dX0_init_21 : decode cX0_init 21 = .ok (.iconst 0, 1) := by decide +kernel
theorem dX0_init_22 : decode cX0_init 22 = .ok (.putfield 21, 3) := by decide +kernel
theorem dX0_init_25 : decode cX0_init 25 = .ok (.aload_n 0, 1) := by decide +kernel
theorem dX0_init_26 : decode cX0_init 26 = .ok (.bipush (-9), 2) := by decide +kernel
theorem dX0_init_28 : decode cX0_init 28 = .ok (.putfield 24, 3) := by decide +kernel
theorem dX0_init_31 : decode cX0_init 31 = .ok (.aload_n 0, 1) := by decide +kernel
theorem dX0_init_32 : decode cX0_init 32 = .ok (.iconst 0, 1) := by decide +kernel
theorem dX0_init_33 : decode cX0_init 33 = .ok (.putfield 27, 3) := by decide +kernel
theorem dX0_init_36 : decode cX0_init 36 = .ok (.aload_n 0, 1) := by decide +kernel
theorem dX0_init_37 : decode cX0_init 37 = .ok (.iconst 5, 1) := by decide +kernel
theorem dX0_init_38 : decode cX0_init 38 = .ok (.newarray .int, 2) := by decide +kernel
theorem dX0_init_40 : decode cX0_init 40 = .ok (.putfield 30, 3) := by decide +kernel
theorem dX0_init_43 : decode cX0_init 43 = .ok (.aload_n 0, 1) := by decide +kernel
theorem dX0_init_44 : decode cX0_init 44 = .ok (.iconst 5, 1) := by decide +kernel
theorem dX0_init_45 : decode cX0_init 45 = .ok (.newarray .int, 2) := by decide +kernel
theorem dX0_init_47 : decode cX0_init 47 = .ok (.putfield 34, 3) := by decide +kernel
theorem dX0_init_50 : decode cX0_init 50 = .ok (.aload_n 0, 1) := by decide +kernel
theorem dX0_init_51 : decode cX0_init 51 = .ok (.iconst 5, 1) := by decide +kernel
theorem dX0_init_52 : decode cX0_init 52 = .ok (.newarray .int, 2) := by decide +kernel
theorem dX0_init_54 : decode cX0_init 54 = .ok (.putfield 37, 3) := by decide +kernel
theorem dX0_init_57 : decode cX0_init 57 = .ok (.aload_n 0, 1) := by decide +kernel
theorem dX0_init_58 : decode cX0_init 58 = .ok (.iconst 5, 1) := by decide +kernel
theorem dX0_init_59 : decode cX0_init 59 = .ok (.newarray .int, 2) := by decide +kernel
theorem dX0_init_61 : decode cX0_init 61 = .ok (.putfield 40, 3) := by decide +kernel
theorem dX0_init_64 : decode cX0_init 64 = .ok (.aload_n 0, 1) := by decide +kernel
theorem dX0_init_65 : decode cX0_init 65 = .ok (.bipush 6, 2) := by decide +kernel
theorem dX0_init_67 : decode cX0_init 67 = .ok (.anewarray 43, 3) := by decide +kernel
theorem dX0_init_70 : decode cX0_init 70 = .ok (.putfield 45, 3) := by decide +kernel
theorem dX0_init_73 : decode cX0_init 73 = .ok (.new 43, 3) := by decide +kernel
theorem dX0_init_76 : decode cX0_init 76 = .ok (.dup, 1) := by decide +kernel
theorem dX0_init_77 : decode cX0_init 77 = .ok (.iconst 0, 1) := by decide +kernel
theorem dX0_init_78 : decode cX0_init 78 = .ok (.iconst 0, 1) := by decide +kernel
theorem dX0_init_79 : decode cX0_init 79 = .ok (.iconst 1, 1) := by decide +kernel
theorem dX0_init_80 : decode cX0_init 80 = .ok (.invokespecial 49, 3) := by decide +kernel
theorem dX0_init_83 : decode cX0_init 83 = .ok (.astore_n 1, 1) := by decide +kernel
theorem dX0_init_84 : decode cX0_init 84 = .ok (.iconst 0, 1) := by decide +kernel
theorem dX0_init_85 : decode cX0_init 85 = .ok (.istore_n 2, 1) := by decide +kernel
theorem dX0_init_86 : decode cX0_init 86 = .ok (.iload_n 2, 1) := by decide +kernel
theorem dX0_init_87 : decode cX0_init 87 = .ok (.bipush 6, 2) := by decide +kernel
theorem dX0_init_89 : decode cX0_init 89 = .ok (.if_icmp .ge 16, 3) := by decide +kernel
theorem dX0_init_92 : decode cX0_init 92 = .ok (.aload_n 0, 1) := by decide +kernel
theorem dX0_init_93 : decode cX0_init 93 = .ok (.getfield 45, 3) := by decide +kernel
theorem dX0_init_96 : decode cX0_init 96 = .ok (.iload_n 2, 1) := by decide +kernel
theorem dX0_init_97 : decode cX0_init 97 = .ok (.aload_n 1, 1) := by decide +kernel
theorem dX0_init_98 : decode cX0_init 98 = .ok (.aastore, 1) := by decide +kernel
theorem dX0_init_99 : decode cX0_init 99 = .ok (.iinc 2 1, 3) := by decide +kernel
theorem dX0_init_102 : decode cX0_init 102 = .ok (.goto (-16), 3) := by decide +kernel
theorem dX0_init_105 : decode cX0_init 105 = .ok (.return_, 1) := by decide +kernel
theorem dX0_copyFrom_0 : decode cX0_copyFrom 0 = .ok (.aload_n 0, 1) := by decide +kernel
theorem dX0_copyFrom_1 : decode cX0_copyFrom 1 = .ok (.aload_n 1, 1) := by decide +kernel
theorem dX0_copyFrom_2 : decode cX0_copyFrom 2 = .ok (.getfield 9, 3) := by decide +kernel
theorem dX0_copyFrom_5 : decode cX0_copyFrom 5 = .ok (.putfield 9, 3) := by decide +kernel
theorem dX0_copyFrom_8 : decode cX0_copyFrom 8 = .ok (.aload_n 0, 1) := by decide +kernel
theorem dX0_copyFrom_9 : decode cX0_copyFrom 9 = .ok (.aload_n 1, 1) := by decide +kernel
theorem dX0_copyFrom_10 : decode cX0_copyFrom 10 = .ok (.getfield 15, 3) := by decide +kernel
theorem dX0_copyFrom_13 : decode cX0_copyFrom 13 = .ok (.putfield 15, 3) := by decide +kernel
theorem dX0_copyFrom_16 : decode cX0_copyFrom 16 = .ok (.aload_n 0, 1) := by decide +kernel
theorem dX0_copyFrom_17 : decode cX0_copyFrom 17 = .ok (.aload_n 1, 1) := by decide +kernel
theorem dX0_copyFrom_18 : decode cX0_copyFrom 18 = .ok (.getfield 18, 3) := by decide +kernel
theorem dX0_copyFrom_21 : decode cX0_copyFrom 21 = .ok (.putfield 18, 3) := by decide +kernel
theorem dX0_copyFrom_24 : decode cX0_copyFrom 24 = .ok (.aload_n 0, 1) := by decide +kernel
theorem dX0_copyFrom_25 : decode cX0_copyFrom 25 = .ok (.aload_n 1, 1) := by decide +kernel
theorem dX0_copyFrom_26 : decode cX0_copyFrom 26 = .ok (.getfield 21, 3) := by decide +kernel
theorem dX0_copyFrom_29 : decode cX0_copyFrom 29 = .ok (.putfield 21, 3) := by decide +kernel
theorem dX0_copyFrom_32 : decode cX0_copyFrom 32 = .ok (.aload_n 0, 1) := by decide +kernel
theorem dX0_copyFrom_33 : decode cX0_copyFrom 33 = .ok (.aload_n 1, 1) := by decide +kernel
theorem dX0_copyFrom_34 : decode cX0_copyFrom 34 = .ok (.getfield 24, 3) := by decide +kernel
theorem dX0_copyFrom_37 : decode cX0_copyFrom 37 = .ok (.putfield 24, 3) := by decide +kernel
theorem dX0_copyFrom_40 : decode cX0_copyFrom 40 = .ok (.aload_n 0, 1) := by decide +kernel
theorem dX0_copyFrom_41 : decode cX0_copyFrom 41 = .ok (.aload_n 1, 1) := by decide +kernel
theorem dX0_copyFrom_42 : decode cX0_copyFrom 42 = .ok (.getfield 27, 3) := by decide +kernel
theorem dX0_copyFrom_45 : decode cX0_copyFrom 45 = .ok (.putfield 27, 3) := by decide +kernel
theorem dX0_copyFrom_48 : decode cX0_copyFrom 48 = .ok (.iconst 0, 1) := by decide +kernel
theorem dX0_copyFrom_49 : decode cX0_copyFrom 49 = .ok (.istore_n 2, 1) := by decide +kernel
theorem dX0_copyFrom_50 : decode cX0_copyFrom 50 = .ok (.iload_n 2, 1) := by decide +kernel
theorem dX0_copyFrom_51 : decode cX0_copyFrom 51 = .ok (.iconst 5, 1) := by decide +kernel
theorem dX0_copyFrom_52 : decode cX0_copyFrom 52 = .ok (.if_icmp .ge 57, 3) := by decide +kernel
theorem dX0_copyFrom_55 : decode cX0_copyFrom 55 = .ok (.aload_n 0, 1) := by decide +kernel
theorem dX0_copyFrom_56 : decode cX0_copyFrom 56 = .ok (.getfield 30, 3) := by decide +kernel
theorem dX0_copyFrom_59 : decode cX0_copyFrom 59 = .ok (.iload_n 2, 1) := by decide +kernel
theorem dX0_copyFrom_60 : decode cX0_copyFrom 60 = .ok (.aload_n 1, 1) := by decide +kernel
theorem dX0_copyFrom_61 : decode cX0_copyFrom 61 = .ok (.getfield 30, 3) := by decide +kernel
theorem dX0_copyFrom_64 : decode cX0_copyFrom 64 = .ok (.iload_n 2, 1) := by decide +kernel
theorem dX0_copyFrom_65 : decode cX0_copyFrom 65 = .ok (.iaload, 1) := by decide +kernel
theorem dX0_copyFrom_66 : decode cX0_copyFrom 66 = .ok (.iastore, 1) := by decide +kernel
theorem dX0_copyFrom_67 : decode cX0_copyFrom 67 = .ok (.aload_n 0, 1) := by decide +kernel
theorem dX0_copyFrom_68 : decode cX0_copyFrom 68 = .ok (.getfield 34, 3) := by decide +kernel
theorem dX0_copyFrom_71 : decode cX0_copyFrom 71 = .ok (.iload_n 2, 1) := by decide +kernel
theorem dX0_copyFrom_72 : decode cX0_copyFrom 72 = .ok (.aload_n 1, 1) := by decide +kernel
theorem dX0_copyFrom_73 : decode cX0_copyFrom 73 = .ok (.getfield 34, 3) := by decide +kernel
theorem dX0_copyFrom_76 : decode cX0_copyFrom 76 = .ok (.iload_n 2, 1) := by decide +kernel
theorem dX0_copyFrom_77 : decode cX0_copyFrom 77 = .ok (.iaload, 1) := by decide +kernel
theorem dX0_copyFrom_78 : decode cX0_copyFrom 78 = .ok (.iastore, 1) := by decide +kernel
theorem dX0_copyFrom_79 : decode cX0_copyFrom 79 = .ok (.aload_n 0, 1) := by decide +kernel
theorem dX0_copyFrom_80 : decode cX0_copyFrom 80 = .ok (.getfield 37, 3) := by decide +kernel
theorem dX0_copyFrom_83 : decode cX0_copyFrom 83 = .ok (.iload_n 2, 1) := by decide +kernel
theorem dX0_copyFrom_84 : decode cX0_copyFrom 84 = .ok (.aload_n 1, 1) := by decide +kernel
theorem dX0_copyFrom_85 : decode cX0_copyFrom 85 = .ok (.getfield 37, 3) := by decide +kernel
theorem dX0_copyFrom_88 : decode cX0_copyFrom 88 = .ok (.iload_n 2, 1) := by decide +kernel
theorem dX0_copyFrom_89 : decode cX0_copyFrom 89 = .ok (.iaload, 1) := by decide +kernel
theorem dX0_copyFrom_90 : decode cX0_copyFrom 90 = .ok (.iastore, 1) := by decide +kernel
theorem dX0_copyFrom_91 : decode cX0_copyFrom 91 = .ok (.aload_n 0, 1) := by decide +kernel
theorem dX0_copyFrom_92 : decode cX0_copyFrom 92 = .ok (.getfield 40, 3) := by decide +kernel
theorem dX0_copyFrom_95 : decode cX0_copyFrom 95 = .ok (.iload_n 2, 1) := by decide +kernel
theorem dX0_copyFrom_96 : decode cX0_copyFrom 96 = .ok (.aload_n 1, 1) := by decide +kernel
theorem dX0_copyFrom_97 : decode cX0_copyFrom 97 = .ok (.getfield 40, 3) := by decide +kernel
theorem dX0_copyFrom_100 : decode cX0_copyFrom 100 = .ok (.iload_n 2, 1) := by decide +kernel
theorem dX0_copyFrom_101 : decode cX0_copyFrom 101 = .ok (.iaload, 1) := by decide +kernel
theorem dX0_copyFrom_102 : decode cX0_copyFrom 102 = .ok (.iastore, 1) := by decide +kernel
theorem dX0_copyFrom_103 : decode cX0_copyFrom 103 = .ok (.iinc 2 1, 3) := by decide +kernel
theorem dX0_copyFrom_106 : decode cX0_copyFrom 106 = .ok (.goto (-56), 3) := by decide +kernel
theorem dX0_copyFrom_109 : decode cX0_copyFrom 109 = .ok (.iconst 0, 1) := by decide +kernel
theorem dX0_copyFrom_110 : decode cX0_copyFrom 110 = .ok (.istore_n 2, 1) := by decide +kernel
theorem dX0_copyFrom_111 : decode cX0_copyFrom 111 = .ok (.iload_n 2, 1) := by decide +kernel
theorem dX0_copyFrom_112 : decode cX0_copyFrom 112 = .ok (.bipush 6, 2) := by decide +kernel
theorem dX0_copyFrom_114 : decode cX0_copyFrom 114 = .ok (.if_icmp .ge 21, 3) := by decide +kernel
theorem dX0_copyFrom_117 : decode cX0_copyFrom 117 = .ok (.aload_n 0, 1) := by decide +kernel
theorem dX0_copyFrom_118 : decode cX0_copyFrom 118 = .ok (.getfield 45, 3) := by decide +kernel
theorem dX0_copyFrom_121 : decode cX0_copyFrom 121 = .ok (.iload_n 2, 1) := by decide +kernel
theorem dX0_copyFrom_122 : decode cX0_copyFrom 122 = .ok (.aload_n 1, 1) := by decide +kernel
theorem dX0_copyFrom_123 : decode cX0_copyFrom 123 = .ok (.getfield 45, 3) := by decide +kernel
theorem dX0_copyFrom_126 : decode cX0_copyFrom 126 = .ok (.iload_n 2, 1) := by decide +kernel
theorem dX0_copyFrom_127 : decode cX0_copyFrom 127 = .ok (.aaload, 1) := by decide +kernel
theorem dX0_copyFrom_128 : decode cX0_copyFrom 128 = .ok (.aastore, 1) := by decide +kernel
theorem dX0_copyFrom_129 : decode cX0_copyFrom 129 = .ok (.iinc 2 1, 3) := by decide +kernel
theorem dX0_copyFrom_132 : decode cX0_copyFrom 132 = .ok (.goto (-21), 3) := by decide +kernel
theorem dX0_copyFrom_135 : decode cX0_copyFrom 135 = .ok (.return_, 1) := by decide +kernel
theorem dX0_hasPlayer_0 : decode cX0_hasPlayer 0 = .ok (.iload_n 1, 1) := by decide +kernel
theorem dX0_hasPlayer_1 : decode cX0_hasPlayer 1 = .ok (.ifCond .lt 15, 3) := by decide +kernel
theorem dX0_hasPlayer_4 : decode cX0_hasPlayer 4 = .ok (.iload_n 1, 1) := by decide +kernel
theorem dX0_hasPlayer_5 : decode cX0_hasPlayer 5 = .ok (.aload_n 0, 1) := by decide +kernel
theorem dX0_hasPlayer_6 : decode cX0_hasPlayer 6 = .ok (.getfield 18, 3) := by decide +kernel
theorem dX0_hasPlayer_9 : decode cX0_hasPlayer 9 = .ok (.if_icmp .ge 7, 3) := by decide +kernel
theorem dX0_hasPlayer_12 : decode cX0_hasPlayer 12 = .ok (.iconst 1, 1) := by decide +kernel
theorem dX0_hasPlayer_13 : decode cX0_hasPlayer 13 = .ok (.goto 4, 3) := by decide +kernel
theorem dX0_hasPlayer_16 : decode cX0_hasPlayer 16 = .ok (.iconst 0, 1) := by decide +kernel
theorem dX0_hasPlayer_17 : decode cX0_hasPlayer 17 = .ok (.ireturn, 1) := by decide +kernel
theorem dX0_hasTouch_0 : decode cX0_hasTouch 0 = .ok (.iload_n 1, 1) := by decide +kernel
theorem dX0_hasTouch_1 : decode cX0_hasTouch 1 = .ok (.ifCond .lt 15, 3) := by decide +kernel
theorem dX0_hasTouch_4 : decode cX0_hasTouch 4 = .ok (.iload_n 1, 1) := by decide +kernel
theorem dX0_hasTouch_5 : decode cX0_hasTouch 5 = .ok (.aload_n 0, 1) := by decide +kernel
theorem dX0_hasTouch_6 : decode cX0_hasTouch 6 = .ok (.getfield 21, 3) := by decide +kernel
theorem dX0_hasTouch_9 : decode cX0_hasTouch 9 = .ok (.if_icmp .ge 7, 3) := by decide +kernel
theorem dX0_hasTouch_12 : decode cX0_hasTouch 12 = .ok (.iconst 1, 1) := by decide +kernel
theorem dX0_hasTouch_13 : decode cX0_hasTouch 13 = .ok (.goto 4, 3) := by decide +kernel
theorem dX0_hasTouch_16 : decode cX0_hasTouch 16 = .ok (.iconst 0, 1) := by decide +kernel
theorem dX0_hasTouch_17 : decode cX0_hasTouch 17 = .ok (.ireturn, 1) := by decide +kernel
theorem dX0_hasYard_0 : decode cX0_hasYard 0 = .ok (.iload_n 1, 1) := by decide +kernel
theorem dX0_hasYard_1 : decode cX0_hasYard 1 = .ok (.ifCond .lt 15, 3) := by decide +kernel
theorem dX0_hasYard_4 : decode cX0_hasYard 4 = .ok (.iload_n 1, 1) := by decide +kernel
theorem dX0_hasYard_5 : decode cX0_hasYard 5 = .ok (.aload_n 0, 1) := by decide +kernel
theorem dX0_hasYard_6 : decode cX0_hasYard 6 = .ok (.getfield 9, 3) := by decide +kernel
theorem dX0_hasYard_9 : decode cX0_hasYard 9 = .ok (.if_icmp .ge 7, 3) := by decide +kernel
theorem dX0_hasYard_12 : decode cX0_hasYard 12 = .ok (.iconst 1, 1) := by decide +kernel
theorem dX0_hasYard_13 : decode cX0_hasYard 13 = .ok (.goto 4, 3) := by decide +kernel
theorem dX0_hasYard_16 : decode cX0_hasYard 16 = .ok (.iconst 0, 1) := by decide +kernel
theorem dX0_hasYard_17 : decode cX0_hasYard 17 = .ok (.ireturn, 1) := by decide +kernel
theorem dX0_isUp_0 : decode cX0_isUp 0 = .ok (.aload_n 0, 1) := by decide +kernel
theorem dX0_isUp_1 : decode cX0_isUp 1 = .ok (.aload_n 0, 1) := by decide +kernel
theorem dX0_isUp_2 : decode cX0_isUp 2 = .ok (.getfield 24, 3) := by decide +kernel
theorem dX0_isUp_5 : decode cX0_isUp 5 = .ok (.invokevirtual 52, 3) := by decide +kernel
theorem dX0_isUp_8 : decode cX0_isUp 8 = .ok (.ireturn, 1) := by decide +kernel
theorem dX0_isInPlay_0 : decode cX0_isInPlay 0 = .ok (.aload_n 0, 1) := by decide +kernel
theorem dX0_isInPlay_1 : decode cX0_isInPlay 1 = .ok (.invokevirtual 56, 3) := by decide +kernel
theorem dX0_isInPlay_4 : decode cX0_isInPlay 4 = .ok (.ifCond .eq 14, 3) := by decide +kernel
theorem dX0_isInPlay_7 : decode cX0_isInPlay 7 = .ok (.aload_n 0, 1) := by decide +kernel
theorem dX0_isInPlay_8 : decode cX0_isInPlay 8 = .ok (.getfield 21, 3) := by decide +kernel
theorem dX0_isInPlay_11 : decode cX0_isInPlay 11 = .ok (.ifCond .le 7, 3) := by decide +kernel
theorem dX0_isInPlay_14 : decode cX0_isInPlay 14 = .ok (.iconst 1, 1) := by decide +kernel
theorem dX0_isInPlay_15 : decode cX0_isInPlay 15 = .ok (.goto 4, 3) := by decide +kernel
theorem dX0_isInPlay_18 : decode cX0_isInPlay 18 = .ok (.iconst 0, 1) := by decide +kernel
theorem dX0_isInPlay_19 : decode cX0_isInPlay 19 = .ok (.ireturn, 1) := by decide +kernel
theorem dX0_allTired_0 : decode cX0_allTired 0 = .ok (.iconst 0, 1) := by decide +kernel
theorem dX0_allTired_1 : decode cX0_allTired 1 = .ok (.istore_n 1, 1) := by decide +kernel
theorem dX0_allTired_2 : decode cX0_allTired 2 = .ok (.iconst 0, 1) := by decide +kernel
theorem dX0_allTired_3 : decode cX0_allTired 3 = .ok (.istore_n 2, 1) := by decide +kernel
theorem dX0_allTired_4 : decode cX0_allTired 4 = .ok (.iload_n 2, 1) := by decide +kernel
theorem dX0_allTired_5 : decode cX0_allTired 5 = .ok (.aload_n 0, 1) := by decide +kernel
theorem dX0_allTired_6 : decode cX0_allTired 6 = .ok (.getfield 18, 3) := by decide +kernel
theorem dX0_allTired_9 : decode cX0_allTired 9 = .ok (.if_icmp .ge 18, 3) := by decide +kernel
theorem dX0_allTired_12 : decode cX0_allTired 12 = .ok (.iload_n 1, 1) := by decide +kernel
theorem dX0_allTired_13 : decode cX0_allTired 13 = .ok (.aload_n 0, 1) := by decide +kernel
theorem dX0_allTired_14 : decode cX0_allTired 14 = .ok (.getfield 40, 3) := by decide +kernel
theorem dX0_allTired_17 : decode cX0_allTired 17 = .ok (.iload_n 2, 1) := by decide +kernel
theorem dX0_allTired_18 : decode cX0_allTired 18 = .ok (.iaload, 1) := by decide +kernel
theorem dX0_allTired_19 : decode cX0_allTired 19 = .ok (.iadd, 1) := by decide +kernel
theorem dX0_allTired_20 : decode cX0_allTired 20 = .ok (.istore_n 1, 1) := by decide +kernel
theorem dX0_allTired_21 : decode cX0_allTired 21 = .ok (.iinc 2 1, 3) := by decide +kernel
theorem dX0_allTired_24 : decode cX0_allTired 24 = .ok (.goto (-20), 3) := by decide +kernel
theorem dX0_allTired_27 : decode cX0_allTired 27 = .ok (.iload_n 1, 1) := by decide +kernel
theorem dX0_allTired_28 : decode cX0_allTired 28 = .ok (.ireturn, 1) := by decide +kernel
theorem dX0_handTo_0 : decode cX0_handTo 0 = .ok (.aload_n 0, 1) := by decide +kernel
theorem dX0_handTo_1 : decode cX0_handTo 1 = .ok (.iload_n 1, 1) := by decide +kernel
theorem dX0_handTo_2 : decode cX0_handTo 2 = .ok (.putfield 24, 3) := by decide +kernel
theorem dX0_handTo_5 : decode cX0_handTo 5 = .ok (.aload_n 0, 1) := by decide +kernel
theorem dX0_handTo_6 : decode cX0_handTo 6 = .ok (.iconst 0, 1) := by decide +kernel
theorem dX0_handTo_7 : decode cX0_handTo 7 = .ok (.putfield 27, 3) := by decide +kernel
theorem dX0_handTo_10 : decode cX0_handTo 10 = .ok (.return_, 1) := by decide +kernel
theorem dX0_becomeLong_0 : decode cX0_becomeLong 0 = .ok (.iload_n 1, 1) := by decide +kernel
theorem dX0_becomeLong_1 : decode cX0_becomeLong 1 = .ok (.iconst 3, 1) := by decide +kernel
theorem dX0_becomeLong_2 : decode cX0_becomeLong 2 = .ok (.if_icmp .lt 9, 3) := by decide +kernel
theorem dX0_becomeLong_5 : decode cX0_becomeLong 5 = .ok (.iload_n 1, 1) := by decide +kernel
theorem dX0_becomeLong_6 : decode cX0_becomeLong 6 = .ok (.bipush 12, 2) := by decide +kernel
theorem dX0_becomeLong_8 : decode cX0_becomeLong 8 = .ok (.if_icmp .le 5, 3) := by decide +kernel
theorem dX0_becomeLong_11 : decode cX0_becomeLong 11 = .ok (.iconst 0, 1) := by decide +kernel
theorem dX0_becomeLong_12 : decode cX0_becomeLong 12 = .ok (.ireturn, 1) := by decide +kernel
theorem dX0_becomeLong_13 : decode cX0_becomeLong 13 = .ok (.aload_n 0, 1) := by decide +kernel
theorem dX0_becomeLong_14 : decode cX0_becomeLong 14 = .ok (.iload_n 1, 1) := by decide +kernel
theorem dX0_becomeLong_15 : decode cX0_becomeLong 15 = .ok (.putfield 9, 3) := by decide +kernel
theorem dX0_becomeLong_18 : decode cX0_becomeLong 18 = .ok (.iconst 0, 1) := by decide +kernel
theorem dX0_becomeLong_19 : decode cX0_becomeLong 19 = .ok (.istore_n 2, 1) := by decide +kernel
theorem dX0_becomeLong_20 : decode cX0_becomeLong 20 = .ok (.iload_n 2, 1) := by decide +kernel
theorem dX0_becomeLong_21 : decode cX0_becomeLong 21 = .ok (.aload_n 0, 1) := by decide +kernel
theorem dX0_becomeLong_22 : decode cX0_becomeLong 22 = .ok (.getfield 18, 3) := by decide +kernel
theorem dX0_becomeLong_25 : decode cX0_becomeLong 25 = .ok (.if_icmp .ge 30, 3) := by decide +kernel
theorem dX0_becomeLong_28 : decode cX0_becomeLong 28 = .ok (.aload_n 0, 1) := by decide +kernel
theorem dX0_becomeLong_29 : decode cX0_becomeLong 29 = .ok (.getfield 30, 3) := by decide +kernel
theorem dX0_becomeLong_32 : decode cX0_becomeLong 32 = .ok (.iload_n 2, 1) := by decide +kernel
theorem dX0_becomeLong_33 : decode cX0_becomeLong 33 = .ok (.aload_n 0, 1) := by decide +kernel
theorem dX0_becomeLong_34 : decode cX0_becomeLong 34 = .ok (.getfield 30, 3) := by decide +kernel
theorem dX0_becomeLong_37 : decode cX0_becomeLong 37 = .ok (.iload_n 2, 1) := by decide +kernel
theorem dX0_becomeLong_38 : decode cX0_becomeLong 38 = .ok (.iaload, 1) := by decide +kernel
theorem dX0_becomeLong_39 : decode cX0_becomeLong 39 = .ok (.aload_n 0, 1) := by decide +kernel
theorem dX0_becomeLong_40 : decode cX0_becomeLong 40 = .ok (.getfield 9, 3) := by decide +kernel
theorem dX0_becomeLong_43 : decode cX0_becomeLong 43 = .ok (.iconst 1, 1) := by decide +kernel
theorem dX0_becomeLong_44 : decode cX0_becomeLong 44 = .ok (.isub, 1) := by decide +kernel
theorem dX0_becomeLong_45 : decode cX0_becomeLong 45 = .ok (.invokestatic 60, 3) := by decide +kernel
theorem dX0_becomeLong_48 : decode cX0_becomeLong 48 = .ok (.iastore, 1) := by decide +kernel
theorem dX0_becomeLong_49 : decode cX0_becomeLong 49 = .ok (.iinc 2 1, 3) := by decide +kernel
theorem dX0_becomeLong_52 : decode cX0_becomeLong 52 = .ok (.goto (-32), 3) := by decide +kernel
theorem dX0_becomeLong_55 : decode cX0_becomeLong 55 = .ok (.iconst 1, 1) := by decide +kernel
theorem dX0_becomeLong_56 : decode cX0_becomeLong 56 = .ok (.ireturn, 1) := by decide +kernel
theorem dX0_becomeWindy_0 : decode cX0_becomeWindy 0 = .ok (.iload_n 1, 1) := by decide +kernel
theorem dX0_becomeWindy_1 : decode cX0_becomeWindy 1 = .ok (.bipush (-3), 2) := by decide +kernel
theorem dX0_becomeWindy_3 : decode cX0_becomeWindy 3 = .ok (.if_icmp .lt 8, 3) := by decide +kernel
theorem dX0_becomeWindy_6 : decode cX0_becomeWindy 6 = .ok (.iload_n 1, 1) := by decide +kernel
theorem dX0_becomeWindy_7 : decode cX0_becomeWindy 7 = .ok (.iconst 3, 1) := by decide +kernel
theorem dX0_becomeWindy_8 : decode cX0_becomeWindy 8 = .ok (.if_icmp .le 5, 3) := by decide +kernel
theorem dX0_becomeWindy_11 : decode cX0_becomeWindy 11 = .ok (.iconst 0, 1) := by decide +kernel
theorem dX0_becomeWindy_12 : decode cX0_becomeWindy 12 = .ok (.ireturn, 1) := by decide +kernel
theorem dX0_becomeWindy_13 : decode cX0_becomeWindy 13 = .ok (.aload_n 0, 1) := by decide +kernel
theorem dX0_becomeWindy_14 : decode cX0_becomeWindy 14 = .ok (.iload_n 1, 1) := by decide +kernel
theorem dX0_becomeWindy_15 : decode cX0_becomeWindy 15 = .ok (.putfield 15, 3) := by decide +kernel
theorem dX0_becomeWindy_18 : decode cX0_becomeWindy 18 = .ok (.iconst 1, 1) := by decide +kernel
theorem dX0_becomeWindy_19 : decode cX0_becomeWindy 19 = .ok (.ireturn, 1) := by decide +kernel
theorem dX0_addPlayer_0 : decode cX0_addPlayer 0 = .ok (.aload_n 0, 1) := by decide +kernel
theorem dX0_addPlayer_1 : decode cX0_addPlayer 1 = .ok (.getfield 18, 3) := by decide +kernel
theorem dX0_addPlayer_4 : decode cX0_addPlayer 4 = .ok (.iconst 5, 1) := by decide +kernel
theorem dX0_addPlayer_5 : decode cX0_addPlayer 5 = .ok (.if_icmp .ge 21, 3) := by decide +kernel
theorem dX0_addPlayer_8 : decode cX0_addPlayer 8 = .ok (.aload_n 0, 1) := by decide +kernel
theorem dX0_addPlayer_9 : decode cX0_addPlayer 9 = .ok (.iload_n 1, 1) := by decide +kernel
theorem dX0_addPlayer_10 : decode cX0_addPlayer 10 = .ok (.invokevirtual 66, 3) := by decide +kernel
theorem dX0_addPlayer_13 : decode cX0_addPlayer 13 = .ok (.ifCond .eq 13, 3) := by decide +kernel
theorem dX0_addPlayer_16 : decode cX0_addPlayer 16 = .ok (.iload_n 2, 1) := by decide +kernel
theorem dX0_addPlayer_17 : decode cX0_addPlayer 17 = .ok (.iconst 1, 1) := by decide +kernel
theorem dX0_addPlayer_18 : decode cX0_addPlayer 18 = .ok (.if_icmp .lt 8, 3) := by decide +kernel
theorem dX0_addPlayer_21 : decode cX0_addPlayer 21 = .ok (.iload_n 2, 1) := by decide +kernel
theorem dX0_addPlayer_22 : decode cX0_addPlayer 22 = .ok (.iconst 3, 1) := by decide +kernel
theorem dX0_addPlayer_23 : decode cX0_addPlayer 23 = .ok (.if_icmp .le 5, 3) := by decide +kernel
theorem dX0_addPlayer_26 : decode cX0_addPlayer 26 = .ok (.iconst 0, 1) := by decide +kernel
theorem dX0_addPlayer_27 : decode cX0_addPlayer 27 = .ok (.ireturn, 1) := by decide +kernel
theorem dX0_addPlayer_28 : decode cX0_addPlayer 28 = .ok (.aload_n 0, 1) := by decide +kernel
theorem dX0_addPlayer_29 : decode cX0_addPlayer 29 = .ok (.getfield 30, 3) := by decide +kernel
theorem dX0_addPlayer_32 : decode cX0_addPlayer 32 = .ok (.aload_n 0, 1) := by decide +kernel
theorem dX0_addPlayer_33 : decode cX0_addPlayer 33 = .ok (.getfield 18, 3) := by decide +kernel
theorem dX0_addPlayer_36 : decode cX0_addPlayer 36 = .ok (.iload_n 1, 1) := by decide +kernel
theorem dX0_addPlayer_37 : decode cX0_addPlayer 37 = .ok (.iastore, 1) := by decide +kernel
theorem dX0_addPlayer_38 : decode cX0_addPlayer 38 = .ok (.aload_n 0, 1) := by decide +kernel
theorem dX0_addPlayer_39 : decode cX0_addPlayer 39 = .ok (.getfield 34, 3) := by decide +kernel
theorem dX0_addPlayer_42 : decode cX0_addPlayer 42 = .ok (.aload_n 0, 1) := by decide +kernel
theorem dX0_addPlayer_43 : decode cX0_addPlayer 43 = .ok (.getfield 18, 3) := by decide +kernel
theorem dX0_addPlayer_46 : decode cX0_addPlayer 46 = .ok (.iload_n 2, 1) := by decide +kernel
theorem dX0_addPlayer_47 : decode cX0_addPlayer 47 = .ok (.iastore, 1) := by decide +kernel
theorem dX0_addPlayer_48 : decode cX0_addPlayer 48 = .ok (.aload_n 0, 1) := by decide +kernel
theorem dX0_addPlayer_49 : decode cX0_addPlayer 49 = .ok (.getfield 37, 3) := by decide +kernel
theorem dX0_addPlayer_52 : decode cX0_addPlayer 52 = .ok (.aload_n 0, 1) := by decide +kernel
theorem dX0_addPlayer_53 : decode cX0_addPlayer 53 = .ok (.getfield 18, 3) := by decide +kernel
theorem dX0_addPlayer_56 : decode cX0_addPlayer 56 = .ok (.iload_n 3, 1) := by decide +kernel
theorem dX0_addPlayer_57 : decode cX0_addPlayer 57 = .ok (.iastore, 1) := by decide +kernel
theorem dX0_addPlayer_58 : decode cX0_addPlayer 58 = .ok (.aload_n 0, 1) := by decide +kernel
theorem dX0_addPlayer_59 : decode cX0_addPlayer 59 = .ok (.getfield 40, 3) := by decide +kernel
theorem dX0_addPlayer_62 : decode cX0_addPlayer 62 = .ok (.aload_n 0, 1) := by decide +kernel
theorem dX0_addPlayer_63 : decode cX0_addPlayer 63 = .ok (.getfield 18, 3) := by decide +kernel
theorem dX0_addPlayer_66 : decode cX0_addPlayer 66 = .ok (.iconst 0, 1) := by decide +kernel
theorem dX0_addPlayer_67 : decode cX0_addPlayer 67 = .ok (.iastore, 1) := by decide +kernel
theorem dX0_addPlayer_68 : decode cX0_addPlayer 68 = .ok (.aload_n 0, 1) := by decide +kernel
theorem dX0_addPlayer_69 : decode cX0_addPlayer 69 = .ok (.dup, 1) := by decide +kernel
theorem dX0_addPlayer_70 : decode cX0_addPlayer 70 = .ok (.getfield 18, 3) := by decide +kernel
theorem dX0_addPlayer_73 : decode cX0_addPlayer 73 = .ok (.iconst 1, 1) := by decide +kernel
theorem dX0_addPlayer_74 : decode cX0_addPlayer 74 = .ok (.iadd, 1) := by decide +kernel
theorem dX0_addPlayer_75 : decode cX0_addPlayer 75 = .ok (.putfield 18, 3) := by decide +kernel
theorem dX0_addPlayer_78 : decode cX0_addPlayer 78 = .ok (.iconst 1, 1) := by decide +kernel
theorem dX0_addPlayer_79 : decode cX0_addPlayer 79 = .ok (.ireturn, 1) := by decide +kernel
theorem dX0_addTouch_0 : decode cX0_addTouch 0 = .ok (.aload_n 0, 1) := by decide +kernel
theorem dX0_addTouch_1 : decode cX0_addTouch 1 = .ok (.getfield 21, 3) := by decide +kernel
theorem dX0_addTouch_4 : decode cX0_addTouch 4 = .ok (.bipush 6, 2) := by decide +kernel
theorem dX0_addTouch_6 : decode cX0_addTouch 6 = .ok (.if_icmp .ge 13, 3) := by decide +kernel
theorem dX0_addTouch_9 : decode cX0_addTouch 9 = .ok (.iload_n 1, 1) := by decide +kernel
theorem dX0_addTouch_10 : decode cX0_addTouch 10 = .ok (.iconst 5, 1) := by decide +kernel
theorem dX0_addTouch_11 : decode cX0_addTouch 11 = .ok (.if_icmp .gt 8, 3) := by decide +kernel
theorem dX0_addTouch_14 : decode cX0_addTouch 14 = .ok (.iload_n 3, 1) := by decide +kernel
theorem dX0_addTouch_15 : decode cX0_addTouch 15 = .ok (.iconst 1, 1) := by decide +kernel
theorem dX0_addTouch_16 : decode cX0_addTouch 16 = .ok (.if_icmp .ge 5, 3) := by decide +kernel
theorem dX0_addTouch_19 : decode cX0_addTouch 19 = .ok (.iconst 0, 1) := by decide +kernel
theorem dX0_addTouch_20 : decode cX0_addTouch 20 = .ok (.ireturn, 1) := by decide +kernel
theorem dX0_addTouch_21 : decode cX0_addTouch 21 = .ok (.aload_n 0, 1) := by decide +kernel
theorem dX0_addTouch_22 : decode cX0_addTouch 22 = .ok (.getfield 45, 3) := by decide +kernel
theorem dX0_addTouch_25 : decode cX0_addTouch 25 = .ok (.aload_n 0, 1) := by decide +kernel
theorem dX0_addTouch_26 : decode cX0_addTouch 26 = .ok (.getfield 21, 3) := by decide +kernel
theorem dX0_addTouch_29 : decode cX0_addTouch 29 = .ok (.new 43, 3) := by decide +kernel
theorem dX0_addTouch_32 : decode cX0_addTouch 32 = .ok (.dup, 1) := by decide +kernel
theorem dX0_addTouch_33 : decode cX0_addTouch 33 = .ok (.iload_n 1, 1) := by decide +kernel
theorem dX0_addTouch_34 : decode cX0_addTouch 34 = .ok (.iload_n 2, 1) := by decide +kernel
theorem dX0_addTouch_35 : decode cX0_addTouch 35 = .ok (.iload_n 3, 1) := by decide +kernel
theorem dX0_addTouch_36 : decode cX0_addTouch 36 = .ok (.invokespecial 49, 3) := by decide +kernel
theorem dX0_addTouch_39 : decode cX0_addTouch 39 = .ok (.aastore, 1) := by decide +kernel
theorem dX0_addTouch_40 : decode cX0_addTouch 40 = .ok (.aload_n 0, 1) := by decide +kernel
theorem dX0_addTouch_41 : decode cX0_addTouch 41 = .ok (.dup, 1) := by decide +kernel
theorem dX0_addTouch_42 : decode cX0_addTouch 42 = .ok (.getfield 21, 3) := by decide +kernel
theorem dX0_addTouch_45 : decode cX0_addTouch 45 = .ok (.iconst 1, 1) := by decide +kernel
theorem dX0_addTouch_46 : decode cX0_addTouch 46 = .ok (.iadd, 1) := by decide +kernel
theorem dX0_addTouch_47 : decode cX0_addTouch 47 = .ok (.putfield 21, 3) := by decide +kernel
theorem dX0_addTouch_50 : decode cX0_addTouch 50 = .ok (.iconst 1, 1) := by decide +kernel
theorem dX0_addTouch_51 : decode cX0_addTouch 51 = .ok (.ireturn, 1) := by decide +kernel
theorem dX0_startWith_0 : decode cX0_startWith 0 = .ok (.aload_n 0, 1) := by decide +kernel
theorem dX0_startWith_1 : decode cX0_startWith 1 = .ok (.iload_n 1, 1) := by decide +kernel
theorem dX0_startWith_2 : decode cX0_startWith 2 = .ok (.invokevirtual 52, 3) := by decide +kernel
theorem dX0_startWith_5 : decode cX0_startWith 5 = .ok (.ifCond .ne 5, 3) := by decide +kernel
theorem dX0_startWith_8 : decode cX0_startWith 8 = .ok (.iconst 0, 1) := by decide +kernel
theorem dX0_startWith_9 : decode cX0_startWith 9 = .ok (.ireturn, 1) := by decide +kernel
theorem dX0_startWith_10 : decode cX0_startWith 10 = .ok (.aload_n 0, 1) := by decide +kernel
theorem dX0_startWith_11 : decode cX0_startWith 11 = .ok (.iload_n 1, 1) := by decide +kernel
theorem dX0_startWith_12 : decode cX0_startWith 12 = .ok (.invokevirtual 69, 3) := by decide +kernel
theorem dX0_startWith_15 : decode cX0_startWith 15 = .ok (.iconst 1, 1) := by decide +kernel
theorem dX0_startWith_16 : decode cX0_startWith 16 = .ok (.ireturn, 1) := by decide +kernel
theorem dX0_errorOf_0 : decode cX0_errorOf 0 = .ok (.aload_n 0, 1) := by decide +kernel
theorem dX0_errorOf_1 : decode cX0_errorOf 1 = .ok (.getfield 45, 3) := by decide +kernel
theorem dX0_errorOf_4 : decode cX0_errorOf 4 = .ok (.iload_n 1, 1) := by decide +kernel
theorem dX0_errorOf_5 : decode cX0_errorOf 5 = .ok (.aaload, 1) := by decide +kernel
theorem dX0_errorOf_6 : decode cX0_errorOf 6 = .ok (.aload_n 0, 1) := by decide +kernel
theorem dX0_errorOf_7 : decode cX0_errorOf 7 = .ok (.getfield 37, 3) := by decide +kernel
theorem dX0_errorOf_10 : decode cX0_errorOf 10 = .ok (.iload_n 2, 1) := by decide +kernel
theorem dX0_errorOf_11 : decode cX0_errorOf 11 = .ok (.iaload, 1) := by decide +kernel
theorem dX0_errorOf_12 : decode cX0_errorOf 12 = .ok (.aload_n 0, 1) := by decide +kernel
theorem dX0_errorOf_13 : decode cX0_errorOf 13 = .ok (.getfield 40, 3) := by decide +kernel
theorem dX0_errorOf_16 : decode cX0_errorOf 16 = .ok (.iload_n 2, 1) := by decide +kernel
theorem dX0_errorOf_17 : decode cX0_errorOf 17 = .ok (.iaload, 1) := by decide +kernel
theorem dX0_errorOf_18 : decode cX0_errorOf 18 = .ok (.iload_n 2, 1) := by decide +kernel
theorem dX0_errorOf_19 : decode cX0_errorOf 19 = .ok (.iload_n 3, 1) := by decide +kernel
theorem dX0_errorOf_20 : decode cX0_errorOf 20 = .ok (.if_icmp .ne 7, 3) := by decide +kernel
theorem dX0_errorOf_23 : decode cX0_errorOf 23 = .ok (.iconst 1, 1) := by decide +kernel
theorem dX0_errorOf_24 : decode cX0_errorOf 24 = .ok (.goto 4, 3) := by decide +kernel
theorem dX0_errorOf_27 : decode cX0_errorOf 27 = .ok (.iconst 0, 1) := by decide +kernel
theorem dX0_errorOf_28 : decode cX0_errorOf 28 = .ok (.invokevirtual 73, 3) := by decide +kernel
theorem dX0_errorOf_31 : decode cX0_errorOf 31 = .ok (.ireturn, 1) := by decide +kernel
theorem dX0_ways_0 : decode cX0_ways 0 = .ok (.iconst 2, 1) := by decide +kernel
theorem dX0_ways_1 : decode cX0_ways 1 = .ok (.aload_n 0, 1) := by decide +kernel
theorem dX0_ways_2 : decode cX0_ways 2 = .ok (.iload_n 1, 1) := by decide +kernel
theorem dX0_ways_3 : decode cX0_ways 3 = .ok (.iload_n 2, 1) := by decide +kernel
theorem dX0_ways_4 : decode cX0_ways 4 = .ok (.iload_n 3, 1) := by decide +kernel
theorem dX0_ways_5 : decode cX0_ways 5 = .ok (.invokevirtual 77, 3) := by decide +kernel
theorem dX0_ways_8 : decode cX0_ways 8 = .ok (.imul, 1) := by decide +kernel
theorem dX0_ways_9 : decode cX0_ways 9 = .ok (.iconst 1, 1) := by decide +kernel
theorem dX0_ways_10 : decode cX0_ways 10 = .ok (.iadd, 1) := by decide +kernel
theorem dX0_ways_11 : decode cX0_ways 11 = .ok (.ireturn, 1) := by decide +kernel
theorem dX0_waysHad_0 : decode cX0_waysHad 0 = .ok (.aload_n 0, 1) := by decide +kernel
theorem dX0_waysHad_1 : decode cX0_waysHad 1 = .ok (.iload_n 1, 1) := by decide +kernel
theorem dX0_waysHad_2 : decode cX0_waysHad 2 = .ok (.iload_n 2, 1) := by decide +kernel
theorem dX0_waysHad_3 : decode cX0_waysHad 3 = .ok (.iload_n 3, 1) := by decide +kernel
theorem dX0_waysHad_4 : decode cX0_waysHad 4 = .ok (.invokevirtual 77, 3) := by decide +kernel
theorem dX0_waysHad_7 : decode cX0_waysHad 7 = .ok (.istore 4, 2) := by decide +kernel
theorem dX0_waysHad_9 : decode cX0_waysHad 9 = .ok (.aload_n 0, 1) := by decide +kernel
theorem dX0_waysHad_10 : decode cX0_waysHad 10 = .ok (.getfield 45, 3) := by decide +kernel
theorem dX0_waysHad_13 : decode cX0_waysHad 13 = .ok (.iload_n 1, 1) := by decide +kernel
theorem dX0_waysHad_14 : decode cX0_waysHad 14 = .ok (.aaload, 1) := by decide +kernel
theorem dX0_waysHad_15 : decode cX0_waysHad 15 = .ok (.aload_n 0, 1) := by decide +kernel
theorem dX0_waysHad_16 : decode cX0_waysHad 16 = .ok (.getfield 15, 3) := by decide +kernel
theorem dX0_waysHad_19 : decode cX0_waysHad 19 = .ok (.invokevirtual 81, 3) := by decide +kernel
theorem dX0_waysHad_22 : decode cX0_waysHad 22 = .ok (.istore 5, 2) := by decide +kernel
theorem dX0_waysHad_24 : decode cX0_waysHad 24 = .ok (.aload_n 0, 1) := by decide +kernel
theorem dX0_waysHad_25 : decode cX0_waysHad 25 = .ok (.getfield 34, 3) := by decide +kernel
theorem dX0_waysHad_28 : decode cX0_waysHad 28 = .ok (.iload_n 3, 1) := by decide +kernel
theorem dX0_waysHad_29 : decode cX0_waysHad 29 = .ok (.iaload, 1) := by decide +kernel
theorem dX0_waysHad_30 : decode cX0_waysHad 30 = .ok (.aload_n 0, 1) := by decide +kernel
theorem dX0_waysHad_31 : decode cX0_waysHad 31 = .ok (.getfield 45, 3) := by decide +kernel
theorem dX0_waysHad_34 : decode cX0_waysHad 34 = .ok (.iload_n 1, 1) := by decide +kernel
theorem dX0_waysHad_35 : decode cX0_waysHad 35 = .ok (.aaload, 1) := by decide +kernel
theorem dX0_waysHad_36 : decode cX0_waysHad 36 = .ok (.invokevirtual 85, 3) := by decide +kernel
theorem dX0_waysHad_39 : decode cX0_waysHad 39 = .ok (.imul, 1) := by decide +kernel
theorem dX0_waysHad_40 : decode cX0_waysHad 40 = .ok (.istore 6, 2) := by decide +kernel
theorem dX0_waysHad_42 : decode cX0_waysHad 42 = .ok (.iload 5, 2) := by decide +kernel
theorem dX0_waysHad_44 : decode cX0_waysHad 44 = .ok (.iload 4, 2) := by decide +kernel
theorem dX0_waysHad_46 : decode cX0_waysHad 46 = .ok (.isub, 1) := by decide +kernel
theorem dX0_waysHad_47 : decode cX0_waysHad 47 = .ok (.iload 6, 2) := by decide +kernel
theorem dX0_waysHad_49 : decode cX0_waysHad 49 = .ok (.ineg, 1) := by decide +kernel
theorem dX0_waysHad_50 : decode cX0_waysHad 50 = .ok (.aload_n 0, 1) := by decide +kernel
theorem dX0_waysHad_51 : decode cX0_waysHad 51 = .ok (.getfield 30, 3) := by decide +kernel
theorem dX0_waysHad_54 : decode cX0_waysHad 54 = .ok (.iload_n 3, 1) := by decide +kernel
theorem dX0_waysHad_55 : decode cX0_waysHad 55 = .ok (.iaload, 1) := by decide +kernel
theorem dX0_waysHad_56 : decode cX0_waysHad 56 = .ok (.ineg, 1) := by decide +kernel
theorem dX0_waysHad_57 : decode cX0_waysHad 57 = .ok (.invokestatic 89, 3) := by decide +kernel
theorem dX0_waysHad_60 : decode cX0_waysHad 60 = .ok (.invokestatic 89, 3) := by decide +kernel
theorem dX0_waysHad_63 : decode cX0_waysHad 63 = .ok (.istore 7, 2) := by decide +kernel
theorem dX0_waysHad_65 : decode cX0_waysHad 65 = .ok (.iload 5, 2) := by decide +kernel
theorem dX0_waysHad_67 : decode cX0_waysHad 67 = .ok (.iload 4, 2) := by decide +kernel
theorem dX0_waysHad_69 : decode cX0_waysHad 69 = .ok (.iadd, 1) := by decide +kernel
theorem dX0_waysHad_70 : decode cX0_waysHad 70 = .ok (.iload 6, 2) := by decide +kernel
theorem dX0_waysHad_72 : decode cX0_waysHad 72 = .ok (.aload_n 0, 1) := by decide +kernel
theorem dX0_waysHad_73 : decode cX0_waysHad 73 = .ok (.getfield 9, 3) := by decide +kernel
theorem dX0_waysHad_76 : decode cX0_waysHad 76 = .ok (.iconst 1, 1) := by decide +kernel
theorem dX0_waysHad_77 : decode cX0_waysHad 77 = .ok (.isub, 1) := by decide +kernel
theorem dX0_waysHad_78 : decode cX0_waysHad 78 = .ok (.aload_n 0, 1) := by decide +kernel
theorem dX0_waysHad_79 : decode cX0_waysHad 79 = .ok (.getfield 30, 3) := by decide +kernel
theorem dX0_waysHad_82 : decode cX0_waysHad 82 = .ok (.iload_n 3, 1) := by decide +kernel
theorem dX0_waysHad_83 : decode cX0_waysHad 83 = .ok (.iaload, 1) := by decide +kernel
theorem dX0_waysHad_84 : decode cX0_waysHad 84 = .ok (.isub, 1) := by decide +kernel
theorem dX0_waysHad_85 : decode cX0_waysHad 85 = .ok (.invokestatic 60, 3) := by decide +kernel
theorem dX0_waysHad_88 : decode cX0_waysHad 88 = .ok (.invokestatic 60, 3) := by decide +kernel
theorem dX0_waysHad_91 : decode cX0_waysHad 91 = .ok (.istore 8, 2) := by decide +kernel
theorem dX0_waysHad_93 : decode cX0_waysHad 93 = .ok (.iconst 0, 1) := by decide +kernel
theorem dX0_waysHad_94 : decode cX0_waysHad 94 = .ok (.iload 8, 2) := by decide +kernel
theorem dX0_waysHad_96 : decode cX0_waysHad 96 = .ok (.iload 7, 2) := by decide +kernel
theorem dX0_waysHad_98 : decode cX0_waysHad 98 = .ok (.isub, 1) := by decide +kernel
theorem dX0_waysHad_99 : decode cX0_waysHad 99 = .ok (.iconst 1, 1) := by decide +kernel
theorem dX0_waysHad_100 : decode cX0_waysHad 100 = .ok (.iadd, 1) := by decide +kernel
theorem dX0_waysHad_101 : decode cX0_waysHad 101 = .ok (.invokestatic 89, 3) := by decide +kernel
theorem dX0_waysHad_104 : decode cX0_waysHad 104 = .ok (.ireturn, 1) := by decide +kernel
theorem dX0_isHad_0 : decode cX0_isHad 0 = .ok (.aload_n 0, 1) := by decide +kernel
theorem dX0_isHad_1 : decode cX0_isHad 1 = .ok (.getfield 45, 3) := by decide +kernel
theorem dX0_isHad_4 : decode cX0_isHad 4 = .ok (.iload_n 1, 1) := by decide +kernel
theorem dX0_isHad_5 : decode cX0_isHad 5 = .ok (.aaload, 1) := by decide +kernel
theorem dX0_isHad_6 : decode cX0_isHad 6 = .ok (.aload_n 0, 1) := by decide +kernel
theorem dX0_isHad_7 : decode cX0_isHad 7 = .ok (.getfield 15, 3) := by decide +kernel
theorem dX0_isHad_10 : decode cX0_isHad 10 = .ok (.invokevirtual 81, 3) := by decide +kernel
theorem dX0_isHad_13 : decode cX0_isHad 13 = .ok (.iload_n 3, 1) := by decide +kernel
theorem dX0_isHad_14 : decode cX0_isHad 14 = .ok (.iadd, 1) := by decide +kernel
theorem dX0_isHad_15 : decode cX0_isHad 15 = .ok (.istore 4, 2) := by decide +kernel
theorem dX0_isHad_17 : decode cX0_isHad 17 = .ok (.aload_n 0, 1) := by decide +kernel
theorem dX0_isHad_18 : decode cX0_isHad 18 = .ok (.getfield 34, 3) := by decide +kernel
theorem dX0_isHad_21 : decode cX0_isHad 21 = .ok (.iload_n 2, 1) := by decide +kernel
theorem dX0_isHad_22 : decode cX0_isHad 22 = .ok (.iaload, 1) := by decide +kernel
theorem dX0_isHad_23 : decode cX0_isHad 23 = .ok (.aload_n 0, 1) := by decide +kernel
theorem dX0_isHad_24 : decode cX0_isHad 24 = .ok (.getfield 45, 3) := by decide +kernel
theorem dX0_isHad_27 : decode cX0_isHad 27 = .ok (.iload_n 1, 1) := by decide +kernel
theorem dX0_isHad_28 : decode cX0_isHad 28 = .ok (.aaload, 1) := by decide +kernel
theorem dX0_isHad_29 : decode cX0_isHad 29 = .ok (.invokevirtual 85, 3) := by decide +kernel
theorem dX0_isHad_32 : decode cX0_isHad 32 = .ok (.imul, 1) := by decide +kernel
theorem dX0_isHad_33 : decode cX0_isHad 33 = .ok (.istore 5, 2) := by decide +kernel
theorem dX0_isHad_35 : decode cX0_isHad 35 = .ok (.aload_n 0, 1) := by decide +kernel
theorem dX0_isHad_36 : decode cX0_isHad 36 = .ok (.aload_n 0, 1) := by decide +kernel
theorem dX0_isHad_37 : decode cX0_isHad 37 = .ok (.getfield 30, 3) := by decide +kernel
theorem dX0_isHad_40 : decode cX0_isHad 40 = .ok (.iload_n 2, 1) := by decide +kernel
theorem dX0_isHad_41 : decode cX0_isHad 41 = .ok (.iaload, 1) := by decide +kernel
theorem dX0_isHad_42 : decode cX0_isHad 42 = .ok (.iload 4, 2) := by decide +kernel
theorem dX0_isHad_44 : decode cX0_isHad 44 = .ok (.iadd, 1) := by decide +kernel
theorem dX0_isHad_45 : decode cX0_isHad 45 = .ok (.invokevirtual 66, 3) := by decide +kernel
theorem dX0_isHad_48 : decode cX0_isHad 48 = .ok (.ifCond .eq 17, 3) := by decide +kernel
theorem dX0_isHad_51 : decode cX0_isHad 51 = .ok (.iload 4, 2) := by decide +kernel
theorem dX0_isHad_53 : decode cX0_isHad 53 = .ok (.invokestatic 92, 3) := by decide +kernel
theorem dX0_isHad_56 : decode cX0_isHad 56 = .ok (.iload 5, 2) := by decide +kernel
theorem dX0_isHad_58 : decode cX0_isHad 58 = .ok (.if_icmp .gt 7, 3) := by decide +kernel
theorem dX0_isHad_61 : decode cX0_isHad 61 = .ok (.iconst 1, 1) := by decide +kernel
theorem dX0_isHad_62 : decode cX0_isHad 62 = .ok (.goto 4, 3) := by decide +kernel
theorem dX0_isHad_65 : decode cX0_isHad 65 = .ok (.iconst 0, 1) := by decide +kernel
theorem dX0_isHad_66 : decode cX0_isHad 66 = .ok (.ireturn, 1) := by decide +kernel
theorem dX0_play_0 : decode cX0_play 0 = .ok (.aload_n 0, 1) := by decide +kernel
theorem dX0_play_1 : decode cX0_play 1 = .ok (.getfield 24, 3) := by decide +kernel
theorem dX0_play_4 : decode cX0_play 4 = .ok (.istore 4, 2) := by decide +kernel
theorem dX0_play_6 : decode cX0_play 6 = .ok (.aload_n 0, 1) := by decide +kernel
theorem dX0_play_7 : decode cX0_play 7 = .ok (.iload_n 1, 1) := by decide +kernel
theorem dX0_play_8 : decode cX0_play 8 = .ok (.iload_n 2, 1) := by decide +kernel
theorem dX0_play_9 : decode cX0_play 9 = .ok (.iload_n 3, 1) := by decide +kernel
theorem dX0_play_10 : decode cX0_play 10 = .ok (.invokevirtual 95, 3) := by decide +kernel
theorem dX0_play_13 : decode cX0_play 13 = .ok (.istore 5, 2) := by decide +kernel
theorem dX0_play_15 : decode cX0_play 15 = .ok (.iload 5, 2) := by decide +kernel
theorem dX0_play_17 : decode cX0_play 17 = .ok (.ifCond .eq 45, 3) := by decide +kernel
theorem dX0_play_20 : decode cX0_play 20 = .ok (.aload_n 0, 1) := by decide +kernel
theorem dX0_play_21 : decode cX0_play 21 = .ok (.getfield 30, 3) := by decide +kernel
theorem dX0_play_24 : decode cX0_play 24 = .ok (.iload_n 2, 1) := by decide +kernel
theorem dX0_play_25 : decode cX0_play 25 = .ok (.dup2, 1) := by decide +kernel
theorem dX0_play_26 : decode cX0_play 26 = .ok (.iaload, 1) := by decide +kernel
theorem dX0_play_27 : decode cX0_play 27 = .ok (.aload_n 0, 1) := by decide +kernel
theorem dX0_play_28 : decode cX0_play 28 = .ok (.getfield 45, 3) := by decide +kernel
theorem dX0_play_31 : decode cX0_play 31 = .ok (.iload_n 1, 1) := by decide +kernel
theorem dX0_play_32 : decode cX0_play 32 = .ok (.aaload, 1) := by decide +kernel
theorem dX0_play_33 : decode cX0_play 33 = .ok (.aload_n 0, 1) := by decide +kernel
theorem dX0_play_34 : decode cX0_play 34 = .ok (.getfield 15, 3) := by decide +kernel
theorem dX0_play_37 : decode cX0_play 37 = .ok (.invokevirtual 81, 3) := by decide +kernel
theorem dX0_play_40 : decode cX0_play 40 = .ok (.iload_n 3, 1) := by decide +kernel
theorem dX0_play_41 : decode cX0_play 41 = .ok (.iadd, 1) := by decide +kernel
theorem dX0_play_42 : decode cX0_play 42 = .ok (.iadd, 1) := by decide +kernel
theorem dX0_play_43 : decode cX0_play 43 = .ok (.iastore, 1) := by decide +kernel
theorem dX0_play_44 : decode cX0_play 44 = .ok (.aload_n 0, 1) := by decide +kernel
theorem dX0_play_45 : decode cX0_play 45 = .ok (.iload_n 2, 1) := by decide +kernel
theorem dX0_play_46 : decode cX0_play 46 = .ok (.putfield 24, 3) := by decide +kernel
theorem dX0_play_49 : decode cX0_play 49 = .ok (.aload_n 0, 1) := by decide +kernel
theorem dX0_play_50 : decode cX0_play 50 = .ok (.dup, 1) := by decide +kernel
theorem dX0_play_51 : decode cX0_play 51 = .ok (.getfield 27, 3) := by decide +kernel
theorem dX0_play_54 : decode cX0_play 54 = .ok (.iconst 1, 1) := by decide +kernel
theorem dX0_play_55 : decode cX0_play 55 = .ok (.iadd, 1) := by decide +kernel
theorem dX0_play_56 : decode cX0_play 56 = .ok (.putfield 27, 3) := by decide +kernel
theorem dX0_play_59 : decode cX0_play 59 = .ok (.goto 14, 3) := by decide +kernel
theorem dX0_play_62 : decode cX0_play 62 = .ok (.aload_n 0, 1) := by decide +kernel
theorem dX0_play_63 : decode cX0_play 63 = .ok (.bipush (-9), 2) := by decide +kernel
theorem dX0_play_65 : decode cX0_play 65 = .ok (.putfield 24, 3) := by decide +kernel
theorem dX0_play_68 : decode cX0_play 68 = .ok (.aload_n 0, 1) := by decide +kernel
theorem dX0_play_69 : decode cX0_play 69 = .ok (.iconst 0, 1) := by decide +kernel
theorem dX0_play_70 : decode cX0_play 70 = .ok (.putfield 27, 3) := by decide +kernel
theorem dX0_play_73 : decode cX0_play 73 = .ok (.aload_n 0, 1) := by decide +kernel
theorem dX0_play_74 : decode cX0_play 74 = .ok (.iload 4, 2) := by decide +kernel
theorem dX0_play_76 : decode cX0_play 76 = .ok (.aload_n 0, 1) := by decide +kernel
theorem dX0_play_77 : decode cX0_play 77 = .ok (.getfield 45, 3) := by decide +kernel
theorem dX0_play_80 : decode cX0_play 80 = .ok (.iload_n 1, 1) := by decide +kernel
theorem dX0_play_81 : decode cX0_play 81 = .ok (.aaload, 1) := by decide +kernel
theorem dX0_play_82 : decode cX0_play 82 = .ok (.invokevirtual 99, 3) := by decide +kernel
theorem dX0_play_85 : decode cX0_play 85 = .ok (.invokevirtual 102, 3) := by decide +kernel
theorem dX0_play_88 : decode cX0_play 88 = .ok (.iload 5, 2) := by decide +kernel
theorem dX0_play_90 : decode cX0_play 90 = .ok (.ireturn, 1) := by decide +kernel
theorem dX0_tire_0 : decode cX0_tire 0 = .ok (.iconst 0, 1) := by decide +kernel
theorem dX0_tire_1 : decode cX0_tire 1 = .ok (.istore_n 3, 1) := by decide +kernel
theorem dX0_tire_2 : decode cX0_tire 2 = .ok (.iload_n 3, 1) := by decide +kernel
theorem dX0_tire_3 : decode cX0_tire 3 = .ok (.aload_n 0, 1) := by decide +kernel
theorem dX0_tire_4 : decode cX0_tire 4 = .ok (.getfield 18, 3) := by decide +kernel
theorem dX0_tire_7 : decode cX0_tire 7 = .ok (.if_icmp .ge 48, 3) := by decide +kernel
theorem dX0_tire_10 : decode cX0_tire 10 = .ok (.aload_n 0, 1) := by decide +kernel
theorem dX0_tire_11 : decode cX0_tire 11 = .ok (.getfield 40, 3) := by decide +kernel
theorem dX0_tire_14 : decode cX0_tire 14 = .ok (.iload_n 3, 1) := by decide +kernel
theorem dX0_tire_15 : decode cX0_tire 15 = .ok (.iload_n 3, 1) := by decide +kernel
theorem dX0_tire_16 : decode cX0_tire 16 = .ok (.iload_n 1, 1) := by decide +kernel
theorem dX0_tire_17 : decode cX0_tire 17 = .ok (.if_icmp .ne 19, 3) := by decide +kernel
theorem dX0_tire_20 : decode cX0_tire 20 = .ok (.bipush 99, 2) := by decide +kernel
theorem dX0_tire_22 : decode cX0_tire 22 = .ok (.aload_n 0, 1) := by decide +kernel
theorem dX0_tire_23 : decode cX0_tire 23 = .ok (.getfield 40, 3) := by decide +kernel
theorem dX0_tire_26 : decode cX0_tire 26 = .ok (.iload_n 3, 1) := by decide +kernel
theorem dX0_tire_27 : decode cX0_tire 27 = .ok (.iaload, 1) := by decide +kernel
theorem dX0_tire_28 : decode cX0_tire 28 = .ok (.iload_n 2, 1) := by decide +kernel
theorem dX0_tire_29 : decode cX0_tire 29 = .ok (.iadd, 1) := by decide +kernel
theorem dX0_tire_30 : decode cX0_tire 30 = .ok (.invokestatic 60, 3) := by decide +kernel
theorem dX0_tire_33 : decode cX0_tire 33 = .ok (.goto 15, 3) := by decide +kernel
theorem dX0_tire_36 : decode cX0_tire 36 = .ok (.iconst 0, 1) := by decide +kernel
theorem dX0_tire_37 : decode cX0_tire 37 = .ok (.aload_n 0, 1) := by decide +kernel
theorem dX0_tire_38 : decode cX0_tire 38 = .ok (.getfield 40, 3) := by decide +kernel
theorem dX0_tire_41 : decode cX0_tire 41 = .ok (.iload_n 3, 1) := by decide +kernel
theorem dX0_tire_42 : decode cX0_tire 42 = .ok (.iaload, 1) := by decide +kernel
theorem dX0_tire_43 : decode cX0_tire 43 = .ok (.iconst 1, 1) := by decide +kernel
theorem dX0_tire_44 : decode cX0_tire 44 = .ok (.isub, 1) := by decide +kernel
theorem dX0_tire_45 : decode cX0_tire 45 = .ok (.invokestatic 89, 3) := by decide +kernel
theorem dX0_tire_48 : decode cX0_tire 48 = .ok (.iastore, 1) := by decide +kernel
theorem dX0_tire_49 : decode cX0_tire 49 = .ok (.iinc 3 1, 3) := by decide +kernel
theorem dX0_tire_52 : decode cX0_tire 52 = .ok (.goto (-50), 3) := by decide +kernel
theorem dX0_tire_55 : decode cX0_tire 55 = .ok (.return_, 1) := by decide +kernel
theorem dX0_bestMove_0 : decode cX0_bestMove 0 = .ok (.iconst 0, 1) := by decide +kernel
theorem dX0_bestMove_1 : decode cX0_bestMove 1 = .ok (.istore_n 1, 1) := by decide +kernel
theorem dX0_bestMove_2 : decode cX0_bestMove 2 = .ok (.iconst 0, 1) := by decide +kernel
theorem dX0_bestMove_3 : decode cX0_bestMove 3 = .ok (.istore_n 2, 1) := by decide +kernel
theorem dX0_bestMove_4 : decode cX0_bestMove 4 = .ok (.iconst 1, 1) := by decide +kernel
theorem dX0_bestMove_5 : decode cX0_bestMove 5 = .ok (.istore_n 3, 1) := by decide +kernel
theorem dX0_bestMove_6 : decode cX0_bestMove 6 = .ok (.iconst 0, 1) := by decide +kernel
theorem dX0_bestMove_7 : decode cX0_bestMove 7 = .ok (.istore 4, 2) := by decide +kernel
theorem dX0_bestMove_9 : decode cX0_bestMove 9 = .ok (.iload 4, 2) := by decide +kernel
theorem dX0_bestMove_11 : decode cX0_bestMove 11 = .ok (.aload_n 0, 1) := by decide +kernel
theorem dX0_bestMove_12 : decode cX0_bestMove 12 = .ok (.getfield 21, 3) := by decide +kernel
theorem dX0_bestMove_15 : decode cX0_bestMove 15 = .ok (.if_icmp .ge 81, 3) := by decide +kernel
theorem dX0_bestMove_18 : decode cX0_bestMove 18 = .ok (.iconst 0, 1) := by decide +kernel
theorem dX0_bestMove_19 : decode cX0_bestMove 19 = .ok (.istore 5, 2) := by decide +kernel
theorem dX0_bestMove_21 : decode cX0_bestMove 21 = .ok (.iload 5, 2) := by decide +kernel
theorem dX0_bestMove_23 : decode cX0_bestMove 23 = .ok (.aload_n 0, 1) := by decide +kernel
theorem dX0_bestMove_24 : decode cX0_bestMove 24 = .ok (.getfield 18, 3) := by decide +kernel
theorem dX0_bestMove_27 : decode cX0_bestMove 27 = .ok (.if_icmp .ge 63, 3) := by decide +kernel
theorem dX0_bestMove_30 : decode cX0_bestMove 30 = .ok (.aload_n 0, 1) := by decide +kernel
theorem dX0_bestMove_31 : decode cX0_bestMove 31 = .ok (.iload 4, 2) := by decide +kernel
theorem dX0_bestMove_33 : decode cX0_bestMove 33 = .ok (.aload_n 0, 1) := by decide +kernel
theorem dX0_bestMove_34 : decode cX0_bestMove 34 = .ok (.getfield 24, 3) := by decide +kernel
theorem dX0_bestMove_37 : decode cX0_bestMove 37 = .ok (.iload 5, 2) := by decide +kernel
theorem dX0_bestMove_39 : decode cX0_bestMove 39 = .ok (.invokevirtual 106, 3) := by decide +kernel
theorem dX0_bestMove_42 : decode cX0_bestMove 42 = .ok (.istore 6, 2) := by decide +kernel
theorem dX0_bestMove_44 : decode cX0_bestMove 44 = .ok (.aload_n 0, 1) := by decide +kernel
theorem dX0_bestMove_45 : decode cX0_bestMove 45 = .ok (.iload 4, 2) := by decide +kernel
theorem dX0_bestMove_47 : decode cX0_bestMove 47 = .ok (.aload_n 0, 1) := by decide +kernel
theorem dX0_bestMove_48 : decode cX0_bestMove 48 = .ok (.getfield 24, 3) := by decide +kernel
theorem dX0_bestMove_51 : decode cX0_bestMove 51 = .ok (.iload 5, 2) := by decide +kernel
theorem dX0_bestMove_53 : decode cX0_bestMove 53 = .ok (.invokevirtual 109, 3) := by decide +kernel
theorem dX0_bestMove_56 : decode cX0_bestMove 56 = .ok (.istore 7, 2) := by decide +kernel
theorem dX0_bestMove_58 : decode cX0_bestMove 58 = .ok (.iload 6, 2) := by decide +kernel
theorem dX0_bestMove_60 : decode cX0_bestMove 60 = .ok (.iload_n 3, 1) := by decide +kernel
theorem dX0_bestMove_61 : decode cX0_bestMove 61 = .ok (.imul, 1) := by decide +kernel
theorem dX0_bestMove_62 : decode cX0_bestMove 62 = .ok (.iload_n 2, 1) := by decide +kernel
theorem dX0_bestMove_63 : decode cX0_bestMove 63 = .ok (.iload 7, 2) := by decide +kernel
theorem dX0_bestMove_65 : decode cX0_bestMove 65 = .ok (.imul, 1) := by decide +kernel
theorem dX0_bestMove_66 : decode cX0_bestMove 66 = .ok (.if_icmp .le 18, 3) := by decide +kernel
theorem dX0_bestMove_69 : decode cX0_bestMove 69 = .ok (.bipush 10, 2) := by decide +kernel
theorem dX0_bestMove_71 : decode cX0_bestMove 71 = .ok (.iload 4, 2) := by decide +kernel
theorem dX0_bestMove_73 : decode cX0_bestMove 73 = .ok (.imul, 1) := by decide +kernel
theorem dX0_bestMove_74 : decode cX0_bestMove 74 = .ok (.iload 5, 2) := by decide +kernel
theorem dX0_bestMove_76 : decode cX0_bestMove 76 = .ok (.iadd, 1) := by decide +kernel
theorem dX0_bestMove_77 : decode cX0_bestMove 77 = .ok (.istore_n 1, 1) := by decide +kernel
theorem dX0_bestMove_78 : decode cX0_bestMove 78 = .ok (.iload 6, 2) := by decide +kernel
theorem dX0_bestMove_80 : decode cX0_bestMove 80 = .ok (.istore_n 2, 1) := by decide +kernel
theorem dX0_bestMove_81 : decode cX0_bestMove 81 = .ok (.iload 7, 2) := by decide +kernel
theorem dX0_bestMove_83 : decode cX0_bestMove 83 = .ok (.istore_n 3, 1) := by decide +kernel
theorem dX0_bestMove_84 : decode cX0_bestMove 84 = .ok (.iinc 5 1, 3) := by decide +kernel
theorem dX0_bestMove_87 : decode cX0_bestMove 87 = .ok (.goto (-66), 3) := by decide +kernel
theorem dX0_bestMove_90 : decode cX0_bestMove 90 = .ok (.iinc 4 1, 3) := by decide +kernel
theorem dX0_bestMove_93 : decode cX0_bestMove 93 = .ok (.goto (-84), 3) := by decide +kernel
theorem dX0_bestMove_96 : decode cX0_bestMove 96 = .ok (.iload_n 1, 1) := by decide +kernel
theorem dX0_bestMove_97 : decode cX0_bestMove 97 = .ok (.ireturn, 1) := by decide +kernel
theorem dX0_bestOf_0 : decode cX0_bestOf 0 = .ok (.aload_n 0, 1) := by decide +kernel
theorem dX0_bestOf_1 : decode cX0_bestOf 1 = .ok (.invokevirtual 112, 3) := by decide +kernel
theorem dX0_bestOf_4 : decode cX0_bestOf 4 = .ok (.istore_n 3, 1) := by decide +kernel
theorem dX0_bestOf_5 : decode cX0_bestOf 5 = .ok (.aload_n 0, 1) := by decide +kernel
theorem dX0_bestOf_6 : decode cX0_bestOf 6 = .ok (.iload_n 3, 1) := by decide +kernel
theorem dX0_bestOf_7 : decode cX0_bestOf 7 = .ok (.bipush 10, 2) := by decide +kernel
theorem dX0_bestOf_9 : decode cX0_bestOf 9 = .ok (.idiv, 1) := by decide +kernel
theorem dX0_bestOf_10 : decode cX0_bestOf 10 = .ok (.aload_n 0, 1) := by decide +kernel
theorem dX0_bestOf_11 : decode cX0_bestOf 11 = .ok (.getfield 24, 3) := by decide +kernel
theorem dX0_bestOf_14 : decode cX0_bestOf 14 = .ok (.iload_n 3, 1) := by decide +kernel
theorem dX0_bestOf_15 : decode cX0_bestOf 15 = .ok (.bipush 10, 2) := by decide +kernel
theorem dX0_bestOf_17 : decode cX0_bestOf 17 = .ok (.irem, 1) := by decide +kernel
theorem dX0_bestOf_18 : decode cX0_bestOf 18 = .ok (.invokevirtual 109, 3) := by decide +kernel
theorem dX0_bestOf_21 : decode cX0_bestOf 21 = .ok (.istore 4, 2) := by decide +kernel
theorem dX0_bestOf_23 : decode cX0_bestOf 23 = .ok (.iload 4, 2) := by decide +kernel
theorem dX0_bestOf_25 : decode cX0_bestOf 25 = .ok (.iconst 1, 1) := by decide +kernel
theorem dX0_bestOf_26 : decode cX0_bestOf 26 = .ok (.if_icmp .ge 7, 3) := by decide +kernel
theorem dX0_bestOf_29 : decode cX0_bestOf 29 = .ok (.lconst 0, 1) := by decide +kernel
theorem dX0_bestOf_30 : decode cX0_bestOf 30 = .ok (.goto 26, 3) := by decide +kernel
theorem dX0_bestOf_33 : decode cX0_bestOf 33 = .ok (.lload_n 1, 1) := by decide +kernel
theorem dX0_bestOf_34 : decode cX0_bestOf 34 = .ok (.aload_n 0, 1) := by decide +kernel
theorem dX0_bestOf_35 : decode cX0_bestOf 35 = .ok (.iload_n 3, 1) := by decide +kernel
theorem dX0_bestOf_36 : decode cX0_bestOf 36 = .ok (.bipush 10, 2) := by decide +kernel
theorem dX0_bestOf_38 : decode cX0_bestOf 38 = .ok (.idiv, 1) := by decide +kernel
theorem dX0_bestOf_39 : decode cX0_bestOf 39 = .ok (.aload_n 0, 1) := by decide +kernel
theorem dX0_bestOf_40 : decode cX0_bestOf 40 = .ok (.getfield 24, 3) := by decide +kernel
theorem dX0_bestOf_43 : decode cX0_bestOf 43 = .ok (.iload_n 3, 1) := by decide +kernel
theorem dX0_bestOf_44 : decode cX0_bestOf 44 = .ok (.bipush 10, 2) := by decide +kernel
theorem dX0_bestOf_46 : decode cX0_bestOf 46 = .ok (.irem, 1) := by decide +kernel
theorem dX0_bestOf_47 : decode cX0_bestOf 47 = .ok (.invokevirtual 106, 3) := by decide +kernel
theorem dX0_bestOf_50 : decode cX0_bestOf 50 = .ok (.i2l, 1) := by decide +kernel
theorem dX0_bestOf_51 : decode cX0_bestOf 51 = .ok (.lmul, 1) := by decide +kernel
theorem dX0_bestOf_52 : decode cX0_bestOf 52 = .ok (.iload 4, 2) := by decide +kernel
theorem dX0_bestOf_54 : decode cX0_bestOf 54 = .ok (.i2l, 1) := by decide +kernel
theorem dX0_bestOf_55 : decode cX0_bestOf 55 = .ok (.ldiv, 1) := by decide +kernel
theorem dX0_bestOf_56 : decode cX0_bestOf 56 = .ok (.lreturn, 1) := by decide +kernel
theorem dX1_init_0 : decode cX1_init 0 = .ok (.aload_n 0, 1) := by decide +kernel
theorem dX1_init_1 : decode cX1_init 1 = .ok (.invokespecial 3, 3) := by decide +kernel
theorem dX1_init_4 : decode cX1_init 4 = .ok (.aload_n 0, 1) := by decide +kernel
theorem dX1_init_5 : decode cX1_init 5 = .ok (.bipush 80, 2) := by decide +kernel
theorem dX1_init_7 : decode cX1_init 7 = .ok (.newarray .int, 2) := by decide +kernel
theorem dX1_init_9 : decode cX1_init 9 = .ok (.putfield 9, 3) := by decide +kernel
theorem dX1_init_12 : decode cX1_init 12 = .ok (.aload_n 0, 1) := by decide +kernel
theorem dX1_init_13 : decode cX1_init 13 = .ok (.iconst 0, 1) := by decide +kernel
theorem dX1_init_14 : decode cX1_init 14 = .ok (.putfield 15, 3) := by decide +kernel
theorem dX1_init_17 : decode cX1_init 17 = .ok (.aload_n 0, 1) := by decide +kernel
theorem dX1_init_18 : decode cX1_init 18 = .ok (.iconst 0, 1) := by decide +kernel
theorem dX1_init_19 : decode cX1_init 19 = .ok (.putfield 19, 3) := by decide +kernel
theorem dX1_init_22 : decode cX1_init 22 = .ok (.return_, 1) := by decide +kernel
theorem dX1_add_0 : decode cX1_add 0 = .ok (.aload_n 0, 1) := by decide +kernel
theorem dX1_add_1 : decode cX1_add 1 = .ok (.getfield 15, 3) := by decide +kernel
theorem dX1_add_4 : decode cX1_add 4 = .ok (.ifCond .lt 32, 3) := by decide +kernel
theorem dX1_add_7 : decode cX1_add 7 = .ok (.aload_n 0, 1) := by decide +kernel
theorem dX1_add_8 : decode cX1_add 8 = .ok (.getfield 15, 3) := by decide +kernel
theorem dX1_add_11 : decode cX1_add 11 = .ok (.bipush 80, 2) := by decide +kernel
theorem dX1_add_13 : decode cX1_add 13 = .ok (.if_icmp .ge 23, 3) := by decide +kernel
theorem dX1_add_16 : decode cX1_add 16 = .ok (.aload_n 0, 1) := by decide +kernel
theorem dX1_add_17 : decode cX1_add 17 = .ok (.getfield 9, 3) := by decide +kernel
theorem dX1_add_20 : decode cX1_add 20 = .ok (.aload_n 0, 1) := by decide +kernel
theorem dX1_add_21 : decode cX1_add 21 = .ok (.getfield 15, 3) := by decide +kernel
theorem dX1_add_24 : decode cX1_add 24 = .ok (.iload_n 1, 1) := by decide +kernel
theorem dX1_add_25 : decode cX1_add 25 = .ok (.iastore, 1) := by decide +kernel
theorem dX1_add_26 : decode cX1_add 26 = .ok (.aload_n 0, 1) := by decide +kernel
theorem dX1_add_27 : decode cX1_add 27 = .ok (.dup, 1) := by decide +kernel
theorem dX1_add_28 : decode cX1_add 28 = .ok (.getfield 15, 3) := by decide +kernel
theorem dX1_add_31 : decode cX1_add 31 = .ok (.iconst 1, 1) := by decide +kernel
theorem dX1_add_32 : decode cX1_add 32 = .ok (.iadd, 1) := by decide +kernel
theorem dX1_add_33 : decode cX1_add 33 = .ok (.putfield 15, 3) := by decide +kernel
theorem dX1_add_36 : decode cX1_add 36 = .ok (.return_, 1) := by decide +kernel
theorem dX1_here_0 : decode cX1_here 0 = .ok (.aload_n 0, 1) := by decide +kernel
theorem dX1_here_1 : decode cX1_here 1 = .ok (.getfield 19, 3) := by decide +kernel
theorem dX1_here_4 : decode cX1_here 4 = .ok (.ifCond .lt 35, 3) := by decide +kernel
theorem dX1_here_7 : decode cX1_here 7 = .ok (.aload_n 0, 1) := by decide +kernel
theorem dX1_here_8 : decode cX1_here 8 = .ok (.getfield 19, 3) := by decide +kernel
theorem dX1_here_11 : decode cX1_here 11 = .ok (.aload_n 0, 1) := by decide +kernel
theorem dX1_here_12 : decode cX1_here 12 = .ok (.getfield 15, 3) := by decide +kernel
theorem dX1_here_15 : decode cX1_here 15 = .ok (.if_icmp .ge 24, 3) := by decide +kernel
theorem dX1_here_18 : decode cX1_here 18 = .ok (.aload_n 0, 1) := by decide +kernel
theorem dX1_here_19 : decode cX1_here 19 = .ok (.getfield 19, 3) := by decide +kernel
theorem dX1_here_22 : decode cX1_here 22 = .ok (.bipush 80, 2) := by decide +kernel
theorem dX1_here_24 : decode cX1_here 24 = .ok (.if_icmp .ge 15, 3) := by decide +kernel
theorem dX1_here_27 : decode cX1_here 27 = .ok (.aload_n 0, 1) := by decide +kernel
theorem dX1_here_28 : decode cX1_here 28 = .ok (.getfield 9, 3) := by decide +kernel
theorem dX1_here_31 : decode cX1_here 31 = .ok (.aload_n 0, 1) := by decide +kernel
theorem dX1_here_32 : decode cX1_here 32 = .ok (.getfield 19, 3) := by decide +kernel
theorem dX1_here_35 : decode cX1_here 35 = .ok (.iaload, 1) := by decide +kernel
theorem dX1_here_36 : decode cX1_here 36 = .ok (.goto 4, 3) := by decide +kernel
theorem dX1_here_39 : decode cX1_here 39 = .ok (.iconst (-1), 1) := by decide +kernel
theorem dX1_here_40 : decode cX1_here 40 = .ok (.ireturn, 1) := by decide +kernel
theorem dX1_take_0 : decode cX1_take 0 = .ok (.aload_n 0, 1) := by decide +kernel
theorem dX1_take_1 : decode cX1_take 1 = .ok (.invokevirtual 22, 3) := by decide +kernel
theorem dX1_take_4 : decode cX1_take 4 = .ok (.istore_n 1, 1) := by decide +kernel
theorem dX1_take_5 : decode cX1_take 5 = .ok (.aload_n 0, 1) := by decide +kernel
theorem dX1_take_6 : decode cX1_take 6 = .ok (.dup, 1) := by decide +kernel
theorem dX1_take_7 : decode cX1_take 7 = .ok (.getfield 19, 3) := by decide +kernel
theorem dX1_take_10 : decode cX1_take 10 = .ok (.iconst 1, 1) := by decide +kernel
theorem dX1_take_11 : decode cX1_take 11 = .ok (.iadd, 1) := by decide +kernel
theorem dX1_take_12 : decode cX1_take 12 = .ok (.putfield 19, 3) := by decide +kernel
theorem dX1_take_15 : decode cX1_take 15 = .ok (.iload_n 1, 1) := by decide +kernel
theorem dX1_take_16 : decode cX1_take 16 = .ok (.ireturn, 1) := by decide +kernel
theorem dX1_isDigitHere_0 : decode cX1_isDigitHere 0 = .ok (.aload_n 0, 1) := by decide +kernel
theorem dX1_isDigitHere_1 : decode cX1_isDigitHere 1 = .ok (.invokevirtual 22, 3) := by decide +kernel
theorem dX1_isDigitHere_4 : decode cX1_isDigitHere 4 = .ok (.bipush 48, 2) := by decide +kernel
theorem dX1_isDigitHere_6 : decode cX1_isDigitHere 6 = .ok (.if_icmp .lt 16, 3) := by decide +kernel
theorem dX1_isDigitHere_9 : decode cX1_isDigitHere 9 = .ok (.aload_n 0, 1) := by decide +kernel
theorem dX1_isDigitHere_10 : decode cX1_isDigitHere 10 = .ok (.invokevirtual 22, 3) := by decide +kernel
theorem dX1_isDigitHere_13 : decode cX1_isDigitHere 13 = .ok (.bipush 57, 2) := by decide +kernel
theorem dX1_isDigitHere_15 : decode cX1_isDigitHere 15 = .ok (.if_icmp .gt 7, 3) := by decide +kernel
theorem dX1_isDigitHere_18 : decode cX1_isDigitHere 18 = .ok (.iconst 1, 1) := by decide +kernel
theorem dX1_isDigitHere_19 : decode cX1_isDigitHere 19 = .ok (.goto 4, 3) := by decide +kernel
theorem dX1_isDigitHere_22 : decode cX1_isDigitHere 22 = .ok (.iconst 0, 1) := by decide +kernel
theorem dX1_isDigitHere_23 : decode cX1_isDigitHere 23 = .ok (.ireturn, 1) := by decide +kernel
theorem dX1_takeDigit_0 : decode cX1_takeDigit 0 = .ok (.aload_n 0, 1) := by decide +kernel
theorem dX1_takeDigit_1 : decode cX1_takeDigit 1 = .ok (.invokevirtual 26, 3) := by decide +kernel
theorem dX1_takeDigit_4 : decode cX1_takeDigit 4 = .ok (.bipush 48, 2) := by decide +kernel
theorem dX1_takeDigit_6 : decode cX1_takeDigit 6 = .ok (.isub, 1) := by decide +kernel
theorem dX1_takeDigit_7 : decode cX1_takeDigit 7 = .ok (.ireturn, 1) := by decide +kernel
theorem dX1_takeNumber_0 : decode cX1_takeNumber 0 = .ok (.aload_n 0, 1) := by decide +kernel
theorem dX1_takeNumber_1 : decode cX1_takeNumber 1 = .ok (.invokevirtual 29, 3) := by decide +kernel
theorem dX1_takeNumber_4 : decode cX1_takeNumber 4 = .ok (.istore_n 1, 1) := by decide +kernel
theorem dX1_takeNumber_5 : decode cX1_takeNumber 5 = .ok (.aload_n 0, 1) := by decide +kernel
theorem dX1_takeNumber_6 : decode cX1_takeNumber 6 = .ok (.invokevirtual 32, 3) := by decide +kernel
theorem dX1_takeNumber_9 : decode cX1_takeNumber 9 = .ok (.ifCond .eq 15, 3) := by decide +kernel
theorem dX1_takeNumber_12 : decode cX1_takeNumber 12 = .ok (.bipush 10, 2) := by decide +kernel
theorem dX1_takeNumber_14 : decode cX1_takeNumber 14 = .ok (.iload_n 1, 1) := by decide +kernel
theorem dX1_takeNumber_15 : decode cX1_takeNumber 15 = .ok (.imul, 1) := by decide +kernel
theorem dX1_takeNumber_16 : decode cX1_takeNumber 16 = .ok (.aload_n 0, 1) := by decide +kernel
theorem dX1_takeNumber_17 : decode cX1_takeNumber 17 = .ok (.invokevirtual 29, 3) := by decide +kernel
theorem dX1_takeNumber_20 : decode cX1_takeNumber 20 = .ok (.iadd, 1) := by decide +kernel
theorem dX1_takeNumber_21 : decode cX1_takeNumber 21 = .ok (.goto 4, 3) := by decide +kernel
theorem dX1_takeNumber_24 : decode cX1_takeNumber 24 = .ok (.iload_n 1, 1) := by decide +kernel
theorem dX1_takeNumber_25 : decode cX1_takeNumber 25 = .ok (.ireturn, 1) := by decide +kernel
theorem dX1_misfit_0 : decode cX1_misfit 0 = .ok (.aload_n 0, 1) := by decide +kernel
theorem dX1_misfit_1 : decode cX1_misfit 1 = .ok (.iconst 0, 1) := by decide +kernel
theorem dX1_misfit_2 : decode cX1_misfit 2 = .ok (.putfield 19, 3) := by decide +kernel
theorem dX1_misfit_5 : decode cX1_misfit 5 = .ok (.iconst 0, 1) := by decide +kernel
theorem dX1_misfit_6 : decode cX1_misfit 6 = .ok (.istore_n 1, 1) := by decide +kernel
theorem dX1_misfit_7 : decode cX1_misfit 7 = .ok (.iload_n 1, 1) := by decide +kernel
theorem dX1_misfit_8 : decode cX1_misfit 8 = .ok (.bipush 80, 2) := by decide +kernel
theorem dX1_misfit_10 : decode cX1_misfit 10 = .ok (.if_icmp .ge 65, 3) := by decide +kernel
theorem dX1_misfit_13 : decode cX1_misfit 13 = .ok (.aload_n 0, 1) := by decide +kernel
theorem dX1_misfit_14 : decode cX1_misfit 14 = .ok (.invokevirtual 22, 3) := by decide +kernel
theorem dX1_misfit_17 : decode cX1_misfit 17 = .ok (.invokestatic 36, 3) := by decide +kernel
theorem dX1_misfit_20 : decode cX1_misfit 20 = .ok (.astore_n 2, 1) := by decide +kernel
theorem dX1_misfit_21 : decode cX1_misfit 21 = .ok (.aload_n 2, 1) := by decide +kernel
theorem dX1_misfit_22 : decode cX1_misfit 22 = .ok (.invokevirtual 40, 3) := by decide +kernel
theorem dX1_misfit_25 : decode cX1_misfit 25 = .ok (.ifCond .eq 8, 3) := by decide +kernel
theorem dX1_misfit_28 : decode cX1_misfit 28 = .ok (.aload_n 0, 1) := by decide +kernel
theorem dX1_misfit_29 : decode cX1_misfit 29 = .ok (.getfield 19, 3) := by decide +kernel
theorem dX1_misfit_32 : decode cX1_misfit 32 = .ok (.ireturn, 1) := by decide +kernel
theorem dX1_misfit_33 : decode cX1_misfit 33 = .ok (.aload_n 0, 1) := by decide +kernel
theorem dX1_misfit_34 : decode cX1_misfit 34 = .ok (.dup, 1) := by decide +kernel
theorem dX1_misfit_35 : decode cX1_misfit 35 = .ok (.getfield 19, 3) := by decide +kernel
theorem dX1_misfit_38 : decode cX1_misfit 38 = .ok (.iconst 1, 1) := by decide +kernel
theorem dX1_misfit_39 : decode cX1_misfit 39 = .ok (.iadd, 1) := by decide +kernel
theorem dX1_misfit_40 : decode cX1_misfit 40 = .ok (.putfield 19, 3) := by decide +kernel
theorem dX1_misfit_43 : decode cX1_misfit 43 = .ok (.aload_n 0, 1) := by decide +kernel
theorem dX1_misfit_44 : decode cX1_misfit 44 = .ok (.aload_n 2, 1) := by decide +kernel
theorem dX1_misfit_45 : decode cX1_misfit 45 = .ok (.invokevirtual 45, 3) := by decide +kernel
theorem dX1_misfit_48 : decode cX1_misfit 48 = .ok (.ifCond .ne 8, 3) := by decide +kernel
theorem dX1_misfit_51 : decode cX1_misfit 51 = .ok (.aload_n 0, 1) := by decide +kernel
theorem dX1_misfit_52 : decode cX1_misfit 52 = .ok (.getfield 19, 3) := by decide +kernel
theorem dX1_misfit_55 : decode cX1_misfit 55 = .ok (.ireturn, 1) := by decide +kernel
theorem dX1_misfit_56 : decode cX1_misfit 56 = .ok (.aload_n 0, 1) := by decide +kernel
theorem dX1_misfit_57 : decode cX1_misfit 57 = .ok (.getfield 19, 3) := by decide +kernel
theorem dX1_misfit_60 : decode cX1_misfit 60 = .ok (.aload_n 0, 1) := by decide +kernel
theorem dX1_misfit_61 : decode cX1_misfit 61 = .ok (.getfield 15, 3) := by decide +kernel
theorem dX1_misfit_64 : decode cX1_misfit 64 = .ok (.if_icmp .lt 5, 3) := by decide +kernel
theorem dX1_misfit_67 : decode cX1_misfit 67 = .ok (.iconst (-1), 1) := by decide +kernel
theorem dX1_misfit_68 : decode cX1_misfit 68 = .ok (.ireturn, 1) := by decide +kernel
theorem dX1_misfit_69 : decode cX1_misfit 69 = .ok (.iinc 1 1, 3) := by decide +kernel
theorem dX1_misfit_72 : decode cX1_misfit 72 = .ok (.goto (-65), 3) := by decide +kernel
theorem dX1_misfit_75 : decode cX1_misfit 75 = .ok (.iconst (-1), 1) := by decide +kernel
theorem dX1_misfit_76 : decode cX1_misfit 76 = .ok (.ireturn, 1) := by decide +kernel
theorem dX1_formOf_0 : decode cX1_formOf 0 = .ok (.iload_n 0, 1) := by decide +kernel
theorem dX1_formOf_1 : decode cX1_formOf 1 = .ok (.lookupswitch 66 #[(98, 63), (112, 57), (116, 60), (119, 54), (121, 51)], 51) := by decide +kernel
theorem dX1_formOf_52 : decode cX1_formOf 52 = .ok (.ldc 49, 2) := by decide +kernel
theorem dX1_formOf_54 : decode cX1_formOf 54 = .ok (.areturn, 1) := by decide +kernel
theorem dX1_formOf_55 : decode cX1_formOf 55 = .ok (.ldc 51, 2) := by decide +kernel
theorem dX1_formOf_57 : decode cX1_formOf 57 = .ok (.areturn, 1) := by decide +kernel
theorem dX1_formOf_58 : decode cX1_formOf 58 = .ok (.ldc 53, 2) := by decide +kernel
theorem dX1_formOf_60 : decode cX1_formOf 60 = .ok (.areturn, 1) := by decide +kernel
theorem dX1_formOf_61 : decode cX1_formOf 61 = .ok (.ldc 55, 2) := by decide +kernel
theorem dX1_formOf_63 : decode cX1_formOf 63 = .ok (.areturn, 1) := by decide +kernel
theorem dX1_formOf_64 : decode cX1_formOf 64 = .ok (.ldc 57, 2) := by decide +kernel
theorem dX1_formOf_66 : decode cX1_formOf 66 = .ok (.areturn, 1) := by decide +kernel
theorem dX1_formOf_67 : decode cX1_formOf 67 = .ok (.ldc 59, 2) := by decide +kernel
theorem dX1_formOf_69 : decode cX1_formOf 69 = .ok (.areturn, 1) := by decide +kernel
theorem dX1_isOfForm_0 : decode cX1_isOfForm 0 = .ok (.iconst 0, 1) := by decide +kernel
theorem dX1_isOfForm_1 : decode cX1_isOfForm 1 = .ok (.istore_n 2, 1) := by decide +kernel
theorem dX1_isOfForm_2 : decode cX1_isOfForm 2 = .ok (.iload_n 2, 1) := by decide +kernel
theorem dX1_isOfForm_3 : decode cX1_isOfForm 3 = .ok (.aload_n 1, 1) := by decide +kernel
theorem dX1_isOfForm_4 : decode cX1_isOfForm 4 = .ok (.invokevirtual 61, 3) := by decide +kernel
theorem dX1_isOfForm_7 : decode cX1_isOfForm 7 = .ok (.if_icmp .ge 44, 3) := by decide +kernel
theorem dX1_isOfForm_10 : decode cX1_isOfForm 10 = .ok (.aload_n 1, 1) := by decide +kernel
theorem dX1_isOfForm_11 : decode cX1_isOfForm 11 = .ok (.iload_n 2, 1) := by decide +kernel
theorem dX1_isOfForm_12 : decode cX1_isOfForm 12 = .ok (.invokevirtual 64, 3) := by decide +kernel
theorem dX1_isOfForm_15 : decode cX1_isOfForm 15 = .ok (.istore_n 3, 1) := by decide +kernel
theorem dX1_isOfForm_16 : decode cX1_isOfForm 16 = .ok (.aload_n 0, 1) := by decide +kernel
theorem dX1_isOfForm_17 : decode cX1_isOfForm 17 = .ok (.iload_n 3, 1) := by decide +kernel
theorem dX1_isOfForm_18 : decode cX1_isOfForm 18 = .ok (.invokevirtual 68, 3) := by decide +kernel
theorem dX1_isOfForm_21 : decode cX1_isOfForm 21 = .ok (.ifCond .eq 16, 3) := by decide +kernel
theorem dX1_isOfForm_24 : decode cX1_isOfForm 24 = .ok (.aload_n 0, 1) := by decide +kernel
theorem dX1_isOfForm_25 : decode cX1_isOfForm 25 = .ok (.dup, 1) := by decide +kernel
theorem dX1_isOfForm_26 : decode cX1_isOfForm 26 = .ok (.getfield 19, 3) := by decide +kernel
theorem dX1_isOfForm_29 : decode cX1_isOfForm 29 = .ok (.iconst 1, 1) := by decide +kernel
theorem dX1_isOfForm_30 : decode cX1_isOfForm 30 = .ok (.iadd, 1) := by decide +kernel
theorem dX1_isOfForm_31 : decode cX1_isOfForm 31 = .ok (.putfield 19, 3) := by decide +kernel
theorem dX1_isOfForm_34 : decode cX1_isOfForm 34 = .ok (.goto 11, 3) := by decide +kernel
theorem dX1_isOfForm_37 : decode cX1_isOfForm 37 = .ok (.iload_n 3, 1) := by decide +kernel
theorem dX1_isOfForm_38 : decode cX1_isOfForm 38 = .ok (.bipush 63, 2) := by decide +kernel
theorem dX1_isOfForm_40 : decode cX1_isOfForm 40 = .ok (.if_icmp .eq 5, 3) := by decide +kernel
theorem dX1_isOfForm_43 : decode cX1_isOfForm 43 = .ok (.iconst 0, 1) := by decide +kernel
theorem dX1_isOfForm_44 : decode cX1_isOfForm 44 = .ok (.ireturn, 1) := by decide +kernel
theorem dX1_isOfForm_45 : decode cX1_isOfForm 45 = .ok (.iinc 2 1, 3) := by decide +kernel
theorem dX1_isOfForm_48 : decode cX1_isOfForm 48 = .ok (.goto (-46), 3) := by decide +kernel
theorem dX1_isOfForm_51 : decode cX1_isOfForm 51 = .ok (.iconst 1, 1) := by decide +kernel
theorem dX1_isOfForm_52 : decode cX1_isOfForm 52 = .ok (.ireturn, 1) := by decide +kernel
theorem dX1_fits_0 : decode cX1_fits 0 = .ok (.iload_n 1, 1) := by decide +kernel
theorem dX1_fits_1 : decode cX1_fits 1 = .ok (.lookupswitch 64 #[(43, 40), (57, 35), (63, 35)], 35) := by decide +kernel
theorem dX1_fits_36 : decode cX1_fits 36 = .ok (.aload_n 0, 1) := by decide +kernel
theorem dX1_fits_37 : decode cX1_fits 37 = .ok (.invokevirtual 32, 3) := by decide +kernel
theorem dX1_fits_40 : decode cX1_fits 40 = .ok (.ireturn, 1) := by decide +kernel
theorem dX1_fits_41 : decode cX1_fits 41 = .ok (.aload_n 0, 1) := by decide +kernel
theorem dX1_fits_42 : decode cX1_fits 42 = .ok (.invokevirtual 22, 3) := by decide +kernel
theorem dX1_fits_45 : decode cX1_fits 45 = .ok (.bipush 43, 2) := by decide +kernel
theorem dX1_fits_47 : decode cX1_fits 47 = .ok (.if_icmp .eq 12, 3) := by decide +kernel
theorem dX1_fits_50 : decode cX1_fits 50 = .ok (.aload_n 0, 1) := by decide +kernel
theorem dX1_fits_51 : decode cX1_fits 51 = .ok (.invokevirtual 22, 3) := by decide +kernel
theorem dX1_fits_54 : decode cX1_fits 54 = .ok (.bipush 45, 2) := by decide +kernel
theorem dX1_fits_56 : decode cX1_fits 56 = .ok (.if_icmp .ne 7, 3) := by decide +kernel
theorem dX1_fits_59 : decode cX1_fits 59 = .ok (.iconst 1, 1) := by decide +kernel
theorem dX1_fits_60 : decode cX1_fits 60 = .ok (.goto 4, 3) := by decide +kernel
theorem dX1_fits_63 : decode cX1_fits 63 = .ok (.iconst 0, 1) := by decide +kernel
theorem dX1_fits_64 : decode cX1_fits 64 = .ok (.ireturn, 1) := by decide +kernel
theorem dX1_fits_65 : decode cX1_fits 65 = .ok (.aload_n 0, 1) := by decide +kernel
theorem dX1_fits_66 : decode cX1_fits 66 = .ok (.invokevirtual 22, 3) := by decide +kernel
theorem dX1_fits_69 : decode cX1_fits 69 = .ok (.iload_n 1, 1) := by decide +kernel
theorem dX1_fits_70 : decode cX1_fits 70 = .ok (.if_icmp .ne 7, 3) := by decide +kernel
theorem dX1_fits_73 : decode cX1_fits 73 = .ok (.iconst 1, 1) := by decide +kernel
theorem dX1_fits_74 : decode cX1_fits 74 = .ok (.goto 4, 3) := by decide +kernel
theorem dX1_fits_77 : decode cX1_fits 77 = .ok (.iconst 0, 1) := by decide +kernel
theorem dX1_fits_78 : decode cX1_fits 78 = .ok (.ireturn, 1) := by decide +kernel
theorem dX1_readInto_0 : decode cX1_readInto 0 = .ok (.aload_n 0, 1) := by decide +kernel
theorem dX1_readInto_1 : decode cX1_readInto 1 = .ok (.invokevirtual 26, 3) := by decide +kernel
theorem dX1_readInto_4 : decode cX1_readInto 4 = .ok (.tableswitch 86 112 121 #[74, 86, 86, 86, 80, 86, 86, 65, 86, 56], 56) := by decide +kernel
theorem dX1_readInto_60 : decode cX1_readInto 60 = .ok (.aload_n 1, 1) := by decide +kernel
theorem dX1_readInto_61 : decode cX1_readInto 61 = .ok (.aload_n 0, 1) := by decide +kernel
theorem dX1_readInto_62 : decode cX1_readInto 62 = .ok (.invokevirtual 72, 3) := by decide +kernel
theorem dX1_readInto_65 : decode cX1_readInto 65 = .ok (.invokevirtual 75, 3) := by decide +kernel
theorem dX1_readInto_68 : decode cX1_readInto 68 = .ok (.ireturn, 1) := by decide +kernel
theorem dX1_readInto_69 : decode cX1_readInto 69 = .ok (.aload_n 1, 1) := by decide +kernel
theorem dX1_readInto_70 : decode cX1_readInto 70 = .ok (.aload_n 0, 1) := by decide +kernel
theorem dX1_readInto_71 : decode cX1_readInto 71 = .ok (.invokevirtual 81, 3) := by decide +kernel
theorem dX1_readInto_74 : decode cX1_readInto 74 = .ok (.invokevirtual 84, 3) := by decide +kernel
theorem dX1_readInto_77 : decode cX1_readInto 77 = .ok (.ireturn, 1) := by decide +kernel
theorem dX1_readInto_78 : decode cX1_readInto 78 = .ok (.aload_n 0, 1) := by decide +kernel
theorem dX1_readInto_79 : decode cX1_readInto 79 = .ok (.aload_n 1, 1) := by decide +kernel
theorem dX1_readInto_80 : decode cX1_readInto 80 = .ok (.invokevirtual 87, 3) := by decide +kernel
theorem dX1_readInto_83 : decode cX1_readInto 83 = .ok (.ireturn, 1) := by decide +kernel
theorem dX1_readInto_84 : decode cX1_readInto 84 = .ok (.aload_n 0, 1) := by decide +kernel
theorem dX1_readInto_85 : decode cX1_readInto 85 = .ok (.aload_n 1, 1) := by decide +kernel
theorem dX1_readInto_86 : decode cX1_readInto 86 = .ok (.invokevirtual 91, 3) := by decide +kernel
theorem dX1_readInto_89 : decode cX1_readInto 89 = .ok (.ireturn, 1) := by decide +kernel
theorem dX1_readInto_90 : decode cX1_readInto 90 = .ok (.aload_n 1, 1) := by decide +kernel
theorem dX1_readInto_91 : decode cX1_readInto 91 = .ok (.aload_n 0, 1) := by decide +kernel
theorem dX1_readInto_92 : decode cX1_readInto 92 = .ok (.invokevirtual 29, 3) := by decide +kernel
theorem dX1_readInto_95 : decode cX1_readInto 95 = .ok (.invokevirtual 94, 3) := by decide +kernel
theorem dX1_readInto_98 : decode cX1_readInto 98 = .ok (.ireturn, 1) := by decide +kernel
theorem dX1_takeSigned_0 : decode cX1_takeSigned 0 = .ok (.aload_n 0, 1) := by decide +kernel
theorem dX1_takeSigned_1 : decode cX1_takeSigned 1 = .ok (.invokevirtual 26, 3) := by decide +kernel
theorem dX1_takeSigned_4 : decode cX1_takeSigned 4 = .ok (.bipush 45, 2) := by decide +kernel
theorem dX1_takeSigned_6 : decode cX1_takeSigned 6 = .ok (.if_icmp .ne 7, 3) := by decide +kernel
theorem dX1_takeSigned_9 : decode cX1_takeSigned 9 = .ok (.iconst (-1), 1) := by decide +kernel
theorem dX1_takeSigned_10 : decode cX1_takeSigned 10 = .ok (.goto 4, 3) := by decide +kernel
theorem dX1_takeSigned_13 : decode cX1_takeSigned 13 = .ok (.iconst 1, 1) := by decide +kernel
theorem dX1_takeSigned_14 : decode cX1_takeSigned 14 = .ok (.istore_n 1, 1) := by decide +kernel
theorem dX1_takeSigned_15 : decode cX1_takeSigned 15 = .ok (.iload_n 1, 1) := by decide +kernel
theorem dX1_takeSigned_16 : decode cX1_takeSigned 16 = .ok (.aload_n 0, 1) := by decide +kernel
theorem dX1_takeSigned_17 : decode cX1_takeSigned 17 = .ok (.invokevirtual 29, 3) := by decide +kernel
theorem dX1_takeSigned_20 : decode cX1_takeSigned 20 = .ok (.imul, 1) := by decide +kernel
theorem dX1_takeSigned_21 : decode cX1_takeSigned 21 = .ok (.ireturn, 1) := by decide +kernel
theorem dX1_readPlayer_0 : decode cX1_readPlayer 0 = .ok (.aload_n 0, 1) := by decide +kernel
theorem dX1_readPlayer_1 : decode cX1_readPlayer 1 = .ok (.invokevirtual 72, 3) := by decide +kernel
theorem dX1_readPlayer_4 : decode cX1_readPlayer 4 = .ok (.istore_n 2, 1) := by decide +kernel
theorem dX1_readPlayer_5 : decode cX1_readPlayer 5 = .ok (.aload_n 0, 1) := by decide +kernel
theorem dX1_readPlayer_6 : decode cX1_readPlayer 6 = .ok (.invokevirtual 26, 3) := by decide +kernel
theorem dX1_readPlayer_9 : decode cX1_readPlayer 9 = .ok (.pop, 1) := by decide +kernel
theorem dX1_readPlayer_10 : decode cX1_readPlayer 10 = .ok (.aload_n 0, 1) := by decide +kernel
theorem dX1_readPlayer_11 : decode cX1_readPlayer 11 = .ok (.invokevirtual 29, 3) := by decide +kernel
theorem dX1_readPlayer_14 : decode cX1_readPlayer 14 = .ok (.istore_n 3, 1) := by decide +kernel
theorem dX1_readPlayer_15 : decode cX1_readPlayer 15 = .ok (.aload_n 1, 1) := by decide +kernel
theorem dX1_readPlayer_16 : decode cX1_readPlayer 16 = .ok (.iload_n 2, 1) := by decide +kernel
theorem dX1_readPlayer_17 : decode cX1_readPlayer 17 = .ok (.iload_n 3, 1) := by decide +kernel
theorem dX1_readPlayer_18 : decode cX1_readPlayer 18 = .ok (.aload_n 0, 1) := by decide +kernel
theorem dX1_readPlayer_19 : decode cX1_readPlayer 19 = .ok (.invokevirtual 29, 3) := by decide +kernel
theorem dX1_readPlayer_22 : decode cX1_readPlayer 22 = .ok (.invokevirtual 97, 3) := by decide +kernel
theorem dX1_readPlayer_25 : decode cX1_readPlayer 25 = .ok (.ireturn, 1) := by decide +kernel
theorem dX1_readTouch_0 : decode cX1_readTouch 0 = .ok (.aload_n 0, 1) := by decide +kernel
theorem dX1_readTouch_1 : decode cX1_readTouch 1 = .ok (.invokevirtual 29, 3) := by decide +kernel
theorem dX1_readTouch_4 : decode cX1_readTouch 4 = .ok (.istore_n 2, 1) := by decide +kernel
theorem dX1_readTouch_5 : decode cX1_readTouch 5 = .ok (.aload_n 0, 1) := by decide +kernel
theorem dX1_readTouch_6 : decode cX1_readTouch 6 = .ok (.invokevirtual 29, 3) := by decide +kernel
theorem dX1_readTouch_9 : decode cX1_readTouch 9 = .ok (.istore_n 3, 1) := by decide +kernel
theorem dX1_readTouch_10 : decode cX1_readTouch 10 = .ok (.aload_n 1, 1) := by decide +kernel
theorem dX1_readTouch_11 : decode cX1_readTouch 11 = .ok (.iload_n 2, 1) := by decide +kernel
theorem dX1_readTouch_12 : decode cX1_readTouch 12 = .ok (.iload_n 3, 1) := by decide +kernel
theorem dX1_readTouch_13 : decode cX1_readTouch 13 = .ok (.aload_n 0, 1) := by decide +kernel
theorem dX1_readTouch_14 : decode cX1_readTouch 14 = .ok (.invokevirtual 29, 3) := by decide +kernel
theorem dX1_readTouch_17 : decode cX1_readTouch 17 = .ok (.invokevirtual 101, 3) := by decide +kernel
theorem dX1_readTouch_20 : decode cX1_readTouch 20 = .ok (.ireturn, 1) := by decide +kernel
theorem dX2_init_0 : decode cX2_init 0 = .ok (.aload_n 0, 1) := by decide +kernel
theorem dX2_init_1 : decode cX2_init 1 = .ok (.invokespecial 1, 3) := by decide +kernel
theorem dX2_init_4 : decode cX2_init 4 = .ok (.aload_n 0, 1) := by decide +kernel
theorem dX2_init_5 : decode cX2_init 5 = .ok (.lconst 0, 1) := by decide +kernel
theorem dX2_init_6 : decode cX2_init 6 = .ok (.putfield 7, 3) := by decide +kernel
theorem dX2_init_9 : decode cX2_init 9 = .ok (.aload_n 0, 1) := by decide +kernel
theorem dX2_init_10 : decode cX2_init 10 = .ok (.lconst 1, 1) := by decide +kernel
theorem dX2_init_11 : decode cX2_init 11 = .ok (.putfield 13, 3) := by decide +kernel
theorem dX2_init_14 : decode cX2_init 14 = .ok (.return_, 1) := by decide +kernel
theorem dX2_become_0 : decode cX2_become 0 = .ok (.lload_n 1, 1) := by decide +kernel
theorem dX2_become_1 : decode cX2_become 1 = .ok (.lload_n 3, 1) := by decide +kernel
theorem dX2_become_2 : decode cX2_become 2 = .ok (.invokestatic 16, 3) := by decide +kernel
theorem dX2_become_5 : decode cX2_become 5 = .ok (.lstore 5, 2) := by decide +kernel
theorem dX2_become_7 : decode cX2_become 7 = .ok (.aload_n 0, 1) := by decide +kernel
theorem dX2_become_8 : decode cX2_become 8 = .ok (.lload 5, 2) := by decide +kernel
theorem dX2_become_10 : decode cX2_become 10 = .ok (.lconst 1, 1) := by decide +kernel
theorem dX2_become_11 : decode cX2_become 11 = .ok (.lcmp, 1) := by decide +kernel
theorem dX2_become_12 : decode cX2_become 12 = .ok (.ifCond .ge 7, 3) := by decide +kernel
theorem dX2_become_15 : decode cX2_become 15 = .ok (.lconst 0, 1) := by decide +kernel
theorem dX2_become_16 : decode cX2_become 16 = .ok (.goto 7, 3) := by decide +kernel
theorem dX2_become_19 : decode cX2_become 19 = .ok (.lload_n 1, 1) := by decide +kernel
theorem dX2_become_20 : decode cX2_become 20 = .ok (.lload 5, 2) := by decide +kernel
theorem dX2_become_22 : decode cX2_become 22 = .ok (.ldiv, 1) := by decide +kernel
theorem dX2_become_23 : decode cX2_become 23 = .ok (.putfield 7, 3) := by decide +kernel
theorem dX2_become_26 : decode cX2_become 26 = .ok (.aload_n 0, 1) := by decide +kernel
theorem dX2_become_27 : decode cX2_become 27 = .ok (.lload 5, 2) := by decide +kernel
theorem dX2_become_29 : decode cX2_become 29 = .ok (.lconst 1, 1) := by decide +kernel
theorem dX2_become_30 : decode cX2_become 30 = .ok (.lcmp, 1) := by decide +kernel
theorem dX2_become_31 : decode cX2_become 31 = .ok (.ifCond .ge 7, 3) := by decide +kernel
theorem dX2_become_34 : decode cX2_become 34 = .ok (.lconst 1, 1) := by decide +kernel
theorem dX2_become_35 : decode cX2_become 35 = .ok (.goto 7, 3) := by decide +kernel
theorem dX2_become_38 : decode cX2_become 38 = .ok (.lload_n 3, 1) := by decide +kernel
theorem dX2_become_39 : decode cX2_become 39 = .ok (.lload 5, 2) := by decide +kernel
theorem dX2_become_41 : decode cX2_become 41 = .ok (.ldiv, 1) := by decide +kernel
theorem dX2_become_42 : decode cX2_become 42 = .ok (.putfield 13, 3) := by decide +kernel
theorem dX2_become_45 : decode cX2_become 45 = .ok (.return_, 1) := by decide +kernel
theorem dX2_part_0 : decode cX2_part 0 = .ok (.iload_n 1, 1) := by decide +kernel
theorem dX2_part_1 : decode cX2_part 1 = .ok (.ifCond .ne 10, 3) := by decide +kernel
theorem dX2_part_4 : decode cX2_part 4 = .ok (.aload_n 0, 1) := by decide +kernel
theorem dX2_part_5 : decode cX2_part 5 = .ok (.getfield 7, 3) := by decide +kernel
theorem dX2_part_8 : decode cX2_part 8 = .ok (.goto 7, 3) := by decide +kernel
theorem dX2_part_11 : decode cX2_part 11 = .ok (.aload_n 0, 1) := by decide +kernel
theorem dX2_part_12 : decode cX2_part 12 = .ok (.getfield 13, 3) := by decide +kernel
theorem dX2_part_15 : decode cX2_part 15 = .ok (.lreturn, 1) := by decide +kernel
theorem dX2_commonDivisor_0 : decode cX2_commonDivisor 0 = .ok (.lload_n 2, 1) := by decide +kernel
theorem dX2_commonDivisor_1 : decode cX2_commonDivisor 1 = .ok (.lstore 4, 2) := by decide +kernel
theorem dX2_commonDivisor_3 : decode cX2_commonDivisor 3 = .ok (.lload_n 0, 1) := by decide +kernel
theorem dX2_commonDivisor_4 : decode cX2_commonDivisor 4 = .ok (.lstore 6, 2) := by decide +kernel
theorem dX2_commonDivisor_6 : decode cX2_commonDivisor 6 = .ok (.iconst 0, 1) := by decide +kernel
theorem dX2_commonDivisor_7 : decode cX2_commonDivisor 7 = .ok (.istore 8, 2) := by decide +kernel
theorem dX2_commonDivisor_9 : decode cX2_commonDivisor 9 = .ok (.iload 8, 2) := by decide +kernel
theorem dX2_commonDivisor_11 : decode cX2_commonDivisor 11 = .ok (.sipush 200, 3) := by decide +kernel
theorem dX2_commonDivisor_14 : decode cX2_commonDivisor 14 = .ok (.if_icmp .ge 31, 3) := by decide +kernel
theorem dX2_commonDivisor_17 : decode cX2_commonDivisor 17 = .ok (.lload 6, 2) := by decide +kernel
theorem dX2_commonDivisor_19 : decode cX2_commonDivisor 19 = .ok (.lconst 0, 1) := by decide +kernel
theorem dX2_commonDivisor_20 : decode cX2_commonDivisor 20 = .ok (.lcmp, 1) := by decide +kernel
theorem dX2_commonDivisor_21 : decode cX2_commonDivisor 21 = .ok (.ifCond .eq 24, 3) := by decide +kernel
theorem dX2_commonDivisor_24 : decode cX2_commonDivisor 24 = .ok (.lload 4, 2) := by decide +kernel
theorem dX2_commonDivisor_26 : decode cX2_commonDivisor 26 = .ok (.lload 6, 2) := by decide +kernel
theorem dX2_commonDivisor_28 : decode cX2_commonDivisor 28 = .ok (.lrem, 1) := by decide +kernel
theorem dX2_commonDivisor_29 : decode cX2_commonDivisor 29 = .ok (.lstore 9, 2) := by decide +kernel
theorem dX2_commonDivisor_31 : decode cX2_commonDivisor 31 = .ok (.lload 6, 2) := by decide +kernel
theorem dX2_commonDivisor_33 : decode cX2_commonDivisor 33 = .ok (.lstore 4, 2) := by decide +kernel
theorem dX2_commonDivisor_35 : decode cX2_commonDivisor 35 = .ok (.lload 9, 2) := by decide +kernel
theorem dX2_commonDivisor_37 : decode cX2_commonDivisor 37 = .ok (.lstore 6, 2) := by decide +kernel
theorem dX2_commonDivisor_39 : decode cX2_commonDivisor 39 = .ok (.iinc 8 1, 3) := by decide +kernel
theorem dX2_commonDivisor_42 : decode cX2_commonDivisor 42 = .ok (.goto (-33), 3) := by decide +kernel
theorem dX2_commonDivisor_45 : decode cX2_commonDivisor 45 = .ok (.lload 4, 2) := by decide +kernel
theorem dX2_commonDivisor_47 : decode cX2_commonDivisor 47 = .ok (.lreturn, 1) := by decide +kernel
theorem dX3_init_0 : decode cX3_init 0 = .ok (.aload_n 0, 1) := by decide +kernel
theorem dX3_init_1 : decode cX3_init 1 = .ok (.invokespecial 3, 3) := by decide +kernel
theorem dX3_init_4 : decode cX3_init 4 = .ok (.aload_n 0, 1) := by decide +kernel
theorem dX3_init_5 : decode cX3_init 5 = .ok (.iload_n 1, 1) := by decide +kernel
theorem dX3_init_6 : decode cX3_init 6 = .ok (.putfield 9, 3) := by decide +kernel
theorem dX3_init_9 : decode cX3_init 9 = .ok (.aload_n 0, 1) := by decide +kernel
theorem dX3_init_10 : decode cX3_init 10 = .ok (.iload_n 2, 1) := by decide +kernel
theorem dX3_init_11 : decode cX3_init 11 = .ok (.putfield 15, 3) := by decide +kernel
theorem dX3_init_14 : decode cX3_init 14 = .ok (.aload_n 0, 1) := by decide +kernel
theorem dX3_init_15 : decode cX3_init 15 = .ok (.iload_n 3, 1) := by decide +kernel
theorem dX3_init_16 : decode cX3_init 16 = .ok (.putfield 18, 3) := by decide +kernel
theorem dX3_init_19 : decode cX3_init 19 = .ok (.return_, 1) := by decide +kernel
theorem dX3_air_0 : decode cX3_air 0 = .ok (.aload_n 0, 1) := by decide +kernel
theorem dX3_air_1 : decode cX3_air 1 = .ok (.getfield 18, 3) := by decide +kernel
theorem dX3_air_4 : decode cX3_air 4 = .ok (.iconst 2, 1) := by decide +kernel
theorem dX3_air_5 : decode cX3_air 5 = .ok (.if_icmp .ge 7, 3) := by decide +kernel
theorem dX3_air_8 : decode cX3_air 8 = .ok (.iconst 1, 1) := by decide +kernel
theorem dX3_air_9 : decode cX3_air 9 = .ok (.goto 9, 3) := by decide +kernel
theorem dX3_air_12 : decode cX3_air 12 = .ok (.aload_n 0, 1) := by decide +kernel
theorem dX3_air_13 : decode cX3_air 13 = .ok (.getfield 18, 3) := by decide +kernel
theorem dX3_air_16 : decode cX3_air 16 = .ok (.iconst 2, 1) := by decide +kernel
theorem dX3_air_17 : decode cX3_air 17 = .ok (.idiv, 1) := by decide +kernel
theorem dX3_air_18 : decode cX3_air 18 = .ok (.istore_n 1, 1) := by decide +kernel
theorem dX3_air_19 : decode cX3_air 19 = .ok (.aload_n 0, 1) := by decide +kernel
theorem dX3_air_20 : decode cX3_air 20 = .ok (.getfield 9, 3) := by decide +kernel
theorem dX3_air_23 : decode cX3_air 23 = .ok (.tableswitch 42 1 4 #[29, 35, 31, 35], 29) := by decide +kernel
theorem dX3_air_52 : decode cX3_air 52 = .ok (.iload_n 1, 1) := by decide +kernel
theorem dX3_air_53 : decode cX3_air 53 = .ok (.ireturn, 1) := by decide +kernel
theorem dX3_air_54 : decode cX3_air 54 = .ok (.iload_n 1, 1) := by decide +kernel
theorem dX3_air_55 : decode cX3_air 55 = .ok (.iconst 1, 1) := by decide +kernel
theorem dX3_air_56 : decode cX3_air 56 = .ok (.iadd, 1) := by decide +kernel
theorem dX3_air_57 : decode cX3_air 57 = .ok (.ireturn, 1) := by decide +kernel
theorem dX3_air_58 : decode cX3_air 58 = .ok (.aload_n 0, 1) := by decide +kernel
theorem dX3_air_59 : decode cX3_air 59 = .ok (.getfield 18, 3) := by decide +kernel
theorem dX3_air_62 : decode cX3_air 62 = .ok (.iconst 1, 1) := by decide +kernel
theorem dX3_air_63 : decode cX3_air 63 = .ok (.iadd, 1) := by decide +kernel
theorem dX3_air_64 : decode cX3_air 64 = .ok (.ireturn, 1) := by decide +kernel
theorem dX3_air_65 : decode cX3_air 65 = .ok (.aload_n 0, 1) := by decide +kernel
theorem dX3_air_66 : decode cX3_air 66 = .ok (.getfield 18, 3) := by decide +kernel
theorem dX3_air_69 : decode cX3_air 69 = .ok (.ireturn, 1) := by decide +kernel
theorem dX3_errorBy_0 : decode cX3_errorBy 0 = .ok (.iconst 4, 1) := by decide +kernel
theorem dX3_errorBy_1 : decode cX3_errorBy 1 = .ok (.iload_n 2, 1) := by decide +kernel
theorem dX3_errorBy_2 : decode cX3_errorBy 2 = .ok (.bipush 20, 2) := by decide +kernel
theorem dX3_errorBy_4 : decode cX3_errorBy 4 = .ok (.idiv, 1) := by decide +kernel
theorem dX3_errorBy_5 : decode cX3_errorBy 5 = .ok (.iadd, 1) := by decide +kernel
theorem dX3_errorBy_6 : decode cX3_errorBy 6 = .ok (.iload_n 1, 1) := by decide +kernel
theorem dX3_errorBy_7 : decode cX3_errorBy 7 = .ok (.iconst 2, 1) := by decide +kernel
theorem dX3_errorBy_8 : decode cX3_errorBy 8 = .ok (.idiv, 1) := by decide +kernel
theorem dX3_errorBy_9 : decode cX3_errorBy 9 = .ok (.isub, 1) := by decide +kernel
theorem dX3_errorBy_10 : decode cX3_errorBy 10 = .ok (.istore 4, 2) := by decide +kernel
theorem dX3_errorBy_12 : decode cX3_errorBy 12 = .ok (.iload 4, 2) := by decide +kernel
theorem dX3_errorBy_14 : decode cX3_errorBy 14 = .ok (.ifCond .ge 7, 3) := by decide +kernel
theorem dX3_errorBy_17 : decode cX3_errorBy 17 = .ok (.iconst 0, 1) := by decide +kernel
theorem dX3_errorBy_18 : decode cX3_errorBy 18 = .ok (.goto 5, 3) := by decide +kernel
theorem dX3_errorBy_21 : decode cX3_errorBy 21 = .ok (.iload 4, 2) := by decide +kernel
theorem dX3_errorBy_23 : decode cX3_errorBy 23 = .ok (.istore 5, 2) := by decide +kernel
theorem dX3_errorBy_25 : decode cX3_errorBy 25 = .ok (.aload_n 0, 1) := by decide +kernel
theorem dX3_errorBy_26 : decode cX3_errorBy 26 = .ok (.getfield 9, 3) := by decide +kernel
theorem dX3_errorBy_29 : decode cX3_errorBy 29 = .ok (.tableswitch 88 1 5 #[35, 40, 50, 57, 74], 35) := by decide +kernel
theorem dX3_errorBy_64 : decode cX3_errorBy 64 = .ok (.iload 5, 2) := by decide +kernel
theorem dX3_errorBy_66 : decode cX3_errorBy 66 = .ok (.iconst 1, 1) := by decide +kernel
theorem dX3_errorBy_67 : decode cX3_errorBy 67 = .ok (.iadd, 1) := by decide +kernel
theorem dX3_errorBy_68 : decode cX3_errorBy 68 = .ok (.ireturn, 1) := by decide +kernel
theorem dX3_errorBy_69 : decode cX3_errorBy 69 = .ok (.iload 5, 2) := by decide +kernel
theorem dX3_errorBy_71 : decode cX3_errorBy 71 = .ok (.aload_n 0, 1) := by decide +kernel
theorem dX3_errorBy_72 : decode cX3_errorBy 72 = .ok (.getfield 18, 3) := by decide +kernel
theorem dX3_errorBy_75 : decode cX3_errorBy 75 = .ok (.iconst 3, 1) := by decide +kernel
theorem dX3_errorBy_76 : decode cX3_errorBy 76 = .ok (.idiv, 1) := by decide +kernel
theorem dX3_errorBy_77 : decode cX3_errorBy 77 = .ok (.iadd, 1) := by decide +kernel
theorem dX3_errorBy_78 : decode cX3_errorBy 78 = .ok (.ireturn, 1) := by decide +kernel
theorem dX3_errorBy_79 : decode cX3_errorBy 79 = .ok (.iload 5, 2) := by decide +kernel
theorem dX3_errorBy_81 : decode cX3_errorBy 81 = .ok (.iconst 1, 1) := by decide +kernel
theorem dX3_errorBy_82 : decode cX3_errorBy 82 = .ok (.iadd, 1) := by decide +kernel
theorem dX3_errorBy_83 : decode cX3_errorBy 83 = .ok (.iconst 2, 1) := by decide +kernel
theorem dX3_errorBy_84 : decode cX3_errorBy 84 = .ok (.idiv, 1) := by decide +kernel
theorem dX3_errorBy_85 : decode cX3_errorBy 85 = .ok (.ireturn, 1) := by decide +kernel
theorem dX3_errorBy_86 : decode cX3_errorBy 86 = .ok (.iload 5, 2) := by decide +kernel
theorem dX3_errorBy_88 : decode cX3_errorBy 88 = .ok (.aload_n 0, 1) := by decide +kernel
theorem dX3_errorBy_89 : decode cX3_errorBy 89 = .ok (.getfield 18, 3) := by decide +kernel
theorem dX3_errorBy_92 : decode cX3_errorBy 92 = .ok (.iconst 3, 1) := by decide +kernel
theorem dX3_errorBy_93 : decode cX3_errorBy 93 = .ok (.idiv, 1) := by decide +kernel
theorem dX3_errorBy_94 : decode cX3_errorBy 94 = .ok (.iadd, 1) := by decide +kernel
theorem dX3_errorBy_95 : decode cX3_errorBy 95 = .ok (.aload_n 0, 1) := by decide +kernel
theorem dX3_errorBy_96 : decode cX3_errorBy 96 = .ok (.getfield 15, 3) := by decide +kernel
theorem dX3_errorBy_99 : decode cX3_errorBy 99 = .ok (.iconst 4, 1) := by decide +kernel
theorem dX3_errorBy_100 : decode cX3_errorBy 100 = .ok (.idiv, 1) := by decide +kernel
theorem dX3_errorBy_101 : decode cX3_errorBy 101 = .ok (.iadd, 1) := by decide +kernel
theorem dX3_errorBy_102 : decode cX3_errorBy 102 = .ok (.ireturn, 1) := by decide +kernel
theorem dX3_errorBy_103 : decode cX3_errorBy 103 = .ok (.iload_n 3, 1) := by decide +kernel
theorem dX3_errorBy_104 : decode cX3_errorBy 104 = .ok (.ifCond .eq 10, 3) := by decide +kernel
theorem dX3_errorBy_107 : decode cX3_errorBy 107 = .ok (.iload 5, 2) := by decide +kernel
theorem dX3_errorBy_109 : decode cX3_errorBy 109 = .ok (.iconst 2, 1) := by decide +kernel
theorem dX3_errorBy_110 : decode cX3_errorBy 110 = .ok (.iadd, 1) := by decide +kernel
theorem dX3_errorBy_111 : decode cX3_errorBy 111 = .ok (.goto 5, 3) := by decide +kernel
theorem dX3_errorBy_114 : decode cX3_errorBy 114 = .ok (.iload 5, 2) := by decide +kernel
theorem dX3_errorBy_116 : decode cX3_errorBy 116 = .ok (.ireturn, 1) := by decide +kernel
theorem dX3_errorBy_117 : decode cX3_errorBy 117 = .ok (.iload 5, 2) := by decide +kernel
theorem dX3_errorBy_119 : decode cX3_errorBy 119 = .ok (.ireturn, 1) := by decide +kernel
theorem dX3_drift_0 : decode cX3_drift 0 = .ok (.iload_n 1, 1) := by decide +kernel
theorem dX3_drift_1 : decode cX3_drift 1 = .ok (.aload_n 0, 1) := by decide +kernel
theorem dX3_drift_2 : decode cX3_drift 2 = .ok (.invokevirtual 21, 3) := by decide +kernel
theorem dX3_drift_5 : decode cX3_drift 5 = .ok (.imul, 1) := by decide +kernel
theorem dX3_drift_6 : decode cX3_drift 6 = .ok (.iconst 4, 1) := by decide +kernel
theorem dX3_drift_7 : decode cX3_drift 7 = .ok (.idiv, 1) := by decide +kernel
theorem dX3_drift_8 : decode cX3_drift 8 = .ok (.istore_n 2, 1) := by decide +kernel
theorem dX3_drift_9 : decode cX3_drift 9 = .ok (.aload_n 0, 1) := by decide +kernel
theorem dX3_drift_10 : decode cX3_drift 10 = .ok (.getfield 9, 3) := by decide +kernel
theorem dX3_drift_13 : decode cX3_drift 13 = .ok (.tableswitch 65 1 5 #[35, 37, 35, 41, 61], 35) := by decide +kernel
theorem dX3_drift_48 : decode cX3_drift 48 = .ok (.iconst 0, 1) := by decide +kernel
theorem dX3_drift_49 : decode cX3_drift 49 = .ok (.ireturn, 1) := by decide +kernel
theorem dX3_drift_50 : decode cX3_drift 50 = .ok (.iconst 2, 1) := by decide +kernel
theorem dX3_drift_51 : decode cX3_drift 51 = .ok (.iload_n 2, 1) := by decide +kernel
theorem dX3_drift_52 : decode cX3_drift 52 = .ok (.imul, 1) := by decide +kernel
theorem dX3_drift_53 : decode cX3_drift 53 = .ok (.ireturn, 1) := by decide +kernel
theorem dX3_drift_54 : decode cX3_drift 54 = .ok (.iconst 2, 1) := by decide +kernel
theorem dX3_drift_55 : decode cX3_drift 55 = .ok (.iload_n 2, 1) := by decide +kernel
theorem dX3_drift_56 : decode cX3_drift 56 = .ok (.imul, 1) := by decide +kernel
theorem dX3_drift_57 : decode cX3_drift 57 = .ok (.aload_n 0, 1) := by decide +kernel
theorem dX3_drift_58 : decode cX3_drift 58 = .ok (.getfield 15, 3) := by decide +kernel
theorem dX3_drift_61 : decode cX3_drift 61 = .ok (.iconst 2, 1) := by decide +kernel
theorem dX3_drift_62 : decode cX3_drift 62 = .ok (.irem, 1) := by decide +kernel
theorem dX3_drift_63 : decode cX3_drift 63 = .ok (.iconst 1, 1) := by decide +kernel
theorem dX3_drift_64 : decode cX3_drift 64 = .ok (.if_icmp .ne 7, 3) := by decide +kernel
theorem dX3_drift_67 : decode cX3_drift 67 = .ok (.iconst 1, 1) := by decide +kernel
theorem dX3_drift_68 : decode cX3_drift 68 = .ok (.goto 4, 3) := by decide +kernel
theorem dX3_drift_71 : decode cX3_drift 71 = .ok (.iconst (-1), 1) := by decide +kernel
theorem dX3_drift_72 : decode cX3_drift 72 = .ok (.iadd, 1) := by decide +kernel
theorem dX3_drift_73 : decode cX3_drift 73 = .ok (.ireturn, 1) := by decide +kernel
theorem dX3_drift_74 : decode cX3_drift 74 = .ok (.iload_n 2, 1) := by decide +kernel
theorem dX3_drift_75 : decode cX3_drift 75 = .ok (.iconst 2, 1) := by decide +kernel
theorem dX3_drift_76 : decode cX3_drift 76 = .ok (.idiv, 1) := by decide +kernel
theorem dX3_drift_77 : decode cX3_drift 77 = .ok (.ireturn, 1) := by decide +kernel
theorem dX3_drift_78 : decode cX3_drift 78 = .ok (.iload_n 2, 1) := by decide +kernel
theorem dX3_drift_79 : decode cX3_drift 79 = .ok (.ireturn, 1) := by decide +kernel
theorem dX3_tires_0 : decode cX3_tires 0 = .ok (.aload_n 0, 1) := by decide +kernel
theorem dX3_tires_1 : decode cX3_tires 1 = .ok (.getfield 9, 3) := by decide +kernel
theorem dX3_tires_4 : decode cX3_tires 4 = .ok (.tableswitch 39 2 4 #[28, 30, 32], 28) := by decide +kernel
theorem dX3_tires_32 : decode cX3_tires 32 = .ok (.iconst 2, 1) := by decide +kernel
theorem dX3_tires_33 : decode cX3_tires 33 = .ok (.ireturn, 1) := by decide +kernel
theorem dX3_tires_34 : decode cX3_tires 34 = .ok (.iconst 0, 1) := by decide +kernel
theorem dX3_tires_35 : decode cX3_tires 35 = .ok (.ireturn, 1) := by decide +kernel
theorem dX3_tires_36 : decode cX3_tires 36 = .ok (.iconst 2, 1) := by decide +kernel
theorem dX3_tires_37 : decode cX3_tires 37 = .ok (.aload_n 0, 1) := by decide +kernel
theorem dX3_tires_38 : decode cX3_tires 38 = .ok (.getfield 15, 3) := by decide +kernel
theorem dX3_tires_41 : decode cX3_tires 41 = .ok (.iadd, 1) := by decide +kernel
theorem dX3_tires_42 : decode cX3_tires 42 = .ok (.ireturn, 1) := by decide +kernel
theorem dX3_tires_43 : decode cX3_tires 43 = .ok (.iconst 1, 1) := by decide +kernel
theorem dX3_tires_44 : decode cX3_tires 44 = .ok (.ireturn, 1) := by decide +kernel
theorem dX4_init_0 : decode cX4_init 0 = .ok (.aload_n 0, 1) := by decide +kernel
theorem dX4_init_1 : decode cX4_init 1 = .ok (.invokespecial 1, 3) := by decide +kernel
theorem dX4_init_4 : decode cX4_init 4 = .ok (.aload_n 0, 1) := by decide +kernel
theorem dX4_init_5 : decode cX4_init 5 = .ok (.new 7, 3) := by decide +kernel
theorem dX4_init_8 : decode cX4_init 8 = .ok (.dup, 1) := by decide +kernel
theorem dX4_init_9 : decode cX4_init 9 = .ok (.invokespecial 9, 3) := by decide +kernel
theorem dX4_init_12 : decode cX4_init 12 = .ok (.putfield 10, 3) := by decide +kernel
theorem dX4_init_15 : decode cX4_init 15 = .ok (.aload_n 0, 1) := by decide +kernel
theorem dX4_init_16 : decode cX4_init 16 = .ok (.new 7, 3) := by decide +kernel
theorem dX4_init_19 : decode cX4_init 19 = .ok (.dup, 1) := by decide +kernel
theorem dX4_init_20 : decode cX4_init 20 = .ok (.invokespecial 9, 3) := by decide +kernel
theorem dX4_init_23 : decode cX4_init 23 = .ok (.putfield 16, 3) := by decide +kernel
theorem dX4_init_26 : decode cX4_init 26 = .ok (.aload_n 0, 1) := by decide +kernel
theorem dX4_init_27 : decode cX4_init 27 = .ok (.new 7, 3) := by decide +kernel
theorem dX4_init_30 : decode cX4_init 30 = .ok (.dup, 1) := by decide +kernel
theorem dX4_init_31 : decode cX4_init 31 = .ok (.invokespecial 9, 3) := by decide +kernel
theorem dX4_init_34 : decode cX4_init 34 = .ok (.putfield 19, 3) := by decide +kernel
theorem dX4_init_37 : decode cX4_init 37 = .ok (.aload_n 0, 1) := by decide +kernel
theorem dX4_init_38 : decode cX4_init 38 = .ok (.iconst 0, 1) := by decide +kernel
theorem dX4_init_39 : decode cX4_init 39 = .ok (.putfield 22, 3) := by decide +kernel
theorem dX4_init_42 : decode cX4_init 42 = .ok (.aload_n 0, 1) := by decide +kernel
theorem dX4_init_43 : decode cX4_init 43 = .ok (.new 26, 3) := by decide +kernel
theorem dX4_init_46 : decode cX4_init 46 = .ok (.dup, 1) := by decide +kernel
theorem dX4_init_47 : decode cX4_init 47 = .ok (.invokespecial 28, 3) := by decide +kernel
theorem dX4_init_50 : decode cX4_init 50 = .ok (.putfield 29, 3) := by decide +kernel
theorem dX4_init_53 : decode cX4_init 53 = .ok (.aload_n 0, 1) := by decide +kernel
theorem dX4_init_54 : decode cX4_init 54 = .ok (.bipush 8, 2) := by decide +kernel
theorem dX4_init_56 : decode cX4_init 56 = .ok (.newarray .int, 2) := by decide +kernel
theorem dX4_init_58 : decode cX4_init 58 = .ok (.putfield 33, 3) := by decide +kernel
theorem dX4_init_61 : decode cX4_init 61 = .ok (.aload_n 0, 1) := by decide +kernel
theorem dX4_init_62 : decode cX4_init 62 = .ok (.iconst 0, 1) := by decide +kernel
theorem dX4_init_63 : decode cX4_init 63 = .ok (.putfield 37, 3) := by decide +kernel
theorem dX4_init_66 : decode cX4_init 66 = .ok (.aload_n 0, 1) := by decide +kernel
theorem dX4_init_67 : decode cX4_init 67 = .ok (.bipush 7, 2) := by decide +kernel
theorem dX4_init_69 : decode cX4_init 69 = .ok (.newarray .int, 2) := by decide +kernel
theorem dX4_init_71 : decode cX4_init 71 = .ok (.putfield 41, 3) := by decide +kernel
theorem dX4_init_74 : decode cX4_init 74 = .ok (.aload_n 0, 1) := by decide +kernel
theorem dX4_init_75 : decode cX4_init 75 = .ok (.new 44, 3) := by decide +kernel
theorem dX4_init_78 : decode cX4_init 78 = .ok (.dup, 1) := by decide +kernel
theorem dX4_init_79 : decode cX4_init 79 = .ok (.invokespecial 46, 3) := by decide +kernel
theorem dX4_init_82 : decode cX4_init 82 = .ok (.putfield 47, 3) := by decide +kernel
theorem dX4_init_85 : decode cX4_init 85 = .ok (.return_, 1) := by decide +kernel
theorem dX4_feed_0 : decode cX4_feed 0 = .ok (.iload_n 1, 1) := by decide +kernel
theorem dX4_feed_1 : decode cX4_feed 1 = .ok (.ifCond .ge 10, 3) := by decide +kernel
theorem dX4_feed_4 : decode cX4_feed 4 = .ok (.aload_n 0, 1) := by decide +kernel
theorem dX4_feed_5 : decode cX4_feed 5 = .ok (.bipush (-4), 2) := by decide +kernel
theorem dX4_feed_7 : decode cX4_feed 7 = .ok (.invokevirtual 51, 3) := by decide +kernel
theorem dX4_feed_10 : decode cX4_feed 10 = .ok (.ireturn, 1) := by decide +kernel
theorem dX4_feed_11 : decode cX4_feed 11 = .ok (.iload_n 1, 1) := by decide +kernel
theorem dX4_feed_12 : decode cX4_feed 12 = .ok (.sipush 255, 3) := by decide +kernel
theorem dX4_feed_15 : decode cX4_feed 15 = .ok (.if_icmp .gt 15, 3) := by decide +kernel
theorem dX4_feed_18 : decode cX4_feed 18 = .ok (.aload_n 0, 1) := by decide +kernel
theorem dX4_feed_19 : decode cX4_feed 19 = .ok (.getfield 29, 3) := by decide +kernel
theorem dX4_feed_22 : decode cX4_feed 22 = .ok (.getfield 55, 3) := by decide +kernel
theorem dX4_feed_25 : decode cX4_feed 25 = .ok (.bipush 80, 2) := by decide +kernel
theorem dX4_feed_27 : decode cX4_feed 27 = .ok (.if_icmp .lt 10, 3) := by decide +kernel
theorem dX4_feed_30 : decode cX4_feed 30 = .ok (.aload_n 0, 1) := by decide +kernel
theorem dX4_feed_31 : decode cX4_feed 31 = .ok (.bipush (-6), 2) := by decide +kernel
theorem dX4_feed_33 : decode cX4_feed 33 = .ok (.invokevirtual 51, 3) := by decide +kernel
theorem dX4_feed_36 : decode cX4_feed 36 = .ok (.ireturn, 1) := by decide +kernel
theorem dX4_feed_37 : decode cX4_feed 37 = .ok (.aload_n 0, 1) := by decide +kernel
theorem dX4_feed_38 : decode cX4_feed 38 = .ok (.getfield 29, 3) := by decide +kernel
theorem dX4_feed_41 : decode cX4_feed 41 = .ok (.iload_n 1, 1) := by decide +kernel
theorem dX4_feed_42 : decode cX4_feed 42 = .ok (.invokevirtual 58, 3) := by decide +kernel
theorem dX4_feed_45 : decode cX4_feed 45 = .ok (.aload_n 0, 1) := by decide +kernel
theorem dX4_feed_46 : decode cX4_feed 46 = .ok (.getfield 29, 3) := by decide +kernel
theorem dX4_feed_49 : decode cX4_feed 49 = .ok (.getfield 55, 3) := by decide +kernel
theorem dX4_feed_52 : decode cX4_feed 52 = .ok (.ireturn, 1) := by decide +kernel
theorem dX4_lane_0 : decode cX4_lane 0 = .ok (.aload_n 0, 1) := by decide +kernel
theorem dX4_lane_1 : decode cX4_lane 1 = .ok (.invokevirtual 62, 3) := by decide +kernel
theorem dX4_lane_4 : decode cX4_lane 4 = .ok (.istore_n 1, 1) := by decide +kernel
theorem dX4_lane_5 : decode cX4_lane 5 = .ok (.aload_n 0, 1) := by decide +kernel
theorem dX4_lane_6 : decode cX4_lane 6 = .ok (.getfield 29, 3) := by decide +kernel
theorem dX4_lane_9 : decode cX4_lane 9 = .ok (.iconst 0, 1) := by decide +kernel
theorem dX4_lane_10 : decode cX4_lane 10 = .ok (.putfield 55, 3) := by decide +kernel
theorem dX4_lane_13 : decode cX4_lane 13 = .ok (.iload_n 1, 1) := by decide +kernel
theorem dX4_lane_14 : decode cX4_lane 14 = .ok (.ireturn, 1) := by decide +kernel
theorem dX4_player_0 : decode cX4_player 0 = .ok (.aload_n 0, 1) := by decide +kernel
theorem dX4_player_1 : decode cX4_player 1 = .ok (.getfield 10, 3) := by decide +kernel
theorem dX4_player_4 : decode cX4_player 4 = .ok (.iload_n 1, 1) := by decide +kernel
theorem dX4_player_5 : decode cX4_player 5 = .ok (.invokevirtual 66, 3) := by decide +kernel
theorem dX4_player_8 : decode cX4_player 8 = .ok (.ifCond .ne 9, 3) := by decide +kernel
theorem dX4_player_11 : decode cX4_player 11 = .ok (.aload_n 0, 1) := by decide +kernel
theorem dX4_player_12 : decode cX4_player 12 = .ok (.iconst (-1), 1) := by decide +kernel
theorem dX4_player_13 : decode cX4_player 13 = .ok (.invokevirtual 51, 3) := by decide +kernel
theorem dX4_player_16 : decode cX4_player 16 = .ok (.ireturn, 1) := by decide +kernel
theorem dX4_player_17 : decode cX4_player 17 = .ok (.iload_n 2, 1) := by decide +kernel
theorem dX4_player_18 : decode cX4_player 18 = .ok (.tableswitch 70 0 3 #[30, 40, 50, 60], 30) := by decide +kernel
theorem dX4_player_48 : decode cX4_player 48 = .ok (.aload_n 0, 1) := by decide +kernel
theorem dX4_player_49 : decode cX4_player 49 = .ok (.getfield 10, 3) := by decide +kernel
theorem dX4_player_52 : decode cX4_player 52 = .ok (.getfield 70, 3) := by decide +kernel
theorem dX4_player_55 : decode cX4_player 55 = .ok (.iload_n 1, 1) := by decide +kernel
theorem dX4_player_56 : decode cX4_player 56 = .ok (.iaload, 1) := by decide +kernel
theorem dX4_player_57 : decode cX4_player 57 = .ok (.ireturn, 1) := by decide +kernel
theorem dX4_player_58 : decode cX4_player 58 = .ok (.aload_n 0, 1) := by decide +kernel
theorem dX4_player_59 : decode cX4_player 59 = .ok (.getfield 10, 3) := by decide +kernel
theorem dX4_player_62 : decode cX4_player 62 = .ok (.getfield 73, 3) := by decide +kernel
theorem dX4_player_65 : decode cX4_player 65 = .ok (.iload_n 1, 1) := by decide +kernel
theorem dX4_player_66 : decode cX4_player 66 = .ok (.iaload, 1) := by decide +kernel
theorem dX4_player_67 : decode cX4_player 67 = .ok (.ireturn, 1) := by decide +kernel
theorem dX4_player_68 : decode cX4_player 68 = .ok (.aload_n 0, 1) := by decide +kernel
theorem dX4_player_69 : decode cX4_player 69 = .ok (.getfield 10, 3) := by decide +kernel
theorem dX4_player_72 : decode cX4_player 72 = .ok (.getfield 76, 3) := by decide +kernel
theorem dX4_player_75 : decode cX4_player 75 = .ok (.iload_n 1, 1) := by decide +kernel
theorem dX4_player_76 : decode cX4_player 76 = .ok (.iaload, 1) := by decide +kernel
theorem dX4_player_77 : decode cX4_player 77 = .ok (.ireturn, 1) := by decide +kernel
theorem dX4_player_78 : decode cX4_player 78 = .ok (.aload_n 0, 1) := by decide +kernel
theorem dX4_player_79 : decode cX4_player 79 = .ok (.getfield 10, 3) := by decide +kernel
theorem dX4_player_82 : decode cX4_player 82 = .ok (.getfield 79, 3) := by decide +kernel
theorem dX4_player_85 : decode cX4_player 85 = .ok (.iload_n 1, 1) := by decide +kernel
theorem dX4_player_86 : decode cX4_player 86 = .ok (.iaload, 1) := by decide +kernel
theorem dX4_player_87 : decode cX4_player 87 = .ok (.ireturn, 1) := by decide +kernel
theorem dX4_player_88 : decode cX4_player 88 = .ok (.aload_n 0, 1) := by decide +kernel
theorem dX4_player_89 : decode cX4_player 89 = .ok (.bipush (-2), 2) := by decide +kernel
theorem dX4_player_91 : decode cX4_player 91 = .ok (.invokevirtual 51, 3) := by decide +kernel
theorem dX4_player_94 : decode cX4_player 94 = .ok (.ireturn, 1) := by decide +kernel
theorem dX4_touch_0 : decode cX4_touch 0 = .ok (.aload_n 0, 1) := by decide +kernel
theorem dX4_touch_1 : decode cX4_touch 1 = .ok (.getfield 10, 3) := by decide +kernel
theorem dX4_touch_4 : decode cX4_touch 4 = .ok (.iload_n 1, 1) := by decide +kernel
theorem dX4_touch_5 : decode cX4_touch 5 = .ok (.invokevirtual 82, 3) := by decide +kernel
theorem dX4_touch_8 : decode cX4_touch 8 = .ok (.ifCond .ne 9, 3) := by decide +kernel
theorem dX4_touch_11 : decode cX4_touch 11 = .ok (.aload_n 0, 1) := by decide +kernel
theorem dX4_touch_12 : decode cX4_touch 12 = .ok (.iconst (-1), 1) := by decide +kernel
theorem dX4_touch_13 : decode cX4_touch 13 = .ok (.invokevirtual 51, 3) := by decide +kernel
theorem dX4_touch_16 : decode cX4_touch 16 = .ok (.ireturn, 1) := by decide +kernel
theorem dX4_touch_17 : decode cX4_touch 17 = .ok (.aload_n 0, 1) := by decide +kernel
theorem dX4_touch_18 : decode cX4_touch 18 = .ok (.getfield 10, 3) := by decide +kernel
theorem dX4_touch_21 : decode cX4_touch 21 = .ok (.getfield 85, 3) := by decide +kernel
theorem dX4_touch_24 : decode cX4_touch 24 = .ok (.iload_n 1, 1) := by decide +kernel
theorem dX4_touch_25 : decode cX4_touch 25 = .ok (.aaload, 1) := by decide +kernel
theorem dX4_touch_26 : decode cX4_touch 26 = .ok (.astore_n 3, 1) := by decide +kernel
theorem dX4_touch_27 : decode cX4_touch 27 = .ok (.iload_n 2, 1) := by decide +kernel
theorem dX4_touch_28 : decode cX4_touch 28 = .ok (.tableswitch 80 0 5 #[40, 45, 50, 55, 60, 75], 40) := by decide +kernel
theorem dX4_touch_68 : decode cX4_touch 68 = .ok (.aload_n 3, 1) := by decide +kernel
theorem dX4_touch_69 : decode cX4_touch 69 = .ok (.getfield 89, 3) := by decide +kernel
theorem dX4_touch_72 : decode cX4_touch 72 = .ok (.ireturn, 1) := by decide +kernel
theorem dX4_touch_73 : decode cX4_touch 73 = .ok (.aload_n 3, 1) := by decide +kernel
theorem dX4_touch_74 : decode cX4_touch 74 = .ok (.getfield 94, 3) := by decide +kernel
theorem dX4_touch_77 : decode cX4_touch 77 = .ok (.ireturn, 1) := by decide +kernel
theorem dX4_touch_78 : decode cX4_touch 78 = .ok (.aload_n 3, 1) := by decide +kernel
theorem dX4_touch_79 : decode cX4_touch 79 = .ok (.getfield 97, 3) := by decide +kernel
theorem dX4_touch_82 : decode cX4_touch 82 = .ok (.ireturn, 1) := by decide +kernel
theorem dX4_touch_83 : decode cX4_touch 83 = .ok (.aload_n 3, 1) := by decide +kernel
theorem dX4_touch_84 : decode cX4_touch 84 = .ok (.invokevirtual 100, 3) := by decide +kernel
theorem dX4_touch_87 : decode cX4_touch 87 = .ok (.ireturn, 1) := by decide +kernel
theorem dX4_touch_88 : decode cX4_touch 88 = .ok (.aload_n 3, 1) := by decide +kernel
theorem dX4_touch_89 : decode cX4_touch 89 = .ok (.aload_n 0, 1) := by decide +kernel
theorem dX4_touch_90 : decode cX4_touch 90 = .ok (.getfield 10, 3) := by decide +kernel
theorem dX4_touch_93 : decode cX4_touch 93 = .ok (.getfield 103, 3) := by decide +kernel
theorem dX4_touch_96 : decode cX4_touch 96 = .ok (.invokevirtual 106, 3) := by decide +kernel
theorem dX4_touch_99 : decode cX4_touch 99 = .ok (.bipush 10, 2) := by decide +kernel
theorem dX4_touch_101 : decode cX4_touch 101 = .ok (.iadd, 1) := by decide +kernel
theorem dX4_touch_102 : decode cX4_touch 102 = .ok (.ireturn, 1) := by decide +kernel
theorem dX4_touch_103 : decode cX4_touch 103 = .ok (.aload_n 3, 1) := by decide +kernel
theorem dX4_touch_104 : decode cX4_touch 104 = .ok (.invokevirtual 109, 3) := by decide +kernel
theorem dX4_touch_107 : decode cX4_touch 107 = .ok (.ireturn, 1) := by decide +kernel
theorem dX4_touch_108 : decode cX4_touch 108 = .ok (.aload_n 0, 1) := by decide +kernel
theorem dX4_touch_109 : decode cX4_touch 109 = .ok (.bipush (-2), 2) := by decide +kernel
theorem dX4_touch_111 : decode cX4_touch 111 = .ok (.invokevirtual 51, 3) := by decide +kernel
theorem dX4_touch_114 : decode cX4_touch 114 = .ok (.ireturn, 1) := by decide +kernel
theorem dX4_wind_0 : decode cX4_wind 0 = .ok (.iload_n 1, 1) := by decide +kernel
theorem dX4_wind_1 : decode cX4_wind 1 = .ok (.bipush (-3), 2) := by decide +kernel
theorem dX4_wind_3 : decode cX4_wind 3 = .ok (.if_icmp .ge 10, 3) := by decide +kernel
theorem dX4_wind_6 : decode cX4_wind 6 = .ok (.aload_n 0, 1) := by decide +kernel
theorem dX4_wind_7 : decode cX4_wind 7 = .ok (.bipush (-4), 2) := by decide +kernel
theorem dX4_wind_9 : decode cX4_wind 9 = .ok (.invokevirtual 51, 3) := by decide +kernel
theorem dX4_wind_12 : decode cX4_wind 12 = .ok (.ireturn, 1) := by decide +kernel
theorem dX4_wind_13 : decode cX4_wind 13 = .ok (.iload_n 1, 1) := by decide +kernel
theorem dX4_wind_14 : decode cX4_wind 14 = .ok (.iconst 3, 1) := by decide +kernel
theorem dX4_wind_15 : decode cX4_wind 15 = .ok (.if_icmp .le 10, 3) := by decide +kernel
theorem dX4_wind_18 : decode cX4_wind 18 = .ok (.aload_n 0, 1) := by decide +kernel
theorem dX4_wind_19 : decode cX4_wind 19 = .ok (.bipush (-6), 2) := by decide +kernel
theorem dX4_wind_21 : decode cX4_wind 21 = .ok (.invokevirtual 51, 3) := by decide +kernel
theorem dX4_wind_24 : decode cX4_wind 24 = .ok (.ireturn, 1) := by decide +kernel
theorem dX4_wind_25 : decode cX4_wind 25 = .ok (.aload_n 0, 1) := by decide +kernel
theorem dX4_wind_26 : decode cX4_wind 26 = .ok (.getfield 10, 3) := by decide +kernel
theorem dX4_wind_29 : decode cX4_wind 29 = .ok (.getfield 103, 3) := by decide +kernel
theorem dX4_wind_32 : decode cX4_wind 32 = .ok (.istore_n 2, 1) := by decide +kernel
theorem dX4_wind_33 : decode cX4_wind 33 = .ok (.aload_n 0, 1) := by decide +kernel
theorem dX4_wind_34 : decode cX4_wind 34 = .ok (.getfield 10, 3) := by decide +kernel
theorem dX4_wind_37 : decode cX4_wind 37 = .ok (.iload_n 1, 1) := by decide +kernel
theorem dX4_wind_38 : decode cX4_wind 38 = .ok (.putfield 103, 3) := by decide +kernel
theorem dX4_wind_41 : decode cX4_wind 41 = .ok (.iload_n 2, 1) := by decide +kernel
theorem dX4_wind_42 : decode cX4_wind 42 = .ok (.iconst 3, 1) := by decide +kernel
theorem dX4_wind_43 : decode cX4_wind 43 = .ok (.iadd, 1) := by decide +kernel
theorem dX4_wind_44 : decode cX4_wind 44 = .ok (.ireturn, 1) := by decide +kernel
theorem dX4_move_0 : decode cX4_move 0 = .ok (.aload_n 0, 1) := by decide +kernel
theorem dX4_move_1 : decode cX4_move 1 = .ok (.getfield 10, 3) := by decide +kernel
theorem dX4_move_4 : decode cX4_move 4 = .ok (.iload_n 1, 1) := by decide +kernel
theorem dX4_move_5 : decode cX4_move 5 = .ok (.invokevirtual 66, 3) := by decide +kernel
theorem dX4_move_8 : decode cX4_move 8 = .ok (.ifCond .ne 9, 3) := by decide +kernel
theorem dX4_move_11 : decode cX4_move 11 = .ok (.aload_n 0, 1) := by decide +kernel
theorem dX4_move_12 : decode cX4_move 12 = .ok (.iconst (-1), 1) := by decide +kernel
theorem dX4_move_13 : decode cX4_move 13 = .ok (.invokevirtual 51, 3) := by decide +kernel
theorem dX4_move_16 : decode cX4_move 16 = .ok (.ireturn, 1) := by decide +kernel
theorem dX4_move_17 : decode cX4_move 17 = .ok (.iload_n 2, 1) := by decide +kernel
theorem dX4_move_18 : decode cX4_move 18 = .ok (.ifCond .ge 10, 3) := by decide +kernel
theorem dX4_move_21 : decode cX4_move 21 = .ok (.aload_n 0, 1) := by decide +kernel
theorem dX4_move_22 : decode cX4_move 22 = .ok (.bipush (-4), 2) := by decide +kernel
theorem dX4_move_24 : decode cX4_move 24 = .ok (.invokevirtual 51, 3) := by decide +kernel
theorem dX4_move_27 : decode cX4_move 27 = .ok (.ireturn, 1) := by decide +kernel
theorem dX4_move_28 : decode cX4_move 28 = .ok (.iload_n 2, 1) := by decide +kernel
theorem dX4_move_29 : decode cX4_move 29 = .ok (.aload_n 0, 1) := by decide +kernel
theorem dX4_move_30 : decode cX4_move 30 = .ok (.getfield 10, 3) := by decide +kernel
theorem dX4_move_33 : decode cX4_move 33 = .ok (.getfield 112, 3) := by decide +kernel
theorem dX4_move_36 : decode cX4_move 36 = .ok (.if_icmp .lt 10, 3) := by decide +kernel
theorem dX4_move_39 : decode cX4_move 39 = .ok (.aload_n 0, 1) := by decide +kernel
theorem dX4_move_40 : decode cX4_move 40 = .ok (.bipush (-6), 2) := by decide +kernel
theorem dX4_move_42 : decode cX4_move 42 = .ok (.invokevirtual 51, 3) := by decide +kernel
theorem dX4_move_45 : decode cX4_move 45 = .ok (.ireturn, 1) := by decide +kernel
theorem dX4_move_46 : decode cX4_move 46 = .ok (.aload_n 0, 1) := by decide +kernel
theorem dX4_move_47 : decode cX4_move 47 = .ok (.getfield 10, 3) := by decide +kernel
theorem dX4_move_50 : decode cX4_move 50 = .ok (.getfield 70, 3) := by decide +kernel
theorem dX4_move_53 : decode cX4_move 53 = .ok (.iload_n 1, 1) := by decide +kernel
theorem dX4_move_54 : decode cX4_move 54 = .ok (.iaload, 1) := by decide +kernel
theorem dX4_move_55 : decode cX4_move 55 = .ok (.istore_n 3, 1) := by decide +kernel
theorem dX4_move_56 : decode cX4_move 56 = .ok (.aload_n 0, 1) := by decide +kernel
theorem dX4_move_57 : decode cX4_move 57 = .ok (.getfield 10, 3) := by decide +kernel
theorem dX4_move_60 : decode cX4_move 60 = .ok (.getfield 70, 3) := by decide +kernel
theorem dX4_move_63 : decode cX4_move 63 = .ok (.iload_n 1, 1) := by decide +kernel
theorem dX4_move_64 : decode cX4_move 64 = .ok (.iload_n 2, 1) := by decide +kernel
theorem dX4_move_65 : decode cX4_move 65 = .ok (.iastore, 1) := by decide +kernel
theorem dX4_move_66 : decode cX4_move 66 = .ok (.iload_n 3, 1) := by decide +kernel
theorem dX4_move_67 : decode cX4_move 67 = .ok (.ireturn, 1) := by decide +kernel
theorem dX4_give_0 : decode cX4_give 0 = .ok (.aload_n 0, 1) := by decide +kernel
theorem dX4_give_1 : decode cX4_give 1 = .ok (.getfield 10, 3) := by decide +kernel
theorem dX4_give_4 : decode cX4_give 4 = .ok (.iload_n 1, 1) := by decide +kernel
theorem dX4_give_5 : decode cX4_give 5 = .ok (.invokevirtual 66, 3) := by decide +kernel
theorem dX4_give_8 : decode cX4_give 8 = .ok (.ifCond .ne 9, 3) := by decide +kernel
theorem dX4_give_11 : decode cX4_give 11 = .ok (.aload_n 0, 1) := by decide +kernel
theorem dX4_give_12 : decode cX4_give 12 = .ok (.iconst (-1), 1) := by decide +kernel
theorem dX4_give_13 : decode cX4_give 13 = .ok (.invokevirtual 51, 3) := by decide +kernel
theorem dX4_give_16 : decode cX4_give 16 = .ok (.ireturn, 1) := by decide +kernel
theorem dX4_give_17 : decode cX4_give 17 = .ok (.aload_n 0, 1) := by decide +kernel
theorem dX4_give_18 : decode cX4_give 18 = .ok (.getfield 10, 3) := by decide +kernel
theorem dX4_give_21 : decode cX4_give 21 = .ok (.getfield 115, 3) := by decide +kernel
theorem dX4_give_24 : decode cX4_give 24 = .ok (.istore_n 2, 1) := by decide +kernel
theorem dX4_give_25 : decode cX4_give 25 = .ok (.aload_n 0, 1) := by decide +kernel
theorem dX4_give_26 : decode cX4_give 26 = .ok (.getfield 10, 3) := by decide +kernel
theorem dX4_give_29 : decode cX4_give 29 = .ok (.iload_n 1, 1) := by decide +kernel
theorem dX4_give_30 : decode cX4_give 30 = .ok (.invokevirtual 118, 3) := by decide +kernel
theorem dX4_give_33 : decode cX4_give 33 = .ok (.iload_n 2, 1) := by decide +kernel
theorem dX4_give_34 : decode cX4_give 34 = .ok (.ireturn, 1) := by decide +kernel
theorem dX4_skill_0 : decode cX4_skill 0 = .ok (.aload_n 0, 1) := by decide +kernel
theorem dX4_skill_1 : decode cX4_skill 1 = .ok (.getfield 10, 3) := by decide +kernel
theorem dX4_skill_4 : decode cX4_skill 4 = .ok (.iload_n 1, 1) := by decide +kernel
theorem dX4_skill_5 : decode cX4_skill 5 = .ok (.invokevirtual 66, 3) := by decide +kernel
theorem dX4_skill_8 : decode cX4_skill 8 = .ok (.ifCond .ne 9, 3) := by decide +kernel
theorem dX4_skill_11 : decode cX4_skill 11 = .ok (.aload_n 0, 1) := by decide +kernel
theorem dX4_skill_12 : decode cX4_skill 12 = .ok (.iconst (-1), 1) := by decide +kernel
theorem dX4_skill_13 : decode cX4_skill 13 = .ok (.invokevirtual 51, 3) := by decide +kernel
theorem dX4_skill_16 : decode cX4_skill 16 = .ok (.ireturn, 1) := by decide +kernel
theorem dX4_skill_17 : decode cX4_skill 17 = .ok (.iload_n 2, 1) := by decide +kernel
theorem dX4_skill_18 : decode cX4_skill 18 = .ok (.ifCond .ge 10, 3) := by decide +kernel
theorem dX4_skill_21 : decode cX4_skill 21 = .ok (.aload_n 0, 1) := by decide +kernel
theorem dX4_skill_22 : decode cX4_skill 22 = .ok (.bipush (-4), 2) := by decide +kernel
theorem dX4_skill_24 : decode cX4_skill 24 = .ok (.invokevirtual 51, 3) := by decide +kernel
theorem dX4_skill_27 : decode cX4_skill 27 = .ok (.ireturn, 1) := by decide +kernel
theorem dX4_skill_28 : decode cX4_skill 28 = .ok (.iload_n 2, 1) := by decide +kernel
theorem dX4_skill_29 : decode cX4_skill 29 = .ok (.bipush 9, 2) := by decide +kernel
theorem dX4_skill_31 : decode cX4_skill 31 = .ok (.if_icmp .le 10, 3) := by decide +kernel
theorem dX4_skill_34 : decode cX4_skill 34 = .ok (.aload_n 0, 1) := by decide +kernel
theorem dX4_skill_35 : decode cX4_skill 35 = .ok (.bipush (-6), 2) := by decide +kernel
theorem dX4_skill_37 : decode cX4_skill 37 = .ok (.invokevirtual 51, 3) := by decide +kernel
theorem dX4_skill_40 : decode cX4_skill 40 = .ok (.ireturn, 1) := by decide +kernel
theorem dX4_skill_41 : decode cX4_skill 41 = .ok (.aload_n 0, 1) := by decide +kernel
theorem dX4_skill_42 : decode cX4_skill 42 = .ok (.getfield 10, 3) := by decide +kernel
theorem dX4_skill_45 : decode cX4_skill 45 = .ok (.getfield 76, 3) := by decide +kernel
theorem dX4_skill_48 : decode cX4_skill 48 = .ok (.iload_n 1, 1) := by decide +kernel
theorem dX4_skill_49 : decode cX4_skill 49 = .ok (.iaload, 1) := by decide +kernel
theorem dX4_skill_50 : decode cX4_skill 50 = .ok (.istore_n 3, 1) := by decide +kernel
theorem dX4_skill_51 : decode cX4_skill 51 = .ok (.aload_n 0, 1) := by decide +kernel
theorem dX4_skill_52 : decode cX4_skill 52 = .ok (.getfield 10, 3) := by decide +kernel
theorem dX4_skill_55 : decode cX4_skill 55 = .ok (.getfield 76, 3) := by decide +kernel
theorem dX4_skill_58 : decode cX4_skill 58 = .ok (.iload_n 1, 1) := by decide +kernel
theorem dX4_skill_59 : decode cX4_skill 59 = .ok (.iload_n 2, 1) := by decide +kernel
theorem dX4_skill_60 : decode cX4_skill 60 = .ok (.iastore, 1) := by decide +kernel
theorem dX4_skill_61 : decode cX4_skill 61 = .ok (.iload_n 3, 1) := by decide +kernel
theorem dX4_skill_62 : decode cX4_skill 62 = .ok (.ireturn, 1) := by decide +kernel
theorem dX4_error_0 : decode cX4_error 0 = .ok (.aload_n 0, 1) := by decide +kernel
theorem dX4_error_1 : decode cX4_error 1 = .ok (.iload_n 1, 1) := by decide +kernel
theorem dX4_error_2 : decode cX4_error 2 = .ok (.iload_n 2, 1) := by decide +kernel
theorem dX4_error_3 : decode cX4_error 3 = .ok (.iload_n 3, 1) := by decide +kernel
theorem dX4_error_4 : decode cX4_error 4 = .ok (.invokevirtual 121, 3) := by decide +kernel
theorem dX4_error_7 : decode cX4_error 7 = .ok (.ifCond .ne 9, 3) := by decide +kernel
theorem dX4_error_10 : decode cX4_error 10 = .ok (.aload_n 0, 1) := by decide +kernel
theorem dX4_error_11 : decode cX4_error 11 = .ok (.iconst (-1), 1) := by decide +kernel
theorem dX4_error_12 : decode cX4_error 12 = .ok (.invokevirtual 51, 3) := by decide +kernel
theorem dX4_error_15 : decode cX4_error 15 = .ok (.ireturn, 1) := by decide +kernel
theorem dX4_error_16 : decode cX4_error 16 = .ok (.aload_n 0, 1) := by decide +kernel
theorem dX4_error_17 : decode cX4_error 17 = .ok (.getfield 10, 3) := by decide +kernel
theorem dX4_error_20 : decode cX4_error 20 = .ok (.iload_n 1, 1) := by decide +kernel
theorem dX4_error_21 : decode cX4_error 21 = .ok (.iload_n 2, 1) := by decide +kernel
theorem dX4_error_22 : decode cX4_error 22 = .ok (.iload_n 3, 1) := by decide +kernel
theorem dX4_error_23 : decode cX4_error 23 = .ok (.invokevirtual 125, 3) := by decide +kernel
theorem dX4_error_26 : decode cX4_error 26 = .ok (.ireturn, 1) := by decide +kernel
theorem dX4_keep_0 : decode cX4_keep 0 = .ok (.aload_n 0, 1) := by decide +kernel
theorem dX4_keep_1 : decode cX4_keep 1 = .ok (.getfield 10, 3) := by decide +kernel
theorem dX4_keep_4 : decode cX4_keep 4 = .ok (.iload_n 1, 1) := by decide +kernel
theorem dX4_keep_5 : decode cX4_keep 5 = .ok (.invokevirtual 82, 3) := by decide +kernel
theorem dX4_keep_8 : decode cX4_keep 8 = .ok (.ifCond .eq 14, 3) := by decide +kernel
theorem dX4_keep_11 : decode cX4_keep 11 = .ok (.aload_n 0, 1) := by decide +kernel
theorem dX4_keep_12 : decode cX4_keep 12 = .ok (.getfield 10, 3) := by decide +kernel
theorem dX4_keep_15 : decode cX4_keep 15 = .ok (.iload_n 2, 1) := by decide +kernel
theorem dX4_keep_16 : decode cX4_keep 16 = .ok (.invokevirtual 66, 3) := by decide +kernel
theorem dX4_keep_19 : decode cX4_keep 19 = .ok (.ifCond .ne 9, 3) := by decide +kernel
theorem dX4_keep_22 : decode cX4_keep 22 = .ok (.aload_n 0, 1) := by decide +kernel
theorem dX4_keep_23 : decode cX4_keep 23 = .ok (.iconst (-1), 1) := by decide +kernel
theorem dX4_keep_24 : decode cX4_keep 24 = .ok (.invokevirtual 51, 3) := by decide +kernel
theorem dX4_keep_27 : decode cX4_keep 27 = .ok (.ireturn, 1) := by decide +kernel
theorem dX4_keep_28 : decode cX4_keep 28 = .ok (.aload_n 0, 1) := by decide +kernel
theorem dX4_keep_29 : decode cX4_keep 29 = .ok (.getfield 10, 3) := by decide +kernel
theorem dX4_keep_32 : decode cX4_keep 32 = .ok (.invokevirtual 129, 3) := by decide +kernel
theorem dX4_keep_35 : decode cX4_keep 35 = .ok (.ifCond .ne 10, 3) := by decide +kernel
theorem dX4_keep_38 : decode cX4_keep 38 = .ok (.aload_n 0, 1) := by decide +kernel
theorem dX4_keep_39 : decode cX4_keep 39 = .ok (.bipush (-3), 2) := by decide +kernel
theorem dX4_keep_41 : decode cX4_keep 41 = .ok (.invokevirtual 51, 3) := by decide +kernel
theorem dX4_keep_44 : decode cX4_keep 44 = .ok (.ireturn, 1) := by decide +kernel
theorem dX4_keep_45 : decode cX4_keep 45 = .ok (.aload_n 0, 1) := by decide +kernel
theorem dX4_keep_46 : decode cX4_keep 46 = .ok (.getfield 10, 3) := by decide +kernel
theorem dX4_keep_49 : decode cX4_keep 49 = .ok (.iload_n 1, 1) := by decide +kernel
theorem dX4_keep_50 : decode cX4_keep 50 = .ok (.aload_n 0, 1) := by decide +kernel
theorem dX4_keep_51 : decode cX4_keep 51 = .ok (.getfield 10, 3) := by decide +kernel
theorem dX4_keep_54 : decode cX4_keep 54 = .ok (.getfield 115, 3) := by decide +kernel
theorem dX4_keep_57 : decode cX4_keep 57 = .ok (.iload_n 2, 1) := by decide +kernel
theorem dX4_keep_58 : decode cX4_keep 58 = .ok (.invokevirtual 125, 3) := by decide +kernel
theorem dX4_keep_61 : decode cX4_keep 61 = .ok (.istore 4, 2) := by decide +kernel
theorem dX4_keep_63 : decode cX4_keep 63 = .ok (.iload_n 3, 1) := by decide +kernel
theorem dX4_keep_64 : decode cX4_keep 64 = .ok (.iload 4, 2) := by decide +kernel
theorem dX4_keep_66 : decode cX4_keep 66 = .ok (.ineg, 1) := by decide +kernel
theorem dX4_keep_67 : decode cX4_keep 67 = .ok (.if_icmp .ge 10, 3) := by decide +kernel
theorem dX4_keep_70 : decode cX4_keep 70 = .ok (.aload_n 0, 1) := by decide +kernel
theorem dX4_keep_71 : decode cX4_keep 71 = .ok (.bipush (-4), 2) := by decide +kernel
theorem dX4_keep_73 : decode cX4_keep 73 = .ok (.invokevirtual 51, 3) := by decide +kernel
theorem dX4_keep_76 : decode cX4_keep 76 = .ok (.ireturn, 1) := by decide +kernel
theorem dX4_keep_77 : decode cX4_keep 77 = .ok (.iload_n 3, 1) := by decide +kernel
theorem dX4_keep_78 : decode cX4_keep 78 = .ok (.iload 4, 2) := by decide +kernel
theorem dX4_keep_80 : decode cX4_keep 80 = .ok (.if_icmp .le 10, 3) := by decide +kernel
theorem dX4_keep_83 : decode cX4_keep 83 = .ok (.aload_n 0, 1) := by decide +kernel
theorem dX4_keep_84 : decode cX4_keep 84 = .ok (.bipush (-6), 2) := by decide +kernel
theorem dX4_keep_86 : decode cX4_keep 86 = .ok (.invokevirtual 51, 3) := by decide +kernel
theorem dX4_keep_89 : decode cX4_keep 89 = .ok (.ireturn, 1) := by decide +kernel
theorem dX4_keep_90 : decode cX4_keep 90 = .ok (.aload_n 0, 1) := by decide +kernel
theorem dX4_keep_91 : decode cX4_keep 91 = .ok (.getfield 10, 3) := by decide +kernel
theorem dX4_keep_94 : decode cX4_keep 94 = .ok (.iload_n 1, 1) := by decide +kernel
theorem dX4_keep_95 : decode cX4_keep 95 = .ok (.iload_n 2, 1) := by decide +kernel
theorem dX4_keep_96 : decode cX4_keep 96 = .ok (.iload_n 3, 1) := by decide +kernel
theorem dX4_keep_97 : decode cX4_keep 97 = .ok (.invokevirtual 133, 3) := by decide +kernel
theorem dX4_keep_100 : decode cX4_keep 100 = .ok (.pop, 1) := by decide +kernel
theorem dX4_keep_101 : decode cX4_keep 101 = .ok (.aload_n 0, 1) := by decide +kernel
theorem dX4_keep_102 : decode cX4_keep 102 = .ok (.getfield 10, 3) := by decide +kernel
theorem dX4_keep_105 : decode cX4_keep 105 = .ok (.getfield 136, 3) := by decide +kernel
theorem dX4_keep_108 : decode cX4_keep 108 = .ok (.ireturn, 1) := by decide +kernel
theorem dX4_again_0 : decode cX4_again 0 = .ok (.aload_n 0, 1) := by decide +kernel
theorem dX4_again_1 : decode cX4_again 1 = .ok (.iload_n 1, 1) := by decide +kernel
theorem dX4_again_2 : decode cX4_again 2 = .ok (.iload_n 2, 1) := by decide +kernel
theorem dX4_again_3 : decode cX4_again 3 = .ok (.iload_n 3, 1) := by decide +kernel
theorem dX4_again_4 : decode cX4_again 4 = .ok (.invokevirtual 121, 3) := by decide +kernel
theorem dX4_again_7 : decode cX4_again 7 = .ok (.ifCond .ne 9, 3) := by decide +kernel
theorem dX4_again_10 : decode cX4_again 10 = .ok (.aload_n 0, 1) := by decide +kernel
theorem dX4_again_11 : decode cX4_again 11 = .ok (.iconst (-1), 1) := by decide +kernel
theorem dX4_again_12 : decode cX4_again 12 = .ok (.invokevirtual 139, 3) := by decide +kernel
theorem dX4_again_15 : decode cX4_again 15 = .ok (.lreturn, 1) := by decide +kernel
theorem dX4_again_16 : decode cX4_again 16 = .ok (.iload 4, 2) := by decide +kernel
theorem dX4_again_18 : decode cX4_again 18 = .ok (.ifCond .lt 9, 3) := by decide +kernel
theorem dX4_again_21 : decode cX4_again 21 = .ok (.iload 4, 2) := by decide +kernel
theorem dX4_again_23 : decode cX4_again 23 = .ok (.iconst 1, 1) := by decide +kernel
theorem dX4_again_24 : decode cX4_again 24 = .ok (.if_icmp .le 10, 3) := by decide +kernel
theorem dX4_again_27 : decode cX4_again 27 = .ok (.aload_n 0, 1) := by decide +kernel
theorem dX4_again_28 : decode cX4_again 28 = .ok (.bipush (-2), 2) := by decide +kernel
theorem dX4_again_30 : decode cX4_again 30 = .ok (.invokevirtual 139, 3) := by decide +kernel
theorem dX4_again_33 : decode cX4_again 33 = .ok (.lreturn, 1) := by decide +kernel
theorem dX4_again_34 : decode cX4_again 34 = .ok (.aload_n 0, 1) := by decide +kernel
theorem dX4_again_35 : decode cX4_again 35 = .ok (.getfield 47, 3) := by decide +kernel
theorem dX4_again_38 : decode cX4_again 38 = .ok (.aload_n 0, 1) := by decide +kernel
theorem dX4_again_39 : decode cX4_again 39 = .ok (.getfield 10, 3) := by decide +kernel
theorem dX4_again_42 : decode cX4_again 42 = .ok (.iload_n 1, 1) := by decide +kernel
theorem dX4_again_43 : decode cX4_again 43 = .ok (.iload_n 2, 1) := by decide +kernel
theorem dX4_again_44 : decode cX4_again 44 = .ok (.iload_n 3, 1) := by decide +kernel
theorem dX4_again_45 : decode cX4_again 45 = .ok (.invokevirtual 143, 3) := by decide +kernel
theorem dX4_again_48 : decode cX4_again 48 = .ok (.i2l, 1) := by decide +kernel
theorem dX4_again_49 : decode cX4_again 49 = .ok (.aload_n 0, 1) := by decide +kernel
theorem dX4_again_50 : decode cX4_again 50 = .ok (.getfield 10, 3) := by decide +kernel
theorem dX4_again_53 : decode cX4_again 53 = .ok (.iload_n 1, 1) := by decide +kernel
theorem dX4_again_54 : decode cX4_again 54 = .ok (.iload_n 2, 1) := by decide +kernel
theorem dX4_again_55 : decode cX4_again 55 = .ok (.iload_n 3, 1) := by decide +kernel
theorem dX4_again_56 : decode cX4_again 56 = .ok (.invokevirtual 146, 3) := by decide +kernel
theorem dX4_again_59 : decode cX4_again 59 = .ok (.i2l, 1) := by decide +kernel
theorem dX4_again_60 : decode cX4_again 60 = .ok (.invokevirtual 149, 3) := by decide +kernel
theorem dX4_again_63 : decode cX4_again 63 = .ok (.aload_n 0, 1) := by decide +kernel
theorem dX4_again_64 : decode cX4_again 64 = .ok (.getfield 47, 3) := by decide +kernel
theorem dX4_again_67 : decode cX4_again 67 = .ok (.iload 4, 2) := by decide +kernel
theorem dX4_again_69 : decode cX4_again 69 = .ok (.invokevirtual 153, 3) := by decide +kernel
theorem dX4_again_72 : decode cX4_again 72 = .ok (.lreturn, 1) := by decide +kernel
theorem dX4_best_0 : decode cX4_best 0 = .ok (.aload_n 0, 1) := by decide +kernel
theorem dX4_best_1 : decode cX4_best 1 = .ok (.getfield 10, 3) := by decide +kernel
theorem dX4_best_4 : decode cX4_best 4 = .ok (.invokevirtual 156, 3) := by decide +kernel
theorem dX4_best_7 : decode cX4_best 7 = .ok (.ifCond .eq 13, 3) := by decide +kernel
theorem dX4_best_10 : decode cX4_best 10 = .ok (.aload_n 0, 1) := by decide +kernel
theorem dX4_best_11 : decode cX4_best 11 = .ok (.getfield 10, 3) := by decide +kernel
theorem dX4_best_14 : decode cX4_best 14 = .ok (.invokevirtual 159, 3) := by decide +kernel
theorem dX4_best_17 : decode cX4_best 17 = .ok (.goto 5, 3) := by decide +kernel
theorem dX4_best_20 : decode cX4_best 20 = .ok (.bipush (-9), 2) := by decide +kernel
theorem dX4_best_22 : decode cX4_best 22 = .ok (.ireturn, 1) := by decide +kernel
theorem dX4_on_0 : decode cX4_on 0 = .ok (.iload_n 1, 1) := by decide +kernel
theorem dX4_on_1 : decode cX4_on 1 = .ok (.iconst 1, 1) := by decide +kernel
theorem dX4_on_2 : decode cX4_on 2 = .ok (.if_icmp .ge 10, 3) := by decide +kernel
theorem dX4_on_5 : decode cX4_on 5 = .ok (.aload_n 0, 1) := by decide +kernel
theorem dX4_on_6 : decode cX4_on 6 = .ok (.bipush (-4), 2) := by decide +kernel
theorem dX4_on_8 : decode cX4_on 8 = .ok (.invokevirtual 139, 3) := by decide +kernel
theorem dX4_on_11 : decode cX4_on 11 = .ok (.lreturn, 1) := by decide +kernel
theorem dX4_on_12 : decode cX4_on 12 = .ok (.iload_n 1, 1) := by decide +kernel
theorem dX4_on_13 : decode cX4_on 13 = .ok (.iconst 2, 1) := by decide +kernel
theorem dX4_on_14 : decode cX4_on 14 = .ok (.if_icmp .le 10, 3) := by decide +kernel
theorem dX4_on_17 : decode cX4_on 17 = .ok (.aload_n 0, 1) := by decide +kernel
theorem dX4_on_18 : decode cX4_on 18 = .ok (.bipush (-6), 2) := by decide +kernel
theorem dX4_on_20 : decode cX4_on 20 = .ok (.invokevirtual 139, 3) := by decide +kernel
theorem dX4_on_23 : decode cX4_on 23 = .ok (.lreturn, 1) := by decide +kernel
theorem dX4_on_24 : decode cX4_on 24 = .ok (.iload_n 2, 1) := by decide +kernel
theorem dX4_on_25 : decode cX4_on 25 = .ok (.ifCond .lt 8, 3) := by decide +kernel
theorem dX4_on_28 : decode cX4_on 28 = .ok (.iload_n 2, 1) := by decide +kernel
theorem dX4_on_29 : decode cX4_on 29 = .ok (.iconst 1, 1) := by decide +kernel
theorem dX4_on_30 : decode cX4_on 30 = .ok (.if_icmp .le 10, 3) := by decide +kernel
theorem dX4_on_33 : decode cX4_on 33 = .ok (.aload_n 0, 1) := by decide +kernel
theorem dX4_on_34 : decode cX4_on 34 = .ok (.bipush (-2), 2) := by decide +kernel
theorem dX4_on_36 : decode cX4_on 36 = .ok (.invokevirtual 139, 3) := by decide +kernel
theorem dX4_on_39 : decode cX4_on 39 = .ok (.lreturn, 1) := by decide +kernel
theorem dX4_on_40 : decode cX4_on 40 = .ok (.aload_n 0, 1) := by decide +kernel
theorem dX4_on_41 : decode cX4_on 41 = .ok (.getfield 10, 3) := by decide +kernel
theorem dX4_on_44 : decode cX4_on 44 = .ok (.invokevirtual 156, 3) := by decide +kernel
theorem dX4_on_47 : decode cX4_on 47 = .ok (.ifCond .ne 15, 3) := by decide +kernel
theorem dX4_on_50 : decode cX4_on 50 = .ok (.aload_n 0, 1) := by decide +kernel
theorem dX4_on_51 : decode cX4_on 51 = .ok (.getfield 47, 3) := by decide +kernel
theorem dX4_on_54 : decode cX4_on 54 = .ok (.lconst 0, 1) := by decide +kernel
theorem dX4_on_55 : decode cX4_on 55 = .ok (.lconst 1, 1) := by decide +kernel
theorem dX4_on_56 : decode cX4_on 56 = .ok (.invokevirtual 149, 3) := by decide +kernel
theorem dX4_on_59 : decode cX4_on 59 = .ok (.goto 35, 3) := by decide +kernel
theorem dX4_on_62 : decode cX4_on 62 = .ok (.iload_n 1, 1) := by decide +kernel
theorem dX4_on_63 : decode cX4_on 63 = .ok (.iconst 1, 1) := by decide +kernel
theorem dX4_on_64 : decode cX4_on 64 = .ok (.if_icmp .ne 26, 3) := by decide +kernel
theorem dX4_on_67 : decode cX4_on 67 = .ok (.aload_n 0, 1) := by decide +kernel
theorem dX4_on_68 : decode cX4_on 68 = .ok (.getfield 47, 3) := by decide +kernel
theorem dX4_on_71 : decode cX4_on 71 = .ok (.aload_n 0, 1) := by decide +kernel
theorem dX4_on_72 : decode cX4_on 72 = .ok (.getfield 10, 3) := by decide +kernel
theorem dX4_on_75 : decode cX4_on 75 = .ok (.ldc2_w 162, 3) := by decide +kernel
theorem dX4_on_78 : decode cX4_on 78 = .ok (.invokevirtual 164, 3) := by decide +kernel
theorem dX4_on_81 : decode cX4_on 81 = .ok (.ldc2_w 162, 3) := by decide +kernel
theorem dX4_on_84 : decode cX4_on 84 = .ok (.invokevirtual 149, 3) := by decide +kernel
theorem dX4_on_87 : decode cX4_on 87 = .ok (.goto 7, 3) := by decide +kernel
theorem dX4_on_90 : decode cX4_on 90 = .ok (.aload_n 0, 1) := by decide +kernel
theorem dX4_on_91 : decode cX4_on 91 = .ok (.invokevirtual 168, 3) := by decide +kernel
theorem dX4_on_94 : decode cX4_on 94 = .ok (.aload_n 0, 1) := by decide +kernel
theorem dX4_on_95 : decode cX4_on 95 = .ok (.getfield 47, 3) := by decide +kernel
theorem dX4_on_98 : decode cX4_on 98 = .ok (.iload_n 2, 1) := by decide +kernel
theorem dX4_on_99 : decode cX4_on 99 = .ok (.invokevirtual 153, 3) := by decide +kernel
theorem dX4_on_102 : decode cX4_on 102 = .ok (.lreturn, 1) := by decide +kernel
theorem dX4_stand_0 : decode cX4_stand 0 = .ok (.aload_n 0, 1) := by decide +kernel
theorem dX4_stand_1 : decode cX4_stand 1 = .ok (.getfield 10, 3) := by decide +kernel
theorem dX4_stand_4 : decode cX4_stand 4 = .ok (.iload_n 1, 1) := by decide +kernel
theorem dX4_stand_5 : decode cX4_stand 5 = .ok (.invokevirtual 82, 3) := by decide +kernel
theorem dX4_stand_8 : decode cX4_stand 8 = .ok (.ifCond .eq 14, 3) := by decide +kernel
theorem dX4_stand_11 : decode cX4_stand 11 = .ok (.aload_n 0, 1) := by decide +kernel
theorem dX4_stand_12 : decode cX4_stand 12 = .ok (.getfield 10, 3) := by decide +kernel
theorem dX4_stand_15 : decode cX4_stand 15 = .ok (.iload_n 2, 1) := by decide +kernel
theorem dX4_stand_16 : decode cX4_stand 16 = .ok (.invokevirtual 66, 3) := by decide +kernel
theorem dX4_stand_19 : decode cX4_stand 19 = .ok (.ifCond .ne 9, 3) := by decide +kernel
theorem dX4_stand_22 : decode cX4_stand 22 = .ok (.aload_n 0, 1) := by decide +kernel
theorem dX4_stand_23 : decode cX4_stand 23 = .ok (.iconst (-1), 1) := by decide +kernel
theorem dX4_stand_24 : decode cX4_stand 24 = .ok (.invokevirtual 51, 3) := by decide +kernel
theorem dX4_stand_27 : decode cX4_stand 27 = .ok (.ireturn, 1) := by decide +kernel
theorem dX4_stand_28 : decode cX4_stand 28 = .ok (.aload_n 0, 1) := by decide +kernel
theorem dX4_stand_29 : decode cX4_stand 29 = .ok (.getfield 10, 3) := by decide +kernel
theorem dX4_stand_32 : decode cX4_stand 32 = .ok (.invokevirtual 129, 3) := by decide +kernel
theorem dX4_stand_35 : decode cX4_stand 35 = .ok (.ifCond .ne 6, 3) := by decide +kernel
theorem dX4_stand_38 : decode cX4_stand 38 = .ok (.bipush (-9), 2) := by decide +kernel
theorem dX4_stand_40 : decode cX4_stand 40 = .ok (.ireturn, 1) := by decide +kernel
theorem dX4_stand_41 : decode cX4_stand 41 = .ok (.aload_n 0, 1) := by decide +kernel
theorem dX4_stand_42 : decode cX4_stand 42 = .ok (.getfield 16, 3) := by decide +kernel
theorem dX4_stand_45 : decode cX4_stand 45 = .ok (.aload_n 0, 1) := by decide +kernel
theorem dX4_stand_46 : decode cX4_stand 46 = .ok (.getfield 10, 3) := by decide +kernel
theorem dX4_stand_49 : decode cX4_stand 49 = .ok (.invokevirtual 171, 3) := by decide +kernel
theorem dX4_stand_52 : decode cX4_stand 52 = .ok (.iconst 0, 1) := by decide +kernel
theorem dX4_stand_53 : decode cX4_stand 53 = .ok (.istore_n 3, 1) := by decide +kernel
theorem dX4_stand_54 : decode cX4_stand 54 = .ok (.iconst (-1), 1) := by decide +kernel
theorem dX4_stand_55 : decode cX4_stand 55 = .ok (.istore 4, 2) := by decide +kernel
theorem dX4_stand_57 : decode cX4_stand 57 = .ok (.iconst 0, 1) := by decide +kernel
theorem dX4_stand_58 : decode cX4_stand 58 = .ok (.istore 5, 2) := by decide +kernel
theorem dX4_stand_60 : decode cX4_stand 60 = .ok (.iload 5, 2) := by decide +kernel
theorem dX4_stand_62 : decode cX4_stand 62 = .ok (.aload_n 0, 1) := by decide +kernel
theorem dX4_stand_63 : decode cX4_stand 63 = .ok (.getfield 10, 3) := by decide +kernel
theorem dX4_stand_66 : decode cX4_stand 66 = .ok (.getfield 112, 3) := by decide +kernel
theorem dX4_stand_69 : decode cX4_stand 69 = .ok (.if_icmp .ge 52, 3) := by decide +kernel
theorem dX4_stand_72 : decode cX4_stand 72 = .ok (.aload_n 0, 1) := by decide +kernel
theorem dX4_stand_73 : decode cX4_stand 73 = .ok (.getfield 16, 3) := by decide +kernel
theorem dX4_stand_76 : decode cX4_stand 76 = .ok (.getfield 70, 3) := by decide +kernel
theorem dX4_stand_79 : decode cX4_stand 79 = .ok (.iload_n 2, 1) := by decide +kernel
theorem dX4_stand_80 : decode cX4_stand 80 = .ok (.iload 5, 2) := by decide +kernel
theorem dX4_stand_82 : decode cX4_stand 82 = .ok (.iastore, 1) := by decide +kernel
theorem dX4_stand_83 : decode cX4_stand 83 = .ok (.aload_n 0, 1) := by decide +kernel
theorem dX4_stand_84 : decode cX4_stand 84 = .ok (.getfield 16, 3) := by decide +kernel
theorem dX4_stand_87 : decode cX4_stand 87 = .ok (.iload_n 1, 1) := by decide +kernel
theorem dX4_stand_88 : decode cX4_stand 88 = .ok (.aload_n 0, 1) := by decide +kernel
theorem dX4_stand_89 : decode cX4_stand 89 = .ok (.getfield 16, 3) := by decide +kernel
theorem dX4_stand_92 : decode cX4_stand 92 = .ok (.getfield 115, 3) := by decide +kernel
theorem dX4_stand_95 : decode cX4_stand 95 = .ok (.iload_n 2, 1) := by decide +kernel
theorem dX4_stand_96 : decode cX4_stand 96 = .ok (.invokevirtual 143, 3) := by decide +kernel
theorem dX4_stand_99 : decode cX4_stand 99 = .ok (.istore 6, 2) := by decide +kernel
theorem dX4_stand_101 : decode cX4_stand 101 = .ok (.iload 6, 2) := by decide +kernel
theorem dX4_stand_103 : decode cX4_stand 103 = .ok (.iload 4, 2) := by decide +kernel
theorem dX4_stand_105 : decode cX4_stand 105 = .ok (.if_icmp .le 10, 3) := by decide +kernel
theorem dX4_stand_108 : decode cX4_stand 108 = .ok (.iload 6, 2) := by decide +kernel
theorem dX4_stand_110 : decode cX4_stand 110 = .ok (.istore 4, 2) := by decide +kernel
theorem dX4_stand_112 : decode cX4_stand 112 = .ok (.iload 5, 2) := by decide +kernel
theorem dX4_stand_114 : decode cX4_stand 114 = .ok (.istore_n 3, 1) := by decide +kernel
theorem dX4_stand_115 : decode cX4_stand 115 = .ok (.iinc 5 1, 3) := by decide +kernel
theorem dX4_stand_118 : decode cX4_stand 118 = .ok (.goto (-58), 3) := by decide +kernel
theorem dX4_stand_121 : decode cX4_stand 121 = .ok (.iload_n 3, 1) := by decide +kernel
theorem dX4_stand_122 : decode cX4_stand 122 = .ok (.ireturn, 1) := by decide +kernel
theorem dX4_grows_0 : decode cX4_grows 0 = .ok (.aload_n 0, 1) := by decide +kernel
theorem dX4_grows_1 : decode cX4_grows 1 = .ok (.getfield 10, 3) := by decide +kernel
theorem dX4_grows_4 : decode cX4_grows 4 = .ok (.iload_n 1, 1) := by decide +kernel
theorem dX4_grows_5 : decode cX4_grows 5 = .ok (.invokevirtual 82, 3) := by decide +kernel
theorem dX4_grows_8 : decode cX4_grows 8 = .ok (.ifCond .eq 14, 3) := by decide +kernel
theorem dX4_grows_11 : decode cX4_grows 11 = .ok (.aload_n 0, 1) := by decide +kernel
theorem dX4_grows_12 : decode cX4_grows 12 = .ok (.getfield 10, 3) := by decide +kernel
theorem dX4_grows_15 : decode cX4_grows 15 = .ok (.iload_n 2, 1) := by decide +kernel
theorem dX4_grows_16 : decode cX4_grows 16 = .ok (.invokevirtual 66, 3) := by decide +kernel
theorem dX4_grows_19 : decode cX4_grows 19 = .ok (.ifCond .ne 9, 3) := by decide +kernel
theorem dX4_grows_22 : decode cX4_grows 22 = .ok (.aload_n 0, 1) := by decide +kernel
theorem dX4_grows_23 : decode cX4_grows 23 = .ok (.iconst (-1), 1) := by decide +kernel
theorem dX4_grows_24 : decode cX4_grows 24 = .ok (.invokevirtual 51, 3) := by decide +kernel
theorem dX4_grows_27 : decode cX4_grows 27 = .ok (.ireturn, 1) := by decide +kernel
theorem dX4_grows_28 : decode cX4_grows 28 = .ok (.iload_n 3, 1) := by decide +kernel
theorem dX4_grows_29 : decode cX4_grows 29 = .ok (.iconst 1, 1) := by decide +kernel
theorem dX4_grows_30 : decode cX4_grows 30 = .ok (.if_icmp .ge 10, 3) := by decide +kernel
theorem dX4_grows_33 : decode cX4_grows 33 = .ok (.aload_n 0, 1) := by decide +kernel
theorem dX4_grows_34 : decode cX4_grows 34 = .ok (.bipush (-4), 2) := by decide +kernel
theorem dX4_grows_36 : decode cX4_grows 36 = .ok (.invokevirtual 51, 3) := by decide +kernel
theorem dX4_grows_39 : decode cX4_grows 39 = .ok (.ireturn, 1) := by decide +kernel
theorem dX4_grows_40 : decode cX4_grows 40 = .ok (.iload_n 3, 1) := by decide +kernel
theorem dX4_grows_41 : decode cX4_grows 41 = .ok (.bipush 20, 2) := by decide +kernel
theorem dX4_grows_43 : decode cX4_grows 43 = .ok (.if_icmp .le 10, 3) := by decide +kernel
theorem dX4_grows_46 : decode cX4_grows 46 = .ok (.aload_n 0, 1) := by decide +kernel
theorem dX4_grows_47 : decode cX4_grows 47 = .ok (.bipush (-6), 2) := by decide +kernel
theorem dX4_grows_49 : decode cX4_grows 49 = .ok (.invokevirtual 51, 3) := by decide +kernel
theorem dX4_grows_52 : decode cX4_grows 52 = .ok (.ireturn, 1) := by decide +kernel
theorem dX4_grows_53 : decode cX4_grows 53 = .ok (.aload_n 0, 1) := by decide +kernel
theorem dX4_grows_54 : decode cX4_grows 54 = .ok (.getfield 10, 3) := by decide +kernel
theorem dX4_grows_57 : decode cX4_grows 57 = .ok (.getfield 85, 3) := by decide +kernel
theorem dX4_grows_60 : decode cX4_grows 60 = .ok (.iload_n 1, 1) := by decide +kernel
theorem dX4_grows_61 : decode cX4_grows 61 = .ok (.aaload, 1) := by decide +kernel
theorem dX4_grows_62 : decode cX4_grows 62 = .ok (.astore 4, 2) := by decide +kernel
theorem dX4_grows_64 : decode cX4_grows 64 = .ok (.bipush 99, 2) := by decide +kernel
theorem dX4_grows_66 : decode cX4_grows 66 = .ok (.aload_n 0, 1) := by decide +kernel
theorem dX4_grows_67 : decode cX4_grows 67 = .ok (.getfield 10, 3) := by decide +kernel
theorem dX4_grows_70 : decode cX4_grows 70 = .ok (.getfield 79, 3) := by decide +kernel
theorem dX4_grows_73 : decode cX4_grows 73 = .ok (.iload_n 2, 1) := by decide +kernel
theorem dX4_grows_74 : decode cX4_grows 74 = .ok (.iaload, 1) := by decide +kernel
theorem dX4_grows_75 : decode cX4_grows 75 = .ok (.iload_n 3, 1) := by decide +kernel
theorem dX4_grows_76 : decode cX4_grows 76 = .ok (.iconst 1, 1) := by decide +kernel
theorem dX4_grows_77 : decode cX4_grows 77 = .ok (.isub, 1) := by decide +kernel
theorem dX4_grows_78 : decode cX4_grows 78 = .ok (.aload 4, 2) := by decide +kernel
theorem dX4_grows_80 : decode cX4_grows 80 = .ok (.invokevirtual 109, 3) := by decide +kernel
theorem dX4_grows_83 : decode cX4_grows 83 = .ok (.imul, 1) := by decide +kernel
theorem dX4_grows_84 : decode cX4_grows 84 = .ok (.iadd, 1) := by decide +kernel
theorem dX4_grows_85 : decode cX4_grows 85 = .ok (.invokestatic 175, 3) := by decide +kernel
theorem dX4_grows_88 : decode cX4_grows 88 = .ok (.istore 5, 2) := by decide +kernel
theorem dX4_grows_90 : decode cX4_grows 90 = .ok (.aload 4, 2) := by decide +kernel
theorem dX4_grows_92 : decode cX4_grows 92 = .ok (.aload_n 0, 1) := by decide +kernel
theorem dX4_grows_93 : decode cX4_grows 93 = .ok (.getfield 10, 3) := by decide +kernel
theorem dX4_grows_96 : decode cX4_grows 96 = .ok (.getfield 76, 3) := by decide +kernel
theorem dX4_grows_99 : decode cX4_grows 99 = .ok (.iload_n 2, 1) := by decide +kernel
theorem dX4_grows_100 : decode cX4_grows 100 = .ok (.iaload, 1) := by decide +kernel
theorem dX4_grows_101 : decode cX4_grows 101 = .ok (.iload 5, 2) := by decide +kernel
theorem dX4_grows_103 : decode cX4_grows 103 = .ok (.iconst 1, 1) := by decide +kernel
theorem dX4_grows_104 : decode cX4_grows 104 = .ok (.invokevirtual 181, 3) := by decide +kernel
theorem dX4_grows_107 : decode cX4_grows 107 = .ok (.ireturn, 1) := by decide +kernel
theorem dX4_worth_0 : decode cX4_worth 0 = .ok (.aload_n 0, 1) := by decide +kernel
theorem dX4_worth_1 : decode cX4_worth 1 = .ok (.getfield 10, 3) := by decide +kernel
theorem dX4_worth_4 : decode cX4_worth 4 = .ok (.invokevirtual 156, 3) := by decide +kernel
theorem dX4_worth_7 : decode cX4_worth 7 = .ok (.ifCond .ne 6, 3) := by decide +kernel
theorem dX4_worth_10 : decode cX4_worth 10 = .ok (.bipush (-9), 2) := by decide +kernel
theorem dX4_worth_12 : decode cX4_worth 12 = .ok (.ireturn, 1) := by decide +kernel
theorem dX4_worth_13 : decode cX4_worth 13 = .ok (.aload_n 0, 1) := by decide +kernel
theorem dX4_worth_14 : decode cX4_worth 14 = .ok (.getfield 16, 3) := by decide +kernel
theorem dX4_worth_17 : decode cX4_worth 17 = .ok (.aload_n 0, 1) := by decide +kernel
theorem dX4_worth_18 : decode cX4_worth 18 = .ok (.getfield 10, 3) := by decide +kernel
theorem dX4_worth_21 : decode cX4_worth 21 = .ok (.invokevirtual 171, 3) := by decide +kernel
theorem dX4_worth_24 : decode cX4_worth 24 = .ok (.aload_n 0, 1) := by decide +kernel
theorem dX4_worth_25 : decode cX4_worth 25 = .ok (.getfield 16, 3) := by decide +kernel
theorem dX4_worth_28 : decode cX4_worth 28 = .ok (.getfield 76, 3) := by decide +kernel
theorem dX4_worth_31 : decode cX4_worth 31 = .ok (.aload_n 0, 1) := by decide +kernel
theorem dX4_worth_32 : decode cX4_worth 32 = .ok (.getfield 16, 3) := by decide +kernel
theorem dX4_worth_35 : decode cX4_worth 35 = .ok (.getfield 115, 3) := by decide +kernel
theorem dX4_worth_38 : decode cX4_worth 38 = .ok (.bipush 9, 2) := by decide +kernel
theorem dX4_worth_40 : decode cX4_worth 40 = .ok (.aload_n 0, 1) := by decide +kernel
theorem dX4_worth_41 : decode cX4_worth 41 = .ok (.getfield 16, 3) := by decide +kernel
theorem dX4_worth_44 : decode cX4_worth 44 = .ok (.getfield 76, 3) := by decide +kernel
theorem dX4_worth_47 : decode cX4_worth 47 = .ok (.aload_n 0, 1) := by decide +kernel
theorem dX4_worth_48 : decode cX4_worth 48 = .ok (.getfield 16, 3) := by decide +kernel
theorem dX4_worth_51 : decode cX4_worth 51 = .ok (.getfield 115, 3) := by decide +kernel
theorem dX4_worth_54 : decode cX4_worth 54 = .ok (.iaload, 1) := by decide +kernel
theorem dX4_worth_55 : decode cX4_worth 55 = .ok (.iconst 1, 1) := by decide +kernel
theorem dX4_worth_56 : decode cX4_worth 56 = .ok (.iadd, 1) := by decide +kernel
theorem dX4_worth_57 : decode cX4_worth 57 = .ok (.invokestatic 175, 3) := by decide +kernel
theorem dX4_worth_60 : decode cX4_worth 60 = .ok (.iastore, 1) := by decide +kernel
theorem dX4_worth_61 : decode cX4_worth 61 = .ok (.iconst 0, 1) := by decide +kernel
theorem dX4_worth_62 : decode cX4_worth 62 = .ok (.aload_n 0, 1) := by decide +kernel
theorem dX4_worth_63 : decode cX4_worth 63 = .ok (.getfield 16, 3) := by decide +kernel
theorem dX4_worth_66 : decode cX4_worth 66 = .ok (.ldc2_w 185, 3) := by decide +kernel
theorem dX4_worth_69 : decode cX4_worth 69 = .ok (.invokevirtual 164, 3) := by decide +kernel
theorem dX4_worth_72 : decode cX4_worth 72 = .ok (.aload_n 0, 1) := by decide +kernel
theorem dX4_worth_73 : decode cX4_worth 73 = .ok (.getfield 10, 3) := by decide +kernel
theorem dX4_worth_76 : decode cX4_worth 76 = .ok (.ldc2_w 185, 3) := by decide +kernel
theorem dX4_worth_79 : decode cX4_worth 79 = .ok (.invokevirtual 164, 3) := by decide +kernel
theorem dX4_worth_82 : decode cX4_worth 82 = .ok (.lsub, 1) := by decide +kernel
theorem dX4_worth_83 : decode cX4_worth 83 = .ok (.l2i, 1) := by decide +kernel
theorem dX4_worth_84 : decode cX4_worth 84 = .ok (.invokestatic 187, 3) := by decide +kernel
theorem dX4_worth_87 : decode cX4_worth 87 = .ok (.ireturn, 1) := by decide +kernel
theorem dX4_who_0 : decode cX4_who 0 = .ok (.aload_n 0, 1) := by decide +kernel
theorem dX4_who_1 : decode cX4_who 1 = .ok (.getfield 10, 3) := by decide +kernel
theorem dX4_who_4 : decode cX4_who 4 = .ok (.iload_n 1, 1) := by decide +kernel
theorem dX4_who_5 : decode cX4_who 5 = .ok (.invokevirtual 82, 3) := by decide +kernel
theorem dX4_who_8 : decode cX4_who 8 = .ok (.ifCond .ne 9, 3) := by decide +kernel
theorem dX4_who_11 : decode cX4_who 11 = .ok (.aload_n 0, 1) := by decide +kernel
theorem dX4_who_12 : decode cX4_who 12 = .ok (.iconst (-1), 1) := by decide +kernel
theorem dX4_who_13 : decode cX4_who 13 = .ok (.invokevirtual 51, 3) := by decide +kernel
theorem dX4_who_16 : decode cX4_who 16 = .ok (.ireturn, 1) := by decide +kernel
theorem dX4_who_17 : decode cX4_who 17 = .ok (.aload_n 0, 1) := by decide +kernel
theorem dX4_who_18 : decode cX4_who 18 = .ok (.getfield 10, 3) := by decide +kernel
theorem dX4_who_21 : decode cX4_who 21 = .ok (.invokevirtual 129, 3) := by decide +kernel
theorem dX4_who_24 : decode cX4_who 24 = .ok (.ifCond .ne 6, 3) := by decide +kernel
theorem dX4_who_27 : decode cX4_who 27 = .ok (.bipush (-9), 2) := by decide +kernel
theorem dX4_who_29 : decode cX4_who 29 = .ok (.ireturn, 1) := by decide +kernel
theorem dX4_who_30 : decode cX4_who 30 = .ok (.iconst 0, 1) := by decide +kernel
theorem dX4_who_31 : decode cX4_who 31 = .ok (.istore_n 2, 1) := by decide +kernel
theorem dX4_who_32 : decode cX4_who 32 = .ok (.iconst 0, 1) := by decide +kernel
theorem dX4_who_33 : decode cX4_who 33 = .ok (.istore_n 3, 1) := by decide +kernel
theorem dX4_who_34 : decode cX4_who 34 = .ok (.iconst 1, 1) := by decide +kernel
theorem dX4_who_35 : decode cX4_who 35 = .ok (.istore 4, 2) := by decide +kernel
theorem dX4_who_37 : decode cX4_who 37 = .ok (.iconst 0, 1) := by decide +kernel
theorem dX4_who_38 : decode cX4_who 38 = .ok (.istore 5, 2) := by decide +kernel
theorem dX4_who_40 : decode cX4_who 40 = .ok (.iload 5, 2) := by decide +kernel
theorem dX4_who_42 : decode cX4_who 42 = .ok (.aload_n 0, 1) := by decide +kernel
theorem dX4_who_43 : decode cX4_who 43 = .ok (.getfield 10, 3) := by decide +kernel
theorem dX4_who_46 : decode cX4_who 46 = .ok (.getfield 190, 3) := by decide +kernel
theorem dX4_who_49 : decode cX4_who 49 = .ok (.if_icmp .ge 69, 3) := by decide +kernel
theorem dX4_who_52 : decode cX4_who 52 = .ok (.aload_n 0, 1) := by decide +kernel
theorem dX4_who_53 : decode cX4_who 53 = .ok (.getfield 10, 3) := by decide +kernel
theorem dX4_who_56 : decode cX4_who 56 = .ok (.iload_n 1, 1) := by decide +kernel
theorem dX4_who_57 : decode cX4_who 57 = .ok (.aload_n 0, 1) := by decide +kernel
theorem dX4_who_58 : decode cX4_who 58 = .ok (.getfield 10, 3) := by decide +kernel
theorem dX4_who_61 : decode cX4_who 61 = .ok (.getfield 115, 3) := by decide +kernel
theorem dX4_who_64 : decode cX4_who 64 = .ok (.iload 5, 2) := by decide +kernel
theorem dX4_who_66 : decode cX4_who 66 = .ok (.invokevirtual 143, 3) := by decide +kernel
theorem dX4_who_69 : decode cX4_who 69 = .ok (.istore 6, 2) := by decide +kernel
theorem dX4_who_71 : decode cX4_who 71 = .ok (.aload_n 0, 1) := by decide +kernel
theorem dX4_who_72 : decode cX4_who 72 = .ok (.getfield 10, 3) := by decide +kernel
theorem dX4_who_75 : decode cX4_who 75 = .ok (.iload_n 1, 1) := by decide +kernel
theorem dX4_who_76 : decode cX4_who 76 = .ok (.aload_n 0, 1) := by decide +kernel
theorem dX4_who_77 : decode cX4_who 77 = .ok (.getfield 10, 3) := by decide +kernel
theorem dX4_who_80 : decode cX4_who 80 = .ok (.getfield 115, 3) := by decide +kernel
theorem dX4_who_83 : decode cX4_who 83 = .ok (.iload 5, 2) := by decide +kernel
theorem dX4_who_85 : decode cX4_who 85 = .ok (.invokevirtual 146, 3) := by decide +kernel
theorem dX4_who_88 : decode cX4_who 88 = .ok (.istore 7, 2) := by decide +kernel
theorem dX4_who_90 : decode cX4_who 90 = .ok (.iload 6, 2) := by decide +kernel
theorem dX4_who_92 : decode cX4_who 92 = .ok (.iload 4, 2) := by decide +kernel
theorem dX4_who_94 : decode cX4_who 94 = .ok (.imul, 1) := by decide +kernel
theorem dX4_who_95 : decode cX4_who 95 = .ok (.iload_n 3, 1) := by decide +kernel
theorem dX4_who_96 : decode cX4_who 96 = .ok (.iload 7, 2) := by decide +kernel
theorem dX4_who_98 : decode cX4_who 98 = .ok (.imul, 1) := by decide +kernel
theorem dX4_who_99 : decode cX4_who 99 = .ok (.if_icmp .le 13, 3) := by decide +kernel
theorem dX4_who_102 : decode cX4_who 102 = .ok (.iload 5, 2) := by decide +kernel
theorem dX4_who_104 : decode cX4_who 104 = .ok (.istore_n 2, 1) := by decide +kernel
theorem dX4_who_105 : decode cX4_who 105 = .ok (.iload 6, 2) := by decide +kernel
theorem dX4_who_107 : decode cX4_who 107 = .ok (.istore_n 3, 1) := by decide +kernel
theorem dX4_who_108 : decode cX4_who 108 = .ok (.iload 7, 2) := by decide +kernel
theorem dX4_who_110 : decode cX4_who 110 = .ok (.istore 4, 2) := by decide +kernel
theorem dX4_who_112 : decode cX4_who 112 = .ok (.iinc 5 1, 3) := by decide +kernel
theorem dX4_who_115 : decode cX4_who 115 = .ok (.goto (-75), 3) := by decide +kernel
theorem dX4_who_118 : decode cX4_who 118 = .ok (.iload_n 2, 1) := by decide +kernel
theorem dX4_who_119 : decode cX4_who 119 = .ok (.ireturn, 1) := by decide +kernel
theorem dX4_winds_0 : decode cX4_winds 0 = .ok (.aload_n 0, 1) := by decide +kernel
theorem dX4_winds_1 : decode cX4_winds 1 = .ok (.iload_n 1, 1) := by decide +kernel
theorem dX4_winds_2 : decode cX4_winds 2 = .ok (.iload_n 2, 1) := by decide +kernel
theorem dX4_winds_3 : decode cX4_winds 3 = .ok (.iload_n 3, 1) := by decide +kernel
theorem dX4_winds_4 : decode cX4_winds 4 = .ok (.invokevirtual 121, 3) := by decide +kernel
theorem dX4_winds_7 : decode cX4_winds 7 = .ok (.ifCond .ne 9, 3) := by decide +kernel
theorem dX4_winds_10 : decode cX4_winds 10 = .ok (.aload_n 0, 1) := by decide +kernel
theorem dX4_winds_11 : decode cX4_winds 11 = .ok (.iconst (-1), 1) := by decide +kernel
theorem dX4_winds_12 : decode cX4_winds 12 = .ok (.invokevirtual 51, 3) := by decide +kernel
theorem dX4_winds_15 : decode cX4_winds 15 = .ok (.ireturn, 1) := by decide +kernel
theorem dX4_winds_16 : decode cX4_winds 16 = .ok (.iload 4, 2) := by decide +kernel
theorem dX4_winds_18 : decode cX4_winds 18 = .ok (.ifCond .ge 10, 3) := by decide +kernel
theorem dX4_winds_21 : decode cX4_winds 21 = .ok (.aload_n 0, 1) := by decide +kernel
theorem dX4_winds_22 : decode cX4_winds 22 = .ok (.bipush (-4), 2) := by decide +kernel
theorem dX4_winds_24 : decode cX4_winds 24 = .ok (.invokevirtual 51, 3) := by decide +kernel
theorem dX4_winds_27 : decode cX4_winds 27 = .ok (.ireturn, 1) := by decide +kernel
theorem dX4_winds_28 : decode cX4_winds 28 = .ok (.iload 4, 2) := by decide +kernel
theorem dX4_winds_30 : decode cX4_winds 30 = .ok (.aload_n 0, 1) := by decide +kernel
theorem dX4_winds_31 : decode cX4_winds 31 = .ok (.getfield 10, 3) := by decide +kernel
theorem dX4_winds_34 : decode cX4_winds 34 = .ok (.getfield 112, 3) := by decide +kernel
theorem dX4_winds_37 : decode cX4_winds 37 = .ok (.if_icmp .lt 10, 3) := by decide +kernel
theorem dX4_winds_40 : decode cX4_winds 40 = .ok (.aload_n 0, 1) := by decide +kernel
theorem dX4_winds_41 : decode cX4_winds 41 = .ok (.bipush (-6), 2) := by decide +kernel
theorem dX4_winds_43 : decode cX4_winds 43 = .ok (.invokevirtual 51, 3) := by decide +kernel
theorem dX4_winds_46 : decode cX4_winds 46 = .ok (.ireturn, 1) := by decide +kernel
theorem dX4_winds_47 : decode cX4_winds 47 = .ok (.aload_n 0, 1) := by decide +kernel
theorem dX4_winds_48 : decode cX4_winds 48 = .ok (.getfield 10, 3) := by decide +kernel
theorem dX4_winds_51 : decode cX4_winds 51 = .ok (.iload_n 1, 1) := by decide +kernel
theorem dX4_winds_52 : decode cX4_winds 52 = .ok (.iload_n 2, 1) := by decide +kernel
theorem dX4_winds_53 : decode cX4_winds 53 = .ok (.iload_n 3, 1) := by decide +kernel
theorem dX4_winds_54 : decode cX4_winds 54 = .ok (.invokevirtual 125, 3) := by decide +kernel
theorem dX4_winds_57 : decode cX4_winds 57 = .ok (.istore 5, 2) := by decide +kernel
theorem dX4_winds_59 : decode cX4_winds 59 = .ok (.iload 4, 2) := by decide +kernel
theorem dX4_winds_61 : decode cX4_winds 61 = .ok (.aload_n 0, 1) := by decide +kernel
theorem dX4_winds_62 : decode cX4_winds 62 = .ok (.getfield 10, 3) := by decide +kernel
theorem dX4_winds_65 : decode cX4_winds 65 = .ok (.getfield 70, 3) := by decide +kernel
theorem dX4_winds_68 : decode cX4_winds 68 = .ok (.iload_n 3, 1) := by decide +kernel
theorem dX4_winds_69 : decode cX4_winds 69 = .ok (.iaload, 1) := by decide +kernel
theorem dX4_winds_70 : decode cX4_winds 70 = .ok (.isub, 1) := by decide +kernel
theorem dX4_winds_71 : decode cX4_winds 71 = .ok (.istore 6, 2) := by decide +kernel
theorem dX4_winds_73 : decode cX4_winds 73 = .ok (.iconst 0, 1) := by decide +kernel
theorem dX4_winds_74 : decode cX4_winds 74 = .ok (.istore 7, 2) := by decide +kernel
theorem dX4_winds_76 : decode cX4_winds 76 = .ok (.bipush (-3), 2) := by decide +kernel
theorem dX4_winds_78 : decode cX4_winds 78 = .ok (.istore 8, 2) := by decide +kernel
theorem dX4_winds_80 : decode cX4_winds 80 = .ok (.iload 8, 2) := by decide +kernel
theorem dX4_winds_82 : decode cX4_winds 82 = .ok (.iconst 3, 1) := by decide +kernel
theorem dX4_winds_83 : decode cX4_winds 83 = .ok (.if_icmp .gt 45, 3) := by decide +kernel
theorem dX4_winds_86 : decode cX4_winds 86 = .ok (.iload 6, 2) := by decide +kernel
theorem dX4_winds_88 : decode cX4_winds 88 = .ok (.aload_n 0, 1) := by decide +kernel
theorem dX4_winds_89 : decode cX4_winds 89 = .ok (.getfield 10, 3) := by decide +kernel
theorem dX4_winds_92 : decode cX4_winds 92 = .ok (.getfield 85, 3) := by decide +kernel
theorem dX4_winds_95 : decode cX4_winds 95 = .ok (.iload_n 1, 1) := by decide +kernel
theorem dX4_winds_96 : decode cX4_winds 96 = .ok (.aaload, 1) := by decide +kernel
theorem dX4_winds_97 : decode cX4_winds 97 = .ok (.iload 8, 2) := by decide +kernel
theorem dX4_winds_99 : decode cX4_winds 99 = .ok (.invokevirtual 106, 3) := by decide +kernel
theorem dX4_winds_102 : decode cX4_winds 102 = .ok (.isub, 1) := by decide +kernel
theorem dX4_winds_103 : decode cX4_winds 103 = .ok (.invokestatic 193, 3) := by decide +kernel
theorem dX4_winds_106 : decode cX4_winds 106 = .ok (.iload 5, 2) := by decide +kernel
theorem dX4_winds_108 : decode cX4_winds 108 = .ok (.if_icmp .gt 14, 3) := by decide +kernel
theorem dX4_winds_111 : decode cX4_winds 111 = .ok (.iload 7, 2) := by decide +kernel
theorem dX4_winds_113 : decode cX4_winds 113 = .ok (.iconst 1, 1) := by decide +kernel
theorem dX4_winds_114 : decode cX4_winds 114 = .ok (.iload 8, 2) := by decide +kernel
theorem dX4_winds_116 : decode cX4_winds 116 = .ok (.iconst 3, 1) := by decide +kernel
theorem dX4_winds_117 : decode cX4_winds 117 = .ok (.iadd, 1) := by decide +kernel
theorem dX4_winds_118 : decode cX4_winds 118 = .ok (.ishl, 1) := by decide +kernel
theorem dX4_winds_119 : decode cX4_winds 119 = .ok (.ior, 1) := by decide +kernel
theorem dX4_winds_120 : decode cX4_winds 120 = .ok (.istore 7, 2) := by decide +kernel
theorem dX4_winds_122 : decode cX4_winds 122 = .ok (.iinc 8 1, 3) := by decide +kernel
theorem dX4_winds_125 : decode cX4_winds 125 = .ok (.goto (-45), 3) := by decide +kernel
theorem dX4_winds_128 : decode cX4_winds 128 = .ok (.iload 7, 2) := by decide +kernel
theorem dX4_winds_130 : decode cX4_winds 130 = .ok (.ireturn, 1) := by decide +kernel
theorem dX4_longest_0 : decode cX4_longest 0 = .ok (.iload_n 1, 1) := by decide +kernel
theorem dX4_longest_1 : decode cX4_longest 1 = .ok (.iconst 1, 1) := by decide +kernel
theorem dX4_longest_2 : decode cX4_longest 2 = .ok (.if_icmp .ge 10, 3) := by decide +kernel
theorem dX4_longest_5 : decode cX4_longest 5 = .ok (.aload_n 0, 1) := by decide +kernel
theorem dX4_longest_6 : decode cX4_longest 6 = .ok (.bipush (-4), 2) := by decide +kernel
theorem dX4_longest_8 : decode cX4_longest 8 = .ok (.invokevirtual 51, 3) := by decide +kernel
theorem dX4_longest_11 : decode cX4_longest 11 = .ok (.ireturn, 1) := by decide +kernel
theorem dX4_longest_12 : decode cX4_longest 12 = .ok (.iload_n 1, 1) := by decide +kernel
theorem dX4_longest_13 : decode cX4_longest 13 = .ok (.iconst 3, 1) := by decide +kernel
theorem dX4_longest_14 : decode cX4_longest 14 = .ok (.if_icmp .le 10, 3) := by decide +kernel
theorem dX4_longest_17 : decode cX4_longest 17 = .ok (.aload_n 0, 1) := by decide +kernel
theorem dX4_longest_18 : decode cX4_longest 18 = .ok (.bipush (-6), 2) := by decide +kernel
theorem dX4_longest_20 : decode cX4_longest 20 = .ok (.invokevirtual 51, 3) := by decide +kernel
theorem dX4_longest_23 : decode cX4_longest 23 = .ok (.ireturn, 1) := by decide +kernel
theorem dX4_longest_24 : decode cX4_longest 24 = .ok (.iload_n 2, 1) := by decide +kernel
theorem dX4_longest_25 : decode cX4_longest 25 = .ok (.ifCond .lt 8, 3) := by decide +kernel
theorem dX4_longest_28 : decode cX4_longest 28 = .ok (.iload_n 2, 1) := by decide +kernel
theorem dX4_longest_29 : decode cX4_longest 29 = .ok (.iconst 1, 1) := by decide +kernel
theorem dX4_longest_30 : decode cX4_longest 30 = .ok (.if_icmp .le 10, 3) := by decide +kernel
theorem dX4_longest_33 : decode cX4_longest 33 = .ok (.aload_n 0, 1) := by decide +kernel
theorem dX4_longest_34 : decode cX4_longest 34 = .ok (.bipush (-2), 2) := by decide +kernel
theorem dX4_longest_36 : decode cX4_longest 36 = .ok (.invokevirtual 51, 3) := by decide +kernel
theorem dX4_longest_39 : decode cX4_longest 39 = .ok (.ireturn, 1) := by decide +kernel
theorem dX4_longest_40 : decode cX4_longest 40 = .ok (.aload_n 0, 1) := by decide +kernel
theorem dX4_longest_41 : decode cX4_longest 41 = .ok (.getfield 10, 3) := by decide +kernel
theorem dX4_longest_44 : decode cX4_longest 44 = .ok (.invokevirtual 129, 3) := by decide +kernel
theorem dX4_longest_47 : decode cX4_longest 47 = .ok (.ifCond .ne 10, 3) := by decide +kernel
theorem dX4_longest_50 : decode cX4_longest 50 = .ok (.aload_n 0, 1) := by decide +kernel
theorem dX4_longest_51 : decode cX4_longest 51 = .ok (.bipush (-3), 2) := by decide +kernel
theorem dX4_longest_53 : decode cX4_longest 53 = .ok (.invokevirtual 51, 3) := by decide +kernel
theorem dX4_longest_56 : decode cX4_longest 56 = .ok (.ireturn, 1) := by decide +kernel
theorem dX4_longest_57 : decode cX4_longest 57 = .ok (.iconst 0, 1) := by decide +kernel
theorem dX4_longest_58 : decode cX4_longest 58 = .ok (.istore_n 3, 1) := by decide +kernel
theorem dX4_longest_59 : decode cX4_longest 59 = .ok (.bipush (-9), 2) := by decide +kernel
theorem dX4_longest_61 : decode cX4_longest 61 = .ok (.istore 4, 2) := by decide +kernel
theorem dX4_longest_63 : decode cX4_longest 63 = .ok (.aload_n 0, 1) := by decide +kernel
theorem dX4_longest_64 : decode cX4_longest 64 = .ok (.iload_n 1, 1) := by decide +kernel
theorem dX4_longest_65 : decode cX4_longest 65 = .ok (.invokevirtual 196, 3) := by decide +kernel
theorem dX4_longest_68 : decode cX4_longest 68 = .ok (.istore 5, 2) := by decide +kernel
theorem dX4_longest_70 : decode cX4_longest 70 = .ok (.iconst 0, 1) := by decide +kernel
theorem dX4_longest_71 : decode cX4_longest 71 = .ok (.istore 6, 2) := by decide +kernel
theorem dX4_longest_73 : decode cX4_longest 73 = .ok (.iload 6, 2) := by decide +kernel
theorem dX4_longest_75 : decode cX4_longest 75 = .ok (.iload 5, 2) := by decide +kernel
theorem dX4_longest_77 : decode cX4_longest 77 = .ok (.if_icmp .ge 57, 3) := by decide +kernel
theorem dX4_longest_80 : decode cX4_longest 80 = .ok (.aload_n 0, 1) := by decide +kernel
theorem dX4_longest_81 : decode cX4_longest 81 = .ok (.iload 6, 2) := by decide +kernel
theorem dX4_longest_83 : decode cX4_longest 83 = .ok (.iload_n 1, 1) := by decide +kernel
theorem dX4_longest_84 : decode cX4_longest 84 = .ok (.invokevirtual 199, 3) := by decide +kernel
theorem dX4_longest_87 : decode cX4_longest 87 = .ok (.ifCond .eq 41, 3) := by decide +kernel
theorem dX4_longest_90 : decode cX4_longest 90 = .ok (.aload_n 0, 1) := by decide +kernel
theorem dX4_longest_91 : decode cX4_longest 91 = .ok (.getfield 16, 3) := by decide +kernel
theorem dX4_longest_94 : decode cX4_longest 94 = .ok (.getfield 79, 3) := by decide +kernel
theorem dX4_longest_97 : decode cX4_longest 97 = .ok (.aload_n 0, 1) := by decide +kernel
theorem dX4_longest_98 : decode cX4_longest 98 = .ok (.getfield 16, 3) := by decide +kernel
theorem dX4_longest_101 : decode cX4_longest 101 = .ok (.getfield 115, 3) := by decide +kernel
theorem dX4_longest_104 : decode cX4_longest 104 = .ok (.iaload, 1) := by decide +kernel
theorem dX4_longest_105 : decode cX4_longest 105 = .ok (.istore 7, 2) := by decide +kernel
theorem dX4_longest_107 : decode cX4_longest 107 = .ok (.iload_n 3, 1) := by decide +kernel
theorem dX4_longest_108 : decode cX4_longest 108 = .ok (.ifCond .ne 8, 3) := by decide +kernel
theorem dX4_longest_111 : decode cX4_longest 111 = .ok (.iload 7, 2) := by decide +kernel
theorem dX4_longest_113 : decode cX4_longest 113 = .ok (.goto 10, 3) := by decide +kernel
theorem dX4_longest_116 : decode cX4_longest 116 = .ok (.iload 4, 2) := by decide +kernel
theorem dX4_longest_118 : decode cX4_longest 118 = .ok (.iload 7, 2) := by decide +kernel
theorem dX4_longest_120 : decode cX4_longest 120 = .ok (.invokestatic 175, 3) := by decide +kernel
theorem dX4_longest_123 : decode cX4_longest 123 = .ok (.istore 4, 2) := by decide +kernel
theorem dX4_longest_125 : decode cX4_longest 125 = .ok (.iinc 3 1, 3) := by decide +kernel
theorem dX4_longest_128 : decode cX4_longest 128 = .ok (.iinc 6 1, 3) := by decide +kernel
theorem dX4_longest_131 : decode cX4_longest 131 = .ok (.goto (-58), 3) := by decide +kernel
theorem dX4_longest_134 : decode cX4_longest 134 = .ok (.iload_n 2, 1) := by decide +kernel
theorem dX4_longest_135 : decode cX4_longest 135 = .ok (.ifCond .ne 7, 3) := by decide +kernel
theorem dX4_longest_138 : decode cX4_longest 138 = .ok (.iload_n 3, 1) := by decide +kernel
theorem dX4_longest_139 : decode cX4_longest 139 = .ok (.goto 5, 3) := by decide +kernel
theorem dX4_longest_142 : decode cX4_longest 142 = .ok (.iload 4, 2) := by decide +kernel
theorem dX4_longest_144 : decode cX4_longest 144 = .ok (.ireturn, 1) := by decide +kernel
theorem dX4_row_0 : decode cX4_row 0 = .ok (.iload_n 1, 1) := by decide +kernel
theorem dX4_row_1 : decode cX4_row 1 = .ok (.ifCond .ge 10, 3) := by decide +kernel
theorem dX4_row_4 : decode cX4_row 4 = .ok (.aload_n 0, 1) := by decide +kernel
theorem dX4_row_5 : decode cX4_row 5 = .ok (.bipush (-4), 2) := by decide +kernel
theorem dX4_row_7 : decode cX4_row 7 = .ok (.invokevirtual 51, 3) := by decide +kernel
theorem dX4_row_10 : decode cX4_row 10 = .ok (.ireturn, 1) := by decide +kernel
theorem dX4_row_11 : decode cX4_row 11 = .ok (.iload_n 1, 1) := by decide +kernel
theorem dX4_row_12 : decode cX4_row 12 = .ok (.sipush 999, 3) := by decide +kernel
theorem dX4_row_15 : decode cX4_row 15 = .ok (.if_icmp .gt 12, 3) := by decide +kernel
theorem dX4_row_18 : decode cX4_row 18 = .ok (.aload_n 0, 1) := by decide +kernel
theorem dX4_row_19 : decode cX4_row 19 = .ok (.getfield 37, 3) := by decide +kernel
theorem dX4_row_22 : decode cX4_row 22 = .ok (.bipush 8, 2) := by decide +kernel
theorem dX4_row_24 : decode cX4_row 24 = .ok (.if_icmp .lt 10, 3) := by decide +kernel
theorem dX4_row_27 : decode cX4_row 27 = .ok (.aload_n 0, 1) := by decide +kernel
theorem dX4_row_28 : decode cX4_row 28 = .ok (.bipush (-6), 2) := by decide +kernel
theorem dX4_row_30 : decode cX4_row 30 = .ok (.invokevirtual 51, 3) := by decide +kernel
theorem dX4_row_33 : decode cX4_row 33 = .ok (.ireturn, 1) := by decide +kernel
theorem dX4_row_34 : decode cX4_row 34 = .ok (.aload_n 0, 1) := by decide +kernel
theorem dX4_row_35 : decode cX4_row 35 = .ok (.getfield 33, 3) := by decide +kernel
theorem dX4_row_38 : decode cX4_row 38 = .ok (.aload_n 0, 1) := by decide +kernel
theorem dX4_row_39 : decode cX4_row 39 = .ok (.getfield 37, 3) := by decide +kernel
theorem dX4_row_42 : decode cX4_row 42 = .ok (.iload_n 1, 1) := by decide +kernel
theorem dX4_row_43 : decode cX4_row 43 = .ok (.iastore, 1) := by decide +kernel
theorem dX4_row_44 : decode cX4_row 44 = .ok (.aload_n 0, 1) := by decide +kernel
theorem dX4_row_45 : decode cX4_row 45 = .ok (.dup, 1) := by decide +kernel
theorem dX4_row_46 : decode cX4_row 46 = .ok (.getfield 37, 3) := by decide +kernel
theorem dX4_row_49 : decode cX4_row 49 = .ok (.iconst 1, 1) := by decide +kernel
theorem dX4_row_50 : decode cX4_row 50 = .ok (.iadd, 1) := by decide +kernel
theorem dX4_row_51 : decode cX4_row 51 = .ok (.putfield 37, 3) := by decide +kernel
theorem dX4_row_54 : decode cX4_row 54 = .ok (.aload_n 0, 1) := by decide +kernel
theorem dX4_row_55 : decode cX4_row 55 = .ok (.getfield 37, 3) := by decide +kernel
theorem dX4_row_58 : decode cX4_row 58 = .ok (.ireturn, 1) := by decide +kernel
theorem dX4_judge_0 : decode cX4_judge 0 = .ok (.aload_n 0, 1) := by decide +kernel
theorem dX4_judge_1 : decode cX4_judge 1 = .ok (.getfield 37, 3) := by decide +kernel
theorem dX4_judge_4 : decode cX4_judge 4 = .ok (.istore_n 1, 1) := by decide +kernel
theorem dX4_judge_5 : decode cX4_judge 5 = .ok (.aload_n 0, 1) := by decide +kernel
theorem dX4_judge_6 : decode cX4_judge 6 = .ok (.iconst 0, 1) := by decide +kernel
theorem dX4_judge_7 : decode cX4_judge 7 = .ok (.putfield 37, 3) := by decide +kernel
theorem dX4_judge_10 : decode cX4_judge 10 = .ok (.aload_n 0, 1) := by decide +kernel
theorem dX4_judge_11 : decode cX4_judge 11 = .ok (.getfield 16, 3) := by decide +kernel
theorem dX4_judge_14 : decode cX4_judge 14 = .ok (.aload_n 0, 1) := by decide +kernel
theorem dX4_judge_15 : decode cX4_judge 15 = .ok (.getfield 10, 3) := by decide +kernel
theorem dX4_judge_18 : decode cX4_judge 18 = .ok (.invokevirtual 171, 3) := by decide +kernel
theorem dX4_judge_21 : decode cX4_judge 21 = .ok (.iconst 0, 1) := by decide +kernel
theorem dX4_judge_22 : decode cX4_judge 22 = .ok (.istore_n 2, 1) := by decide +kernel
theorem dX4_judge_23 : decode cX4_judge 23 = .ok (.iload_n 2, 1) := by decide +kernel
theorem dX4_judge_24 : decode cX4_judge 24 = .ok (.iload_n 1, 1) := by decide +kernel
theorem dX4_judge_25 : decode cX4_judge 25 = .ok (.if_icmp .ge 24, 3) := by decide +kernel
theorem dX4_judge_28 : decode cX4_judge 28 = .ok (.aload_n 0, 1) := by decide +kernel
theorem dX4_judge_29 : decode cX4_judge 29 = .ok (.aload_n 0, 1) := by decide +kernel
theorem dX4_judge_30 : decode cX4_judge 30 = .ok (.getfield 33, 3) := by decide +kernel
theorem dX4_judge_33 : decode cX4_judge 33 = .ok (.iload_n 2, 1) := by decide +kernel
theorem dX4_judge_34 : decode cX4_judge 34 = .ok (.iaload, 1) := by decide +kernel
theorem dX4_judge_35 : decode cX4_judge 35 = .ok (.invokevirtual 203, 3) := by decide +kernel
theorem dX4_judge_38 : decode cX4_judge 38 = .ok (.ifCond .ne 5, 3) := by decide +kernel
theorem dX4_judge_41 : decode cX4_judge 41 = .ok (.iload_n 2, 1) := by decide +kernel
theorem dX4_judge_42 : decode cX4_judge 42 = .ok (.ireturn, 1) := by decide +kernel
theorem dX4_judge_43 : decode cX4_judge 43 = .ok (.iinc 2 1, 3) := by decide +kernel
theorem dX4_judge_46 : decode cX4_judge 46 = .ok (.goto (-23), 3) := by decide +kernel
theorem dX4_judge_49 : decode cX4_judge 49 = .ok (.bipush (-9), 2) := by decide +kernel
theorem dX4_judge_51 : decode cX4_judge 51 = .ok (.ireturn, 1) := by decide +kernel
theorem dX4_seeds_0 : decode cX4_seeds 0 = .ok (.iload_n 1, 1) := by decide +kernel
theorem dX4_seeds_1 : decode cX4_seeds 1 = .ok (.iconst 1, 1) := by decide +kernel
theorem dX4_seeds_2 : decode cX4_seeds 2 = .ok (.if_icmp .ge 10, 3) := by decide +kernel
theorem dX4_seeds_5 : decode cX4_seeds 5 = .ok (.aload_n 0, 1) := by decide +kernel
theorem dX4_seeds_6 : decode cX4_seeds 6 = .ok (.bipush (-4), 2) := by decide +kernel
theorem dX4_seeds_8 : decode cX4_seeds 8 = .ok (.invokevirtual 51, 3) := by decide +kernel
theorem dX4_seeds_11 : decode cX4_seeds 11 = .ok (.ireturn, 1) := by decide +kernel
theorem dX4_seeds_12 : decode cX4_seeds 12 = .ok (.iload_n 1, 1) := by decide +kernel
theorem dX4_seeds_13 : decode cX4_seeds 13 = .ok (.bipush 40, 2) := by decide +kernel
theorem dX4_seeds_15 : decode cX4_seeds 15 = .ok (.if_icmp .le 10, 3) := by decide +kernel
theorem dX4_seeds_18 : decode cX4_seeds 18 = .ok (.aload_n 0, 1) := by decide +kernel
theorem dX4_seeds_19 : decode cX4_seeds 19 = .ok (.bipush (-6), 2) := by decide +kernel
theorem dX4_seeds_21 : decode cX4_seeds 21 = .ok (.invokevirtual 51, 3) := by decide +kernel
theorem dX4_seeds_24 : decode cX4_seeds 24 = .ok (.ireturn, 1) := by decide +kernel
theorem dX4_seeds_25 : decode cX4_seeds 25 = .ok (.aload_n 0, 1) := by decide +kernel
theorem dX4_seeds_26 : decode cX4_seeds 26 = .ok (.getfield 10, 3) := by decide +kernel
theorem dX4_seeds_29 : decode cX4_seeds 29 = .ok (.invokevirtual 156, 3) := by decide +kernel
theorem dX4_seeds_32 : decode cX4_seeds 32 = .ok (.ifCond .ne 10, 3) := by decide +kernel
theorem dX4_seeds_35 : decode cX4_seeds 35 = .ok (.aload_n 0, 1) := by decide +kernel
theorem dX4_seeds_36 : decode cX4_seeds 36 = .ok (.bipush (-3), 2) := by decide +kernel
theorem dX4_seeds_38 : decode cX4_seeds 38 = .ok (.invokevirtual 51, 3) := by decide +kernel
theorem dX4_seeds_41 : decode cX4_seeds 41 = .ok (.ireturn, 1) := by decide +kernel
theorem dX4_seeds_42 : decode cX4_seeds 42 = .ok (.aload_n 0, 1) := by decide +kernel
theorem dX4_seeds_43 : decode cX4_seeds 43 = .ok (.getfield 16, 3) := by decide +kernel
theorem dX4_seeds_46 : decode cX4_seeds 46 = .ok (.aload_n 0, 1) := by decide +kernel
theorem dX4_seeds_47 : decode cX4_seeds 47 = .ok (.getfield 10, 3) := by decide +kernel
theorem dX4_seeds_50 : decode cX4_seeds 50 = .ok (.invokevirtual 171, 3) := by decide +kernel
theorem dX4_seeds_53 : decode cX4_seeds 53 = .ok (.iload_n 2, 1) := by decide +kernel
theorem dX4_seeds_54 : decode cX4_seeds 54 = .ok (.istore_n 3, 1) := by decide +kernel
theorem dX4_seeds_55 : decode cX4_seeds 55 = .ok (.iconst 0, 1) := by decide +kernel
theorem dX4_seeds_56 : decode cX4_seeds 56 = .ok (.istore 4, 2) := by decide +kernel
theorem dX4_seeds_58 : decode cX4_seeds 58 = .ok (.iload 4, 2) := by decide +kernel
theorem dX4_seeds_60 : decode cX4_seeds 60 = .ok (.iload_n 1, 1) := by decide +kernel
theorem dX4_seeds_61 : decode cX4_seeds 61 = .ok (.if_icmp .ge 112, 3) := by decide +kernel
theorem dX4_seeds_64 : decode cX4_seeds 64 = .ok (.iload_n 3, 1) := by decide +kernel
theorem dX4_seeds_65 : decode cX4_seeds 65 = .ok (.invokestatic 206, 3) := by decide +kernel
theorem dX4_seeds_68 : decode cX4_seeds 68 = .ok (.istore_n 3, 1) := by decide +kernel
theorem dX4_seeds_69 : decode cX4_seeds 69 = .ok (.aload_n 0, 1) := by decide +kernel
theorem dX4_seeds_70 : decode cX4_seeds 70 = .ok (.getfield 16, 3) := by decide +kernel
theorem dX4_seeds_73 : decode cX4_seeds 73 = .ok (.getfield 209, 3) := by decide +kernel
theorem dX4_seeds_76 : decode cX4_seeds 76 = .ok (.iload_n 3, 1) := by decide +kernel
theorem dX4_seeds_77 : decode cX4_seeds 77 = .ok (.invokestatic 212, 3) := by decide +kernel
theorem dX4_seeds_80 : decode cX4_seeds 80 = .ok (.istore 5, 2) := by decide +kernel
theorem dX4_seeds_82 : decode cX4_seeds 82 = .ok (.iload_n 3, 1) := by decide +kernel
theorem dX4_seeds_83 : decode cX4_seeds 83 = .ok (.invokestatic 206, 3) := by decide +kernel
theorem dX4_seeds_86 : decode cX4_seeds 86 = .ok (.istore_n 3, 1) := by decide +kernel
theorem dX4_seeds_87 : decode cX4_seeds 87 = .ok (.aload_n 0, 1) := by decide +kernel
theorem dX4_seeds_88 : decode cX4_seeds 88 = .ok (.getfield 16, 3) := by decide +kernel
theorem dX4_seeds_91 : decode cX4_seeds 91 = .ok (.getfield 190, 3) := by decide +kernel
theorem dX4_seeds_94 : decode cX4_seeds 94 = .ok (.iload_n 3, 1) := by decide +kernel
theorem dX4_seeds_95 : decode cX4_seeds 95 = .ok (.invokestatic 212, 3) := by decide +kernel
theorem dX4_seeds_98 : decode cX4_seeds 98 = .ok (.istore 6, 2) := by decide +kernel
theorem dX4_seeds_100 : decode cX4_seeds 100 = .ok (.iload_n 3, 1) := by decide +kernel
theorem dX4_seeds_101 : decode cX4_seeds 101 = .ok (.invokestatic 206, 3) := by decide +kernel
theorem dX4_seeds_104 : decode cX4_seeds 104 = .ok (.istore_n 3, 1) := by decide +kernel
theorem dX4_seeds_105 : decode cX4_seeds 105 = .ok (.aload_n 0, 1) := by decide +kernel
theorem dX4_seeds_106 : decode cX4_seeds 106 = .ok (.getfield 16, 3) := by decide +kernel
theorem dX4_seeds_109 : decode cX4_seeds 109 = .ok (.iload 5, 2) := by decide +kernel
theorem dX4_seeds_111 : decode cX4_seeds 111 = .ok (.aload_n 0, 1) := by decide +kernel
theorem dX4_seeds_112 : decode cX4_seeds 112 = .ok (.getfield 16, 3) := by decide +kernel
theorem dX4_seeds_115 : decode cX4_seeds 115 = .ok (.getfield 115, 3) := by decide +kernel
theorem dX4_seeds_118 : decode cX4_seeds 118 = .ok (.iload 6, 2) := by decide +kernel
theorem dX4_seeds_120 : decode cX4_seeds 120 = .ok (.invokevirtual 146, 3) := by decide +kernel
theorem dX4_seeds_123 : decode cX4_seeds 123 = .ok (.iload_n 3, 1) := by decide +kernel
theorem dX4_seeds_124 : decode cX4_seeds 124 = .ok (.invokestatic 212, 3) := by decide +kernel
theorem dX4_seeds_127 : decode cX4_seeds 127 = .ok (.aload_n 0, 1) := by decide +kernel
theorem dX4_seeds_128 : decode cX4_seeds 128 = .ok (.getfield 16, 3) := by decide +kernel
theorem dX4_seeds_131 : decode cX4_seeds 131 = .ok (.iload 5, 2) := by decide +kernel
theorem dX4_seeds_133 : decode cX4_seeds 133 = .ok (.aload_n 0, 1) := by decide +kernel
theorem dX4_seeds_134 : decode cX4_seeds 134 = .ok (.getfield 16, 3) := by decide +kernel
theorem dX4_seeds_137 : decode cX4_seeds 137 = .ok (.getfield 115, 3) := by decide +kernel
theorem dX4_seeds_140 : decode cX4_seeds 140 = .ok (.iload 6, 2) := by decide +kernel
theorem dX4_seeds_142 : decode cX4_seeds 142 = .ok (.invokevirtual 125, 3) := by decide +kernel
theorem dX4_seeds_145 : decode cX4_seeds 145 = .ok (.isub, 1) := by decide +kernel
theorem dX4_seeds_146 : decode cX4_seeds 146 = .ok (.istore 7, 2) := by decide +kernel
theorem dX4_seeds_148 : decode cX4_seeds 148 = .ok (.aload_n 0, 1) := by decide +kernel
theorem dX4_seeds_149 : decode cX4_seeds 149 = .ok (.getfield 16, 3) := by decide +kernel
theorem dX4_seeds_152 : decode cX4_seeds 152 = .ok (.iload 5, 2) := by decide +kernel
theorem dX4_seeds_154 : decode cX4_seeds 154 = .ok (.iload 6, 2) := by decide +kernel
theorem dX4_seeds_156 : decode cX4_seeds 156 = .ok (.iload 7, 2) := by decide +kernel
theorem dX4_seeds_158 : decode cX4_seeds 158 = .ok (.invokevirtual 133, 3) := by decide +kernel
theorem dX4_seeds_161 : decode cX4_seeds 161 = .ok (.ifCond .ne 6, 3) := by decide +kernel
theorem dX4_seeds_164 : decode cX4_seeds 164 = .ok (.iload 4, 2) := by decide +kernel
theorem dX4_seeds_166 : decode cX4_seeds 166 = .ok (.ireturn, 1) := by decide +kernel
theorem dX4_seeds_167 : decode cX4_seeds 167 = .ok (.iinc 4 1, 3) := by decide +kernel
theorem dX4_seeds_170 : decode cX4_seeds 170 = .ok (.goto (-112), 3) := by decide +kernel
theorem dX4_seeds_173 : decode cX4_seeds 173 = .ok (.aload_n 0, 1) := by decide +kernel
theorem dX4_seeds_174 : decode cX4_seeds 174 = .ok (.getfield 16, 3) := by decide +kernel
theorem dX4_seeds_177 : decode cX4_seeds 177 = .ok (.getfield 136, 3) := by decide +kernel
theorem dX4_seeds_180 : decode cX4_seeds 180 = .ok (.ireturn, 1) := by decide +kernel
theorem dX4_image_0 : decode cX4_image 0 = .ok (.aload_n 0, 1) := by decide +kernel
theorem dX4_image_1 : decode cX4_image 1 = .ok (.getfield 19, 3) := by decide +kernel
theorem dX4_image_4 : decode cX4_image 4 = .ok (.aload_n 0, 1) := by decide +kernel
theorem dX4_image_5 : decode cX4_image 5 = .ok (.getfield 10, 3) := by decide +kernel
theorem dX4_image_8 : decode cX4_image 8 = .ok (.invokevirtual 171, 3) := by decide +kernel
theorem dX4_image_11 : decode cX4_image 11 = .ok (.aload_n 0, 1) := by decide +kernel
theorem dX4_image_12 : decode cX4_image 12 = .ok (.iconst 1, 1) := by decide +kernel
theorem dX4_image_13 : decode cX4_image 13 = .ok (.putfield 22, 3) := by decide +kernel
theorem dX4_image_16 : decode cX4_image 16 = .ok (.aload_n 0, 1) := by decide +kernel
theorem dX4_image_17 : decode cX4_image 17 = .ok (.getfield 10, 3) := by decide +kernel
theorem dX4_image_20 : decode cX4_image 20 = .ok (.getfield 136, 3) := by decide +kernel
theorem dX4_image_23 : decode cX4_image 23 = .ok (.ireturn, 1) := by decide +kernel
theorem dX4_restore_0 : decode cX4_restore 0 = .ok (.aload_n 0, 1) := by decide +kernel
theorem dX4_restore_1 : decode cX4_restore 1 = .ok (.getfield 22, 3) := by decide +kernel
theorem dX4_restore_4 : decode cX4_restore 4 = .ok (.ifCond .ne 10, 3) := by decide +kernel
theorem dX4_restore_7 : decode cX4_restore 7 = .ok (.aload_n 0, 1) := by decide +kernel
theorem dX4_restore_8 : decode cX4_restore 8 = .ok (.bipush (-3), 2) := by decide +kernel
theorem dX4_restore_10 : decode cX4_restore 10 = .ok (.invokevirtual 51, 3) := by decide +kernel
theorem dX4_restore_13 : decode cX4_restore 13 = .ok (.ireturn, 1) := by decide +kernel
theorem dX4_restore_14 : decode cX4_restore 14 = .ok (.aload_n 0, 1) := by decide +kernel
theorem dX4_restore_15 : decode cX4_restore 15 = .ok (.getfield 10, 3) := by decide +kernel
theorem dX4_restore_18 : decode cX4_restore 18 = .ok (.aload_n 0, 1) := by decide +kernel
theorem dX4_restore_19 : decode cX4_restore 19 = .ok (.getfield 19, 3) := by decide +kernel
theorem dX4_restore_22 : decode cX4_restore 22 = .ok (.invokevirtual 171, 3) := by decide +kernel
theorem dX4_restore_25 : decode cX4_restore 25 = .ok (.aload_n 0, 1) := by decide +kernel
theorem dX4_restore_26 : decode cX4_restore 26 = .ok (.getfield 10, 3) := by decide +kernel
theorem dX4_restore_29 : decode cX4_restore 29 = .ok (.getfield 136, 3) := by decide +kernel
theorem dX4_restore_32 : decode cX4_restore 32 = .ok (.ireturn, 1) := by decide +kernel
theorem dX4_count_0 : decode cX4_count 0 = .ok (.iload_n 1, 1) := by decide +kernel
theorem dX4_count_1 : decode cX4_count 1 = .ok (.bipush 11, 2) := by decide +kernel
theorem dX4_count_3 : decode cX4_count 3 = .ok (.if_icmp .lt 19, 3) := by decide +kernel
theorem dX4_count_6 : decode cX4_count 6 = .ok (.iload_n 1, 1) := by decide +kernel
theorem dX4_count_7 : decode cX4_count 7 = .ok (.bipush 16, 2) := by decide +kernel
theorem dX4_count_9 : decode cX4_count 9 = .ok (.if_icmp .gt 13, 3) := by decide +kernel
theorem dX4_count_12 : decode cX4_count 12 = .ok (.aload_n 0, 1) := by decide +kernel
theorem dX4_count_13 : decode cX4_count 13 = .ok (.getfield 41, 3) := by decide +kernel
theorem dX4_count_16 : decode cX4_count 16 = .ok (.iload_n 1, 1) := by decide +kernel
theorem dX4_count_17 : decode cX4_count 17 = .ok (.bipush 10, 2) := by decide +kernel
theorem dX4_count_19 : decode cX4_count 19 = .ok (.isub, 1) := by decide +kernel
theorem dX4_count_20 : decode cX4_count 20 = .ok (.iaload, 1) := by decide +kernel
theorem dX4_count_21 : decode cX4_count 21 = .ok (.ireturn, 1) := by decide +kernel
theorem dX4_count_22 : decode cX4_count 22 = .ok (.iload_n 1, 1) := by decide +kernel
theorem dX4_count_23 : decode cX4_count 23 = .ok (.tableswitch 120 0 8 #[49, 57, 65, 73, 81, 89, 99, 107, 115], 49) := by decide +kernel
theorem dX4_count_72 : decode cX4_count 72 = .ok (.aload_n 0, 1) := by decide +kernel
theorem dX4_count_73 : decode cX4_count 73 = .ok (.getfield 10, 3) := by decide +kernel
theorem dX4_count_76 : decode cX4_count 76 = .ok (.getfield 112, 3) := by decide +kernel
theorem dX4_count_79 : decode cX4_count 79 = .ok (.ireturn, 1) := by decide +kernel
theorem dX4_count_80 : decode cX4_count 80 = .ok (.aload_n 0, 1) := by decide +kernel
theorem dX4_count_81 : decode cX4_count 81 = .ok (.getfield 10, 3) := by decide +kernel
theorem dX4_count_84 : decode cX4_count 84 = .ok (.getfield 190, 3) := by decide +kernel
theorem dX4_count_87 : decode cX4_count 87 = .ok (.ireturn, 1) := by decide +kernel
theorem dX4_count_88 : decode cX4_count 88 = .ok (.aload_n 0, 1) := by decide +kernel
theorem dX4_count_89 : decode cX4_count 89 = .ok (.getfield 10, 3) := by decide +kernel
theorem dX4_count_92 : decode cX4_count 92 = .ok (.getfield 209, 3) := by decide +kernel
theorem dX4_count_95 : decode cX4_count 95 = .ok (.ireturn, 1) := by decide +kernel
theorem dX4_count_96 : decode cX4_count 96 = .ok (.aload_n 0, 1) := by decide +kernel
theorem dX4_count_97 : decode cX4_count 97 = .ok (.getfield 10, 3) := by decide +kernel
theorem dX4_count_100 : decode cX4_count 100 = .ok (.getfield 136, 3) := by decide +kernel
theorem dX4_count_103 : decode cX4_count 103 = .ok (.ireturn, 1) := by decide +kernel
theorem dX4_count_104 : decode cX4_count 104 = .ok (.aload_n 0, 1) := by decide +kernel
theorem dX4_count_105 : decode cX4_count 105 = .ok (.getfield 10, 3) := by decide +kernel
theorem dX4_count_108 : decode cX4_count 108 = .ok (.getfield 115, 3) := by decide +kernel
theorem dX4_count_111 : decode cX4_count 111 = .ok (.ireturn, 1) := by decide +kernel
theorem dX4_count_112 : decode cX4_count 112 = .ok (.aload_n 0, 1) := by decide +kernel
theorem dX4_count_113 : decode cX4_count 113 = .ok (.getfield 10, 3) := by decide +kernel
theorem dX4_count_116 : decode cX4_count 116 = .ok (.getfield 103, 3) := by decide +kernel
theorem dX4_count_119 : decode cX4_count 119 = .ok (.iconst 3, 1) := by decide +kernel
theorem dX4_count_120 : decode cX4_count 120 = .ok (.iadd, 1) := by decide +kernel
theorem dX4_count_121 : decode cX4_count 121 = .ok (.ireturn, 1) := by decide +kernel
theorem dX4_count_122 : decode cX4_count 122 = .ok (.aload_n 0, 1) := by decide +kernel
theorem dX4_count_123 : decode cX4_count 123 = .ok (.getfield 10, 3) := by decide +kernel
theorem dX4_count_126 : decode cX4_count 126 = .ok (.invokevirtual 215, 3) := by decide +kernel
theorem dX4_count_129 : decode cX4_count 129 = .ok (.ireturn, 1) := by decide +kernel
theorem dX4_count_130 : decode cX4_count 130 = .ok (.aload_n 0, 1) := by decide +kernel
theorem dX4_count_131 : decode cX4_count 131 = .ok (.getfield 29, 3) := by decide +kernel
theorem dX4_count_134 : decode cX4_count 134 = .ok (.getfield 55, 3) := by decide +kernel
theorem dX4_count_137 : decode cX4_count 137 = .ok (.ireturn, 1) := by decide +kernel
theorem dX4_count_138 : decode cX4_count 138 = .ok (.aload_n 0, 1) := by decide +kernel
theorem dX4_count_139 : decode cX4_count 139 = .ok (.getfield 37, 3) := by decide +kernel
theorem dX4_count_142 : decode cX4_count 142 = .ok (.ireturn, 1) := by decide +kernel
theorem dX4_count_143 : decode cX4_count 143 = .ok (.bipush (-9), 2) := by decide +kernel
theorem dX4_count_145 : decode cX4_count 145 = .ok (.ireturn, 1) := by decide +kernel
theorem dX4_refuse_0 : decode cX4_refuse 0 = .ok (.iload_n 1, 1) := by decide +kernel
theorem dX4_refuse_1 : decode cX4_refuse 1 = .ok (.ineg, 1) := by decide +kernel
theorem dX4_refuse_2 : decode cX4_refuse 2 = .ok (.istore_n 2, 1) := by decide +kernel
theorem dX4_refuse_3 : decode cX4_refuse 3 = .ok (.iload_n 2, 1) := by decide +kernel
theorem dX4_refuse_4 : decode cX4_refuse 4 = .ok (.ifCond .lt 22, 3) := by decide +kernel
theorem dX4_refuse_7 : decode cX4_refuse 7 = .ok (.iload_n 2, 1) := by decide +kernel
theorem dX4_refuse_8 : decode cX4_refuse 8 = .ok (.aload_n 0, 1) := by decide +kernel
theorem dX4_refuse_9 : decode cX4_refuse 9 = .ok (.getfield 41, 3) := by decide +kernel
theorem dX4_refuse_12 : decode cX4_refuse 12 = .ok (.arraylength, 1) := by decide +kernel
theorem dX4_refuse_13 : decode cX4_refuse 13 = .ok (.if_icmp .ge 13, 3) := by decide +kernel
theorem dX4_refuse_16 : decode cX4_refuse 16 = .ok (.aload_n 0, 1) := by decide +kernel
theorem dX4_refuse_17 : decode cX4_refuse 17 = .ok (.getfield 41, 3) := by decide +kernel
theorem dX4_refuse_20 : decode cX4_refuse 20 = .ok (.iload_n 2, 1) := by decide +kernel
theorem dX4_refuse_21 : decode cX4_refuse 21 = .ok (.dup2, 1) := by decide +kernel
theorem dX4_refuse_22 : decode cX4_refuse 22 = .ok (.iaload, 1) := by decide +kernel
theorem dX4_refuse_23 : decode cX4_refuse 23 = .ok (.iconst 1, 1) := by decide +kernel
theorem dX4_refuse_24 : decode cX4_refuse 24 = .ok (.iadd, 1) := by decide +kernel
theorem dX4_refuse_25 : decode cX4_refuse 25 = .ok (.iastore, 1) := by decide +kernel
theorem dX4_refuse_26 : decode cX4_refuse 26 = .ok (.iload_n 1, 1) := by decide +kernel
theorem dX4_refuse_27 : decode cX4_refuse 27 = .ok (.ireturn, 1) := by decide +kernel
theorem dX4_refuseLong_0 : decode cX4_refuseLong 0 = .ok (.ldc2_w 218, 3) := by decide +kernel
theorem dX4_refuseLong_3 : decode cX4_refuseLong 3 = .ok (.aload_n 0, 1) := by decide +kernel
theorem dX4_refuseLong_4 : decode cX4_refuseLong 4 = .ok (.iload_n 1, 1) := by decide +kernel
theorem dX4_refuseLong_5 : decode cX4_refuseLong 5 = .ok (.invokevirtual 51, 3) := by decide +kernel
theorem dX4_refuseLong_8 : decode cX4_refuseLong 8 = .ok (.i2l, 1) := by decide +kernel
theorem dX4_refuseLong_9 : decode cX4_refuseLong 9 = .ok (.lsub, 1) := by decide +kernel
theorem dX4_refuseLong_10 : decode cX4_refuseLong 10 = .ok (.lreturn, 1) := by decide +kernel
theorem dX4_areThere_0 : decode cX4_areThere 0 = .ok (.aload_n 0, 1) := by decide +kernel
theorem dX4_areThere_1 : decode cX4_areThere 1 = .ok (.getfield 10, 3) := by decide +kernel
theorem dX4_areThere_4 : decode cX4_areThere 4 = .ok (.iload_n 1, 1) := by decide +kernel
theorem dX4_areThere_5 : decode cX4_areThere 5 = .ok (.invokevirtual 82, 3) := by decide +kernel
theorem dX4_areThere_8 : decode cX4_areThere 8 = .ok (.ifCond .eq 29, 3) := by decide +kernel
theorem dX4_areThere_11 : decode cX4_areThere 11 = .ok (.aload_n 0, 1) := by decide +kernel
theorem dX4_areThere_12 : decode cX4_areThere 12 = .ok (.getfield 10, 3) := by decide +kernel
theorem dX4_areThere_15 : decode cX4_areThere 15 = .ok (.iload_n 2, 1) := by decide +kernel
theorem dX4_areThere_16 : decode cX4_areThere 16 = .ok (.invokevirtual 66, 3) := by decide +kernel
theorem dX4_areThere_19 : decode cX4_areThere 19 = .ok (.ifCond .eq 18, 3) := by decide +kernel
theorem dX4_areThere_22 : decode cX4_areThere 22 = .ok (.aload_n 0, 1) := by decide +kernel
theorem dX4_areThere_23 : decode cX4_areThere 23 = .ok (.getfield 10, 3) := by decide +kernel
theorem dX4_areThere_26 : decode cX4_areThere 26 = .ok (.iload_n 3, 1) := by decide +kernel
theorem dX4_areThere_27 : decode cX4_areThere 27 = .ok (.invokevirtual 66, 3) := by decide +kernel
theorem dX4_areThere_30 : decode cX4_areThere 30 = .ok (.ifCond .eq 7, 3) := by decide +kernel
theorem dX4_areThere_33 : decode cX4_areThere 33 = .ok (.iconst 1, 1) := by decide +kernel
theorem dX4_areThere_34 : decode cX4_areThere 34 = .ok (.goto 4, 3) := by decide +kernel
theorem dX4_areThere_37 : decode cX4_areThere 37 = .ok (.iconst 0, 1) := by decide +kernel
theorem dX4_areThere_38 : decode cX4_areThere 38 = .ok (.ireturn, 1) := by decide +kernel
theorem dX4_readLetters_0 : decode cX4_readLetters 0 = .ok (.aload_n 0, 1) := by decide +kernel
theorem dX4_readLetters_1 : decode cX4_readLetters 1 = .ok (.getfield 29, 3) := by decide +kernel
theorem dX4_readLetters_4 : decode cX4_readLetters 4 = .ok (.invokevirtual 220, 3) := by decide +kernel
theorem dX4_readLetters_7 : decode cX4_readLetters 7 = .ok (.istore_n 1, 1) := by decide +kernel
theorem dX4_readLetters_8 : decode cX4_readLetters 8 = .ok (.iload_n 1, 1) := by decide +kernel
theorem dX4_readLetters_9 : decode cX4_readLetters 9 = .ok (.ifCond .lt 9, 3) := by decide +kernel
theorem dX4_readLetters_12 : decode cX4_readLetters 12 = .ok (.sipush (-1000), 3) := by decide +kernel
theorem dX4_readLetters_15 : decode cX4_readLetters 15 = .ok (.iload_n 1, 1) := by decide +kernel
theorem dX4_readLetters_16 : decode cX4_readLetters 16 = .ok (.isub, 1) := by decide +kernel
theorem dX4_readLetters_17 : decode cX4_readLetters 17 = .ok (.ireturn, 1) := by decide +kernel
theorem dX4_readLetters_18 : decode cX4_readLetters 18 = .ok (.aload_n 0, 1) := by decide +kernel
theorem dX4_readLetters_19 : decode cX4_readLetters 19 = .ok (.getfield 16, 3) := by decide +kernel
theorem dX4_readLetters_22 : decode cX4_readLetters 22 = .ok (.aload_n 0, 1) := by decide +kernel
theorem dX4_readLetters_23 : decode cX4_readLetters 23 = .ok (.getfield 10, 3) := by decide +kernel
theorem dX4_readLetters_26 : decode cX4_readLetters 26 = .ok (.invokevirtual 171, 3) := by decide +kernel
theorem dX4_readLetters_29 : decode cX4_readLetters 29 = .ok (.iconst 0, 1) := by decide +kernel
theorem dX4_readLetters_30 : decode cX4_readLetters 30 = .ok (.istore_n 2, 1) := by decide +kernel
theorem dX4_readLetters_31 : decode cX4_readLetters 31 = .ok (.aload_n 0, 1) := by decide +kernel
theorem dX4_readLetters_32 : decode cX4_readLetters 32 = .ok (.getfield 29, 3) := by decide +kernel
theorem dX4_readLetters_35 : decode cX4_readLetters 35 = .ok (.iconst 0, 1) := by decide +kernel
theorem dX4_readLetters_36 : decode cX4_readLetters 36 = .ok (.putfield 223, 3) := by decide +kernel
theorem dX4_readLetters_39 : decode cX4_readLetters 39 = .ok (.aload_n 0, 1) := by decide +kernel
theorem dX4_readLetters_40 : decode cX4_readLetters 40 = .ok (.getfield 29, 3) := by decide +kernel
theorem dX4_readLetters_43 : decode cX4_readLetters 43 = .ok (.getfield 223, 3) := by decide +kernel
theorem dX4_readLetters_46 : decode cX4_readLetters 46 = .ok (.aload_n 0, 1) := by decide +kernel
theorem dX4_readLetters_47 : decode cX4_readLetters 47 = .ok (.getfield 29, 3) := by decide +kernel
theorem dX4_readLetters_50 : decode cX4_readLetters 50 = .ok (.getfield 55, 3) := by decide +kernel
theorem dX4_readLetters_53 : decode cX4_readLetters 53 = .ok (.if_icmp .ge 51, 3) := by decide +kernel
theorem dX4_readLetters_56 : decode cX4_readLetters 56 = .ok (.iload_n 2, 1) := by decide +kernel
theorem dX4_readLetters_57 : decode cX4_readLetters 57 = .ok (.bipush 80, 2) := by decide +kernel
theorem dX4_readLetters_59 : decode cX4_readLetters 59 = .ok (.if_icmp .ge 45, 3) := by decide +kernel
theorem dX4_readLetters_62 : decode cX4_readLetters 62 = .ok (.aload_n 0, 1) := by decide +kernel
theorem dX4_readLetters_63 : decode cX4_readLetters 63 = .ok (.getfield 29, 3) := by decide +kernel
theorem dX4_readLetters_66 : decode cX4_readLetters 66 = .ok (.getfield 223, 3) := by decide +kernel
theorem dX4_readLetters_69 : decode cX4_readLetters 69 = .ok (.istore_n 3, 1) := by decide +kernel
theorem dX4_readLetters_70 : decode cX4_readLetters 70 = .ok (.aload_n 0, 1) := by decide +kernel
theorem dX4_readLetters_71 : decode cX4_readLetters 71 = .ok (.getfield 29, 3) := by decide +kernel
theorem dX4_readLetters_74 : decode cX4_readLetters 74 = .ok (.aload_n 0, 1) := by decide +kernel
theorem dX4_readLetters_75 : decode cX4_readLetters 75 = .ok (.getfield 16, 3) := by decide +kernel
theorem dX4_readLetters_78 : decode cX4_readLetters 78 = .ok (.invokevirtual 226, 3) := by decide +kernel
theorem dX4_readLetters_81 : decode cX4_readLetters 81 = .ok (.ifCond .ne 9, 3) := by decide +kernel
theorem dX4_readLetters_84 : decode cX4_readLetters 84 = .ok (.sipush (-2000), 3) := by decide +kernel
theorem dX4_readLetters_87 : decode cX4_readLetters 87 = .ok (.iload_n 3, 1) := by decide +kernel
theorem dX4_readLetters_88 : decode cX4_readLetters 88 = .ok (.isub, 1) := by decide +kernel
theorem dX4_readLetters_89 : decode cX4_readLetters 89 = .ok (.ireturn, 1) := by decide +kernel
theorem dX4_readLetters_90 : decode cX4_readLetters 90 = .ok (.aload_n 0, 1) := by decide +kernel
theorem dX4_readLetters_91 : decode cX4_readLetters 91 = .ok (.getfield 29, 3) := by decide +kernel
theorem dX4_readLetters_94 : decode cX4_readLetters 94 = .ok (.invokevirtual 230, 3) := by decide +kernel
theorem dX4_readLetters_97 : decode cX4_readLetters 97 = .ok (.pop, 1) := by decide +kernel
theorem dX4_readLetters_98 : decode cX4_readLetters 98 = .ok (.iinc 2 1, 3) := by decide +kernel
theorem dX4_readLetters_101 : decode cX4_readLetters 101 = .ok (.goto (-62), 3) := by decide +kernel
theorem dX4_readLetters_104 : decode cX4_readLetters 104 = .ok (.aload_n 0, 1) := by decide +kernel
theorem dX4_readLetters_105 : decode cX4_readLetters 105 = .ok (.getfield 10, 3) := by decide +kernel
theorem dX4_readLetters_108 : decode cX4_readLetters 108 = .ok (.aload_n 0, 1) := by decide +kernel
theorem dX4_readLetters_109 : decode cX4_readLetters 109 = .ok (.getfield 16, 3) := by decide +kernel
theorem dX4_readLetters_112 : decode cX4_readLetters 112 = .ok (.invokevirtual 171, 3) := by decide +kernel
theorem dX4_readLetters_115 : decode cX4_readLetters 115 = .ok (.iload_n 2, 1) := by decide +kernel
theorem dX4_readLetters_116 : decode cX4_readLetters 116 = .ok (.ireturn, 1) := by decide +kernel
theorem dX4_findOddsOfTwo_0 : decode cX4_findOddsOfTwo 0 = .ok (.lconst 0, 1) := by decide +kernel
theorem dX4_findOddsOfTwo_1 : decode cX4_findOddsOfTwo 1 = .ok (.lstore_n 1, 1) := by decide +kernel
theorem dX4_findOddsOfTwo_2 : decode cX4_findOddsOfTwo 2 = .ok (.lconst 1, 1) := by decide +kernel
theorem dX4_findOddsOfTwo_3 : decode cX4_findOddsOfTwo 3 = .ok (.lstore_n 3, 1) := by decide +kernel
theorem dX4_findOddsOfTwo_4 : decode cX4_findOddsOfTwo 4 = .ok (.iconst 0, 1) := by decide +kernel
theorem dX4_findOddsOfTwo_5 : decode cX4_findOddsOfTwo 5 = .ok (.istore 5, 2) := by decide +kernel
theorem dX4_findOddsOfTwo_7 : decode cX4_findOddsOfTwo 7 = .ok (.iload 5, 2) := by decide +kernel
theorem dX4_findOddsOfTwo_9 : decode cX4_findOddsOfTwo 9 = .ok (.aload_n 0, 1) := by decide +kernel
theorem dX4_findOddsOfTwo_10 : decode cX4_findOddsOfTwo 10 = .ok (.getfield 10, 3) := by decide +kernel
theorem dX4_findOddsOfTwo_13 : decode cX4_findOddsOfTwo 13 = .ok (.getfield 209, 3) := by decide +kernel
theorem dX4_findOddsOfTwo_16 : decode cX4_findOddsOfTwo 16 = .ok (.if_icmp .ge 79, 3) := by decide +kernel
theorem dX4_findOddsOfTwo_19 : decode cX4_findOddsOfTwo 19 = .ok (.iconst 0, 1) := by decide +kernel
theorem dX4_findOddsOfTwo_20 : decode cX4_findOddsOfTwo 20 = .ok (.istore 6, 2) := by decide +kernel
theorem dX4_findOddsOfTwo_22 : decode cX4_findOddsOfTwo 22 = .ok (.iload 6, 2) := by decide +kernel
theorem dX4_findOddsOfTwo_24 : decode cX4_findOddsOfTwo 24 = .ok (.aload_n 0, 1) := by decide +kernel
theorem dX4_findOddsOfTwo_25 : decode cX4_findOddsOfTwo 25 = .ok (.getfield 10, 3) := by decide +kernel
theorem dX4_findOddsOfTwo_28 : decode cX4_findOddsOfTwo 28 = .ok (.getfield 190, 3) := by decide +kernel
theorem dX4_findOddsOfTwo_31 : decode cX4_findOddsOfTwo 31 = .ok (.if_icmp .ge 58, 3) := by decide +kernel
theorem dX4_findOddsOfTwo_34 : decode cX4_findOddsOfTwo 34 = .ok (.aload_n 0, 1) := by decide +kernel
theorem dX4_findOddsOfTwo_35 : decode cX4_findOddsOfTwo 35 = .ok (.iload 5, 2) := by decide +kernel
theorem dX4_findOddsOfTwo_37 : decode cX4_findOddsOfTwo 37 = .ok (.iload 6, 2) := by decide +kernel
theorem dX4_findOddsOfTwo_39 : decode cX4_findOddsOfTwo 39 = .ok (.invokevirtual 233, 3) := by decide +kernel
theorem dX4_findOddsOfTwo_42 : decode cX4_findOddsOfTwo 42 = .ok (.lstore 7, 2) := by decide +kernel
theorem dX4_findOddsOfTwo_44 : decode cX4_findOddsOfTwo 44 = .ok (.aload_n 0, 1) := by decide +kernel
theorem dX4_findOddsOfTwo_45 : decode cX4_findOddsOfTwo 45 = .ok (.getfield 10, 3) := by decide +kernel
theorem dX4_findOddsOfTwo_48 : decode cX4_findOddsOfTwo 48 = .ok (.iload 5, 2) := by decide +kernel
theorem dX4_findOddsOfTwo_50 : decode cX4_findOddsOfTwo 50 = .ok (.aload_n 0, 1) := by decide +kernel
theorem dX4_findOddsOfTwo_51 : decode cX4_findOddsOfTwo 51 = .ok (.getfield 10, 3) := by decide +kernel
theorem dX4_findOddsOfTwo_54 : decode cX4_findOddsOfTwo 54 = .ok (.getfield 115, 3) := by decide +kernel
theorem dX4_findOddsOfTwo_57 : decode cX4_findOddsOfTwo 57 = .ok (.iload 6, 2) := by decide +kernel
theorem dX4_findOddsOfTwo_59 : decode cX4_findOddsOfTwo 59 = .ok (.invokevirtual 146, 3) := by decide +kernel
theorem dX4_findOddsOfTwo_62 : decode cX4_findOddsOfTwo 62 = .ok (.i2l, 1) := by decide +kernel
theorem dX4_findOddsOfTwo_63 : decode cX4_findOddsOfTwo 63 = .ok (.lstore 9, 2) := by decide +kernel
theorem dX4_findOddsOfTwo_65 : decode cX4_findOddsOfTwo 65 = .ok (.lload 7, 2) := by decide +kernel
theorem dX4_findOddsOfTwo_67 : decode cX4_findOddsOfTwo 67 = .ok (.lload_n 3, 1) := by decide +kernel
theorem dX4_findOddsOfTwo_68 : decode cX4_findOddsOfTwo 68 = .ok (.lmul, 1) := by decide +kernel
theorem dX4_findOddsOfTwo_69 : decode cX4_findOddsOfTwo 69 = .ok (.lload_n 1, 1) := by decide +kernel
theorem dX4_findOddsOfTwo_70 : decode cX4_findOddsOfTwo 70 = .ok (.lload 9, 2) := by decide +kernel
theorem dX4_findOddsOfTwo_72 : decode cX4_findOddsOfTwo 72 = .ok (.lmul, 1) := by decide +kernel
theorem dX4_findOddsOfTwo_73 : decode cX4_findOddsOfTwo 73 = .ok (.lcmp, 1) := by decide +kernel
theorem dX4_findOddsOfTwo_74 : decode cX4_findOddsOfTwo 74 = .ok (.ifCond .le 9, 3) := by decide +kernel
theorem dX4_findOddsOfTwo_77 : decode cX4_findOddsOfTwo 77 = .ok (.lload 7, 2) := by decide +kernel
theorem dX4_findOddsOfTwo_79 : decode cX4_findOddsOfTwo 79 = .ok (.lstore_n 1, 1) := by decide +kernel
theorem dX4_findOddsOfTwo_80 : decode cX4_findOddsOfTwo 80 = .ok (.lload 9, 2) := by decide +kernel
theorem dX4_findOddsOfTwo_82 : decode cX4_findOddsOfTwo 82 = .ok (.lstore_n 3, 1) := by decide +kernel
theorem dX4_findOddsOfTwo_83 : decode cX4_findOddsOfTwo 83 = .ok (.iinc 6 1, 3) := by decide +kernel
theorem dX4_findOddsOfTwo_86 : decode cX4_findOddsOfTwo 86 = .ok (.goto (-64), 3) := by decide +kernel
theorem dX4_findOddsOfTwo_89 : decode cX4_findOddsOfTwo 89 = .ok (.iinc 5 1, 3) := by decide +kernel
theorem dX4_findOddsOfTwo_92 : decode cX4_findOddsOfTwo 92 = .ok (.goto (-85), 3) := by decide +kernel
theorem dX4_findOddsOfTwo_95 : decode cX4_findOddsOfTwo 95 = .ok (.aload_n 0, 1) := by decide +kernel
theorem dX4_findOddsOfTwo_96 : decode cX4_findOddsOfTwo 96 = .ok (.getfield 47, 3) := by decide +kernel
theorem dX4_findOddsOfTwo_99 : decode cX4_findOddsOfTwo 99 = .ok (.lload_n 1, 1) := by decide +kernel
theorem dX4_findOddsOfTwo_100 : decode cX4_findOddsOfTwo 100 = .ok (.lload_n 3, 1) := by decide +kernel
theorem dX4_findOddsOfTwo_101 : decode cX4_findOddsOfTwo 101 = .ok (.ldc2_w 162, 3) := by decide +kernel
theorem dX4_findOddsOfTwo_104 : decode cX4_findOddsOfTwo 104 = .ok (.lmul, 1) := by decide +kernel
theorem dX4_findOddsOfTwo_105 : decode cX4_findOddsOfTwo 105 = .ok (.invokevirtual 149, 3) := by decide +kernel
theorem dX4_findOddsOfTwo_108 : decode cX4_findOddsOfTwo 108 = .ok (.return_, 1) := by decide +kernel
theorem dX4_sumOfOddsBehind_0 : decode cX4_sumOfOddsBehind 0 = .ok (.aload_n 0, 1) := by decide +kernel
theorem dX4_sumOfOddsBehind_1 : decode cX4_sumOfOddsBehind 1 = .ok (.getfield 10, 3) := by decide +kernel
theorem dX4_sumOfOddsBehind_4 : decode cX4_sumOfOddsBehind 4 = .ok (.iload_n 1, 1) := by decide +kernel
theorem dX4_sumOfOddsBehind_5 : decode cX4_sumOfOddsBehind 5 = .ok (.aload_n 0, 1) := by decide +kernel
theorem dX4_sumOfOddsBehind_6 : decode cX4_sumOfOddsBehind 6 = .ok (.getfield 10, 3) := by decide +kernel
theorem dX4_sumOfOddsBehind_9 : decode cX4_sumOfOddsBehind 9 = .ok (.getfield 115, 3) := by decide +kernel
theorem dX4_sumOfOddsBehind_12 : decode cX4_sumOfOddsBehind 12 = .ok (.iload_n 2, 1) := by decide +kernel
theorem dX4_sumOfOddsBehind_13 : decode cX4_sumOfOddsBehind 13 = .ok (.invokevirtual 125, 3) := by decide +kernel
theorem dX4_sumOfOddsBehind_16 : decode cX4_sumOfOddsBehind 16 = .ok (.istore_n 3, 1) := by decide +kernel
theorem dX4_sumOfOddsBehind_17 : decode cX4_sumOfOddsBehind 17 = .ok (.lconst 0, 1) := by decide +kernel
theorem dX4_sumOfOddsBehind_18 : decode cX4_sumOfOddsBehind 18 = .ok (.lstore 4, 2) := by decide +kernel
theorem dX4_sumOfOddsBehind_20 : decode cX4_sumOfOddsBehind 20 = .ok (.iload_n 3, 1) := by decide +kernel
theorem dX4_sumOfOddsBehind_21 : decode cX4_sumOfOddsBehind 21 = .ok (.ineg, 1) := by decide +kernel
theorem dX4_sumOfOddsBehind_22 : decode cX4_sumOfOddsBehind 22 = .ok (.istore 6, 2) := by decide +kernel
theorem dX4_sumOfOddsBehind_24 : decode cX4_sumOfOddsBehind 24 = .ok (.iload 6, 2) := by decide +kernel
theorem dX4_sumOfOddsBehind_26 : decode cX4_sumOfOddsBehind 26 = .ok (.iload_n 3, 1) := by decide +kernel
theorem dX4_sumOfOddsBehind_27 : decode cX4_sumOfOddsBehind 27 = .ok (.if_icmp .gt 61, 3) := by decide +kernel
theorem dX4_sumOfOddsBehind_30 : decode cX4_sumOfOddsBehind 30 = .ok (.aload_n 0, 1) := by decide +kernel
theorem dX4_sumOfOddsBehind_31 : decode cX4_sumOfOddsBehind 31 = .ok (.getfield 10, 3) := by decide +kernel
theorem dX4_sumOfOddsBehind_34 : decode cX4_sumOfOddsBehind 34 = .ok (.iload_n 1, 1) := by decide +kernel
theorem dX4_sumOfOddsBehind_35 : decode cX4_sumOfOddsBehind 35 = .ok (.iload_n 2, 1) := by decide +kernel
theorem dX4_sumOfOddsBehind_36 : decode cX4_sumOfOddsBehind 36 = .ok (.iload 6, 2) := by decide +kernel
theorem dX4_sumOfOddsBehind_38 : decode cX4_sumOfOddsBehind 38 = .ok (.invokevirtual 237, 3) := by decide +kernel
theorem dX4_sumOfOddsBehind_41 : decode cX4_sumOfOddsBehind 41 = .ok (.ifCond .eq 41, 3) := by decide +kernel
theorem dX4_sumOfOddsBehind_44 : decode cX4_sumOfOddsBehind 44 = .ok (.aload_n 0, 1) := by decide +kernel
theorem dX4_sumOfOddsBehind_45 : decode cX4_sumOfOddsBehind 45 = .ok (.getfield 16, 3) := by decide +kernel
theorem dX4_sumOfOddsBehind_48 : decode cX4_sumOfOddsBehind 48 = .ok (.aload_n 0, 1) := by decide +kernel
theorem dX4_sumOfOddsBehind_49 : decode cX4_sumOfOddsBehind 49 = .ok (.getfield 10, 3) := by decide +kernel
theorem dX4_sumOfOddsBehind_52 : decode cX4_sumOfOddsBehind 52 = .ok (.invokevirtual 171, 3) := by decide +kernel
theorem dX4_sumOfOddsBehind_55 : decode cX4_sumOfOddsBehind 55 = .ok (.aload_n 0, 1) := by decide +kernel
theorem dX4_sumOfOddsBehind_56 : decode cX4_sumOfOddsBehind 56 = .ok (.getfield 16, 3) := by decide +kernel
theorem dX4_sumOfOddsBehind_59 : decode cX4_sumOfOddsBehind 59 = .ok (.iload_n 1, 1) := by decide +kernel
theorem dX4_sumOfOddsBehind_60 : decode cX4_sumOfOddsBehind 60 = .ok (.iload_n 2, 1) := by decide +kernel
theorem dX4_sumOfOddsBehind_61 : decode cX4_sumOfOddsBehind 61 = .ok (.iload 6, 2) := by decide +kernel
theorem dX4_sumOfOddsBehind_63 : decode cX4_sumOfOddsBehind 63 = .ok (.invokevirtual 133, 3) := by decide +kernel
theorem dX4_sumOfOddsBehind_66 : decode cX4_sumOfOddsBehind 66 = .ok (.pop, 1) := by decide +kernel
theorem dX4_sumOfOddsBehind_67 : decode cX4_sumOfOddsBehind 67 = .ok (.lload 4, 2) := by decide +kernel
theorem dX4_sumOfOddsBehind_69 : decode cX4_sumOfOddsBehind 69 = .ok (.aload_n 0, 1) := by decide +kernel
theorem dX4_sumOfOddsBehind_70 : decode cX4_sumOfOddsBehind 70 = .ok (.getfield 16, 3) := by decide +kernel
theorem dX4_sumOfOddsBehind_73 : decode cX4_sumOfOddsBehind 73 = .ok (.ldc2_w 162, 3) := by decide +kernel
theorem dX4_sumOfOddsBehind_76 : decode cX4_sumOfOddsBehind 76 = .ok (.invokevirtual 164, 3) := by decide +kernel
theorem dX4_sumOfOddsBehind_79 : decode cX4_sumOfOddsBehind 79 = .ok (.ladd, 1) := by decide +kernel
theorem dX4_sumOfOddsBehind_80 : decode cX4_sumOfOddsBehind 80 = .ok (.lstore 4, 2) := by decide +kernel
theorem dX4_sumOfOddsBehind_82 : decode cX4_sumOfOddsBehind 82 = .ok (.iinc 6 1, 3) := by decide +kernel
theorem dX4_sumOfOddsBehind_85 : decode cX4_sumOfOddsBehind 85 = .ok (.goto (-61), 3) := by decide +kernel
theorem dX4_sumOfOddsBehind_88 : decode cX4_sumOfOddsBehind 88 = .ok (.lload 4, 2) := by decide +kernel
theorem dX4_sumOfOddsBehind_90 : decode cX4_sumOfOddsBehind 90 = .ok (.lreturn, 1) := by decide +kernel
theorem dX4_choicesOf_0 : decode cX4_choicesOf 0 = .ok (.iconst 1, 1) := by decide +kernel
theorem dX4_choicesOf_1 : decode cX4_choicesOf 1 = .ok (.istore_n 2, 1) := by decide +kernel
theorem dX4_choicesOf_2 : decode cX4_choicesOf 2 = .ok (.iconst 0, 1) := by decide +kernel
theorem dX4_choicesOf_3 : decode cX4_choicesOf 3 = .ok (.istore_n 3, 1) := by decide +kernel
theorem dX4_choicesOf_4 : decode cX4_choicesOf 4 = .ok (.iload_n 3, 1) := by decide +kernel
theorem dX4_choicesOf_5 : decode cX4_choicesOf 5 = .ok (.iload_n 1, 1) := by decide +kernel
theorem dX4_choicesOf_6 : decode cX4_choicesOf 6 = .ok (.if_icmp .ge 19, 3) := by decide +kernel
theorem dX4_choicesOf_9 : decode cX4_choicesOf 9 = .ok (.iload_n 2, 1) := by decide +kernel
theorem dX4_choicesOf_10 : decode cX4_choicesOf 10 = .ok (.aload_n 0, 1) := by decide +kernel
theorem dX4_choicesOf_11 : decode cX4_choicesOf 11 = .ok (.getfield 10, 3) := by decide +kernel
theorem dX4_choicesOf_14 : decode cX4_choicesOf 14 = .ok (.getfield 209, 3) := by decide +kernel
theorem dX4_choicesOf_17 : decode cX4_choicesOf 17 = .ok (.imul, 1) := by decide +kernel
theorem dX4_choicesOf_18 : decode cX4_choicesOf 18 = .ok (.istore_n 2, 1) := by decide +kernel
theorem dX4_choicesOf_19 : decode cX4_choicesOf 19 = .ok (.iinc 3 1, 3) := by decide +kernel
theorem dX4_choicesOf_22 : decode cX4_choicesOf 22 = .ok (.goto (-18), 3) := by decide +kernel
theorem dX4_choicesOf_25 : decode cX4_choicesOf 25 = .ok (.iload_n 2, 1) := by decide +kernel
theorem dX4_choicesOf_26 : decode cX4_choicesOf 26 = .ok (.ireturn, 1) := by decide +kernel
theorem dX4_isHadThroughout_0 : decode cX4_isHadThroughout 0 = .ok (.aload_n 0, 1) := by decide +kernel
theorem dX4_isHadThroughout_1 : decode cX4_isHadThroughout 1 = .ok (.getfield 16, 3) := by decide +kernel
theorem dX4_isHadThroughout_4 : decode cX4_isHadThroughout 4 = .ok (.aload_n 0, 1) := by decide +kernel
theorem dX4_isHadThroughout_5 : decode cX4_isHadThroughout 5 = .ok (.getfield 10, 3) := by decide +kernel
theorem dX4_isHadThroughout_8 : decode cX4_isHadThroughout 8 = .ok (.invokevirtual 171, 3) := by decide +kernel
theorem dX4_isHadThroughout_11 : decode cX4_isHadThroughout 11 = .ok (.iload_n 1, 1) := by decide +kernel
theorem dX4_isHadThroughout_12 : decode cX4_isHadThroughout 12 = .ok (.istore_n 3, 1) := by decide +kernel
theorem dX4_isHadThroughout_13 : decode cX4_isHadThroughout 13 = .ok (.iconst 0, 1) := by decide +kernel
theorem dX4_isHadThroughout_14 : decode cX4_isHadThroughout 14 = .ok (.istore 4, 2) := by decide +kernel
theorem dX4_isHadThroughout_16 : decode cX4_isHadThroughout 16 = .ok (.iload 4, 2) := by decide +kernel
theorem dX4_isHadThroughout_18 : decode cX4_isHadThroughout 18 = .ok (.iload_n 2, 1) := by decide +kernel
theorem dX4_isHadThroughout_19 : decode cX4_isHadThroughout 19 = .ok (.if_icmp .ge 59, 3) := by decide +kernel
theorem dX4_isHadThroughout_22 : decode cX4_isHadThroughout 22 = .ok (.aload_n 0, 1) := by decide +kernel
theorem dX4_isHadThroughout_23 : decode cX4_isHadThroughout 23 = .ok (.getfield 16, 3) := by decide +kernel
theorem dX4_isHadThroughout_26 : decode cX4_isHadThroughout 26 = .ok (.getfield 209, 3) := by decide +kernel
theorem dX4_isHadThroughout_29 : decode cX4_isHadThroughout 29 = .ok (.iconst 1, 1) := by decide +kernel
theorem dX4_isHadThroughout_30 : decode cX4_isHadThroughout 30 = .ok (.if_icmp .lt 30, 3) := by decide +kernel
theorem dX4_isHadThroughout_33 : decode cX4_isHadThroughout 33 = .ok (.aload_n 0, 1) := by decide +kernel
theorem dX4_isHadThroughout_34 : decode cX4_isHadThroughout 34 = .ok (.getfield 16, 3) := by decide +kernel
theorem dX4_isHadThroughout_37 : decode cX4_isHadThroughout 37 = .ok (.iload_n 3, 1) := by decide +kernel
theorem dX4_isHadThroughout_38 : decode cX4_isHadThroughout 38 = .ok (.aload_n 0, 1) := by decide +kernel
theorem dX4_isHadThroughout_39 : decode cX4_isHadThroughout 39 = .ok (.getfield 16, 3) := by decide +kernel
theorem dX4_isHadThroughout_42 : decode cX4_isHadThroughout 42 = .ok (.getfield 209, 3) := by decide +kernel
theorem dX4_isHadThroughout_45 : decode cX4_isHadThroughout 45 = .ok (.irem, 1) := by decide +kernel
theorem dX4_isHadThroughout_46 : decode cX4_isHadThroughout 46 = .ok (.aload_n 0, 1) := by decide +kernel
theorem dX4_isHadThroughout_47 : decode cX4_isHadThroughout 47 = .ok (.getfield 16, 3) := by decide +kernel
theorem dX4_isHadThroughout_50 : decode cX4_isHadThroughout 50 = .ok (.getfield 115, 3) := by decide +kernel
theorem dX4_isHadThroughout_53 : decode cX4_isHadThroughout 53 = .ok (.iconst 0, 1) := by decide +kernel
theorem dX4_isHadThroughout_54 : decode cX4_isHadThroughout 54 = .ok (.invokevirtual 133, 3) := by decide +kernel
theorem dX4_isHadThroughout_57 : decode cX4_isHadThroughout 57 = .ok (.ifCond .ne 5, 3) := by decide +kernel
theorem dX4_isHadThroughout_60 : decode cX4_isHadThroughout 60 = .ok (.iconst 0, 1) := by decide +kernel
theorem dX4_isHadThroughout_61 : decode cX4_isHadThroughout 61 = .ok (.ireturn, 1) := by decide +kernel
theorem dX4_isHadThroughout_62 : decode cX4_isHadThroughout 62 = .ok (.iload_n 3, 1) := by decide +kernel
theorem dX4_isHadThroughout_63 : decode cX4_isHadThroughout 63 = .ok (.aload_n 0, 1) := by decide +kernel
theorem dX4_isHadThroughout_64 : decode cX4_isHadThroughout 64 = .ok (.getfield 16, 3) := by decide +kernel
theorem dX4_isHadThroughout_67 : decode cX4_isHadThroughout 67 = .ok (.getfield 209, 3) := by decide +kernel
theorem dX4_isHadThroughout_70 : decode cX4_isHadThroughout 70 = .ok (.idiv, 1) := by decide +kernel
theorem dX4_isHadThroughout_71 : decode cX4_isHadThroughout 71 = .ok (.istore_n 3, 1) := by decide +kernel
theorem dX4_isHadThroughout_72 : decode cX4_isHadThroughout 72 = .ok (.iinc 4 1, 3) := by decide +kernel
theorem dX4_isHadThroughout_75 : decode cX4_isHadThroughout 75 = .ok (.goto (-59), 3) := by decide +kernel
theorem dX4_isHadThroughout_78 : decode cX4_isHadThroughout 78 = .ok (.iconst 1, 1) := by decide +kernel
theorem dX4_isHadThroughout_79 : decode cX4_isHadThroughout 79 = .ok (.ireturn, 1) := by decide +kernel
theorem dX4_isHadInMind_0 : decode cX4_isHadInMind 0 = .ok (.iload_n 1, 1) := by decide +kernel
theorem dX4_isHadInMind_1 : decode cX4_isHadInMind 1 = .ok (.bipush 100, 2) := by decide +kernel
theorem dX4_isHadInMind_3 : decode cX4_isHadInMind 3 = .ok (.idiv, 1) := by decide +kernel
theorem dX4_isHadInMind_4 : decode cX4_isHadInMind 4 = .ok (.istore_n 2, 1) := by decide +kernel
theorem dX4_isHadInMind_5 : decode cX4_isHadInMind 5 = .ok (.iload_n 1, 1) := by decide +kernel
theorem dX4_isHadInMind_6 : decode cX4_isHadInMind 6 = .ok (.bipush 10, 2) := by decide +kernel
theorem dX4_isHadInMind_8 : decode cX4_isHadInMind 8 = .ok (.idiv, 1) := by decide +kernel
theorem dX4_isHadInMind_9 : decode cX4_isHadInMind 9 = .ok (.bipush 10, 2) := by decide +kernel
theorem dX4_isHadInMind_11 : decode cX4_isHadInMind 11 = .ok (.irem, 1) := by decide +kernel
theorem dX4_isHadInMind_12 : decode cX4_isHadInMind 12 = .ok (.istore_n 3, 1) := by decide +kernel
theorem dX4_isHadInMind_13 : decode cX4_isHadInMind 13 = .ok (.iload_n 1, 1) := by decide +kernel
theorem dX4_isHadInMind_14 : decode cX4_isHadInMind 14 = .ok (.bipush 10, 2) := by decide +kernel
theorem dX4_isHadInMind_16 : decode cX4_isHadInMind 16 = .ok (.irem, 1) := by decide +kernel
theorem dX4_isHadInMind_17 : decode cX4_isHadInMind 17 = .ok (.iconst 4, 1) := by decide +kernel
theorem dX4_isHadInMind_18 : decode cX4_isHadInMind 18 = .ok (.isub, 1) := by decide +kernel
theorem dX4_isHadInMind_19 : decode cX4_isHadInMind 19 = .ok (.istore 4, 2) := by decide +kernel
theorem dX4_isHadInMind_21 : decode cX4_isHadInMind 21 = .ok (.aload_n 0, 1) := by decide +kernel
theorem dX4_isHadInMind_22 : decode cX4_isHadInMind 22 = .ok (.getfield 16, 3) := by decide +kernel
theorem dX4_isHadInMind_25 : decode cX4_isHadInMind 25 = .ok (.invokevirtual 129, 3) := by decide +kernel
theorem dX4_isHadInMind_28 : decode cX4_isHadInMind 28 = .ok (.ifCond .eq 25, 3) := by decide +kernel
theorem dX4_isHadInMind_31 : decode cX4_isHadInMind 31 = .ok (.aload_n 0, 1) := by decide +kernel
theorem dX4_isHadInMind_32 : decode cX4_isHadInMind 32 = .ok (.getfield 16, 3) := by decide +kernel
theorem dX4_isHadInMind_35 : decode cX4_isHadInMind 35 = .ok (.iload_n 2, 1) := by decide +kernel
theorem dX4_isHadInMind_36 : decode cX4_isHadInMind 36 = .ok (.invokevirtual 82, 3) := by decide +kernel
theorem dX4_isHadInMind_39 : decode cX4_isHadInMind 39 = .ok (.ifCond .eq 14, 3) := by decide +kernel
theorem dX4_isHadInMind_42 : decode cX4_isHadInMind 42 = .ok (.aload_n 0, 1) := by decide +kernel
theorem dX4_isHadInMind_43 : decode cX4_isHadInMind 43 = .ok (.getfield 16, 3) := by decide +kernel
theorem dX4_isHadInMind_46 : decode cX4_isHadInMind 46 = .ok (.iload_n 3, 1) := by decide +kernel
theorem dX4_isHadInMind_47 : decode cX4_isHadInMind 47 = .ok (.invokevirtual 66, 3) := by decide +kernel
theorem dX4_isHadInMind_50 : decode cX4_isHadInMind 50 = .ok (.ifCond .ne 5, 3) := by decide +kernel
theorem dX4_isHadInMind_53 : decode cX4_isHadInMind 53 = .ok (.iconst 0, 1) := by decide +kernel
theorem dX4_isHadInMind_54 : decode cX4_isHadInMind 54 = .ok (.ireturn, 1) := by decide +kernel
theorem dX4_isHadInMind_55 : decode cX4_isHadInMind 55 = .ok (.iload 4, 2) := by decide +kernel
theorem dX4_isHadInMind_57 : decode cX4_isHadInMind 57 = .ok (.iconst 4, 1) := by decide +kernel
theorem dX4_isHadInMind_58 : decode cX4_isHadInMind 58 = .ok (.if_icmp .gt 27, 3) := by decide +kernel
theorem dX4_isHadInMind_61 : decode cX4_isHadInMind 61 = .ok (.iload 4, 2) := by decide +kernel
theorem dX4_isHadInMind_63 : decode cX4_isHadInMind 63 = .ok (.invokestatic 193, 3) := by decide +kernel
theorem dX4_isHadInMind_66 : decode cX4_isHadInMind 66 = .ok (.aload_n 0, 1) := by decide +kernel
theorem dX4_isHadInMind_67 : decode cX4_isHadInMind 67 = .ok (.getfield 16, 3) := by decide +kernel
theorem dX4_isHadInMind_70 : decode cX4_isHadInMind 70 = .ok (.iload_n 2, 1) := by decide +kernel
theorem dX4_isHadInMind_71 : decode cX4_isHadInMind 71 = .ok (.aload_n 0, 1) := by decide +kernel
theorem dX4_isHadInMind_72 : decode cX4_isHadInMind 72 = .ok (.getfield 16, 3) := by decide +kernel
theorem dX4_isHadInMind_75 : decode cX4_isHadInMind 75 = .ok (.getfield 115, 3) := by decide +kernel
theorem dX4_isHadInMind_78 : decode cX4_isHadInMind 78 = .ok (.iload_n 3, 1) := by decide +kernel
theorem dX4_isHadInMind_79 : decode cX4_isHadInMind 79 = .ok (.invokevirtual 125, 3) := by decide +kernel
theorem dX4_isHadInMind_82 : decode cX4_isHadInMind 82 = .ok (.if_icmp .le 5, 3) := by decide +kernel
theorem dX4_isHadInMind_85 : decode cX4_isHadInMind 85 = .ok (.iconst 0, 1) := by decide +kernel
theorem dX4_isHadInMind_86 : decode cX4_isHadInMind 86 = .ok (.ireturn, 1) := by decide +kernel
theorem dX4_isHadInMind_87 : decode cX4_isHadInMind 87 = .ok (.aload_n 0, 1) := by decide +kernel
theorem dX4_isHadInMind_88 : decode cX4_isHadInMind 88 = .ok (.getfield 16, 3) := by decide +kernel
theorem dX4_isHadInMind_91 : decode cX4_isHadInMind 91 = .ok (.iload_n 2, 1) := by decide +kernel
theorem dX4_isHadInMind_92 : decode cX4_isHadInMind 92 = .ok (.iload_n 3, 1) := by decide +kernel
theorem dX4_isHadInMind_93 : decode cX4_isHadInMind 93 = .ok (.iload 4, 2) := by decide +kernel
theorem dX4_isHadInMind_95 : decode cX4_isHadInMind 95 = .ok (.invokevirtual 133, 3) := by decide +kernel
theorem dX4_isHadInMind_98 : decode cX4_isHadInMind 98 = .ok (.ireturn, 1) := by decide +kernel
theorem dX4_nextSeed_0 : decode cX4_nextSeed 0 = .ok (.iload_n 0, 1) := by decide +kernel
theorem dX4_nextSeed_1 : decode cX4_nextSeed 1 = .ok (.ldc 240, 2) := by decide +kernel
theorem dX4_nextSeed_3 : decode cX4_nextSeed 3 = .ok (.imul, 1) := by decide +kernel
theorem dX4_nextSeed_4 : decode cX4_nextSeed 4 = .ok (.sipush 12345, 3) := by decide +kernel
theorem dX4_nextSeed_7 : decode cX4_nextSeed 7 = .ok (.iadd, 1) := by decide +kernel
theorem dX4_nextSeed_8 : decode cX4_nextSeed 8 = .ok (.ireturn, 1) := by decide +kernel
theorem dX4_drawBelow_0 : decode cX4_drawBelow 0 = .ok (.iload_n 0, 1) := by decide +kernel
theorem dX4_drawBelow_1 : decode cX4_drawBelow 1 = .ok (.iconst 1, 1) := by decide +kernel
theorem dX4_drawBelow_2 : decode cX4_drawBelow 2 = .ok (.if_icmp .ge 7, 3) := by decide +kernel
theorem dX4_drawBelow_5 : decode cX4_drawBelow 5 = .ok (.iconst 0, 1) := by decide +kernel
theorem dX4_drawBelow_6 : decode cX4_drawBelow 6 = .ok (.goto 12, 3) := by decide +kernel
theorem dX4_drawBelow_9 : decode cX4_drawBelow 9 = .ok (.iload_n 1, 1) := by decide +kernel
theorem dX4_drawBelow_10 : decode cX4_drawBelow 10 = .ok (.ldc 241, 2) := by decide +kernel
theorem dX4_drawBelow_12 : decode cX4_drawBelow 12 = .ok (.iand, 1) := by decide +kernel
theorem dX4_drawBelow_13 : decode cX4_drawBelow 13 = .ok (.ldc 242, 2) := by decide +kernel
theorem dX4_drawBelow_15 : decode cX4_drawBelow 15 = .ok (.idiv, 1) := by decide +kernel
theorem dX4_drawBelow_16 : decode cX4_drawBelow 16 = .ok (.iload_n 0, 1) := by decide +kernel
theorem dX4_drawBelow_17 : decode cX4_drawBelow 17 = .ok (.irem, 1) := by decide +kernel
theorem dX4_drawBelow_18 : decode cX4_drawBelow 18 = .ok (.ireturn, 1) := by decide +kernel
