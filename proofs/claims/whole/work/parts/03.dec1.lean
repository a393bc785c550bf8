theorem dX0_init_0 : decode cX0_init 0 = .ok (.aload_n 0, 1) := by decide +kernel
theorem dX0_init_1 : decode cX0_init 1 = .ok (.invokespecial 3, 3) := by decide +kernel
theorem dX0_init_4 : decode cX0_init 4 = .ok (.aload_n 0, 1) := by decide +kernel
theorem dX0_init_5 : decode cX0_init 5 = .ok (.bipush 32, 2) := by decide +kernel
theorem dX0_init_7 : decode cX0_init 7 = .ok (.newarray .int, 2) := by decide +kernel
theorem dX0_init_9 : decode cX0_init 9 = .ok (.putfield 9, 3) := by decide +kernel
theorem dX0_init_12 : decode cX0_init 12 = .ok (.aload_n 0, 1) := by decide +kernel
theorem dX0_init_13 : decode cX0_init 13 = .ok (.bipush 32, 2) := by decide +kernel
theorem dX0_init_15 : decode cX0_init 15 = .ok (.newarray .int, 2) := by decide +kernel
theorem dX0_init_17 : decode cX0_init 17 = .ok (.putfield 15, 3) := by decide +kernel
theorem dX0_init_20 : decode cX0_init 20 = .ok (.aload_n 0, 1) := by decide +kernel
theorem dX0_init_21 : decode cX0_init 21 = .ok (.bipush 32, 2) := by decide +kernel
theorem dX0_init_23 : decode cX0_init 23 = .ok (.newarray .int, 2) := by decide +kernel
theorem dX0_init_25 : decode cX0_init 25 = .ok (.putfield 18, 3) := by decide +kernel
theorem dX0_init_28 : decode cX0_init 28 = .ok (.aload_n 0, 1) := by decide +kernel
theorem dX0_init_29 : decode cX0_init 29 = .ok (.bipush 32, 2) := by decide +kernel
theorem dX0_init_31 : decode cX0_init 31 = .ok (.newarray .int, 2) := by decide +kernel
theorem dX0_init_33 : decode cX0_init 33 = .ok (.putfield 21, 3) := by decide +kernel
theorem dX0_init_36 : decode cX0_init 36 = .ok (.aload_n 0, 1) := by decide +kernel
theorem dX0_init_37 : decode cX0_init 37 = .ok (.bipush 32, 2) := by decide +kernel
theorem dX0_init_39 : decode cX0_init 39 = .ok (.newarray .int, 2) := by decide +kernel
theorem dX0_init_41 : decode cX0_init 41 = .ok (.putfield 24, 3) := by decide +kernel
theorem dX0_init_44 : decode cX0_init 44 = .ok (.aload_n 0, 1) := by decide +kernel
theorem dX0_init_45 : decode cX0_init 45 = .ok (.bipush 32, 2) := by decide +kernel
theorem dX0_init_47 : decode cX0_init 47 = .ok (.newarray .int, 2) := by decide +kernel
theorem dX0_init_49 : decode cX0_init 49 = .ok (.putfield 27, 3) := by decide +kernel
theorem dX0_init_52 : decode cX0_init 52 = .ok (.return_, 1) := by decide +kernel
theorem dX0_add_0 : decode cX0_add 0 = .ok (.aload_n 0, 1) := by decide +kernel
theorem dX0_add_1 : decode cX0_add 1 = .ok (.getfield 30, 3) := by decide +kernel
theorem dX0_add_4 : decode cX0_add 4 = .ok (.bipush 32, 2) := by decide +kernel
theorem dX0_add_6 : decode cX0_add 6 = .ok (.if_icmp .lt 5, 3) := by decide +kernel
theorem dX0_add_9 : decode cX0_add 9 = .ok (.iconst (-1), 1) := by decide +kernel
theorem dX0_add_10 : decode cX0_add 10 = .ok (.ireturn, 1) := by decide +kernel
theorem dX0_add_11 : decode cX0_add 11 = .ok (.aload_n 0, 1) := by decide +kernel
theorem dX0_add_12 : decode cX0_add 12 = .ok (.getfield 9, 3) := by decide +kernel
theorem dX0_add_15 : decode cX0_add 15 = .ok (.aload_n 0, 1) := by decide +kernel
theorem dX0_add_16 : decode cX0_add 16 = .ok (.getfield 30, 3) := by decide +kernel
theorem dX0_add_19 : decode cX0_add 19 = .ok (.iload_n 1, 1) := by decide +kernel
theorem dX0_add_20 : decode cX0_add 20 = .ok (.iastore, 1) := by decide +kernel
theorem dX0_add_21 : decode cX0_add 21 = .ok (.aload_n 0, 1) := by decide +kernel
theorem dX0_add_22 : decode cX0_add 22 = .ok (.getfield 15, 3) := by decide +kernel
theorem dX0_add_25 : decode cX0_add 25 = .ok (.aload_n 0, 1) := by decide +kernel
theorem dX0_add_26 : decode cX0_add 26 = .ok (.getfield 30, 3) := by decide +kernel
theorem dX0_add_29 : decode cX0_add 29 = .ok (.iload_n 2, 1) := by decide +kernel
theorem dX0_add_30 : decode cX0_add 30 = .ok (.iastore, 1) := by decide +kernel
theorem dX0_add_31 : decode cX0_add 31 = .ok (.aload_n 0, 1) := by decide +kernel
theorem dX0_add_32 : decode cX0_add 32 = .ok (.getfield 18, 3) := by decide +kernel
theorem dX0_add_35 : decode cX0_add 35 = .ok (.aload_n 0, 1) := by decide +kernel
theorem dX0_add_36 : decode cX0_add 36 = .ok (.getfield 30, 3) := by decide +kernel
theorem dX0_add_39 : decode cX0_add 39 = .ok (.iload_n 3, 1) := by decide +kernel
theorem dX0_add_40 : decode cX0_add 40 = .ok (.iastore, 1) := by decide +kernel
theorem dX0_add_41 : decode cX0_add 41 = .ok (.aload_n 0, 1) := by decide +kernel
theorem dX0_add_42 : decode cX0_add 42 = .ok (.getfield 21, 3) := by decide +kernel
theorem dX0_add_45 : decode cX0_add 45 = .ok (.aload_n 0, 1) := by decide +kernel
theorem dX0_add_46 : decode cX0_add 46 = .ok (.getfield 30, 3) := by decide +kernel
theorem dX0_add_49 : decode cX0_add 49 = .ok (.iload 4, 2) := by decide +kernel
theorem dX0_add_51 : decode cX0_add 51 = .ok (.iastore, 1) := by decide +kernel
theorem dX0_add_52 : decode cX0_add 52 = .ok (.aload_n 0, 1) := by decide +kernel
theorem dX0_add_53 : decode cX0_add 53 = .ok (.getfield 24, 3) := by decide +kernel
theorem dX0_add_56 : decode cX0_add 56 = .ok (.aload_n 0, 1) := by decide +kernel
theorem dX0_add_57 : decode cX0_add 57 = .ok (.getfield 30, 3) := by decide +kernel
theorem dX0_add_60 : decode cX0_add 60 = .ok (.iload 5, 2) := by decide +kernel
theorem dX0_add_62 : decode cX0_add 62 = .ok (.iastore, 1) := by decide +kernel
theorem dX0_add_63 : decode cX0_add 63 = .ok (.aload_n 0, 1) := by decide +kernel
theorem dX0_add_64 : decode cX0_add 64 = .ok (.getfield 30, 3) := by decide +kernel
theorem dX0_add_67 : decode cX0_add 67 = .ok (.istore 6, 2) := by decide +kernel
theorem dX0_add_69 : decode cX0_add 69 = .ok (.iload 6, 2) := by decide +kernel
theorem dX0_add_71 : decode cX0_add 71 = .ok (.ifCond .le 43, 3) := by decide +kernel
theorem dX0_add_74 : decode cX0_add 74 = .ok (.aload_n 0, 1) := by decide +kernel
theorem dX0_add_75 : decode cX0_add 75 = .ok (.getfield 15, 3) := by decide +kernel
theorem dX0_add_78 : decode cX0_add 78 = .ok (.aload_n 0, 1) := by decide +kernel
theorem dX0_add_79 : decode cX0_add 79 = .ok (.getfield 27, 3) := by decide +kernel
theorem dX0_add_82 : decode cX0_add 82 = .ok (.iload 6, 2) := by decide +kernel
theorem dX0_add_84 : decode cX0_add 84 = .ok (.iconst 1, 1) := by decide +kernel
theorem dX0_add_85 : decode cX0_add 85 = .ok (.isub, 1) := by decide +kernel
theorem dX0_add_86 : decode cX0_add 86 = .ok (.iaload, 1) := by decide +kernel
theorem dX0_add_87 : decode cX0_add 87 = .ok (.iaload, 1) := by decide +kernel
theorem dX0_add_88 : decode cX0_add 88 = .ok (.iload_n 2, 1) := by decide +kernel
theorem dX0_add_89 : decode cX0_add 89 = .ok (.if_icmp .le 25, 3) := by decide +kernel
theorem dX0_add_92 : decode cX0_add 92 = .ok (.aload_n 0, 1) := by decide +kernel
theorem dX0_add_93 : decode cX0_add 93 = .ok (.getfield 27, 3) := by decide +kernel
theorem dX0_add_96 : decode cX0_add 96 = .ok (.iload 6, 2) := by decide +kernel
theorem dX0_add_98 : decode cX0_add 98 = .ok (.aload_n 0, 1) := by decide +kernel
theorem dX0_add_99 : decode cX0_add 99 = .ok (.getfield 27, 3) := by decide +kernel
theorem dX0_add_102 : decode cX0_add 102 = .ok (.iload 6, 2) := by decide +kernel
theorem dX0_add_104 : decode cX0_add 104 = .ok (.iconst 1, 1) := by decide +kernel
theorem dX0_add_105 : decode cX0_add 105 = .ok (.isub, 1) := by decide +kernel
theorem dX0_add_106 : decode cX0_add 106 = .ok (.iaload, 1) := by decide +kernel
theorem dX0_add_107 : decode cX0_add 107 = .ok (.iastore, 1) := by decide +kernel
theorem dX0_add_108 : decode cX0_add 108 = .ok (.iinc 6 (-1), 3) := by decide +kernel
theorem dX0_add_111 : decode cX0_add 111 = .ok (.goto (-42), 3) := by decide +kernel
theorem dX0_add_114 : decode cX0_add 114 = .ok (.aload_n 0, 1) := by decide +kernel
theorem dX0_add_115 : decode cX0_add 115 = .ok (.getfield 27, 3) := by decide +kernel
theorem dX0_add_118 : decode cX0_add 118 = .ok (.iload 6, 2) := by decide +kernel
theorem dX0_add_120 : decode cX0_add 120 = .ok (.aload_n 0, 1) := by decide +kernel
theorem dX0_add_121 : decode cX0_add 121 = .ok (.getfield 30, 3) := by decide +kernel
theorem dX0_add_124 : decode cX0_add 124 = .ok (.iastore, 1) := by decide +kernel
theorem dX0_add_125 : decode cX0_add 125 = .ok (.aload_n 0, 1) := by decide +kernel
theorem dX0_add_126 : decode cX0_add 126 = .ok (.dup, 1) := by decide +kernel
theorem dX0_add_127 : decode cX0_add 127 = .ok (.getfield 30, 3) := by decide +kernel
theorem dX0_add_130 : decode cX0_add 130 = .ok (.iconst 1, 1) := by decide +kernel
theorem dX0_add_131 : decode cX0_add 131 = .ok (.iadd, 1) := by decide +kernel
theorem dX0_add_132 : decode cX0_add 132 = .ok (.putfield 30, 3) := by decide +kernel
theorem dX0_add_135 : decode cX0_add 135 = .ok (.aload_n 0, 1) := by decide +kernel
theorem dX0_add_136 : decode cX0_add 136 = .ok (.getfield 30, 3) := by decide +kernel
theorem dX0_add_139 : decode cX0_add 139 = .ok (.iconst 1, 1) := by decide +kernel
theorem dX0_add_140 : decode cX0_add 140 = .ok (.isub, 1) := by decide +kernel
theorem dX0_add_141 : decode cX0_add 141 = .ok (.ireturn, 1) := by decide +kernel
theorem dX0_isLater_0 : decode cX0_isLater 0 = .ok (.aload_n 0, 1) := by decide +kernel
theorem dX0_isLater_1 : decode cX0_isLater 1 = .ok (.getfield 15, 3) := by decide +kernel
theorem dX0_isLater_4 : decode cX0_isLater 4 = .ok (.iload_n 1, 1) := by decide +kernel
theorem dX0_isLater_5 : decode cX0_isLater 5 = .ok (.iaload, 1) := by decide +kernel
theorem dX0_isLater_6 : decode cX0_isLater 6 = .ok (.aload_n 0, 1) := by decide +kernel
theorem dX0_isLater_7 : decode cX0_isLater 7 = .ok (.getfield 15, 3) := by decide +kernel
theorem dX0_isLater_10 : decode cX0_isLater 10 = .ok (.iload_n 2, 1) := by decide +kernel
theorem dX0_isLater_11 : decode cX0_isLater 11 = .ok (.iaload, 1) := by decide +kernel
theorem dX0_isLater_12 : decode cX0_isLater 12 = .ok (.if_icmp .gt 23, 3) := by decide +kernel
theorem dX0_isLater_15 : decode cX0_isLater 15 = .ok (.aload_n 0, 1) := by decide +kernel
theorem dX0_isLater_16 : decode cX0_isLater 16 = .ok (.getfield 15, 3) := by decide +kernel
theorem dX0_isLater_19 : decode cX0_isLater 19 = .ok (.iload_n 1, 1) := by decide +kernel
theorem dX0_isLater_20 : decode cX0_isLater 20 = .ok (.iaload, 1) := by decide +kernel
theorem dX0_isLater_21 : decode cX0_isLater 21 = .ok (.aload_n 0, 1) := by decide +kernel
theorem dX0_isLater_22 : decode cX0_isLater 22 = .ok (.getfield 15, 3) := by decide +kernel
theorem dX0_isLater_25 : decode cX0_isLater 25 = .ok (.iload_n 2, 1) := by decide +kernel
theorem dX0_isLater_26 : decode cX0_isLater 26 = .ok (.iaload, 1) := by decide +kernel
theorem dX0_isLater_27 : decode cX0_isLater 27 = .ok (.if_icmp .ne 12, 3) := by decide +kernel
theorem dX0_isLater_30 : decode cX0_isLater 30 = .ok (.iload_n 1, 1) := by decide +kernel
theorem dX0_isLater_31 : decode cX0_isLater 31 = .ok (.iload_n 2, 1) := by decide +kernel
theorem dX0_isLater_32 : decode cX0_isLater 32 = .ok (.if_icmp .le 7, 3) := by decide +kernel
theorem dX0_isLater_35 : decode cX0_isLater 35 = .ok (.iconst 1, 1) := by decide +kernel
theorem dX0_isLater_36 : decode cX0_isLater 36 = .ok (.goto 4, 3) := by decide +kernel
theorem dX0_isLater_39 : decode cX0_isLater 39 = .ok (.iconst 0, 1) := by decide +kernel
theorem dX0_isLater_40 : decode cX0_isLater 40 = .ok (.ireturn, 1) := by decide +kernel
theorem dX1_init_0 : decode cX1_init 0 = .ok (.aload_n 0, 1) := by decide +kernel
theorem dX1_init_1 : decode cX1_init 1 = .ok (.invokespecial 3, 3) := by decide +kernel
theorem dX1_init_4 : decode cX1_init 4 = .ok (.aload_n 0, 1) := by decide +kernel
theorem dX1_init_5 : decode cX1_init 5 = .ok (.bipush 6, 2) := by decide +kernel
theorem dX1_init_7 : decode cX1_init 7 = .ok (.newarray .int, 2) := by decide +kernel
theorem dX1_init_9 : decode cX1_init 9 = .ok (.putfield 9, 3) := by decide +kernel
theorem dX1_init_12 : decode cX1_init 12 = .ok (.aload_n 0, 1) := by decide +kernel
theorem dX1_init_13 : decode cX1_init 13 = .ok (.bipush 6, 2) := by decide +kernel
theorem dX1_init_15 : decode cX1_init 15 = .ok (.newarray .int, 2) := by decide +kernel
theorem dX1_init_17 : decode cX1_init 17 = .ok (.putfield 15, 3) := by decide +kernel
theorem dX1_init_20 : decode cX1_init 20 = .ok (.return_, 1) := by decide +kernel
theorem dX1_add_0 : decode cX1_add 0 = .ok (.aload_n 0, 1) := by decide +kernel
theorem dX1_add_1 : decode cX1_add 1 = .ok (.getfield 18, 3) := by decide +kernel
theorem dX1_add_4 : decode cX1_add 4 = .ok (.bipush 6, 2) := by decide +kernel
theorem dX1_add_6 : decode cX1_add 6 = .ok (.if_icmp .lt 5, 3) := by decide +kernel
theorem dX1_add_9 : decode cX1_add 9 = .ok (.iconst (-1), 1) := by decide +kernel
theorem dX1_add_10 : decode cX1_add 10 = .ok (.ireturn, 1) := by decide +kernel
theorem dX1_add_11 : decode cX1_add 11 = .ok (.aload_n 0, 1) := by decide +kernel
theorem dX1_add_12 : decode cX1_add 12 = .ok (.getfield 9, 3) := by decide +kernel
theorem dX1_add_15 : decode cX1_add 15 = .ok (.aload_n 0, 1) := by decide +kernel
theorem dX1_add_16 : decode cX1_add 16 = .ok (.getfield 18, 3) := by decide +kernel
theorem dX1_add_19 : decode cX1_add 19 = .ok (.iload_n 1, 1) := by decide +kernel
theorem dX1_add_20 : decode cX1_add 20 = .ok (.iastore, 1) := by decide +kernel
theorem dX1_add_21 : decode cX1_add 21 = .ok (.aload_n 0, 1) := by decide +kernel
theorem dX1_add_22 : decode cX1_add 22 = .ok (.getfield 15, 3) := by decide +kernel
theorem dX1_add_25 : decode cX1_add 25 = .ok (.aload_n 0, 1) := by decide +kernel
theorem dX1_add_26 : decode cX1_add 26 = .ok (.getfield 18, 3) := by decide +kernel
theorem dX1_add_29 : decode cX1_add 29 = .ok (.iload_n 2, 1) := by decide +kernel
theorem dX1_add_30 : decode cX1_add 30 = .ok (.iastore, 1) := by decide +kernel
theorem dX1_add_31 : decode cX1_add 31 = .ok (.aload_n 0, 1) := by decide +kernel
theorem dX1_add_32 : decode cX1_add 32 = .ok (.dup, 1) := by decide +kernel
theorem dX1_add_33 : decode cX1_add 33 = .ok (.getfield 18, 3) := by decide +kernel
theorem dX1_add_36 : decode cX1_add 36 = .ok (.iconst 1, 1) := by decide +kernel
theorem dX1_add_37 : decode cX1_add 37 = .ok (.iadd, 1) := by decide +kernel
theorem dX1_add_38 : decode cX1_add 38 = .ok (.putfield 18, 3) := by decide +kernel
theorem dX1_add_41 : decode cX1_add 41 = .ok (.aload_n 0, 1) := by decide +kernel
theorem dX1_add_42 : decode cX1_add 42 = .ok (.getfield 18, 3) := by decide +kernel
theorem dX1_add_45 : decode cX1_add 45 = .ok (.iconst 1, 1) := by decide +kernel
theorem dX1_add_46 : decode cX1_add 46 = .ok (.isub, 1) := by decide +kernel
theorem dX1_add_47 : decode cX1_add 47 = .ok (.ireturn, 1) := by decide +kernel
theorem dX2_init_0 : decode cX2_init 0 = .ok (.aload_n 0, 1) := by decide +kernel
theorem dX2_init_1 : decode cX2_init 1 = .ok (.invokespecial 3, 3) := by decide +kernel
theorem dX2_init_4 : decode cX2_init 4 = .ok (.aload_n 0, 1) := by decide +kernel
theorem dX2_init_5 : decode cX2_init 5 = .ok (.bipush 64, 2) := by decide +kernel
theorem dX2_init_7 : decode cX2_init 7 = .ok (.newarray .int, 2) := by decide +kernel
theorem dX2_init_9 : decode cX2_init 9 = .ok (.putfield 9, 3) := by decide +kernel
theorem dX2_init_12 : decode cX2_init 12 = .ok (.return_, 1) := by decide +kernel
theorem dX2_clear_0 : decode cX2_clear 0 = .ok (.aload_n 0, 1) := by decide +kernel
theorem dX2_clear_1 : decode cX2_clear 1 = .ok (.iconst 0, 1) := by decide +kernel
theorem dX2_clear_2 : decode cX2_clear 2 = .ok (.putfield 15, 3) := by decide +kernel
theorem dX2_clear_5 : decode cX2_clear 5 = .ok (.aload_n 0, 1) := by decide +kernel
theorem dX2_clear_6 : decode cX2_clear 6 = .ok (.iconst 0, 1) := by decide +kernel
theorem dX2_clear_7 : decode cX2_clear 7 = .ok (.putfield 19, 3) := by decide +kernel
theorem dX2_clear_10 : decode cX2_clear 10 = .ok (.return_, 1) := by decide +kernel
theorem dX2_add_0 : decode cX2_add 0 = .ok (.aload_n 0, 1) := by decide +kernel
theorem dX2_add_1 : decode cX2_add 1 = .ok (.getfield 19, 3) := by decide +kernel
theorem dX2_add_4 : decode cX2_add 4 = .ok (.bipush 64, 2) := by decide +kernel
theorem dX2_add_6 : decode cX2_add 6 = .ok (.if_icmp .ge 23, 3) := by decide +kernel
theorem dX2_add_9 : decode cX2_add 9 = .ok (.aload_n 0, 1) := by decide +kernel
theorem dX2_add_10 : decode cX2_add 10 = .ok (.getfield 9, 3) := by decide +kernel
theorem dX2_add_13 : decode cX2_add 13 = .ok (.aload_n 0, 1) := by decide +kernel
theorem dX2_add_14 : decode cX2_add 14 = .ok (.getfield 19, 3) := by decide +kernel
theorem dX2_add_17 : decode cX2_add 17 = .ok (.iload_n 1, 1) := by decide +kernel
theorem dX2_add_18 : decode cX2_add 18 = .ok (.iastore, 1) := by decide +kernel
theorem dX2_add_19 : decode cX2_add 19 = .ok (.aload_n 0, 1) := by decide +kernel
theorem dX2_add_20 : decode cX2_add 20 = .ok (.dup, 1) := by decide +kernel
theorem dX2_add_21 : decode cX2_add 21 = .ok (.getfield 19, 3) := by decide +kernel
theorem dX2_add_24 : decode cX2_add 24 = .ok (.iconst 1, 1) := by decide +kernel
theorem dX2_add_25 : decode cX2_add 25 = .ok (.iadd, 1) := by decide +kernel
theorem dX2_add_26 : decode cX2_add 26 = .ok (.putfield 19, 3) := by decide +kernel
theorem dX2_add_29 : decode cX2_add 29 = .ok (.return_, 1) := by decide +kernel
theorem dX2_isTrue_0 : decode cX2_isTrue 0 = .ok (.aload_n 0, 1) := by decide +kernel
theorem dX2_isTrue_1 : decode cX2_isTrue 1 = .ok (.getfield 15, 3) := by decide +kernel
theorem dX2_isTrue_4 : decode cX2_isTrue 4 = .ok (.ifCond .ne 35, 3) := by decide +kernel
theorem dX2_isTrue_7 : decode cX2_isTrue 7 = .ok (.aload_n 1, 1) := by decide +kernel
theorem dX2_isTrue_8 : decode cX2_isTrue 8 = .ok (.iconst 3, 1) := by decide +kernel
theorem dX2_isTrue_9 : decode cX2_isTrue 9 = .ok (.laload, 1) := by decide +kernel
theorem dX2_isTrue_10 : decode cX2_isTrue 10 = .ok (.lconst 0, 1) := by decide +kernel
theorem dX2_isTrue_11 : decode cX2_isTrue 11 = .ok (.lcmp, 1) := by decide +kernel
theorem dX2_isTrue_12 : decode cX2_isTrue 12 = .ok (.ifCond .eq 25, 3) := by decide +kernel
theorem dX2_isTrue_15 : decode cX2_isTrue 15 = .ok (.aload_n 1, 1) := by decide +kernel
theorem dX2_isTrue_16 : decode cX2_isTrue 16 = .ok (.iconst 0, 1) := by decide +kernel
theorem dX2_isTrue_17 : decode cX2_isTrue 17 = .ok (.laload, 1) := by decide +kernel
theorem dX2_isTrue_18 : decode cX2_isTrue 18 = .ok (.aload_n 1, 1) := by decide +kernel
theorem dX2_isTrue_19 : decode cX2_isTrue 19 = .ok (.iconst 1, 1) := by decide +kernel
theorem dX2_isTrue_20 : decode cX2_isTrue 20 = .ok (.laload, 1) := by decide +kernel
theorem dX2_isTrue_21 : decode cX2_isTrue 21 = .ok (.lcmp, 1) := by decide +kernel
theorem dX2_isTrue_22 : decode cX2_isTrue 22 = .ok (.ifCond .gt 11, 3) := by decide +kernel
theorem dX2_isTrue_25 : decode cX2_isTrue 25 = .ok (.aload_n 1, 1) := by decide +kernel
theorem dX2_isTrue_26 : decode cX2_isTrue 26 = .ok (.iconst 2, 1) := by decide +kernel
theorem dX2_isTrue_27 : decode cX2_isTrue 27 = .ok (.laload, 1) := by decide +kernel
theorem dX2_isTrue_28 : decode cX2_isTrue 28 = .ok (.lconst 0, 1) := by decide +kernel
theorem dX2_isTrue_29 : decode cX2_isTrue 29 = .ok (.lcmp, 1) := by decide +kernel
theorem dX2_isTrue_30 : decode cX2_isTrue 30 = .ok (.ifCond .eq 7, 3) := by decide +kernel
theorem dX2_isTrue_33 : decode cX2_isTrue 33 = .ok (.iconst 1, 1) := by decide +kernel
theorem dX2_isTrue_34 : decode cX2_isTrue 34 = .ok (.goto 4, 3) := by decide +kernel
theorem dX2_isTrue_37 : decode cX2_isTrue 37 = .ok (.iconst 0, 1) := by decide +kernel
theorem dX2_isTrue_38 : decode cX2_isTrue 38 = .ok (.ireturn, 1) := by decide +kernel
theorem dX2_isTrue_39 : decode cX2_isTrue 39 = .ok (.iconst 0, 1) := by decide +kernel
theorem dX2_isTrue_40 : decode cX2_isTrue 40 = .ok (.istore_n 3, 1) := by decide +kernel
theorem dX2_isTrue_41 : decode cX2_isTrue 41 = .ok (.iconst 0, 1) := by decide +kernel
theorem dX2_isTrue_42 : decode cX2_isTrue 42 = .ok (.istore 4, 2) := by decide +kernel
theorem dX2_isTrue_44 : decode cX2_isTrue 44 = .ok (.iload 4, 2) := by decide +kernel
theorem dX2_isTrue_46 : decode cX2_isTrue 46 = .ok (.aload_n 0, 1) := by decide +kernel
theorem dX2_isTrue_47 : decode cX2_isTrue 47 = .ok (.getfield 19, 3) := by decide +kernel
theorem dX2_isTrue_50 : decode cX2_isTrue 50 = .ok (.if_icmp .ge 157, 3) := by decide +kernel
theorem dX2_isTrue_53 : decode cX2_isTrue 53 = .ok (.iload_n 3, 1) := by decide +kernel
theorem dX2_isTrue_54 : decode cX2_isTrue 54 = .ok (.aload_n 2, 1) := by decide +kernel
theorem dX2_isTrue_55 : decode cX2_isTrue 55 = .ok (.arraylength, 1) := by decide +kernel
theorem dX2_isTrue_56 : decode cX2_isTrue 56 = .ok (.if_icmp .ge 151, 3) := by decide +kernel
theorem dX2_isTrue_59 : decode cX2_isTrue 59 = .ok (.aload_n 0, 1) := by decide +kernel
theorem dX2_isTrue_60 : decode cX2_isTrue 60 = .ok (.getfield 9, 3) := by decide +kernel
theorem dX2_isTrue_63 : decode cX2_isTrue 63 = .ok (.iload 4, 2) := by decide +kernel
theorem dX2_isTrue_65 : decode cX2_isTrue 65 = .ok (.iaload, 1) := by decide +kernel
theorem dX2_isTrue_66 : decode cX2_isTrue 66 = .ok (.ineg, 1) := by decide +kernel
theorem dX2_isTrue_67 : decode cX2_isTrue 67 = .ok (.istore 5, 2) := by decide +kernel
theorem dX2_isTrue_69 : decode cX2_isTrue 69 = .ok (.iload 5, 2) := by decide +kernel
theorem dX2_isTrue_71 : decode cX2_isTrue 71 = .ok (.ifCond .le 17, 3) := by decide +kernel
theorem dX2_isTrue_74 : decode cX2_isTrue 74 = .ok (.iload 5, 2) := by decide +kernel
theorem dX2_isTrue_76 : decode cX2_isTrue 76 = .ok (.bipush 20, 2) := by decide +kernel
theorem dX2_isTrue_78 : decode cX2_isTrue 78 = .ok (.if_icmp .lt 38, 3) := by decide +kernel
theorem dX2_isTrue_81 : decode cX2_isTrue 81 = .ok (.iload 5, 2) := by decide +kernel
theorem dX2_isTrue_83 : decode cX2_isTrue 83 = .ok (.bipush 27, 2) := by decide +kernel
theorem dX2_isTrue_85 : decode cX2_isTrue 85 = .ok (.if_icmp .gt 31, 3) := by decide +kernel
theorem dX2_isTrue_88 : decode cX2_isTrue 88 = .ok (.aload_n 2, 1) := by decide +kernel
theorem dX2_isTrue_89 : decode cX2_isTrue 89 = .ok (.iload_n 3, 1) := by decide +kernel
theorem dX2_isTrue_90 : decode cX2_isTrue 90 = .ok (.iload 5, 2) := by decide +kernel
theorem dX2_isTrue_92 : decode cX2_isTrue 92 = .ok (.ifCond .gt 10, 3) := by decide +kernel
theorem dX2_isTrue_95 : decode cX2_isTrue 95 = .ok (.iload 5, 2) := by decide +kernel
theorem dX2_isTrue_97 : decode cX2_isTrue 97 = .ok (.ineg, 1) := by decide +kernel
theorem dX2_isTrue_98 : decode cX2_isTrue 98 = .ok (.i2l, 1) := by decide +kernel
theorem dX2_isTrue_99 : decode cX2_isTrue 99 = .ok (.goto 10, 3) := by decide +kernel
theorem dX2_isTrue_102 : decode cX2_isTrue 102 = .ok (.aload_n 1, 1) := by decide +kernel
theorem dX2_isTrue_103 : decode cX2_isTrue 103 = .ok (.iload 5, 2) := by decide +kernel
theorem dX2_isTrue_105 : decode cX2_isTrue 105 = .ok (.bipush 20, 2) := by decide +kernel
theorem dX2_isTrue_107 : decode cX2_isTrue 107 = .ok (.isub, 1) := by decide +kernel
theorem dX2_isTrue_108 : decode cX2_isTrue 108 = .ok (.laload, 1) := by decide +kernel
theorem dX2_isTrue_109 : decode cX2_isTrue 109 = .ok (.lastore, 1) := by decide +kernel
theorem dX2_isTrue_110 : decode cX2_isTrue 110 = .ok (.iinc 3 1, 3) := by decide +kernel
theorem dX2_isTrue_113 : decode cX2_isTrue 113 = .ok (.goto 88, 3) := by decide +kernel
theorem dX2_isTrue_116 : decode cX2_isTrue 116 = .ok (.iload 5, 2) := by decide +kernel
theorem dX2_isTrue_118 : decode cX2_isTrue 118 = .ok (.bipush 17, 2) := by decide +kernel
theorem dX2_isTrue_120 : decode cX2_isTrue 120 = .ok (.if_icmp .ne 31, 3) := by decide +kernel
theorem dX2_isTrue_123 : decode cX2_isTrue 123 = .ok (.iload_n 3, 1) := by decide +kernel
theorem dX2_isTrue_124 : decode cX2_isTrue 124 = .ok (.iconst 1, 1) := by decide +kernel
theorem dX2_isTrue_125 : decode cX2_isTrue 125 = .ok (.if_icmp .lt 26, 3) := by decide +kernel
theorem dX2_isTrue_128 : decode cX2_isTrue 128 = .ok (.aload_n 2, 1) := by decide +kernel
theorem dX2_isTrue_129 : decode cX2_isTrue 129 = .ok (.iload_n 3, 1) := by decide +kernel
theorem dX2_isTrue_130 : decode cX2_isTrue 130 = .ok (.iconst 1, 1) := by decide +kernel
theorem dX2_isTrue_131 : decode cX2_isTrue 131 = .ok (.isub, 1) := by decide +kernel
theorem dX2_isTrue_132 : decode cX2_isTrue 132 = .ok (.aload_n 2, 1) := by decide +kernel
theorem dX2_isTrue_133 : decode cX2_isTrue 133 = .ok (.iload_n 3, 1) := by decide +kernel
theorem dX2_isTrue_134 : decode cX2_isTrue 134 = .ok (.iconst 1, 1) := by decide +kernel
theorem dX2_isTrue_135 : decode cX2_isTrue 135 = .ok (.isub, 1) := by decide +kernel
theorem dX2_isTrue_136 : decode cX2_isTrue 136 = .ok (.laload, 1) := by decide +kernel
theorem dX2_isTrue_137 : decode cX2_isTrue 137 = .ok (.lconst 0, 1) := by decide +kernel
theorem dX2_isTrue_138 : decode cX2_isTrue 138 = .ok (.lcmp, 1) := by decide +kernel
theorem dX2_isTrue_139 : decode cX2_isTrue 139 = .ok (.ifCond .ne 7, 3) := by decide +kernel
theorem dX2_isTrue_142 : decode cX2_isTrue 142 = .ok (.lconst 1, 1) := by decide +kernel
theorem dX2_isTrue_143 : decode cX2_isTrue 143 = .ok (.goto 4, 3) := by decide +kernel
theorem dX2_isTrue_146 : decode cX2_isTrue 146 = .ok (.lconst 0, 1) := by decide +kernel
theorem dX2_isTrue_147 : decode cX2_isTrue 147 = .ok (.lastore, 1) := by decide +kernel
theorem dX2_isTrue_148 : decode cX2_isTrue 148 = .ok (.goto 53, 3) := by decide +kernel
theorem dX2_isTrue_151 : decode cX2_isTrue 151 = .ok (.iload_n 3, 1) := by decide +kernel
theorem dX2_isTrue_152 : decode cX2_isTrue 152 = .ok (.iconst 2, 1) := by decide +kernel
theorem dX2_isTrue_153 : decode cX2_isTrue 153 = .ok (.if_icmp .lt 48, 3) := by decide +kernel
theorem dX2_isTrue_156 : decode cX2_isTrue 156 = .ok (.iinc 3 (-1), 3) := by decide +kernel
theorem dX2_isTrue_159 : decode cX2_isTrue 159 = .ok (.iload 5, 2) := by decide +kernel
theorem dX2_isTrue_161 : decode cX2_isTrue 161 = .ok (.aload_n 2, 1) := by decide +kernel
theorem dX2_isTrue_162 : decode cX2_isTrue 162 = .ok (.iload_n 3, 1) := by decide +kernel
theorem dX2_isTrue_163 : decode cX2_isTrue 163 = .ok (.iconst 1, 1) := by decide +kernel
theorem dX2_isTrue_164 : decode cX2_isTrue 164 = .ok (.isub, 1) := by decide +kernel
theorem dX2_isTrue_165 : decode cX2_isTrue 165 = .ok (.laload, 1) := by decide +kernel
theorem dX2_isTrue_166 : decode cX2_isTrue 166 = .ok (.aload_n 2, 1) := by decide +kernel
theorem dX2_isTrue_167 : decode cX2_isTrue 167 = .ok (.iload_n 3, 1) := by decide +kernel
theorem dX2_isTrue_168 : decode cX2_isTrue 168 = .ok (.laload, 1) := by decide +kernel
theorem dX2_isTrue_169 : decode cX2_isTrue 169 = .ok (.invokestatic 23, 3) := by decide +kernel
theorem dX2_isTrue_172 : decode cX2_isTrue 172 = .ok (.lstore 6, 2) := by decide +kernel
theorem dX2_isTrue_174 : decode cX2_isTrue 174 = .ok (.lload 6, 2) := by decide +kernel
theorem dX2_isTrue_176 : decode cX2_isTrue 176 = .ok (.ldc2_w 27, 3) := by decide +kernel
theorem dX2_isTrue_179 : decode cX2_isTrue 179 = .ok (.lcmp, 1) := by decide +kernel
theorem dX2_isTrue_180 : decode cX2_isTrue 180 = .ok (.ifCond .gt 12, 3) := by decide +kernel
theorem dX2_isTrue_183 : decode cX2_isTrue 183 = .ok (.lload 6, 2) := by decide +kernel
theorem dX2_isTrue_185 : decode cX2_isTrue 185 = .ok (.ldc2_w 29, 3) := by decide +kernel
theorem dX2_isTrue_188 : decode cX2_isTrue 188 = .ok (.lcmp, 1) := by decide +kernel
theorem dX2_isTrue_189 : decode cX2_isTrue 189 = .ok (.ifCond .ge 5, 3) := by decide +kernel
theorem dX2_isTrue_192 : decode cX2_isTrue 192 = .ok (.iconst 0, 1) := by decide +kernel
theorem dX2_isTrue_193 : decode cX2_isTrue 193 = .ok (.ireturn, 1) := by decide +kernel
theorem dX2_isTrue_194 : decode cX2_isTrue 194 = .ok (.aload_n 2, 1) := by decide +kernel
theorem dX2_isTrue_195 : decode cX2_isTrue 195 = .ok (.iload_n 3, 1) := by decide +kernel
theorem dX2_isTrue_196 : decode cX2_isTrue 196 = .ok (.iconst 1, 1) := by decide +kernel
theorem dX2_isTrue_197 : decode cX2_isTrue 197 = .ok (.isub, 1) := by decide +kernel
theorem dX2_isTrue_198 : decode cX2_isTrue 198 = .ok (.lload 6, 2) := by decide +kernel
theorem dX2_isTrue_200 : decode cX2_isTrue 200 = .ok (.lastore, 1) := by decide +kernel
theorem dX2_isTrue_201 : decode cX2_isTrue 201 = .ok (.iinc 4 1, 3) := by decide +kernel
theorem dX2_isTrue_204 : decode cX2_isTrue 204 = .ok (.goto (-160), 3) := by decide +kernel
theorem dX2_isTrue_207 : decode cX2_isTrue 207 = .ok (.iload_n 3, 1) := by decide +kernel
theorem dX2_isTrue_208 : decode cX2_isTrue 208 = .ok (.iconst 1, 1) := by decide +kernel
theorem dX2_isTrue_209 : decode cX2_isTrue 209 = .ok (.if_icmp .ne 15, 3) := by decide +kernel
theorem dX2_isTrue_212 : decode cX2_isTrue 212 = .ok (.aload_n 2, 1) := by decide +kernel
theorem dX2_isTrue_213 : decode cX2_isTrue 213 = .ok (.iconst 0, 1) := by decide +kernel
theorem dX2_isTrue_214 : decode cX2_isTrue 214 = .ok (.laload, 1) := by decide +kernel
theorem dX2_isTrue_215 : decode cX2_isTrue 215 = .ok (.lconst 0, 1) := by decide +kernel
theorem dX2_isTrue_216 : decode cX2_isTrue 216 = .ok (.lcmp, 1) := by decide +kernel
theorem dX2_isTrue_217 : decode cX2_isTrue 217 = .ok (.ifCond .eq 7, 3) := by decide +kernel
theorem dX2_isTrue_220 : decode cX2_isTrue 220 = .ok (.iconst 1, 1) := by decide +kernel
theorem dX2_isTrue_221 : decode cX2_isTrue 221 = .ok (.goto 4, 3) := by decide +kernel
theorem dX2_isTrue_224 : decode cX2_isTrue 224 = .ok (.iconst 0, 1) := by decide +kernel
theorem dX2_isTrue_225 : decode cX2_isTrue 225 = .ok (.ireturn, 1) := by decide +kernel
theorem dX2_work_0 : decode cX2_work 0 = .ok (.iload_n 0, 1) := by decide +kernel
theorem dX2_work_1 : decode cX2_work 1 = .ok (.tableswitch 247 7 19 #[103, 115, 127, 139, 151, 163, 175, 179, 183, 231, 247, 85, 67], 67) := by decide +kernel
theorem dX2_work_68 : decode cX2_work 68 = .ok (.lload_n 1, 1) := by decide +kernel
theorem dX2_work_69 : decode cX2_work 69 = .ok (.lconst 0, 1) := by decide +kernel
theorem dX2_work_70 : decode cX2_work 70 = .ok (.lcmp, 1) := by decide +kernel
theorem dX2_work_71 : decode cX2_work 71 = .ok (.ifCond .ne 9, 3) := by decide +kernel
theorem dX2_work_74 : decode cX2_work 74 = .ok (.lload_n 3, 1) := by decide +kernel
theorem dX2_work_75 : decode cX2_work 75 = .ok (.lconst 0, 1) := by decide +kernel
theorem dX2_work_76 : decode cX2_work 76 = .ok (.lcmp, 1) := by decide +kernel
theorem dX2_work_77 : decode cX2_work 77 = .ok (.ifCond .eq 7, 3) := by decide +kernel
theorem dX2_work_80 : decode cX2_work 80 = .ok (.lconst 1, 1) := by decide +kernel
theorem dX2_work_81 : decode cX2_work 81 = .ok (.goto 4, 3) := by decide +kernel
theorem dX2_work_84 : decode cX2_work 84 = .ok (.lconst 0, 1) := by decide +kernel
theorem dX2_work_85 : decode cX2_work 85 = .ok (.lreturn, 1) := by decide +kernel
theorem dX2_work_86 : decode cX2_work 86 = .ok (.lload_n 1, 1) := by decide +kernel
theorem dX2_work_87 : decode cX2_work 87 = .ok (.lconst 0, 1) := by decide +kernel
theorem dX2_work_88 : decode cX2_work 88 = .ok (.lcmp, 1) := by decide +kernel
theorem dX2_work_89 : decode cX2_work 89 = .ok (.ifCond .eq 13, 3) := by decide +kernel
theorem dX2_work_92 : decode cX2_work 92 = .ok (.lload_n 3, 1) := by decide +kernel
theorem dX2_work_93 : decode cX2_work 93 = .ok (.lconst 0, 1) := by decide +kernel
theorem dX2_work_94 : decode cX2_work 94 = .ok (.lcmp, 1) := by decide +kernel
theorem dX2_work_95 : decode cX2_work 95 = .ok (.ifCond .eq 7, 3) := by decide +kernel
theorem dX2_work_98 : decode cX2_work 98 = .ok (.lconst 1, 1) := by decide +kernel
theorem dX2_work_99 : decode cX2_work 99 = .ok (.goto 4, 3) := by decide +kernel
theorem dX2_work_102 : decode cX2_work 102 = .ok (.lconst 0, 1) := by decide +kernel
theorem dX2_work_103 : decode cX2_work 103 = .ok (.lreturn, 1) := by decide +kernel
theorem dX2_work_104 : decode cX2_work 104 = .ok (.lload_n 1, 1) := by decide +kernel
theorem dX2_work_105 : decode cX2_work 105 = .ok (.lload_n 3, 1) := by decide +kernel
theorem dX2_work_106 : decode cX2_work 106 = .ok (.lcmp, 1) := by decide +kernel
theorem dX2_work_107 : decode cX2_work 107 = .ok (.ifCond .ge 7, 3) := by decide +kernel
theorem dX2_work_110 : decode cX2_work 110 = .ok (.lconst 1, 1) := by decide +kernel
theorem dX2_work_111 : decode cX2_work 111 = .ok (.goto 4, 3) := by decide +kernel
theorem dX2_work_114 : decode cX2_work 114 = .ok (.lconst 0, 1) := by decide +kernel
theorem dX2_work_115 : decode cX2_work 115 = .ok (.lreturn, 1) := by decide +kernel
theorem dX2_work_116 : decode cX2_work 116 = .ok (.lload_n 1, 1) := by decide +kernel
theorem dX2_work_117 : decode cX2_work 117 = .ok (.lload_n 3, 1) := by decide +kernel
theorem dX2_work_118 : decode cX2_work 118 = .ok (.lcmp, 1) := by decide +kernel
theorem dX2_work_119 : decode cX2_work 119 = .ok (.ifCond .gt 7, 3) := by decide +kernel
theorem dX2_work_122 : decode cX2_work 122 = .ok (.lconst 1, 1) := by decide +kernel
theorem dX2_work_123 : decode cX2_work 123 = .ok (.goto 4, 3) := by decide +kernel
theorem dX2_work_126 : decode cX2_work 126 = .ok (.lconst 0, 1) := by decide +kernel
theorem dX2_work_127 : decode cX2_work 127 = .ok (.lreturn, 1) := by decide +kernel
theorem dX2_work_128 : decode cX2_work 128 = .ok (.lload_n 1, 1) := by decide +kernel
theorem dX2_work_129 : decode cX2_work 129 = .ok (.lload_n 3, 1) := by decide +kernel
theorem dX2_work_130 : decode cX2_work 130 = .ok (.lcmp, 1) := by decide +kernel
theorem dX2_work_131 : decode cX2_work 131 = .ok (.ifCond .ne 7, 3) := by decide +kernel
theorem dX2_work_134 : decode cX2_work 134 = .ok (.lconst 1, 1) := by decide +kernel
theorem dX2_work_135 : decode cX2_work 135 = .ok (.goto 4, 3) := by decide +kernel
theorem dX2_work_138 : decode cX2_work 138 = .ok (.lconst 0, 1) := by decide +kernel
theorem dX2_work_139 : decode cX2_work 139 = .ok (.lreturn, 1) := by decide +kernel
theorem dX2_work_140 : decode cX2_work 140 = .ok (.lload_n 1, 1) := by decide +kernel
theorem dX2_work_141 : decode cX2_work 141 = .ok (.lload_n 3, 1) := by decide +kernel
theorem dX2_work_142 : decode cX2_work 142 = .ok (.lcmp, 1) := by decide +kernel
theorem dX2_work_143 : decode cX2_work 143 = .ok (.ifCond .eq 7, 3) := by decide +kernel
theorem dX2_work_146 : decode cX2_work 146 = .ok (.lconst 1, 1) := by decide +kernel
theorem dX2_work_147 : decode cX2_work 147 = .ok (.goto 4, 3) := by decide +kernel
theorem dX2_work_150 : decode cX2_work 150 = .ok (.lconst 0, 1) := by decide +kernel
theorem dX2_work_151 : decode cX2_work 151 = .ok (.lreturn, 1) := by decide +kernel
theorem dX2_work_152 : decode cX2_work 152 = .ok (.lload_n 1, 1) := by decide +kernel
theorem dX2_work_153 : decode cX2_work 153 = .ok (.lload_n 3, 1) := by decide +kernel
theorem dX2_work_154 : decode cX2_work 154 = .ok (.lcmp, 1) := by decide +kernel
theorem dX2_work_155 : decode cX2_work 155 = .ok (.ifCond .lt 7, 3) := by decide +kernel
theorem dX2_work_158 : decode cX2_work 158 = .ok (.lconst 1, 1) := by decide +kernel
theorem dX2_work_159 : decode cX2_work 159 = .ok (.goto 4, 3) := by decide +kernel
theorem dX2_work_162 : decode cX2_work 162 = .ok (.lconst 0, 1) := by decide +kernel
theorem dX2_work_163 : decode cX2_work 163 = .ok (.lreturn, 1) := by decide +kernel
theorem dX2_work_164 : decode cX2_work 164 = .ok (.lload_n 1, 1) := by decide +kernel
theorem dX2_work_165 : decode cX2_work 165 = .ok (.lload_n 3, 1) := by decide +kernel
theorem dX2_work_166 : decode cX2_work 166 = .ok (.lcmp, 1) := by decide +kernel
theorem dX2_work_167 : decode cX2_work 167 = .ok (.ifCond .le 7, 3) := by decide +kernel
theorem dX2_work_170 : decode cX2_work 170 = .ok (.lconst 1, 1) := by decide +kernel
theorem dX2_work_171 : decode cX2_work 171 = .ok (.goto 4, 3) := by decide +kernel
theorem dX2_work_174 : decode cX2_work 174 = .ok (.lconst 0, 1) := by decide +kernel
theorem dX2_work_175 : decode cX2_work 175 = .ok (.lreturn, 1) := by decide +kernel
theorem dX2_work_176 : decode cX2_work 176 = .ok (.lload_n 1, 1) := by decide +kernel
theorem dX2_work_177 : decode cX2_work 177 = .ok (.lload_n 3, 1) := by decide +kernel
theorem dX2_work_178 : decode cX2_work 178 = .ok (.ladd, 1) := by decide +kernel
theorem dX2_work_179 : decode cX2_work 179 = .ok (.lreturn, 1) := by decide +kernel
theorem dX2_work_180 : decode cX2_work 180 = .ok (.lload_n 1, 1) := by decide +kernel
theorem dX2_work_181 : decode cX2_work 181 = .ok (.lload_n 3, 1) := by decide +kernel
theorem dX2_work_182 : decode cX2_work 182 = .ok (.lsub, 1) := by decide +kernel
theorem dX2_work_183 : decode cX2_work 183 = .ok (.lreturn, 1) := by decide +kernel
theorem dX2_work_184 : decode cX2_work 184 = .ok (.lload_n 1, 1) := by decide +kernel
theorem dX2_work_185 : decode cX2_work 185 = .ok (.lconst 0, 1) := by decide +kernel
theorem dX2_work_186 : decode cX2_work 186 = .ok (.lcmp, 1) := by decide +kernel
theorem dX2_work_187 : decode cX2_work 187 = .ok (.ifCond .eq 41, 3) := by decide +kernel
theorem dX2_work_190 : decode cX2_work 190 = .ok (.lload_n 3, 1) := by decide +kernel
theorem dX2_work_191 : decode cX2_work 191 = .ok (.lconst 0, 1) := by decide +kernel
theorem dX2_work_192 : decode cX2_work 192 = .ok (.lcmp, 1) := by decide +kernel
theorem dX2_work_193 : decode cX2_work 193 = .ok (.ifCond .ge 8, 3) := by decide +kernel
theorem dX2_work_196 : decode cX2_work 196 = .ok (.lload_n 3, 1) := by decide +kernel
theorem dX2_work_197 : decode cX2_work 197 = .ok (.lneg, 1) := by decide +kernel
theorem dX2_work_198 : decode cX2_work 198 = .ok (.goto 4, 3) := by decide +kernel
theorem dX2_work_201 : decode cX2_work 201 = .ok (.lload_n 3, 1) := by decide +kernel
theorem dX2_work_202 : decode cX2_work 202 = .ok (.ldc2_w 27, 3) := by decide +kernel
theorem dX2_work_205 : decode cX2_work 205 = .ok (.lload_n 1, 1) := by decide +kernel
theorem dX2_work_206 : decode cX2_work 206 = .ok (.lconst 0, 1) := by decide +kernel
theorem dX2_work_207 : decode cX2_work 207 = .ok (.lcmp, 1) := by decide +kernel
theorem dX2_work_208 : decode cX2_work 208 = .ok (.ifCond .ge 8, 3) := by decide +kernel
theorem dX2_work_211 : decode cX2_work 211 = .ok (.lload_n 1, 1) := by decide +kernel
theorem dX2_work_212 : decode cX2_work 212 = .ok (.lneg, 1) := by decide +kernel
theorem dX2_work_213 : decode cX2_work 213 = .ok (.goto 4, 3) := by decide +kernel
theorem dX2_work_216 : decode cX2_work 216 = .ok (.lload_n 1, 1) := by decide +kernel
theorem dX2_work_217 : decode cX2_work 217 = .ok (.ldiv, 1) := by decide +kernel
theorem dX2_work_218 : decode cX2_work 218 = .ok (.lcmp, 1) := by decide +kernel
theorem dX2_work_219 : decode cX2_work 219 = .ok (.ifCond .le 9, 3) := by decide +kernel
theorem dX2_work_222 : decode cX2_work 222 = .ok (.ldc2_w 31, 3) := by decide +kernel
theorem dX2_work_225 : decode cX2_work 225 = .ok (.goto 6, 3) := by decide +kernel
theorem dX2_work_228 : decode cX2_work 228 = .ok (.lload_n 1, 1) := by decide +kernel
theorem dX2_work_229 : decode cX2_work 229 = .ok (.lload_n 3, 1) := by decide +kernel
theorem dX2_work_230 : decode cX2_work 230 = .ok (.lmul, 1) := by decide +kernel
theorem dX2_work_231 : decode cX2_work 231 = .ok (.lreturn, 1) := by decide +kernel
theorem dX2_work_232 : decode cX2_work 232 = .ok (.lload_n 3, 1) := by decide +kernel
theorem dX2_work_233 : decode cX2_work 233 = .ok (.lconst 0, 1) := by decide +kernel
theorem dX2_work_234 : decode cX2_work 234 = .ok (.lcmp, 1) := by decide +kernel
theorem dX2_work_235 : decode cX2_work 235 = .ok (.ifCond .ne 9, 3) := by decide +kernel
theorem dX2_work_238 : decode cX2_work 238 = .ok (.ldc2_w 31, 3) := by decide +kernel
theorem dX2_work_241 : decode cX2_work 241 = .ok (.goto 6, 3) := by decide +kernel
theorem dX2_work_244 : decode cX2_work 244 = .ok (.lload_n 1, 1) := by decide +kernel
theorem dX2_work_245 : decode cX2_work 245 = .ok (.lload_n 3, 1) := by decide +kernel
theorem dX2_work_246 : decode cX2_work 246 = .ok (.ldiv, 1) := by decide +kernel
theorem dX2_work_247 : decode cX2_work 247 = .ok (.lreturn, 1) := by decide +kernel
theorem dX2_work_248 : decode cX2_work 248 = .ok (.ldc2_w 31, 3) := by decide +kernel
theorem dX2_work_251 : decode cX2_work 251 = .ok (.lreturn, 1) := by decide +kernel
theorem dX3_init_0 : decode cX3_init 0 = .ok (.aload_n 0, 1) := by decide +kernel
theorem dX3_init_1 : decode cX3_init 1 = .ok (.invokespecial 3, 3) := by decide +kernel
theorem dX3_init_4 : decode cX3_init 4 = .ok (.aload_n 0, 1) := by decide +kernel
theorem dX3_init_5 : decode cX3_init 5 = .ok (.bipush 12, 2) := by decide +kernel
theorem dX3_init_7 : decode cX3_init 7 = .ok (.newarray .int, 2) := by decide +kernel
theorem dX3_init_9 : decode cX3_init 9 = .ok (.putfield 9, 3) := by decide +kernel
theorem dX3_init_12 : decode cX3_init 12 = .ok (.aload_n 0, 1) := by decide +kernel
theorem dX3_init_13 : decode cX3_init 13 = .ok (.bipush 12, 2) := by decide +kernel
theorem dX3_init_15 : decode cX3_init 15 = .ok (.newarray .int, 2) := by decide +kernel
theorem dX3_init_17 : decode cX3_init 17 = .ok (.putfield 15, 3) := by decide +kernel
theorem dX3_init_20 : decode cX3_init 20 = .ok (.aload_n 0, 1) := by decide +kernel
theorem dX3_init_21 : decode cX3_init 21 = .ok (.bipush 32, 2) := by decide +kernel
theorem dX3_init_23 : decode cX3_init 23 = .ok (.newarray .int, 2) := by decide +kernel
theorem dX3_init_25 : decode cX3_init 25 = .ok (.putfield 18, 3) := by decide +kernel
theorem dX3_init_28 : decode cX3_init 28 = .ok (.aload_n 0, 1) := by decide +kernel
theorem dX3_init_29 : decode cX3_init 29 = .ok (.sipush 384, 3) := by decide +kernel
theorem dX3_init_32 : decode cX3_init 32 = .ok (.newarray .int, 2) := by decide +kernel
theorem dX3_init_34 : decode cX3_init 34 = .ok (.putfield 21, 3) := by decide +kernel
theorem dX3_init_37 : decode cX3_init 37 = .ok (.aload_n 0, 1) := by decide +kernel
theorem dX3_init_38 : decode cX3_init 38 = .ok (.sipush 384, 3) := by decide +kernel
theorem dX3_init_41 : decode cX3_init 41 = .ok (.newarray .int, 2) := by decide +kernel
theorem dX3_init_43 : decode cX3_init 43 = .ok (.putfield 24, 3) := by decide +kernel
theorem dX3_init_46 : decode cX3_init 46 = .ok (.aload_n 0, 1) := by decide +kernel
theorem dX3_init_47 : decode cX3_init 47 = .ok (.bipush 12, 2) := by decide +kernel
theorem dX3_init_49 : decode cX3_init 49 = .ok (.newarray .int, 2) := by decide +kernel
theorem dX3_init_51 : decode cX3_init 51 = .ok (.putfield 27, 3) := by decide +kernel
theorem dX3_init_54 : decode cX3_init 54 = .ok (.aload_n 0, 1) := by decide +kernel
theorem dX3_init_55 : decode cX3_init 55 = .ok (.bipush 120, 2) := by decide +kernel
theorem dX3_init_57 : decode cX3_init 57 = .ok (.newarray .int, 2) := by decide +kernel
theorem dX3_init_59 : decode cX3_init 59 = .ok (.putfield 30, 3) := by decide +kernel
theorem dX3_init_62 : decode cX3_init 62 = .ok (.aload_n 0, 1) := by decide +kernel
theorem dX3_init_63 : decode cX3_init 63 = .ok (.bipush 32, 2) := by decide +kernel
theorem dX3_init_65 : decode cX3_init 65 = .ok (.newarray .int, 2) := by decide +kernel
theorem dX3_init_67 : decode cX3_init 67 = .ok (.putfield 33, 3) := by decide +kernel
theorem dX3_init_70 : decode cX3_init 70 = .ok (.aload_n 0, 1) := by decide +kernel
theorem dX3_init_71 : decode cX3_init 71 = .ok (.bipush 32, 2) := by decide +kernel
theorem dX3_init_73 : decode cX3_init 73 = .ok (.newarray .int, 2) := by decide +kernel
theorem dX3_init_75 : decode cX3_init 75 = .ok (.putfield 36, 3) := by decide +kernel
theorem dX3_init_78 : decode cX3_init 78 = .ok (.aload_n 0, 1) := by decide +kernel
theorem dX3_init_79 : decode cX3_init 79 = .ok (.bipush 120, 2) := by decide +kernel
theorem dX3_init_81 : decode cX3_init 81 = .ok (.newarray .int, 2) := by decide +kernel
theorem dX3_init_83 : decode cX3_init 83 = .ok (.putfield 39, 3) := by decide +kernel
theorem dX3_init_86 : decode cX3_init 86 = .ok (.aload_n 0, 1) := by decide +kernel
theorem dX3_init_87 : decode cX3_init 87 = .ok (.bipush 120, 2) := by decide +kernel
theorem dX3_init_89 : decode cX3_init 89 = .ok (.newarray .int, 2) := by decide +kernel
theorem dX3_init_91 : decode cX3_init 91 = .ok (.putfield 42, 3) := by decide +kernel
theorem dX3_init_94 : decode cX3_init 94 = .ok (.aload_n 0, 1) := by decide +kernel
theorem dX3_init_95 : decode cX3_init 95 = .ok (.aload_n 1, 1) := by decide +kernel
theorem dX3_init_96 : decode cX3_init 96 = .ok (.putfield 45, 3) := by decide +kernel
theorem dX3_init_99 : decode cX3_init 99 = .ok (.aload_n 0, 1) := by decide +kernel
theorem dX3_init_100 : decode cX3_init 100 = .ok (.aload_n 2, 1) := by decide +kernel
theorem dX3_init_101 : decode cX3_init 101 = .ok (.putfield 49, 3) := by decide +kernel
theorem dX3_init_104 : decode cX3_init 104 = .ok (.aload_n 0, 1) := by decide +kernel
theorem dX3_init_105 : decode cX3_init 105 = .ok (.aload_n 3, 1) := by decide +kernel
theorem dX3_init_106 : decode cX3_init 106 = .ok (.putfield 53, 3) := by decide +kernel
theorem dX3_init_109 : decode cX3_init 109 = .ok (.return_, 1) := by decide +kernel
theorem dX3_see_0 : decode cX3_see 0 = .ok (.aload_n 0, 1) := by decide +kernel
theorem dX3_see_1 : decode cX3_see 1 = .ok (.iload_n 1, 1) := by decide +kernel
theorem dX3_see_2 : decode cX3_see 2 = .ok (.iload_n 2, 1) := by decide +kernel
theorem dX3_see_3 : decode cX3_see 3 = .ok (.invokevirtual 57, 3) := by decide +kernel
theorem dX3_see_6 : decode cX3_see 6 = .ok (.aload_n 0, 1) := by decide +kernel
theorem dX3_see_7 : decode cX3_see 7 = .ok (.iload_n 1, 1) := by decide +kernel
theorem dX3_see_8 : decode cX3_see 8 = .ok (.invokevirtual 61, 3) := by decide +kernel
theorem dX3_see_11 : decode cX3_see 11 = .ok (.aload_n 0, 1) := by decide +kernel
theorem dX3_see_12 : decode cX3_see 12 = .ok (.invokevirtual 65, 3) := by decide +kernel
theorem dX3_see_15 : decode cX3_see 15 = .ok (.aload_n 0, 1) := by decide +kernel
theorem dX3_see_16 : decode cX3_see 16 = .ok (.invokevirtual 68, 3) := by decide +kernel
theorem dX3_see_19 : decode cX3_see 19 = .ok (.aload_n 0, 1) := by decide +kernel
theorem dX3_see_20 : decode cX3_see 20 = .ok (.invokevirtual 71, 3) := by decide +kernel
theorem dX3_see_23 : decode cX3_see 23 = .ok (.aload_n 0, 1) := by decide +kernel
theorem dX3_see_24 : decode cX3_see 24 = .ok (.invokevirtual 74, 3) := by decide +kernel
theorem dX3_see_27 : decode cX3_see 27 = .ok (.aload_n 0, 1) := by decide +kernel
theorem dX3_see_28 : decode cX3_see 28 = .ok (.invokevirtual 77, 3) := by decide +kernel
theorem dX3_see_31 : decode cX3_see 31 = .ok (.return_, 1) := by decide +kernel
theorem dX3_sees_0 : decode cX3_sees 0 = .ok (.aload_n 0, 1) := by decide +kernel
theorem dX3_sees_1 : decode cX3_sees 1 = .ok (.getfield 80, 3) := by decide +kernel
theorem dX3_sees_4 : decode cX3_sees 4 = .ok (.iload_n 1, 1) := by decide +kernel
theorem dX3_sees_5 : decode cX3_sees 5 = .ok (.invokestatic 84, 3) := by decide +kernel
theorem dX3_sees_8 : decode cX3_sees 8 = .ok (.ireturn, 1) := by decide +kernel
theorem dX3_placeOf_0 : decode cX3_placeOf 0 = .ok (.iload_n 0, 1) := by decide +kernel
theorem dX3_placeOf_1 : decode cX3_placeOf 1 = .ok (.bipush 12, 2) := by decide +kernel
theorem dX3_placeOf_3 : decode cX3_placeOf 3 = .ok (.imul, 1) := by decide +kernel
theorem dX3_placeOf_4 : decode cX3_placeOf 4 = .ok (.iload_n 1, 1) := by decide +kernel
theorem dX3_placeOf_5 : decode cX3_placeOf 5 = .ok (.iadd, 1) := by decide +kernel
theorem dX3_placeOf_6 : decode cX3_placeOf 6 = .ok (.ireturn, 1) := by decide +kernel
theorem dX3_seeCases_0 : decode cX3_seeCases 0 = .ok (.aload_n 0, 1) := by decide +kernel
theorem dX3_seeCases_1 : decode cX3_seeCases 1 = .ok (.iconst 0, 1) := by decide +kernel
theorem dX3_seeCases_2 : decode cX3_seeCases 2 = .ok (.putfield 80, 3) := by decide +kernel
theorem dX3_seeCases_5 : decode cX3_seeCases 5 = .ok (.iconst 0, 1) := by decide +kernel
theorem dX3_seeCases_6 : decode cX3_seeCases 6 = .ok (.istore_n 3, 1) := by decide +kernel
theorem dX3_seeCases_7 : decode cX3_seeCases 7 = .ok (.iload_n 3, 1) := by decide +kernel
theorem dX3_seeCases_8 : decode cX3_seeCases 8 = .ok (.aload_n 0, 1) := by decide +kernel
theorem dX3_seeCases_9 : decode cX3_seeCases 9 = .ok (.getfield 49, 3) := by decide +kernel
theorem dX3_seeCases_12 : decode cX3_seeCases 12 = .ok (.getfield 88, 3) := by decide +kernel
theorem dX3_seeCases_15 : decode cX3_seeCases 15 = .ok (.if_icmp .ge 39, 3) := by decide +kernel
theorem dX3_seeCases_18 : decode cX3_seeCases 18 = .ok (.iload_n 3, 1) := by decide +kernel
theorem dX3_seeCases_19 : decode cX3_seeCases 19 = .ok (.iload_n 2, 1) := by decide +kernel
theorem dX3_seeCases_20 : decode cX3_seeCases 20 = .ok (.if_icmp .eq 28, 3) := by decide +kernel
theorem dX3_seeCases_23 : decode cX3_seeCases 23 = .ok (.aload_n 0, 1) := by decide +kernel
theorem dX3_seeCases_24 : decode cX3_seeCases 24 = .ok (.getfield 49, 3) := by decide +kernel
theorem dX3_seeCases_27 : decode cX3_seeCases 27 = .ok (.getfield 93, 3) := by decide +kernel
theorem dX3_seeCases_30 : decode cX3_seeCases 30 = .ok (.iload_n 3, 1) := by decide +kernel
theorem dX3_seeCases_31 : decode cX3_seeCases 31 = .ok (.iaload, 1) := by decide +kernel
theorem dX3_seeCases_32 : decode cX3_seeCases 32 = .ok (.iload_n 1, 1) := by decide +kernel
theorem dX3_seeCases_33 : decode cX3_seeCases 33 = .ok (.if_icmp .gt 15, 3) := by decide +kernel
theorem dX3_seeCases_36 : decode cX3_seeCases 36 = .ok (.aload_n 0, 1) := by decide +kernel
theorem dX3_seeCases_37 : decode cX3_seeCases 37 = .ok (.dup, 1) := by decide +kernel
theorem dX3_seeCases_38 : decode cX3_seeCases 38 = .ok (.getfield 80, 3) := by decide +kernel
theorem dX3_seeCases_41 : decode cX3_seeCases 41 = .ok (.iconst 1, 1) := by decide +kernel
theorem dX3_seeCases_42 : decode cX3_seeCases 42 = .ok (.iload_n 3, 1) := by decide +kernel
theorem dX3_seeCases_43 : decode cX3_seeCases 43 = .ok (.ishl, 1) := by decide +kernel
theorem dX3_seeCases_44 : decode cX3_seeCases 44 = .ok (.ior, 1) := by decide +kernel
theorem dX3_seeCases_45 : decode cX3_seeCases 45 = .ok (.putfield 80, 3) := by decide +kernel
theorem dX3_seeCases_48 : decode cX3_seeCases 48 = .ok (.iinc 3 1, 3) := by decide +kernel
theorem dX3_seeCases_51 : decode cX3_seeCases 51 = .ok (.goto (-44), 3) := by decide +kernel
theorem dX3_seeCases_54 : decode cX3_seeCases 54 = .ok (.return_, 1) := by decide +kernel
theorem dX3_seeNotes_0 : decode cX3_seeNotes 0 = .ok (.iconst 0, 1) := by decide +kernel
theorem dX3_seeNotes_1 : decode cX3_seeNotes 1 = .ok (.istore_n 2, 1) := by decide +kernel
theorem dX3_seeNotes_2 : decode cX3_seeNotes 2 = .ok (.iload_n 2, 1) := by decide +kernel
theorem dX3_seeNotes_3 : decode cX3_seeNotes 3 = .ok (.aload_n 0, 1) := by decide +kernel
theorem dX3_seeNotes_4 : decode cX3_seeNotes 4 = .ok (.getfield 53, 3) := by decide +kernel
theorem dX3_seeNotes_7 : decode cX3_seeNotes 7 = .ok (.getfield 96, 3) := by decide +kernel
theorem dX3_seeNotes_10 : decode cX3_seeNotes 10 = .ok (.if_icmp .ge 41, 3) := by decide +kernel
theorem dX3_seeNotes_13 : decode cX3_seeNotes 13 = .ok (.aload_n 0, 1) := by decide +kernel
theorem dX3_seeNotes_14 : decode cX3_seeNotes 14 = .ok (.getfield 42, 3) := by decide +kernel
theorem dX3_seeNotes_17 : decode cX3_seeNotes 17 = .ok (.iload_n 2, 1) := by decide +kernel
theorem dX3_seeNotes_18 : decode cX3_seeNotes 18 = .ok (.aload_n 0, 1) := by decide +kernel
theorem dX3_seeNotes_19 : decode cX3_seeNotes 19 = .ok (.getfield 53, 3) := by decide +kernel
theorem dX3_seeNotes_22 : decode cX3_seeNotes 22 = .ok (.getfield 99, 3) := by decide +kernel
theorem dX3_seeNotes_25 : decode cX3_seeNotes 25 = .ok (.iload_n 2, 1) := by decide +kernel
theorem dX3_seeNotes_26 : decode cX3_seeNotes 26 = .ok (.iaload, 1) := by decide +kernel
theorem dX3_seeNotes_27 : decode cX3_seeNotes 27 = .ok (.iload_n 1, 1) := by decide +kernel
theorem dX3_seeNotes_28 : decode cX3_seeNotes 28 = .ok (.if_icmp .gt 15, 3) := by decide +kernel
theorem dX3_seeNotes_31 : decode cX3_seeNotes 31 = .ok (.aload_n 0, 1) := by decide +kernel
theorem dX3_seeNotes_32 : decode cX3_seeNotes 32 = .ok (.iload_n 2, 1) := by decide +kernel
theorem dX3_seeNotes_33 : decode cX3_seeNotes 33 = .ok (.invokevirtual 100, 3) := by decide +kernel
theorem dX3_seeNotes_36 : decode cX3_seeNotes 36 = .ok (.ifCond .eq 7, 3) := by decide +kernel
theorem dX3_seeNotes_39 : decode cX3_seeNotes 39 = .ok (.iconst 1, 1) := by decide +kernel
theorem dX3_seeNotes_40 : decode cX3_seeNotes 40 = .ok (.goto 4, 3) := by decide +kernel
theorem dX3_seeNotes_43 : decode cX3_seeNotes 43 = .ok (.iconst 0, 1) := by decide +kernel
theorem dX3_seeNotes_44 : decode cX3_seeNotes 44 = .ok (.iastore, 1) := by decide +kernel
theorem dX3_seeNotes_45 : decode cX3_seeNotes 45 = .ok (.iinc 2 1, 3) := by decide +kernel
theorem dX3_seeNotes_48 : decode cX3_seeNotes 48 = .ok (.goto (-46), 3) := by decide +kernel
theorem dX3_seeNotes_51 : decode cX3_seeNotes 51 = .ok (.aload_n 0, 1) := by decide +kernel
theorem dX3_seeNotes_52 : decode cX3_seeNotes 52 = .ok (.getfield 53, 3) := by decide +kernel
theorem dX3_seeNotes_55 : decode cX3_seeNotes 55 = .ok (.getfield 96, 3) := by decide +kernel
theorem dX3_seeNotes_58 : decode cX3_seeNotes 58 = .ok (.iconst 1, 1) := by decide +kernel
theorem dX3_seeNotes_59 : decode cX3_seeNotes 59 = .ok (.isub, 1) := by decide +kernel
theorem dX3_seeNotes_60 : decode cX3_seeNotes 60 = .ok (.istore_n 2, 1) := by decide +kernel
theorem dX3_seeNotes_61 : decode cX3_seeNotes 61 = .ok (.iload_n 2, 1) := by decide +kernel
theorem dX3_seeNotes_62 : decode cX3_seeNotes 62 = .ok (.ifCond .lt 47, 3) := by decide +kernel
theorem dX3_seeNotes_65 : decode cX3_seeNotes 65 = .ok (.aload_n 0, 1) := by decide +kernel
theorem dX3_seeNotes_66 : decode cX3_seeNotes 66 = .ok (.getfield 42, 3) := by decide +kernel
theorem dX3_seeNotes_69 : decode cX3_seeNotes 69 = .ok (.iload_n 2, 1) := by decide +kernel
theorem dX3_seeNotes_70 : decode cX3_seeNotes 70 = .ok (.iaload, 1) := by decide +kernel
theorem dX3_seeNotes_71 : decode cX3_seeNotes 71 = .ok (.ifCond .eq 32, 3) := by decide +kernel
theorem dX3_seeNotes_74 : decode cX3_seeNotes 74 = .ok (.aload_n 0, 1) := by decide +kernel
theorem dX3_seeNotes_75 : decode cX3_seeNotes 75 = .ok (.getfield 53, 3) := by decide +kernel
theorem dX3_seeNotes_78 : decode cX3_seeNotes 78 = .ok (.getfield 104, 3) := by decide +kernel
theorem dX3_seeNotes_81 : decode cX3_seeNotes 81 = .ok (.iload_n 2, 1) := by decide +kernel
theorem dX3_seeNotes_82 : decode cX3_seeNotes 82 = .ok (.iaload, 1) := by decide +kernel
theorem dX3_seeNotes_83 : decode cX3_seeNotes 83 = .ok (.bipush 8, 2) := by decide +kernel
theorem dX3_seeNotes_85 : decode cX3_seeNotes 85 = .ok (.if_icmp .ne 18, 3) := by decide +kernel
theorem dX3_seeNotes_88 : decode cX3_seeNotes 88 = .ok (.aload_n 0, 1) := by decide +kernel
theorem dX3_seeNotes_89 : decode cX3_seeNotes 89 = .ok (.getfield 42, 3) := by decide +kernel
theorem dX3_seeNotes_92 : decode cX3_seeNotes 92 = .ok (.aload_n 0, 1) := by decide +kernel
theorem dX3_seeNotes_93 : decode cX3_seeNotes 93 = .ok (.getfield 53, 3) := by decide +kernel
theorem dX3_seeNotes_96 : decode cX3_seeNotes 96 = .ok (.getfield 107, 3) := by decide +kernel
theorem dX3_seeNotes_99 : decode cX3_seeNotes 99 = .ok (.iload_n 2, 1) := by decide +kernel
theorem dX3_seeNotes_100 : decode cX3_seeNotes 100 = .ok (.iaload, 1) := by decide +kernel
theorem dX3_seeNotes_101 : decode cX3_seeNotes 101 = .ok (.iconst 0, 1) := by decide +kernel
theorem dX3_seeNotes_102 : decode cX3_seeNotes 102 = .ok (.iastore, 1) := by decide +kernel
theorem dX3_seeNotes_103 : decode cX3_seeNotes 103 = .ok (.iinc 2 (-1), 3) := by decide +kernel
theorem dX3_seeNotes_106 : decode cX3_seeNotes 106 = .ok (.goto (-45), 3) := by decide +kernel
theorem dX3_seeNotes_109 : decode cX3_seeNotes 109 = .ok (.return_, 1) := by decide +kernel
theorem dX3_isOfSeenCases_0 : decode cX3_isOfSeenCases 0 = .ok (.aload_n 0, 1) := by decide +kernel
theorem dX3_isOfSeenCases_1 : decode cX3_isOfSeenCases 1 = .ok (.getfield 53, 3) := by decide +kernel
theorem dX3_isOfSeenCases_4 : decode cX3_isOfSeenCases 4 = .ok (.getfield 104, 3) := by decide +kernel
theorem dX3_isOfSeenCases_7 : decode cX3_isOfSeenCases 7 = .ok (.iload_n 1, 1) := by decide +kernel
theorem dX3_isOfSeenCases_8 : decode cX3_isOfSeenCases 8 = .ok (.iaload, 1) := by decide +kernel
theorem dX3_isOfSeenCases_9 : decode cX3_isOfSeenCases 9 = .ok (.istore_n 2, 1) := by decide +kernel
theorem dX3_isOfSeenCases_10 : decode cX3_isOfSeenCases 10 = .ok (.iload_n 2, 1) := by decide +kernel
theorem dX3_isOfSeenCases_11 : decode cX3_isOfSeenCases 11 = .ok (.iconst 4, 1) := by decide +kernel
theorem dX3_isOfSeenCases_12 : decode cX3_isOfSeenCases 12 = .ok (.if_icmp .le 5, 3) := by decide +kernel
theorem dX3_isOfSeenCases_15 : decode cX3_isOfSeenCases 15 = .ok (.iconst 1, 1) := by decide +kernel
theorem dX3_isOfSeenCases_16 : decode cX3_isOfSeenCases 16 = .ok (.ireturn, 1) := by decide +kernel
theorem dX3_isOfSeenCases_17 : decode cX3_isOfSeenCases 17 = .ok (.aload_n 0, 1) := by decide +kernel
theorem dX3_isOfSeenCases_18 : decode cX3_isOfSeenCases 18 = .ok (.aload_n 0, 1) := by decide +kernel
theorem dX3_isOfSeenCases_19 : decode cX3_isOfSeenCases 19 = .ok (.getfield 53, 3) := by decide +kernel
theorem dX3_isOfSeenCases_22 : decode cX3_isOfSeenCases 22 = .ok (.getfield 110, 3) := by decide +kernel
theorem dX3_isOfSeenCases_25 : decode cX3_isOfSeenCases 25 = .ok (.iload_n 1, 1) := by decide +kernel
theorem dX3_isOfSeenCases_26 : decode cX3_isOfSeenCases 26 = .ok (.iaload, 1) := by decide +kernel
theorem dX3_isOfSeenCases_27 : decode cX3_isOfSeenCases 27 = .ok (.invokevirtual 113, 3) := by decide +kernel
theorem dX3_isOfSeenCases_30 : decode cX3_isOfSeenCases 30 = .ok (.ifCond .eq 28, 3) := by decide +kernel
theorem dX3_isOfSeenCases_33 : decode cX3_isOfSeenCases 33 = .ok (.iload_n 2, 1) := by decide +kernel
theorem dX3_isOfSeenCases_34 : decode cX3_isOfSeenCases 34 = .ok (.iconst 1, 1) := by decide +kernel
theorem dX3_isOfSeenCases_35 : decode cX3_isOfSeenCases 35 = .ok (.if_icmp .le 19, 3) := by decide +kernel
theorem dX3_isOfSeenCases_38 : decode cX3_isOfSeenCases 38 = .ok (.aload_n 0, 1) := by decide +kernel
theorem dX3_isOfSeenCases_39 : decode cX3_isOfSeenCases 39 = .ok (.aload_n 0, 1) := by decide +kernel
theorem dX3_isOfSeenCases_40 : decode cX3_isOfSeenCases 40 = .ok (.getfield 53, 3) := by decide +kernel
theorem dX3_isOfSeenCases_43 : decode cX3_isOfSeenCases 43 = .ok (.getfield 107, 3) := by decide +kernel
theorem dX3_isOfSeenCases_46 : decode cX3_isOfSeenCases 46 = .ok (.iload_n 1, 1) := by decide +kernel
theorem dX3_isOfSeenCases_47 : decode cX3_isOfSeenCases 47 = .ok (.iaload, 1) := by decide +kernel
theorem dX3_isOfSeenCases_48 : decode cX3_isOfSeenCases 48 = .ok (.invokevirtual 113, 3) := by decide +kernel
theorem dX3_isOfSeenCases_51 : decode cX3_isOfSeenCases 51 = .ok (.ifCond .eq 7, 3) := by decide +kernel
theorem dX3_isOfSeenCases_54 : decode cX3_isOfSeenCases 54 = .ok (.iconst 1, 1) := by decide +kernel
theorem dX3_isOfSeenCases_55 : decode cX3_isOfSeenCases 55 = .ok (.goto 4, 3) := by decide +kernel
theorem dX3_isOfSeenCases_58 : decode cX3_isOfSeenCases 58 = .ok (.iconst 0, 1) := by decide +kernel
theorem dX3_isOfSeenCases_59 : decode cX3_isOfSeenCases 59 = .ok (.ireturn, 1) := by decide +kernel
theorem dX3_counts_0 : decode cX3_counts 0 = .ok (.aload_n 0, 1) := by decide +kernel
theorem dX3_counts_1 : decode cX3_counts 1 = .ok (.getfield 42, 3) := by decide +kernel
theorem dX3_counts_4 : decode cX3_counts 4 = .ok (.iload_n 1, 1) := by decide +kernel
theorem dX3_counts_5 : decode cX3_counts 5 = .ok (.iaload, 1) := by decide +kernel
theorem dX3_counts_6 : decode cX3_counts 6 = .ok (.ifCond .eq 20, 3) := by decide +kernel
theorem dX3_counts_9 : decode cX3_counts 9 = .ok (.aload_n 0, 1) := by decide +kernel
theorem dX3_counts_10 : decode cX3_counts 10 = .ok (.getfield 53, 3) := by decide +kernel
theorem dX3_counts_13 : decode cX3_counts 13 = .ok (.getfield 104, 3) := by decide +kernel
theorem dX3_counts_16 : decode cX3_counts 16 = .ok (.iload_n 1, 1) := by decide +kernel
theorem dX3_counts_17 : decode cX3_counts 17 = .ok (.iaload, 1) := by decide +kernel
theorem dX3_counts_18 : decode cX3_counts 18 = .ok (.iload_n 2, 1) := by decide +kernel
theorem dX3_counts_19 : decode cX3_counts 19 = .ok (.if_icmp .ne 7, 3) := by decide +kernel
theorem dX3_counts_22 : decode cX3_counts 22 = .ok (.iconst 1, 1) := by decide +kernel
theorem dX3_counts_23 : decode cX3_counts 23 = .ok (.goto 4, 3) := by decide +kernel
theorem dX3_counts_26 : decode cX3_counts 26 = .ok (.iconst 0, 1) := by decide +kernel
theorem dX3_counts_27 : decode cX3_counts 27 = .ok (.ireturn, 1) := by decide +kernel
theorem dX3_seeJoinings_0 : decode cX3_seeJoinings 0 = .ok (.iconst 0, 1) := by decide +kernel
theorem dX3_seeJoinings_1 : decode cX3_seeJoinings 1 = .ok (.istore_n 1, 1) := by decide +kernel
theorem dX3_seeJoinings_2 : decode cX3_seeJoinings 2 = .ok (.iload_n 1, 1) := by decide +kernel
theorem dX3_seeJoinings_3 : decode cX3_seeJoinings 3 = .ok (.aload_n 0, 1) := by decide +kernel
theorem dX3_seeJoinings_4 : decode cX3_seeJoinings 4 = .ok (.getfield 45, 3) := by decide +kernel
theorem dX3_seeJoinings_7 : decode cX3_seeJoinings 7 = .ok (.getfield 116, 3) := by decide +kernel
theorem dX3_seeJoinings_10 : decode cX3_seeJoinings 10 = .ok (.if_icmp .ge 16, 3) := by decide +kernel
theorem dX3_seeJoinings_13 : decode cX3_seeJoinings 13 = .ok (.aload_n 0, 1) := by decide +kernel
theorem dX3_seeJoinings_14 : decode cX3_seeJoinings 14 = .ok (.getfield 9, 3) := by decide +kernel
theorem dX3_seeJoinings_17 : decode cX3_seeJoinings 17 = .ok (.iload_n 1, 1) := by decide +kernel
theorem dX3_seeJoinings_18 : decode cX3_seeJoinings 18 = .ok (.iload_n 1, 1) := by decide +kernel
theorem dX3_seeJoinings_19 : decode cX3_seeJoinings 19 = .ok (.iastore, 1) := by decide +kernel
theorem dX3_seeJoinings_20 : decode cX3_seeJoinings 20 = .ok (.iinc 1 1, 3) := by decide +kernel
theorem dX3_seeJoinings_23 : decode cX3_seeJoinings 23 = .ok (.goto (-21), 3) := by decide +kernel
theorem dX3_seeJoinings_26 : decode cX3_seeJoinings 26 = .ok (.iconst 0, 1) := by decide +kernel
theorem dX3_seeJoinings_27 : decode cX3_seeJoinings 27 = .ok (.istore_n 1, 1) := by decide +kernel
theorem dX3_seeJoinings_28 : decode cX3_seeJoinings 28 = .ok (.iload_n 1, 1) := by decide +kernel
theorem dX3_seeJoinings_29 : decode cX3_seeJoinings 29 = .ok (.aload_n 0, 1) := by decide +kernel
theorem dX3_seeJoinings_30 : decode cX3_seeJoinings 30 = .ok (.getfield 53, 3) := by decide +kernel
theorem dX3_seeJoinings_33 : decode cX3_seeJoinings 33 = .ok (.getfield 96, 3) := by decide +kernel
theorem dX3_seeJoinings_36 : decode cX3_seeJoinings 36 = .ok (.if_icmp .ge 63, 3) := by decide +kernel
theorem dX3_seeJoinings_39 : decode cX3_seeJoinings 39 = .ok (.aload_n 0, 1) := by decide +kernel
theorem dX3_seeJoinings_40 : decode cX3_seeJoinings 40 = .ok (.iload_n 1, 1) := by decide +kernel
theorem dX3_seeJoinings_41 : decode cX3_seeJoinings 41 = .ok (.bipush 7, 2) := by decide +kernel
theorem dX3_seeJoinings_43 : decode cX3_seeJoinings 43 = .ok (.invokevirtual 119, 3) := by decide +kernel
theorem dX3_seeJoinings_46 : decode cX3_seeJoinings 46 = .ok (.ifCond .eq 47, 3) := by decide +kernel
theorem dX3_seeJoinings_49 : decode cX3_seeJoinings 49 = .ok (.aload_n 0, 1) := by decide +kernel
theorem dX3_seeJoinings_50 : decode cX3_seeJoinings 50 = .ok (.getfield 9, 3) := by decide +kernel
theorem dX3_seeJoinings_53 : decode cX3_seeJoinings 53 = .ok (.aload_n 0, 1) := by decide +kernel
theorem dX3_seeJoinings_54 : decode cX3_seeJoinings 54 = .ok (.getfield 53, 3) := by decide +kernel
theorem dX3_seeJoinings_57 : decode cX3_seeJoinings 57 = .ok (.getfield 122, 3) := by decide +kernel
theorem dX3_seeJoinings_60 : decode cX3_seeJoinings 60 = .ok (.iload_n 1, 1) := by decide +kernel
theorem dX3_seeJoinings_61 : decode cX3_seeJoinings 61 = .ok (.iaload, 1) := by decide +kernel
theorem dX3_seeJoinings_62 : decode cX3_seeJoinings 62 = .ok (.iaload, 1) := by decide +kernel
theorem dX3_seeJoinings_63 : decode cX3_seeJoinings 63 = .ok (.istore_n 2, 1) := by decide +kernel
theorem dX3_seeJoinings_64 : decode cX3_seeJoinings 64 = .ok (.aload_n 0, 1) := by decide +kernel
theorem dX3_seeJoinings_65 : decode cX3_seeJoinings 65 = .ok (.getfield 9, 3) := by decide +kernel
theorem dX3_seeJoinings_68 : decode cX3_seeJoinings 68 = .ok (.aload_n 0, 1) := by decide +kernel
theorem dX3_seeJoinings_69 : decode cX3_seeJoinings 69 = .ok (.getfield 53, 3) := by decide +kernel
theorem dX3_seeJoinings_72 : decode cX3_seeJoinings 72 = .ok (.getfield 107, 3) := by decide +kernel
theorem dX3_seeJoinings_75 : decode cX3_seeJoinings 75 = .ok (.iload_n 1, 1) := by decide +kernel
theorem dX3_seeJoinings_76 : decode cX3_seeJoinings 76 = .ok (.iaload, 1) := by decide +kernel
theorem dX3_seeJoinings_77 : decode cX3_seeJoinings 77 = .ok (.iaload, 1) := by decide +kernel
theorem dX3_seeJoinings_78 : decode cX3_seeJoinings 78 = .ok (.istore_n 3, 1) := by decide +kernel
theorem dX3_seeJoinings_79 : decode cX3_seeJoinings 79 = .ok (.aload_n 0, 1) := by decide +kernel
theorem dX3_seeJoinings_80 : decode cX3_seeJoinings 80 = .ok (.iload_n 2, 1) := by decide +kernel
theorem dX3_seeJoinings_81 : decode cX3_seeJoinings 81 = .ok (.iload_n 3, 1) := by decide +kernel
theorem dX3_seeJoinings_82 : decode cX3_seeJoinings 82 = .ok (.invokestatic 124, 3) := by decide +kernel
theorem dX3_seeJoinings_85 : decode cX3_seeJoinings 85 = .ok (.iload_n 2, 1) := by decide +kernel
theorem dX3_seeJoinings_86 : decode cX3_seeJoinings 86 = .ok (.iload_n 3, 1) := by decide +kernel
theorem dX3_seeJoinings_87 : decode cX3_seeJoinings 87 = .ok (.invokestatic 130, 3) := by decide +kernel
theorem dX3_seeJoinings_90 : decode cX3_seeJoinings 90 = .ok (.invokevirtual 133, 3) := by decide +kernel
theorem dX3_seeJoinings_93 : decode cX3_seeJoinings 93 = .ok (.iinc 1 1, 3) := by decide +kernel
theorem dX3_seeJoinings_96 : decode cX3_seeJoinings 96 = .ok (.goto (-68), 3) := by decide +kernel
theorem dX3_seeJoinings_99 : decode cX3_seeJoinings 99 = .ok (.return_, 1) := by decide +kernel
theorem dX3_rename_0 : decode cX3_rename 0 = .ok (.iconst 0, 1) := by decide +kernel
theorem dX3_rename_1 : decode cX3_rename 1 = .ok (.istore_n 3, 1) := by decide +kernel
theorem dX3_rename_2 : decode cX3_rename 2 = .ok (.iload_n 3, 1) := by decide +kernel
theorem dX3_rename_3 : decode cX3_rename 3 = .ok (.aload_n 0, 1) := by decide +kernel
theorem dX3_rename_4 : decode cX3_rename 4 = .ok (.getfield 45, 3) := by decide +kernel
theorem dX3_rename_7 : decode cX3_rename 7 = .ok (.getfield 116, 3) := by decide +kernel
theorem dX3_rename_10 : decode cX3_rename 10 = .ok (.if_icmp .ge 26, 3) := by decide +kernel
theorem dX3_rename_13 : decode cX3_rename 13 = .ok (.aload_n 0, 1) := by decide +kernel
theorem dX3_rename_14 : decode cX3_rename 14 = .ok (.getfield 9, 3) := by decide +kernel
theorem dX3_rename_17 : decode cX3_rename 17 = .ok (.iload_n 3, 1) := by decide +kernel
theorem dX3_rename_18 : decode cX3_rename 18 = .ok (.iaload, 1) := by decide +kernel
theorem dX3_rename_19 : decode cX3_rename 19 = .ok (.iload_n 1, 1) := by decide +kernel
theorem dX3_rename_20 : decode cX3_rename 20 = .ok (.if_icmp .ne 10, 3) := by decide +kernel
theorem dX3_rename_23 : decode cX3_rename 23 = .ok (.aload_n 0, 1) := by decide +kernel
theorem dX3_rename_24 : decode cX3_rename 24 = .ok (.getfield 9, 3) := by decide +kernel
theorem dX3_rename_27 : decode cX3_rename 27 = .ok (.iload_n 3, 1) := by decide +kernel
theorem dX3_rename_28 : decode cX3_rename 28 = .ok (.iload_n 2, 1) := by decide +kernel
theorem dX3_rename_29 : decode cX3_rename 29 = .ok (.iastore, 1) := by decide +kernel
theorem dX3_rename_30 : decode cX3_rename 30 = .ok (.iinc 3 1, 3) := by decide +kernel
theorem dX3_rename_33 : decode cX3_rename 33 = .ok (.goto (-31), 3) := by decide +kernel
theorem dX3_rename_36 : decode cX3_rename 36 = .ok (.return_, 1) := by decide +kernel
theorem dX3_seeOpposed_0 : decode cX3_seeOpposed 0 = .ok (.aload_n 0, 1) := by decide +kernel
theorem dX3_seeOpposed_1 : decode cX3_seeOpposed 1 = .ok (.getfield 15, 3) := by decide +kernel
theorem dX3_seeOpposed_4 : decode cX3_seeOpposed 4 = .ok (.iconst 0, 1) := by decide +kernel
theorem dX3_seeOpposed_5 : decode cX3_seeOpposed 5 = .ok (.invokestatic 136, 3) := by decide +kernel
theorem dX3_seeOpposed_8 : decode cX3_seeOpposed 8 = .ok (.iconst 0, 1) := by decide +kernel
theorem dX3_seeOpposed_9 : decode cX3_seeOpposed 9 = .ok (.istore_n 1, 1) := by decide +kernel
theorem dX3_seeOpposed_10 : decode cX3_seeOpposed 10 = .ok (.iload_n 1, 1) := by decide +kernel
theorem dX3_seeOpposed_11 : decode cX3_seeOpposed 11 = .ok (.aload_n 0, 1) := by decide +kernel
theorem dX3_seeOpposed_12 : decode cX3_seeOpposed 12 = .ok (.getfield 45, 3) := by decide +kernel
theorem dX3_seeOpposed_15 : decode cX3_seeOpposed 15 = .ok (.getfield 116, 3) := by decide +kernel
theorem dX3_seeOpposed_18 : decode cX3_seeOpposed 18 = .ok (.if_icmp .ge 77, 3) := by decide +kernel
theorem dX3_seeOpposed_21 : decode cX3_seeOpposed 21 = .ok (.iconst 0, 1) := by decide +kernel
theorem dX3_seeOpposed_22 : decode cX3_seeOpposed 22 = .ok (.istore_n 2, 1) := by decide +kernel
theorem dX3_seeOpposed_23 : decode cX3_seeOpposed 23 = .ok (.iload_n 2, 1) := by decide +kernel
theorem dX3_seeOpposed_24 : decode cX3_seeOpposed 24 = .ok (.aload_n 0, 1) := by decide +kernel
theorem dX3_seeOpposed_25 : decode cX3_seeOpposed 25 = .ok (.getfield 45, 3) := by decide +kernel
theorem dX3_seeOpposed_28 : decode cX3_seeOpposed 28 = .ok (.getfield 116, 3) := by decide +kernel
theorem dX3_seeOpposed_31 : decode cX3_seeOpposed 31 = .ok (.if_icmp .ge 58, 3) := by decide +kernel
theorem dX3_seeOpposed_34 : decode cX3_seeOpposed 34 = .ok (.aload_n 0, 1) := by decide +kernel
theorem dX3_seeOpposed_35 : decode cX3_seeOpposed 35 = .ok (.getfield 45, 3) := by decide +kernel
theorem dX3_seeOpposed_38 : decode cX3_seeOpposed 38 = .ok (.iload_n 1, 1) := by decide +kernel
theorem dX3_seeOpposed_39 : decode cX3_seeOpposed 39 = .ok (.iload_n 2, 1) := by decide +kernel
theorem dX3_seeOpposed_40 : decode cX3_seeOpposed 40 = .ok (.invokevirtual 142, 3) := by decide +kernel
theorem dX3_seeOpposed_43 : decode cX3_seeOpposed 43 = .ok (.ifCond .eq 40, 3) := by decide +kernel
theorem dX3_seeOpposed_46 : decode cX3_seeOpposed 46 = .ok (.aload_n 0, 1) := by decide +kernel
theorem dX3_seeOpposed_47 : decode cX3_seeOpposed 47 = .ok (.getfield 9, 3) := by decide +kernel
theorem dX3_seeOpposed_50 : decode cX3_seeOpposed 50 = .ok (.iload_n 1, 1) := by decide +kernel
theorem dX3_seeOpposed_51 : decode cX3_seeOpposed 51 = .ok (.iaload, 1) := by decide +kernel
theorem dX3_seeOpposed_52 : decode cX3_seeOpposed 52 = .ok (.aload_n 0, 1) := by decide +kernel
theorem dX3_seeOpposed_53 : decode cX3_seeOpposed 53 = .ok (.getfield 9, 3) := by decide +kernel
theorem dX3_seeOpposed_56 : decode cX3_seeOpposed 56 = .ok (.iload_n 2, 1) := by decide +kernel
theorem dX3_seeOpposed_57 : decode cX3_seeOpposed 57 = .ok (.iaload, 1) := by decide +kernel
theorem dX3_seeOpposed_58 : decode cX3_seeOpposed 58 = .ok (.if_icmp .eq 25, 3) := by decide +kernel
theorem dX3_seeOpposed_61 : decode cX3_seeOpposed 61 = .ok (.aload_n 0, 1) := by decide +kernel
theorem dX3_seeOpposed_62 : decode cX3_seeOpposed 62 = .ok (.getfield 15, 3) := by decide +kernel
theorem dX3_seeOpposed_65 : decode cX3_seeOpposed 65 = .ok (.aload_n 0, 1) := by decide +kernel
theorem dX3_seeOpposed_66 : decode cX3_seeOpposed 66 = .ok (.getfield 9, 3) := by decide +kernel
theorem dX3_seeOpposed_69 : decode cX3_seeOpposed 69 = .ok (.iload_n 1, 1) := by decide +kernel
theorem dX3_seeOpposed_70 : decode cX3_seeOpposed 70 = .ok (.iaload, 1) := by decide +kernel
theorem dX3_seeOpposed_71 : decode cX3_seeOpposed 71 = .ok (.dup2, 1) := by decide +kernel
theorem dX3_seeOpposed_72 : decode cX3_seeOpposed 72 = .ok (.iaload, 1) := by decide +kernel
theorem dX3_seeOpposed_73 : decode cX3_seeOpposed 73 = .ok (.iconst 1, 1) := by decide +kernel
theorem dX3_seeOpposed_74 : decode cX3_seeOpposed 74 = .ok (.aload_n 0, 1) := by decide +kernel
theorem dX3_seeOpposed_75 : decode cX3_seeOpposed 75 = .ok (.getfield 9, 3) := by decide +kernel
theorem dX3_seeOpposed_78 : decode cX3_seeOpposed 78 = .ok (.iload_n 2, 1) := by decide +kernel
theorem dX3_seeOpposed_79 : decode cX3_seeOpposed 79 = .ok (.iaload, 1) := by decide +kernel
theorem dX3_seeOpposed_80 : decode cX3_seeOpposed 80 = .ok (.ishl, 1) := by decide +kernel
theorem dX3_seeOpposed_81 : decode cX3_seeOpposed 81 = .ok (.ior, 1) := by decide +kernel
theorem dX3_seeOpposed_82 : decode cX3_seeOpposed 82 = .ok (.iastore, 1) := by decide +kernel
theorem dX3_seeOpposed_83 : decode cX3_seeOpposed 83 = .ok (.iinc 2 1, 3) := by decide +kernel
theorem dX3_seeOpposed_86 : decode cX3_seeOpposed 86 = .ok (.goto (-63), 3) := by decide +kernel
theorem dX3_seeOpposed_89 : decode cX3_seeOpposed 89 = .ok (.iinc 1 1, 3) := by decide +kernel
theorem dX3_seeOpposed_92 : decode cX3_seeOpposed 92 = .ok (.goto (-82), 3) := by decide +kernel
theorem dX3_seeOpposed_95 : decode cX3_seeOpposed 95 = .ok (.return_, 1) := by decide +kernel
theorem dX3_seeOpinions_0 : decode cX3_seeOpinions 0 = .ok (.aload_n 0, 1) := by decide +kernel
theorem dX3_seeOpinions_1 : decode cX3_seeOpinions 1 = .ok (.getfield 27, 3) := by decide +kernel
theorem dX3_seeOpinions_4 : decode cX3_seeOpinions 4 = .ok (.iconst 0, 1) := by decide +kernel
theorem dX3_seeOpinions_5 : decode cX3_seeOpinions 5 = .ok (.invokestatic 136, 3) := by decide +kernel
theorem dX3_seeOpinions_8 : decode cX3_seeOpinions 8 = .ok (.aload_n 0, 1) := by decide +kernel
theorem dX3_seeOpinions_9 : decode cX3_seeOpinions 9 = .ok (.getfield 36, 3) := by decide +kernel
theorem dX3_seeOpinions_12 : decode cX3_seeOpinions 12 = .ok (.iconst 0, 1) := by decide +kernel
theorem dX3_seeOpinions_13 : decode cX3_seeOpinions 13 = .ok (.invokestatic 136, 3) := by decide +kernel
theorem dX3_seeOpinions_16 : decode cX3_seeOpinions 16 = .ok (.iconst 0, 1) := by decide +kernel
theorem dX3_seeOpinions_17 : decode cX3_seeOpinions 17 = .ok (.istore_n 1, 1) := by decide +kernel
theorem dX3_seeOpinions_18 : decode cX3_seeOpinions 18 = .ok (.iload_n 1, 1) := by decide +kernel
theorem dX3_seeOpinions_19 : decode cX3_seeOpinions 19 = .ok (.aload_n 0, 1) := by decide +kernel
theorem dX3_seeOpinions_20 : decode cX3_seeOpinions 20 = .ok (.getfield 53, 3) := by decide +kernel
theorem dX3_seeOpinions_23 : decode cX3_seeOpinions 23 = .ok (.getfield 96, 3) := by decide +kernel
theorem dX3_seeOpinions_26 : decode cX3_seeOpinions 26 = .ok (.if_icmp .ge 35, 3) := by decide +kernel
theorem dX3_seeOpinions_29 : decode cX3_seeOpinions 29 = .ok (.aload_n 0, 1) := by decide +kernel
theorem dX3_seeOpinions_30 : decode cX3_seeOpinions 30 = .ok (.iload_n 1, 1) := by decide +kernel
theorem dX3_seeOpinions_31 : decode cX3_seeOpinions 31 = .ok (.invokevirtual 145, 3) := by decide +kernel
theorem dX3_seeOpinions_34 : decode cX3_seeOpinions 34 = .ok (.ifCond .eq 21, 3) := by decide +kernel
theorem dX3_seeOpinions_37 : decode cX3_seeOpinions 37 = .ok (.aload_n 0, 1) := by decide +kernel
theorem dX3_seeOpinions_38 : decode cX3_seeOpinions 38 = .ok (.getfield 36, 3) := by decide +kernel
theorem dX3_seeOpinions_41 : decode cX3_seeOpinions 41 = .ok (.aload_n 0, 1) := by decide +kernel
theorem dX3_seeOpinions_42 : decode cX3_seeOpinions 42 = .ok (.getfield 53, 3) := by decide +kernel
theorem dX3_seeOpinions_45 : decode cX3_seeOpinions 45 = .ok (.getfield 110, 3) := by decide +kernel
theorem dX3_seeOpinions_48 : decode cX3_seeOpinions 48 = .ok (.iload_n 1, 1) := by decide +kernel
theorem dX3_seeOpinions_49 : decode cX3_seeOpinions 49 = .ok (.iaload, 1) := by decide +kernel
theorem dX3_seeOpinions_50 : decode cX3_seeOpinions 50 = .ok (.dup2, 1) := by decide +kernel
theorem dX3_seeOpinions_51 : decode cX3_seeOpinions 51 = .ok (.iaload, 1) := by decide +kernel
theorem dX3_seeOpinions_52 : decode cX3_seeOpinions 52 = .ok (.iconst 1, 1) := by decide +kernel
theorem dX3_seeOpinions_53 : decode cX3_seeOpinions 53 = .ok (.iadd, 1) := by decide +kernel
theorem dX3_seeOpinions_54 : decode cX3_seeOpinions 54 = .ok (.iastore, 1) := by decide +kernel
theorem dX3_seeOpinions_55 : decode cX3_seeOpinions 55 = .ok (.iinc 1 1, 3) := by decide +kernel
theorem dX3_seeOpinions_58 : decode cX3_seeOpinions 58 = .ok (.goto (-40), 3) := by decide +kernel
theorem dX3_seeOpinions_61 : decode cX3_seeOpinions 61 = .ok (.iconst 0, 1) := by decide +kernel
theorem dX3_seeOpinions_62 : decode cX3_seeOpinions 62 = .ok (.istore_n 1, 1) := by decide +kernel
theorem dX3_seeOpinions_63 : decode cX3_seeOpinions 63 = .ok (.iconst 0, 1) := by decide +kernel
theorem dX3_seeOpinions_64 : decode cX3_seeOpinions 64 = .ok (.istore_n 2, 1) := by decide +kernel
theorem dX3_seeOpinions_65 : decode cX3_seeOpinions 65 = .ok (.iload_n 2, 1) := by decide +kernel
theorem dX3_seeOpinions_66 : decode cX3_seeOpinions 66 = .ok (.aload_n 0, 1) := by decide +kernel
theorem dX3_seeOpinions_67 : decode cX3_seeOpinions 67 = .ok (.getfield 49, 3) := by decide +kernel
theorem dX3_seeOpinions_70 : decode cX3_seeOpinions 70 = .ok (.getfield 88, 3) := by decide +kernel
theorem dX3_seeOpinions_73 : decode cX3_seeOpinions 73 = .ok (.if_icmp .ge 37, 3) := by decide +kernel
theorem dX3_seeOpinions_76 : decode cX3_seeOpinions 76 = .ok (.aload_n 0, 1) := by decide +kernel
theorem dX3_seeOpinions_77 : decode cX3_seeOpinions 77 = .ok (.getfield 33, 3) := by decide +kernel
theorem dX3_seeOpinions_80 : decode cX3_seeOpinions 80 = .ok (.iload_n 2, 1) := by decide +kernel
theorem dX3_seeOpinions_81 : decode cX3_seeOpinions 81 = .ok (.iload_n 1, 1) := by decide +kernel
theorem dX3_seeOpinions_82 : decode cX3_seeOpinions 82 = .ok (.iastore, 1) := by decide +kernel
theorem dX3_seeOpinions_83 : decode cX3_seeOpinions 83 = .ok (.iload_n 1, 1) := by decide +kernel
theorem dX3_seeOpinions_84 : decode cX3_seeOpinions 84 = .ok (.aload_n 0, 1) := by decide +kernel
theorem dX3_seeOpinions_85 : decode cX3_seeOpinions 85 = .ok (.getfield 36, 3) := by decide +kernel
theorem dX3_seeOpinions_88 : decode cX3_seeOpinions 88 = .ok (.iload_n 2, 1) := by decide +kernel
theorem dX3_seeOpinions_89 : decode cX3_seeOpinions 89 = .ok (.iaload, 1) := by decide +kernel
theorem dX3_seeOpinions_90 : decode cX3_seeOpinions 90 = .ok (.iadd, 1) := by decide +kernel
theorem dX3_seeOpinions_91 : decode cX3_seeOpinions 91 = .ok (.istore_n 1, 1) := by decide +kernel
theorem dX3_seeOpinions_92 : decode cX3_seeOpinions 92 = .ok (.aload_n 0, 1) := by decide +kernel
theorem dX3_seeOpinions_93 : decode cX3_seeOpinions 93 = .ok (.getfield 36, 3) := by decide +kernel
theorem dX3_seeOpinions_96 : decode cX3_seeOpinions 96 = .ok (.iload_n 2, 1) := by decide +kernel
theorem dX3_seeOpinions_97 : decode cX3_seeOpinions 97 = .ok (.aload_n 0, 1) := by decide +kernel
theorem dX3_seeOpinions_98 : decode cX3_seeOpinions 98 = .ok (.getfield 33, 3) := by decide +kernel
theorem dX3_seeOpinions_101 : decode cX3_seeOpinions 101 = .ok (.iload_n 2, 1) := by decide +kernel
theorem dX3_seeOpinions_102 : decode cX3_seeOpinions 102 = .ok (.iaload, 1) := by decide +kernel
theorem dX3_seeOpinions_103 : decode cX3_seeOpinions 103 = .ok (.iastore, 1) := by decide +kernel
theorem dX3_seeOpinions_104 : decode cX3_seeOpinions 104 = .ok (.iinc 2 1, 3) := by decide +kernel
theorem dX3_seeOpinions_107 : decode cX3_seeOpinions 107 = .ok (.goto (-42), 3) := by decide +kernel
theorem dX3_seeOpinions_110 : decode cX3_seeOpinions 110 = .ok (.iconst 0, 1) := by decide +kernel
theorem dX3_seeOpinions_111 : decode cX3_seeOpinions 111 = .ok (.istore_n 2, 1) := by decide +kernel
theorem dX3_seeOpinions_112 : decode cX3_seeOpinions 112 = .ok (.iload_n 2, 1) := by decide +kernel
theorem dX3_seeOpinions_113 : decode cX3_seeOpinions 113 = .ok (.aload_n 0, 1) := by decide +kernel
theorem dX3_seeOpinions_114 : decode cX3_seeOpinions 114 = .ok (.getfield 53, 3) := by decide +kernel
theorem dX3_seeOpinions_117 : decode cX3_seeOpinions 117 = .ok (.getfield 96, 3) := by decide +kernel
theorem dX3_seeOpinions_120 : decode cX3_seeOpinions 120 = .ok (.if_icmp .ge 74, 3) := by decide +kernel
theorem dX3_seeOpinions_123 : decode cX3_seeOpinions 123 = .ok (.aload_n 0, 1) := by decide +kernel
theorem dX3_seeOpinions_124 : decode cX3_seeOpinions 124 = .ok (.iload_n 2, 1) := by decide +kernel
theorem dX3_seeOpinions_125 : decode cX3_seeOpinions 125 = .ok (.invokevirtual 145, 3) := by decide +kernel
theorem dX3_seeOpinions_128 : decode cX3_seeOpinions 128 = .ok (.ifCond .eq 60, 3) := by decide +kernel
theorem dX3_seeOpinions_131 : decode cX3_seeOpinions 131 = .ok (.aload_n 0, 1) := by decide +kernel
theorem dX3_seeOpinions_132 : decode cX3_seeOpinions 132 = .ok (.getfield 53, 3) := by decide +kernel
theorem dX3_seeOpinions_135 : decode cX3_seeOpinions 135 = .ok (.getfield 110, 3) := by decide +kernel
theorem dX3_seeOpinions_138 : decode cX3_seeOpinions 138 = .ok (.iload_n 2, 1) := by decide +kernel
theorem dX3_seeOpinions_139 : decode cX3_seeOpinions 139 = .ok (.iaload, 1) := by decide +kernel
theorem dX3_seeOpinions_140 : decode cX3_seeOpinions 140 = .ok (.istore_n 3, 1) := by decide +kernel
theorem dX3_seeOpinions_141 : decode cX3_seeOpinions 141 = .ok (.aload_n 0, 1) := by decide +kernel
theorem dX3_seeOpinions_142 : decode cX3_seeOpinions 142 = .ok (.getfield 27, 3) := by decide +kernel
theorem dX3_seeOpinions_145 : decode cX3_seeOpinions 145 = .ok (.aload_n 0, 1) := by decide +kernel
theorem dX3_seeOpinions_146 : decode cX3_seeOpinions 146 = .ok (.getfield 9, 3) := by decide +kernel
theorem dX3_seeOpinions_149 : decode cX3_seeOpinions 149 = .ok (.aload_n 0, 1) := by decide +kernel
theorem dX3_seeOpinions_150 : decode cX3_seeOpinions 150 = .ok (.getfield 53, 3) := by decide +kernel
theorem dX3_seeOpinions_153 : decode cX3_seeOpinions 153 = .ok (.getfield 122, 3) := by decide +kernel
theorem dX3_seeOpinions_156 : decode cX3_seeOpinions 156 = .ok (.iload_n 2, 1) := by decide +kernel
theorem dX3_seeOpinions_157 : decode cX3_seeOpinions 157 = .ok (.iaload, 1) := by decide +kernel
theorem dX3_seeOpinions_158 : decode cX3_seeOpinions 158 = .ok (.iaload, 1) := by decide +kernel
theorem dX3_seeOpinions_159 : decode cX3_seeOpinions 159 = .ok (.dup2, 1) := by decide +kernel
theorem dX3_seeOpinions_160 : decode cX3_seeOpinions 160 = .ok (.iaload, 1) := by decide +kernel
theorem dX3_seeOpinions_161 : decode cX3_seeOpinions 161 = .ok (.iconst 1, 1) := by decide +kernel
theorem dX3_seeOpinions_162 : decode cX3_seeOpinions 162 = .ok (.iload_n 3, 1) := by decide +kernel
theorem dX3_seeOpinions_163 : decode cX3_seeOpinions 163 = .ok (.ishl, 1) := by decide +kernel
theorem dX3_seeOpinions_164 : decode cX3_seeOpinions 164 = .ok (.ior, 1) := by decide +kernel
theorem dX3_seeOpinions_165 : decode cX3_seeOpinions 165 = .ok (.iastore, 1) := by decide +kernel
theorem dX3_seeOpinions_166 : decode cX3_seeOpinions 166 = .ok (.aload_n 0, 1) := by decide +kernel
theorem dX3_seeOpinions_167 : decode cX3_seeOpinions 167 = .ok (.getfield 30, 3) := by decide +kernel
theorem dX3_seeOpinions_170 : decode cX3_seeOpinions 170 = .ok (.aload_n 0, 1) := by decide +kernel
theorem dX3_seeOpinions_171 : decode cX3_seeOpinions 171 = .ok (.getfield 36, 3) := by decide +kernel
theorem dX3_seeOpinions_174 : decode cX3_seeOpinions 174 = .ok (.iload_n 3, 1) := by decide +kernel
theorem dX3_seeOpinions_175 : decode cX3_seeOpinions 175 = .ok (.iaload, 1) := by decide +kernel
theorem dX3_seeOpinions_176 : decode cX3_seeOpinions 176 = .ok (.iload_n 2, 1) := by decide +kernel
theorem dX3_seeOpinions_177 : decode cX3_seeOpinions 177 = .ok (.iastore, 1) := by decide +kernel
theorem dX3_seeOpinions_178 : decode cX3_seeOpinions 178 = .ok (.aload_n 0, 1) := by decide +kernel
theorem dX3_seeOpinions_179 : decode cX3_seeOpinions 179 = .ok (.getfield 36, 3) := by decide +kernel
theorem dX3_seeOpinions_182 : decode cX3_seeOpinions 182 = .ok (.iload_n 3, 1) := by decide +kernel
theorem dX3_seeOpinions_183 : decode cX3_seeOpinions 183 = .ok (.dup2, 1) := by decide +kernel
theorem dX3_seeOpinions_184 : decode cX3_seeOpinions 184 = .ok (.iaload, 1) := by decide +kernel
theorem dX3_seeOpinions_185 : decode cX3_seeOpinions 185 = .ok (.iconst 1, 1) := by decide +kernel
theorem dX3_seeOpinions_186 : decode cX3_seeOpinions 186 = .ok (.iadd, 1) := by decide +kernel
theorem dX3_seeOpinions_187 : decode cX3_seeOpinions 187 = .ok (.iastore, 1) := by decide +kernel
theorem dX3_seeOpinions_188 : decode cX3_seeOpinions 188 = .ok (.iinc 2 1, 3) := by decide +kernel
theorem dX3_seeOpinions_191 : decode cX3_seeOpinions 191 = .ok (.goto (-79), 3) := by decide +kernel
theorem dX3_seeOpinions_194 : decode cX3_seeOpinions 194 = .ok (.return_, 1) := by decide +kernel
theorem dX3_isOpinion_0 : decode cX3_isOpinion 0 = .ok (.aload_n 0, 1) := by decide +kernel
theorem dX3_isOpinion_1 : decode cX3_isOpinion 1 = .ok (.iload_n 1, 1) := by decide +kernel
theorem dX3_isOpinion_2 : decode cX3_isOpinion 2 = .ok (.iconst 0, 1) := by decide +kernel
theorem dX3_isOpinion_3 : decode cX3_isOpinion 3 = .ok (.invokevirtual 119, 3) := by decide +kernel
theorem dX3_isOpinion_6 : decode cX3_isOpinion 6 = .ok (.ifCond .ne 12, 3) := by decide +kernel
theorem dX3_isOpinion_9 : decode cX3_isOpinion 9 = .ok (.aload_n 0, 1) := by decide +kernel
theorem dX3_isOpinion_10 : decode cX3_isOpinion 10 = .ok (.iload_n 1, 1) := by decide +kernel
theorem dX3_isOpinion_11 : decode cX3_isOpinion 11 = .ok (.iconst 1, 1) := by decide +kernel
theorem dX3_isOpinion_12 : decode cX3_isOpinion 12 = .ok (.invokevirtual 119, 3) := by decide +kernel
theorem dX3_isOpinion_15 : decode cX3_isOpinion 15 = .ok (.ifCond .eq 7, 3) := by decide +kernel
theorem dX3_isOpinion_18 : decode cX3_isOpinion 18 = .ok (.iconst 1, 1) := by decide +kernel
theorem dX3_isOpinion_19 : decode cX3_isOpinion 19 = .ok (.goto 4, 3) := by decide +kernel
theorem dX3_isOpinion_22 : decode cX3_isOpinion 22 = .ok (.iconst 0, 1) := by decide +kernel
theorem dX3_isOpinion_23 : decode cX3_isOpinion 23 = .ok (.ireturn, 1) := by decide +kernel
theorem dX3_seeTreatments_0 : decode cX3_seeTreatments 0 = .ok (.aload_n 0, 1) := by decide +kernel
theorem dX3_seeTreatments_1 : decode cX3_seeTreatments 1 = .ok (.getfield 18, 3) := by decide +kernel
theorem dX3_seeTreatments_4 : decode cX3_seeTreatments 4 = .ok (.iconst 0, 1) := by decide +kernel
theorem dX3_seeTreatments_5 : decode cX3_seeTreatments 5 = .ok (.invokestatic 136, 3) := by decide +kernel
theorem dX3_seeTreatments_8 : decode cX3_seeTreatments 8 = .ok (.aload_n 0, 1) := by decide +kernel
theorem dX3_seeTreatments_9 : decode cX3_seeTreatments 9 = .ok (.getfield 21, 3) := by decide +kernel
theorem dX3_seeTreatments_12 : decode cX3_seeTreatments 12 = .ok (.iconst 0, 1) := by decide +kernel
theorem dX3_seeTreatments_13 : decode cX3_seeTreatments 13 = .ok (.invokestatic 136, 3) := by decide +kernel
theorem dX3_seeTreatments_16 : decode cX3_seeTreatments 16 = .ok (.aload_n 0, 1) := by decide +kernel
theorem dX3_seeTreatments_17 : decode cX3_seeTreatments 17 = .ok (.getfield 24, 3) := by decide +kernel
theorem dX3_seeTreatments_20 : decode cX3_seeTreatments 20 = .ok (.iconst 0, 1) := by decide +kernel
theorem dX3_seeTreatments_21 : decode cX3_seeTreatments 21 = .ok (.invokestatic 136, 3) := by decide +kernel
theorem dX3_seeTreatments_24 : decode cX3_seeTreatments 24 = .ok (.iconst 0, 1) := by decide +kernel
theorem dX3_seeTreatments_25 : decode cX3_seeTreatments 25 = .ok (.istore_n 1, 1) := by decide +kernel
theorem dX3_seeTreatments_26 : decode cX3_seeTreatments 26 = .ok (.iload_n 1, 1) := by decide +kernel
theorem dX3_seeTreatments_27 : decode cX3_seeTreatments 27 = .ok (.aload_n 0, 1) := by decide +kernel
theorem dX3_seeTreatments_28 : decode cX3_seeTreatments 28 = .ok (.getfield 53, 3) := by decide +kernel
theorem dX3_seeTreatments_31 : decode cX3_seeTreatments 31 = .ok (.getfield 96, 3) := by decide +kernel
theorem dX3_seeTreatments_34 : decode cX3_seeTreatments 34 = .ok (.if_icmp .ge 160, 3) := by decide +kernel
theorem dX3_seeTreatments_37 : decode cX3_seeTreatments 37 = .ok (.aload_n 0, 1) := by decide +kernel
theorem dX3_seeTreatments_38 : decode cX3_seeTreatments 38 = .ok (.iload_n 1, 1) := by decide +kernel
theorem dX3_seeTreatments_39 : decode cX3_seeTreatments 39 = .ok (.iconst 4, 1) := by decide +kernel
theorem dX3_seeTreatments_40 : decode cX3_seeTreatments 40 = .ok (.invokevirtual 119, 3) := by decide +kernel
theorem dX3_seeTreatments_43 : decode cX3_seeTreatments 43 = .ok (.ifCond .eq 34, 3) := by decide +kernel
theorem dX3_seeTreatments_46 : decode cX3_seeTreatments 46 = .ok (.aload_n 0, 1) := by decide +kernel
theorem dX3_seeTreatments_47 : decode cX3_seeTreatments 47 = .ok (.getfield 18, 3) := by decide +kernel
theorem dX3_seeTreatments_50 : decode cX3_seeTreatments 50 = .ok (.aload_n 0, 1) := by decide +kernel
theorem dX3_seeTreatments_51 : decode cX3_seeTreatments 51 = .ok (.getfield 53, 3) := by decide +kernel
theorem dX3_seeTreatments_54 : decode cX3_seeTreatments 54 = .ok (.getfield 107, 3) := by decide +kernel
theorem dX3_seeTreatments_57 : decode cX3_seeTreatments 57 = .ok (.iload_n 1, 1) := by decide +kernel
theorem dX3_seeTreatments_58 : decode cX3_seeTreatments 58 = .ok (.iaload, 1) := by decide +kernel
theorem dX3_seeTreatments_59 : decode cX3_seeTreatments 59 = .ok (.dup2, 1) := by decide +kernel
theorem dX3_seeTreatments_60 : decode cX3_seeTreatments 60 = .ok (.iaload, 1) := by decide +kernel
theorem dX3_seeTreatments_61 : decode cX3_seeTreatments 61 = .ok (.iconst 1, 1) := by decide +kernel
theorem dX3_seeTreatments_62 : decode cX3_seeTreatments 62 = .ok (.aload_n 0, 1) := by decide +kernel
theorem dX3_seeTreatments_63 : decode cX3_seeTreatments 63 = .ok (.getfield 53, 3) := by decide +kernel
theorem dX3_seeTreatments_66 : decode cX3_seeTreatments 66 = .ok (.getfield 110, 3) := by decide +kernel
theorem dX3_seeTreatments_69 : decode cX3_seeTreatments 69 = .ok (.iload_n 1, 1) := by decide +kernel
theorem dX3_seeTreatments_70 : decode cX3_seeTreatments 70 = .ok (.iaload, 1) := by decide +kernel
theorem dX3_seeTreatments_71 : decode cX3_seeTreatments 71 = .ok (.ishl, 1) := by decide +kernel
theorem dX3_seeTreatments_72 : decode cX3_seeTreatments 72 = .ok (.ior, 1) := by decide +kernel
theorem dX3_seeTreatments_73 : decode cX3_seeTreatments 73 = .ok (.iastore, 1) := by decide +kernel
theorem dX3_seeTreatments_74 : decode cX3_seeTreatments 74 = .ok (.goto 114, 3) := by decide +kernel
theorem dX3_seeTreatments_77 : decode cX3_seeTreatments 77 = .ok (.aload_n 0, 1) := by decide +kernel
theorem dX3_seeTreatments_78 : decode cX3_seeTreatments 78 = .ok (.iload_n 1, 1) := by decide +kernel
theorem dX3_seeTreatments_79 : decode cX3_seeTreatments 79 = .ok (.iconst 2, 1) := by decide +kernel
theorem dX3_seeTreatments_80 : decode cX3_seeTreatments 80 = .ok (.invokevirtual 119, 3) := by decide +kernel
theorem dX3_seeTreatments_83 : decode cX3_seeTreatments 83 = .ok (.ifCond .eq 51, 3) := by decide +kernel
theorem dX3_seeTreatments_86 : decode cX3_seeTreatments 86 = .ok (.aload_n 0, 1) := by decide +kernel
theorem dX3_seeTreatments_87 : decode cX3_seeTreatments 87 = .ok (.getfield 21, 3) := by decide +kernel
theorem dX3_seeTreatments_90 : decode cX3_seeTreatments 90 = .ok (.aload_n 0, 1) := by decide +kernel
theorem dX3_seeTreatments_91 : decode cX3_seeTreatments 91 = .ok (.getfield 53, 3) := by decide +kernel
theorem dX3_seeTreatments_94 : decode cX3_seeTreatments 94 = .ok (.getfield 107, 3) := by decide +kernel
theorem dX3_seeTreatments_97 : decode cX3_seeTreatments 97 = .ok (.iload_n 1, 1) := by decide +kernel
theorem dX3_seeTreatments_98 : decode cX3_seeTreatments 98 = .ok (.iaload, 1) := by decide +kernel
theorem dX3_seeTreatments_99 : decode cX3_seeTreatments 99 = .ok (.aload_n 0, 1) := by decide +kernel
theorem dX3_seeTreatments_100 : decode cX3_seeTreatments 100 = .ok (.getfield 9, 3) := by decide +kernel
theorem dX3_seeTreatments_103 : decode cX3_seeTreatments 103 = .ok (.aload_n 0, 1) := by decide +kernel
theorem dX3_seeTreatments_104 : decode cX3_seeTreatments 104 = .ok (.getfield 53, 3) := by decide +kernel
theorem dX3_seeTreatments_107 : decode cX3_seeTreatments 107 = .ok (.getfield 122, 3) := by decide +kernel
theorem dX3_seeTreatments_110 : decode cX3_seeTreatments 110 = .ok (.iload_n 1, 1) := by decide +kernel
theorem dX3_seeTreatments_111 : decode cX3_seeTreatments 111 = .ok (.iaload, 1) := by decide +kernel
theorem dX3_seeTreatments_112 : decode cX3_seeTreatments 112 = .ok (.iaload, 1) := by decide +kernel
theorem dX3_seeTreatments_113 : decode cX3_seeTreatments 113 = .ok (.invokestatic 148, 3) := by decide +kernel
theorem dX3_seeTreatments_116 : decode cX3_seeTreatments 116 = .ok (.dup2, 1) := by decide +kernel
theorem dX3_seeTreatments_117 : decode cX3_seeTreatments 117 = .ok (.iaload, 1) := by decide +kernel
theorem dX3_seeTreatments_118 : decode cX3_seeTreatments 118 = .ok (.iconst 1, 1) := by decide +kernel
theorem dX3_seeTreatments_119 : decode cX3_seeTreatments 119 = .ok (.aload_n 0, 1) := by decide +kernel
theorem dX3_seeTreatments_120 : decode cX3_seeTreatments 120 = .ok (.getfield 53, 3) := by decide +kernel
theorem dX3_seeTreatments_123 : decode cX3_seeTreatments 123 = .ok (.getfield 110, 3) := by decide +kernel
theorem dX3_seeTreatments_126 : decode cX3_seeTreatments 126 = .ok (.iload_n 1, 1) := by decide +kernel
theorem dX3_seeTreatments_127 : decode cX3_seeTreatments 127 = .ok (.iaload, 1) := by decide +kernel
theorem dX3_seeTreatments_128 : decode cX3_seeTreatments 128 = .ok (.ishl, 1) := by decide +kernel
theorem dX3_seeTreatments_129 : decode cX3_seeTreatments 129 = .ok (.ior, 1) := by decide +kernel
theorem dX3_seeTreatments_130 : decode cX3_seeTreatments 130 = .ok (.iastore, 1) := by decide +kernel
theorem dX3_seeTreatments_131 : decode cX3_seeTreatments 131 = .ok (.goto 57, 3) := by decide +kernel
theorem dX3_seeTreatments_134 : decode cX3_seeTreatments 134 = .ok (.aload_n 0, 1) := by decide +kernel
theorem dX3_seeTreatments_135 : decode cX3_seeTreatments 135 = .ok (.iload_n 1, 1) := by decide +kernel
theorem dX3_seeTreatments_136 : decode cX3_seeTreatments 136 = .ok (.iconst 3, 1) := by decide +kernel
theorem dX3_seeTreatments_137 : decode cX3_seeTreatments 137 = .ok (.invokevirtual 119, 3) := by decide +kernel
theorem dX3_seeTreatments_140 : decode cX3_seeTreatments 140 = .ok (.ifCond .eq 48, 3) := by decide +kernel
theorem dX3_seeTreatments_143 : decode cX3_seeTreatments 143 = .ok (.aload_n 0, 1) := by decide +kernel
theorem dX3_seeTreatments_144 : decode cX3_seeTreatments 144 = .ok (.getfield 24, 3) := by decide +kernel
theorem dX3_seeTreatments_147 : decode cX3_seeTreatments 147 = .ok (.aload_n 0, 1) := by decide +kernel
theorem dX3_seeTreatments_148 : decode cX3_seeTreatments 148 = .ok (.getfield 53, 3) := by decide +kernel
theorem dX3_seeTreatments_151 : decode cX3_seeTreatments 151 = .ok (.getfield 107, 3) := by decide +kernel
theorem dX3_seeTreatments_154 : decode cX3_seeTreatments 154 = .ok (.iload_n 1, 1) := by decide +kernel
theorem dX3_seeTreatments_155 : decode cX3_seeTreatments 155 = .ok (.iaload, 1) := by decide +kernel
theorem dX3_seeTreatments_156 : decode cX3_seeTreatments 156 = .ok (.aload_n 0, 1) := by decide +kernel
theorem dX3_seeTreatments_157 : decode cX3_seeTreatments 157 = .ok (.getfield 9, 3) := by decide +kernel
theorem dX3_seeTreatments_160 : decode cX3_seeTreatments 160 = .ok (.aload_n 0, 1) := by decide +kernel
theorem dX3_seeTreatments_161 : decode cX3_seeTreatments 161 = .ok (.getfield 53, 3) := by decide +kernel
theorem dX3_seeTreatments_164 : decode cX3_seeTreatments 164 = .ok (.getfield 122, 3) := by decide +kernel
theorem dX3_seeTreatments_167 : decode cX3_seeTreatments 167 = .ok (.iload_n 1, 1) := by decide +kernel
theorem dX3_seeTreatments_168 : decode cX3_seeTreatments 168 = .ok (.iaload, 1) := by decide +kernel
theorem dX3_seeTreatments_169 : decode cX3_seeTreatments 169 = .ok (.iaload, 1) := by decide +kernel
theorem dX3_seeTreatments_170 : decode cX3_seeTreatments 170 = .ok (.invokestatic 148, 3) := by decide +kernel
theorem dX3_seeTreatments_173 : decode cX3_seeTreatments 173 = .ok (.dup2, 1) := by decide +kernel
theorem dX3_seeTreatments_174 : decode cX3_seeTreatments 174 = .ok (.iaload, 1) := by decide +kernel
theorem dX3_seeTreatments_175 : decode cX3_seeTreatments 175 = .ok (.iconst 1, 1) := by decide +kernel
theorem dX3_seeTreatments_176 : decode cX3_seeTreatments 176 = .ok (.aload_n 0, 1) := by decide +kernel
theorem dX3_seeTreatments_177 : decode cX3_seeTreatments 177 = .ok (.getfield 53, 3) := by decide +kernel
theorem dX3_seeTreatments_180 : decode cX3_seeTreatments 180 = .ok (.getfield 110, 3) := by decide +kernel
theorem dX3_seeTreatments_183 : decode cX3_seeTreatments 183 = .ok (.iload_n 1, 1) := by decide +kernel
theorem dX3_seeTreatments_184 : decode cX3_seeTreatments 184 = .ok (.iaload, 1) := by decide +kernel
theorem dX3_seeTreatments_185 : decode cX3_seeTreatments 185 = .ok (.ishl, 1) := by decide +kernel
theorem dX3_seeTreatments_186 : decode cX3_seeTreatments 186 = .ok (.ior, 1) := by decide +kernel
theorem dX3_seeTreatments_187 : decode cX3_seeTreatments 187 = .ok (.iastore, 1) := by decide +kernel
theorem dX3_seeTreatments_188 : decode cX3_seeTreatments 188 = .ok (.iinc 1 1, 3) := by decide +kernel
theorem dX3_seeTreatments_191 : decode cX3_seeTreatments 191 = .ok (.goto (-165), 3) := by decide +kernel
theorem dX3_seeTreatments_194 : decode cX3_seeTreatments 194 = .ok (.return_, 1) := by decide +kernel
theorem dX3_seeStatutes_0 : decode cX3_seeStatutes 0 = .ok (.aload_n 0, 1) := by decide +kernel
theorem dX3_seeStatutes_1 : decode cX3_seeStatutes 1 = .ok (.iconst 0, 1) := by decide +kernel
theorem dX3_seeStatutes_2 : decode cX3_seeStatutes 2 = .ok (.putfield 151, 3) := by decide +kernel
theorem dX3_seeStatutes_5 : decode cX3_seeStatutes 5 = .ok (.iconst 0, 1) := by decide +kernel
theorem dX3_seeStatutes_6 : decode cX3_seeStatutes 6 = .ok (.istore_n 1, 1) := by decide +kernel
theorem dX3_seeStatutes_7 : decode cX3_seeStatutes 7 = .ok (.iload_n 1, 1) := by decide +kernel
theorem dX3_seeStatutes_8 : decode cX3_seeStatutes 8 = .ok (.aload_n 0, 1) := by decide +kernel
theorem dX3_seeStatutes_9 : decode cX3_seeStatutes 9 = .ok (.getfield 53, 3) := by decide +kernel
theorem dX3_seeStatutes_12 : decode cX3_seeStatutes 12 = .ok (.getfield 96, 3) := by decide +kernel
theorem dX3_seeStatutes_15 : decode cX3_seeStatutes 15 = .ok (.if_icmp .ge 48, 3) := by decide +kernel
theorem dX3_seeStatutes_18 : decode cX3_seeStatutes 18 = .ok (.aload_n 0, 1) := by decide +kernel
theorem dX3_seeStatutes_19 : decode cX3_seeStatutes 19 = .ok (.iload_n 1, 1) := by decide +kernel
theorem dX3_seeStatutes_20 : decode cX3_seeStatutes 20 = .ok (.iconst 5, 1) := by decide +kernel
theorem dX3_seeStatutes_21 : decode cX3_seeStatutes 21 = .ok (.invokevirtual 119, 3) := by decide +kernel
theorem dX3_seeStatutes_24 : decode cX3_seeStatutes 24 = .ok (.ifCond .ne 13, 3) := by decide +kernel
theorem dX3_seeStatutes_27 : decode cX3_seeStatutes 27 = .ok (.aload_n 0, 1) := by decide +kernel
theorem dX3_seeStatutes_28 : decode cX3_seeStatutes 28 = .ok (.iload_n 1, 1) := by decide +kernel
theorem dX3_seeStatutes_29 : decode cX3_seeStatutes 29 = .ok (.bipush 6, 2) := by decide +kernel
theorem dX3_seeStatutes_31 : decode cX3_seeStatutes 31 = .ok (.invokevirtual 119, 3) := by decide +kernel
theorem dX3_seeStatutes_34 : decode cX3_seeStatutes 34 = .ok (.ifCond .eq 23, 3) := by decide +kernel
theorem dX3_seeStatutes_37 : decode cX3_seeStatutes 37 = .ok (.aload_n 0, 1) := by decide +kernel
theorem dX3_seeStatutes_38 : decode cX3_seeStatutes 38 = .ok (.getfield 39, 3) := by decide +kernel
theorem dX3_seeStatutes_41 : decode cX3_seeStatutes 41 = .ok (.aload_n 0, 1) := by decide +kernel
theorem dX3_seeStatutes_42 : decode cX3_seeStatutes 42 = .ok (.getfield 151, 3) := by decide +kernel
theorem dX3_seeStatutes_45 : decode cX3_seeStatutes 45 = .ok (.iload_n 1, 1) := by decide +kernel
theorem dX3_seeStatutes_46 : decode cX3_seeStatutes 46 = .ok (.iastore, 1) := by decide +kernel
theorem dX3_seeStatutes_47 : decode cX3_seeStatutes 47 = .ok (.aload_n 0, 1) := by decide +kernel
theorem dX3_seeStatutes_48 : decode cX3_seeStatutes 48 = .ok (.dup, 1) := by decide +kernel
theorem dX3_seeStatutes_49 : decode cX3_seeStatutes 49 = .ok (.getfield 151, 3) := by decide +kernel
theorem dX3_seeStatutes_52 : decode cX3_seeStatutes 52 = .ok (.iconst 1, 1) := by decide +kernel
theorem dX3_seeStatutes_53 : decode cX3_seeStatutes 53 = .ok (.iadd, 1) := by decide +kernel
theorem dX3_seeStatutes_54 : decode cX3_seeStatutes 54 = .ok (.putfield 151, 3) := by decide +kernel
theorem dX3_seeStatutes_57 : decode cX3_seeStatutes 57 = .ok (.iinc 1 1, 3) := by decide +kernel
theorem dX3_seeStatutes_60 : decode cX3_seeStatutes 60 = .ok (.goto (-53), 3) := by decide +kernel
theorem dX3_seeStatutes_63 : decode cX3_seeStatutes 63 = .ok (.return_, 1) := by decide +kernel
theorem dX4_init_0 : decode cX4_init 0 = .ok (.aload_n 0, 1) := by decide +kernel
theorem dX4_init_1 : decode cX4_init 1 = .ok (.invokespecial 3, 3) := by decide +kernel
theorem dX4_init_4 : decode cX4_init 4 = .ok (.aload_n 0, 1) := by decide +kernel
theorem dX4_init_5 : decode cX4_init 5 = .ok (.bipush 120, 2) := by decide +kernel
theorem dX4_init_7 : decode cX4_init 7 = .ok (.newarray .int, 2) := by decide +kernel
theorem dX4_init_9 : decode cX4_init 9 = .ok (.putfield 9, 3) := by decide +kernel
theorem dX4_init_12 : decode cX4_init 12 = .ok (.aload_n 0, 1) := by decide +kernel
theorem dX4_init_13 : decode cX4_init 13 = .ok (.bipush 120, 2) := by decide +kernel
theorem dX4_init_15 : decode cX4_init 15 = .ok (.newarray .int, 2) := by decide +kernel
theorem dX4_init_17 : decode cX4_init 17 = .ok (.putfield 15, 3) := by decide +kernel
theorem dX4_init_20 : decode cX4_init 20 = .ok (.aload_n 0, 1) := by decide +kernel
theorem dX4_init_21 : decode cX4_init 21 = .ok (.bipush 120, 2) := by decide +kernel
theorem dX4_init_23 : decode cX4_init 23 = .ok (.newarray .int, 2) := by decide +kernel
theorem dX4_init_25 : decode cX4_init 25 = .ok (.putfield 18, 3) := by decide +kernel
theorem dX4_init_28 : decode cX4_init 28 = .ok (.aload_n 0, 1) := by decide +kernel
theorem dX4_init_29 : decode cX4_init 29 = .ok (.bipush 120, 2) := by decide +kernel
theorem dX4_init_31 : decode cX4_init 31 = .ok (.newarray .int, 2) := by decide +kernel
theorem dX4_init_33 : decode cX4_init 33 = .ok (.putfield 21, 3) := by decide +kernel
theorem dX4_init_36 : decode cX4_init 36 = .ok (.aload_n 0, 1) := by decide +kernel
theorem dX4_init_37 : decode cX4_init 37 = .ok (.bipush 120, 2) := by decide +kernel
theorem dX4_init_39 : decode cX4_init 39 = .ok (.newarray .int, 2) := by decide +kernel
theorem dX4_init_41 : decode cX4_init 41 = .ok (.putfield 24, 3) := by decide +kernel
theorem dX4_init_44 : decode cX4_init 44 = .ok (.aload_n 0, 1) := by decide +kernel
theorem dX4_init_45 : decode cX4_init 45 = .ok (.bipush 120, 2) := by decide +kernel
theorem dX4_init_47 : decode cX4_init 47 = .ok (.newarray .int, 2) := by decide +kernel
theorem dX4_init_49 : decode cX4_init 49 = .ok (.putfield 27, 3) := by decide +kernel
theorem dX4_init_52 : decode cX4_init 52 = .ok (.return_, 1) := by decide +kernel
theorem dX4_add_0 : decode cX4_add 0 = .ok (.aload_n 0, 1) := by decide +kernel
theorem dX4_add_1 : decode cX4_add 1 = .ok (.getfield 30, 3) := by decide +kernel
theorem dX4_add_4 : decode cX4_add 4 = .ok (.bipush 120, 2) := by decide +kernel
theorem dX4_add_6 : decode cX4_add 6 = .ok (.if_icmp .lt 5, 3) := by decide +kernel
theorem dX4_add_9 : decode cX4_add 9 = .ok (.iconst (-1), 1) := by decide +kernel
theorem dX4_add_10 : decode cX4_add 10 = .ok (.ireturn, 1) := by decide +kernel
theorem dX4_add_11 : decode cX4_add 11 = .ok (.aload_n 0, 1) := by decide +kernel
theorem dX4_add_12 : decode cX4_add 12 = .ok (.getfield 9, 3) := by decide +kernel
theorem dX4_add_15 : decode cX4_add 15 = .ok (.aload_n 0, 1) := by decide +kernel
theorem dX4_add_16 : decode cX4_add 16 = .ok (.getfield 30, 3) := by decide +kernel
theorem dX4_add_19 : decode cX4_add 19 = .ok (.iload_n 1, 1) := by decide +kernel
theorem dX4_add_20 : decode cX4_add 20 = .ok (.iastore, 1) := by decide +kernel
theorem dX4_add_21 : decode cX4_add 21 = .ok (.aload_n 0, 1) := by decide +kernel
theorem dX4_add_22 : decode cX4_add 22 = .ok (.getfield 15, 3) := by decide +kernel
theorem dX4_add_25 : decode cX4_add 25 = .ok (.aload_n 0, 1) := by decide +kernel
theorem dX4_add_26 : decode cX4_add 26 = .ok (.getfield 30, 3) := by decide +kernel
theorem dX4_add_29 : decode cX4_add 29 = .ok (.iload_n 2, 1) := by decide +kernel
theorem dX4_add_30 : decode cX4_add 30 = .ok (.iastore, 1) := by decide +kernel
theorem dX4_add_31 : decode cX4_add 31 = .ok (.aload_n 0, 1) := by decide +kernel
theorem dX4_add_32 : decode cX4_add 32 = .ok (.getfield 18, 3) := by decide +kernel
theorem dX4_add_35 : decode cX4_add 35 = .ok (.aload_n 0, 1) := by decide +kernel
theorem dX4_add_36 : decode cX4_add 36 = .ok (.getfield 30, 3) := by decide +kernel
theorem dX4_add_39 : decode cX4_add 39 = .ok (.iload_n 3, 1) := by decide +kernel
theorem dX4_add_40 : decode cX4_add 40 = .ok (.iastore, 1) := by decide +kernel
theorem dX4_add_41 : decode cX4_add 41 = .ok (.aload_n 0, 1) := by decide +kernel
theorem dX4_add_42 : decode cX4_add 42 = .ok (.getfield 21, 3) := by decide +kernel
theorem dX4_add_45 : decode cX4_add 45 = .ok (.aload_n 0, 1) := by decide +kernel
theorem dX4_add_46 : decode cX4_add 46 = .ok (.getfield 30, 3) := by decide +kernel
theorem dX4_add_49 : decode cX4_add 49 = .ok (.iload 4, 2) := by decide +kernel
theorem dX4_add_51 : decode cX4_add 51 = .ok (.iastore, 1) := by decide +kernel
theorem dX4_add_52 : decode cX4_add 52 = .ok (.aload_n 0, 1) := by decide +kernel
theorem dX4_add_53 : decode cX4_add 53 = .ok (.getfield 24, 3) := by decide +kernel
theorem dX4_add_56 : decode cX4_add 56 = .ok (.aload_n 0, 1) := by decide +kernel
theorem dX4_add_57 : decode cX4_add 57 = .ok (.getfield 30, 3) := by decide +kernel
theorem dX4_add_60 : decode cX4_add 60 = .ok (.iload 5, 2) := by decide +kernel
theorem dX4_add_62 : decode cX4_add 62 = .ok (.iastore, 1) := by decide +kernel
theorem dX4_add_63 : decode cX4_add 63 = .ok (.aload_n 0, 1) := by decide +kernel
theorem dX4_add_64 : decode cX4_add 64 = .ok (.getfield 27, 3) := by decide +kernel
theorem dX4_add_67 : decode cX4_add 67 = .ok (.aload_n 0, 1) := by decide +kernel
theorem dX4_add_68 : decode cX4_add 68 = .ok (.getfield 30, 3) := by decide +kernel
theorem dX4_add_71 : decode cX4_add 71 = .ok (.iload 6, 2) := by decide +kernel
theorem dX4_add_73 : decode cX4_add 73 = .ok (.iastore, 1) := by decide +kernel
theorem dX4_add_74 : decode cX4_add 74 = .ok (.aload_n 0, 1) := by decide +kernel
theorem dX4_add_75 : decode cX4_add 75 = .ok (.dup, 1) := by decide +kernel
theorem dX4_add_76 : decode cX4_add 76 = .ok (.getfield 30, 3) := by decide +kernel
theorem dX4_add_79 : decode cX4_add 79 = .ok (.iconst 1, 1) := by decide +kernel
theorem dX4_add_80 : decode cX4_add 80 = .ok (.iadd, 1) := by decide +kernel
theorem dX4_add_81 : decode cX4_add 81 = .ok (.putfield 30, 3) := by decide +kernel
theorem dX4_add_84 : decode cX4_add 84 = .ok (.aload_n 0, 1) := by decide +kernel
theorem dX4_add_85 : decode cX4_add 85 = .ok (.getfield 30, 3) := by decide +kernel
theorem dX4_add_88 : decode cX4_add 88 = .ok (.iconst 1, 1) := by decide +kernel
theorem dX4_add_89 : decode cX4_add 89 = .ok (.isub, 1) := by decide +kernel
theorem dX4_add_90 : decode cX4_add 90 = .ok (.ireturn, 1) := by decide +kernel
theorem dX5_init_0 : decode cX5_init 0 = .ok (.aload_n 0, 1) := by decide +kernel
theorem dX5_init_1 : decode cX5_init 1 = .ok (.invokespecial 3, 3) := by decide +kernel
theorem dX5_init_4 : decode cX5_init 4 = .ok (.aload_n 0, 1) := by decide +kernel
theorem dX5_init_5 : decode cX5_init 5 = .ok (.bipush 12, 2) := by decide +kernel
theorem dX5_init_7 : decode cX5_init 7 = .ok (.newarray .int, 2) := by decide +kernel
theorem dX5_init_9 : decode cX5_init 9 = .ok (.putfield 9, 3) := by decide +kernel
theorem dX5_init_12 : decode cX5_init 12 = .ok (.return_, 1) := by decide +kernel
theorem dX5_areOpposed_0 : decode cX5_areOpposed 0 = .ok (.aload_n 0, 1) := by decide +kernel
theorem dX5_areOpposed_1 : decode cX5_areOpposed 1 = .ok (.getfield 9, 3) := by decide +kernel
theorem dX5_areOpposed_4 : decode cX5_areOpposed 4 = .ok (.iload_n 1, 1) := by decide +kernel
theorem dX5_areOpposed_5 : decode cX5_areOpposed 5 = .ok (.iaload, 1) := by decide +kernel
theorem dX5_areOpposed_6 : decode cX5_areOpposed 6 = .ok (.iload_n 2, 1) := by decide +kernel
theorem dX5_areOpposed_7 : decode cX5_areOpposed 7 = .ok (.invokestatic 15, 3) := by decide +kernel
theorem dX5_areOpposed_10 : decode cX5_areOpposed 10 = .ok (.ireturn, 1) := by decide +kernel
theorem dX5_turnOpposed_0 : decode cX5_turnOpposed 0 = .ok (.aload_n 0, 1) := by decide +kernel
theorem dX5_turnOpposed_1 : decode cX5_turnOpposed 1 = .ok (.getfield 9, 3) := by decide +kernel
theorem dX5_turnOpposed_4 : decode cX5_turnOpposed 4 = .ok (.iload_n 1, 1) := by decide +kernel
theorem dX5_turnOpposed_5 : decode cX5_turnOpposed 5 = .ok (.dup2, 1) := by decide +kernel
theorem dX5_turnOpposed_6 : decode cX5_turnOpposed 6 = .ok (.iaload, 1) := by decide +kernel
theorem dX5_turnOpposed_7 : decode cX5_turnOpposed 7 = .ok (.iconst 1, 1) := by decide +kernel
theorem dX5_turnOpposed_8 : decode cX5_turnOpposed 8 = .ok (.iload_n 2, 1) := by decide +kernel
theorem dX5_turnOpposed_9 : decode cX5_turnOpposed 9 = .ok (.ishl, 1) := by decide +kernel
theorem dX5_turnOpposed_10 : decode cX5_turnOpposed 10 = .ok (.ixor, 1) := by decide +kernel
theorem dX5_turnOpposed_11 : decode cX5_turnOpposed 11 = .ok (.iastore, 1) := by decide +kernel
theorem dX5_turnOpposed_12 : decode cX5_turnOpposed 12 = .ok (.aload_n 0, 1) := by decide +kernel
theorem dX5_turnOpposed_13 : decode cX5_turnOpposed 13 = .ok (.getfield 9, 3) := by decide +kernel
theorem dX5_turnOpposed_16 : decode cX5_turnOpposed 16 = .ok (.iload_n 2, 1) := by decide +kernel
theorem dX5_turnOpposed_17 : decode cX5_turnOpposed 17 = .ok (.dup2, 1) := by decide +kernel
theorem dX5_turnOpposed_18 : decode cX5_turnOpposed 18 = .ok (.iaload, 1) := by decide +kernel
theorem dX5_turnOpposed_19 : decode cX5_turnOpposed 19 = .ok (.iconst 1, 1) := by decide +kernel
theorem dX5_turnOpposed_20 : decode cX5_turnOpposed 20 = .ok (.iload_n 1, 1) := by decide +kernel
theorem dX5_turnOpposed_21 : decode cX5_turnOpposed 21 = .ok (.ishl, 1) := by decide +kernel
theorem dX5_turnOpposed_22 : decode cX5_turnOpposed 22 = .ok (.ixor, 1) := by decide +kernel
theorem dX5_turnOpposed_23 : decode cX5_turnOpposed 23 = .ok (.iastore, 1) := by decide +kernel
theorem dX5_turnOpposed_24 : decode cX5_turnOpposed 24 = .ok (.return_, 1) := by decide +kernel
theorem dX6_init_0 : decode cX6_init 0 = .ok (.aload_n 0, 1) := by decide +kernel
theorem dX6_init_1 : decode cX6_init 1 = .ok (.invokespecial 3, 3) := by decide +kernel
theorem dX6_init_4 : decode cX6_init 4 = .ok (.aload_n 0, 1) := by decide +kernel
theorem dX6_init_5 : decode cX6_init 5 = .ok (.iconst (-1), 1) := by decide +kernel
theorem dX6_init_6 : decode cX6_init 6 = .ok (.putfield 9, 3) := by decide +kernel
theorem dX6_init_9 : decode cX6_init 9 = .ok (.aload_n 0, 1) := by decide +kernel
theorem dX6_init_10 : decode cX6_init 10 = .ok (.new 15, 3) := by decide +kernel
theorem dX6_init_13 : decode cX6_init 13 = .ok (.dup, 1) := by decide +kernel
theorem dX6_init_14 : decode cX6_init 14 = .ok (.invokespecial 17, 3) := by decide +kernel
theorem dX6_init_17 : decode cX6_init 17 = .ok (.putfield 18, 3) := by decide +kernel
theorem dX6_init_20 : decode cX6_init 20 = .ok (.aload_n 0, 1) := by decide +kernel
theorem dX6_init_21 : decode cX6_init 21 = .ok (.bipush 72, 2) := by decide +kernel
theorem dX6_init_23 : decode cX6_init 23 = .ok (.newarray .int, 2) := by decide +kernel
theorem dX6_init_25 : decode cX6_init 25 = .ok (.putfield 22, 3) := by decide +kernel
theorem dX6_init_28 : decode cX6_init 28 = .ok (.aload_n 0, 1) := by decide +kernel
theorem dX6_init_29 : decode cX6_init 29 = .ok (.aload_n 1, 1) := by decide +kernel
theorem dX6_init_30 : decode cX6_init 30 = .ok (.putfield 26, 3) := by decide +kernel
theorem dX6_init_33 : decode cX6_init 33 = .ok (.return_, 1) := by decide +kernel
theorem dX6_read_0 : decode cX6_read 0 = .ok (.aload_n 0, 1) := by decide +kernel
theorem dX6_read_1 : decode cX6_read 1 = .ok (.iconst 0, 1) := by decide +kernel
theorem dX6_read_2 : decode cX6_read 2 = .ok (.putfield 30, 3) := by decide +kernel
theorem dX6_read_5 : decode cX6_read 5 = .ok (.aload_n 0, 1) := by decide +kernel
theorem dX6_read_6 : decode cX6_read 6 = .ok (.iconst (-1), 1) := by decide +kernel
theorem dX6_read_7 : decode cX6_read 7 = .ok (.putfield 9, 3) := by decide +kernel
theorem dX6_read_10 : decode cX6_read 10 = .ok (.aload_n 0, 1) := by decide +kernel
theorem dX6_read_11 : decode cX6_read 11 = .ok (.aload_n 3, 1) := by decide +kernel
theorem dX6_read_12 : decode cX6_read 12 = .ok (.putfield 26, 3) := by decide +kernel
theorem dX6_read_15 : decode cX6_read 15 = .ok (.aload_n 0, 1) := by decide +kernel
theorem dX6_read_16 : decode cX6_read 16 = .ok (.getfield 26, 3) := by decide +kernel
theorem dX6_read_19 : decode cX6_read 19 = .ok (.invokevirtual 33, 3) := by decide +kernel
theorem dX6_read_22 : decode cX6_read 22 = .ok (.aload_n 0, 1) := by decide +kernel
theorem dX6_read_23 : decode cX6_read 23 = .ok (.getfield 18, 3) := by decide +kernel
theorem dX6_read_26 : decode cX6_read 26 = .ok (.aload_n 1, 1) := by decide +kernel
theorem dX6_read_27 : decode cX6_read 27 = .ok (.iload_n 2, 1) := by decide +kernel
theorem dX6_read_28 : decode cX6_read 28 = .ok (.invokevirtual 38, 3) := by decide +kernel
theorem dX6_read_31 : decode cX6_read 31 = .ok (.iconst 0, 1) := by decide +kernel
theorem dX6_read_32 : decode cX6_read 32 = .ok (.istore 4, 2) := by decide +kernel
theorem dX6_read_34 : decode cX6_read 34 = .ok (.iload 4, 2) := by decide +kernel
theorem dX6_read_36 : decode cX6_read 36 = .ok (.iload_n 2, 1) := by decide +kernel
theorem dX6_read_37 : decode cX6_read 37 = .ok (.if_icmp .gt 32, 3) := by decide +kernel
theorem dX6_read_40 : decode cX6_read 40 = .ok (.aload_n 0, 1) := by decide +kernel
theorem dX6_read_41 : decode cX6_read 41 = .ok (.getfield 30, 3) := by decide +kernel
theorem dX6_read_44 : decode cX6_read 44 = .ok (.ifCond .ne 25, 3) := by decide +kernel
theorem dX6_read_47 : decode cX6_read 47 = .ok (.aload_n 0, 1) := by decide +kernel
theorem dX6_read_48 : decode cX6_read 48 = .ok (.getfield 18, 3) := by decide +kernel
theorem dX6_read_51 : decode cX6_read 51 = .ok (.getfield 42, 3) := by decide +kernel
theorem dX6_read_54 : decode cX6_read 54 = .ok (.iconst 1, 1) := by decide +kernel
theorem dX6_read_55 : decode cX6_read 55 = .ok (.if_icmp .eq 14, 3) := by decide +kernel
theorem dX6_read_58 : decode cX6_read 58 = .ok (.aload_n 0, 1) := by decide +kernel
theorem dX6_read_59 : decode cX6_read 59 = .ok (.iload_n 2, 1) := by decide +kernel
theorem dX6_read_60 : decode cX6_read 60 = .ok (.invokevirtual 45, 3) := by decide +kernel
theorem dX6_read_63 : decode cX6_read 63 = .ok (.iinc 4 1, 3) := by decide +kernel
theorem dX6_read_66 : decode cX6_read 66 = .ok (.goto (-32), 3) := by decide +kernel
theorem dX6_read_69 : decode cX6_read 69 = .ok (.return_, 1) := by decide +kernel
theorem dX6_readLine_0 : decode cX6_readLine 0 = .ok (.aload_n 0, 1) := by decide +kernel
theorem dX6_readLine_1 : decode cX6_readLine 1 = .ok (.getfield 18, 3) := by decide +kernel
theorem dX6_readLine_4 : decode cX6_readLine 4 = .ok (.getfield 42, 3) := by decide +kernel
theorem dX6_readLine_7 : decode cX6_readLine 7 = .ok (.istore_n 2, 1) := by decide +kernel
theorem dX6_readLine_8 : decode cX6_readLine 8 = .ok (.iload_n 2, 1) := by decide +kernel
theorem dX6_readLine_9 : decode cX6_readLine 9 = .ok (.bipush 28, 2) := by decide +kernel
theorem dX6_readLine_11 : decode cX6_readLine 11 = .ok (.if_icmp .eq 21, 3) := by decide +kernel
theorem dX6_readLine_14 : decode cX6_readLine 14 = .ok (.iload_n 2, 1) := by decide +kernel
theorem dX6_readLine_15 : decode cX6_readLine 15 = .ok (.bipush 29, 2) := by decide +kernel
theorem dX6_readLine_17 : decode cX6_readLine 17 = .ok (.if_icmp .eq 15, 3) := by decide +kernel
theorem dX6_readLine_20 : decode cX6_readLine 20 = .ok (.iload_n 2, 1) := by decide +kernel
theorem dX6_readLine_21 : decode cX6_readLine 21 = .ok (.bipush 30, 2) := by decide +kernel
theorem dX6_readLine_23 : decode cX6_readLine 23 = .ok (.if_icmp .eq 9, 3) := by decide +kernel
theorem dX6_readLine_26 : decode cX6_readLine 26 = .ok (.aload_n 0, 1) := by decide +kernel
theorem dX6_readLine_27 : decode cX6_readLine 27 = .ok (.iconst 1, 1) := by decide +kernel
theorem dX6_readLine_28 : decode cX6_readLine 28 = .ok (.invokevirtual 49, 3) := by decide +kernel
theorem dX6_readLine_31 : decode cX6_readLine 31 = .ok (.return_, 1) := by decide +kernel
theorem dX6_readLine_32 : decode cX6_readLine 32 = .ok (.iload_n 2, 1) := by decide +kernel
theorem dX6_readLine_33 : decode cX6_readLine 33 = .ok (.bipush 28, 2) := by decide +kernel
theorem dX6_readLine_35 : decode cX6_readLine 35 = .ok (.if_icmp .ne 13, 3) := by decide +kernel
theorem dX6_readLine_38 : decode cX6_readLine 38 = .ok (.aload_n 0, 1) := by decide +kernel
theorem dX6_readLine_39 : decode cX6_readLine 39 = .ok (.getfield 26, 3) := by decide +kernel
theorem dX6_readLine_42 : decode cX6_readLine 42 = .ok (.getfield 52, 3) := by decide +kernel
theorem dX6_readLine_45 : decode cX6_readLine 45 = .ok (.goto 10, 3) := by decide +kernel
theorem dX6_readLine_48 : decode cX6_readLine 48 = .ok (.aload_n 0, 1) := by decide +kernel
theorem dX6_readLine_49 : decode cX6_readLine 49 = .ok (.getfield 26, 3) := by decide +kernel
theorem dX6_readLine_52 : decode cX6_readLine 52 = .ok (.getfield 56, 3) := by decide +kernel
theorem dX6_readLine_55 : decode cX6_readLine 55 = .ok (.astore_n 3, 1) := by decide +kernel
theorem dX6_readLine_56 : decode cX6_readLine 56 = .ok (.iload_n 2, 1) := by decide +kernel
theorem dX6_readLine_57 : decode cX6_readLine 57 = .ok (.bipush 30, 2) := by decide +kernel
theorem dX6_readLine_59 : decode cX6_readLine 59 = .ok (.if_icmp .ne 16, 3) := by decide +kernel
theorem dX6_readLine_62 : decode cX6_readLine 62 = .ok (.aload_n 0, 1) := by decide +kernel
theorem dX6_readLine_63 : decode cX6_readLine 63 = .ok (.getfield 26, 3) := by decide +kernel
theorem dX6_readLine_66 : decode cX6_readLine 66 = .ok (.getfield 59, 3) := by decide +kernel
theorem dX6_readLine_69 : decode cX6_readLine 69 = .ok (.ifCond .eq 19, 3) := by decide +kernel
theorem dX6_readLine_72 : decode cX6_readLine 72 = .ok (.goto 10, 3) := by decide +kernel
theorem dX6_readLine_75 : decode cX6_readLine 75 = .ok (.aload_n 3, 1) := by decide +kernel
theorem dX6_readLine_76 : decode cX6_readLine 76 = .ok (.getfield 63, 3) := by decide +kernel
theorem dX6_readLine_79 : decode cX6_readLine 79 = .ok (.ifCond .eq 9, 3) := by decide +kernel
theorem dX6_readLine_82 : decode cX6_readLine 82 = .ok (.aload_n 0, 1) := by decide +kernel
theorem dX6_readLine_83 : decode cX6_readLine 83 = .ok (.iconst 3, 1) := by decide +kernel
theorem dX6_readLine_84 : decode cX6_readLine 84 = .ok (.invokevirtual 49, 3) := by decide +kernel
theorem dX6_readLine_87 : decode cX6_readLine 87 = .ok (.return_, 1) := by decide +kernel
theorem dX6_readLine_88 : decode cX6_readLine 88 = .ok (.aload_n 0, 1) := by decide +kernel
theorem dX6_readLine_89 : decode cX6_readLine 89 = .ok (.getfield 26, 3) := by decide +kernel
theorem dX6_readLine_92 : decode cX6_readLine 92 = .ok (.dup, 1) := by decide +kernel
theorem dX6_readLine_93 : decode cX6_readLine 93 = .ok (.getfield 68, 3) := by decide +kernel
theorem dX6_readLine_96 : decode cX6_readLine 96 = .ok (.iconst 1, 1) := by decide +kernel
theorem dX6_readLine_97 : decode cX6_readLine 97 = .ok (.iadd, 1) := by decide +kernel
theorem dX6_readLine_98 : decode cX6_readLine 98 = .ok (.putfield 68, 3) := by decide +kernel
theorem dX6_readLine_101 : decode cX6_readLine 101 = .ok (.aload_n 0, 1) := by decide +kernel
theorem dX6_readLine_102 : decode cX6_readLine 102 = .ok (.getfield 18, 3) := by decide +kernel
theorem dX6_readLine_105 : decode cX6_readLine 105 = .ok (.invokevirtual 71, 3) := by decide +kernel
theorem dX6_readLine_108 : decode cX6_readLine 108 = .ok (.iload_n 2, 1) := by decide +kernel
theorem dX6_readLine_109 : decode cX6_readLine 109 = .ok (.bipush 30, 2) := by decide +kernel
theorem dX6_readLine_111 : decode cX6_readLine 111 = .ok (.if_icmp .ne 10, 3) := by decide +kernel
theorem dX6_readLine_114 : decode cX6_readLine 114 = .ok (.aload_n 0, 1) := by decide +kernel
theorem dX6_readLine_115 : decode cX6_readLine 115 = .ok (.invokevirtual 74, 3) := by decide +kernel
theorem dX6_readLine_118 : decode cX6_readLine 118 = .ok (.goto 9, 3) := by decide +kernel
theorem dX6_readLine_121 : decode cX6_readLine 121 = .ok (.aload_n 0, 1) := by decide +kernel
theorem dX6_readLine_122 : decode cX6_readLine 122 = .ok (.aload_n 3, 1) := by decide +kernel
theorem dX6_readLine_123 : decode cX6_readLine 123 = .ok (.iload_n 1, 1) := by decide +kernel
theorem dX6_readLine_124 : decode cX6_readLine 124 = .ok (.invokevirtual 77, 3) := by decide +kernel
theorem dX6_readLine_127 : decode cX6_readLine 127 = .ok (.aload_n 0, 1) := by decide +kernel
theorem dX6_readLine_128 : decode cX6_readLine 128 = .ok (.getfield 30, 3) := by decide +kernel
theorem dX6_readLine_131 : decode cX6_readLine 131 = .ok (.ifCond .ne 19, 3) := by decide +kernel
theorem dX6_readLine_134 : decode cX6_readLine 134 = .ok (.aload_n 0, 1) := by decide +kernel
theorem dX6_readLine_135 : decode cX6_readLine 135 = .ok (.getfield 18, 3) := by decide +kernel
theorem dX6_readLine_138 : decode cX6_readLine 138 = .ok (.getfield 42, 3) := by decide +kernel
theorem dX6_readLine_141 : decode cX6_readLine 141 = .ok (.iconst 4, 1) := by decide +kernel
theorem dX6_readLine_142 : decode cX6_readLine 142 = .ok (.if_icmp .eq 8, 3) := by decide +kernel
theorem dX6_readLine_145 : decode cX6_readLine 145 = .ok (.aload_n 0, 1) := by decide +kernel
theorem dX6_readLine_146 : decode cX6_readLine 146 = .ok (.iconst 1, 1) := by decide +kernel
theorem dX6_readLine_147 : decode cX6_readLine 147 = .ok (.invokevirtual 49, 3) := by decide +kernel
theorem dX6_readLine_150 : decode cX6_readLine 150 = .ok (.aload_n 0, 1) := by decide +kernel
theorem dX6_readLine_151 : decode cX6_readLine 151 = .ok (.getfield 18, 3) := by decide +kernel
theorem dX6_readLine_154 : decode cX6_readLine 154 = .ok (.invokevirtual 71, 3) := by decide +kernel
theorem dX6_readLine_157 : decode cX6_readLine 157 = .ok (.return_, 1) := by decide +kernel
theorem dX6_readDoubts_0 : decode cX6_readDoubts 0 = .ok (.aload_n 0, 1) := by decide +kernel
theorem dX6_readDoubts_1 : decode cX6_readDoubts 1 = .ok (.getfield 18, 3) := by decide +kernel
theorem dX6_readDoubts_4 : decode cX6_readDoubts 4 = .ok (.getfield 42, 3) := by decide +kernel
theorem dX6_readDoubts_7 : decode cX6_readDoubts 7 = .ok (.iconst 3, 1) := by decide +kernel
theorem dX6_readDoubts_8 : decode cX6_readDoubts 8 = .ok (.if_icmp .eq 11, 3) := by decide +kernel
theorem dX6_readDoubts_11 : decode cX6_readDoubts 11 = .ok (.aload_n 0, 1) := by decide +kernel
theorem dX6_readDoubts_12 : decode cX6_readDoubts 12 = .ok (.iconst 1, 1) := by decide +kernel
theorem dX6_readDoubts_13 : decode cX6_readDoubts 13 = .ok (.invokevirtual 49, 3) := by decide +kernel
theorem dX6_readDoubts_16 : decode cX6_readDoubts 16 = .ok (.goto 63, 3) := by decide +kernel
theorem dX6_readDoubts_19 : decode cX6_readDoubts 19 = .ok (.aload_n 0, 1) := by decide +kernel
theorem dX6_readDoubts_20 : decode cX6_readDoubts 20 = .ok (.getfield 18, 3) := by decide +kernel
theorem dX6_readDoubts_23 : decode cX6_readDoubts 23 = .ok (.getfield 81, 3) := by decide +kernel
theorem dX6_readDoubts_26 : decode cX6_readDoubts 26 = .ok (.iconst 1, 1) := by decide +kernel
theorem dX6_readDoubts_27 : decode cX6_readDoubts 27 = .ok (.if_icmp .lt 15, 3) := by decide +kernel
theorem dX6_readDoubts_30 : decode cX6_readDoubts 30 = .ok (.aload_n 0, 1) := by decide +kernel
theorem dX6_readDoubts_31 : decode cX6_readDoubts 31 = .ok (.getfield 18, 3) := by decide +kernel
theorem dX6_readDoubts_34 : decode cX6_readDoubts 34 = .ok (.getfield 81, 3) := by decide +kernel
theorem dX6_readDoubts_37 : decode cX6_readDoubts 37 = .ok (.bipush 9, 2) := by decide +kernel
theorem dX6_readDoubts_39 : decode cX6_readDoubts 39 = .ok (.if_icmp .le 11, 3) := by decide +kernel
theorem dX6_readDoubts_42 : decode cX6_readDoubts 42 = .ok (.aload_n 0, 1) := by decide +kernel
theorem dX6_readDoubts_43 : decode cX6_readDoubts 43 = .ok (.iconst 2, 1) := by decide +kernel
theorem dX6_readDoubts_44 : decode cX6_readDoubts 44 = .ok (.invokevirtual 49, 3) := by decide +kernel
theorem dX6_readDoubts_47 : decode cX6_readDoubts 47 = .ok (.goto 32, 3) := by decide +kernel
theorem dX6_readDoubts_50 : decode cX6_readDoubts 50 = .ok (.aload_n 0, 1) := by decide +kernel
theorem dX6_readDoubts_51 : decode cX6_readDoubts 51 = .ok (.getfield 26, 3) := by decide +kernel
theorem dX6_readDoubts_54 : decode cX6_readDoubts 54 = .ok (.iconst 1, 1) := by decide +kernel
theorem dX6_readDoubts_55 : decode cX6_readDoubts 55 = .ok (.putfield 59, 3) := by decide +kernel
theorem dX6_readDoubts_58 : decode cX6_readDoubts 58 = .ok (.aload_n 0, 1) := by decide +kernel
theorem dX6_readDoubts_59 : decode cX6_readDoubts 59 = .ok (.getfield 26, 3) := by decide +kernel
theorem dX6_readDoubts_62 : decode cX6_readDoubts 62 = .ok (.aload_n 0, 1) := by decide +kernel
theorem dX6_readDoubts_63 : decode cX6_readDoubts 63 = .ok (.getfield 18, 3) := by decide +kernel
theorem dX6_readDoubts_66 : decode cX6_readDoubts 66 = .ok (.getfield 81, 3) := by decide +kernel
theorem dX6_readDoubts_69 : decode cX6_readDoubts 69 = .ok (.putfield 84, 3) := by decide +kernel
theorem dX6_readDoubts_72 : decode cX6_readDoubts 72 = .ok (.aload_n 0, 1) := by decide +kernel
theorem dX6_readDoubts_73 : decode cX6_readDoubts 73 = .ok (.getfield 18, 3) := by decide +kernel
theorem dX6_readDoubts_76 : decode cX6_readDoubts 76 = .ok (.invokevirtual 71, 3) := by decide +kernel
theorem dX6_readDoubts_79 : decode cX6_readDoubts 79 = .ok (.return_, 1) := by decide +kernel
theorem dX6_readFormula_0 : decode cX6_readFormula 0 = .ok (.aload_n 1, 1) := by decide +kernel
theorem dX6_readFormula_1 : decode cX6_readFormula 1 = .ok (.iconst 1, 1) := by decide +kernel
theorem dX6_readFormula_2 : decode cX6_readFormula 2 = .ok (.putfield 63, 3) := by decide +kernel
theorem dX6_readFormula_5 : decode cX6_readFormula 5 = .ok (.aload_n 0, 1) := by decide +kernel
theorem dX6_readFormula_6 : decode cX6_readFormula 6 = .ok (.iconst 0, 1) := by decide +kernel
theorem dX6_readFormula_7 : decode cX6_readFormula 7 = .ok (.putfield 87, 3) := by decide +kernel
theorem dX6_readFormula_10 : decode cX6_readFormula 10 = .ok (.aload_n 0, 1) := by decide +kernel
theorem dX6_readFormula_11 : decode cX6_readFormula 11 = .ok (.iconst 0, 1) := by decide +kernel
theorem dX6_readFormula_12 : decode cX6_readFormula 12 = .ok (.putfield 90, 3) := by decide +kernel
theorem dX6_readFormula_15 : decode cX6_readFormula 15 = .ok (.iconst 1, 1) := by decide +kernel
theorem dX6_readFormula_16 : decode cX6_readFormula 16 = .ok (.istore_n 3, 1) := by decide +kernel
theorem dX6_readFormula_17 : decode cX6_readFormula 17 = .ok (.iconst 0, 1) := by decide +kernel
theorem dX6_readFormula_18 : decode cX6_readFormula 18 = .ok (.istore 4, 2) := by decide +kernel
theorem dX6_readFormula_20 : decode cX6_readFormula 20 = .ok (.iload 4, 2) := by decide +kernel
theorem dX6_readFormula_22 : decode cX6_readFormula 22 = .ok (.iload_n 2, 1) := by decide +kernel
theorem dX6_readFormula_23 : decode cX6_readFormula 23 = .ok (.if_icmp .gt 70, 3) := by decide +kernel
theorem dX6_readFormula_26 : decode cX6_readFormula 26 = .ok (.aload_n 0, 1) := by decide +kernel
theorem dX6_readFormula_27 : decode cX6_readFormula 27 = .ok (.getfield 30, 3) := by decide +kernel
theorem dX6_readFormula_30 : decode cX6_readFormula 30 = .ok (.ifCond .ne 63, 3) := by decide +kernel
theorem dX6_readFormula_33 : decode cX6_readFormula 33 = .ok (.iload_n 3, 1) := by decide +kernel
theorem dX6_readFormula_34 : decode cX6_readFormula 34 = .ok (.ifCond .ne 28, 3) := by decide +kernel
theorem dX6_readFormula_37 : decode cX6_readFormula 37 = .ok (.aload_n 0, 1) := by decide +kernel
theorem dX6_readFormula_38 : decode cX6_readFormula 38 = .ok (.getfield 90, 3) := by decide +kernel
theorem dX6_readFormula_41 : decode cX6_readFormula 41 = .ok (.ifCond .ne 21, 3) := by decide +kernel
theorem dX6_readFormula_44 : decode cX6_readFormula 44 = .ok (.aload_n 0, 1) := by decide +kernel
theorem dX6_readFormula_45 : decode cX6_readFormula 45 = .ok (.getfield 18, 3) := by decide +kernel
theorem dX6_readFormula_48 : decode cX6_readFormula 48 = .ok (.getfield 42, 3) := by decide +kernel
theorem dX6_readFormula_51 : decode cX6_readFormula 51 = .ok (.iconst 4, 1) := by decide +kernel
theorem dX6_readFormula_52 : decode cX6_readFormula 52 = .ok (.if_icmp .ne 10, 3) := by decide +kernel
theorem dX6_readFormula_55 : decode cX6_readFormula 55 = .ok (.aload_n 0, 1) := by decide +kernel
theorem dX6_readFormula_56 : decode cX6_readFormula 56 = .ok (.aload_n 1, 1) := by decide +kernel
theorem dX6_readFormula_57 : decode cX6_readFormula 57 = .ok (.iconst 0, 1) := by decide +kernel
theorem dX6_readFormula_58 : decode cX6_readFormula 58 = .ok (.invokevirtual 93, 3) := by decide +kernel
theorem dX6_readFormula_61 : decode cX6_readFormula 61 = .ok (.return_, 1) := by decide +kernel
theorem dX6_readFormula_62 : decode cX6_readFormula 62 = .ok (.iload_n 3, 1) := by decide +kernel
theorem dX6_readFormula_63 : decode cX6_readFormula 63 = .ok (.ifCond .eq 11, 3) := by decide +kernel
theorem dX6_readFormula_66 : decode cX6_readFormula 66 = .ok (.aload_n 0, 1) := by decide +kernel
theorem dX6_readFormula_67 : decode cX6_readFormula 67 = .ok (.aload_n 1, 1) := by decide +kernel
theorem dX6_readFormula_68 : decode cX6_readFormula 68 = .ok (.invokevirtual 96, 3) := by decide +kernel
theorem dX6_readFormula_71 : decode cX6_readFormula 71 = .ok (.goto 8, 3) := by decide +kernel
theorem dX6_readFormula_74 : decode cX6_readFormula 74 = .ok (.aload_n 0, 1) := by decide +kernel
theorem dX6_readFormula_75 : decode cX6_readFormula 75 = .ok (.aload_n 1, 1) := by decide +kernel
theorem dX6_readFormula_76 : decode cX6_readFormula 76 = .ok (.invokevirtual 100, 3) := by decide +kernel
theorem dX6_readFormula_79 : decode cX6_readFormula 79 = .ok (.istore_n 3, 1) := by decide +kernel
theorem dX6_readFormula_80 : decode cX6_readFormula 80 = .ok (.aload_n 0, 1) := by decide +kernel
theorem dX6_readFormula_81 : decode cX6_readFormula 81 = .ok (.getfield 18, 3) := by decide +kernel
theorem dX6_readFormula_84 : decode cX6_readFormula 84 = .ok (.invokevirtual 71, 3) := by decide +kernel
theorem dX6_readFormula_87 : decode cX6_readFormula 87 = .ok (.iinc 4 1, 3) := by decide +kernel
theorem dX6_readFormula_90 : decode cX6_readFormula 90 = .ok (.goto (-70), 3) := by decide +kernel
theorem dX6_readFormula_93 : decode cX6_readFormula 93 = .ok (.return_, 1) := by decide +kernel
theorem dX6_isStillWantedBehind_0 : decode cX6_isStillWantedBehind 0 = .ok (.aload_n 0, 1) := by decide +kernel
theorem dX6_isStillWantedBehind_1 : decode cX6_isStillWantedBehind 1 = .ok (.getfield 18, 3) := by decide +kernel
theorem dX6_isStillWantedBehind_4 : decode cX6_isStillWantedBehind 4 = .ok (.getfield 42, 3) := by decide +kernel
theorem dX6_isStillWantedBehind_7 : decode cX6_isStillWantedBehind 7 = .ok (.istore_n 2, 1) := by decide +kernel
theorem dX6_isStillWantedBehind_8 : decode cX6_isStillWantedBehind 8 = .ok (.iload_n 2, 1) := by decide +kernel
theorem dX6_isStillWantedBehind_9 : decode cX6_isStillWantedBehind 9 = .ok (.iconst 5, 1) := by decide +kernel
theorem dX6_isStillWantedBehind_10 : decode cX6_isStillWantedBehind 10 = .ok (.if_icmp .ne 9, 3) := by decide +kernel
theorem dX6_isStillWantedBehind_13 : decode cX6_isStillWantedBehind 13 = .ok (.aload_n 0, 1) := by decide +kernel
theorem dX6_isStillWantedBehind_14 : decode cX6_isStillWantedBehind 14 = .ok (.invokevirtual 103, 3) := by decide +kernel
theorem dX6_isStillWantedBehind_17 : decode cX6_isStillWantedBehind 17 = .ok (.iconst 1, 1) := by decide +kernel
theorem dX6_isStillWantedBehind_18 : decode cX6_isStillWantedBehind 18 = .ok (.ireturn, 1) := by decide +kernel
theorem dX6_isStillWantedBehind_19 : decode cX6_isStillWantedBehind 19 = .ok (.iload_n 2, 1) := by decide +kernel
theorem dX6_isStillWantedBehind_20 : decode cX6_isStillWantedBehind 20 = .ok (.bipush 17, 2) := by decide +kernel
theorem dX6_isStillWantedBehind_22 : decode cX6_isStillWantedBehind 22 = .ok (.if_icmp .ne 33, 3) := by decide +kernel
theorem dX6_isStillWantedBehind_25 : decode cX6_isStillWantedBehind 25 = .ok (.aload_n 0, 1) := by decide +kernel
theorem dX6_isStillWantedBehind_26 : decode cX6_isStillWantedBehind 26 = .ok (.invokevirtual 106, 3) := by decide +kernel
theorem dX6_isStillWantedBehind_29 : decode cX6_isStillWantedBehind 29 = .ok (.invokestatic 110, 3) := by decide +kernel
theorem dX6_isStillWantedBehind_32 : decode cX6_isStillWantedBehind 32 = .ok (.bipush 17, 2) := by decide +kernel
theorem dX6_isStillWantedBehind_34 : decode cX6_isStillWantedBehind 34 = .ok (.invokestatic 110, 3) := by decide +kernel
theorem dX6_isStillWantedBehind_37 : decode cX6_isStillWantedBehind 37 = .ok (.if_icmp .gt 18, 3) := by decide +kernel
theorem dX6_isStillWantedBehind_40 : decode cX6_isStillWantedBehind 40 = .ok (.aload_n 0, 1) := by decide +kernel
theorem dX6_isStillWantedBehind_41 : decode cX6_isStillWantedBehind 41 = .ok (.invokevirtual 114, 3) := by decide +kernel
theorem dX6_isStillWantedBehind_44 : decode cX6_isStillWantedBehind 44 = .ok (.ifCond .eq 9, 3) := by decide +kernel
theorem dX6_isStillWantedBehind_47 : decode cX6_isStillWantedBehind 47 = .ok (.aload_n 0, 1) := by decide +kernel
theorem dX6_isStillWantedBehind_48 : decode cX6_isStillWantedBehind 48 = .ok (.bipush 17, 2) := by decide +kernel
theorem dX6_isStillWantedBehind_50 : decode cX6_isStillWantedBehind 50 = .ok (.invokevirtual 118, 3) := by decide +kernel
theorem dX6_isStillWantedBehind_53 : decode cX6_isStillWantedBehind 53 = .ok (.iconst 1, 1) := by decide +kernel
theorem dX6_isStillWantedBehind_54 : decode cX6_isStillWantedBehind 54 = .ok (.ireturn, 1) := by decide +kernel
theorem dX6_isStillWantedBehind_55 : decode cX6_isStillWantedBehind 55 = .ok (.iload_n 2, 1) := by decide +kernel
theorem dX6_isStillWantedBehind_56 : decode cX6_isStillWantedBehind 56 = .ok (.iconst 3, 1) := by decide +kernel
theorem dX6_isStillWantedBehind_57 : decode cX6_isStillWantedBehind 57 = .ok (.if_icmp .ne 24, 3) := by decide +kernel
theorem dX6_isStillWantedBehind_60 : decode cX6_isStillWantedBehind 60 = .ok (.aload_n 0, 1) := by decide +kernel
theorem dX6_isStillWantedBehind_61 : decode cX6_isStillWantedBehind 61 = .ok (.getfield 18, 3) := by decide +kernel
theorem dX6_isStillWantedBehind_64 : decode cX6_isStillWantedBehind 64 = .ok (.getfield 81, 3) := by decide +kernel
theorem dX6_isStillWantedBehind_67 : decode cX6_isStillWantedBehind 67 = .ok (.sipush 9999, 3) := by decide +kernel
theorem dX6_isStillWantedBehind_70 : decode cX6_isStillWantedBehind 70 = .ok (.if_icmp .le 11, 3) := by decide +kernel
theorem dX6_isStillWantedBehind_73 : decode cX6_isStillWantedBehind 73 = .ok (.aload_n 0, 1) := by decide +kernel
theorem dX6_isStillWantedBehind_74 : decode cX6_isStillWantedBehind 74 = .ok (.iconst 2, 1) := by decide +kernel
theorem dX6_isStillWantedBehind_75 : decode cX6_isStillWantedBehind 75 = .ok (.invokevirtual 49, 3) := by decide +kernel
theorem dX6_isStillWantedBehind_78 : decode cX6_isStillWantedBehind 78 = .ok (.goto 56, 3) := by decide +kernel
theorem dX6_isStillWantedBehind_81 : decode cX6_isStillWantedBehind 81 = .ok (.iload_n 2, 1) := by decide +kernel
theorem dX6_isStillWantedBehind_82 : decode cX6_isStillWantedBehind 82 = .ok (.iconst 3, 1) := by decide +kernel
theorem dX6_isStillWantedBehind_83 : decode cX6_isStillWantedBehind 83 = .ok (.if_icmp .eq 23, 3) := by decide +kernel
theorem dX6_isStillWantedBehind_86 : decode cX6_isStillWantedBehind 86 = .ok (.iload_n 2, 1) := by decide +kernel
theorem dX6_isStillWantedBehind_87 : decode cX6_isStillWantedBehind 87 = .ok (.bipush 20, 2) := by decide +kernel
theorem dX6_isStillWantedBehind_89 : decode cX6_isStillWantedBehind 89 = .ok (.if_icmp .lt 9, 3) := by decide +kernel
theorem dX6_isStillWantedBehind_92 : decode cX6_isStillWantedBehind 92 = .ok (.iload_n 2, 1) := by decide +kernel
theorem dX6_isStillWantedBehind_93 : decode cX6_isStillWantedBehind 93 = .ok (.bipush 27, 2) := by decide +kernel
theorem dX6_isStillWantedBehind_95 : decode cX6_isStillWantedBehind 95 = .ok (.if_icmp .le 11, 3) := by decide +kernel
theorem dX6_isStillWantedBehind_98 : decode cX6_isStillWantedBehind 98 = .ok (.aload_n 0, 1) := by decide +kernel
theorem dX6_isStillWantedBehind_99 : decode cX6_isStillWantedBehind 99 = .ok (.iconst 1, 1) := by decide +kernel
theorem dX6_isStillWantedBehind_100 : decode cX6_isStillWantedBehind 100 = .ok (.invokevirtual 49, 3) := by decide +kernel
theorem dX6_isStillWantedBehind_103 : decode cX6_isStillWantedBehind 103 = .ok (.goto 31, 3) := by decide +kernel
theorem dX6_isStillWantedBehind_106 : decode cX6_isStillWantedBehind 106 = .ok (.aload_n 0, 1) := by decide +kernel
theorem dX6_isStillWantedBehind_107 : decode cX6_isStillWantedBehind 107 = .ok (.invokevirtual 114, 3) := by decide +kernel
theorem dX6_isStillWantedBehind_110 : decode cX6_isStillWantedBehind 110 = .ok (.ifCond .eq 24, 3) := by decide +kernel
theorem dX6_isStillWantedBehind_113 : decode cX6_isStillWantedBehind 113 = .ok (.aload_n 1, 1) := by decide +kernel
theorem dX6_isStillWantedBehind_114 : decode cX6_isStillWantedBehind 114 = .ok (.iload_n 2, 1) := by decide +kernel
theorem dX6_isStillWantedBehind_115 : decode cX6_isStillWantedBehind 115 = .ok (.iconst 3, 1) := by decide +kernel
theorem dX6_isStillWantedBehind_116 : decode cX6_isStillWantedBehind 116 = .ok (.if_icmp .ne 13, 3) := by decide +kernel
theorem dX6_isStillWantedBehind_119 : decode cX6_isStillWantedBehind 119 = .ok (.aload_n 0, 1) := by decide +kernel
theorem dX6_isStillWantedBehind_120 : decode cX6_isStillWantedBehind 120 = .ok (.getfield 18, 3) := by decide +kernel
theorem dX6_isStillWantedBehind_123 : decode cX6_isStillWantedBehind 123 = .ok (.getfield 81, 3) := by decide +kernel
theorem dX6_isStillWantedBehind_126 : decode cX6_isStillWantedBehind 126 = .ok (.goto 5, 3) := by decide +kernel
theorem dX6_isStillWantedBehind_129 : decode cX6_isStillWantedBehind 129 = .ok (.iload_n 2, 1) := by decide +kernel
theorem dX6_isStillWantedBehind_130 : decode cX6_isStillWantedBehind 130 = .ok (.ineg, 1) := by decide +kernel
theorem dX6_isStillWantedBehind_131 : decode cX6_isStillWantedBehind 131 = .ok (.invokevirtual 121, 3) := by decide +kernel
theorem dX6_isStillWantedBehind_134 : decode cX6_isStillWantedBehind 134 = .ok (.iconst 0, 1) := by decide +kernel
theorem dX6_isStillWantedBehind_135 : decode cX6_isStillWantedBehind 135 = .ok (.ireturn, 1) := by decide +kernel
theorem dX6_isWantedBehindSign_0 : decode cX6_isWantedBehindSign 0 = .ok (.aload_n 0, 1) := by decide +kernel
theorem dX6_isWantedBehindSign_1 : decode cX6_isWantedBehindSign 1 = .ok (.getfield 18, 3) := by decide +kernel
theorem dX6_isWantedBehindSign_4 : decode cX6_isWantedBehindSign 4 = .ok (.getfield 42, 3) := by decide +kernel
theorem dX6_isWantedBehindSign_7 : decode cX6_isWantedBehindSign 7 = .ok (.istore_n 2, 1) := by decide +kernel
theorem dX6_isWantedBehindSign_8 : decode cX6_isWantedBehindSign 8 = .ok (.iload_n 2, 1) := by decide +kernel
theorem dX6_isWantedBehindSign_9 : decode cX6_isWantedBehindSign 9 = .ok (.bipush 6, 2) := by decide +kernel
theorem dX6_isWantedBehindSign_11 : decode cX6_isWantedBehindSign 11 = .ok (.if_icmp .ne 38, 3) := by decide +kernel
theorem dX6_isWantedBehindSign_14 : decode cX6_isWantedBehindSign 14 = .ok (.aload_n 0, 1) := by decide +kernel
theorem dX6_isWantedBehindSign_15 : decode cX6_isWantedBehindSign 15 = .ok (.getfield 90, 3) := by decide +kernel
theorem dX6_isWantedBehindSign_18 : decode cX6_isWantedBehindSign 18 = .ok (.ifCond .le 31, 3) := by decide +kernel
theorem dX6_isWantedBehindSign_21 : decode cX6_isWantedBehindSign 21 = .ok (.aload_n 0, 1) := by decide +kernel
theorem dX6_isWantedBehindSign_22 : decode cX6_isWantedBehindSign 22 = .ok (.aload_n 1, 1) := by decide +kernel
theorem dX6_isWantedBehindSign_23 : decode cX6_isWantedBehindSign 23 = .ok (.iconst 0, 1) := by decide +kernel
theorem dX6_isWantedBehindSign_24 : decode cX6_isWantedBehindSign 24 = .ok (.invokevirtual 93, 3) := by decide +kernel
theorem dX6_isWantedBehindSign_27 : decode cX6_isWantedBehindSign 27 = .ok (.aload_n 0, 1) := by decide +kernel
theorem dX6_isWantedBehindSign_28 : decode cX6_isWantedBehindSign 28 = .ok (.dup, 1) := by decide +kernel
theorem dX6_isWantedBehindSign_29 : decode cX6_isWantedBehindSign 29 = .ok (.getfield 90, 3) := by decide +kernel
theorem dX6_isWantedBehindSign_32 : decode cX6_isWantedBehindSign 32 = .ok (.iconst 1, 1) := by decide +kernel
theorem dX6_isWantedBehindSign_33 : decode cX6_isWantedBehindSign 33 = .ok (.isub, 1) := by decide +kernel
theorem dX6_isWantedBehindSign_34 : decode cX6_isWantedBehindSign 34 = .ok (.putfield 90, 3) := by decide +kernel
theorem dX6_isWantedBehindSign_37 : decode cX6_isWantedBehindSign 37 = .ok (.aload_n 0, 1) := by decide +kernel
theorem dX6_isWantedBehindSign_38 : decode cX6_isWantedBehindSign 38 = .ok (.dup, 1) := by decide +kernel
theorem dX6_isWantedBehindSign_39 : decode cX6_isWantedBehindSign 39 = .ok (.getfield 87, 3) := by decide +kernel
theorem dX6_isWantedBehindSign_42 : decode cX6_isWantedBehindSign 42 = .ok (.iconst 1, 1) := by decide +kernel
theorem dX6_isWantedBehindSign_43 : decode cX6_isWantedBehindSign 43 = .ok (.isub, 1) := by decide +kernel
theorem dX6_isWantedBehindSign_44 : decode cX6_isWantedBehindSign 44 = .ok (.putfield 87, 3) := by decide +kernel
theorem dX6_isWantedBehindSign_47 : decode cX6_isWantedBehindSign 47 = .ok (.iconst 0, 1) := by decide +kernel
theorem dX6_isWantedBehindSign_48 : decode cX6_isWantedBehindSign 48 = .ok (.ireturn, 1) := by decide +kernel
theorem dX6_isWantedBehindSign_49 : decode cX6_isWantedBehindSign 49 = .ok (.iload_n 2, 1) := by decide +kernel
theorem dX6_isWantedBehindSign_50 : decode cX6_isWantedBehindSign 50 = .ok (.invokestatic 110, 3) := by decide +kernel
theorem dX6_isWantedBehindSign_53 : decode cX6_isWantedBehindSign 53 = .ok (.istore_n 3, 1) := by decide +kernel
theorem dX6_isWantedBehindSign_54 : decode cX6_isWantedBehindSign 54 = .ok (.iload_n 3, 1) := by decide +kernel
theorem dX6_isWantedBehindSign_55 : decode cX6_isWantedBehindSign 55 = .ok (.ifCond .eq 9, 3) := by decide +kernel
theorem dX6_isWantedBehindSign_58 : decode cX6_isWantedBehindSign 58 = .ok (.iload_n 2, 1) := by decide +kernel
theorem dX6_isWantedBehindSign_59 : decode cX6_isWantedBehindSign 59 = .ok (.bipush 17, 2) := by decide +kernel
theorem dX6_isWantedBehindSign_61 : decode cX6_isWantedBehindSign 61 = .ok (.if_icmp .ne 10, 3) := by decide +kernel
theorem dX6_isWantedBehindSign_64 : decode cX6_isWantedBehindSign 64 = .ok (.aload_n 0, 1) := by decide +kernel
theorem dX6_isWantedBehindSign_65 : decode cX6_isWantedBehindSign 65 = .ok (.iconst 1, 1) := by decide +kernel
theorem dX6_isWantedBehindSign_66 : decode cX6_isWantedBehindSign 66 = .ok (.invokevirtual 49, 3) := by decide +kernel
theorem dX6_isWantedBehindSign_69 : decode cX6_isWantedBehindSign 69 = .ok (.iconst 1, 1) := by decide +kernel
theorem dX6_isWantedBehindSign_70 : decode cX6_isWantedBehindSign 70 = .ok (.ireturn, 1) := by decide +kernel
theorem dX6_isWantedBehindSign_71 : decode cX6_isWantedBehindSign 71 = .ok (.iload_n 3, 1) := by decide +kernel
theorem dX6_isWantedBehindSign_72 : decode cX6_isWantedBehindSign 72 = .ok (.bipush 9, 2) := by decide +kernel
theorem dX6_isWantedBehindSign_74 : decode cX6_isWantedBehindSign 74 = .ok (.invokestatic 110, 3) := by decide +kernel
theorem dX6_isWantedBehindSign_77 : decode cX6_isWantedBehindSign 77 = .ok (.if_icmp .ne 7, 3) := by decide +kernel
theorem dX6_isWantedBehindSign_80 : decode cX6_isWantedBehindSign 80 = .ok (.iconst 1, 1) := by decide +kernel
theorem dX6_isWantedBehindSign_81 : decode cX6_isWantedBehindSign 81 = .ok (.goto 4, 3) := by decide +kernel
theorem dX6_isWantedBehindSign_84 : decode cX6_isWantedBehindSign 84 = .ok (.iconst 0, 1) := by decide +kernel
theorem dX6_isWantedBehindSign_85 : decode cX6_isWantedBehindSign 85 = .ok (.istore 4, 2) := by decide +kernel
theorem dX6_isWantedBehindSign_87 : decode cX6_isWantedBehindSign 87 = .ok (.aload_n 0, 1) := by decide +kernel
theorem dX6_isWantedBehindSign_88 : decode cX6_isWantedBehindSign 88 = .ok (.aload_n 1, 1) := by decide +kernel
theorem dX6_isWantedBehindSign_89 : decode cX6_isWantedBehindSign 89 = .ok (.iload 4, 2) := by decide +kernel
theorem dX6_isWantedBehindSign_91 : decode cX6_isWantedBehindSign 91 = .ok (.ifCond .eq 9, 3) := by decide +kernel
theorem dX6_isWantedBehindSign_94 : decode cX6_isWantedBehindSign 94 = .ok (.iload_n 3, 1) := by decide +kernel
theorem dX6_isWantedBehindSign_95 : decode cX6_isWantedBehindSign 95 = .ok (.iconst 1, 1) := by decide +kernel
theorem dX6_isWantedBehindSign_96 : decode cX6_isWantedBehindSign 96 = .ok (.iadd, 1) := by decide +kernel
theorem dX6_isWantedBehindSign_97 : decode cX6_isWantedBehindSign 97 = .ok (.goto 4, 3) := by decide +kernel
theorem dX6_isWantedBehindSign_100 : decode cX6_isWantedBehindSign 100 = .ok (.iload_n 3, 1) := by decide +kernel
theorem dX6_isWantedBehindSign_101 : decode cX6_isWantedBehindSign 101 = .ok (.invokevirtual 93, 3) := by decide +kernel
theorem dX6_isWantedBehindSign_104 : decode cX6_isWantedBehindSign 104 = .ok (.iload 4, 2) := by decide +kernel
theorem dX6_isWantedBehindSign_106 : decode cX6_isWantedBehindSign 106 = .ok (.ifCond .eq 22, 3) := by decide +kernel
theorem dX6_isWantedBehindSign_109 : decode cX6_isWantedBehindSign 109 = .ok (.aload_n 0, 1) := by decide +kernel
theorem dX6_isWantedBehindSign_110 : decode cX6_isWantedBehindSign 110 = .ok (.invokevirtual 106, 3) := by decide +kernel
theorem dX6_isWantedBehindSign_113 : decode cX6_isWantedBehindSign 113 = .ok (.invokestatic 110, 3) := by decide +kernel
theorem dX6_isWantedBehindSign_116 : decode cX6_isWantedBehindSign 116 = .ok (.iload_n 3, 1) := by decide +kernel
theorem dX6_isWantedBehindSign_117 : decode cX6_isWantedBehindSign 117 = .ok (.if_icmp .ne 11, 3) := by decide +kernel
theorem dX6_isWantedBehindSign_120 : decode cX6_isWantedBehindSign 120 = .ok (.aload_n 0, 1) := by decide +kernel
theorem dX6_isWantedBehindSign_121 : decode cX6_isWantedBehindSign 121 = .ok (.iconst 1, 1) := by decide +kernel
theorem dX6_isWantedBehindSign_122 : decode cX6_isWantedBehindSign 122 = .ok (.invokevirtual 49, 3) := by decide +kernel
theorem dX6_isWantedBehindSign_125 : decode cX6_isWantedBehindSign 125 = .ok (.goto 15, 3) := by decide +kernel
theorem dX6_isWantedBehindSign_128 : decode cX6_isWantedBehindSign 128 = .ok (.aload_n 0, 1) := by decide +kernel
theorem dX6_isWantedBehindSign_129 : decode cX6_isWantedBehindSign 129 = .ok (.invokevirtual 114, 3) := by decide +kernel
theorem dX6_isWantedBehindSign_132 : decode cX6_isWantedBehindSign 132 = .ok (.ifCond .eq 8, 3) := by decide +kernel
theorem dX6_isWantedBehindSign_135 : decode cX6_isWantedBehindSign 135 = .ok (.aload_n 0, 1) := by decide +kernel
theorem dX6_isWantedBehindSign_136 : decode cX6_isWantedBehindSign 136 = .ok (.iload_n 2, 1) := by decide +kernel
theorem dX6_isWantedBehindSign_137 : decode cX6_isWantedBehindSign 137 = .ok (.invokevirtual 118, 3) := by decide +kernel
theorem dX6_isWantedBehindSign_140 : decode cX6_isWantedBehindSign 140 = .ok (.iconst 1, 1) := by decide +kernel
theorem dX6_isWantedBehindSign_141 : decode cX6_isWantedBehindSign 141 = .ok (.ireturn, 1) := by decide +kernel
theorem dX6_openOne_0 : decode cX6_openOne 0 = .ok (.aload_n 0, 1) := by decide +kernel
theorem dX6_openOne_1 : decode cX6_openOne 1 = .ok (.getfield 90, 3) := by decide +kernel
theorem dX6_openOne_4 : decode cX6_openOne 4 = .ok (.bipush 8, 2) := by decide +kernel
theorem dX6_openOne_6 : decode cX6_openOne 6 = .ok (.if_icmp .lt 9, 3) := by decide +kernel
theorem dX6_openOne_9 : decode cX6_openOne 9 = .ok (.aload_n 0, 1) := by decide +kernel
theorem dX6_openOne_10 : decode cX6_openOne 10 = .ok (.iconst 2, 1) := by decide +kernel
theorem dX6_openOne_11 : decode cX6_openOne 11 = .ok (.invokevirtual 49, 3) := by decide +kernel
theorem dX6_openOne_14 : decode cX6_openOne 14 = .ok (.return_, 1) := by decide +kernel
theorem dX6_openOne_15 : decode cX6_openOne 15 = .ok (.aload_n 0, 1) := by decide +kernel
theorem dX6_openOne_16 : decode cX6_openOne 16 = .ok (.dup, 1) := by decide +kernel
theorem dX6_openOne_17 : decode cX6_openOne 17 = .ok (.getfield 90, 3) := by decide +kernel
theorem dX6_openOne_20 : decode cX6_openOne 20 = .ok (.iconst 1, 1) := by decide +kernel
theorem dX6_openOne_21 : decode cX6_openOne 21 = .ok (.iadd, 1) := by decide +kernel
theorem dX6_openOne_22 : decode cX6_openOne 22 = .ok (.putfield 90, 3) := by decide +kernel
theorem dX6_openOne_25 : decode cX6_openOne 25 = .ok (.aload_n 0, 1) := by decide +kernel
theorem dX6_openOne_26 : decode cX6_openOne 26 = .ok (.iconst 5, 1) := by decide +kernel
theorem dX6_openOne_27 : decode cX6_openOne 27 = .ok (.invokevirtual 118, 3) := by decide +kernel
theorem dX6_openOne_30 : decode cX6_openOne 30 = .ok (.return_, 1) := by decide +kernel
theorem dX6_tieKnot_0 : decode cX6_tieKnot 0 = .ok (.aload_n 0, 1) := by decide +kernel
theorem dX6_tieKnot_1 : decode cX6_tieKnot 1 = .ok (.getfield 26, 3) := by decide +kernel
theorem dX6_tieKnot_4 : decode cX6_tieKnot 4 = .ok (.getfield 124, 3) := by decide +kernel
theorem dX6_tieKnot_7 : decode cX6_tieKnot 7 = .ok (.bipush 64, 2) := by decide +kernel
theorem dX6_tieKnot_9 : decode cX6_tieKnot 9 = .ok (.if_icmp .lt 10, 3) := by decide +kernel
theorem dX6_tieKnot_12 : decode cX6_tieKnot 12 = .ok (.aload_n 0, 1) := by decide +kernel
theorem dX6_tieKnot_13 : decode cX6_tieKnot 13 = .ok (.iconst 2, 1) := by decide +kernel
theorem dX6_tieKnot_14 : decode cX6_tieKnot 14 = .ok (.invokevirtual 49, 3) := by decide +kernel
theorem dX6_tieKnot_17 : decode cX6_tieKnot 17 = .ok (.iconst 0, 1) := by decide +kernel
theorem dX6_tieKnot_18 : decode cX6_tieKnot 18 = .ok (.ireturn, 1) := by decide +kernel
theorem dX6_tieKnot_19 : decode cX6_tieKnot 19 = .ok (.aload_n 0, 1) := by decide +kernel
theorem dX6_tieKnot_20 : decode cX6_tieKnot 20 = .ok (.getfield 26, 3) := by decide +kernel
theorem dX6_tieKnot_23 : decode cX6_tieKnot 23 = .ok (.dup, 1) := by decide +kernel
theorem dX6_tieKnot_24 : decode cX6_tieKnot 24 = .ok (.getfield 124, 3) := by decide +kernel
theorem dX6_tieKnot_27 : decode cX6_tieKnot 27 = .ok (.iconst 1, 1) := by decide +kernel
theorem dX6_tieKnot_28 : decode cX6_tieKnot 28 = .ok (.iadd, 1) := by decide +kernel
theorem dX6_tieKnot_29 : decode cX6_tieKnot 29 = .ok (.putfield 124, 3) := by decide +kernel
theorem dX6_tieKnot_32 : decode cX6_tieKnot 32 = .ok (.iconst 1, 1) := by decide +kernel
theorem dX6_tieKnot_33 : decode cX6_tieKnot 33 = .ok (.ireturn, 1) := by decide +kernel
theorem dX6_await_0 : decode cX6_await 0 = .ok (.aload_n 0, 1) := by decide +kernel
theorem dX6_await_1 : decode cX6_await 1 = .ok (.getfield 87, 3) := by decide +kernel
theorem dX6_await_4 : decode cX6_await 4 = .ok (.aload_n 0, 1) := by decide +kernel
theorem dX6_await_5 : decode cX6_await 5 = .ok (.getfield 22, 3) := by decide +kernel
theorem dX6_await_8 : decode cX6_await 8 = .ok (.arraylength, 1) := by decide +kernel
theorem dX6_await_9 : decode cX6_await 9 = .ok (.if_icmp .ge 23, 3) := by decide +kernel
theorem dX6_await_12 : decode cX6_await 12 = .ok (.aload_n 0, 1) := by decide +kernel
theorem dX6_await_13 : decode cX6_await 13 = .ok (.getfield 22, 3) := by decide +kernel
theorem dX6_await_16 : decode cX6_await 16 = .ok (.aload_n 0, 1) := by decide +kernel
theorem dX6_await_17 : decode cX6_await 17 = .ok (.getfield 87, 3) := by decide +kernel
theorem dX6_await_20 : decode cX6_await 20 = .ok (.iload_n 1, 1) := by decide +kernel
theorem dX6_await_21 : decode cX6_await 21 = .ok (.iastore, 1) := by decide +kernel
theorem dX6_await_22 : decode cX6_await 22 = .ok (.aload_n 0, 1) := by decide +kernel
theorem dX6_await_23 : decode cX6_await 23 = .ok (.dup, 1) := by decide +kernel
theorem dX6_await_24 : decode cX6_await 24 = .ok (.getfield 87, 3) := by decide +kernel
theorem dX6_await_27 : decode cX6_await 27 = .ok (.iconst 1, 1) := by decide +kernel
theorem dX6_await_28 : decode cX6_await 28 = .ok (.iadd, 1) := by decide +kernel
theorem dX6_await_29 : decode cX6_await 29 = .ok (.putfield 87, 3) := by decide +kernel
theorem dX6_await_32 : decode cX6_await 32 = .ok (.return_, 1) := by decide +kernel
theorem dX6_lastWaiting_0 : decode cX6_lastWaiting 0 = .ok (.aload_n 0, 1) := by decide +kernel
theorem dX6_lastWaiting_1 : decode cX6_lastWaiting 1 = .ok (.getfield 87, 3) := by decide +kernel
theorem dX6_lastWaiting_4 : decode cX6_lastWaiting 4 = .ok (.ifCond .le 17, 3) := by decide +kernel
theorem dX6_lastWaiting_7 : decode cX6_lastWaiting 7 = .ok (.aload_n 0, 1) := by decide +kernel
theorem dX6_lastWaiting_8 : decode cX6_lastWaiting 8 = .ok (.getfield 22, 3) := by decide +kernel
theorem dX6_lastWaiting_11 : decode cX6_lastWaiting 11 = .ok (.aload_n 0, 1) := by decide +kernel
theorem dX6_lastWaiting_12 : decode cX6_lastWaiting 12 = .ok (.getfield 87, 3) := by decide +kernel
theorem dX6_lastWaiting_15 : decode cX6_lastWaiting 15 = .ok (.iconst 1, 1) := by decide +kernel
theorem dX6_lastWaiting_16 : decode cX6_lastWaiting 16 = .ok (.isub, 1) := by decide +kernel
theorem dX6_lastWaiting_17 : decode cX6_lastWaiting 17 = .ok (.iaload, 1) := by decide +kernel
theorem dX6_lastWaiting_18 : decode cX6_lastWaiting 18 = .ok (.goto 4, 3) := by decide +kernel
theorem dX6_lastWaiting_21 : decode cX6_lastWaiting 21 = .ok (.iconst 5, 1) := by decide +kernel
theorem dX6_lastWaiting_22 : decode cX6_lastWaiting 22 = .ok (.ireturn, 1) := by decide +kernel
theorem dX6_release_0 : decode cX6_release 0 = .ok (.aload_n 0, 1) := by decide +kernel
theorem dX6_release_1 : decode cX6_release 1 = .ok (.getfield 87, 3) := by decide +kernel
theorem dX6_release_4 : decode cX6_release 4 = .ok (.ifCond .le 63, 3) := by decide +kernel
theorem dX6_release_7 : decode cX6_release 7 = .ok (.aload_n 0, 1) := by decide +kernel
theorem dX6_release_8 : decode cX6_release 8 = .ok (.getfield 22, 3) := by decide +kernel
theorem dX6_release_11 : decode cX6_release 11 = .ok (.aload_n 0, 1) := by decide +kernel
theorem dX6_release_12 : decode cX6_release 12 = .ok (.getfield 87, 3) := by decide +kernel
theorem dX6_release_15 : decode cX6_release 15 = .ok (.iconst 1, 1) := by decide +kernel
theorem dX6_release_16 : decode cX6_release 16 = .ok (.isub, 1) := by decide +kernel
theorem dX6_release_17 : decode cX6_release 17 = .ok (.iaload, 1) := by decide +kernel
theorem dX6_release_18 : decode cX6_release 18 = .ok (.iconst 5, 1) := by decide +kernel
theorem dX6_release_19 : decode cX6_release 19 = .ok (.if_icmp .eq 48, 3) := by decide +kernel
theorem dX6_release_22 : decode cX6_release 22 = .ok (.aload_n 0, 1) := by decide +kernel
theorem dX6_release_23 : decode cX6_release 23 = .ok (.getfield 22, 3) := by decide +kernel
theorem dX6_release_26 : decode cX6_release 26 = .ok (.aload_n 0, 1) := by decide +kernel
theorem dX6_release_27 : decode cX6_release 27 = .ok (.getfield 87, 3) := by decide +kernel
theorem dX6_release_30 : decode cX6_release 30 = .ok (.iconst 1, 1) := by decide +kernel
theorem dX6_release_31 : decode cX6_release 31 = .ok (.isub, 1) := by decide +kernel
theorem dX6_release_32 : decode cX6_release 32 = .ok (.iaload, 1) := by decide +kernel
theorem dX6_release_33 : decode cX6_release 33 = .ok (.invokestatic 110, 3) := by decide +kernel
theorem dX6_release_36 : decode cX6_release 36 = .ok (.iload_n 2, 1) := by decide +kernel
theorem dX6_release_37 : decode cX6_release 37 = .ok (.if_icmp .lt 30, 3) := by decide +kernel
theorem dX6_release_40 : decode cX6_release 40 = .ok (.aload_n 0, 1) := by decide +kernel
theorem dX6_release_41 : decode cX6_release 41 = .ok (.dup, 1) := by decide +kernel
theorem dX6_release_42 : decode cX6_release 42 = .ok (.getfield 87, 3) := by decide +kernel
theorem dX6_release_45 : decode cX6_release 45 = .ok (.iconst 1, 1) := by decide +kernel
theorem dX6_release_46 : decode cX6_release 46 = .ok (.isub, 1) := by decide +kernel
theorem dX6_release_47 : decode cX6_release 47 = .ok (.putfield 87, 3) := by decide +kernel
theorem dX6_release_50 : decode cX6_release 50 = .ok (.aload_n 1, 1) := by decide +kernel
theorem dX6_release_51 : decode cX6_release 51 = .ok (.aload_n 0, 1) := by decide +kernel
theorem dX6_release_52 : decode cX6_release 52 = .ok (.getfield 22, 3) := by decide +kernel
theorem dX6_release_55 : decode cX6_release 55 = .ok (.aload_n 0, 1) := by decide +kernel
theorem dX6_release_56 : decode cX6_release 56 = .ok (.getfield 87, 3) := by decide +kernel
theorem dX6_release_59 : decode cX6_release 59 = .ok (.iaload, 1) := by decide +kernel
theorem dX6_release_60 : decode cX6_release 60 = .ok (.ineg, 1) := by decide +kernel
theorem dX6_release_61 : decode cX6_release 61 = .ok (.invokevirtual 121, 3) := by decide +kernel
theorem dX6_release_64 : decode cX6_release 64 = .ok (.goto (-64), 3) := by decide +kernel
theorem dX6_release_67 : decode cX6_release 67 = .ok (.return_, 1) := by decide +kernel
theorem dX6_fail_0 : decode cX6_fail 0 = .ok (.aload_n 0, 1) := by decide +kernel
theorem dX6_fail_1 : decode cX6_fail 1 = .ok (.getfield 30, 3) := by decide +kernel
theorem dX6_fail_4 : decode cX6_fail 4 = .ok (.ifCond .ne 19, 3) := by decide +kernel
theorem dX6_fail_7 : decode cX6_fail 7 = .ok (.aload_n 0, 1) := by decide +kernel
theorem dX6_fail_8 : decode cX6_fail 8 = .ok (.iload_n 1, 1) := by decide +kernel
theorem dX6_fail_9 : decode cX6_fail 9 = .ok (.putfield 30, 3) := by decide +kernel
theorem dX6_fail_12 : decode cX6_fail 12 = .ok (.aload_n 0, 1) := by decide +kernel
theorem dX6_fail_13 : decode cX6_fail 13 = .ok (.aload_n 0, 1) := by decide +kernel
theorem dX6_fail_14 : decode cX6_fail 14 = .ok (.getfield 18, 3) := by decide +kernel
theorem dX6_fail_17 : decode cX6_fail 17 = .ok (.getfield 127, 3) := by decide +kernel
theorem dX6_fail_20 : decode cX6_fail 20 = .ok (.putfield 9, 3) := by decide +kernel
theorem dX6_fail_23 : decode cX6_fail 23 = .ok (.return_, 1) := by decide +kernel
theorem dX6_strengthOf_0 : decode cX6_strengthOf 0 = .ok (.iload_n 0, 1) := by decide +kernel
theorem dX6_strengthOf_1 : decode cX6_strengthOf 1 = .ok (.tableswitch 80 7 19 #[73, 73, 73, 73, 73, 73, 75, 75, 77, 77, 71, 69, 67], 67) := by decide +kernel
theorem dX6_strengthOf_68 : decode cX6_strengthOf 68 = .ok (.iconst 1, 1) := by decide +kernel
theorem dX6_strengthOf_69 : decode cX6_strengthOf 69 = .ok (.ireturn, 1) := by decide +kernel
theorem dX6_strengthOf_70 : decode cX6_strengthOf 70 = .ok (.iconst 2, 1) := by decide +kernel
theorem dX6_strengthOf_71 : decode cX6_strengthOf 71 = .ok (.ireturn, 1) := by decide +kernel
theorem dX6_strengthOf_72 : decode cX6_strengthOf 72 = .ok (.iconst 3, 1) := by decide +kernel
theorem dX6_strengthOf_73 : decode cX6_strengthOf 73 = .ok (.ireturn, 1) := by decide +kernel
theorem dX6_strengthOf_74 : decode cX6_strengthOf 74 = .ok (.iconst 4, 1) := by decide +kernel
theorem dX6_strengthOf_75 : decode cX6_strengthOf 75 = .ok (.ireturn, 1) := by decide +kernel
theorem dX6_strengthOf_76 : decode cX6_strengthOf 76 = .ok (.iconst 5, 1) := by decide +kernel
theorem dX6_strengthOf_77 : decode cX6_strengthOf 77 = .ok (.ireturn, 1) := by decide +kernel
theorem dX6_strengthOf_78 : decode cX6_strengthOf 78 = .ok (.bipush 6, 2) := by decide +kernel
theorem dX6_strengthOf_80 : decode cX6_strengthOf 80 = .ok (.ireturn, 1) := by decide +kernel
theorem dX6_strengthOf_81 : decode cX6_strengthOf 81 = .ok (.iconst 0, 1) := by decide +kernel
theorem dX6_strengthOf_82 : decode cX6_strengthOf 82 = .ok (.ireturn, 1) := by decide +kernel
theorem dX7_init_0 : decode cX7_init 0 = .ok (.aload_n 0, 1) := by decide +kernel
theorem dX7_init_1 : decode cX7_init 1 = .ok (.invokespecial 3, 3) := by decide +kernel
theorem dX7_init_4 : decode cX7_init 4 = .ok (.aload_n 0, 1) := by decide +kernel
theorem dX7_init_5 : decode cX7_init 5 = .ok (.iconst 2, 1) := by decide +kernel
theorem dX7_init_6 : decode cX7_init 6 = .ok (.putfield 9, 3) := by decide +kernel
theorem dX7_init_9 : decode cX7_init 9 = .ok (.aload_n 0, 1) := by decide +kernel
theorem dX7_init_10 : decode cX7_init 10 = .ok (.new 15, 3) := by decide +kernel
theorem dX7_init_13 : decode cX7_init 13 = .ok (.dup, 1) := by decide +kernel
theorem dX7_init_14 : decode cX7_init 14 = .ok (.invokespecial 17, 3) := by decide +kernel
theorem dX7_init_17 : decode cX7_init 17 = .ok (.putfield 18, 3) := by decide +kernel
theorem dX7_init_20 : decode cX7_init 20 = .ok (.aload_n 0, 1) := by decide +kernel
theorem dX7_init_21 : decode cX7_init 21 = .ok (.new 15, 3) := by decide +kernel
theorem dX7_init_24 : decode cX7_init 24 = .ok (.dup, 1) := by decide +kernel
theorem dX7_init_25 : decode cX7_init 25 = .ok (.invokespecial 17, 3) := by decide +kernel
theorem dX7_init_28 : decode cX7_init 28 = .ok (.putfield 22, 3) := by decide +kernel
theorem dX7_init_31 : decode cX7_init 31 = .ok (.return_, 1) := by decide +kernel
theorem dX7_clear_0 : decode cX7_clear 0 = .ok (.aload_n 0, 1) := by decide +kernel
theorem dX7_clear_1 : decode cX7_clear 1 = .ok (.iconst 0, 1) := by decide +kernel
theorem dX7_clear_2 : decode cX7_clear 2 = .ok (.putfield 25, 3) := by decide +kernel
theorem dX7_clear_5 : decode cX7_clear 5 = .ok (.aload_n 0, 1) := by decide +kernel
theorem dX7_clear_6 : decode cX7_clear 6 = .ok (.iconst 0, 1) := by decide +kernel
theorem dX7_clear_7 : decode cX7_clear 7 = .ok (.putfield 28, 3) := by decide +kernel
theorem dX7_clear_10 : decode cX7_clear 10 = .ok (.aload_n 0, 1) := by decide +kernel
theorem dX7_clear_11 : decode cX7_clear 11 = .ok (.iconst 2, 1) := by decide +kernel
theorem dX7_clear_12 : decode cX7_clear 12 = .ok (.putfield 9, 3) := by decide +kernel
theorem dX7_clear_15 : decode cX7_clear 15 = .ok (.aload_n 0, 1) := by decide +kernel
theorem dX7_clear_16 : decode cX7_clear 16 = .ok (.iconst 0, 1) := by decide +kernel
theorem dX7_clear_17 : decode cX7_clear 17 = .ok (.putfield 31, 3) := by decide +kernel
theorem dX7_clear_20 : decode cX7_clear 20 = .ok (.aload_n 0, 1) := by decide +kernel
theorem dX7_clear_21 : decode cX7_clear 21 = .ok (.getfield 18, 3) := by decide +kernel
theorem dX7_clear_24 : decode cX7_clear 24 = .ok (.invokevirtual 35, 3) := by decide +kernel
theorem dX7_clear_27 : decode cX7_clear 27 = .ok (.aload_n 0, 1) := by decide +kernel
theorem dX7_clear_28 : decode cX7_clear 28 = .ok (.getfield 22, 3) := by decide +kernel
theorem dX7_clear_31 : decode cX7_clear 31 = .ok (.invokevirtual 35, 3) := by decide +kernel
theorem dX7_clear_34 : decode cX7_clear 34 = .ok (.return_, 1) := by decide +kernel
theorem dX8_init_0 : decode cX8_init 0 = .ok (.aload_n 0, 1) := by decide +kernel
theorem dX8_init_1 : decode cX8_init 1 = .ok (.invokespecial 3, 3) := by decide +kernel
theorem dX8_init_4 : decode cX8_init 4 = .ok (.aload_n 0, 1) := by decide +kernel
theorem dX8_init_5 : decode cX8_init 5 = .ok (.iconst 0, 1) := by decide +kernel
theorem dX8_init_6 : decode cX8_init 6 = .ok (.newarray .byte, 2) := by decide +kernel
theorem dX8_init_8 : decode cX8_init 8 = .ok (.putfield 9, 3) := by decide +kernel
theorem dX8_init_11 : decode cX8_init 11 = .ok (.return_, 1) := by decide +kernel
theorem dX8_start_0 : decode cX8_start 0 = .ok (.aload_n 0, 1) := by decide +kernel
theorem dX8_start_1 : decode cX8_start 1 = .ok (.aload_n 1, 1) := by decide +kernel
theorem dX8_start_2 : decode cX8_start 2 = .ok (.putfield 9, 3) := by decide +kernel
theorem dX8_start_5 : decode cX8_start 5 = .ok (.aload_n 0, 1) := by decide +kernel
theorem dX8_start_6 : decode cX8_start 6 = .ok (.iload_n 2, 1) := by decide +kernel
theorem dX8_start_7 : decode cX8_start 7 = .ok (.aload_n 1, 1) := by decide +kernel
theorem dX8_start_8 : decode cX8_start 8 = .ok (.arraylength, 1) := by decide +kernel
theorem dX8_start_9 : decode cX8_start 9 = .ok (.invokestatic 15, 3) := by decide +kernel
theorem dX8_start_12 : decode cX8_start 12 = .ok (.putfield 21, 3) := by decide +kernel
theorem dX8_start_15 : decode cX8_start 15 = .ok (.aload_n 0, 1) := by decide +kernel
theorem dX8_start_16 : decode cX8_start 16 = .ok (.iconst 0, 1) := by decide +kernel
theorem dX8_start_17 : decode cX8_start 17 = .ok (.putfield 25, 3) := by decide +kernel
theorem dX8_start_20 : decode cX8_start 20 = .ok (.aload_n 0, 1) := by decide +kernel
theorem dX8_start_21 : decode cX8_start 21 = .ok (.invokevirtual 28, 3) := by decide +kernel
theorem dX8_start_24 : decode cX8_start 24 = .ok (.return_, 1) := by decide +kernel
theorem dX8_advance_0 : decode cX8_advance 0 = .ok (.aload_n 0, 1) := by decide +kernel
theorem dX8_advance_1 : decode cX8_advance 1 = .ok (.getfield 25, 3) := by decide +kernel
theorem dX8_advance_4 : decode cX8_advance 4 = .ok (.aload_n 0, 1) := by decide +kernel
theorem dX8_advance_5 : decode cX8_advance 5 = .ok (.getfield 21, 3) := by decide +kernel
theorem dX8_advance_8 : decode cX8_advance 8 = .ok (.if_icmp .ge 44, 3) := by decide +kernel
theorem dX8_advance_11 : decode cX8_advance 11 = .ok (.aload_n 0, 1) := by decide +kernel
theorem dX8_advance_12 : decode cX8_advance 12 = .ok (.getfield 9, 3) := by decide +kernel
theorem dX8_advance_15 : decode cX8_advance 15 = .ok (.aload_n 0, 1) := by decide +kernel
theorem dX8_advance_16 : decode cX8_advance 16 = .ok (.getfield 25, 3) := by decide +kernel
theorem dX8_advance_19 : decode cX8_advance 19 = .ok (.baload, 1) := by decide +kernel
theorem dX8_advance_20 : decode cX8_advance 20 = .ok (.bipush 10, 2) := by decide +kernel
theorem dX8_advance_22 : decode cX8_advance 22 = .ok (.if_icmp .eq 17, 3) := by decide +kernel
theorem dX8_advance_25 : decode cX8_advance 25 = .ok (.aload_n 0, 1) := by decide +kernel
theorem dX8_advance_26 : decode cX8_advance 26 = .ok (.getfield 9, 3) := by decide +kernel
theorem dX8_advance_29 : decode cX8_advance 29 = .ok (.aload_n 0, 1) := by decide +kernel
theorem dX8_advance_30 : decode cX8_advance 30 = .ok (.getfield 25, 3) := by decide +kernel
theorem dX8_advance_33 : decode cX8_advance 33 = .ok (.baload, 1) := by decide +kernel
theorem dX8_advance_34 : decode cX8_advance 34 = .ok (.bipush 32, 2) := by decide +kernel
theorem dX8_advance_36 : decode cX8_advance 36 = .ok (.if_icmp .ne 16, 3) := by decide +kernel
theorem dX8_advance_39 : decode cX8_advance 39 = .ok (.aload_n 0, 1) := by decide +kernel
theorem dX8_advance_40 : decode cX8_advance 40 = .ok (.dup, 1) := by decide +kernel
theorem dX8_advance_41 : decode cX8_advance 41 = .ok (.getfield 25, 3) := by decide +kernel
theorem dX8_advance_44 : decode cX8_advance 44 = .ok (.iconst 1, 1) := by decide +kernel
theorem dX8_advance_45 : decode cX8_advance 45 = .ok (.iadd, 1) := by decide +kernel
theorem dX8_advance_46 : decode cX8_advance 46 = .ok (.putfield 25, 3) := by decide +kernel
theorem dX8_advance_49 : decode cX8_advance 49 = .ok (.goto (-49), 3) := by decide +kernel
theorem dX8_advance_52 : decode cX8_advance 52 = .ok (.aload_n 0, 1) := by decide +kernel
theorem dX8_advance_53 : decode cX8_advance 53 = .ok (.aload_n 0, 1) := by decide +kernel
theorem dX8_advance_54 : decode cX8_advance 54 = .ok (.getfield 25, 3) := by decide +kernel
theorem dX8_advance_57 : decode cX8_advance 57 = .ok (.putfield 31, 3) := by decide +kernel
theorem dX8_advance_60 : decode cX8_advance 60 = .ok (.aload_n 0, 1) := by decide +kernel
theorem dX8_advance_61 : decode cX8_advance 61 = .ok (.getfield 25, 3) := by decide +kernel
theorem dX8_advance_64 : decode cX8_advance 64 = .ok (.aload_n 0, 1) := by decide +kernel
theorem dX8_advance_65 : decode cX8_advance 65 = .ok (.getfield 21, 3) := by decide +kernel
theorem dX8_advance_68 : decode cX8_advance 68 = .ok (.if_icmp .lt 11, 3) := by decide +kernel
theorem dX8_advance_71 : decode cX8_advance 71 = .ok (.aload_n 0, 1) := by decide +kernel
theorem dX8_advance_72 : decode cX8_advance 72 = .ok (.iconst 1, 1) := by decide +kernel
theorem dX8_advance_73 : decode cX8_advance 73 = .ok (.putfield 34, 3) := by decide +kernel
theorem dX8_advance_76 : decode cX8_advance 76 = .ok (.goto 77, 3) := by decide +kernel
theorem dX8_advance_79 : decode cX8_advance 79 = .ok (.aload_n 0, 1) := by decide +kernel
theorem dX8_advance_80 : decode cX8_advance 80 = .ok (.getfield 9, 3) := by decide +kernel
theorem dX8_advance_83 : decode cX8_advance 83 = .ok (.aload_n 0, 1) := by decide +kernel
theorem dX8_advance_84 : decode cX8_advance 84 = .ok (.getfield 25, 3) := by decide +kernel
theorem dX8_advance_87 : decode cX8_advance 87 = .ok (.baload, 1) := by decide +kernel
theorem dX8_advance_88 : decode cX8_advance 88 = .ok (.bipush 97, 2) := by decide +kernel
theorem dX8_advance_90 : decode cX8_advance 90 = .ok (.if_icmp .lt 24, 3) := by decide +kernel
theorem dX8_advance_93 : decode cX8_advance 93 = .ok (.aload_n 0, 1) := by decide +kernel
theorem dX8_advance_94 : decode cX8_advance 94 = .ok (.getfield 9, 3) := by decide +kernel
theorem dX8_advance_97 : decode cX8_advance 97 = .ok (.aload_n 0, 1) := by decide +kernel
theorem dX8_advance_98 : decode cX8_advance 98 = .ok (.getfield 25, 3) := by decide +kernel
theorem dX8_advance_101 : decode cX8_advance 101 = .ok (.baload, 1) := by decide +kernel
theorem dX8_advance_102 : decode cX8_advance 102 = .ok (.bipush 122, 2) := by decide +kernel
theorem dX8_advance_104 : decode cX8_advance 104 = .ok (.if_icmp .gt 10, 3) := by decide +kernel
theorem dX8_advance_107 : decode cX8_advance 107 = .ok (.aload_n 0, 1) := by decide +kernel
theorem dX8_advance_108 : decode cX8_advance 108 = .ok (.invokevirtual 37, 3) := by decide +kernel
theorem dX8_advance_111 : decode cX8_advance 111 = .ok (.goto 42, 3) := by decide +kernel
theorem dX8_advance_114 : decode cX8_advance 114 = .ok (.aload_n 0, 1) := by decide +kernel
theorem dX8_advance_115 : decode cX8_advance 115 = .ok (.getfield 9, 3) := by decide +kernel
theorem dX8_advance_118 : decode cX8_advance 118 = .ok (.aload_n 0, 1) := by decide +kernel
theorem dX8_advance_119 : decode cX8_advance 119 = .ok (.getfield 25, 3) := by decide +kernel
theorem dX8_advance_122 : decode cX8_advance 122 = .ok (.baload, 1) := by decide +kernel
theorem dX8_advance_123 : decode cX8_advance 123 = .ok (.bipush 48, 2) := by decide +kernel
theorem dX8_advance_125 : decode cX8_advance 125 = .ok (.if_icmp .lt 24, 3) := by decide +kernel
theorem dX8_advance_128 : decode cX8_advance 128 = .ok (.aload_n 0, 1) := by decide +kernel
theorem dX8_advance_129 : decode cX8_advance 129 = .ok (.getfield 9, 3) := by decide +kernel
theorem dX8_advance_132 : decode cX8_advance 132 = .ok (.aload_n 0, 1) := by decide +kernel
theorem dX8_advance_133 : decode cX8_advance 133 = .ok (.getfield 25, 3) := by decide +kernel
theorem dX8_advance_136 : decode cX8_advance 136 = .ok (.baload, 1) := by decide +kernel
theorem dX8_advance_137 : decode cX8_advance 137 = .ok (.bipush 57, 2) := by decide +kernel
theorem dX8_advance_139 : decode cX8_advance 139 = .ok (.if_icmp .gt 10, 3) := by decide +kernel
theorem dX8_advance_142 : decode cX8_advance 142 = .ok (.aload_n 0, 1) := by decide +kernel
theorem dX8_advance_143 : decode cX8_advance 143 = .ok (.invokevirtual 40, 3) := by decide +kernel
theorem dX8_advance_146 : decode cX8_advance 146 = .ok (.goto 7, 3) := by decide +kernel
theorem dX8_advance_149 : decode cX8_advance 149 = .ok (.aload_n 0, 1) := by decide +kernel
theorem dX8_advance_150 : decode cX8_advance 150 = .ok (.invokevirtual 43, 3) := by decide +kernel
theorem dX8_advance_153 : decode cX8_advance 153 = .ok (.return_, 1) := by decide +kernel
theorem dX8_takeWord_0 : decode cX8_takeWord 0 = .ok (.aload_n 0, 1) := by decide +kernel
theorem dX8_takeWord_1 : decode cX8_takeWord 1 = .ok (.getfield 25, 3) := by decide +kernel
theorem dX8_takeWord_4 : decode cX8_takeWord 4 = .ok (.aload_n 0, 1) := by decide +kernel
theorem dX8_takeWord_5 : decode cX8_takeWord 5 = .ok (.getfield 21, 3) := by decide +kernel
theorem dX8_takeWord_8 : decode cX8_takeWord 8 = .ok (.if_icmp .ge 44, 3) := by decide +kernel
theorem dX8_takeWord_11 : decode cX8_takeWord 11 = .ok (.aload_n 0, 1) := by decide +kernel
theorem dX8_takeWord_12 : decode cX8_takeWord 12 = .ok (.getfield 9, 3) := by decide +kernel
theorem dX8_takeWord_15 : decode cX8_takeWord 15 = .ok (.aload_n 0, 1) := by decide +kernel
theorem dX8_takeWord_16 : decode cX8_takeWord 16 = .ok (.getfield 25, 3) := by decide +kernel
theorem dX8_takeWord_19 : decode cX8_takeWord 19 = .ok (.baload, 1) := by decide +kernel
theorem dX8_takeWord_20 : decode cX8_takeWord 20 = .ok (.bipush 97, 2) := by decide +kernel
theorem dX8_takeWord_22 : decode cX8_takeWord 22 = .ok (.if_icmp .lt 30, 3) := by decide +kernel
theorem dX8_takeWord_25 : decode cX8_takeWord 25 = .ok (.aload_n 0, 1) := by decide +kernel
theorem dX8_takeWord_26 : decode cX8_takeWord 26 = .ok (.getfield 9, 3) := by decide +kernel
theorem dX8_takeWord_29 : decode cX8_takeWord 29 = .ok (.aload_n 0, 1) := by decide +kernel
theorem dX8_takeWord_30 : decode cX8_takeWord 30 = .ok (.getfield 25, 3) := by decide +kernel
theorem dX8_takeWord_33 : decode cX8_takeWord 33 = .ok (.baload, 1) := by decide +kernel
theorem dX8_takeWord_34 : decode cX8_takeWord 34 = .ok (.bipush 122, 2) := by decide +kernel
theorem dX8_takeWord_36 : decode cX8_takeWord 36 = .ok (.if_icmp .gt 16, 3) := by decide +kernel
theorem dX8_takeWord_39 : decode cX8_takeWord 39 = .ok (.aload_n 0, 1) := by decide +kernel
theorem dX8_takeWord_40 : decode cX8_takeWord 40 = .ok (.dup, 1) := by decide +kernel
theorem dX8_takeWord_41 : decode cX8_takeWord 41 = .ok (.getfield 25, 3) := by decide +kernel
theorem dX8_takeWord_44 : decode cX8_takeWord 44 = .ok (.iconst 1, 1) := by decide +kernel
theorem dX8_takeWord_45 : decode cX8_takeWord 45 = .ok (.iadd, 1) := by decide +kernel
theorem dX8_takeWord_46 : decode cX8_takeWord 46 = .ok (.putfield 25, 3) := by decide +kernel
theorem dX8_takeWord_49 : decode cX8_takeWord 49 = .ok (.goto (-49), 3) := by decide +kernel
theorem dX8_takeWord_52 : decode cX8_takeWord 52 = .ok (.aload_n 0, 1) := by decide +kernel
theorem dX8_takeWord_53 : decode cX8_takeWord 53 = .ok (.iconst 2, 1) := by decide +kernel
theorem dX8_takeWord_54 : decode cX8_takeWord 54 = .ok (.putfield 34, 3) := by decide +kernel
theorem dX8_takeWord_57 : decode cX8_takeWord 57 = .ok (.bipush 17, 2) := by decide +kernel
theorem dX8_takeWord_59 : decode cX8_takeWord 59 = .ok (.istore_n 1, 1) := by decide +kernel
theorem dX8_takeWord_60 : decode cX8_takeWord 60 = .ok (.iload_n 1, 1) := by decide +kernel
theorem dX8_takeWord_61 : decode cX8_takeWord 61 = .ok (.bipush 30, 2) := by decide +kernel
theorem dX8_takeWord_63 : decode cX8_takeWord 63 = .ok (.if_icmp .gt 25, 3) := by decide +kernel
theorem dX8_takeWord_66 : decode cX8_takeWord 66 = .ok (.aload_n 0, 1) := by decide +kernel
theorem dX8_takeWord_67 : decode cX8_takeWord 67 = .ok (.iload_n 1, 1) := by decide +kernel
theorem dX8_takeWord_68 : decode cX8_takeWord 68 = .ok (.invokestatic 46, 3) := by decide +kernel
theorem dX8_takeWord_71 : decode cX8_takeWord 71 = .ok (.invokevirtual 50, 3) := by decide +kernel
theorem dX8_takeWord_74 : decode cX8_takeWord 74 = .ok (.ifCond .eq 8, 3) := by decide +kernel
theorem dX8_takeWord_77 : decode cX8_takeWord 77 = .ok (.aload_n 0, 1) := by decide +kernel
theorem dX8_takeWord_78 : decode cX8_takeWord 78 = .ok (.iload_n 1, 1) := by decide +kernel
theorem dX8_takeWord_79 : decode cX8_takeWord 79 = .ok (.putfield 34, 3) := by decide +kernel
theorem dX8_takeWord_82 : decode cX8_takeWord 82 = .ok (.iinc 1 1, 3) := by decide +kernel
theorem dX8_takeWord_85 : decode cX8_takeWord 85 = .ok (.goto (-25), 3) := by decide +kernel
theorem dX8_takeWord_88 : decode cX8_takeWord 88 = .ok (.return_, 1) := by decide +kernel
theorem dX8_isSpelt_0 : decode cX8_isSpelt 0 = .ok (.aload_n 1, 1) := by decide +kernel
theorem dX8_isSpelt_1 : decode cX8_isSpelt 1 = .ok (.invokevirtual 54, 3) := by decide +kernel
theorem dX8_isSpelt_4 : decode cX8_isSpelt 4 = .ok (.aload_n 0, 1) := by decide +kernel
theorem dX8_isSpelt_5 : decode cX8_isSpelt 5 = .ok (.getfield 25, 3) := by decide +kernel
theorem dX8_isSpelt_8 : decode cX8_isSpelt 8 = .ok (.aload_n 0, 1) := by decide +kernel
theorem dX8_isSpelt_9 : decode cX8_isSpelt 9 = .ok (.getfield 31, 3) := by decide +kernel
theorem dX8_isSpelt_12 : decode cX8_isSpelt 12 = .ok (.isub, 1) := by decide +kernel
theorem dX8_isSpelt_13 : decode cX8_isSpelt 13 = .ok (.if_icmp .eq 5, 3) := by decide +kernel
theorem dX8_isSpelt_16 : decode cX8_isSpelt 16 = .ok (.iconst 0, 1) := by decide +kernel
theorem dX8_isSpelt_17 : decode cX8_isSpelt 17 = .ok (.ireturn, 1) := by decide +kernel
theorem dX8_isSpelt_18 : decode cX8_isSpelt 18 = .ok (.iconst 0, 1) := by decide +kernel
theorem dX8_isSpelt_19 : decode cX8_isSpelt 19 = .ok (.istore_n 2, 1) := by decide +kernel
theorem dX8_isSpelt_20 : decode cX8_isSpelt 20 = .ok (.iload_n 2, 1) := by decide +kernel
theorem dX8_isSpelt_21 : decode cX8_isSpelt 21 = .ok (.aload_n 1, 1) := by decide +kernel
theorem dX8_isSpelt_22 : decode cX8_isSpelt 22 = .ok (.invokevirtual 54, 3) := by decide +kernel
theorem dX8_isSpelt_25 : decode cX8_isSpelt 25 = .ok (.if_icmp .ge 30, 3) := by decide +kernel
theorem dX8_isSpelt_28 : decode cX8_isSpelt 28 = .ok (.aload_n 0, 1) := by decide +kernel
theorem dX8_isSpelt_29 : decode cX8_isSpelt 29 = .ok (.getfield 9, 3) := by decide +kernel
theorem dX8_isSpelt_32 : decode cX8_isSpelt 32 = .ok (.aload_n 0, 1) := by decide +kernel
theorem dX8_isSpelt_33 : decode cX8_isSpelt 33 = .ok (.getfield 31, 3) := by decide +kernel
theorem dX8_isSpelt_36 : decode cX8_isSpelt 36 = .ok (.iload_n 2, 1) := by decide +kernel
theorem dX8_isSpelt_37 : decode cX8_isSpelt 37 = .ok (.iadd, 1) := by decide +kernel
theorem dX8_isSpelt_38 : decode cX8_isSpelt 38 = .ok (.baload, 1) := by decide +kernel
theorem dX8_isSpelt_39 : decode cX8_isSpelt 39 = .ok (.aload_n 1, 1) := by decide +kernel
theorem dX8_isSpelt_40 : decode cX8_isSpelt 40 = .ok (.iload_n 2, 1) := by decide +kernel
theorem dX8_isSpelt_41 : decode cX8_isSpelt 41 = .ok (.invokevirtual 59, 3) := by decide +kernel
theorem dX8_isSpelt_44 : decode cX8_isSpelt 44 = .ok (.if_icmp .eq 5, 3) := by decide +kernel
theorem dX8_isSpelt_47 : decode cX8_isSpelt 47 = .ok (.iconst 0, 1) := by decide +kernel
theorem dX8_isSpelt_48 : decode cX8_isSpelt 48 = .ok (.ireturn, 1) := by decide +kernel
theorem dX8_isSpelt_49 : decode cX8_isSpelt 49 = .ok (.iinc 2 1, 3) := by decide +kernel
theorem dX8_isSpelt_52 : decode cX8_isSpelt 52 = .ok (.goto (-32), 3) := by decide +kernel
theorem dX8_isSpelt_55 : decode cX8_isSpelt 55 = .ok (.iconst 1, 1) := by decide +kernel
theorem dX8_isSpelt_56 : decode cX8_isSpelt 56 = .ok (.ireturn, 1) := by decide +kernel
theorem dX8_takeNumber_0 : decode cX8_takeNumber 0 = .ok (.aload_n 0, 1) := by decide +kernel
theorem dX8_takeNumber_1 : decode cX8_takeNumber 1 = .ok (.iconst 0, 1) := by decide +kernel
theorem dX8_takeNumber_2 : decode cX8_takeNumber 2 = .ok (.putfield 63, 3) := by decide +kernel
theorem dX8_takeNumber_5 : decode cX8_takeNumber 5 = .ok (.aload_n 0, 1) := by decide +kernel
theorem dX8_takeNumber_6 : decode cX8_takeNumber 6 = .ok (.getfield 25, 3) := by decide +kernel
theorem dX8_takeNumber_9 : decode cX8_takeNumber 9 = .ok (.aload_n 0, 1) := by decide +kernel
theorem dX8_takeNumber_10 : decode cX8_takeNumber 10 = .ok (.getfield 21, 3) := by decide +kernel
theorem dX8_takeNumber_13 : decode cX8_takeNumber 13 = .ok (.if_icmp .ge 78, 3) := by decide +kernel
theorem dX8_takeNumber_16 : decode cX8_takeNumber 16 = .ok (.aload_n 0, 1) := by decide +kernel
theorem dX8_takeNumber_17 : decode cX8_takeNumber 17 = .ok (.getfield 9, 3) := by decide +kernel
theorem dX8_takeNumber_20 : decode cX8_takeNumber 20 = .ok (.aload_n 0, 1) := by decide +kernel
theorem dX8_takeNumber_21 : decode cX8_takeNumber 21 = .ok (.getfield 25, 3) := by decide +kernel
theorem dX8_takeNumber_24 : decode cX8_takeNumber 24 = .ok (.baload, 1) := by decide +kernel
theorem dX8_takeNumber_25 : decode cX8_takeNumber 25 = .ok (.bipush 48, 2) := by decide +kernel
theorem dX8_takeNumber_27 : decode cX8_takeNumber 27 = .ok (.if_icmp .lt 64, 3) := by decide +kernel
theorem dX8_takeNumber_30 : decode cX8_takeNumber 30 = .ok (.aload_n 0, 1) := by decide +kernel
theorem dX8_takeNumber_31 : decode cX8_takeNumber 31 = .ok (.getfield 9, 3) := by decide +kernel
theorem dX8_takeNumber_34 : decode cX8_takeNumber 34 = .ok (.aload_n 0, 1) := by decide +kernel
theorem dX8_takeNumber_35 : decode cX8_takeNumber 35 = .ok (.getfield 25, 3) := by decide +kernel
theorem dX8_takeNumber_38 : decode cX8_takeNumber 38 = .ok (.baload, 1) := by decide +kernel
theorem dX8_takeNumber_39 : decode cX8_takeNumber 39 = .ok (.bipush 57, 2) := by decide +kernel
theorem dX8_takeNumber_41 : decode cX8_takeNumber 41 = .ok (.if_icmp .gt 50, 3) := by decide +kernel
theorem dX8_takeNumber_44 : decode cX8_takeNumber 44 = .ok (.aload_n 0, 1) := by decide +kernel
theorem dX8_takeNumber_45 : decode cX8_takeNumber 45 = .ok (.getfield 63, 3) := by decide +kernel
theorem dX8_takeNumber_48 : decode cX8_takeNumber 48 = .ok (.sipush 9999, 3) := by decide +kernel
theorem dX8_takeNumber_51 : decode cX8_takeNumber 51 = .ok (.if_icmp .gt 27, 3) := by decide +kernel
theorem dX8_takeNumber_54 : decode cX8_takeNumber 54 = .ok (.aload_n 0, 1) := by decide +kernel
theorem dX8_takeNumber_55 : decode cX8_takeNumber 55 = .ok (.aload_n 0, 1) := by decide +kernel
theorem dX8_takeNumber_56 : decode cX8_takeNumber 56 = .ok (.getfield 63, 3) := by decide +kernel
theorem dX8_takeNumber_59 : decode cX8_takeNumber 59 = .ok (.bipush 10, 2) := by decide +kernel
theorem dX8_takeNumber_61 : decode cX8_takeNumber 61 = .ok (.imul, 1) := by decide +kernel
theorem dX8_takeNumber_62 : decode cX8_takeNumber 62 = .ok (.aload_n 0, 1) := by decide +kernel
theorem dX8_takeNumber_63 : decode cX8_takeNumber 63 = .ok (.getfield 9, 3) := by decide +kernel
theorem dX8_takeNumber_66 : decode cX8_takeNumber 66 = .ok (.aload_n 0, 1) := by decide +kernel
theorem dX8_takeNumber_67 : decode cX8_takeNumber 67 = .ok (.getfield 25, 3) := by decide +kernel
theorem dX8_takeNumber_70 : decode cX8_takeNumber 70 = .ok (.baload, 1) := by decide +kernel
theorem dX8_takeNumber_71 : decode cX8_takeNumber 71 = .ok (.bipush 48, 2) := by decide +kernel
theorem dX8_takeNumber_73 : decode cX8_takeNumber 73 = .ok (.isub, 1) := by decide +kernel
theorem dX8_takeNumber_74 : decode cX8_takeNumber 74 = .ok (.iadd, 1) := by decide +kernel
theorem dX8_takeNumber_75 : decode cX8_takeNumber 75 = .ok (.putfield 63, 3) := by decide +kernel
theorem dX8_takeNumber_78 : decode cX8_takeNumber 78 = .ok (.aload_n 0, 1) := by decide +kernel
theorem dX8_takeNumber_79 : decode cX8_takeNumber 79 = .ok (.dup, 1) := by decide +kernel
theorem dX8_takeNumber_80 : decode cX8_takeNumber 80 = .ok (.getfield 25, 3) := by decide +kernel
theorem dX8_takeNumber_83 : decode cX8_takeNumber 83 = .ok (.iconst 1, 1) := by decide +kernel
theorem dX8_takeNumber_84 : decode cX8_takeNumber 84 = .ok (.iadd, 1) := by decide +kernel
theorem dX8_takeNumber_85 : decode cX8_takeNumber 85 = .ok (.putfield 25, 3) := by decide +kernel
theorem dX8_takeNumber_88 : decode cX8_takeNumber 88 = .ok (.goto (-83), 3) := by decide +kernel
theorem dX8_takeNumber_91 : decode cX8_takeNumber 91 = .ok (.aload_n 0, 1) := by decide +kernel
theorem dX8_takeNumber_92 : decode cX8_takeNumber 92 = .ok (.iconst 3, 1) := by decide +kernel
theorem dX8_takeNumber_93 : decode cX8_takeNumber 93 = .ok (.putfield 34, 3) := by decide +kernel
theorem dX8_takeNumber_96 : decode cX8_takeNumber 96 = .ok (.return_, 1) := by decide +kernel
theorem dX8_takeSign_0 : decode cX8_takeSign 0 = .ok (.aload_n 0, 1) := by decide +kernel
theorem dX8_takeSign_1 : decode cX8_takeSign 1 = .ok (.getfield 9, 3) := by decide +kernel
theorem dX8_takeSign_4 : decode cX8_takeSign 4 = .ok (.aload_n 0, 1) := by decide +kernel
theorem dX8_takeSign_5 : decode cX8_takeSign 5 = .ok (.getfield 25, 3) := by decide +kernel
theorem dX8_takeSign_8 : decode cX8_takeSign 8 = .ok (.baload, 1) := by decide +kernel
theorem dX8_takeSign_9 : decode cX8_takeSign 9 = .ok (.istore_n 1, 1) := by decide +kernel
theorem dX8_takeSign_10 : decode cX8_takeSign 10 = .ok (.aload_n 0, 1) := by decide +kernel
theorem dX8_takeSign_11 : decode cX8_takeSign 11 = .ok (.dup, 1) := by decide +kernel
theorem dX8_takeSign_12 : decode cX8_takeSign 12 = .ok (.getfield 25, 3) := by decide +kernel
theorem dX8_takeSign_15 : decode cX8_takeSign 15 = .ok (.iconst 1, 1) := by decide +kernel
theorem dX8_takeSign_16 : decode cX8_takeSign 16 = .ok (.iadd, 1) := by decide +kernel
theorem dX8_takeSign_17 : decode cX8_takeSign 17 = .ok (.putfield 25, 3) := by decide +kernel
theorem dX8_takeSign_20 : decode cX8_takeSign 20 = .ok (.aload_n 0, 1) := by decide +kernel
theorem dX8_takeSign_21 : decode cX8_takeSign 21 = .ok (.iload_n 1, 1) := by decide +kernel
theorem dX8_takeSign_22 : decode cX8_takeSign 22 = .ok (.invokestatic 66, 3) := by decide +kernel
theorem dX8_takeSign_25 : decode cX8_takeSign 25 = .ok (.putfield 34, 3) := by decide +kernel
theorem dX8_takeSign_28 : decode cX8_takeSign 28 = .ok (.aload_n 0, 1) := by decide +kernel
theorem dX8_takeSign_29 : decode cX8_takeSign 29 = .ok (.getfield 25, 3) := by decide +kernel
theorem dX8_takeSign_32 : decode cX8_takeSign 32 = .ok (.aload_n 0, 1) := by decide +kernel
theorem dX8_takeSign_33 : decode cX8_takeSign 33 = .ok (.getfield 21, 3) := by decide +kernel
theorem dX8_takeSign_36 : decode cX8_takeSign 36 = .ok (.if_icmp .ge 15, 3) := by decide +kernel
theorem dX8_takeSign_39 : decode cX8_takeSign 39 = .ok (.aload_n 0, 1) := by decide +kernel
theorem dX8_takeSign_40 : decode cX8_takeSign 40 = .ok (.getfield 9, 3) := by decide +kernel
theorem dX8_takeSign_43 : decode cX8_takeSign 43 = .ok (.aload_n 0, 1) := by decide +kernel
