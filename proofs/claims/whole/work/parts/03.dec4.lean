theorem dX11_court_69 : decode cX11_court 69 = .ok (.iconst 1, 1) := by decide +kernel
theorem dX11_court_70 : decode cX11_court 70 = .ok (.isub, 1) := by decide +kernel
theorem dX11_court_71 : decode cX11_court 71 = .ok (.ireturn, 1) := by decide +kernel
theorem dX11_point_0 : decode cX11_point 0 = .ok (.aload_n 0, 1) := by decide +kernel
theorem dX11_point_1 : decode cX11_point 1 = .ok (.iconst 0, 1) := by decide +kernel
theorem dX11_point_2 : decode cX11_point 2 = .ok (.putfield 115, 3) := by decide +kernel
theorem dX11_point_5 : decode cX11_point 5 = .ok (.aload_n 0, 1) := by decide +kernel
theorem dX11_point_6 : decode cX11_point 6 = .ok (.getfield 267, 3) := by decide +kernel
theorem dX11_point_9 : decode cX11_point 9 = .ok (.bipush 12, 2) := by decide +kernel
theorem dX11_point_11 : decode cX11_point 11 = .ok (.if_icmp .ne 5, 3) := by decide +kernel
theorem dX11_point_14 : decode cX11_point 14 = .ok (.iconst (-1), 1) := by decide +kernel
theorem dX11_point_15 : decode cX11_point 15 = .ok (.ireturn, 1) := by decide +kernel
theorem dX11_point_16 : decode cX11_point 16 = .ok (.aload_n 0, 1) := by decide +kernel
theorem dX11_point_17 : decode cX11_point 17 = .ok (.dup, 1) := by decide +kernel
theorem dX11_point_18 : decode cX11_point 18 = .ok (.getfield 267, 3) := by decide +kernel
theorem dX11_point_21 : decode cX11_point 21 = .ok (.iconst 1, 1) := by decide +kernel
theorem dX11_point_22 : decode cX11_point 22 = .ok (.iadd, 1) := by decide +kernel
theorem dX11_point_23 : decode cX11_point 23 = .ok (.putfield 267, 3) := by decide +kernel
theorem dX11_point_26 : decode cX11_point 26 = .ok (.aload_n 0, 1) := by decide +kernel
theorem dX11_point_27 : decode cX11_point 27 = .ok (.getfield 267, 3) := by decide +kernel
theorem dX11_point_30 : decode cX11_point 30 = .ok (.iconst 1, 1) := by decide +kernel
theorem dX11_point_31 : decode cX11_point 31 = .ok (.isub, 1) := by decide +kernel
theorem dX11_point_32 : decode cX11_point 32 = .ok (.ireturn, 1) := by decide +kernel
theorem dX11_isPoint_0 : decode cX11_isPoint 0 = .ok (.iload_n 1, 1) := by decide +kernel
theorem dX11_isPoint_1 : decode cX11_isPoint 1 = .ok (.ifCond .lt 15, 3) := by decide +kernel
theorem dX11_isPoint_4 : decode cX11_isPoint 4 = .ok (.iload_n 1, 1) := by decide +kernel
theorem dX11_isPoint_5 : decode cX11_isPoint 5 = .ok (.aload_n 0, 1) := by decide +kernel
theorem dX11_isPoint_6 : decode cX11_isPoint 6 = .ok (.getfield 267, 3) := by decide +kernel
theorem dX11_isPoint_9 : decode cX11_isPoint 9 = .ok (.if_icmp .ge 7, 3) := by decide +kernel
theorem dX11_isPoint_12 : decode cX11_isPoint 12 = .ok (.iconst 1, 1) := by decide +kernel
theorem dX11_isPoint_13 : decode cX11_isPoint 13 = .ok (.goto 4, 3) := by decide +kernel
theorem dX11_isPoint_16 : decode cX11_isPoint 16 = .ok (.iconst 0, 1) := by decide +kernel
theorem dX11_isPoint_17 : decode cX11_isPoint 17 = .ok (.ireturn, 1) := by decide +kernel
theorem dX11_isCase_0 : decode cX11_isCase 0 = .ok (.iload_n 1, 1) := by decide +kernel
theorem dX11_isCase_1 : decode cX11_isCase 1 = .ok (.ifCond .lt 15, 3) := by decide +kernel
theorem dX11_isCase_4 : decode cX11_isCase 4 = .ok (.iload_n 1, 1) := by decide +kernel
theorem dX11_isCase_5 : decode cX11_isCase 5 = .ok (.aload_n 0, 1) := by decide +kernel
theorem dX11_isCase_6 : decode cX11_isCase 6 = .ok (.getfield 270, 3) := by decide +kernel
theorem dX11_isCase_9 : decode cX11_isCase 9 = .ok (.if_icmp .ge 7, 3) := by decide +kernel
theorem dX11_isCase_12 : decode cX11_isCase 12 = .ok (.iconst 1, 1) := by decide +kernel
theorem dX11_isCase_13 : decode cX11_isCase 13 = .ok (.goto 4, 3) := by decide +kernel
theorem dX11_isCase_16 : decode cX11_isCase 16 = .ok (.iconst 0, 1) := by decide +kernel
theorem dX11_isCase_17 : decode cX11_isCase 17 = .ok (.ireturn, 1) := by decide +kernel
theorem dX11_isCourt_0 : decode cX11_isCourt 0 = .ok (.iload_n 1, 1) := by decide +kernel
theorem dX11_isCourt_1 : decode cX11_isCourt 1 = .ok (.ifCond .lt 15, 3) := by decide +kernel
theorem dX11_isCourt_4 : decode cX11_isCourt 4 = .ok (.iload_n 1, 1) := by decide +kernel
theorem dX11_isCourt_5 : decode cX11_isCourt 5 = .ok (.aload_n 0, 1) := by decide +kernel
theorem dX11_isCourt_6 : decode cX11_isCourt 6 = .ok (.getfield 264, 3) := by decide +kernel
theorem dX11_isCourt_9 : decode cX11_isCourt 9 = .ok (.if_icmp .ge 7, 3) := by decide +kernel
theorem dX11_isCourt_12 : decode cX11_isCourt 12 = .ok (.iconst 1, 1) := by decide +kernel
theorem dX11_isCourt_13 : decode cX11_isCourt 13 = .ok (.goto 4, 3) := by decide +kernel
theorem dX11_isCourt_16 : decode cX11_isCourt 16 = .ok (.iconst 0, 1) := by decide +kernel
theorem dX11_isCourt_17 : decode cX11_isCourt 17 = .ok (.ireturn, 1) := by decide +kernel
theorem dX11_isFacts_0 : decode cX11_isFacts 0 = .ok (.iload_n 0, 1) := by decide +kernel
theorem dX11_isFacts_1 : decode cX11_isFacts 1 = .ok (.ifCond .lt 14, 3) := by decide +kernel
theorem dX11_isFacts_4 : decode cX11_isFacts 4 = .ok (.iload_n 0, 1) := by decide +kernel
theorem dX11_isFacts_5 : decode cX11_isFacts 5 = .ok (.sipush 1024, 3) := by decide +kernel
theorem dX11_isFacts_8 : decode cX11_isFacts 8 = .ok (.if_icmp .ge 7, 3) := by decide +kernel
theorem dX11_isFacts_11 : decode cX11_isFacts 11 = .ok (.iconst 1, 1) := by decide +kernel
theorem dX11_isFacts_12 : decode cX11_isFacts 12 = .ok (.goto 4, 3) := by decide +kernel
theorem dX11_isFacts_15 : decode cX11_isFacts 15 = .ok (.iconst 0, 1) := by decide +kernel
theorem dX11_isFacts_16 : decode cX11_isFacts 16 = .ok (.ireturn, 1) := by decide +kernel
theorem dX11_isDay_0 : decode cX11_isDay 0 = .ok (.iload_n 0, 1) := by decide +kernel
theorem dX11_isDay_1 : decode cX11_isDay 1 = .ok (.ifCond .lt 14, 3) := by decide +kernel
theorem dX11_isDay_4 : decode cX11_isDay 4 = .ok (.iload_n 0, 1) := by decide +kernel
theorem dX11_isDay_5 : decode cX11_isDay 5 = .ok (.sipush 9999, 3) := by decide +kernel
theorem dX11_isDay_8 : decode cX11_isDay 8 = .ok (.if_icmp .gt 7, 3) := by decide +kernel
theorem dX11_isDay_11 : decode cX11_isDay 11 = .ok (.iconst 1, 1) := by decide +kernel
theorem dX11_isDay_12 : decode cX11_isDay 12 = .ok (.goto 4, 3) := by decide +kernel
theorem dX11_isDay_15 : decode cX11_isDay 15 = .ok (.iconst 0, 1) := by decide +kernel
theorem dX11_isDay_16 : decode cX11_isDay 16 = .ok (.ireturn, 1) := by decide +kernel
theorem dX11_oppose_0 : decode cX11_oppose 0 = .ok (.aload_n 0, 1) := by decide +kernel
theorem dX11_oppose_1 : decode cX11_oppose 1 = .ok (.iconst 0, 1) := by decide +kernel
theorem dX11_oppose_2 : decode cX11_oppose 2 = .ok (.putfield 115, 3) := by decide +kernel
theorem dX11_oppose_5 : decode cX11_oppose 5 = .ok (.aload_n 0, 1) := by decide +kernel
theorem dX11_oppose_6 : decode cX11_oppose 6 = .ok (.iload_n 1, 1) := by decide +kernel
theorem dX11_oppose_7 : decode cX11_oppose 7 = .ok (.invokevirtual 273, 3) := by decide +kernel
theorem dX11_oppose_10 : decode cX11_oppose 10 = .ok (.ifCond .eq 39, 3) := by decide +kernel
theorem dX11_oppose_13 : decode cX11_oppose 13 = .ok (.aload_n 0, 1) := by decide +kernel
theorem dX11_oppose_14 : decode cX11_oppose 14 = .ok (.iload_n 2, 1) := by decide +kernel
theorem dX11_oppose_15 : decode cX11_oppose 15 = .ok (.invokevirtual 273, 3) := by decide +kernel
theorem dX11_oppose_18 : decode cX11_oppose 18 = .ok (.ifCond .eq 31, 3) := by decide +kernel
theorem dX11_oppose_21 : decode cX11_oppose 21 = .ok (.iload_n 1, 1) := by decide +kernel
theorem dX11_oppose_22 : decode cX11_oppose 22 = .ok (.iload_n 2, 1) := by decide +kernel
theorem dX11_oppose_23 : decode cX11_oppose 23 = .ok (.if_icmp .eq 26, 3) := by decide +kernel
theorem dX11_oppose_26 : decode cX11_oppose 26 = .ok (.aload_n 0, 1) := by decide +kernel
theorem dX11_oppose_27 : decode cX11_oppose 27 = .ok (.getfield 49, 3) := by decide +kernel
theorem dX11_oppose_30 : decode cX11_oppose 30 = .ok (.iload_n 1, 1) := by decide +kernel
theorem dX11_oppose_31 : decode cX11_oppose 31 = .ok (.iaload, 1) := by decide +kernel
theorem dX11_oppose_32 : decode cX11_oppose 32 = .ok (.iload_n 2, 1) := by decide +kernel
theorem dX11_oppose_33 : decode cX11_oppose 33 = .ok (.ishr, 1) := by decide +kernel
theorem dX11_oppose_34 : decode cX11_oppose 34 = .ok (.iconst 1, 1) := by decide +kernel
theorem dX11_oppose_35 : decode cX11_oppose 35 = .ok (.iand, 1) := by decide +kernel
theorem dX11_oppose_36 : decode cX11_oppose 36 = .ok (.iconst 1, 1) := by decide +kernel
theorem dX11_oppose_37 : decode cX11_oppose 37 = .ok (.if_icmp .ne 7, 3) := by decide +kernel
theorem dX11_oppose_40 : decode cX11_oppose 40 = .ok (.iconst 1, 1) := by decide +kernel
theorem dX11_oppose_41 : decode cX11_oppose 41 = .ok (.goto 4, 3) := by decide +kernel
theorem dX11_oppose_44 : decode cX11_oppose 44 = .ok (.iconst 0, 1) := by decide +kernel
theorem dX11_oppose_45 : decode cX11_oppose 45 = .ok (.iload_n 3, 1) := by decide +kernel
theorem dX11_oppose_46 : decode cX11_oppose 46 = .ok (.if_icmp .ne 5, 3) := by decide +kernel
theorem dX11_oppose_49 : decode cX11_oppose 49 = .ok (.iconst 0, 1) := by decide +kernel
theorem dX11_oppose_50 : decode cX11_oppose 50 = .ok (.ireturn, 1) := by decide +kernel
theorem dX11_oppose_51 : decode cX11_oppose 51 = .ok (.aload_n 0, 1) := by decide +kernel
theorem dX11_oppose_52 : decode cX11_oppose 52 = .ok (.getfield 49, 3) := by decide +kernel
theorem dX11_oppose_55 : decode cX11_oppose 55 = .ok (.iload_n 1, 1) := by decide +kernel
theorem dX11_oppose_56 : decode cX11_oppose 56 = .ok (.dup2, 1) := by decide +kernel
theorem dX11_oppose_57 : decode cX11_oppose 57 = .ok (.iaload, 1) := by decide +kernel
theorem dX11_oppose_58 : decode cX11_oppose 58 = .ok (.iconst 1, 1) := by decide +kernel
theorem dX11_oppose_59 : decode cX11_oppose 59 = .ok (.iload_n 2, 1) := by decide +kernel
theorem dX11_oppose_60 : decode cX11_oppose 60 = .ok (.ishl, 1) := by decide +kernel
theorem dX11_oppose_61 : decode cX11_oppose 61 = .ok (.ixor, 1) := by decide +kernel
theorem dX11_oppose_62 : decode cX11_oppose 62 = .ok (.iastore, 1) := by decide +kernel
theorem dX11_oppose_63 : decode cX11_oppose 63 = .ok (.aload_n 0, 1) := by decide +kernel
theorem dX11_oppose_64 : decode cX11_oppose 64 = .ok (.getfield 49, 3) := by decide +kernel
theorem dX11_oppose_67 : decode cX11_oppose 67 = .ok (.iload_n 2, 1) := by decide +kernel
theorem dX11_oppose_68 : decode cX11_oppose 68 = .ok (.dup2, 1) := by decide +kernel
theorem dX11_oppose_69 : decode cX11_oppose 69 = .ok (.iaload, 1) := by decide +kernel
theorem dX11_oppose_70 : decode cX11_oppose 70 = .ok (.iconst 1, 1) := by decide +kernel
theorem dX11_oppose_71 : decode cX11_oppose 71 = .ok (.iload_n 1, 1) := by decide +kernel
theorem dX11_oppose_72 : decode cX11_oppose 72 = .ok (.ishl, 1) := by decide +kernel
theorem dX11_oppose_73 : decode cX11_oppose 73 = .ok (.ixor, 1) := by decide +kernel
theorem dX11_oppose_74 : decode cX11_oppose 74 = .ok (.iastore, 1) := by decide +kernel
theorem dX11_oppose_75 : decode cX11_oppose 75 = .ok (.iconst 1, 1) := by decide +kernel
theorem dX11_oppose_76 : decode cX11_oppose 76 = .ok (.ireturn, 1) := by decide +kernel
theorem dX11_kase_0 : decode cX11_kase 0 = .ok (.aload_n 0, 1) := by decide +kernel
theorem dX11_kase_1 : decode cX11_kase 1 = .ok (.iconst 0, 1) := by decide +kernel
theorem dX11_kase_2 : decode cX11_kase 2 = .ok (.putfield 115, 3) := by decide +kernel
theorem dX11_kase_5 : decode cX11_kase 5 = .ok (.aload_n 0, 1) := by decide +kernel
theorem dX11_kase_6 : decode cX11_kase 6 = .ok (.iload_n 1, 1) := by decide +kernel
theorem dX11_kase_7 : decode cX11_kase 7 = .ok (.invokevirtual 276, 3) := by decide +kernel
theorem dX11_kase_10 : decode cX11_kase 10 = .ok (.ifCond .eq 42, 3) := by decide +kernel
theorem dX11_kase_13 : decode cX11_kase 13 = .ok (.iload_n 2, 1) := by decide +kernel
theorem dX11_kase_14 : decode cX11_kase 14 = .ok (.ifCond .lt 38, 3) := by decide +kernel
theorem dX11_kase_17 : decode cX11_kase 17 = .ok (.iload_n 2, 1) := by decide +kernel
theorem dX11_kase_18 : decode cX11_kase 18 = .ok (.aload_n 0, 1) := by decide +kernel
theorem dX11_kase_19 : decode cX11_kase 19 = .ok (.getfield 261, 3) := by decide +kernel
theorem dX11_kase_22 : decode cX11_kase 22 = .ok (.if_icmp .gt 30, 3) := by decide +kernel
theorem dX11_kase_25 : decode cX11_kase 25 = .ok (.iload_n 3, 1) := by decide +kernel
theorem dX11_kase_26 : decode cX11_kase 26 = .ok (.iconst 1, 1) := by decide +kernel
theorem dX11_kase_27 : decode cX11_kase 27 = .ok (.if_icmp .lt 25, 3) := by decide +kernel
theorem dX11_kase_30 : decode cX11_kase 30 = .ok (.iload_n 3, 1) := by decide +kernel
theorem dX11_kase_31 : decode cX11_kase 31 = .ok (.iconst 3, 1) := by decide +kernel
theorem dX11_kase_32 : decode cX11_kase 32 = .ok (.if_icmp .gt 20, 3) := by decide +kernel
theorem dX11_kase_35 : decode cX11_kase 35 = .ok (.iload 4, 2) := by decide +kernel
theorem dX11_kase_37 : decode cX11_kase 37 = .ok (.invokestatic 279, 3) := by decide +kernel
theorem dX11_kase_40 : decode cX11_kase 40 = .ok (.ifCond .eq 12, 3) := by decide +kernel
theorem dX11_kase_43 : decode cX11_kase 43 = .ok (.aload_n 0, 1) := by decide +kernel
theorem dX11_kase_44 : decode cX11_kase 44 = .ok (.getfield 270, 3) := by decide +kernel
theorem dX11_kase_47 : decode cX11_kase 47 = .ok (.bipush 32, 2) := by decide +kernel
theorem dX11_kase_49 : decode cX11_kase 49 = .ok (.if_icmp .ne 5, 3) := by decide +kernel
theorem dX11_kase_52 : decode cX11_kase 52 = .ok (.iconst (-1), 1) := by decide +kernel
theorem dX11_kase_53 : decode cX11_kase 53 = .ok (.ireturn, 1) := by decide +kernel
theorem dX11_kase_54 : decode cX11_kase 54 = .ok (.aload_n 0, 1) := by decide +kernel
theorem dX11_kase_55 : decode cX11_kase 55 = .ok (.getfield 52, 3) := by decide +kernel
theorem dX11_kase_58 : decode cX11_kase 58 = .ok (.aload_n 0, 1) := by decide +kernel
theorem dX11_kase_59 : decode cX11_kase 59 = .ok (.getfield 270, 3) := by decide +kernel
theorem dX11_kase_62 : decode cX11_kase 62 = .ok (.iload_n 1, 1) := by decide +kernel
theorem dX11_kase_63 : decode cX11_kase 63 = .ok (.iastore, 1) := by decide +kernel
theorem dX11_kase_64 : decode cX11_kase 64 = .ok (.aload_n 0, 1) := by decide +kernel
theorem dX11_kase_65 : decode cX11_kase 65 = .ok (.getfield 55, 3) := by decide +kernel
theorem dX11_kase_68 : decode cX11_kase 68 = .ok (.aload_n 0, 1) := by decide +kernel
theorem dX11_kase_69 : decode cX11_kase 69 = .ok (.getfield 270, 3) := by decide +kernel
theorem dX11_kase_72 : decode cX11_kase 72 = .ok (.iload_n 2, 1) := by decide +kernel
theorem dX11_kase_73 : decode cX11_kase 73 = .ok (.iastore, 1) := by decide +kernel
theorem dX11_kase_74 : decode cX11_kase 74 = .ok (.aload_n 0, 1) := by decide +kernel
theorem dX11_kase_75 : decode cX11_kase 75 = .ok (.getfield 58, 3) := by decide +kernel
theorem dX11_kase_78 : decode cX11_kase 78 = .ok (.aload_n 0, 1) := by decide +kernel
theorem dX11_kase_79 : decode cX11_kase 79 = .ok (.getfield 270, 3) := by decide +kernel
theorem dX11_kase_82 : decode cX11_kase 82 = .ok (.iload_n 3, 1) := by decide +kernel
theorem dX11_kase_83 : decode cX11_kase 83 = .ok (.iastore, 1) := by decide +kernel
theorem dX11_kase_84 : decode cX11_kase 84 = .ok (.aload_n 0, 1) := by decide +kernel
theorem dX11_kase_85 : decode cX11_kase 85 = .ok (.getfield 61, 3) := by decide +kernel
theorem dX11_kase_88 : decode cX11_kase 88 = .ok (.aload_n 0, 1) := by decide +kernel
theorem dX11_kase_89 : decode cX11_kase 89 = .ok (.getfield 270, 3) := by decide +kernel
theorem dX11_kase_92 : decode cX11_kase 92 = .ok (.iload 4, 2) := by decide +kernel
theorem dX11_kase_94 : decode cX11_kase 94 = .ok (.iastore, 1) := by decide +kernel
theorem dX11_kase_95 : decode cX11_kase 95 = .ok (.aload_n 0, 1) := by decide +kernel
theorem dX11_kase_96 : decode cX11_kase 96 = .ok (.getfield 64, 3) := by decide +kernel
theorem dX11_kase_99 : decode cX11_kase 99 = .ok (.aload_n 0, 1) := by decide +kernel
theorem dX11_kase_100 : decode cX11_kase 100 = .ok (.getfield 270, 3) := by decide +kernel
theorem dX11_kase_103 : decode cX11_kase 103 = .ok (.aload_n 0, 1) := by decide +kernel
theorem dX11_kase_104 : decode cX11_kase 104 = .ok (.getfield 261, 3) := by decide +kernel
theorem dX11_kase_107 : decode cX11_kase 107 = .ok (.iastore, 1) := by decide +kernel
theorem dX11_kase_108 : decode cX11_kase 108 = .ok (.aload_n 0, 1) := by decide +kernel
theorem dX11_kase_109 : decode cX11_kase 109 = .ok (.dup, 1) := by decide +kernel
theorem dX11_kase_110 : decode cX11_kase 110 = .ok (.getfield 270, 3) := by decide +kernel
theorem dX11_kase_113 : decode cX11_kase 113 = .ok (.iconst 1, 1) := by decide +kernel
theorem dX11_kase_114 : decode cX11_kase 114 = .ok (.iadd, 1) := by decide +kernel
theorem dX11_kase_115 : decode cX11_kase 115 = .ok (.putfield 270, 3) := by decide +kernel
theorem dX11_kase_118 : decode cX11_kase 118 = .ok (.aload_n 0, 1) := by decide +kernel
theorem dX11_kase_119 : decode cX11_kase 119 = .ok (.getfield 270, 3) := by decide +kernel
theorem dX11_kase_122 : decode cX11_kase 122 = .ok (.iconst 1, 1) := by decide +kernel
theorem dX11_kase_123 : decode cX11_kase 123 = .ok (.isub, 1) := by decide +kernel
theorem dX11_kase_124 : decode cX11_kase 124 = .ok (.ireturn, 1) := by decide +kernel
theorem dX11_note_0 : decode cX11_note 0 = .ok (.aload_n 0, 1) := by decide +kernel
theorem dX11_note_1 : decode cX11_note 1 = .ok (.getfield 67, 3) := by decide +kernel
theorem dX11_note_4 : decode cX11_note 4 = .ok (.aload_n 0, 1) := by decide +kernel
theorem dX11_note_5 : decode cX11_note 5 = .ok (.getfield 282, 3) := by decide +kernel
theorem dX11_note_8 : decode cX11_note 8 = .ok (.iload_n 1, 1) := by decide +kernel
theorem dX11_note_9 : decode cX11_note 9 = .ok (.iastore, 1) := by decide +kernel
theorem dX11_note_10 : decode cX11_note 10 = .ok (.aload_n 0, 1) := by decide +kernel
theorem dX11_note_11 : decode cX11_note 11 = .ok (.getfield 70, 3) := by decide +kernel
theorem dX11_note_14 : decode cX11_note 14 = .ok (.aload_n 0, 1) := by decide +kernel
theorem dX11_note_15 : decode cX11_note 15 = .ok (.getfield 282, 3) := by decide +kernel
theorem dX11_note_18 : decode cX11_note 18 = .ok (.aload_n 0, 1) := by decide +kernel
theorem dX11_note_19 : decode cX11_note 19 = .ok (.getfield 261, 3) := by decide +kernel
theorem dX11_note_22 : decode cX11_note 22 = .ok (.iastore, 1) := by decide +kernel
theorem dX11_note_23 : decode cX11_note 23 = .ok (.aload_n 0, 1) := by decide +kernel
theorem dX11_note_24 : decode cX11_note 24 = .ok (.getfield 73, 3) := by decide +kernel
theorem dX11_note_27 : decode cX11_note 27 = .ok (.aload_n 0, 1) := by decide +kernel
theorem dX11_note_28 : decode cX11_note 28 = .ok (.getfield 282, 3) := by decide +kernel
theorem dX11_note_31 : decode cX11_note 31 = .ok (.iload_n 2, 1) := by decide +kernel
theorem dX11_note_32 : decode cX11_note 32 = .ok (.iastore, 1) := by decide +kernel
theorem dX11_note_33 : decode cX11_note 33 = .ok (.aload_n 0, 1) := by decide +kernel
theorem dX11_note_34 : decode cX11_note 34 = .ok (.getfield 76, 3) := by decide +kernel
theorem dX11_note_37 : decode cX11_note 37 = .ok (.aload_n 0, 1) := by decide +kernel
theorem dX11_note_38 : decode cX11_note 38 = .ok (.getfield 282, 3) := by decide +kernel
theorem dX11_note_41 : decode cX11_note 41 = .ok (.iload_n 3, 1) := by decide +kernel
theorem dX11_note_42 : decode cX11_note 42 = .ok (.iastore, 1) := by decide +kernel
theorem dX11_note_43 : decode cX11_note 43 = .ok (.aload_n 0, 1) := by decide +kernel
theorem dX11_note_44 : decode cX11_note 44 = .ok (.getfield 79, 3) := by decide +kernel
theorem dX11_note_47 : decode cX11_note 47 = .ok (.aload_n 0, 1) := by decide +kernel
theorem dX11_note_48 : decode cX11_note 48 = .ok (.getfield 282, 3) := by decide +kernel
theorem dX11_note_51 : decode cX11_note 51 = .ok (.iload 4, 2) := by decide +kernel
theorem dX11_note_53 : decode cX11_note 53 = .ok (.iastore, 1) := by decide +kernel
theorem dX11_note_54 : decode cX11_note 54 = .ok (.aload_n 0, 1) := by decide +kernel
theorem dX11_note_55 : decode cX11_note 55 = .ok (.getfield 82, 3) := by decide +kernel
theorem dX11_note_58 : decode cX11_note 58 = .ok (.aload_n 0, 1) := by decide +kernel
theorem dX11_note_59 : decode cX11_note 59 = .ok (.getfield 282, 3) := by decide +kernel
theorem dX11_note_62 : decode cX11_note 62 = .ok (.iload 5, 2) := by decide +kernel
theorem dX11_note_64 : decode cX11_note 64 = .ok (.iastore, 1) := by decide +kernel
theorem dX11_note_65 : decode cX11_note 65 = .ok (.aload_n 0, 1) := by decide +kernel
theorem dX11_note_66 : decode cX11_note 66 = .ok (.dup, 1) := by decide +kernel
theorem dX11_note_67 : decode cX11_note 67 = .ok (.getfield 282, 3) := by decide +kernel
theorem dX11_note_70 : decode cX11_note 70 = .ok (.iconst 1, 1) := by decide +kernel
theorem dX11_note_71 : decode cX11_note 71 = .ok (.iadd, 1) := by decide +kernel
theorem dX11_note_72 : decode cX11_note 72 = .ok (.putfield 282, 3) := by decide +kernel
theorem dX11_note_75 : decode cX11_note 75 = .ok (.aload_n 0, 1) := by decide +kernel
theorem dX11_note_76 : decode cX11_note 76 = .ok (.getfield 282, 3) := by decide +kernel
theorem dX11_note_79 : decode cX11_note 79 = .ok (.iconst 1, 1) := by decide +kernel
theorem dX11_note_80 : decode cX11_note 80 = .ok (.isub, 1) := by decide +kernel
theorem dX11_note_81 : decode cX11_note 81 = .ok (.ireturn, 1) := by decide +kernel
theorem dX11_holds_0 : decode cX11_holds 0 = .ok (.aload_n 0, 1) := by decide +kernel
theorem dX11_holds_1 : decode cX11_holds 1 = .ok (.iconst 0, 1) := by decide +kernel
theorem dX11_holds_2 : decode cX11_holds 2 = .ok (.putfield 115, 3) := by decide +kernel
theorem dX11_holds_5 : decode cX11_holds 5 = .ok (.aload_n 0, 1) := by decide +kernel
theorem dX11_holds_6 : decode cX11_holds 6 = .ok (.iload_n 1, 1) := by decide +kernel
theorem dX11_holds_7 : decode cX11_holds 7 = .ok (.invokevirtual 285, 3) := by decide +kernel
theorem dX11_holds_10 : decode cX11_holds 10 = .ok (.ifCond .eq 42, 3) := by decide +kernel
theorem dX11_holds_13 : decode cX11_holds 13 = .ok (.iload_n 2, 1) := by decide +kernel
theorem dX11_holds_14 : decode cX11_holds 14 = .ok (.ifCond .lt 38, 3) := by decide +kernel
theorem dX11_holds_17 : decode cX11_holds 17 = .ok (.iload_n 2, 1) := by decide +kernel
theorem dX11_holds_18 : decode cX11_holds 18 = .ok (.aload_n 0, 1) := by decide +kernel
theorem dX11_holds_19 : decode cX11_holds 19 = .ok (.getfield 58, 3) := by decide +kernel
theorem dX11_holds_22 : decode cX11_holds 22 = .ok (.iload_n 1, 1) := by decide +kernel
theorem dX11_holds_23 : decode cX11_holds 23 = .ok (.iaload, 1) := by decide +kernel
theorem dX11_holds_24 : decode cX11_holds 24 = .ok (.if_icmp .ge 28, 3) := by decide +kernel
theorem dX11_holds_27 : decode cX11_holds 27 = .ok (.aload_n 0, 1) := by decide +kernel
theorem dX11_holds_28 : decode cX11_holds 28 = .ok (.iload_n 3, 1) := by decide +kernel
theorem dX11_holds_29 : decode cX11_holds 29 = .ok (.invokevirtual 273, 3) := by decide +kernel
theorem dX11_holds_32 : decode cX11_holds 32 = .ok (.ifCond .eq 20, 3) := by decide +kernel
theorem dX11_holds_35 : decode cX11_holds 35 = .ok (.iload 4, 2) := by decide +kernel
theorem dX11_holds_37 : decode cX11_holds 37 = .ok (.invokestatic 279, 3) := by decide +kernel
theorem dX11_holds_40 : decode cX11_holds 40 = .ok (.ifCond .eq 12, 3) := by decide +kernel
theorem dX11_holds_43 : decode cX11_holds 43 = .ok (.aload_n 0, 1) := by decide +kernel
theorem dX11_holds_44 : decode cX11_holds 44 = .ok (.getfield 282, 3) := by decide +kernel
theorem dX11_holds_47 : decode cX11_holds 47 = .ok (.bipush 120, 2) := by decide +kernel
theorem dX11_holds_49 : decode cX11_holds 49 = .ok (.if_icmp .ne 5, 3) := by decide +kernel
theorem dX11_holds_52 : decode cX11_holds 52 = .ok (.iconst (-1), 1) := by decide +kernel
theorem dX11_holds_53 : decode cX11_holds 53 = .ok (.ireturn, 1) := by decide +kernel
theorem dX11_holds_54 : decode cX11_holds 54 = .ok (.aload_n 0, 1) := by decide +kernel
theorem dX11_holds_55 : decode cX11_holds 55 = .ok (.iload 5, 2) := by decide +kernel
theorem dX11_holds_57 : decode cX11_holds 57 = .ok (.ifCond .eq 7, 3) := by decide +kernel
theorem dX11_holds_60 : decode cX11_holds 60 = .ok (.iconst 1, 1) := by decide +kernel
theorem dX11_holds_61 : decode cX11_holds 61 = .ok (.goto 4, 3) := by decide +kernel
theorem dX11_holds_64 : decode cX11_holds 64 = .ok (.iconst 0, 1) := by decide +kernel
theorem dX11_holds_65 : decode cX11_holds 65 = .ok (.iload_n 1, 1) := by decide +kernel
theorem dX11_holds_66 : decode cX11_holds 66 = .ok (.iload_n 2, 1) := by decide +kernel
theorem dX11_holds_67 : decode cX11_holds 67 = .ok (.iload_n 3, 1) := by decide +kernel
theorem dX11_holds_68 : decode cX11_holds 68 = .ok (.iload 4, 2) := by decide +kernel
theorem dX11_holds_70 : decode cX11_holds 70 = .ok (.invokevirtual 288, 3) := by decide +kernel
theorem dX11_holds_73 : decode cX11_holds 73 = .ok (.ireturn, 1) := by decide +kernel
theorem dX11_isLater_0 : decode cX11_isLater 0 = .ok (.aload_n 0, 1) := by decide +kernel
theorem dX11_isLater_1 : decode cX11_isLater 1 = .ok (.getfield 55, 3) := by decide +kernel
theorem dX11_isLater_4 : decode cX11_isLater 4 = .ok (.iload_n 1, 1) := by decide +kernel
theorem dX11_isLater_5 : decode cX11_isLater 5 = .ok (.iaload, 1) := by decide +kernel
theorem dX11_isLater_6 : decode cX11_isLater 6 = .ok (.aload_n 0, 1) := by decide +kernel
theorem dX11_isLater_7 : decode cX11_isLater 7 = .ok (.getfield 55, 3) := by decide +kernel
theorem dX11_isLater_10 : decode cX11_isLater 10 = .ok (.iload_n 2, 1) := by decide +kernel
theorem dX11_isLater_11 : decode cX11_isLater 11 = .ok (.iaload, 1) := by decide +kernel
theorem dX11_isLater_12 : decode cX11_isLater 12 = .ok (.if_icmp .gt 23, 3) := by decide +kernel
theorem dX11_isLater_15 : decode cX11_isLater 15 = .ok (.aload_n 0, 1) := by decide +kernel
theorem dX11_isLater_16 : decode cX11_isLater 16 = .ok (.getfield 55, 3) := by decide +kernel
theorem dX11_isLater_19 : decode cX11_isLater 19 = .ok (.iload_n 1, 1) := by decide +kernel
theorem dX11_isLater_20 : decode cX11_isLater 20 = .ok (.iaload, 1) := by decide +kernel
theorem dX11_isLater_21 : decode cX11_isLater 21 = .ok (.aload_n 0, 1) := by decide +kernel
theorem dX11_isLater_22 : decode cX11_isLater 22 = .ok (.getfield 55, 3) := by decide +kernel
theorem dX11_isLater_25 : decode cX11_isLater 25 = .ok (.iload_n 2, 1) := by decide +kernel
theorem dX11_isLater_26 : decode cX11_isLater 26 = .ok (.iaload, 1) := by decide +kernel
theorem dX11_isLater_27 : decode cX11_isLater 27 = .ok (.if_icmp .ne 12, 3) := by decide +kernel
theorem dX11_isLater_30 : decode cX11_isLater 30 = .ok (.iload_n 1, 1) := by decide +kernel
theorem dX11_isLater_31 : decode cX11_isLater 31 = .ok (.iload_n 2, 1) := by decide +kernel
theorem dX11_isLater_32 : decode cX11_isLater 32 = .ok (.if_icmp .le 7, 3) := by decide +kernel
theorem dX11_isLater_35 : decode cX11_isLater 35 = .ok (.iconst 1, 1) := by decide +kernel
theorem dX11_isLater_36 : decode cX11_isLater 36 = .ok (.goto 4, 3) := by decide +kernel
theorem dX11_isLater_39 : decode cX11_isLater 39 = .ok (.iconst 0, 1) := by decide +kernel
theorem dX11_isLater_40 : decode cX11_isLater 40 = .ok (.ireturn, 1) := by decide +kernel
theorem dX11_treats_0 : decode cX11_treats 0 = .ok (.aload_n 0, 1) := by decide +kernel
theorem dX11_treats_1 : decode cX11_treats 1 = .ok (.iconst 0, 1) := by decide +kernel
theorem dX11_treats_2 : decode cX11_treats 2 = .ok (.putfield 115, 3) := by decide +kernel
theorem dX11_treats_5 : decode cX11_treats 5 = .ok (.iload_n 1, 1) := by decide +kernel
theorem dX11_treats_6 : decode cX11_treats 6 = .ok (.iconst 2, 1) := by decide +kernel
theorem dX11_treats_7 : decode cX11_treats 7 = .ok (.if_icmp .lt 56, 3) := by decide +kernel
theorem dX11_treats_10 : decode cX11_treats 10 = .ok (.iload_n 1, 1) := by decide +kernel
theorem dX11_treats_11 : decode cX11_treats 11 = .ok (.iconst 4, 1) := by decide +kernel
theorem dX11_treats_12 : decode cX11_treats 12 = .ok (.if_icmp .gt 51, 3) := by decide +kernel
theorem dX11_treats_15 : decode cX11_treats 15 = .ok (.aload_n 0, 1) := by decide +kernel
theorem dX11_treats_16 : decode cX11_treats 16 = .ok (.iload_n 2, 1) := by decide +kernel
theorem dX11_treats_17 : decode cX11_treats 17 = .ok (.invokevirtual 285, 3) := by decide +kernel
theorem dX11_treats_20 : decode cX11_treats 20 = .ok (.ifCond .eq 43, 3) := by decide +kernel
theorem dX11_treats_23 : decode cX11_treats 23 = .ok (.aload_n 0, 1) := by decide +kernel
theorem dX11_treats_24 : decode cX11_treats 24 = .ok (.iload_n 3, 1) := by decide +kernel
theorem dX11_treats_25 : decode cX11_treats 25 = .ok (.invokevirtual 285, 3) := by decide +kernel
theorem dX11_treats_28 : decode cX11_treats 28 = .ok (.ifCond .eq 35, 3) := by decide +kernel
theorem dX11_treats_31 : decode cX11_treats 31 = .ok (.aload_n 0, 1) := by decide +kernel
theorem dX11_treats_32 : decode cX11_treats 32 = .ok (.iload_n 2, 1) := by decide +kernel
theorem dX11_treats_33 : decode cX11_treats 33 = .ok (.iload_n 3, 1) := by decide +kernel
theorem dX11_treats_34 : decode cX11_treats 34 = .ok (.invokevirtual 292, 3) := by decide +kernel
theorem dX11_treats_37 : decode cX11_treats 37 = .ok (.ifCond .eq 26, 3) := by decide +kernel
theorem dX11_treats_40 : decode cX11_treats 40 = .ok (.iload_n 1, 1) := by decide +kernel
theorem dX11_treats_41 : decode cX11_treats 41 = .ok (.iconst 4, 1) := by decide +kernel
theorem dX11_treats_42 : decode cX11_treats 42 = .ok (.if_icmp .eq 12, 3) := by decide +kernel
theorem dX11_treats_45 : decode cX11_treats 45 = .ok (.aload_n 0, 1) := by decide +kernel
theorem dX11_treats_46 : decode cX11_treats 46 = .ok (.iload 4, 2) := by decide +kernel
theorem dX11_treats_48 : decode cX11_treats 48 = .ok (.invokevirtual 273, 3) := by decide +kernel
theorem dX11_treats_51 : decode cX11_treats 51 = .ok (.ifCond .eq 12, 3) := by decide +kernel
theorem dX11_treats_54 : decode cX11_treats 54 = .ok (.aload_n 0, 1) := by decide +kernel
theorem dX11_treats_55 : decode cX11_treats 55 = .ok (.getfield 282, 3) := by decide +kernel
theorem dX11_treats_58 : decode cX11_treats 58 = .ok (.bipush 120, 2) := by decide +kernel
theorem dX11_treats_60 : decode cX11_treats 60 = .ok (.if_icmp .ne 5, 3) := by decide +kernel
theorem dX11_treats_63 : decode cX11_treats 63 = .ok (.iconst (-1), 1) := by decide +kernel
theorem dX11_treats_64 : decode cX11_treats 64 = .ok (.ireturn, 1) := by decide +kernel
theorem dX11_treats_65 : decode cX11_treats 65 = .ok (.aload_n 0, 1) := by decide +kernel
theorem dX11_treats_66 : decode cX11_treats 66 = .ok (.iload_n 1, 1) := by decide +kernel
theorem dX11_treats_67 : decode cX11_treats 67 = .ok (.iload_n 2, 1) := by decide +kernel
theorem dX11_treats_68 : decode cX11_treats 68 = .ok (.iload_n 3, 1) := by decide +kernel
theorem dX11_treats_69 : decode cX11_treats 69 = .ok (.iload 4, 2) := by decide +kernel
theorem dX11_treats_71 : decode cX11_treats 71 = .ok (.iconst 0, 1) := by decide +kernel
theorem dX11_treats_72 : decode cX11_treats 72 = .ok (.invokevirtual 288, 3) := by decide +kernel
theorem dX11_treats_75 : decode cX11_treats 75 = .ok (.ireturn, 1) := by decide +kernel
theorem dX11_statute_0 : decode cX11_statute 0 = .ok (.aload_n 0, 1) := by decide +kernel
theorem dX11_statute_1 : decode cX11_statute 1 = .ok (.iconst 0, 1) := by decide +kernel
theorem dX11_statute_2 : decode cX11_statute 2 = .ok (.putfield 115, 3) := by decide +kernel
theorem dX11_statute_5 : decode cX11_statute 5 = .ok (.aload_n 0, 1) := by decide +kernel
theorem dX11_statute_6 : decode cX11_statute 6 = .ok (.iload_n 1, 1) := by decide +kernel
theorem dX11_statute_7 : decode cX11_statute 7 = .ok (.invokevirtual 273, 3) := by decide +kernel
theorem dX11_statute_10 : decode cX11_statute 10 = .ok (.ifCond .eq 19, 3) := by decide +kernel
theorem dX11_statute_13 : decode cX11_statute 13 = .ok (.iload_n 2, 1) := by decide +kernel
theorem dX11_statute_14 : decode cX11_statute 14 = .ok (.invokestatic 296, 3) := by decide +kernel
theorem dX11_statute_17 : decode cX11_statute 17 = .ok (.ifCond .eq 12, 3) := by decide +kernel
theorem dX11_statute_20 : decode cX11_statute 20 = .ok (.aload_n 0, 1) := by decide +kernel
theorem dX11_statute_21 : decode cX11_statute 21 = .ok (.getfield 282, 3) := by decide +kernel
theorem dX11_statute_24 : decode cX11_statute 24 = .ok (.bipush 120, 2) := by decide +kernel
theorem dX11_statute_26 : decode cX11_statute 26 = .ok (.if_icmp .ne 5, 3) := by decide +kernel
theorem dX11_statute_29 : decode cX11_statute 29 = .ok (.iconst (-1), 1) := by decide +kernel
theorem dX11_statute_30 : decode cX11_statute 30 = .ok (.ireturn, 1) := by decide +kernel
theorem dX11_statute_31 : decode cX11_statute 31 = .ok (.aload_n 0, 1) := by decide +kernel
theorem dX11_statute_32 : decode cX11_statute 32 = .ok (.iload_n 3, 1) := by decide +kernel
theorem dX11_statute_33 : decode cX11_statute 33 = .ok (.ifCond .eq 8, 3) := by decide +kernel
theorem dX11_statute_36 : decode cX11_statute 36 = .ok (.bipush 6, 2) := by decide +kernel
theorem dX11_statute_38 : decode cX11_statute 38 = .ok (.goto 4, 3) := by decide +kernel
theorem dX11_statute_41 : decode cX11_statute 41 = .ok (.iconst 5, 1) := by decide +kernel
theorem dX11_statute_42 : decode cX11_statute 42 = .ok (.iconst 0, 1) := by decide +kernel
theorem dX11_statute_43 : decode cX11_statute 43 = .ok (.iload_n 2, 1) := by decide +kernel
theorem dX11_statute_44 : decode cX11_statute 44 = .ok (.iload_n 1, 1) := by decide +kernel
theorem dX11_statute_45 : decode cX11_statute 45 = .ok (.iconst 0, 1) := by decide +kernel
theorem dX11_statute_46 : decode cX11_statute 46 = .ok (.invokevirtual 288, 3) := by decide +kernel
theorem dX11_statute_49 : decode cX11_statute 49 = .ok (.ireturn, 1) := by decide +kernel
theorem dX11_join_0 : decode cX11_join 0 = .ok (.aload_n 0, 1) := by decide +kernel
theorem dX11_join_1 : decode cX11_join 1 = .ok (.iconst 0, 1) := by decide +kernel
theorem dX11_join_2 : decode cX11_join 2 = .ok (.putfield 115, 3) := by decide +kernel
theorem dX11_join_5 : decode cX11_join 5 = .ok (.aload_n 0, 1) := by decide +kernel
theorem dX11_join_6 : decode cX11_join 6 = .ok (.iload_n 1, 1) := by decide +kernel
theorem dX11_join_7 : decode cX11_join 7 = .ok (.invokevirtual 273, 3) := by decide +kernel
theorem dX11_join_10 : decode cX11_join 10 = .ok (.ifCond .eq 25, 3) := by decide +kernel
theorem dX11_join_13 : decode cX11_join 13 = .ok (.aload_n 0, 1) := by decide +kernel
theorem dX11_join_14 : decode cX11_join 14 = .ok (.iload_n 2, 1) := by decide +kernel
theorem dX11_join_15 : decode cX11_join 15 = .ok (.invokevirtual 273, 3) := by decide +kernel
theorem dX11_join_18 : decode cX11_join 18 = .ok (.ifCond .eq 17, 3) := by decide +kernel
theorem dX11_join_21 : decode cX11_join 21 = .ok (.iload_n 1, 1) := by decide +kernel
theorem dX11_join_22 : decode cX11_join 22 = .ok (.iload_n 2, 1) := by decide +kernel
theorem dX11_join_23 : decode cX11_join 23 = .ok (.if_icmp .eq 12, 3) := by decide +kernel
theorem dX11_join_26 : decode cX11_join 26 = .ok (.aload_n 0, 1) := by decide +kernel
theorem dX11_join_27 : decode cX11_join 27 = .ok (.getfield 282, 3) := by decide +kernel
theorem dX11_join_30 : decode cX11_join 30 = .ok (.bipush 120, 2) := by decide +kernel
theorem dX11_join_32 : decode cX11_join 32 = .ok (.if_icmp .ne 5, 3) := by decide +kernel
theorem dX11_join_35 : decode cX11_join 35 = .ok (.iconst (-1), 1) := by decide +kernel
theorem dX11_join_36 : decode cX11_join 36 = .ok (.ireturn, 1) := by decide +kernel
theorem dX11_join_37 : decode cX11_join 37 = .ok (.aload_n 0, 1) := by decide +kernel
theorem dX11_join_38 : decode cX11_join 38 = .ok (.bipush 7, 2) := by decide +kernel
theorem dX11_join_40 : decode cX11_join 40 = .ok (.iload_n 1, 1) := by decide +kernel
theorem dX11_join_41 : decode cX11_join 41 = .ok (.iload_n 2, 1) := by decide +kernel
theorem dX11_join_42 : decode cX11_join 42 = .ok (.iconst 0, 1) := by decide +kernel
theorem dX11_join_43 : decode cX11_join 43 = .ok (.iconst 0, 1) := by decide +kernel
theorem dX11_join_44 : decode cX11_join 44 = .ok (.invokevirtual 288, 3) := by decide +kernel
theorem dX11_join_47 : decode cX11_join 47 = .ok (.ireturn, 1) := by decide +kernel
theorem dX11_strike_0 : decode cX11_strike 0 = .ok (.aload_n 0, 1) := by decide +kernel
theorem dX11_strike_1 : decode cX11_strike 1 = .ok (.iconst 0, 1) := by decide +kernel
theorem dX11_strike_2 : decode cX11_strike 2 = .ok (.putfield 115, 3) := by decide +kernel
theorem dX11_strike_5 : decode cX11_strike 5 = .ok (.iload_n 1, 1) := by decide +kernel
theorem dX11_strike_6 : decode cX11_strike 6 = .ok (.ifCond .lt 20, 3) := by decide +kernel
theorem dX11_strike_9 : decode cX11_strike 9 = .ok (.iload_n 1, 1) := by decide +kernel
theorem dX11_strike_10 : decode cX11_strike 10 = .ok (.aload_n 0, 1) := by decide +kernel
theorem dX11_strike_11 : decode cX11_strike 11 = .ok (.getfield 282, 3) := by decide +kernel
theorem dX11_strike_14 : decode cX11_strike 14 = .ok (.if_icmp .ge 12, 3) := by decide +kernel
theorem dX11_strike_17 : decode cX11_strike 17 = .ok (.aload_n 0, 1) := by decide +kernel
theorem dX11_strike_18 : decode cX11_strike 18 = .ok (.getfield 282, 3) := by decide +kernel
theorem dX11_strike_21 : decode cX11_strike 21 = .ok (.bipush 120, 2) := by decide +kernel
theorem dX11_strike_23 : decode cX11_strike 23 = .ok (.if_icmp .ne 5, 3) := by decide +kernel
theorem dX11_strike_26 : decode cX11_strike 26 = .ok (.iconst (-1), 1) := by decide +kernel
theorem dX11_strike_27 : decode cX11_strike 27 = .ok (.ireturn, 1) := by decide +kernel
theorem dX11_strike_28 : decode cX11_strike 28 = .ok (.aload_n 0, 1) := by decide +kernel
theorem dX11_strike_29 : decode cX11_strike 29 = .ok (.bipush 8, 2) := by decide +kernel
theorem dX11_strike_31 : decode cX11_strike 31 = .ok (.iload_n 1, 1) := by decide +kernel
theorem dX11_strike_32 : decode cX11_strike 32 = .ok (.iconst 0, 1) := by decide +kernel
theorem dX11_strike_33 : decode cX11_strike 33 = .ok (.iconst 0, 1) := by decide +kernel
theorem dX11_strike_34 : decode cX11_strike 34 = .ok (.iconst 0, 1) := by decide +kernel
theorem dX11_strike_35 : decode cX11_strike 35 = .ok (.invokevirtual 288, 3) := by decide +kernel
theorem dX11_strike_38 : decode cX11_strike 38 = .ok (.ireturn, 1) := by decide +kernel
theorem dX11_knows_0 : decode cX11_knows 0 = .ok (.iconst 0, 1) := by decide +kernel
theorem dX11_knows_1 : decode cX11_knows 1 = .ok (.istore_n 3, 1) := by decide +kernel
theorem dX11_knows_2 : decode cX11_knows 2 = .ok (.iload_n 3, 1) := by decide +kernel
theorem dX11_knows_3 : decode cX11_knows 3 = .ok (.aload_n 0, 1) := by decide +kernel
theorem dX11_knows_4 : decode cX11_knows 4 = .ok (.getfield 282, 3) := by decide +kernel
theorem dX11_knows_7 : decode cX11_knows 7 = .ok (.if_icmp .ge 16, 3) := by decide +kernel
theorem dX11_knows_10 : decode cX11_knows 10 = .ok (.aload_n 0, 1) := by decide +kernel
theorem dX11_knows_11 : decode cX11_knows 11 = .ok (.getfield 85, 3) := by decide +kernel
theorem dX11_knows_14 : decode cX11_knows 14 = .ok (.iload_n 3, 1) := by decide +kernel
theorem dX11_knows_15 : decode cX11_knows 15 = .ok (.iconst 0, 1) := by decide +kernel
theorem dX11_knows_16 : decode cX11_knows 16 = .ok (.bastore, 1) := by decide +kernel
theorem dX11_knows_17 : decode cX11_knows 17 = .ok (.iinc 3 1, 3) := by decide +kernel
theorem dX11_knows_20 : decode cX11_knows 20 = .ok (.goto (-18), 3) := by decide +kernel
theorem dX11_knows_23 : decode cX11_knows 23 = .ok (.aload_n 0, 1) := by decide +kernel
theorem dX11_knows_24 : decode cX11_knows 24 = .ok (.getfield 282, 3) := by decide +kernel
theorem dX11_knows_27 : decode cX11_knows 27 = .ok (.iconst 1, 1) := by decide +kernel
theorem dX11_knows_28 : decode cX11_knows 28 = .ok (.isub, 1) := by decide +kernel
theorem dX11_knows_29 : decode cX11_knows 29 = .ok (.istore_n 3, 1) := by decide +kernel
theorem dX11_knows_30 : decode cX11_knows 30 = .ok (.iload_n 3, 1) := by decide +kernel
theorem dX11_knows_31 : decode cX11_knows 31 = .ok (.ifCond .lt 51, 3) := by decide +kernel
theorem dX11_knows_34 : decode cX11_knows 34 = .ok (.aload_n 0, 1) := by decide +kernel
theorem dX11_knows_35 : decode cX11_knows 35 = .ok (.getfield 70, 3) := by decide +kernel
theorem dX11_knows_38 : decode cX11_knows 38 = .ok (.iload_n 3, 1) := by decide +kernel
theorem dX11_knows_39 : decode cX11_knows 39 = .ok (.iaload, 1) := by decide +kernel
theorem dX11_knows_40 : decode cX11_knows 40 = .ok (.iload_n 1, 1) := by decide +kernel
theorem dX11_knows_41 : decode cX11_knows 41 = .ok (.if_icmp .gt 35, 3) := by decide +kernel
theorem dX11_knows_44 : decode cX11_knows 44 = .ok (.aload_n 0, 1) := by decide +kernel
theorem dX11_knows_45 : decode cX11_knows 45 = .ok (.getfield 85, 3) := by decide +kernel
theorem dX11_knows_48 : decode cX11_knows 48 = .ok (.iload_n 3, 1) := by decide +kernel
theorem dX11_knows_49 : decode cX11_knows 49 = .ok (.baload, 1) := by decide +kernel
theorem dX11_knows_50 : decode cX11_knows 50 = .ok (.ifCond .ne 26, 3) := by decide +kernel
theorem dX11_knows_53 : decode cX11_knows 53 = .ok (.aload_n 0, 1) := by decide +kernel
theorem dX11_knows_54 : decode cX11_knows 54 = .ok (.getfield 67, 3) := by decide +kernel
theorem dX11_knows_57 : decode cX11_knows 57 = .ok (.iload_n 3, 1) := by decide +kernel
theorem dX11_knows_58 : decode cX11_knows 58 = .ok (.iaload, 1) := by decide +kernel
theorem dX11_knows_59 : decode cX11_knows 59 = .ok (.bipush 8, 2) := by decide +kernel
theorem dX11_knows_61 : decode cX11_knows 61 = .ok (.if_icmp .ne 15, 3) := by decide +kernel
theorem dX11_knows_64 : decode cX11_knows 64 = .ok (.aload_n 0, 1) := by decide +kernel
theorem dX11_knows_65 : decode cX11_knows 65 = .ok (.getfield 85, 3) := by decide +kernel
theorem dX11_knows_68 : decode cX11_knows 68 = .ok (.aload_n 0, 1) := by decide +kernel
theorem dX11_knows_69 : decode cX11_knows 69 = .ok (.getfield 73, 3) := by decide +kernel
theorem dX11_knows_72 : decode cX11_knows 72 = .ok (.iload_n 3, 1) := by decide +kernel
theorem dX11_knows_73 : decode cX11_knows 73 = .ok (.iaload, 1) := by decide +kernel
theorem dX11_knows_74 : decode cX11_knows 74 = .ok (.iconst 1, 1) := by decide +kernel
theorem dX11_knows_75 : decode cX11_knows 75 = .ok (.bastore, 1) := by decide +kernel
theorem dX11_knows_76 : decode cX11_knows 76 = .ok (.iinc 3 (-1), 3) := by decide +kernel
theorem dX11_knows_79 : decode cX11_knows 79 = .ok (.goto (-49), 3) := by decide +kernel
theorem dX11_knows_82 : decode cX11_knows 82 = .ok (.iconst 0, 1) := by decide +kernel
theorem dX11_knows_83 : decode cX11_knows 83 = .ok (.istore_n 3, 1) := by decide +kernel
theorem dX11_knows_84 : decode cX11_knows 84 = .ok (.iload_n 3, 1) := by decide +kernel
theorem dX11_knows_85 : decode cX11_knows 85 = .ok (.aload_n 0, 1) := by decide +kernel
theorem dX11_knows_86 : decode cX11_knows 86 = .ok (.getfield 282, 3) := by decide +kernel
theorem dX11_knows_89 : decode cX11_knows 89 = .ok (.if_icmp .ge 101, 3) := by decide +kernel
theorem dX11_knows_92 : decode cX11_knows 92 = .ok (.aload_n 0, 1) := by decide +kernel
theorem dX11_knows_93 : decode cX11_knows 93 = .ok (.getfield 67, 3) := by decide +kernel
theorem dX11_knows_96 : decode cX11_knows 96 = .ok (.iload_n 3, 1) := by decide +kernel
theorem dX11_knows_97 : decode cX11_knows 97 = .ok (.iaload, 1) := by decide +kernel
theorem dX11_knows_98 : decode cX11_knows 98 = .ok (.iconst 4, 1) := by decide +kernel
theorem dX11_knows_99 : decode cX11_knows 99 = .ok (.if_icmp .gt 13, 3) := by decide +kernel
theorem dX11_knows_102 : decode cX11_knows 102 = .ok (.aload_n 0, 1) := by decide +kernel
theorem dX11_knows_103 : decode cX11_knows 103 = .ok (.getfield 73, 3) := by decide +kernel
theorem dX11_knows_106 : decode cX11_knows 106 = .ok (.iload_n 3, 1) := by decide +kernel
theorem dX11_knows_107 : decode cX11_knows 107 = .ok (.iaload, 1) := by decide +kernel
theorem dX11_knows_108 : decode cX11_knows 108 = .ok (.iload_n 2, 1) := by decide +kernel
theorem dX11_knows_109 : decode cX11_knows 109 = .ok (.if_icmp .eq 33, 3) := by decide +kernel
theorem dX11_knows_112 : decode cX11_knows 112 = .ok (.aload_n 0, 1) := by decide +kernel
theorem dX11_knows_113 : decode cX11_knows 113 = .ok (.getfield 67, 3) := by decide +kernel
theorem dX11_knows_116 : decode cX11_knows 116 = .ok (.iload_n 3, 1) := by decide +kernel
theorem dX11_knows_117 : decode cX11_knows 117 = .ok (.iaload, 1) := by decide +kernel
theorem dX11_knows_118 : decode cX11_knows 118 = .ok (.iconst 2, 1) := by decide +kernel
theorem dX11_knows_119 : decode cX11_knows 119 = .ok (.if_icmp .lt 27, 3) := by decide +kernel
theorem dX11_knows_122 : decode cX11_knows 122 = .ok (.aload_n 0, 1) := by decide +kernel
theorem dX11_knows_123 : decode cX11_knows 123 = .ok (.getfield 67, 3) := by decide +kernel
theorem dX11_knows_126 : decode cX11_knows 126 = .ok (.iload_n 3, 1) := by decide +kernel
theorem dX11_knows_127 : decode cX11_knows 127 = .ok (.iaload, 1) := by decide +kernel
theorem dX11_knows_128 : decode cX11_knows 128 = .ok (.iconst 4, 1) := by decide +kernel
theorem dX11_knows_129 : decode cX11_knows 129 = .ok (.if_icmp .gt 17, 3) := by decide +kernel
theorem dX11_knows_132 : decode cX11_knows 132 = .ok (.aload_n 0, 1) := by decide +kernel
theorem dX11_knows_133 : decode cX11_knows 133 = .ok (.getfield 76, 3) := by decide +kernel
theorem dX11_knows_136 : decode cX11_knows 136 = .ok (.iload_n 3, 1) := by decide +kernel
theorem dX11_knows_137 : decode cX11_knows 137 = .ok (.iaload, 1) := by decide +kernel
theorem dX11_knows_138 : decode cX11_knows 138 = .ok (.iload_n 2, 1) := by decide +kernel
theorem dX11_knows_139 : decode cX11_knows 139 = .ok (.if_icmp .ne 7, 3) := by decide +kernel
theorem dX11_knows_142 : decode cX11_knows 142 = .ok (.iconst 1, 1) := by decide +kernel
theorem dX11_knows_143 : decode cX11_knows 143 = .ok (.goto 4, 3) := by decide +kernel
theorem dX11_knows_146 : decode cX11_knows 146 = .ok (.iconst 0, 1) := by decide +kernel
theorem dX11_knows_147 : decode cX11_knows 147 = .ok (.istore 4, 2) := by decide +kernel
theorem dX11_knows_149 : decode cX11_knows 149 = .ok (.aload_n 0, 1) := by decide +kernel
theorem dX11_knows_150 : decode cX11_knows 150 = .ok (.getfield 88, 3) := by decide +kernel
theorem dX11_knows_153 : decode cX11_knows 153 = .ok (.iload_n 3, 1) := by decide +kernel
theorem dX11_knows_154 : decode cX11_knows 154 = .ok (.aload_n 0, 1) := by decide +kernel
theorem dX11_knows_155 : decode cX11_knows 155 = .ok (.getfield 70, 3) := by decide +kernel
theorem dX11_knows_158 : decode cX11_knows 158 = .ok (.iload_n 3, 1) := by decide +kernel
theorem dX11_knows_159 : decode cX11_knows 159 = .ok (.iaload, 1) := by decide +kernel
theorem dX11_knows_160 : decode cX11_knows 160 = .ok (.iload_n 1, 1) := by decide +kernel
theorem dX11_knows_161 : decode cX11_knows 161 = .ok (.if_icmp .gt 21, 3) := by decide +kernel
theorem dX11_knows_164 : decode cX11_knows 164 = .ok (.aload_n 0, 1) := by decide +kernel
theorem dX11_knows_165 : decode cX11_knows 165 = .ok (.getfield 85, 3) := by decide +kernel
theorem dX11_knows_168 : decode cX11_knows 168 = .ok (.iload_n 3, 1) := by decide +kernel
theorem dX11_knows_169 : decode cX11_knows 169 = .ok (.baload, 1) := by decide +kernel
theorem dX11_knows_170 : decode cX11_knows 170 = .ok (.ifCond .ne 12, 3) := by decide +kernel
theorem dX11_knows_173 : decode cX11_knows 173 = .ok (.iload 4, 2) := by decide +kernel
theorem dX11_knows_175 : decode cX11_knows 175 = .ok (.ifCond .ne 7, 3) := by decide +kernel
theorem dX11_knows_178 : decode cX11_knows 178 = .ok (.iconst 1, 1) := by decide +kernel
theorem dX11_knows_179 : decode cX11_knows 179 = .ok (.goto 4, 3) := by decide +kernel
theorem dX11_knows_182 : decode cX11_knows 182 = .ok (.iconst 0, 1) := by decide +kernel
theorem dX11_knows_183 : decode cX11_knows 183 = .ok (.bastore, 1) := by decide +kernel
theorem dX11_knows_184 : decode cX11_knows 184 = .ok (.iinc 3 1, 3) := by decide +kernel
theorem dX11_knows_187 : decode cX11_knows 187 = .ok (.goto (-103), 3) := by decide +kernel
theorem dX11_knows_190 : decode cX11_knows 190 = .ok (.aload_n 0, 1) := by decide +kernel
theorem dX11_knows_191 : decode cX11_knows 191 = .ok (.invokevirtual 299, 3) := by decide +kernel
theorem dX11_knows_194 : decode cX11_knows 194 = .ok (.aload_n 0, 1) := by decide +kernel
theorem dX11_knows_195 : decode cX11_knows 195 = .ok (.iconst 0, 1) := by decide +kernel
theorem dX11_knows_196 : decode cX11_knows 196 = .ok (.putfield 302, 3) := by decide +kernel
theorem dX11_knows_199 : decode cX11_knows 199 = .ok (.iconst 0, 1) := by decide +kernel
theorem dX11_knows_200 : decode cX11_knows 200 = .ok (.istore_n 3, 1) := by decide +kernel
theorem dX11_knows_201 : decode cX11_knows 201 = .ok (.iload_n 3, 1) := by decide +kernel
theorem dX11_knows_202 : decode cX11_knows 202 = .ok (.aload_n 0, 1) := by decide +kernel
theorem dX11_knows_203 : decode cX11_knows 203 = .ok (.getfield 270, 3) := by decide +kernel
theorem dX11_knows_206 : decode cX11_knows 206 = .ok (.if_icmp .ge 108, 3) := by decide +kernel
theorem dX11_knows_209 : decode cX11_knows 209 = .ok (.aload_n 0, 1) := by decide +kernel
theorem dX11_knows_210 : decode cX11_knows 210 = .ok (.getfield 100, 3) := by decide +kernel
theorem dX11_knows_213 : decode cX11_knows 213 = .ok (.iload_n 3, 1) := by decide +kernel
theorem dX11_knows_214 : decode cX11_knows 214 = .ok (.iconst (-1), 1) := by decide +kernel
theorem dX11_knows_215 : decode cX11_knows 215 = .ok (.iastore, 1) := by decide +kernel
theorem dX11_knows_216 : decode cX11_knows 216 = .ok (.iload_n 3, 1) := by decide +kernel
theorem dX11_knows_217 : decode cX11_knows 217 = .ok (.iload_n 2, 1) := by decide +kernel
theorem dX11_knows_218 : decode cX11_knows 218 = .ok (.if_icmp .eq 90, 3) := by decide +kernel
theorem dX11_knows_221 : decode cX11_knows 221 = .ok (.aload_n 0, 1) := by decide +kernel
theorem dX11_knows_222 : decode cX11_knows 222 = .ok (.getfield 64, 3) := by decide +kernel
theorem dX11_knows_225 : decode cX11_knows 225 = .ok (.iload_n 3, 1) := by decide +kernel
theorem dX11_knows_226 : decode cX11_knows 226 = .ok (.iaload, 1) := by decide +kernel
theorem dX11_knows_227 : decode cX11_knows 227 = .ok (.iload_n 1, 1) := by decide +kernel
theorem dX11_knows_228 : decode cX11_knows 228 = .ok (.if_icmp .le 6, 3) := by decide +kernel
theorem dX11_knows_231 : decode cX11_knows 231 = .ok (.goto 77, 3) := by decide +kernel
theorem dX11_knows_234 : decode cX11_knows 234 = .ok (.aload_n 0, 1) := by decide +kernel
theorem dX11_knows_235 : decode cX11_knows 235 = .ok (.getfield 302, 3) := by decide +kernel
theorem dX11_knows_238 : decode cX11_knows 238 = .ok (.istore 4, 2) := by decide +kernel
theorem dX11_knows_240 : decode cX11_knows 240 = .ok (.iload 4, 2) := by decide +kernel
theorem dX11_knows_242 : decode cX11_knows 242 = .ok (.ifCond .le 48, 3) := by decide +kernel
theorem dX11_knows_245 : decode cX11_knows 245 = .ok (.aload_n 0, 1) := by decide +kernel
theorem dX11_knows_246 : decode cX11_knows 246 = .ok (.getfield 55, 3) := by decide +kernel
theorem dX11_knows_249 : decode cX11_knows 249 = .ok (.aload_n 0, 1) := by decide +kernel
theorem dX11_knows_250 : decode cX11_knows 250 = .ok (.getfield 97, 3) := by decide +kernel
theorem dX11_knows_253 : decode cX11_knows 253 = .ok (.iload 4, 2) := by decide +kernel
theorem dX11_knows_255 : decode cX11_knows 255 = .ok (.iconst 1, 1) := by decide +kernel
theorem dX11_knows_256 : decode cX11_knows 256 = .ok (.isub, 1) := by decide +kernel
theorem dX11_knows_257 : decode cX11_knows 257 = .ok (.iaload, 1) := by decide +kernel
theorem dX11_knows_258 : decode cX11_knows 258 = .ok (.iaload, 1) := by decide +kernel
theorem dX11_knows_259 : decode cX11_knows 259 = .ok (.aload_n 0, 1) := by decide +kernel
theorem dX11_knows_260 : decode cX11_knows 260 = .ok (.getfield 55, 3) := by decide +kernel
theorem dX11_knows_263 : decode cX11_knows 263 = .ok (.iload_n 3, 1) := by decide +kernel
theorem dX11_knows_264 : decode cX11_knows 264 = .ok (.iaload, 1) := by decide +kernel
theorem dX11_knows_265 : decode cX11_knows 265 = .ok (.if_icmp .le 25, 3) := by decide +kernel
theorem dX11_knows_268 : decode cX11_knows 268 = .ok (.aload_n 0, 1) := by decide +kernel
theorem dX11_knows_269 : decode cX11_knows 269 = .ok (.getfield 97, 3) := by decide +kernel
theorem dX11_knows_272 : decode cX11_knows 272 = .ok (.iload 4, 2) := by decide +kernel
theorem dX11_knows_274 : decode cX11_knows 274 = .ok (.aload_n 0, 1) := by decide +kernel
theorem dX11_knows_275 : decode cX11_knows 275 = .ok (.getfield 97, 3) := by decide +kernel
theorem dX11_knows_278 : decode cX11_knows 278 = .ok (.iload 4, 2) := by decide +kernel
theorem dX11_knows_280 : decode cX11_knows 280 = .ok (.iconst 1, 1) := by decide +kernel
theorem dX11_knows_281 : decode cX11_knows 281 = .ok (.isub, 1) := by decide +kernel
theorem dX11_knows_282 : decode cX11_knows 282 = .ok (.iaload, 1) := by decide +kernel
theorem dX11_knows_283 : decode cX11_knows 283 = .ok (.iastore, 1) := by decide +kernel
theorem dX11_knows_284 : decode cX11_knows 284 = .ok (.iinc 4 (-1), 3) := by decide +kernel
theorem dX11_knows_287 : decode cX11_knows 287 = .ok (.goto (-47), 3) := by decide +kernel
theorem dX11_knows_290 : decode cX11_knows 290 = .ok (.aload_n 0, 1) := by decide +kernel
theorem dX11_knows_291 : decode cX11_knows 291 = .ok (.getfield 97, 3) := by decide +kernel
theorem dX11_knows_294 : decode cX11_knows 294 = .ok (.iload 4, 2) := by decide +kernel
theorem dX11_knows_296 : decode cX11_knows 296 = .ok (.iload_n 3, 1) := by decide +kernel
theorem dX11_knows_297 : decode cX11_knows 297 = .ok (.iastore, 1) := by decide +kernel
theorem dX11_knows_298 : decode cX11_knows 298 = .ok (.aload_n 0, 1) := by decide +kernel
theorem dX11_knows_299 : decode cX11_knows 299 = .ok (.dup, 1) := by decide +kernel
theorem dX11_knows_300 : decode cX11_knows 300 = .ok (.getfield 302, 3) := by decide +kernel
theorem dX11_knows_303 : decode cX11_knows 303 = .ok (.iconst 1, 1) := by decide +kernel
theorem dX11_knows_304 : decode cX11_knows 304 = .ok (.iadd, 1) := by decide +kernel
theorem dX11_knows_305 : decode cX11_knows 305 = .ok (.putfield 302, 3) := by decide +kernel
theorem dX11_knows_308 : decode cX11_knows 308 = .ok (.iinc 3 1, 3) := by decide +kernel
theorem dX11_knows_311 : decode cX11_knows 311 = .ok (.goto (-110), 3) := by decide +kernel
theorem dX11_knows_314 : decode cX11_knows 314 = .ok (.iconst 0, 1) := by decide +kernel
theorem dX11_knows_315 : decode cX11_knows 315 = .ok (.istore_n 3, 1) := by decide +kernel
theorem dX11_knows_316 : decode cX11_knows 316 = .ok (.iload_n 3, 1) := by decide +kernel
theorem dX11_knows_317 : decode cX11_knows 317 = .ok (.aload_n 0, 1) := by decide +kernel
theorem dX11_knows_318 : decode cX11_knows 318 = .ok (.getfield 302, 3) := by decide +kernel
theorem dX11_knows_321 : decode cX11_knows 321 = .ok (.if_icmp .ge 21, 3) := by decide +kernel
theorem dX11_knows_324 : decode cX11_knows 324 = .ok (.aload_n 0, 1) := by decide +kernel
theorem dX11_knows_325 : decode cX11_knows 325 = .ok (.getfield 100, 3) := by decide +kernel
theorem dX11_knows_328 : decode cX11_knows 328 = .ok (.aload_n 0, 1) := by decide +kernel
theorem dX11_knows_329 : decode cX11_knows 329 = .ok (.getfield 97, 3) := by decide +kernel
theorem dX11_knows_332 : decode cX11_knows 332 = .ok (.iload_n 3, 1) := by decide +kernel
theorem dX11_knows_333 : decode cX11_knows 333 = .ok (.iaload, 1) := by decide +kernel
theorem dX11_knows_334 : decode cX11_knows 334 = .ok (.iload_n 3, 1) := by decide +kernel
theorem dX11_knows_335 : decode cX11_knows 335 = .ok (.iastore, 1) := by decide +kernel
theorem dX11_knows_336 : decode cX11_knows 336 = .ok (.iinc 3 1, 3) := by decide +kernel
theorem dX11_knows_339 : decode cX11_knows 339 = .ok (.goto (-23), 3) := by decide +kernel
theorem dX11_knows_342 : decode cX11_knows 342 = .ok (.iconst 0, 1) := by decide +kernel
theorem dX11_knows_343 : decode cX11_knows 343 = .ok (.istore_n 3, 1) := by decide +kernel
theorem dX11_knows_344 : decode cX11_knows 344 = .ok (.iload_n 3, 1) := by decide +kernel
theorem dX11_knows_345 : decode cX11_knows 345 = .ok (.aload_n 0, 1) := by decide +kernel
theorem dX11_knows_346 : decode cX11_knows 346 = .ok (.getfield 302, 3) := by decide +kernel
theorem dX11_knows_349 : decode cX11_knows 349 = .ok (.if_icmp .ge 14, 3) := by decide +kernel
theorem dX11_knows_352 : decode cX11_knows 352 = .ok (.aload_n 0, 1) := by decide +kernel
theorem dX11_knows_353 : decode cX11_knows 353 = .ok (.iload_n 3, 1) := by decide +kernel
theorem dX11_knows_354 : decode cX11_knows 354 = .ok (.invokevirtual 305, 3) := by decide +kernel
theorem dX11_knows_357 : decode cX11_knows 357 = .ok (.iinc 3 1, 3) := by decide +kernel
theorem dX11_knows_360 : decode cX11_knows 360 = .ok (.goto (-16), 3) := by decide +kernel
theorem dX11_knows_363 : decode cX11_knows 363 = .ok (.return_, 1) := by decide +kernel
theorem dX11_joins_0 : decode cX11_joins 0 = .ok (.iconst 0, 1) := by decide +kernel
theorem dX11_joins_1 : decode cX11_joins 1 = .ok (.istore_n 1, 1) := by decide +kernel
theorem dX11_joins_2 : decode cX11_joins 2 = .ok (.iload_n 1, 1) := by decide +kernel
theorem dX11_joins_3 : decode cX11_joins 3 = .ok (.aload_n 0, 1) := by decide +kernel
theorem dX11_joins_4 : decode cX11_joins 4 = .ok (.getfield 267, 3) := by decide +kernel
theorem dX11_joins_7 : decode cX11_joins 7 = .ok (.if_icmp .ge 16, 3) := by decide +kernel
theorem dX11_joins_10 : decode cX11_joins 10 = .ok (.aload_n 0, 1) := by decide +kernel
theorem dX11_joins_11 : decode cX11_joins 11 = .ok (.getfield 91, 3) := by decide +kernel
theorem dX11_joins_14 : decode cX11_joins 14 = .ok (.iload_n 1, 1) := by decide +kernel
theorem dX11_joins_15 : decode cX11_joins 15 = .ok (.iload_n 1, 1) := by decide +kernel
theorem dX11_joins_16 : decode cX11_joins 16 = .ok (.iastore, 1) := by decide +kernel
theorem dX11_joins_17 : decode cX11_joins 17 = .ok (.iinc 1 1, 3) := by decide +kernel
theorem dX11_joins_20 : decode cX11_joins 20 = .ok (.goto (-18), 3) := by decide +kernel
theorem dX11_joins_23 : decode cX11_joins 23 = .ok (.iconst 0, 1) := by decide +kernel
theorem dX11_joins_24 : decode cX11_joins 24 = .ok (.istore_n 1, 1) := by decide +kernel
theorem dX11_joins_25 : decode cX11_joins 25 = .ok (.iload_n 1, 1) := by decide +kernel
theorem dX11_joins_26 : decode cX11_joins 26 = .ok (.aload_n 0, 1) := by decide +kernel
theorem dX11_joins_27 : decode cX11_joins 27 = .ok (.getfield 282, 3) := by decide +kernel
theorem dX11_joins_30 : decode cX11_joins 30 = .ok (.if_icmp .ge 121, 3) := by decide +kernel
theorem dX11_joins_33 : decode cX11_joins 33 = .ok (.aload_n 0, 1) := by decide +kernel
theorem dX11_joins_34 : decode cX11_joins 34 = .ok (.getfield 88, 3) := by decide +kernel
theorem dX11_joins_37 : decode cX11_joins 37 = .ok (.iload_n 1, 1) := by decide +kernel
theorem dX11_joins_38 : decode cX11_joins 38 = .ok (.baload, 1) := by decide +kernel
theorem dX11_joins_39 : decode cX11_joins 39 = .ok (.ifCond .eq 106, 3) := by decide +kernel
theorem dX11_joins_42 : decode cX11_joins 42 = .ok (.aload_n 0, 1) := by decide +kernel
theorem dX11_joins_43 : decode cX11_joins 43 = .ok (.getfield 67, 3) := by decide +kernel
theorem dX11_joins_46 : decode cX11_joins 46 = .ok (.iload_n 1, 1) := by decide +kernel
theorem dX11_joins_47 : decode cX11_joins 47 = .ok (.iaload, 1) := by decide +kernel
theorem dX11_joins_48 : decode cX11_joins 48 = .ok (.bipush 7, 2) := by decide +kernel
theorem dX11_joins_50 : decode cX11_joins 50 = .ok (.if_icmp .eq 6, 3) := by decide +kernel
theorem dX11_joins_53 : decode cX11_joins 53 = .ok (.goto 92, 3) := by decide +kernel
theorem dX11_joins_56 : decode cX11_joins 56 = .ok (.aload_n 0, 1) := by decide +kernel
theorem dX11_joins_57 : decode cX11_joins 57 = .ok (.getfield 91, 3) := by decide +kernel
theorem dX11_joins_60 : decode cX11_joins 60 = .ok (.aload_n 0, 1) := by decide +kernel
theorem dX11_joins_61 : decode cX11_joins 61 = .ok (.getfield 73, 3) := by decide +kernel
theorem dX11_joins_64 : decode cX11_joins 64 = .ok (.iload_n 1, 1) := by decide +kernel
theorem dX11_joins_65 : decode cX11_joins 65 = .ok (.iaload, 1) := by decide +kernel
theorem dX11_joins_66 : decode cX11_joins 66 = .ok (.iaload, 1) := by decide +kernel
theorem dX11_joins_67 : decode cX11_joins 67 = .ok (.aload_n 0, 1) := by decide +kernel
theorem dX11_joins_68 : decode cX11_joins 68 = .ok (.getfield 91, 3) := by decide +kernel
theorem dX11_joins_71 : decode cX11_joins 71 = .ok (.aload_n 0, 1) := by decide +kernel
theorem dX11_joins_72 : decode cX11_joins 72 = .ok (.getfield 76, 3) := by decide +kernel
theorem dX11_joins_75 : decode cX11_joins 75 = .ok (.iload_n 1, 1) := by decide +kernel
theorem dX11_joins_76 : decode cX11_joins 76 = .ok (.iaload, 1) := by decide +kernel
theorem dX11_joins_77 : decode cX11_joins 77 = .ok (.iaload, 1) := by decide +kernel
theorem dX11_joins_78 : decode cX11_joins 78 = .ok (.invokestatic 308, 3) := by decide +kernel
theorem dX11_joins_81 : decode cX11_joins 81 = .ok (.istore_n 2, 1) := by decide +kernel
theorem dX11_joins_82 : decode cX11_joins 82 = .ok (.aload_n 0, 1) := by decide +kernel
theorem dX11_joins_83 : decode cX11_joins 83 = .ok (.getfield 91, 3) := by decide +kernel
theorem dX11_joins_86 : decode cX11_joins 86 = .ok (.aload_n 0, 1) := by decide +kernel
theorem dX11_joins_87 : decode cX11_joins 87 = .ok (.getfield 73, 3) := by decide +kernel
theorem dX11_joins_90 : decode cX11_joins 90 = .ok (.iload_n 1, 1) := by decide +kernel
theorem dX11_joins_91 : decode cX11_joins 91 = .ok (.iaload, 1) := by decide +kernel
theorem dX11_joins_92 : decode cX11_joins 92 = .ok (.iaload, 1) := by decide +kernel
theorem dX11_joins_93 : decode cX11_joins 93 = .ok (.aload_n 0, 1) := by decide +kernel
theorem dX11_joins_94 : decode cX11_joins 94 = .ok (.getfield 91, 3) := by decide +kernel
theorem dX11_joins_97 : decode cX11_joins 97 = .ok (.aload_n 0, 1) := by decide +kernel
theorem dX11_joins_98 : decode cX11_joins 98 = .ok (.getfield 76, 3) := by decide +kernel
theorem dX11_joins_101 : decode cX11_joins 101 = .ok (.iload_n 1, 1) := by decide +kernel
theorem dX11_joins_102 : decode cX11_joins 102 = .ok (.iaload, 1) := by decide +kernel
theorem dX11_joins_103 : decode cX11_joins 103 = .ok (.iaload, 1) := by decide +kernel
theorem dX11_joins_104 : decode cX11_joins 104 = .ok (.invokestatic 312, 3) := by decide +kernel
theorem dX11_joins_107 : decode cX11_joins 107 = .ok (.istore_n 3, 1) := by decide +kernel
theorem dX11_joins_108 : decode cX11_joins 108 = .ok (.iconst 0, 1) := by decide +kernel
theorem dX11_joins_109 : decode cX11_joins 109 = .ok (.istore 4, 2) := by decide +kernel
theorem dX11_joins_111 : decode cX11_joins 111 = .ok (.iload 4, 2) := by decide +kernel
theorem dX11_joins_113 : decode cX11_joins 113 = .ok (.aload_n 0, 1) := by decide +kernel
theorem dX11_joins_114 : decode cX11_joins 114 = .ok (.getfield 267, 3) := by decide +kernel
theorem dX11_joins_117 : decode cX11_joins 117 = .ok (.if_icmp .ge 28, 3) := by decide +kernel
theorem dX11_joins_120 : decode cX11_joins 120 = .ok (.aload_n 0, 1) := by decide +kernel
theorem dX11_joins_121 : decode cX11_joins 121 = .ok (.getfield 91, 3) := by decide +kernel
theorem dX11_joins_124 : decode cX11_joins 124 = .ok (.iload 4, 2) := by decide +kernel
theorem dX11_joins_126 : decode cX11_joins 126 = .ok (.iaload, 1) := by decide +kernel
theorem dX11_joins_127 : decode cX11_joins 127 = .ok (.iload_n 3, 1) := by decide +kernel
theorem dX11_joins_128 : decode cX11_joins 128 = .ok (.if_icmp .ne 11, 3) := by decide +kernel
theorem dX11_joins_131 : decode cX11_joins 131 = .ok (.aload_n 0, 1) := by decide +kernel
theorem dX11_joins_132 : decode cX11_joins 132 = .ok (.getfield 91, 3) := by decide +kernel
theorem dX11_joins_135 : decode cX11_joins 135 = .ok (.iload 4, 2) := by decide +kernel
theorem dX11_joins_137 : decode cX11_joins 137 = .ok (.iload_n 2, 1) := by decide +kernel
theorem dX11_joins_138 : decode cX11_joins 138 = .ok (.iastore, 1) := by decide +kernel
theorem dX11_joins_139 : decode cX11_joins 139 = .ok (.iinc 4 1, 3) := by decide +kernel
theorem dX11_joins_142 : decode cX11_joins 142 = .ok (.goto (-31), 3) := by decide +kernel
theorem dX11_joins_145 : decode cX11_joins 145 = .ok (.iinc 1 1, 3) := by decide +kernel
theorem dX11_joins_148 : decode cX11_joins 148 = .ok (.goto (-123), 3) := by decide +kernel
theorem dX11_joins_151 : decode cX11_joins 151 = .ok (.iconst 0, 1) := by decide +kernel
theorem dX11_joins_152 : decode cX11_joins 152 = .ok (.istore_n 1, 1) := by decide +kernel
theorem dX11_joins_153 : decode cX11_joins 153 = .ok (.iload_n 1, 1) := by decide +kernel
theorem dX11_joins_154 : decode cX11_joins 154 = .ok (.aload_n 0, 1) := by decide +kernel
theorem dX11_joins_155 : decode cX11_joins 155 = .ok (.getfield 267, 3) := by decide +kernel
theorem dX11_joins_158 : decode cX11_joins 158 = .ok (.if_icmp .ge 16, 3) := by decide +kernel
theorem dX11_joins_161 : decode cX11_joins 161 = .ok (.aload_n 0, 1) := by decide +kernel
theorem dX11_joins_162 : decode cX11_joins 162 = .ok (.getfield 94, 3) := by decide +kernel
theorem dX11_joins_165 : decode cX11_joins 165 = .ok (.iload_n 1, 1) := by decide +kernel
theorem dX11_joins_166 : decode cX11_joins 166 = .ok (.iconst 0, 1) := by decide +kernel
theorem dX11_joins_167 : decode cX11_joins 167 = .ok (.iastore, 1) := by decide +kernel
theorem dX11_joins_168 : decode cX11_joins 168 = .ok (.iinc 1 1, 3) := by decide +kernel
theorem dX11_joins_171 : decode cX11_joins 171 = .ok (.goto (-18), 3) := by decide +kernel
theorem dX11_joins_174 : decode cX11_joins 174 = .ok (.iconst 0, 1) := by decide +kernel
theorem dX11_joins_175 : decode cX11_joins 175 = .ok (.istore_n 1, 1) := by decide +kernel
theorem dX11_joins_176 : decode cX11_joins 176 = .ok (.iload_n 1, 1) := by decide +kernel
theorem dX11_joins_177 : decode cX11_joins 177 = .ok (.aload_n 0, 1) := by decide +kernel
theorem dX11_joins_178 : decode cX11_joins 178 = .ok (.getfield 267, 3) := by decide +kernel
theorem dX11_joins_181 : decode cX11_joins 181 = .ok (.if_icmp .ge 76, 3) := by decide +kernel
theorem dX11_joins_184 : decode cX11_joins 184 = .ok (.iconst 0, 1) := by decide +kernel
theorem dX11_joins_185 : decode cX11_joins 185 = .ok (.istore_n 2, 1) := by decide +kernel
theorem dX11_joins_186 : decode cX11_joins 186 = .ok (.iload_n 2, 1) := by decide +kernel
theorem dX11_joins_187 : decode cX11_joins 187 = .ok (.aload_n 0, 1) := by decide +kernel
theorem dX11_joins_188 : decode cX11_joins 188 = .ok (.getfield 267, 3) := by decide +kernel
theorem dX11_joins_191 : decode cX11_joins 191 = .ok (.if_icmp .ge 60, 3) := by decide +kernel
theorem dX11_joins_194 : decode cX11_joins 194 = .ok (.aload_n 0, 1) := by decide +kernel
theorem dX11_joins_195 : decode cX11_joins 195 = .ok (.getfield 49, 3) := by decide +kernel
theorem dX11_joins_198 : decode cX11_joins 198 = .ok (.iload_n 1, 1) := by decide +kernel
theorem dX11_joins_199 : decode cX11_joins 199 = .ok (.iaload, 1) := by decide +kernel
theorem dX11_joins_200 : decode cX11_joins 200 = .ok (.iload_n 2, 1) := by decide +kernel
theorem dX11_joins_201 : decode cX11_joins 201 = .ok (.ishr, 1) := by decide +kernel
theorem dX11_joins_202 : decode cX11_joins 202 = .ok (.iconst 1, 1) := by decide +kernel
theorem dX11_joins_203 : decode cX11_joins 203 = .ok (.iand, 1) := by decide +kernel
theorem dX11_joins_204 : decode cX11_joins 204 = .ok (.iconst 1, 1) := by decide +kernel
theorem dX11_joins_205 : decode cX11_joins 205 = .ok (.if_icmp .ne 40, 3) := by decide +kernel
theorem dX11_joins_208 : decode cX11_joins 208 = .ok (.aload_n 0, 1) := by decide +kernel
theorem dX11_joins_209 : decode cX11_joins 209 = .ok (.getfield 91, 3) := by decide +kernel
theorem dX11_joins_212 : decode cX11_joins 212 = .ok (.iload_n 1, 1) := by decide +kernel
theorem dX11_joins_213 : decode cX11_joins 213 = .ok (.iaload, 1) := by decide +kernel
theorem dX11_joins_214 : decode cX11_joins 214 = .ok (.aload_n 0, 1) := by decide +kernel
theorem dX11_joins_215 : decode cX11_joins 215 = .ok (.getfield 91, 3) := by decide +kernel
theorem dX11_joins_218 : decode cX11_joins 218 = .ok (.iload_n 2, 1) := by decide +kernel
theorem dX11_joins_219 : decode cX11_joins 219 = .ok (.iaload, 1) := by decide +kernel
theorem dX11_joins_220 : decode cX11_joins 220 = .ok (.if_icmp .eq 25, 3) := by decide +kernel
theorem dX11_joins_223 : decode cX11_joins 223 = .ok (.aload_n 0, 1) := by decide +kernel
theorem dX11_joins_224 : decode cX11_joins 224 = .ok (.getfield 94, 3) := by decide +kernel
theorem dX11_joins_227 : decode cX11_joins 227 = .ok (.aload_n 0, 1) := by decide +kernel
theorem dX11_joins_228 : decode cX11_joins 228 = .ok (.getfield 91, 3) := by decide +kernel
theorem dX11_joins_231 : decode cX11_joins 231 = .ok (.iload_n 1, 1) := by decide +kernel
theorem dX11_joins_232 : decode cX11_joins 232 = .ok (.iaload, 1) := by decide +kernel
theorem dX11_joins_233 : decode cX11_joins 233 = .ok (.dup2, 1) := by decide +kernel
theorem dX11_joins_234 : decode cX11_joins 234 = .ok (.iaload, 1) := by decide +kernel
theorem dX11_joins_235 : decode cX11_joins 235 = .ok (.iconst 1, 1) := by decide +kernel
theorem dX11_joins_236 : decode cX11_joins 236 = .ok (.aload_n 0, 1) := by decide +kernel
theorem dX11_joins_237 : decode cX11_joins 237 = .ok (.getfield 91, 3) := by decide +kernel
theorem dX11_joins_240 : decode cX11_joins 240 = .ok (.iload_n 2, 1) := by decide +kernel
theorem dX11_joins_241 : decode cX11_joins 241 = .ok (.iaload, 1) := by decide +kernel
theorem dX11_joins_242 : decode cX11_joins 242 = .ok (.ishl, 1) := by decide +kernel
theorem dX11_joins_243 : decode cX11_joins 243 = .ok (.ior, 1) := by decide +kernel
theorem dX11_joins_244 : decode cX11_joins 244 = .ok (.iastore, 1) := by decide +kernel
theorem dX11_joins_245 : decode cX11_joins 245 = .ok (.iinc 2 1, 3) := by decide +kernel
theorem dX11_joins_248 : decode cX11_joins 248 = .ok (.goto (-62), 3) := by decide +kernel
theorem dX11_joins_251 : decode cX11_joins 251 = .ok (.iinc 1 1, 3) := by decide +kernel
theorem dX11_joins_254 : decode cX11_joins 254 = .ok (.goto (-78), 3) := by decide +kernel
theorem dX11_joins_257 : decode cX11_joins 257 = .ok (.return_, 1) := by decide +kernel
theorem dX11_undoes_0 : decode cX11_undoes 0 = .ok (.iload_n 1, 1) := by decide +kernel
theorem dX11_undoes_1 : decode cX11_undoes 1 = .ok (.iconst 1, 1) := by decide +kernel
theorem dX11_undoes_2 : decode cX11_undoes 2 = .ok (.isub, 1) := by decide +kernel
theorem dX11_undoes_3 : decode cX11_undoes 3 = .ok (.istore_n 2, 1) := by decide +kernel
theorem dX11_undoes_4 : decode cX11_undoes 4 = .ok (.iload_n 2, 1) := by decide +kernel
theorem dX11_undoes_5 : decode cX11_undoes 5 = .ok (.ifCond .lt 111, 3) := by decide +kernel
theorem dX11_undoes_8 : decode cX11_undoes 8 = .ok (.aload_n 0, 1) := by decide +kernel
theorem dX11_undoes_9 : decode cX11_undoes 9 = .ok (.getfield 97, 3) := by decide +kernel
theorem dX11_undoes_12 : decode cX11_undoes 12 = .ok (.iload_n 2, 1) := by decide +kernel
theorem dX11_undoes_13 : decode cX11_undoes 13 = .ok (.iaload, 1) := by decide +kernel
theorem dX11_undoes_14 : decode cX11_undoes 14 = .ok (.istore_n 3, 1) := by decide +kernel
theorem dX11_undoes_15 : decode cX11_undoes 15 = .ok (.aload_n 0, 1) := by decide +kernel
theorem dX11_undoes_16 : decode cX11_undoes 16 = .ok (.getfield 109, 3) := by decide +kernel
theorem dX11_undoes_19 : decode cX11_undoes 19 = .ok (.iload_n 3, 1) := by decide +kernel
theorem dX11_undoes_20 : decode cX11_undoes 20 = .ok (.iconst 0, 1) := by decide +kernel
theorem dX11_undoes_21 : decode cX11_undoes 21 = .ok (.bastore, 1) := by decide +kernel
theorem dX11_undoes_22 : decode cX11_undoes 22 = .ok (.iconst 0, 1) := by decide +kernel
theorem dX11_undoes_23 : decode cX11_undoes 23 = .ok (.istore 4, 2) := by decide +kernel
theorem dX11_undoes_25 : decode cX11_undoes 25 = .ok (.iload 4, 2) := by decide +kernel
theorem dX11_undoes_27 : decode cX11_undoes 27 = .ok (.aload_n 0, 1) := by decide +kernel
theorem dX11_undoes_28 : decode cX11_undoes 28 = .ok (.getfield 282, 3) := by decide +kernel
theorem dX11_undoes_31 : decode cX11_undoes 31 = .ok (.if_icmp .ge 79, 3) := by decide +kernel
theorem dX11_undoes_34 : decode cX11_undoes 34 = .ok (.aload_n 0, 1) := by decide +kernel
theorem dX11_undoes_35 : decode cX11_undoes 35 = .ok (.getfield 88, 3) := by decide +kernel
theorem dX11_undoes_38 : decode cX11_undoes 38 = .ok (.iload 4, 2) := by decide +kernel
theorem dX11_undoes_40 : decode cX11_undoes 40 = .ok (.baload, 1) := by decide +kernel
theorem dX11_undoes_41 : decode cX11_undoes 41 = .ok (.ifCond .eq 63, 3) := by decide +kernel
theorem dX11_undoes_44 : decode cX11_undoes 44 = .ok (.aload_n 0, 1) := by decide +kernel
theorem dX11_undoes_45 : decode cX11_undoes 45 = .ok (.getfield 67, 3) := by decide +kernel
theorem dX11_undoes_48 : decode cX11_undoes 48 = .ok (.iload 4, 2) := by decide +kernel
theorem dX11_undoes_50 : decode cX11_undoes 50 = .ok (.iaload, 1) := by decide +kernel
theorem dX11_undoes_51 : decode cX11_undoes 51 = .ok (.iconst 4, 1) := by decide +kernel
theorem dX11_undoes_52 : decode cX11_undoes 52 = .ok (.if_icmp .ne 52, 3) := by decide +kernel
theorem dX11_undoes_55 : decode cX11_undoes 55 = .ok (.aload_n 0, 1) := by decide +kernel
theorem dX11_undoes_56 : decode cX11_undoes 56 = .ok (.getfield 76, 3) := by decide +kernel
theorem dX11_undoes_59 : decode cX11_undoes 59 = .ok (.iload 4, 2) := by decide +kernel
theorem dX11_undoes_61 : decode cX11_undoes 61 = .ok (.iaload, 1) := by decide +kernel
theorem dX11_undoes_62 : decode cX11_undoes 62 = .ok (.iload_n 3, 1) := by decide +kernel
theorem dX11_undoes_63 : decode cX11_undoes 63 = .ok (.if_icmp .ne 41, 3) := by decide +kernel
theorem dX11_undoes_66 : decode cX11_undoes 66 = .ok (.aload_n 0, 1) := by decide +kernel
theorem dX11_undoes_67 : decode cX11_undoes 67 = .ok (.getfield 100, 3) := by decide +kernel
theorem dX11_undoes_70 : decode cX11_undoes 70 = .ok (.aload_n 0, 1) := by decide +kernel
theorem dX11_undoes_71 : decode cX11_undoes 71 = .ok (.getfield 73, 3) := by decide +kernel
theorem dX11_undoes_74 : decode cX11_undoes 74 = .ok (.iload 4, 2) := by decide +kernel
theorem dX11_undoes_76 : decode cX11_undoes 76 = .ok (.iaload, 1) := by decide +kernel
theorem dX11_undoes_77 : decode cX11_undoes 77 = .ok (.iaload, 1) := by decide +kernel
theorem dX11_undoes_78 : decode cX11_undoes 78 = .ok (.iload_n 1, 1) := by decide +kernel
theorem dX11_undoes_79 : decode cX11_undoes 79 = .ok (.if_icmp .ge 25, 3) := by decide +kernel
theorem dX11_undoes_82 : decode cX11_undoes 82 = .ok (.aload_n 0, 1) := by decide +kernel
theorem dX11_undoes_83 : decode cX11_undoes 83 = .ok (.getfield 109, 3) := by decide +kernel
theorem dX11_undoes_86 : decode cX11_undoes 86 = .ok (.aload_n 0, 1) := by decide +kernel
theorem dX11_undoes_87 : decode cX11_undoes 87 = .ok (.getfield 73, 3) := by decide +kernel
theorem dX11_undoes_90 : decode cX11_undoes 90 = .ok (.iload 4, 2) := by decide +kernel
theorem dX11_undoes_92 : decode cX11_undoes 92 = .ok (.iaload, 1) := by decide +kernel
theorem dX11_undoes_93 : decode cX11_undoes 93 = .ok (.baload, 1) := by decide +kernel
theorem dX11_undoes_94 : decode cX11_undoes 94 = .ok (.ifCond .ne 10, 3) := by decide +kernel
theorem dX11_undoes_97 : decode cX11_undoes 97 = .ok (.aload_n 0, 1) := by decide +kernel
theorem dX11_undoes_98 : decode cX11_undoes 98 = .ok (.getfield 109, 3) := by decide +kernel
theorem dX11_undoes_101 : decode cX11_undoes 101 = .ok (.iload_n 3, 1) := by decide +kernel
theorem dX11_undoes_102 : decode cX11_undoes 102 = .ok (.iconst 1, 1) := by decide +kernel
theorem dX11_undoes_103 : decode cX11_undoes 103 = .ok (.bastore, 1) := by decide +kernel
theorem dX11_undoes_104 : decode cX11_undoes 104 = .ok (.iinc 4 1, 3) := by decide +kernel
theorem dX11_undoes_107 : decode cX11_undoes 107 = .ok (.goto (-82), 3) := by decide +kernel
theorem dX11_undoes_110 : decode cX11_undoes 110 = .ok (.iinc 2 (-1), 3) := by decide +kernel
theorem dX11_undoes_113 : decode cX11_undoes 113 = .ok (.goto (-109), 3) := by decide +kernel
theorem dX11_undoes_116 : decode cX11_undoes 116 = .ok (.return_, 1) := by decide +kernel
theorem dX11_bits_0 : decode cX11_bits 0 = .ok (.iconst 0, 1) := by decide +kernel
theorem dX11_bits_1 : decode cX11_bits 1 = .ok (.istore_n 1, 1) := by decide +kernel
theorem dX11_bits_2 : decode cX11_bits 2 = .ok (.iconst 0, 1) := by decide +kernel
theorem dX11_bits_3 : decode cX11_bits 3 = .ok (.istore_n 2, 1) := by decide +kernel
theorem dX11_bits_4 : decode cX11_bits 4 = .ok (.iload_n 2, 1) := by decide +kernel
theorem dX11_bits_5 : decode cX11_bits 5 = .ok (.bipush 12, 2) := by decide +kernel
theorem dX11_bits_7 : decode cX11_bits 7 = .ok (.if_icmp .ge 17, 3) := by decide +kernel
theorem dX11_bits_10 : decode cX11_bits 10 = .ok (.iload_n 1, 1) := by decide +kernel
theorem dX11_bits_11 : decode cX11_bits 11 = .ok (.iload_n 0, 1) := by decide +kernel
theorem dX11_bits_12 : decode cX11_bits 12 = .ok (.iload_n 2, 1) := by decide +kernel
theorem dX11_bits_13 : decode cX11_bits 13 = .ok (.ishr, 1) := by decide +kernel
theorem dX11_bits_14 : decode cX11_bits 14 = .ok (.iconst 1, 1) := by decide +kernel
theorem dX11_bits_15 : decode cX11_bits 15 = .ok (.iand, 1) := by decide +kernel
theorem dX11_bits_16 : decode cX11_bits 16 = .ok (.iadd, 1) := by decide +kernel
theorem dX11_bits_17 : decode cX11_bits 17 = .ok (.istore_n 1, 1) := by decide +kernel
theorem dX11_bits_18 : decode cX11_bits 18 = .ok (.iinc 2 1, 3) := by decide +kernel
theorem dX11_bits_21 : decode cX11_bits 21 = .ok (.goto (-17), 3) := by decide +kernel
theorem dX11_bits_24 : decode cX11_bits 24 = .ok (.iload_n 1, 1) := by decide +kernel
theorem dX11_bits_25 : decode cX11_bits 25 = .ok (.ireturn, 1) := by decide +kernel
theorem dX11_votes_0 : decode cX11_votes 0 = .ok (.iconst 0, 1) := by decide +kernel
theorem dX11_votes_1 : decode cX11_votes 1 = .ok (.istore 4, 2) := by decide +kernel
theorem dX11_votes_3 : decode cX11_votes 3 = .ok (.iconst 0, 1) := by decide +kernel
theorem dX11_votes_4 : decode cX11_votes 4 = .ok (.istore 5, 2) := by decide +kernel
theorem dX11_votes_6 : decode cX11_votes 6 = .ok (.iload 5, 2) := by decide +kernel
theorem dX11_votes_8 : decode cX11_votes 8 = .ok (.aload_n 0, 1) := by decide +kernel
theorem dX11_votes_9 : decode cX11_votes 9 = .ok (.getfield 282, 3) := by decide +kernel
theorem dX11_votes_12 : decode cX11_votes 12 = .ok (.if_icmp .ge 84, 3) := by decide +kernel
theorem dX11_votes_15 : decode cX11_votes 15 = .ok (.aload_n 0, 1) := by decide +kernel
theorem dX11_votes_16 : decode cX11_votes 16 = .ok (.getfield 88, 3) := by decide +kernel
theorem dX11_votes_19 : decode cX11_votes 19 = .ok (.iload 5, 2) := by decide +kernel
theorem dX11_votes_21 : decode cX11_votes 21 = .ok (.baload, 1) := by decide +kernel
theorem dX11_votes_22 : decode cX11_votes 22 = .ok (.ifCond .eq 68, 3) := by decide +kernel
theorem dX11_votes_25 : decode cX11_votes 25 = .ok (.aload_n 0, 1) := by decide +kernel
theorem dX11_votes_26 : decode cX11_votes 26 = .ok (.getfield 67, 3) := by decide +kernel
theorem dX11_votes_29 : decode cX11_votes 29 = .ok (.iload 5, 2) := by decide +kernel
theorem dX11_votes_31 : decode cX11_votes 31 = .ok (.iaload, 1) := by decide +kernel
theorem dX11_votes_32 : decode cX11_votes 32 = .ok (.ifCond .ne 58, 3) := by decide +kernel
theorem dX11_votes_35 : decode cX11_votes 35 = .ok (.aload_n 0, 1) := by decide +kernel
theorem dX11_votes_36 : decode cX11_votes 36 = .ok (.getfield 73, 3) := by decide +kernel
theorem dX11_votes_39 : decode cX11_votes 39 = .ok (.iload 5, 2) := by decide +kernel
theorem dX11_votes_41 : decode cX11_votes 41 = .ok (.iaload, 1) := by decide +kernel
theorem dX11_votes_42 : decode cX11_votes 42 = .ok (.iload_n 1, 1) := by decide +kernel
theorem dX11_votes_43 : decode cX11_votes 43 = .ok (.if_icmp .ne 47, 3) := by decide +kernel
theorem dX11_votes_46 : decode cX11_votes 46 = .ok (.aload_n 0, 1) := by decide +kernel
theorem dX11_votes_47 : decode cX11_votes 47 = .ok (.getfield 91, 3) := by decide +kernel
theorem dX11_votes_50 : decode cX11_votes 50 = .ok (.aload_n 0, 1) := by decide +kernel
theorem dX11_votes_51 : decode cX11_votes 51 = .ok (.getfield 79, 3) := by decide +kernel
theorem dX11_votes_54 : decode cX11_votes 54 = .ok (.iload 5, 2) := by decide +kernel
theorem dX11_votes_56 : decode cX11_votes 56 = .ok (.iaload, 1) := by decide +kernel
theorem dX11_votes_57 : decode cX11_votes 57 = .ok (.iaload, 1) := by decide +kernel
theorem dX11_votes_58 : decode cX11_votes 58 = .ok (.iload_n 2, 1) := by decide +kernel
theorem dX11_votes_59 : decode cX11_votes 59 = .ok (.if_icmp .ne 31, 3) := by decide +kernel
theorem dX11_votes_62 : decode cX11_votes 62 = .ok (.aload_n 0, 1) := by decide +kernel
theorem dX11_votes_63 : decode cX11_votes 63 = .ok (.getfield 82, 3) := by decide +kernel
theorem dX11_votes_66 : decode cX11_votes 66 = .ok (.iload 5, 2) := by decide +kernel
theorem dX11_votes_68 : decode cX11_votes 68 = .ok (.iaload, 1) := by decide +kernel
theorem dX11_votes_69 : decode cX11_votes 69 = .ok (.iload_n 3, 1) := by decide +kernel
theorem dX11_votes_70 : decode cX11_votes 70 = .ok (.iconst (-1), 1) := by decide +kernel
theorem dX11_votes_71 : decode cX11_votes 71 = .ok (.ixor, 1) := by decide +kernel
theorem dX11_votes_72 : decode cX11_votes 72 = .ok (.iand, 1) := by decide +kernel
theorem dX11_votes_73 : decode cX11_votes 73 = .ok (.ifCond .ne 17, 3) := by decide +kernel
theorem dX11_votes_76 : decode cX11_votes 76 = .ok (.iload 4, 2) := by decide +kernel
theorem dX11_votes_78 : decode cX11_votes 78 = .ok (.iconst 1, 1) := by decide +kernel
theorem dX11_votes_79 : decode cX11_votes 79 = .ok (.aload_n 0, 1) := by decide +kernel
theorem dX11_votes_80 : decode cX11_votes 80 = .ok (.getfield 76, 3) := by decide +kernel
theorem dX11_votes_83 : decode cX11_votes 83 = .ok (.iload 5, 2) := by decide +kernel
theorem dX11_votes_85 : decode cX11_votes 85 = .ok (.iaload, 1) := by decide +kernel
theorem dX11_votes_86 : decode cX11_votes 86 = .ok (.ishl, 1) := by decide +kernel
theorem dX11_votes_87 : decode cX11_votes 87 = .ok (.ior, 1) := by decide +kernel
theorem dX11_votes_88 : decode cX11_votes 88 = .ok (.istore 4, 2) := by decide +kernel
theorem dX11_votes_90 : decode cX11_votes 90 = .ok (.iinc 5 1, 3) := by decide +kernel
theorem dX11_votes_93 : decode cX11_votes 93 = .ok (.goto (-87), 3) := by decide +kernel
theorem dX11_votes_96 : decode cX11_votes 96 = .ok (.iload 4, 2) := by decide +kernel
theorem dX11_votes_98 : decode cX11_votes 98 = .ok (.invokestatic 315, 3) := by decide +kernel
theorem dX11_votes_101 : decode cX11_votes 101 = .ok (.ireturn, 1) := by decide +kernel
theorem dX11_isHeld_0 : decode cX11_isHeld 0 = .ok (.iconst 2, 1) := by decide +kernel
theorem dX11_isHeld_1 : decode cX11_isHeld 1 = .ok (.aload_n 0, 1) := by decide +kernel
theorem dX11_isHeld_2 : decode cX11_isHeld 2 = .ok (.iload_n 1, 1) := by decide +kernel
theorem dX11_isHeld_3 : decode cX11_isHeld 3 = .ok (.iload_n 2, 1) := by decide +kernel
theorem dX11_isHeld_4 : decode cX11_isHeld 4 = .ok (.iload_n 3, 1) := by decide +kernel
theorem dX11_isHeld_5 : decode cX11_isHeld 5 = .ok (.invokevirtual 318, 3) := by decide +kernel
theorem dX11_isHeld_8 : decode cX11_isHeld 8 = .ok (.imul, 1) := by decide +kernel
theorem dX11_isHeld_9 : decode cX11_isHeld 9 = .ok (.aload_n 0, 1) := by decide +kernel
theorem dX11_isHeld_10 : decode cX11_isHeld 10 = .ok (.getfield 58, 3) := by decide +kernel
theorem dX11_isHeld_13 : decode cX11_isHeld 13 = .ok (.iload_n 1, 1) := by decide +kernel
theorem dX11_isHeld_14 : decode cX11_isHeld 14 = .ok (.iaload, 1) := by decide +kernel
theorem dX11_isHeld_15 : decode cX11_isHeld 15 = .ok (.if_icmp .le 7, 3) := by decide +kernel
theorem dX11_isHeld_18 : decode cX11_isHeld 18 = .ok (.iconst 1, 1) := by decide +kernel
theorem dX11_isHeld_19 : decode cX11_isHeld 19 = .ok (.goto 4, 3) := by decide +kernel
theorem dX11_isHeld_22 : decode cX11_isHeld 22 = .ok (.iconst 0, 1) := by decide +kernel
theorem dX11_isHeld_23 : decode cX11_isHeld 23 = .ok (.ireturn, 1) := by decide +kernel
theorem dX11_doubts_0 : decode cX11_doubts 0 = .ok (.iconst 0, 1) := by decide +kernel
theorem dX11_doubts_1 : decode cX11_doubts 1 = .ok (.istore 4, 2) := by decide +kernel
theorem dX11_doubts_3 : decode cX11_doubts 3 = .ok (.iconst 0, 1) := by decide +kernel
theorem dX11_doubts_4 : decode cX11_doubts 4 = .ok (.istore 5, 2) := by decide +kernel
theorem dX11_doubts_6 : decode cX11_doubts 6 = .ok (.iconst 0, 1) := by decide +kernel
theorem dX11_doubts_7 : decode cX11_doubts 7 = .ok (.istore 6, 2) := by decide +kernel
theorem dX11_doubts_9 : decode cX11_doubts 9 = .ok (.iload 6, 2) := by decide +kernel
theorem dX11_doubts_11 : decode cX11_doubts 11 = .ok (.aload_n 0, 1) := by decide +kernel
theorem dX11_doubts_12 : decode cX11_doubts 12 = .ok (.getfield 282, 3) := by decide +kernel
theorem dX11_doubts_15 : decode cX11_doubts 15 = .ok (.if_icmp .ge 124, 3) := by decide +kernel
theorem dX11_doubts_18 : decode cX11_doubts 18 = .ok (.aload_n 0, 1) := by decide +kernel
theorem dX11_doubts_19 : decode cX11_doubts 19 = .ok (.getfield 88, 3) := by decide +kernel
theorem dX11_doubts_22 : decode cX11_doubts 22 = .ok (.iload 6, 2) := by decide +kernel
theorem dX11_doubts_24 : decode cX11_doubts 24 = .ok (.baload, 1) := by decide +kernel
theorem dX11_doubts_25 : decode cX11_doubts 25 = .ok (.ifCond .eq 108, 3) := by decide +kernel
theorem dX11_doubts_28 : decode cX11_doubts 28 = .ok (.aload_n 0, 1) := by decide +kernel
theorem dX11_doubts_29 : decode cX11_doubts 29 = .ok (.getfield 67, 3) := by decide +kernel
theorem dX11_doubts_32 : decode cX11_doubts 32 = .ok (.iload 6, 2) := by decide +kernel
theorem dX11_doubts_34 : decode cX11_doubts 34 = .ok (.iaload, 1) := by decide +kernel
theorem dX11_doubts_35 : decode cX11_doubts 35 = .ok (.iconst 3, 1) := by decide +kernel
theorem dX11_doubts_36 : decode cX11_doubts 36 = .ok (.if_icmp .ne 97, 3) := by decide +kernel
theorem dX11_doubts_39 : decode cX11_doubts 39 = .ok (.aload_n 0, 1) := by decide +kernel
theorem dX11_doubts_40 : decode cX11_doubts 40 = .ok (.getfield 76, 3) := by decide +kernel
theorem dX11_doubts_43 : decode cX11_doubts 43 = .ok (.iload 6, 2) := by decide +kernel
theorem dX11_doubts_45 : decode cX11_doubts 45 = .ok (.iaload, 1) := by decide +kernel
theorem dX11_doubts_46 : decode cX11_doubts 46 = .ok (.iload_n 1, 1) := by decide +kernel
theorem dX11_doubts_47 : decode cX11_doubts 47 = .ok (.if_icmp .ne 86, 3) := by decide +kernel
theorem dX11_doubts_50 : decode cX11_doubts 50 = .ok (.aload_n 0, 1) := by decide +kernel
theorem dX11_doubts_51 : decode cX11_doubts 51 = .ok (.getfield 91, 3) := by decide +kernel
theorem dX11_doubts_54 : decode cX11_doubts 54 = .ok (.aload_n 0, 1) := by decide +kernel
theorem dX11_doubts_55 : decode cX11_doubts 55 = .ok (.getfield 79, 3) := by decide +kernel
theorem dX11_doubts_58 : decode cX11_doubts 58 = .ok (.iload 6, 2) := by decide +kernel
theorem dX11_doubts_60 : decode cX11_doubts 60 = .ok (.iaload, 1) := by decide +kernel
theorem dX11_doubts_61 : decode cX11_doubts 61 = .ok (.iaload, 1) := by decide +kernel
theorem dX11_doubts_62 : decode cX11_doubts 62 = .ok (.iload_n 2, 1) := by decide +kernel
theorem dX11_doubts_63 : decode cX11_doubts 63 = .ok (.if_icmp .ne 70, 3) := by decide +kernel
theorem dX11_doubts_66 : decode cX11_doubts 66 = .ok (.aload_n 0, 1) := by decide +kernel
theorem dX11_doubts_67 : decode cX11_doubts 67 = .ok (.getfield 100, 3) := by decide +kernel
theorem dX11_doubts_70 : decode cX11_doubts 70 = .ok (.aload_n 0, 1) := by decide +kernel
theorem dX11_doubts_71 : decode cX11_doubts 71 = .ok (.getfield 73, 3) := by decide +kernel
theorem dX11_doubts_74 : decode cX11_doubts 74 = .ok (.iload 6, 2) := by decide +kernel
theorem dX11_doubts_76 : decode cX11_doubts 76 = .ok (.iaload, 1) := by decide +kernel
theorem dX11_doubts_77 : decode cX11_doubts 77 = .ok (.iaload, 1) := by decide +kernel
theorem dX11_doubts_78 : decode cX11_doubts 78 = .ok (.iload_n 3, 1) := by decide +kernel
theorem dX11_doubts_79 : decode cX11_doubts 79 = .ok (.if_icmp .ge 54, 3) := by decide +kernel
theorem dX11_doubts_82 : decode cX11_doubts 82 = .ok (.aload_n 0, 1) := by decide +kernel
theorem dX11_doubts_83 : decode cX11_doubts 83 = .ok (.getfield 109, 3) := by decide +kernel
theorem dX11_doubts_86 : decode cX11_doubts 86 = .ok (.aload_n 0, 1) := by decide +kernel
theorem dX11_doubts_87 : decode cX11_doubts 87 = .ok (.getfield 73, 3) := by decide +kernel
theorem dX11_doubts_90 : decode cX11_doubts 90 = .ok (.iload 6, 2) := by decide +kernel
theorem dX11_doubts_92 : decode cX11_doubts 92 = .ok (.iaload, 1) := by decide +kernel
theorem dX11_doubts_93 : decode cX11_doubts 93 = .ok (.baload, 1) := by decide +kernel
theorem dX11_doubts_94 : decode cX11_doubts 94 = .ok (.ifCond .ne 39, 3) := by decide +kernel
theorem dX11_doubts_97 : decode cX11_doubts 97 = .ok (.iload 4, 2) := by decide +kernel
theorem dX11_doubts_99 : decode cX11_doubts 99 = .ok (.aload_n 0, 1) := by decide +kernel
theorem dX11_doubts_100 : decode cX11_doubts 100 = .ok (.getfield 73, 3) := by decide +kernel
theorem dX11_doubts_103 : decode cX11_doubts 103 = .ok (.iload 6, 2) := by decide +kernel
theorem dX11_doubts_105 : decode cX11_doubts 105 = .ok (.iaload, 1) := by decide +kernel
theorem dX11_doubts_106 : decode cX11_doubts 106 = .ok (.ishr, 1) := by decide +kernel
theorem dX11_doubts_107 : decode cX11_doubts 107 = .ok (.iconst 1, 1) := by decide +kernel
theorem dX11_doubts_108 : decode cX11_doubts 108 = .ok (.iand, 1) := by decide +kernel
theorem dX11_doubts_109 : decode cX11_doubts 109 = .ok (.iconst 1, 1) := by decide +kernel
theorem dX11_doubts_110 : decode cX11_doubts 110 = .ok (.if_icmp .ne 6, 3) := by decide +kernel
theorem dX11_doubts_113 : decode cX11_doubts 113 = .ok (.goto 20, 3) := by decide +kernel
theorem dX11_doubts_116 : decode cX11_doubts 116 = .ok (.iload 4, 2) := by decide +kernel
theorem dX11_doubts_118 : decode cX11_doubts 118 = .ok (.iconst 1, 1) := by decide +kernel
theorem dX11_doubts_119 : decode cX11_doubts 119 = .ok (.aload_n 0, 1) := by decide +kernel
theorem dX11_doubts_120 : decode cX11_doubts 120 = .ok (.getfield 73, 3) := by decide +kernel
theorem dX11_doubts_123 : decode cX11_doubts 123 = .ok (.iload 6, 2) := by decide +kernel
theorem dX11_doubts_125 : decode cX11_doubts 125 = .ok (.iaload, 1) := by decide +kernel
theorem dX11_doubts_126 : decode cX11_doubts 126 = .ok (.ishl, 1) := by decide +kernel
theorem dX11_doubts_127 : decode cX11_doubts 127 = .ok (.ior, 1) := by decide +kernel
theorem dX11_doubts_128 : decode cX11_doubts 128 = .ok (.istore 4, 2) := by decide +kernel
theorem dX11_doubts_130 : decode cX11_doubts 130 = .ok (.iinc 5 1, 3) := by decide +kernel
theorem dX11_doubts_133 : decode cX11_doubts 133 = .ok (.iinc 6 1, 3) := by decide +kernel
theorem dX11_doubts_136 : decode cX11_doubts 136 = .ok (.goto (-127), 3) := by decide +kernel
theorem dX11_doubts_139 : decode cX11_doubts 139 = .ok (.iload 5, 2) := by decide +kernel
theorem dX11_doubts_141 : decode cX11_doubts 141 = .ok (.ireturn, 1) := by decide +kernel
theorem dX11_isTaken_0 : decode cX11_isTaken 0 = .ok (.iconst 0, 1) := by decide +kernel
theorem dX11_isTaken_1 : decode cX11_isTaken 1 = .ok (.istore 4, 2) := by decide +kernel
theorem dX11_isTaken_3 : decode cX11_isTaken 3 = .ok (.iload 4, 2) := by decide +kernel
theorem dX11_isTaken_5 : decode cX11_isTaken 5 = .ok (.aload_n 0, 1) := by decide +kernel
theorem dX11_isTaken_6 : decode cX11_isTaken 6 = .ok (.getfield 282, 3) := by decide +kernel
theorem dX11_isTaken_9 : decode cX11_isTaken 9 = .ok (.if_icmp .ge 75, 3) := by decide +kernel
theorem dX11_isTaken_12 : decode cX11_isTaken 12 = .ok (.aload_n 0, 1) := by decide +kernel
theorem dX11_isTaken_13 : decode cX11_isTaken 13 = .ok (.getfield 88, 3) := by decide +kernel
theorem dX11_isTaken_16 : decode cX11_isTaken 16 = .ok (.iload 4, 2) := by decide +kernel
theorem dX11_isTaken_18 : decode cX11_isTaken 18 = .ok (.baload, 1) := by decide +kernel
theorem dX11_isTaken_19 : decode cX11_isTaken 19 = .ok (.ifCond .eq 59, 3) := by decide +kernel
theorem dX11_isTaken_22 : decode cX11_isTaken 22 = .ok (.aload_n 0, 1) := by decide +kernel
theorem dX11_isTaken_23 : decode cX11_isTaken 23 = .ok (.getfield 67, 3) := by decide +kernel
theorem dX11_isTaken_26 : decode cX11_isTaken 26 = .ok (.iload 4, 2) := by decide +kernel
theorem dX11_isTaken_28 : decode cX11_isTaken 28 = .ok (.iaload, 1) := by decide +kernel
theorem dX11_isTaken_29 : decode cX11_isTaken 29 = .ok (.iconst 5, 1) := by decide +kernel
theorem dX11_isTaken_30 : decode cX11_isTaken 30 = .ok (.if_icmp .ne 48, 3) := by decide +kernel
theorem dX11_isTaken_33 : decode cX11_isTaken 33 = .ok (.aload_n 0, 1) := by decide +kernel
theorem dX11_isTaken_34 : decode cX11_isTaken 34 = .ok (.getfield 91, 3) := by decide +kernel
theorem dX11_isTaken_37 : decode cX11_isTaken 37 = .ok (.aload_n 0, 1) := by decide +kernel
theorem dX11_isTaken_38 : decode cX11_isTaken 38 = .ok (.getfield 79, 3) := by decide +kernel
theorem dX11_isTaken_41 : decode cX11_isTaken 41 = .ok (.iload 4, 2) := by decide +kernel
theorem dX11_isTaken_43 : decode cX11_isTaken 43 = .ok (.iaload, 1) := by decide +kernel
theorem dX11_isTaken_44 : decode cX11_isTaken 44 = .ok (.iaload, 1) := by decide +kernel
theorem dX11_isTaken_45 : decode cX11_isTaken 45 = .ok (.iload_n 2, 1) := by decide +kernel
theorem dX11_isTaken_46 : decode cX11_isTaken 46 = .ok (.if_icmp .ne 32, 3) := by decide +kernel
theorem dX11_isTaken_49 : decode cX11_isTaken 49 = .ok (.aload_n 0, 1) := by decide +kernel
theorem dX11_isTaken_50 : decode cX11_isTaken 50 = .ok (.getfield 76, 3) := by decide +kernel
theorem dX11_isTaken_53 : decode cX11_isTaken 53 = .ok (.iload 4, 2) := by decide +kernel
theorem dX11_isTaken_55 : decode cX11_isTaken 55 = .ok (.iaload, 1) := by decide +kernel
theorem dX11_isTaken_56 : decode cX11_isTaken 56 = .ok (.iload_n 3, 1) := by decide +kernel
theorem dX11_isTaken_57 : decode cX11_isTaken 57 = .ok (.if_icmp .gt 21, 3) := by decide +kernel
theorem dX11_isTaken_60 : decode cX11_isTaken 60 = .ok (.aload_n 0, 1) := by decide +kernel
theorem dX11_isTaken_61 : decode cX11_isTaken 61 = .ok (.getfield 76, 3) := by decide +kernel
theorem dX11_isTaken_64 : decode cX11_isTaken 64 = .ok (.iload 4, 2) := by decide +kernel
theorem dX11_isTaken_66 : decode cX11_isTaken 66 = .ok (.iaload, 1) := by decide +kernel
theorem dX11_isTaken_67 : decode cX11_isTaken 67 = .ok (.aload_n 0, 1) := by decide +kernel
theorem dX11_isTaken_68 : decode cX11_isTaken 68 = .ok (.getfield 55, 3) := by decide +kernel
theorem dX11_isTaken_71 : decode cX11_isTaken 71 = .ok (.iload_n 1, 1) := by decide +kernel
theorem dX11_isTaken_72 : decode cX11_isTaken 72 = .ok (.iaload, 1) := by decide +kernel
theorem dX11_isTaken_73 : decode cX11_isTaken 73 = .ok (.if_icmp .lt 5, 3) := by decide +kernel
theorem dX11_isTaken_76 : decode cX11_isTaken 76 = .ok (.iconst 1, 1) := by decide +kernel
theorem dX11_isTaken_77 : decode cX11_isTaken 77 = .ok (.ireturn, 1) := by decide +kernel
theorem dX11_isTaken_78 : decode cX11_isTaken 78 = .ok (.iinc 4 1, 3) := by decide +kernel
theorem dX11_isTaken_81 : decode cX11_isTaken 81 = .ok (.goto (-78), 3) := by decide +kernel
theorem dX11_isTaken_84 : decode cX11_isTaken 84 = .ok (.iconst 0, 1) := by decide +kernel
theorem dX11_isTaken_85 : decode cX11_isTaken 85 = .ok (.ireturn, 1) := by decide +kernel
theorem dX11_isLaid_0 : decode cX11_isLaid 0 = .ok (.iconst (-1), 1) := by decide +kernel
theorem dX11_isLaid_1 : decode cX11_isLaid 1 = .ok (.istore_n 3, 1) := by decide +kernel
theorem dX11_isLaid_2 : decode cX11_isLaid 2 = .ok (.iconst 0, 1) := by decide +kernel
theorem dX11_isLaid_3 : decode cX11_isLaid 3 = .ok (.istore 4, 2) := by decide +kernel
theorem dX11_isLaid_5 : decode cX11_isLaid 5 = .ok (.iload 4, 2) := by decide +kernel
theorem dX11_isLaid_7 : decode cX11_isLaid 7 = .ok (.aload_n 0, 1) := by decide +kernel
theorem dX11_isLaid_8 : decode cX11_isLaid 8 = .ok (.getfield 282, 3) := by decide +kernel
theorem dX11_isLaid_11 : decode cX11_isLaid 11 = .ok (.if_icmp .ge 96, 3) := by decide +kernel
theorem dX11_isLaid_14 : decode cX11_isLaid 14 = .ok (.aload_n 0, 1) := by decide +kernel
theorem dX11_isLaid_15 : decode cX11_isLaid 15 = .ok (.getfield 88, 3) := by decide +kernel
theorem dX11_isLaid_18 : decode cX11_isLaid 18 = .ok (.iload 4, 2) := by decide +kernel
theorem dX11_isLaid_20 : decode cX11_isLaid 20 = .ok (.baload, 1) := by decide +kernel
theorem dX11_isLaid_21 : decode cX11_isLaid 21 = .ok (.ifCond .eq 80, 3) := by decide +kernel
theorem dX11_isLaid_24 : decode cX11_isLaid 24 = .ok (.aload_n 0, 1) := by decide +kernel
theorem dX11_isLaid_25 : decode cX11_isLaid 25 = .ok (.getfield 67, 3) := by decide +kernel
theorem dX11_isLaid_28 : decode cX11_isLaid 28 = .ok (.iload 4, 2) := by decide +kernel
theorem dX11_isLaid_30 : decode cX11_isLaid 30 = .ok (.iaload, 1) := by decide +kernel
theorem dX11_isLaid_31 : decode cX11_isLaid 31 = .ok (.iconst 5, 1) := by decide +kernel
theorem dX11_isLaid_32 : decode cX11_isLaid 32 = .ok (.if_icmp .eq 15, 3) := by decide +kernel
theorem dX11_isLaid_35 : decode cX11_isLaid 35 = .ok (.aload_n 0, 1) := by decide +kernel
theorem dX11_isLaid_36 : decode cX11_isLaid 36 = .ok (.getfield 67, 3) := by decide +kernel
theorem dX11_isLaid_39 : decode cX11_isLaid 39 = .ok (.iload 4, 2) := by decide +kernel
theorem dX11_isLaid_41 : decode cX11_isLaid 41 = .ok (.iaload, 1) := by decide +kernel
theorem dX11_isLaid_42 : decode cX11_isLaid 42 = .ok (.bipush 6, 2) := by decide +kernel
theorem dX11_isLaid_44 : decode cX11_isLaid 44 = .ok (.if_icmp .ne 57, 3) := by decide +kernel
theorem dX11_isLaid_47 : decode cX11_isLaid 47 = .ok (.aload_n 0, 1) := by decide +kernel
theorem dX11_isLaid_48 : decode cX11_isLaid 48 = .ok (.getfield 91, 3) := by decide +kernel
theorem dX11_isLaid_51 : decode cX11_isLaid 51 = .ok (.aload_n 0, 1) := by decide +kernel
theorem dX11_isLaid_52 : decode cX11_isLaid 52 = .ok (.getfield 79, 3) := by decide +kernel
theorem dX11_isLaid_55 : decode cX11_isLaid 55 = .ok (.iload 4, 2) := by decide +kernel
theorem dX11_isLaid_57 : decode cX11_isLaid 57 = .ok (.iaload, 1) := by decide +kernel
theorem dX11_isLaid_58 : decode cX11_isLaid 58 = .ok (.iaload, 1) := by decide +kernel
theorem dX11_isLaid_59 : decode cX11_isLaid 59 = .ok (.iload_n 1, 1) := by decide +kernel
theorem dX11_isLaid_60 : decode cX11_isLaid 60 = .ok (.if_icmp .ne 41, 3) := by decide +kernel
theorem dX11_isLaid_63 : decode cX11_isLaid 63 = .ok (.aload_n 0, 1) := by decide +kernel
theorem dX11_isLaid_64 : decode cX11_isLaid 64 = .ok (.getfield 76, 3) := by decide +kernel
theorem dX11_isLaid_67 : decode cX11_isLaid 67 = .ok (.iload 4, 2) := by decide +kernel
theorem dX11_isLaid_69 : decode cX11_isLaid 69 = .ok (.iaload, 1) := by decide +kernel
theorem dX11_isLaid_70 : decode cX11_isLaid 70 = .ok (.iload_n 2, 1) := by decide +kernel
theorem dX11_isLaid_71 : decode cX11_isLaid 71 = .ok (.if_icmp .le 6, 3) := by decide +kernel
theorem dX11_isLaid_74 : decode cX11_isLaid 74 = .ok (.goto 27, 3) := by decide +kernel
theorem dX11_isLaid_77 : decode cX11_isLaid 77 = .ok (.iload_n 3, 1) := by decide +kernel
theorem dX11_isLaid_78 : decode cX11_isLaid 78 = .ok (.iconst (-1), 1) := by decide +kernel
theorem dX11_isLaid_79 : decode cX11_isLaid 79 = .ok (.if_icmp .eq 19, 3) := by decide +kernel
theorem dX11_isLaid_82 : decode cX11_isLaid 82 = .ok (.aload_n 0, 1) := by decide +kernel
theorem dX11_isLaid_83 : decode cX11_isLaid 83 = .ok (.getfield 76, 3) := by decide +kernel
theorem dX11_isLaid_86 : decode cX11_isLaid 86 = .ok (.iload 4, 2) := by decide +kernel
theorem dX11_isLaid_88 : decode cX11_isLaid 88 = .ok (.iaload, 1) := by decide +kernel
theorem dX11_isLaid_89 : decode cX11_isLaid 89 = .ok (.aload_n 0, 1) := by decide +kernel
theorem dX11_isLaid_90 : decode cX11_isLaid 90 = .ok (.getfield 76, 3) := by decide +kernel
theorem dX11_isLaid_93 : decode cX11_isLaid 93 = .ok (.iload_n 3, 1) := by decide +kernel
theorem dX11_isLaid_94 : decode cX11_isLaid 94 = .ok (.iaload, 1) := by decide +kernel
theorem dX11_isLaid_95 : decode cX11_isLaid 95 = .ok (.if_icmp .lt 6, 3) := by decide +kernel
theorem dX11_isLaid_98 : decode cX11_isLaid 98 = .ok (.iload 4, 2) := by decide +kernel
theorem dX11_isLaid_100 : decode cX11_isLaid 100 = .ok (.istore_n 3, 1) := by decide +kernel
theorem dX11_isLaid_101 : decode cX11_isLaid 101 = .ok (.iinc 4 1, 3) := by decide +kernel
theorem dX11_isLaid_104 : decode cX11_isLaid 104 = .ok (.goto (-99), 3) := by decide +kernel
theorem dX11_isLaid_107 : decode cX11_isLaid 107 = .ok (.iload_n 3, 1) := by decide +kernel
theorem dX11_isLaid_108 : decode cX11_isLaid 108 = .ok (.iconst (-1), 1) := by decide +kernel
theorem dX11_isLaid_109 : decode cX11_isLaid 109 = .ok (.if_icmp .eq 18, 3) := by decide +kernel
theorem dX11_isLaid_112 : decode cX11_isLaid 112 = .ok (.aload_n 0, 1) := by decide +kernel
theorem dX11_isLaid_113 : decode cX11_isLaid 113 = .ok (.getfield 67, 3) := by decide +kernel
theorem dX11_isLaid_116 : decode cX11_isLaid 116 = .ok (.iload_n 3, 1) := by decide +kernel
theorem dX11_isLaid_117 : decode cX11_isLaid 117 = .ok (.iaload, 1) := by decide +kernel
theorem dX11_isLaid_118 : decode cX11_isLaid 118 = .ok (.bipush 6, 2) := by decide +kernel
theorem dX11_isLaid_120 : decode cX11_isLaid 120 = .ok (.if_icmp .ne 7, 3) := by decide +kernel
theorem dX11_isLaid_123 : decode cX11_isLaid 123 = .ok (.iconst 1, 1) := by decide +kernel
theorem dX11_isLaid_124 : decode cX11_isLaid 124 = .ok (.goto 4, 3) := by decide +kernel
theorem dX11_isLaid_127 : decode cX11_isLaid 127 = .ok (.iconst 0, 1) := by decide +kernel
theorem dX11_isLaid_128 : decode cX11_isLaid 128 = .ok (.ireturn, 1) := by decide +kernel
theorem dX11_name_0 : decode cX11_name 0 = .ok (.aload_n 0, 1) := by decide +kernel
theorem dX11_name_1 : decode cX11_name 1 = .ok (.getfield 52, 3) := by decide +kernel
theorem dX11_name_4 : decode cX11_name 4 = .ok (.iload_n 1, 1) := by decide +kernel
theorem dX11_name_5 : decode cX11_name 5 = .ok (.iaload, 1) := by decide +kernel
theorem dX11_name_6 : decode cX11_name 6 = .ok (.istore 6, 2) := by decide +kernel
theorem dX11_name_8 : decode cX11_name 8 = .ok (.aload_n 0, 1) := by decide +kernel
theorem dX11_name_9 : decode cX11_name 9 = .ok (.getfield 36, 3) := by decide +kernel
theorem dX11_name_12 : decode cX11_name 12 = .ok (.iconst 0, 1) := by decide +kernel
theorem dX11_name_13 : decode cX11_name 13 = .ok (.aload_n 0, 1) := by decide +kernel
theorem dX11_name_14 : decode cX11_name 14 = .ok (.getfield 43, 3) := by decide +kernel
theorem dX11_name_17 : decode cX11_name 17 = .ok (.iload 6, 2) := by decide +kernel
theorem dX11_name_19 : decode cX11_name 19 = .ok (.iaload, 1) := by decide +kernel
theorem dX11_name_20 : decode cX11_name 20 = .ok (.i2l, 1) := by decide +kernel
theorem dX11_name_21 : decode cX11_name 21 = .ok (.lastore, 1) := by decide +kernel
theorem dX11_name_22 : decode cX11_name 22 = .ok (.aload_n 0, 1) := by decide +kernel
theorem dX11_name_23 : decode cX11_name 23 = .ok (.getfield 36, 3) := by decide +kernel
theorem dX11_name_26 : decode cX11_name 26 = .ok (.iconst 1, 1) := by decide +kernel
theorem dX11_name_27 : decode cX11_name 27 = .ok (.aload_n 0, 1) := by decide +kernel
theorem dX11_name_28 : decode cX11_name 28 = .ok (.getfield 43, 3) := by decide +kernel
theorem dX11_name_31 : decode cX11_name 31 = .ok (.iload_n 2, 1) := by decide +kernel
theorem dX11_name_32 : decode cX11_name 32 = .ok (.iaload, 1) := by decide +kernel
theorem dX11_name_33 : decode cX11_name 33 = .ok (.i2l, 1) := by decide +kernel
theorem dX11_name_34 : decode cX11_name 34 = .ok (.lastore, 1) := by decide +kernel
theorem dX11_name_35 : decode cX11_name 35 = .ok (.aload_n 0, 1) := by decide +kernel
theorem dX11_name_36 : decode cX11_name 36 = .ok (.getfield 36, 3) := by decide +kernel
theorem dX11_name_39 : decode cX11_name 39 = .ok (.iconst 2, 1) := by decide +kernel
theorem dX11_name_40 : decode cX11_name 40 = .ok (.iload 6, 2) := by decide +kernel
theorem dX11_name_42 : decode cX11_name 42 = .ok (.iload_n 2, 1) := by decide +kernel
theorem dX11_name_43 : decode cX11_name 43 = .ok (.if_icmp .ne 7, 3) := by decide +kernel
theorem dX11_name_46 : decode cX11_name 46 = .ok (.iconst 1, 1) := by decide +kernel
theorem dX11_name_47 : decode cX11_name 47 = .ok (.goto 4, 3) := by decide +kernel
theorem dX11_name_50 : decode cX11_name 50 = .ok (.iconst 0, 1) := by decide +kernel
theorem dX11_name_51 : decode cX11_name 51 = .ok (.invokestatic 244, 3) := by decide +kernel
theorem dX11_name_54 : decode cX11_name 54 = .ok (.lastore, 1) := by decide +kernel
theorem dX11_name_55 : decode cX11_name 55 = .ok (.aload_n 0, 1) := by decide +kernel
theorem dX11_name_56 : decode cX11_name 56 = .ok (.getfield 36, 3) := by decide +kernel
theorem dX11_name_59 : decode cX11_name 59 = .ok (.iconst 3, 1) := by decide +kernel
theorem dX11_name_60 : decode cX11_name 60 = .ok (.aload_n 0, 1) := by decide +kernel
theorem dX11_name_61 : decode cX11_name 61 = .ok (.getfield 46, 3) := by decide +kernel
theorem dX11_name_64 : decode cX11_name 64 = .ok (.iload 6, 2) := by decide +kernel
theorem dX11_name_66 : decode cX11_name 66 = .ok (.iaload, 1) := by decide +kernel
theorem dX11_name_67 : decode cX11_name 67 = .ok (.aload_n 0, 1) := by decide +kernel
theorem dX11_name_68 : decode cX11_name 68 = .ok (.getfield 46, 3) := by decide +kernel
theorem dX11_name_71 : decode cX11_name 71 = .ok (.iload_n 2, 1) := by decide +kernel
theorem dX11_name_72 : decode cX11_name 72 = .ok (.iaload, 1) := by decide +kernel
theorem dX11_name_73 : decode cX11_name 73 = .ok (.if_icmp .ne 7, 3) := by decide +kernel
theorem dX11_name_76 : decode cX11_name 76 = .ok (.iconst 1, 1) := by decide +kernel
theorem dX11_name_77 : decode cX11_name 77 = .ok (.goto 4, 3) := by decide +kernel
theorem dX11_name_80 : decode cX11_name 80 = .ok (.iconst 0, 1) := by decide +kernel
theorem dX11_name_81 : decode cX11_name 81 = .ok (.invokestatic 244, 3) := by decide +kernel
theorem dX11_name_84 : decode cX11_name 84 = .ok (.lastore, 1) := by decide +kernel
theorem dX11_name_85 : decode cX11_name 85 = .ok (.aload_n 0, 1) := by decide +kernel
theorem dX11_name_86 : decode cX11_name 86 = .ok (.getfield 36, 3) := by decide +kernel
theorem dX11_name_89 : decode cX11_name 89 = .ok (.iconst 4, 1) := by decide +kernel
theorem dX11_name_90 : decode cX11_name 90 = .ok (.aload_n 0, 1) := by decide +kernel
theorem dX11_name_91 : decode cX11_name 91 = .ok (.getfield 58, 3) := by decide +kernel
theorem dX11_name_94 : decode cX11_name 94 = .ok (.iload_n 1, 1) := by decide +kernel
theorem dX11_name_95 : decode cX11_name 95 = .ok (.iaload, 1) := by decide +kernel
theorem dX11_name_96 : decode cX11_name 96 = .ok (.i2l, 1) := by decide +kernel
theorem dX11_name_97 : decode cX11_name 97 = .ok (.lastore, 1) := by decide +kernel
theorem dX11_name_98 : decode cX11_name 98 = .ok (.aload_n 0, 1) := by decide +kernel
theorem dX11_name_99 : decode cX11_name 99 = .ok (.getfield 36, 3) := by decide +kernel
theorem dX11_name_102 : decode cX11_name 102 = .ok (.iconst 5, 1) := by decide +kernel
theorem dX11_name_103 : decode cX11_name 103 = .ok (.iload_n 3, 1) := by decide +kernel
theorem dX11_name_104 : decode cX11_name 104 = .ok (.i2l, 1) := by decide +kernel
theorem dX11_name_105 : decode cX11_name 105 = .ok (.lastore, 1) := by decide +kernel
theorem dX11_name_106 : decode cX11_name 106 = .ok (.aload_n 0, 1) := by decide +kernel
theorem dX11_name_107 : decode cX11_name 107 = .ok (.getfield 36, 3) := by decide +kernel
theorem dX11_name_110 : decode cX11_name 110 = .ok (.bipush 6, 2) := by decide +kernel
theorem dX11_name_112 : decode cX11_name 112 = .ok (.iload 4, 2) := by decide +kernel
theorem dX11_name_114 : decode cX11_name 114 = .ok (.i2l, 1) := by decide +kernel
theorem dX11_name_115 : decode cX11_name 115 = .ok (.lastore, 1) := by decide +kernel
theorem dX11_name_116 : decode cX11_name 116 = .ok (.aload_n 0, 1) := by decide +kernel
theorem dX11_name_117 : decode cX11_name 117 = .ok (.getfield 36, 3) := by decide +kernel
theorem dX11_name_120 : decode cX11_name 120 = .ok (.bipush 7, 2) := by decide +kernel
theorem dX11_name_122 : decode cX11_name 122 = .ok (.iload 5, 2) := by decide +kernel
theorem dX11_name_124 : decode cX11_name 124 = .ok (.i2l, 1) := by decide +kernel
theorem dX11_name_125 : decode cX11_name 125 = .ok (.lastore, 1) := by decide +kernel
theorem dX11_name_126 : decode cX11_name 126 = .ok (.return_, 1) := by decide +kernel
theorem dX11_isOverruled_0 : decode cX11_isOverruled 0 = .ok (.iconst 0, 1) := by decide +kernel
theorem dX11_isOverruled_1 : decode cX11_isOverruled 1 = .ok (.istore 4, 2) := by decide +kernel
theorem dX11_isOverruled_3 : decode cX11_isOverruled 3 = .ok (.iload 4, 2) := by decide +kernel
theorem dX11_isOverruled_5 : decode cX11_isOverruled 5 = .ok (.aload_n 0, 1) := by decide +kernel
theorem dX11_isOverruled_6 : decode cX11_isOverruled 6 = .ok (.getfield 282, 3) := by decide +kernel
theorem dX11_isOverruled_9 : decode cX11_isOverruled 9 = .ok (.if_icmp .ge 147, 3) := by decide +kernel
theorem dX11_isOverruled_12 : decode cX11_isOverruled 12 = .ok (.aload_n 0, 1) := by decide +kernel
theorem dX11_isOverruled_13 : decode cX11_isOverruled 13 = .ok (.getfield 73, 3) := by decide +kernel
theorem dX11_isOverruled_16 : decode cX11_isOverruled 16 = .ok (.iload 4, 2) := by decide +kernel
theorem dX11_isOverruled_18 : decode cX11_isOverruled 18 = .ok (.iaload, 1) := by decide +kernel
theorem dX11_isOverruled_19 : decode cX11_isOverruled 19 = .ok (.istore 5, 2) := by decide +kernel
theorem dX11_isOverruled_21 : decode cX11_isOverruled 21 = .ok (.aload_n 0, 1) := by decide +kernel
theorem dX11_isOverruled_22 : decode cX11_isOverruled 22 = .ok (.getfield 88, 3) := by decide +kernel
theorem dX11_isOverruled_25 : decode cX11_isOverruled 25 = .ok (.iload 4, 2) := by decide +kernel
theorem dX11_isOverruled_27 : decode cX11_isOverruled 27 = .ok (.baload, 1) := by decide +kernel
theorem dX11_isOverruled_28 : decode cX11_isOverruled 28 = .ok (.ifCond .eq 122, 3) := by decide +kernel
theorem dX11_isOverruled_31 : decode cX11_isOverruled 31 = .ok (.aload_n 0, 1) := by decide +kernel
theorem dX11_isOverruled_32 : decode cX11_isOverruled 32 = .ok (.getfield 67, 3) := by decide +kernel
theorem dX11_isOverruled_35 : decode cX11_isOverruled 35 = .ok (.iload 4, 2) := by decide +kernel
theorem dX11_isOverruled_37 : decode cX11_isOverruled 37 = .ok (.iaload, 1) := by decide +kernel
theorem dX11_isOverruled_38 : decode cX11_isOverruled 38 = .ok (.iconst 2, 1) := by decide +kernel
theorem dX11_isOverruled_39 : decode cX11_isOverruled 39 = .ok (.if_icmp .ne 111, 3) := by decide +kernel
theorem dX11_isOverruled_42 : decode cX11_isOverruled 42 = .ok (.aload_n 0, 1) := by decide +kernel
theorem dX11_isOverruled_43 : decode cX11_isOverruled 43 = .ok (.getfield 76, 3) := by decide +kernel
theorem dX11_isOverruled_46 : decode cX11_isOverruled 46 = .ok (.iload 4, 2) := by decide +kernel
theorem dX11_isOverruled_48 : decode cX11_isOverruled 48 = .ok (.iaload, 1) := by decide +kernel
theorem dX11_isOverruled_49 : decode cX11_isOverruled 49 = .ok (.iload_n 1, 1) := by decide +kernel
theorem dX11_isOverruled_50 : decode cX11_isOverruled 50 = .ok (.if_icmp .ne 100, 3) := by decide +kernel
theorem dX11_isOverruled_53 : decode cX11_isOverruled 53 = .ok (.aload_n 0, 1) := by decide +kernel
theorem dX11_isOverruled_54 : decode cX11_isOverruled 54 = .ok (.getfield 91, 3) := by decide +kernel
theorem dX11_isOverruled_57 : decode cX11_isOverruled 57 = .ok (.aload_n 0, 1) := by decide +kernel
theorem dX11_isOverruled_58 : decode cX11_isOverruled 58 = .ok (.getfield 79, 3) := by decide +kernel
theorem dX11_isOverruled_61 : decode cX11_isOverruled 61 = .ok (.iload 4, 2) := by decide +kernel
theorem dX11_isOverruled_63 : decode cX11_isOverruled 63 = .ok (.iaload, 1) := by decide +kernel
theorem dX11_isOverruled_64 : decode cX11_isOverruled 64 = .ok (.iaload, 1) := by decide +kernel
theorem dX11_isOverruled_65 : decode cX11_isOverruled 65 = .ok (.iload_n 2, 1) := by decide +kernel
theorem dX11_isOverruled_66 : decode cX11_isOverruled 66 = .ok (.if_icmp .ne 84, 3) := by decide +kernel
theorem dX11_isOverruled_69 : decode cX11_isOverruled 69 = .ok (.aload_n 0, 1) := by decide +kernel
theorem dX11_isOverruled_70 : decode cX11_isOverruled 70 = .ok (.getfield 100, 3) := by decide +kernel
theorem dX11_isOverruled_73 : decode cX11_isOverruled 73 = .ok (.iload 5, 2) := by decide +kernel
theorem dX11_isOverruled_75 : decode cX11_isOverruled 75 = .ok (.iaload, 1) := by decide +kernel
theorem dX11_isOverruled_76 : decode cX11_isOverruled 76 = .ok (.iload_n 3, 1) := by decide +kernel
theorem dX11_isOverruled_77 : decode cX11_isOverruled 77 = .ok (.if_icmp .ge 73, 3) := by decide +kernel
theorem dX11_isOverruled_80 : decode cX11_isOverruled 80 = .ok (.aload_n 0, 1) := by decide +kernel
theorem dX11_isOverruled_81 : decode cX11_isOverruled 81 = .ok (.getfield 109, 3) := by decide +kernel
theorem dX11_isOverruled_84 : decode cX11_isOverruled 84 = .ok (.iload 5, 2) := by decide +kernel
theorem dX11_isOverruled_86 : decode cX11_isOverruled 86 = .ok (.baload, 1) := by decide +kernel
theorem dX11_isOverruled_87 : decode cX11_isOverruled 87 = .ok (.ifCond .eq 6, 3) := by decide +kernel
theorem dX11_isOverruled_90 : decode cX11_isOverruled 90 = .ok (.goto 60, 3) := by decide +kernel
theorem dX11_isOverruled_93 : decode cX11_isOverruled 93 = .ok (.aload_n 0, 1) := by decide +kernel
theorem dX11_isOverruled_94 : decode cX11_isOverruled 94 = .ok (.iload 5, 2) := by decide +kernel
theorem dX11_isOverruled_96 : decode cX11_isOverruled 96 = .ok (.aload_n 0, 1) := by decide +kernel
theorem dX11_isOverruled_97 : decode cX11_isOverruled 97 = .ok (.getfield 52, 3) := by decide +kernel
theorem dX11_isOverruled_100 : decode cX11_isOverruled 100 = .ok (.iload_n 1, 1) := by decide +kernel
theorem dX11_isOverruled_101 : decode cX11_isOverruled 101 = .ok (.iaload, 1) := by decide +kernel
theorem dX11_isOverruled_102 : decode cX11_isOverruled 102 = .ok (.aload_n 0, 1) := by decide +kernel
theorem dX11_isOverruled_103 : decode cX11_isOverruled 103 = .ok (.iload 5, 2) := by decide +kernel
theorem dX11_isOverruled_105 : decode cX11_isOverruled 105 = .ok (.iload_n 2, 1) := by decide +kernel
theorem dX11_isOverruled_106 : decode cX11_isOverruled 106 = .ok (.aload_n 0, 1) := by decide +kernel
theorem dX11_isOverruled_107 : decode cX11_isOverruled 107 = .ok (.getfield 61, 3) := by decide +kernel
theorem dX11_isOverruled_110 : decode cX11_isOverruled 110 = .ok (.iload 5, 2) := by decide +kernel
theorem dX11_isOverruled_112 : decode cX11_isOverruled 112 = .ok (.iaload, 1) := by decide +kernel
theorem dX11_isOverruled_113 : decode cX11_isOverruled 113 = .ok (.invokevirtual 318, 3) := by decide +kernel
theorem dX11_isOverruled_116 : decode cX11_isOverruled 116 = .ok (.aload_n 0, 1) := by decide +kernel
theorem dX11_isOverruled_117 : decode cX11_isOverruled 117 = .ok (.getfield 55, 3) := by decide +kernel
theorem dX11_isOverruled_120 : decode cX11_isOverruled 120 = .ok (.iload 5, 2) := by decide +kernel
theorem dX11_isOverruled_122 : decode cX11_isOverruled 122 = .ok (.iaload, 1) := by decide +kernel
theorem dX11_isOverruled_123 : decode cX11_isOverruled 123 = .ok (.aload_n 0, 1) := by decide +kernel
theorem dX11_isOverruled_124 : decode cX11_isOverruled 124 = .ok (.getfield 55, 3) := by decide +kernel
theorem dX11_isOverruled_127 : decode cX11_isOverruled 127 = .ok (.iload_n 1, 1) := by decide +kernel
theorem dX11_isOverruled_128 : decode cX11_isOverruled 128 = .ok (.iaload, 1) := by decide +kernel
theorem dX11_isOverruled_129 : decode cX11_isOverruled 129 = .ok (.isub, 1) := by decide +kernel
theorem dX11_isOverruled_130 : decode cX11_isOverruled 130 = .ok (.aload_n 0, 1) := by decide +kernel
theorem dX11_isOverruled_131 : decode cX11_isOverruled 131 = .ok (.iload_n 1, 1) := by decide +kernel
theorem dX11_isOverruled_132 : decode cX11_isOverruled 132 = .ok (.iload_n 2, 1) := by decide +kernel
theorem dX11_isOverruled_133 : decode cX11_isOverruled 133 = .ok (.iload_n 3, 1) := by decide +kernel
theorem dX11_isOverruled_134 : decode cX11_isOverruled 134 = .ok (.invokevirtual 322, 3) := by decide +kernel
theorem dX11_isOverruled_137 : decode cX11_isOverruled 137 = .ok (.invokevirtual 325, 3) := by decide +kernel
theorem dX11_isOverruled_140 : decode cX11_isOverruled 140 = .ok (.aload_n 0, 1) := by decide +kernel
theorem dX11_isOverruled_141 : decode cX11_isOverruled 141 = .ok (.iconst 1, 1) := by decide +kernel
theorem dX11_isOverruled_142 : decode cX11_isOverruled 142 = .ok (.invokevirtual 329, 3) := by decide +kernel
theorem dX11_isOverruled_145 : decode cX11_isOverruled 145 = .ok (.ifCond .eq 5, 3) := by decide +kernel
theorem dX11_isOverruled_148 : decode cX11_isOverruled 148 = .ok (.iconst 1, 1) := by decide +kernel
theorem dX11_isOverruled_149 : decode cX11_isOverruled 149 = .ok (.ireturn, 1) := by decide +kernel
theorem dX11_isOverruled_150 : decode cX11_isOverruled 150 = .ok (.iinc 4 1, 3) := by decide +kernel
theorem dX11_isOverruled_153 : decode cX11_isOverruled 153 = .ok (.goto (-150), 3) := by decide +kernel
theorem dX11_isOverruled_156 : decode cX11_isOverruled 156 = .ok (.iconst 0, 1) := by decide +kernel
theorem dX11_isOverruled_157 : decode cX11_isOverruled 157 = .ok (.ireturn, 1) := by decide +kernel
theorem dX11_isGood_0 : decode cX11_isGood 0 = .ok (.aload_n 0, 1) := by decide +kernel
theorem dX11_isGood_1 : decode cX11_isGood 1 = .ok (.getfield 109, 3) := by decide +kernel
theorem dX11_isGood_4 : decode cX11_isGood 4 = .ok (.iload_n 1, 1) := by decide +kernel
theorem dX11_isGood_5 : decode cX11_isGood 5 = .ok (.baload, 1) := by decide +kernel
theorem dX11_isGood_6 : decode cX11_isGood 6 = .ok (.ifCond .ne 52, 3) := by decide +kernel
theorem dX11_isGood_9 : decode cX11_isGood 9 = .ok (.aload_n 0, 1) := by decide +kernel
theorem dX11_isGood_10 : decode cX11_isGood 10 = .ok (.getfield 103, 3) := by decide +kernel
theorem dX11_isGood_13 : decode cX11_isGood 13 = .ok (.iload_n 1, 1) := by decide +kernel
theorem dX11_isGood_14 : decode cX11_isGood 14 = .ok (.iaload, 1) := by decide +kernel
theorem dX11_isGood_15 : decode cX11_isGood 15 = .ok (.iload_n 2, 1) := by decide +kernel
theorem dX11_isGood_16 : decode cX11_isGood 16 = .ok (.ishr, 1) := by decide +kernel
theorem dX11_isGood_17 : decode cX11_isGood 17 = .ok (.iconst 1, 1) := by decide +kernel
theorem dX11_isGood_18 : decode cX11_isGood 18 = .ok (.iand, 1) := by decide +kernel
theorem dX11_isGood_19 : decode cX11_isGood 19 = .ok (.ifCond .ne 39, 3) := by decide +kernel
theorem dX11_isGood_22 : decode cX11_isGood 22 = .ok (.aload_n 0, 1) := by decide +kernel
theorem dX11_isGood_23 : decode cX11_isGood 23 = .ok (.iload_n 1, 1) := by decide +kernel
theorem dX11_isGood_24 : decode cX11_isGood 24 = .ok (.iload_n 2, 1) := by decide +kernel
theorem dX11_isGood_25 : decode cX11_isGood 25 = .ok (.iload_n 3, 1) := by decide +kernel
theorem dX11_isGood_26 : decode cX11_isGood 26 = .ok (.invokevirtual 332, 3) := by decide +kernel
theorem dX11_isGood_29 : decode cX11_isGood 29 = .ok (.ifCond .eq 29, 3) := by decide +kernel
theorem dX11_isGood_32 : decode cX11_isGood 32 = .ok (.aload_n 0, 1) := by decide +kernel
theorem dX11_isGood_33 : decode cX11_isGood 33 = .ok (.iload_n 1, 1) := by decide +kernel
theorem dX11_isGood_34 : decode cX11_isGood 34 = .ok (.iload_n 2, 1) := by decide +kernel
theorem dX11_isGood_35 : decode cX11_isGood 35 = .ok (.iload 4, 2) := by decide +kernel
theorem dX11_isGood_37 : decode cX11_isGood 37 = .ok (.invokevirtual 336, 3) := by decide +kernel
theorem dX11_isGood_40 : decode cX11_isGood 40 = .ok (.ifCond .ne 18, 3) := by decide +kernel
theorem dX11_isGood_43 : decode cX11_isGood 43 = .ok (.aload_n 0, 1) := by decide +kernel
theorem dX11_isGood_44 : decode cX11_isGood 44 = .ok (.iload_n 1, 1) := by decide +kernel
theorem dX11_isGood_45 : decode cX11_isGood 45 = .ok (.iload_n 2, 1) := by decide +kernel
theorem dX11_isGood_46 : decode cX11_isGood 46 = .ok (.iload 5, 2) := by decide +kernel
theorem dX11_isGood_48 : decode cX11_isGood 48 = .ok (.invokevirtual 339, 3) := by decide +kernel
theorem dX11_isGood_51 : decode cX11_isGood 51 = .ok (.ifCond .ne 7, 3) := by decide +kernel
theorem dX11_isGood_54 : decode cX11_isGood 54 = .ok (.iconst 1, 1) := by decide +kernel
theorem dX11_isGood_55 : decode cX11_isGood 55 = .ok (.goto 4, 3) := by decide +kernel
theorem dX11_isGood_58 : decode cX11_isGood 58 = .ok (.iconst 0, 1) := by decide +kernel
theorem dX11_isGood_59 : decode cX11_isGood 59 = .ok (.ireturn, 1) := by decide +kernel
theorem dX11_isBinding_0 : decode cX11_isBinding 0 = .ok (.aload_n 0, 1) := by decide +kernel
theorem dX11_isBinding_1 : decode cX11_isBinding 1 = .ok (.iload_n 1, 1) := by decide +kernel
theorem dX11_isBinding_2 : decode cX11_isBinding 2 = .ok (.iload_n 3, 1) := by decide +kernel
theorem dX11_isBinding_3 : decode cX11_isBinding 3 = .ok (.aload_n 0, 1) := by decide +kernel
theorem dX11_isBinding_4 : decode cX11_isBinding 4 = .ok (.iload_n 1, 1) := by decide +kernel
theorem dX11_isBinding_5 : decode cX11_isBinding 5 = .ok (.iload_n 2, 1) := by decide +kernel
theorem dX11_isBinding_6 : decode cX11_isBinding 6 = .ok (.iload 4, 2) := by decide +kernel
theorem dX11_isBinding_8 : decode cX11_isBinding 8 = .ok (.invokevirtual 318, 3) := by decide +kernel
theorem dX11_isBinding_11 : decode cX11_isBinding 11 = .ok (.iload 6, 2) := by decide +kernel
theorem dX11_isBinding_13 : decode cX11_isBinding 13 = .ok (.aload_n 0, 1) := by decide +kernel
theorem dX11_isBinding_14 : decode cX11_isBinding 14 = .ok (.getfield 55, 3) := by decide +kernel
theorem dX11_isBinding_17 : decode cX11_isBinding 17 = .ok (.iload_n 1, 1) := by decide +kernel
theorem dX11_isBinding_18 : decode cX11_isBinding 18 = .ok (.iaload, 1) := by decide +kernel
theorem dX11_isBinding_19 : decode cX11_isBinding 19 = .ok (.isub, 1) := by decide +kernel
theorem dX11_isBinding_20 : decode cX11_isBinding 20 = .ok (.aload_n 0, 1) := by decide +kernel
theorem dX11_isBinding_21 : decode cX11_isBinding 21 = .ok (.iload_n 1, 1) := by decide +kernel
theorem dX11_isBinding_22 : decode cX11_isBinding 22 = .ok (.iload_n 2, 1) := by decide +kernel
theorem dX11_isBinding_23 : decode cX11_isBinding 23 = .ok (.iload 5, 2) := by decide +kernel
theorem dX11_isBinding_25 : decode cX11_isBinding 25 = .ok (.invokevirtual 322, 3) := by decide +kernel
theorem dX11_isBinding_28 : decode cX11_isBinding 28 = .ok (.invokevirtual 325, 3) := by decide +kernel
theorem dX11_isBinding_31 : decode cX11_isBinding 31 = .ok (.aload_n 0, 1) := by decide +kernel
theorem dX11_isBinding_32 : decode cX11_isBinding 32 = .ok (.iconst 0, 1) := by decide +kernel
theorem dX11_isBinding_33 : decode cX11_isBinding 33 = .ok (.invokevirtual 329, 3) := by decide +kernel
theorem dX11_isBinding_36 : decode cX11_isBinding 36 = .ok (.ireturn, 1) := by decide +kernel
theorem dX11_blinds_0 : decode cX11_blinds 0 = .ok (.aload_n 0, 1) := by decide +kernel
theorem dX11_blinds_1 : decode cX11_blinds 1 = .ok (.getfield 97, 3) := by decide +kernel
theorem dX11_blinds_4 : decode cX11_blinds 4 = .ok (.iload_n 1, 1) := by decide +kernel
theorem dX11_blinds_5 : decode cX11_blinds 5 = .ok (.iaload, 1) := by decide +kernel
theorem dX11_blinds_6 : decode cX11_blinds 6 = .ok (.istore_n 2, 1) := by decide +kernel
theorem dX11_blinds_7 : decode cX11_blinds 7 = .ok (.aload_n 0, 1) := by decide +kernel
theorem dX11_blinds_8 : decode cX11_blinds 8 = .ok (.getfield 103, 3) := by decide +kernel
theorem dX11_blinds_11 : decode cX11_blinds 11 = .ok (.iload_n 2, 1) := by decide +kernel
theorem dX11_blinds_12 : decode cX11_blinds 12 = .ok (.iconst 0, 1) := by decide +kernel
theorem dX11_blinds_13 : decode cX11_blinds 13 = .ok (.iastore, 1) := by decide +kernel
theorem dX11_blinds_14 : decode cX11_blinds 14 = .ok (.aload_n 0, 1) := by decide +kernel
theorem dX11_blinds_15 : decode cX11_blinds 15 = .ok (.getfield 106, 3) := by decide +kernel
theorem dX11_blinds_18 : decode cX11_blinds 18 = .ok (.iload_n 2, 1) := by decide +kernel
theorem dX11_blinds_19 : decode cX11_blinds 19 = .ok (.iconst 0, 1) := by decide +kernel
theorem dX11_blinds_20 : decode cX11_blinds 20 = .ok (.iastore, 1) := by decide +kernel
theorem dX11_blinds_21 : decode cX11_blinds 21 = .ok (.aload_n 0, 1) := by decide +kernel
theorem dX11_blinds_22 : decode cX11_blinds 22 = .ok (.iload_n 1, 1) := by decide +kernel
theorem dX11_blinds_23 : decode cX11_blinds 23 = .ok (.invokevirtual 342, 3) := by decide +kernel
theorem dX11_blinds_26 : decode cX11_blinds 26 = .ok (.iconst 0, 1) := by decide +kernel
theorem dX11_blinds_27 : decode cX11_blinds 27 = .ok (.istore_n 3, 1) := by decide +kernel
theorem dX11_blinds_28 : decode cX11_blinds 28 = .ok (.iload_n 3, 1) := by decide +kernel
theorem dX11_blinds_29 : decode cX11_blinds 29 = .ok (.aload_n 0, 1) := by decide +kernel
theorem dX11_blinds_30 : decode cX11_blinds 30 = .ok (.getfield 267, 3) := by decide +kernel
theorem dX11_blinds_33 : decode cX11_blinds 33 = .ok (.if_icmp .ge 88, 3) := by decide +kernel
theorem dX11_blinds_36 : decode cX11_blinds 36 = .ok (.aload_n 0, 1) := by decide +kernel
theorem dX11_blinds_37 : decode cX11_blinds 37 = .ok (.getfield 91, 3) := by decide +kernel
theorem dX11_blinds_40 : decode cX11_blinds 40 = .ok (.iload_n 3, 1) := by decide +kernel
theorem dX11_blinds_41 : decode cX11_blinds 41 = .ok (.iaload, 1) := by decide +kernel
theorem dX11_blinds_42 : decode cX11_blinds 42 = .ok (.iload_n 3, 1) := by decide +kernel
theorem dX11_blinds_43 : decode cX11_blinds 43 = .ok (.if_icmp .ne 72, 3) := by decide +kernel
theorem dX11_blinds_46 : decode cX11_blinds 46 = .ok (.aload_n 0, 1) := by decide +kernel
theorem dX11_blinds_47 : decode cX11_blinds 47 = .ok (.getfield 94, 3) := by decide +kernel
theorem dX11_blinds_50 : decode cX11_blinds 50 = .ok (.iload_n 3, 1) := by decide +kernel
theorem dX11_blinds_51 : decode cX11_blinds 51 = .ok (.iaload, 1) := by decide +kernel
theorem dX11_blinds_52 : decode cX11_blinds 52 = .ok (.ifCond .eq 63, 3) := by decide +kernel
theorem dX11_blinds_55 : decode cX11_blinds 55 = .ok (.aload_n 0, 1) := by decide +kernel
theorem dX11_blinds_56 : decode cX11_blinds 56 = .ok (.iload_n 2, 1) := by decide +kernel
theorem dX11_blinds_57 : decode cX11_blinds 57 = .ok (.iload_n 3, 1) := by decide +kernel
theorem dX11_blinds_58 : decode cX11_blinds 58 = .ok (.aload_n 0, 1) := by decide +kernel
theorem dX11_blinds_59 : decode cX11_blinds 59 = .ok (.getfield 61, 3) := by decide +kernel
theorem dX11_blinds_62 : decode cX11_blinds 62 = .ok (.iload_n 2, 1) := by decide +kernel
theorem dX11_blinds_63 : decode cX11_blinds 63 = .ok (.iaload, 1) := by decide +kernel
theorem dX11_blinds_64 : decode cX11_blinds 64 = .ok (.invokevirtual 332, 3) := by decide +kernel
theorem dX11_blinds_67 : decode cX11_blinds 67 = .ok (.ifCond .ne 6, 3) := by decide +kernel
theorem dX11_blinds_70 : decode cX11_blinds 70 = .ok (.goto 45, 3) := by decide +kernel
theorem dX11_blinds_73 : decode cX11_blinds 73 = .ok (.iconst 0, 1) := by decide +kernel
theorem dX11_blinds_74 : decode cX11_blinds 74 = .ok (.istore 4, 2) := by decide +kernel
theorem dX11_blinds_76 : decode cX11_blinds 76 = .ok (.iload 4, 2) := by decide +kernel
theorem dX11_blinds_78 : decode cX11_blinds 78 = .ok (.aload_n 0, 1) := by decide +kernel
theorem dX11_blinds_79 : decode cX11_blinds 79 = .ok (.getfield 267, 3) := by decide +kernel
theorem dX11_blinds_82 : decode cX11_blinds 82 = .ok (.if_icmp .ge 33, 3) := by decide +kernel
theorem dX11_blinds_85 : decode cX11_blinds 85 = .ok (.aload_n 0, 1) := by decide +kernel
theorem dX11_blinds_86 : decode cX11_blinds 86 = .ok (.getfield 94, 3) := by decide +kernel
theorem dX11_blinds_89 : decode cX11_blinds 89 = .ok (.iload_n 3, 1) := by decide +kernel
theorem dX11_blinds_90 : decode cX11_blinds 90 = .ok (.iaload, 1) := by decide +kernel
theorem dX11_blinds_91 : decode cX11_blinds 91 = .ok (.iload 4, 2) := by decide +kernel
theorem dX11_blinds_93 : decode cX11_blinds 93 = .ok (.ishr, 1) := by decide +kernel
theorem dX11_blinds_94 : decode cX11_blinds 94 = .ok (.iconst 1, 1) := by decide +kernel
theorem dX11_blinds_95 : decode cX11_blinds 95 = .ok (.iand, 1) := by decide +kernel
theorem dX11_blinds_96 : decode cX11_blinds 96 = .ok (.iconst 1, 1) := by decide +kernel
theorem dX11_blinds_97 : decode cX11_blinds 97 = .ok (.if_icmp .ne 12, 3) := by decide +kernel
theorem dX11_blinds_100 : decode cX11_blinds 100 = .ok (.aload_n 0, 1) := by decide +kernel
theorem dX11_blinds_101 : decode cX11_blinds 101 = .ok (.iload_n 2, 1) := by decide +kernel
theorem dX11_blinds_102 : decode cX11_blinds 102 = .ok (.iload_n 3, 1) := by decide +kernel
theorem dX11_blinds_103 : decode cX11_blinds 103 = .ok (.iload 4, 2) := by decide +kernel
theorem dX11_blinds_105 : decode cX11_blinds 105 = .ok (.iload_n 1, 1) := by decide +kernel
theorem dX11_blinds_106 : decode cX11_blinds 106 = .ok (.invokevirtual 345, 3) := by decide +kernel
theorem dX11_blinds_109 : decode cX11_blinds 109 = .ok (.iinc 4 1, 3) := by decide +kernel
theorem dX11_blinds_112 : decode cX11_blinds 112 = .ok (.goto (-36), 3) := by decide +kernel
theorem dX11_blinds_115 : decode cX11_blinds 115 = .ok (.iinc 3 1, 3) := by decide +kernel
theorem dX11_blinds_118 : decode cX11_blinds 118 = .ok (.goto (-90), 3) := by decide +kernel
theorem dX11_blinds_121 : decode cX11_blinds 121 = .ok (.return_, 1) := by decide +kernel
theorem dX11_forgets_0 : decode cX11_forgets 0 = .ok (.aload_n 0, 1) := by decide +kernel
theorem dX11_forgets_1 : decode cX11_forgets 1 = .ok (.iload_n 3, 1) := by decide +kernel
theorem dX11_forgets_2 : decode cX11_forgets 2 = .ok (.aload_n 0, 1) := by decide +kernel
theorem dX11_forgets_3 : decode cX11_forgets 3 = .ok (.getfield 55, 3) := by decide +kernel
theorem dX11_forgets_6 : decode cX11_forgets 6 = .ok (.iload_n 1, 1) := by decide +kernel
theorem dX11_forgets_7 : decode cX11_forgets 7 = .ok (.iaload, 1) := by decide +kernel
theorem dX11_forgets_8 : decode cX11_forgets 8 = .ok (.invokevirtual 349, 3) := by decide +kernel
theorem dX11_forgets_11 : decode cX11_forgets 11 = .ok (.ifCond .eq 15, 3) := by decide +kernel
theorem dX11_forgets_14 : decode cX11_forgets 14 = .ok (.aload_n 0, 1) := by decide +kernel
theorem dX11_forgets_15 : decode cX11_forgets 15 = .ok (.getfield 103, 3) := by decide +kernel
theorem dX11_forgets_18 : decode cX11_forgets 18 = .ok (.iload_n 1, 1) := by decide +kernel
theorem dX11_forgets_19 : decode cX11_forgets 19 = .ok (.dup2, 1) := by decide +kernel
theorem dX11_forgets_20 : decode cX11_forgets 20 = .ok (.iaload, 1) := by decide +kernel
theorem dX11_forgets_21 : decode cX11_forgets 21 = .ok (.iconst 1, 1) := by decide +kernel
theorem dX11_forgets_22 : decode cX11_forgets 22 = .ok (.iload_n 2, 1) := by decide +kernel
theorem dX11_forgets_23 : decode cX11_forgets 23 = .ok (.ishl, 1) := by decide +kernel
theorem dX11_forgets_24 : decode cX11_forgets 24 = .ok (.ior, 1) := by decide +kernel
theorem dX11_forgets_25 : decode cX11_forgets 25 = .ok (.iastore, 1) := by decide +kernel
theorem dX11_forgets_26 : decode cX11_forgets 26 = .ok (.iconst 0, 1) := by decide +kernel
theorem dX11_forgets_27 : decode cX11_forgets 27 = .ok (.istore 5, 2) := by decide +kernel
theorem dX11_forgets_29 : decode cX11_forgets 29 = .ok (.iload 5, 2) := by decide +kernel
theorem dX11_forgets_31 : decode cX11_forgets 31 = .ok (.iload 4, 2) := by decide +kernel
theorem dX11_forgets_33 : decode cX11_forgets 33 = .ok (.if_icmp .ge 100, 3) := by decide +kernel
theorem dX11_forgets_36 : decode cX11_forgets 36 = .ok (.aload_n 0, 1) := by decide +kernel
theorem dX11_forgets_37 : decode cX11_forgets 37 = .ok (.getfield 97, 3) := by decide +kernel
theorem dX11_forgets_40 : decode cX11_forgets 40 = .ok (.iload 5, 2) := by decide +kernel
theorem dX11_forgets_42 : decode cX11_forgets 42 = .ok (.iaload, 1) := by decide +kernel
theorem dX11_forgets_43 : decode cX11_forgets 43 = .ok (.istore 6, 2) := by decide +kernel
theorem dX11_forgets_45 : decode cX11_forgets 45 = .ok (.aload_n 0, 1) := by decide +kernel
theorem dX11_forgets_46 : decode cX11_forgets 46 = .ok (.iload 6, 2) := by decide +kernel
theorem dX11_forgets_48 : decode cX11_forgets 48 = .ok (.iload_n 3, 1) := by decide +kernel
theorem dX11_forgets_49 : decode cX11_forgets 49 = .ok (.aload_n 0, 1) := by decide +kernel
theorem dX11_forgets_50 : decode cX11_forgets 50 = .ok (.getfield 61, 3) := by decide +kernel
theorem dX11_forgets_53 : decode cX11_forgets 53 = .ok (.iload_n 1, 1) := by decide +kernel
theorem dX11_forgets_54 : decode cX11_forgets 54 = .ok (.iaload, 1) := by decide +kernel
theorem dX11_forgets_55 : decode cX11_forgets 55 = .ok (.iload 4, 2) := by decide +kernel
theorem dX11_forgets_57 : decode cX11_forgets 57 = .ok (.aload_n 0, 1) := by decide +kernel
theorem dX11_forgets_58 : decode cX11_forgets 58 = .ok (.getfield 55, 3) := by decide +kernel
theorem dX11_forgets_61 : decode cX11_forgets 61 = .ok (.iload_n 1, 1) := by decide +kernel
theorem dX11_forgets_62 : decode cX11_forgets 62 = .ok (.iaload, 1) := by decide +kernel
theorem dX11_forgets_63 : decode cX11_forgets 63 = .ok (.invokevirtual 352, 3) := by decide +kernel
theorem dX11_forgets_66 : decode cX11_forgets 66 = .ok (.ifCond .eq 61, 3) := by decide +kernel
theorem dX11_forgets_69 : decode cX11_forgets 69 = .ok (.aload_n 0, 1) := by decide +kernel
theorem dX11_forgets_70 : decode cX11_forgets 70 = .ok (.iload 6, 2) := by decide +kernel
theorem dX11_forgets_72 : decode cX11_forgets 72 = .ok (.iload_n 3, 1) := by decide +kernel
theorem dX11_forgets_73 : decode cX11_forgets 73 = .ok (.aload_n 0, 1) := by decide +kernel
theorem dX11_forgets_74 : decode cX11_forgets 74 = .ok (.getfield 52, 3) := by decide +kernel
theorem dX11_forgets_77 : decode cX11_forgets 77 = .ok (.iload_n 1, 1) := by decide +kernel
theorem dX11_forgets_78 : decode cX11_forgets 78 = .ok (.iaload, 1) := by decide +kernel
theorem dX11_forgets_79 : decode cX11_forgets 79 = .ok (.aload_n 0, 1) := by decide +kernel
theorem dX11_forgets_80 : decode cX11_forgets 80 = .ok (.getfield 61, 3) := by decide +kernel
theorem dX11_forgets_83 : decode cX11_forgets 83 = .ok (.iload_n 1, 1) := by decide +kernel
theorem dX11_forgets_84 : decode cX11_forgets 84 = .ok (.iaload, 1) := by decide +kernel
theorem dX11_forgets_85 : decode cX11_forgets 85 = .ok (.iload 4, 2) := by decide +kernel
theorem dX11_forgets_87 : decode cX11_forgets 87 = .ok (.aload_n 0, 1) := by decide +kernel
theorem dX11_forgets_88 : decode cX11_forgets 88 = .ok (.getfield 55, 3) := by decide +kernel
theorem dX11_forgets_91 : decode cX11_forgets 91 = .ok (.iload_n 1, 1) := by decide +kernel
theorem dX11_forgets_92 : decode cX11_forgets 92 = .ok (.iaload, 1) := by decide +kernel
theorem dX11_forgets_93 : decode cX11_forgets 93 = .ok (.invokevirtual 356, 3) := by decide +kernel
theorem dX11_forgets_96 : decode cX11_forgets 96 = .ok (.ifCond .ne 6, 3) := by decide +kernel
theorem dX11_forgets_99 : decode cX11_forgets 99 = .ok (.goto 28, 3) := by decide +kernel
theorem dX11_forgets_102 : decode cX11_forgets 102 = .ok (.aload_n 0, 1) := by decide +kernel
theorem dX11_forgets_103 : decode cX11_forgets 103 = .ok (.getfield 103, 3) := by decide +kernel
theorem dX11_forgets_106 : decode cX11_forgets 106 = .ok (.iload_n 1, 1) := by decide +kernel
theorem dX11_forgets_107 : decode cX11_forgets 107 = .ok (.dup2, 1) := by decide +kernel
theorem dX11_forgets_108 : decode cX11_forgets 108 = .ok (.iaload, 1) := by decide +kernel
theorem dX11_forgets_109 : decode cX11_forgets 109 = .ok (.iconst 1, 1) := by decide +kernel
theorem dX11_forgets_110 : decode cX11_forgets 110 = .ok (.iload_n 2, 1) := by decide +kernel
theorem dX11_forgets_111 : decode cX11_forgets 111 = .ok (.ishl, 1) := by decide +kernel
theorem dX11_forgets_112 : decode cX11_forgets 112 = .ok (.ior, 1) := by decide +kernel
theorem dX11_forgets_113 : decode cX11_forgets 113 = .ok (.iastore, 1) := by decide +kernel
theorem dX11_forgets_114 : decode cX11_forgets 114 = .ok (.aload_n 0, 1) := by decide +kernel
theorem dX11_forgets_115 : decode cX11_forgets 115 = .ok (.getfield 106, 3) := by decide +kernel
theorem dX11_forgets_118 : decode cX11_forgets 118 = .ok (.iload_n 1, 1) := by decide +kernel
theorem dX11_forgets_119 : decode cX11_forgets 119 = .ok (.dup2, 1) := by decide +kernel
theorem dX11_forgets_120 : decode cX11_forgets 120 = .ok (.iaload, 1) := by decide +kernel
theorem dX11_forgets_121 : decode cX11_forgets 121 = .ok (.iconst 1, 1) := by decide +kernel
theorem dX11_forgets_122 : decode cX11_forgets 122 = .ok (.iload 6, 2) := by decide +kernel
theorem dX11_forgets_124 : decode cX11_forgets 124 = .ok (.ishl, 1) := by decide +kernel
theorem dX11_forgets_125 : decode cX11_forgets 125 = .ok (.ior, 1) := by decide +kernel
theorem dX11_forgets_126 : decode cX11_forgets 126 = .ok (.iastore, 1) := by decide +kernel
theorem dX11_forgets_127 : decode cX11_forgets 127 = .ok (.iinc 5 1, 3) := by decide +kernel
theorem dX11_forgets_130 : decode cX11_forgets 130 = .ok (.goto (-101), 3) := by decide +kernel
theorem dX11_forgets_133 : decode cX11_forgets 133 = .ok (.return_, 1) := by decide +kernel
theorem dX11_asOf_0 : decode cX11_asOf 0 = .ok (.aload_n 0, 1) := by decide +kernel
theorem dX11_asOf_1 : decode cX11_asOf 1 = .ok (.iload_n 1, 1) := by decide +kernel
theorem dX11_asOf_2 : decode cX11_asOf 2 = .ok (.putfield 360, 3) := by decide +kernel
theorem dX11_asOf_5 : decode cX11_asOf 5 = .ok (.aload_n 0, 1) := by decide +kernel
theorem dX11_asOf_6 : decode cX11_asOf 6 = .ok (.iconst 0, 1) := by decide +kernel
theorem dX11_asOf_7 : decode cX11_asOf 7 = .ok (.putfield 363, 3) := by decide +kernel
theorem dX11_asOf_10 : decode cX11_asOf 10 = .ok (.aload_n 0, 1) := by decide +kernel
theorem dX11_asOf_11 : decode cX11_asOf 11 = .ok (.getfield 363, 3) := by decide +kernel
theorem dX11_asOf_14 : decode cX11_asOf 14 = .ok (.aload_n 0, 1) := by decide +kernel
theorem dX11_asOf_15 : decode cX11_asOf 15 = .ok (.getfield 302, 3) := by decide +kernel
theorem dX11_asOf_18 : decode cX11_asOf 18 = .ok (.if_icmp .ge 34, 3) := by decide +kernel
theorem dX11_asOf_21 : decode cX11_asOf 21 = .ok (.aload_n 0, 1) := by decide +kernel
theorem dX11_asOf_22 : decode cX11_asOf 22 = .ok (.getfield 55, 3) := by decide +kernel
theorem dX11_asOf_25 : decode cX11_asOf 25 = .ok (.aload_n 0, 1) := by decide +kernel
theorem dX11_asOf_26 : decode cX11_asOf 26 = .ok (.getfield 97, 3) := by decide +kernel
theorem dX11_asOf_29 : decode cX11_asOf 29 = .ok (.aload_n 0, 1) := by decide +kernel
theorem dX11_asOf_30 : decode cX11_asOf 30 = .ok (.getfield 363, 3) := by decide +kernel
theorem dX11_asOf_33 : decode cX11_asOf 33 = .ok (.iaload, 1) := by decide +kernel
theorem dX11_asOf_34 : decode cX11_asOf 34 = .ok (.iaload, 1) := by decide +kernel
theorem dX11_asOf_35 : decode cX11_asOf 35 = .ok (.iload_n 1, 1) := by decide +kernel
theorem dX11_asOf_36 : decode cX11_asOf 36 = .ok (.if_icmp .gt 16, 3) := by decide +kernel
theorem dX11_asOf_39 : decode cX11_asOf 39 = .ok (.aload_n 0, 1) := by decide +kernel
theorem dX11_asOf_40 : decode cX11_asOf 40 = .ok (.dup, 1) := by decide +kernel
theorem dX11_asOf_41 : decode cX11_asOf 41 = .ok (.getfield 363, 3) := by decide +kernel
theorem dX11_asOf_44 : decode cX11_asOf 44 = .ok (.iconst 1, 1) := by decide +kernel
theorem dX11_asOf_45 : decode cX11_asOf 45 = .ok (.iadd, 1) := by decide +kernel
theorem dX11_asOf_46 : decode cX11_asOf 46 = .ok (.putfield 363, 3) := by decide +kernel
theorem dX11_asOf_49 : decode cX11_asOf 49 = .ok (.goto (-39), 3) := by decide +kernel
theorem dX11_asOf_52 : decode cX11_asOf 52 = .ok (.aload_n 0, 1) := by decide +kernel
theorem dX11_asOf_53 : decode cX11_asOf 53 = .ok (.aload_n 0, 1) := by decide +kernel
theorem dX11_asOf_54 : decode cX11_asOf 54 = .ok (.getfield 363, 3) := by decide +kernel
theorem dX11_asOf_57 : decode cX11_asOf 57 = .ok (.invokevirtual 342, 3) := by decide +kernel
theorem dX11_asOf_60 : decode cX11_asOf 60 = .ok (.return_, 1) := by decide +kernel
theorem dX11_isBefore_0 : decode cX11_isBefore 0 = .ok (.iload_n 2, 1) := by decide +kernel
theorem dX11_isBefore_1 : decode cX11_isBefore 1 = .ok (.iconst (-1), 1) := by decide +kernel
theorem dX11_isBefore_2 : decode cX11_isBefore 2 = .ok (.if_icmp .ne 5, 3) := by decide +kernel
theorem dX11_isBefore_5 : decode cX11_isBefore 5 = .ok (.iconst 0, 1) := by decide +kernel
theorem dX11_isBefore_6 : decode cX11_isBefore 6 = .ok (.ireturn, 1) := by decide +kernel
theorem dX11_isBefore_7 : decode cX11_isBefore 7 = .ok (.aload_n 0, 1) := by decide +kernel
theorem dX11_isBefore_8 : decode cX11_isBefore 8 = .ok (.getfield 43, 3) := by decide +kernel
theorem dX11_isBefore_11 : decode cX11_isBefore 11 = .ok (.aload_n 0, 1) := by decide +kernel
theorem dX11_isBefore_12 : decode cX11_isBefore 12 = .ok (.getfield 52, 3) := by decide +kernel
theorem dX11_isBefore_15 : decode cX11_isBefore 15 = .ok (.iload_n 1, 1) := by decide +kernel
theorem dX11_isBefore_16 : decode cX11_isBefore 16 = .ok (.iaload, 1) := by decide +kernel
theorem dX11_isBefore_17 : decode cX11_isBefore 17 = .ok (.iaload, 1) := by decide +kernel
theorem dX11_isBefore_18 : decode cX11_isBefore 18 = .ok (.istore_n 3, 1) := by decide +kernel
theorem dX11_isBefore_19 : decode cX11_isBefore 19 = .ok (.aload_n 0, 1) := by decide +kernel
theorem dX11_isBefore_20 : decode cX11_isBefore 20 = .ok (.getfield 43, 3) := by decide +kernel
theorem dX11_isBefore_23 : decode cX11_isBefore 23 = .ok (.aload_n 0, 1) := by decide +kernel
theorem dX11_isBefore_24 : decode cX11_isBefore 24 = .ok (.getfield 52, 3) := by decide +kernel
theorem dX11_isBefore_27 : decode cX11_isBefore 27 = .ok (.iload_n 2, 1) := by decide +kernel
theorem dX11_isBefore_28 : decode cX11_isBefore 28 = .ok (.iaload, 1) := by decide +kernel
theorem dX11_isBefore_29 : decode cX11_isBefore 29 = .ok (.iaload, 1) := by decide +kernel
theorem dX11_isBefore_30 : decode cX11_isBefore 30 = .ok (.istore 4, 2) := by decide +kernel
theorem dX11_isBefore_32 : decode cX11_isBefore 32 = .ok (.iload_n 3, 1) := by decide +kernel
theorem dX11_isBefore_33 : decode cX11_isBefore 33 = .ok (.iload 4, 2) := by decide +kernel
theorem dX11_isBefore_35 : decode cX11_isBefore 35 = .ok (.if_icmp .lt 24, 3) := by decide +kernel
theorem dX11_isBefore_38 : decode cX11_isBefore 38 = .ok (.iload_n 3, 1) := by decide +kernel
theorem dX11_isBefore_39 : decode cX11_isBefore 39 = .ok (.iload 4, 2) := by decide +kernel
theorem dX11_isBefore_41 : decode cX11_isBefore 41 = .ok (.if_icmp .ne 22, 3) := by decide +kernel
theorem dX11_isBefore_44 : decode cX11_isBefore 44 = .ok (.aload_n 0, 1) := by decide +kernel
theorem dX11_isBefore_45 : decode cX11_isBefore 45 = .ok (.getfield 100, 3) := by decide +kernel
theorem dX11_isBefore_48 : decode cX11_isBefore 48 = .ok (.iload_n 1, 1) := by decide +kernel
theorem dX11_isBefore_49 : decode cX11_isBefore 49 = .ok (.iaload, 1) := by decide +kernel
theorem dX11_isBefore_50 : decode cX11_isBefore 50 = .ok (.aload_n 0, 1) := by decide +kernel
theorem dX11_isBefore_51 : decode cX11_isBefore 51 = .ok (.getfield 100, 3) := by decide +kernel
theorem dX11_isBefore_54 : decode cX11_isBefore 54 = .ok (.iload_n 2, 1) := by decide +kernel
theorem dX11_isBefore_55 : decode cX11_isBefore 55 = .ok (.iaload, 1) := by decide +kernel
theorem dX11_isBefore_56 : decode cX11_isBefore 56 = .ok (.if_icmp .ge 7, 3) := by decide +kernel
theorem dX11_isBefore_59 : decode cX11_isBefore 59 = .ok (.iconst 1, 1) := by decide +kernel
theorem dX11_isBefore_60 : decode cX11_isBefore 60 = .ok (.goto 4, 3) := by decide +kernel
theorem dX11_isBefore_63 : decode cX11_isBefore 63 = .ok (.iconst 0, 1) := by decide +kernel
theorem dX11_isBefore_64 : decode cX11_isBefore 64 = .ok (.ireturn, 1) := by decide +kernel
theorem dX11_hasSaid_0 : decode cX11_hasSaid 0 = .ok (.iconst 0, 1) := by decide +kernel
theorem dX11_hasSaid_1 : decode cX11_hasSaid 1 = .ok (.istore 4, 2) := by decide +kernel
theorem dX11_hasSaid_3 : decode cX11_hasSaid 3 = .ok (.iload 4, 2) := by decide +kernel
theorem dX11_hasSaid_5 : decode cX11_hasSaid 5 = .ok (.aload_n 0, 1) := by decide +kernel
theorem dX11_hasSaid_6 : decode cX11_hasSaid 6 = .ok (.getfield 282, 3) := by decide +kernel
theorem dX11_hasSaid_9 : decode cX11_hasSaid 9 = .ok (.if_icmp .ge 73, 3) := by decide +kernel
theorem dX11_hasSaid_12 : decode cX11_hasSaid 12 = .ok (.aload_n 0, 1) := by decide +kernel
theorem dX11_hasSaid_13 : decode cX11_hasSaid 13 = .ok (.getfield 88, 3) := by decide +kernel
theorem dX11_hasSaid_16 : decode cX11_hasSaid 16 = .ok (.iload 4, 2) := by decide +kernel
theorem dX11_hasSaid_18 : decode cX11_hasSaid 18 = .ok (.baload, 1) := by decide +kernel
theorem dX11_hasSaid_19 : decode cX11_hasSaid 19 = .ok (.ifCond .eq 57, 3) := by decide +kernel
theorem dX11_hasSaid_22 : decode cX11_hasSaid 22 = .ok (.aload_n 0, 1) := by decide +kernel
theorem dX11_hasSaid_23 : decode cX11_hasSaid 23 = .ok (.getfield 67, 3) := by decide +kernel
theorem dX11_hasSaid_26 : decode cX11_hasSaid 26 = .ok (.iload 4, 2) := by decide +kernel
theorem dX11_hasSaid_28 : decode cX11_hasSaid 28 = .ok (.iaload, 1) := by decide +kernel
theorem dX11_hasSaid_29 : decode cX11_hasSaid 29 = .ok (.iconst 1, 1) := by decide +kernel
theorem dX11_hasSaid_30 : decode cX11_hasSaid 30 = .ok (.if_icmp .ne 46, 3) := by decide +kernel
theorem dX11_hasSaid_33 : decode cX11_hasSaid 33 = .ok (.aload_n 0, 1) := by decide +kernel
theorem dX11_hasSaid_34 : decode cX11_hasSaid 34 = .ok (.getfield 73, 3) := by decide +kernel
theorem dX11_hasSaid_37 : decode cX11_hasSaid 37 = .ok (.iload 4, 2) := by decide +kernel
theorem dX11_hasSaid_39 : decode cX11_hasSaid 39 = .ok (.iaload, 1) := by decide +kernel
theorem dX11_hasSaid_40 : decode cX11_hasSaid 40 = .ok (.iload_n 1, 1) := by decide +kernel
theorem dX11_hasSaid_41 : decode cX11_hasSaid 41 = .ok (.if_icmp .ne 35, 3) := by decide +kernel
theorem dX11_hasSaid_44 : decode cX11_hasSaid 44 = .ok (.aload_n 0, 1) := by decide +kernel
theorem dX11_hasSaid_45 : decode cX11_hasSaid 45 = .ok (.getfield 91, 3) := by decide +kernel
theorem dX11_hasSaid_48 : decode cX11_hasSaid 48 = .ok (.aload_n 0, 1) := by decide +kernel
theorem dX11_hasSaid_49 : decode cX11_hasSaid 49 = .ok (.getfield 79, 3) := by decide +kernel
theorem dX11_hasSaid_52 : decode cX11_hasSaid 52 = .ok (.iload 4, 2) := by decide +kernel
theorem dX11_hasSaid_54 : decode cX11_hasSaid 54 = .ok (.iaload, 1) := by decide +kernel
theorem dX11_hasSaid_55 : decode cX11_hasSaid 55 = .ok (.iaload, 1) := by decide +kernel
theorem dX11_hasSaid_56 : decode cX11_hasSaid 56 = .ok (.iload_n 2, 1) := by decide +kernel
theorem dX11_hasSaid_57 : decode cX11_hasSaid 57 = .ok (.if_icmp .ne 19, 3) := by decide +kernel
theorem dX11_hasSaid_60 : decode cX11_hasSaid 60 = .ok (.aload_n 0, 1) := by decide +kernel
theorem dX11_hasSaid_61 : decode cX11_hasSaid 61 = .ok (.getfield 82, 3) := by decide +kernel
theorem dX11_hasSaid_64 : decode cX11_hasSaid 64 = .ok (.iload 4, 2) := by decide +kernel
theorem dX11_hasSaid_66 : decode cX11_hasSaid 66 = .ok (.iaload, 1) := by decide +kernel
theorem dX11_hasSaid_67 : decode cX11_hasSaid 67 = .ok (.iload_n 3, 1) := by decide +kernel
theorem dX11_hasSaid_68 : decode cX11_hasSaid 68 = .ok (.iconst (-1), 1) := by decide +kernel
theorem dX11_hasSaid_69 : decode cX11_hasSaid 69 = .ok (.ixor, 1) := by decide +kernel
theorem dX11_hasSaid_70 : decode cX11_hasSaid 70 = .ok (.iand, 1) := by decide +kernel
theorem dX11_hasSaid_71 : decode cX11_hasSaid 71 = .ok (.ifCond .ne 5, 3) := by decide +kernel
theorem dX11_hasSaid_74 : decode cX11_hasSaid 74 = .ok (.iconst 1, 1) := by decide +kernel
theorem dX11_hasSaid_75 : decode cX11_hasSaid 75 = .ok (.ireturn, 1) := by decide +kernel
theorem dX11_hasSaid_76 : decode cX11_hasSaid 76 = .ok (.iinc 4 1, 3) := by decide +kernel
theorem dX11_hasSaid_79 : decode cX11_hasSaid 79 = .ok (.goto (-76), 3) := by decide +kernel
theorem dX11_hasSaid_82 : decode cX11_hasSaid 82 = .ok (.iconst 0, 1) := by decide +kernel
theorem dX11_hasSaid_83 : decode cX11_hasSaid 83 = .ok (.ireturn, 1) := by decide +kernel
theorem dX11_standOf_0 : decode cX11_standOf 0 = .ok (.aload_n 0, 1) := by decide +kernel
theorem dX11_standOf_1 : decode cX11_standOf 1 = .ok (.iconst (-1), 1) := by decide +kernel
theorem dX11_standOf_2 : decode cX11_standOf 2 = .ok (.putfield 366, 3) := by decide +kernel
theorem dX11_standOf_5 : decode cX11_standOf 5 = .ok (.aload_n 0, 1) := by decide +kernel
theorem dX11_standOf_6 : decode cX11_standOf 6 = .ok (.iload_n 1, 1) := by decide +kernel
theorem dX11_standOf_7 : decode cX11_standOf 7 = .ok (.aload_n 0, 1) := by decide +kernel
theorem dX11_standOf_8 : decode cX11_standOf 8 = .ok (.getfield 360, 3) := by decide +kernel
theorem dX11_standOf_11 : decode cX11_standOf 11 = .ok (.invokevirtual 349, 3) := by decide +kernel
theorem dX11_standOf_14 : decode cX11_standOf 14 = .ok (.ifCond .eq 5, 3) := by decide +kernel
theorem dX11_standOf_17 : decode cX11_standOf 17 = .ok (.iconst 4, 1) := by decide +kernel
theorem dX11_standOf_18 : decode cX11_standOf 18 = .ok (.ireturn, 1) := by decide +kernel
theorem dX11_standOf_19 : decode cX11_standOf 19 = .ok (.iconst (-1), 1) := by decide +kernel
theorem dX11_standOf_20 : decode cX11_standOf 20 = .ok (.istore 4, 2) := by decide +kernel
theorem dX11_standOf_22 : decode cX11_standOf 22 = .ok (.iconst (-1), 1) := by decide +kernel
theorem dX11_standOf_23 : decode cX11_standOf 23 = .ok (.istore 5, 2) := by decide +kernel
theorem dX11_standOf_25 : decode cX11_standOf 25 = .ok (.iconst (-1), 1) := by decide +kernel
theorem dX11_standOf_26 : decode cX11_standOf 26 = .ok (.istore 6, 2) := by decide +kernel
theorem dX11_standOf_28 : decode cX11_standOf 28 = .ok (.iconst 0, 1) := by decide +kernel
theorem dX11_standOf_29 : decode cX11_standOf 29 = .ok (.istore 7, 2) := by decide +kernel
theorem dX11_standOf_31 : decode cX11_standOf 31 = .ok (.iload 7, 2) := by decide +kernel
theorem dX11_standOf_33 : decode cX11_standOf 33 = .ok (.aload_n 0, 1) := by decide +kernel
theorem dX11_standOf_34 : decode cX11_standOf 34 = .ok (.getfield 363, 3) := by decide +kernel
theorem dX11_standOf_37 : decode cX11_standOf 37 = .ok (.if_icmp .ge 210, 3) := by decide +kernel
theorem dX11_standOf_40 : decode cX11_standOf 40 = .ok (.aload_n 0, 1) := by decide +kernel
theorem dX11_standOf_41 : decode cX11_standOf 41 = .ok (.getfield 97, 3) := by decide +kernel
theorem dX11_standOf_44 : decode cX11_standOf 44 = .ok (.iload 7, 2) := by decide +kernel
theorem dX11_standOf_46 : decode cX11_standOf 46 = .ok (.iaload, 1) := by decide +kernel
theorem dX11_standOf_47 : decode cX11_standOf 47 = .ok (.istore 8, 2) := by decide +kernel
theorem dX11_standOf_49 : decode cX11_standOf 49 = .ok (.aload_n 0, 1) := by decide +kernel
theorem dX11_standOf_50 : decode cX11_standOf 50 = .ok (.getfield 109, 3) := by decide +kernel
theorem dX11_standOf_53 : decode cX11_standOf 53 = .ok (.iload 8, 2) := by decide +kernel
theorem dX11_standOf_55 : decode cX11_standOf 55 = .ok (.baload, 1) := by decide +kernel
theorem dX11_standOf_56 : decode cX11_standOf 56 = .ok (.ifCond .ne 185, 3) := by decide +kernel
theorem dX11_standOf_59 : decode cX11_standOf 59 = .ok (.aload_n 0, 1) := by decide +kernel
theorem dX11_standOf_60 : decode cX11_standOf 60 = .ok (.iload 8, 2) := by decide +kernel
theorem dX11_standOf_62 : decode cX11_standOf 62 = .ok (.iload_n 1, 1) := by decide +kernel
theorem dX11_standOf_63 : decode cX11_standOf 63 = .ok (.aload_n 0, 1) := by decide +kernel
theorem dX11_standOf_64 : decode cX11_standOf 64 = .ok (.getfield 363, 3) := by decide +kernel
theorem dX11_standOf_67 : decode cX11_standOf 67 = .ok (.invokevirtual 336, 3) := by decide +kernel
theorem dX11_standOf_70 : decode cX11_standOf 70 = .ok (.ifCond .ne 171, 3) := by decide +kernel
theorem dX11_standOf_73 : decode cX11_standOf 73 = .ok (.aload_n 0, 1) := by decide +kernel
theorem dX11_standOf_74 : decode cX11_standOf 74 = .ok (.iload 8, 2) := by decide +kernel
theorem dX11_standOf_76 : decode cX11_standOf 76 = .ok (.iload_n 1, 1) := by decide +kernel
theorem dX11_standOf_77 : decode cX11_standOf 77 = .ok (.aload_n 0, 1) := by decide +kernel
theorem dX11_standOf_78 : decode cX11_standOf 78 = .ok (.getfield 360, 3) := by decide +kernel
theorem dX11_standOf_81 : decode cX11_standOf 81 = .ok (.invokevirtual 339, 3) := by decide +kernel
theorem dX11_standOf_84 : decode cX11_standOf 84 = .ok (.ifCond .eq 6, 3) := by decide +kernel
theorem dX11_standOf_87 : decode cX11_standOf 87 = .ok (.goto 154, 3) := by decide +kernel
theorem dX11_standOf_90 : decode cX11_standOf 90 = .ok (.aload_n 0, 1) := by decide +kernel
theorem dX11_standOf_91 : decode cX11_standOf 91 = .ok (.iload 8, 2) := by decide +kernel
theorem dX11_standOf_93 : decode cX11_standOf 93 = .ok (.iload_n 1, 1) := by decide +kernel
theorem dX11_standOf_94 : decode cX11_standOf 94 = .ok (.iload_n 3, 1) := by decide +kernel
theorem dX11_standOf_95 : decode cX11_standOf 95 = .ok (.aload_n 0, 1) := by decide +kernel
theorem dX11_standOf_96 : decode cX11_standOf 96 = .ok (.getfield 363, 3) := by decide +kernel
theorem dX11_standOf_99 : decode cX11_standOf 99 = .ok (.aload_n 0, 1) := by decide +kernel
theorem dX11_standOf_100 : decode cX11_standOf 100 = .ok (.getfield 360, 3) := by decide +kernel
theorem dX11_standOf_103 : decode cX11_standOf 103 = .ok (.invokevirtual 352, 3) := by decide +kernel
theorem dX11_standOf_106 : decode cX11_standOf 106 = .ok (.istore 9, 2) := by decide +kernel
theorem dX11_standOf_108 : decode cX11_standOf 108 = .ok (.iload 9, 2) := by decide +kernel
theorem dX11_standOf_110 : decode cX11_standOf 110 = .ok (.ifCond .eq 84, 3) := by decide +kernel
theorem dX11_standOf_113 : decode cX11_standOf 113 = .ok (.aload_n 0, 1) := by decide +kernel
theorem dX11_standOf_114 : decode cX11_standOf 114 = .ok (.iload 8, 2) := by decide +kernel
theorem dX11_standOf_116 : decode cX11_standOf 116 = .ok (.iload_n 1, 1) := by decide +kernel
theorem dX11_standOf_117 : decode cX11_standOf 117 = .ok (.iload_n 2, 1) := by decide +kernel
theorem dX11_standOf_118 : decode cX11_standOf 118 = .ok (.iload_n 3, 1) := by decide +kernel
theorem dX11_standOf_119 : decode cX11_standOf 119 = .ok (.aload_n 0, 1) := by decide +kernel
theorem dX11_standOf_120 : decode cX11_standOf 120 = .ok (.getfield 363, 3) := by decide +kernel
theorem dX11_standOf_123 : decode cX11_standOf 123 = .ok (.aload_n 0, 1) := by decide +kernel
theorem dX11_standOf_124 : decode cX11_standOf 124 = .ok (.getfield 360, 3) := by decide +kernel
theorem dX11_standOf_127 : decode cX11_standOf 127 = .ok (.invokevirtual 356, 3) := by decide +kernel
theorem dX11_standOf_130 : decode cX11_standOf 130 = .ok (.ifCond .eq 64, 3) := by decide +kernel
theorem dX11_standOf_133 : decode cX11_standOf 133 = .ok (.aload_n 0, 1) := by decide +kernel
theorem dX11_standOf_134 : decode cX11_standOf 134 = .ok (.iload 8, 2) := by decide +kernel
theorem dX11_standOf_136 : decode cX11_standOf 136 = .ok (.iload_n 1, 1) := by decide +kernel
theorem dX11_standOf_137 : decode cX11_standOf 137 = .ok (.aload_n 0, 1) := by decide +kernel
theorem dX11_standOf_138 : decode cX11_standOf 138 = .ok (.getfield 363, 3) := by decide +kernel
theorem dX11_standOf_141 : decode cX11_standOf 141 = .ok (.invokevirtual 322, 3) := by decide +kernel
theorem dX11_standOf_144 : decode cX11_standOf 144 = .ok (.aload_n 0, 1) := by decide +kernel
theorem dX11_standOf_145 : decode cX11_standOf 145 = .ok (.getfield 26, 3) := by decide +kernel
theorem dX11_standOf_148 : decode cX11_standOf 148 = .ok (.if_icmp .ge 26, 3) := by decide +kernel
theorem dX11_standOf_151 : decode cX11_standOf 151 = .ok (.aload_n 0, 1) := by decide +kernel
theorem dX11_standOf_152 : decode cX11_standOf 152 = .ok (.iload 8, 2) := by decide +kernel
theorem dX11_standOf_154 : decode cX11_standOf 154 = .ok (.iload 4, 2) := by decide +kernel
theorem dX11_standOf_156 : decode cX11_standOf 156 = .ok (.invokevirtual 369, 3) := by decide +kernel
theorem dX11_standOf_159 : decode cX11_standOf 159 = .ok (.ifCond .eq 8, 3) := by decide +kernel
theorem dX11_standOf_162 : decode cX11_standOf 162 = .ok (.iload 4, 2) := by decide +kernel
theorem dX11_standOf_164 : decode cX11_standOf 164 = .ok (.goto 5, 3) := by decide +kernel
theorem dX11_standOf_167 : decode cX11_standOf 167 = .ok (.iload 8, 2) := by decide +kernel
theorem dX11_standOf_169 : decode cX11_standOf 169 = .ok (.istore 4, 2) := by decide +kernel
theorem dX11_standOf_171 : decode cX11_standOf 171 = .ok (.goto 23, 3) := by decide +kernel
theorem dX11_standOf_174 : decode cX11_standOf 174 = .ok (.aload_n 0, 1) := by decide +kernel
theorem dX11_standOf_175 : decode cX11_standOf 175 = .ok (.iload 8, 2) := by decide +kernel
theorem dX11_standOf_177 : decode cX11_standOf 177 = .ok (.iload 5, 2) := by decide +kernel
theorem dX11_standOf_179 : decode cX11_standOf 179 = .ok (.invokevirtual 369, 3) := by decide +kernel
theorem dX11_standOf_182 : decode cX11_standOf 182 = .ok (.ifCond .eq 8, 3) := by decide +kernel
theorem dX11_standOf_185 : decode cX11_standOf 185 = .ok (.iload 5, 2) := by decide +kernel
theorem dX11_standOf_187 : decode cX11_standOf 187 = .ok (.goto 5, 3) := by decide +kernel
theorem dX11_standOf_190 : decode cX11_standOf 190 = .ok (.iload 8, 2) := by decide +kernel
theorem dX11_standOf_192 : decode cX11_standOf 192 = .ok (.istore 5, 2) := by decide +kernel
theorem dX11_standOf_194 : decode cX11_standOf 194 = .ok (.iload 9, 2) := by decide +kernel
theorem dX11_standOf_196 : decode cX11_standOf 196 = .ok (.ifCond .ne 25, 3) := by decide +kernel
theorem dX11_standOf_199 : decode cX11_standOf 199 = .ok (.aload_n 0, 1) := by decide +kernel
theorem dX11_standOf_200 : decode cX11_standOf 200 = .ok (.iload 8, 2) := by decide +kernel
theorem dX11_standOf_202 : decode cX11_standOf 202 = .ok (.iload_n 1, 1) := by decide +kernel
theorem dX11_standOf_203 : decode cX11_standOf 203 = .ok (.iload_n 3, 1) := by decide +kernel
theorem dX11_standOf_204 : decode cX11_standOf 204 = .ok (.invokevirtual 318, 3) := by decide +kernel
theorem dX11_standOf_207 : decode cX11_standOf 207 = .ok (.ifCond .gt 14, 3) := by decide +kernel
theorem dX11_standOf_210 : decode cX11_standOf 210 = .ok (.aload_n 0, 1) := by decide +kernel
theorem dX11_standOf_211 : decode cX11_standOf 211 = .ok (.iload 8, 2) := by decide +kernel
theorem dX11_standOf_213 : decode cX11_standOf 213 = .ok (.iload_n 1, 1) := by decide +kernel
theorem dX11_standOf_214 : decode cX11_standOf 214 = .ok (.iload_n 3, 1) := by decide +kernel
theorem dX11_standOf_215 : decode cX11_standOf 215 = .ok (.invokevirtual 372, 3) := by decide +kernel
theorem dX11_standOf_218 : decode cX11_standOf 218 = .ok (.ifCond .eq 23, 3) := by decide +kernel
theorem dX11_standOf_221 : decode cX11_standOf 221 = .ok (.aload_n 0, 1) := by decide +kernel
theorem dX11_standOf_222 : decode cX11_standOf 222 = .ok (.iload 8, 2) := by decide +kernel
theorem dX11_standOf_224 : decode cX11_standOf 224 = .ok (.iload 6, 2) := by decide +kernel
theorem dX11_standOf_226 : decode cX11_standOf 226 = .ok (.invokevirtual 369, 3) := by decide +kernel
theorem dX11_standOf_229 : decode cX11_standOf 229 = .ok (.ifCond .eq 8, 3) := by decide +kernel
theorem dX11_standOf_232 : decode cX11_standOf 232 = .ok (.iload 6, 2) := by decide +kernel
theorem dX11_standOf_234 : decode cX11_standOf 234 = .ok (.goto 5, 3) := by decide +kernel
theorem dX11_standOf_237 : decode cX11_standOf 237 = .ok (.iload 8, 2) := by decide +kernel
theorem dX11_standOf_239 : decode cX11_standOf 239 = .ok (.istore 6, 2) := by decide +kernel
theorem dX11_standOf_241 : decode cX11_standOf 241 = .ok (.iinc 7 1, 3) := by decide +kernel
theorem dX11_standOf_244 : decode cX11_standOf 244 = .ok (.goto (-213), 3) := by decide +kernel
theorem dX11_standOf_247 : decode cX11_standOf 247 = .ok (.aload_n 0, 1) := by decide +kernel
theorem dX11_standOf_248 : decode cX11_standOf 248 = .ok (.iload 4, 2) := by decide +kernel
theorem dX11_standOf_250 : decode cX11_standOf 250 = .ok (.iconst (-1), 1) := by decide +kernel
theorem dX11_standOf_251 : decode cX11_standOf 251 = .ok (.if_icmp .eq 8, 3) := by decide +kernel
theorem dX11_standOf_254 : decode cX11_standOf 254 = .ok (.iload 4, 2) := by decide +kernel
theorem dX11_standOf_256 : decode cX11_standOf 256 = .ok (.goto 16, 3) := by decide +kernel
theorem dX11_standOf_259 : decode cX11_standOf 259 = .ok (.iload 5, 2) := by decide +kernel
theorem dX11_standOf_261 : decode cX11_standOf 261 = .ok (.iconst (-1), 1) := by decide +kernel
theorem dX11_standOf_262 : decode cX11_standOf 262 = .ok (.if_icmp .eq 8, 3) := by decide +kernel
theorem dX11_standOf_265 : decode cX11_standOf 265 = .ok (.iload 5, 2) := by decide +kernel
theorem dX11_standOf_267 : decode cX11_standOf 267 = .ok (.goto 5, 3) := by decide +kernel
theorem dX11_standOf_270 : decode cX11_standOf 270 = .ok (.iload 6, 2) := by decide +kernel
theorem dX11_standOf_272 : decode cX11_standOf 272 = .ok (.putfield 366, 3) := by decide +kernel
theorem dX11_standOf_275 : decode cX11_standOf 275 = .ok (.iload 4, 2) := by decide +kernel
theorem dX11_standOf_277 : decode cX11_standOf 277 = .ok (.iconst (-1), 1) := by decide +kernel
theorem dX11_standOf_278 : decode cX11_standOf 278 = .ok (.if_icmp .eq 7, 3) := by decide +kernel
theorem dX11_standOf_281 : decode cX11_standOf 281 = .ok (.iconst 3, 1) := by decide +kernel
theorem dX11_standOf_282 : decode cX11_standOf 282 = .ok (.goto 24, 3) := by decide +kernel
theorem dX11_standOf_285 : decode cX11_standOf 285 = .ok (.iload 5, 2) := by decide +kernel
theorem dX11_standOf_287 : decode cX11_standOf 287 = .ok (.iconst (-1), 1) := by decide +kernel
theorem dX11_standOf_288 : decode cX11_standOf 288 = .ok (.if_icmp .eq 7, 3) := by decide +kernel
theorem dX11_standOf_291 : decode cX11_standOf 291 = .ok (.iconst 2, 1) := by decide +kernel
theorem dX11_standOf_292 : decode cX11_standOf 292 = .ok (.goto 14, 3) := by decide +kernel
theorem dX11_standOf_295 : decode cX11_standOf 295 = .ok (.iload 6, 2) := by decide +kernel
theorem dX11_standOf_297 : decode cX11_standOf 297 = .ok (.iconst (-1), 1) := by decide +kernel
theorem dX11_standOf_298 : decode cX11_standOf 298 = .ok (.if_icmp .eq 7, 3) := by decide +kernel
theorem dX11_standOf_301 : decode cX11_standOf 301 = .ok (.iconst 1, 1) := by decide +kernel
theorem dX11_standOf_302 : decode cX11_standOf 302 = .ok (.goto 4, 3) := by decide +kernel
theorem dX11_standOf_305 : decode cX11_standOf 305 = .ok (.iconst 0, 1) := by decide +kernel
theorem dX11_standOf_306 : decode cX11_standOf 306 = .ok (.ireturn, 1) := by decide +kernel
theorem dX11_isAsked_0 : decode cX11_isAsked 0 = .ok (.aload_n 0, 1) := by decide +kernel
theorem dX11_isAsked_1 : decode cX11_isAsked 1 = .ok (.iload_n 1, 1) := by decide +kernel
theorem dX11_isAsked_2 : decode cX11_isAsked 2 = .ok (.invokevirtual 276, 3) := by decide +kernel
theorem dX11_isAsked_5 : decode cX11_isAsked 5 = .ok (.ifCond .eq 29, 3) := by decide +kernel
theorem dX11_isAsked_8 : decode cX11_isAsked 8 = .ok (.iload_n 2, 1) := by decide +kernel
theorem dX11_isAsked_9 : decode cX11_isAsked 9 = .ok (.invokestatic 279, 3) := by decide +kernel
theorem dX11_isAsked_12 : decode cX11_isAsked 12 = .ok (.ifCond .eq 22, 3) := by decide +kernel
theorem dX11_isAsked_15 : decode cX11_isAsked 15 = .ok (.iload_n 3, 1) := by decide +kernel
theorem dX11_isAsked_16 : decode cX11_isAsked 16 = .ok (.invokestatic 296, 3) := by decide +kernel
theorem dX11_isAsked_19 : decode cX11_isAsked 19 = .ok (.ifCond .eq 15, 3) := by decide +kernel
theorem dX11_isAsked_22 : decode cX11_isAsked 22 = .ok (.iload 4, 2) := by decide +kernel
theorem dX11_isAsked_24 : decode cX11_isAsked 24 = .ok (.invokestatic 296, 3) := by decide +kernel
theorem dX11_isAsked_27 : decode cX11_isAsked 27 = .ok (.ifCond .eq 7, 3) := by decide +kernel
theorem dX11_isAsked_30 : decode cX11_isAsked 30 = .ok (.iconst 1, 1) := by decide +kernel
theorem dX11_isAsked_31 : decode cX11_isAsked 31 = .ok (.goto 4, 3) := by decide +kernel
theorem dX11_isAsked_34 : decode cX11_isAsked 34 = .ok (.iconst 0, 1) := by decide +kernel
theorem dX11_isAsked_35 : decode cX11_isAsked 35 = .ok (.ireturn, 1) := by decide +kernel
theorem dX11_stand_0 : decode cX11_stand 0 = .ok (.aload_n 0, 1) := by decide +kernel
theorem dX11_stand_1 : decode cX11_stand 1 = .ok (.iconst 0, 1) := by decide +kernel
theorem dX11_stand_2 : decode cX11_stand 2 = .ok (.putfield 115, 3) := by decide +kernel
theorem dX11_stand_5 : decode cX11_stand 5 = .ok (.aload_n 0, 1) := by decide +kernel
theorem dX11_stand_6 : decode cX11_stand 6 = .ok (.iload_n 1, 1) := by decide +kernel
theorem dX11_stand_7 : decode cX11_stand 7 = .ok (.invokevirtual 273, 3) := by decide +kernel
theorem dX11_stand_10 : decode cX11_stand 10 = .ok (.ifCond .eq 16, 3) := by decide +kernel
theorem dX11_stand_13 : decode cX11_stand 13 = .ok (.aload_n 0, 1) := by decide +kernel
theorem dX11_stand_14 : decode cX11_stand 14 = .ok (.iload_n 2, 1) := by decide +kernel
theorem dX11_stand_15 : decode cX11_stand 15 = .ok (.iload_n 3, 1) := by decide +kernel
theorem dX11_stand_16 : decode cX11_stand 16 = .ok (.iload 4, 2) := by decide +kernel
theorem dX11_stand_18 : decode cX11_stand 18 = .ok (.iload 5, 2) := by decide +kernel
theorem dX11_stand_20 : decode cX11_stand 20 = .ok (.invokevirtual 375, 3) := by decide +kernel
theorem dX11_stand_23 : decode cX11_stand 23 = .ok (.ifCond .ne 5, 3) := by decide +kernel
theorem dX11_stand_26 : decode cX11_stand 26 = .ok (.iconst (-1), 1) := by decide +kernel
theorem dX11_stand_27 : decode cX11_stand 27 = .ok (.ireturn, 1) := by decide +kernel
theorem dX11_stand_28 : decode cX11_stand 28 = .ok (.aload_n 0, 1) := by decide +kernel
theorem dX11_stand_29 : decode cX11_stand 29 = .ok (.iload 5, 2) := by decide +kernel
theorem dX11_stand_31 : decode cX11_stand 31 = .ok (.iconst (-1), 1) := by decide +kernel
theorem dX11_stand_32 : decode cX11_stand 32 = .ok (.invokevirtual 379, 3) := by decide +kernel
theorem dX11_stand_35 : decode cX11_stand 35 = .ok (.aload_n 0, 1) := by decide +kernel
theorem dX11_stand_36 : decode cX11_stand 36 = .ok (.iload 4, 2) := by decide +kernel
theorem dX11_stand_38 : decode cX11_stand 38 = .ok (.invokevirtual 382, 3) := by decide +kernel
theorem dX11_stand_41 : decode cX11_stand 41 = .ok (.aload_n 0, 1) := by decide +kernel
theorem dX11_stand_42 : decode cX11_stand 42 = .ok (.aload_n 0, 1) := by decide +kernel
theorem dX11_stand_43 : decode cX11_stand 43 = .ok (.getfield 91, 3) := by decide +kernel
theorem dX11_stand_46 : decode cX11_stand 46 = .ok (.iload_n 1, 1) := by decide +kernel
theorem dX11_stand_47 : decode cX11_stand 47 = .ok (.iaload, 1) := by decide +kernel
theorem dX11_stand_48 : decode cX11_stand 48 = .ok (.iload_n 2, 1) := by decide +kernel
theorem dX11_stand_49 : decode cX11_stand 49 = .ok (.iload_n 3, 1) := by decide +kernel
theorem dX11_stand_50 : decode cX11_stand 50 = .ok (.invokevirtual 384, 3) := by decide +kernel
theorem dX11_stand_53 : decode cX11_stand 53 = .ok (.ireturn, 1) := by decide +kernel
theorem dX11_lead_0 : decode cX11_lead 0 = .ok (.aload_n 0, 1) := by decide +kernel
theorem dX11_lead_1 : decode cX11_lead 1 = .ok (.iconst 0, 1) := by decide +kernel
theorem dX11_lead_2 : decode cX11_lead 2 = .ok (.putfield 115, 3) := by decide +kernel
theorem dX11_lead_5 : decode cX11_lead 5 = .ok (.aload_n 0, 1) := by decide +kernel
theorem dX11_lead_6 : decode cX11_lead 6 = .ok (.iload_n 1, 1) := by decide +kernel
theorem dX11_lead_7 : decode cX11_lead 7 = .ok (.invokevirtual 273, 3) := by decide +kernel
theorem dX11_lead_10 : decode cX11_lead 10 = .ok (.ifCond .eq 16, 3) := by decide +kernel
theorem dX11_lead_13 : decode cX11_lead 13 = .ok (.aload_n 0, 1) := by decide +kernel
theorem dX11_lead_14 : decode cX11_lead 14 = .ok (.iload_n 2, 1) := by decide +kernel
theorem dX11_lead_15 : decode cX11_lead 15 = .ok (.iload_n 3, 1) := by decide +kernel
theorem dX11_lead_16 : decode cX11_lead 16 = .ok (.iload 4, 2) := by decide +kernel
theorem dX11_lead_18 : decode cX11_lead 18 = .ok (.iload 5, 2) := by decide +kernel
theorem dX11_lead_20 : decode cX11_lead 20 = .ok (.invokevirtual 375, 3) := by decide +kernel
theorem dX11_lead_23 : decode cX11_lead 23 = .ok (.ifCond .ne 5, 3) := by decide +kernel
theorem dX11_lead_26 : decode cX11_lead 26 = .ok (.iconst (-1), 1) := by decide +kernel
theorem dX11_lead_27 : decode cX11_lead 27 = .ok (.ireturn, 1) := by decide +kernel
theorem dX11_lead_28 : decode cX11_lead 28 = .ok (.aload_n 0, 1) := by decide +kernel
theorem dX11_lead_29 : decode cX11_lead 29 = .ok (.iload 5, 2) := by decide +kernel
theorem dX11_lead_31 : decode cX11_lead 31 = .ok (.iconst (-1), 1) := by decide +kernel
theorem dX11_lead_32 : decode cX11_lead 32 = .ok (.invokevirtual 379, 3) := by decide +kernel
theorem dX11_lead_35 : decode cX11_lead 35 = .ok (.aload_n 0, 1) := by decide +kernel
theorem dX11_lead_36 : decode cX11_lead 36 = .ok (.iload 4, 2) := by decide +kernel
theorem dX11_lead_38 : decode cX11_lead 38 = .ok (.invokevirtual 382, 3) := by decide +kernel
theorem dX11_lead_41 : decode cX11_lead 41 = .ok (.aload_n 0, 1) := by decide +kernel
theorem dX11_lead_42 : decode cX11_lead 42 = .ok (.aload_n 0, 1) := by decide +kernel
theorem dX11_lead_43 : decode cX11_lead 43 = .ok (.getfield 91, 3) := by decide +kernel
theorem dX11_lead_46 : decode cX11_lead 46 = .ok (.iload_n 1, 1) := by decide +kernel
theorem dX11_lead_47 : decode cX11_lead 47 = .ok (.iaload, 1) := by decide +kernel
theorem dX11_lead_48 : decode cX11_lead 48 = .ok (.iload_n 2, 1) := by decide +kernel
theorem dX11_lead_49 : decode cX11_lead 49 = .ok (.iload_n 3, 1) := by decide +kernel
theorem dX11_lead_50 : decode cX11_lead 50 = .ok (.invokevirtual 384, 3) := by decide +kernel
theorem dX11_lead_53 : decode cX11_lead 53 = .ok (.pop, 1) := by decide +kernel
theorem dX11_lead_54 : decode cX11_lead 54 = .ok (.aload_n 0, 1) := by decide +kernel
theorem dX11_lead_55 : decode cX11_lead 55 = .ok (.getfield 366, 3) := by decide +kernel
theorem dX11_lead_58 : decode cX11_lead 58 = .ok (.ireturn, 1) := by decide +kernel
theorem dX11_isThere_0 : decode cX11_isThere 0 = .ok (.aload_n 0, 1) := by decide +kernel
theorem dX11_isThere_1 : decode cX11_isThere 1 = .ok (.iload_n 1, 1) := by decide +kernel
theorem dX11_isThere_2 : decode cX11_isThere 2 = .ok (.invokevirtual 285, 3) := by decide +kernel
theorem dX11_isThere_5 : decode cX11_isThere 5 = .ok (.ifCond .eq 26, 3) := by decide +kernel
theorem dX11_isThere_8 : decode cX11_isThere 8 = .ok (.aload_n 0, 1) := by decide +kernel
theorem dX11_isThere_9 : decode cX11_isThere 9 = .ok (.iload_n 2, 1) := by decide +kernel
theorem dX11_isThere_10 : decode cX11_isThere 10 = .ok (.invokevirtual 273, 3) := by decide +kernel
theorem dX11_isThere_13 : decode cX11_isThere 13 = .ok (.ifCond .eq 18, 3) := by decide +kernel
theorem dX11_isThere_16 : decode cX11_isThere 16 = .ok (.iload_n 3, 1) := by decide +kernel
theorem dX11_isThere_17 : decode cX11_isThere 17 = .ok (.invokestatic 296, 3) := by decide +kernel
theorem dX11_isThere_20 : decode cX11_isThere 20 = .ok (.ifCond .eq 11, 3) := by decide +kernel
theorem dX11_isThere_23 : decode cX11_isThere 23 = .ok (.iload 4, 2) := by decide +kernel
theorem dX11_isThere_25 : decode cX11_isThere 25 = .ok (.invokestatic 296, 3) := by decide +kernel
theorem dX11_isThere_28 : decode cX11_isThere 28 = .ok (.ifCond .ne 5, 3) := by decide +kernel
theorem dX11_isThere_31 : decode cX11_isThere 31 = .ok (.iconst 0, 1) := by decide +kernel
theorem dX11_isThere_32 : decode cX11_isThere 32 = .ok (.ireturn, 1) := by decide +kernel
theorem dX11_isThere_33 : decode cX11_isThere 33 = .ok (.aload_n 0, 1) := by decide +kernel
theorem dX11_isThere_34 : decode cX11_isThere 34 = .ok (.iload 4, 2) := by decide +kernel
theorem dX11_isThere_36 : decode cX11_isThere 36 = .ok (.iconst (-1), 1) := by decide +kernel
theorem dX11_isThere_37 : decode cX11_isThere 37 = .ok (.invokevirtual 379, 3) := by decide +kernel
theorem dX11_isThere_40 : decode cX11_isThere 40 = .ok (.aload_n 0, 1) := by decide +kernel
theorem dX11_isThere_41 : decode cX11_isThere 41 = .ok (.iload_n 3, 1) := by decide +kernel
theorem dX11_isThere_42 : decode cX11_isThere 42 = .ok (.invokevirtual 382, 3) := by decide +kernel
theorem dX11_isThere_45 : decode cX11_isThere 45 = .ok (.aload_n 0, 1) := by decide +kernel
theorem dX11_isThere_46 : decode cX11_isThere 46 = .ok (.getfield 100, 3) := by decide +kernel
theorem dX11_isThere_49 : decode cX11_isThere 49 = .ok (.iload_n 1, 1) := by decide +kernel
theorem dX11_isThere_50 : decode cX11_isThere 50 = .ok (.iaload, 1) := by decide +kernel
theorem dX11_isThere_51 : decode cX11_isThere 51 = .ok (.iconst (-1), 1) := by decide +kernel
theorem dX11_isThere_52 : decode cX11_isThere 52 = .ok (.if_icmp .eq 20, 3) := by decide +kernel
theorem dX11_isThere_55 : decode cX11_isThere 55 = .ok (.aload_n 0, 1) := by decide +kernel
theorem dX11_isThere_56 : decode cX11_isThere 56 = .ok (.getfield 100, 3) := by decide +kernel
theorem dX11_isThere_59 : decode cX11_isThere 59 = .ok (.iload_n 1, 1) := by decide +kernel
theorem dX11_isThere_60 : decode cX11_isThere 60 = .ok (.iaload, 1) := by decide +kernel
theorem dX11_isThere_61 : decode cX11_isThere 61 = .ok (.aload_n 0, 1) := by decide +kernel
theorem dX11_isThere_62 : decode cX11_isThere 62 = .ok (.getfield 363, 3) := by decide +kernel
theorem dX11_isThere_65 : decode cX11_isThere 65 = .ok (.if_icmp .ge 7, 3) := by decide +kernel
theorem dX11_isThere_68 : decode cX11_isThere 68 = .ok (.iconst 1, 1) := by decide +kernel
theorem dX11_isThere_69 : decode cX11_isThere 69 = .ok (.goto 4, 3) := by decide +kernel
theorem dX11_isThere_72 : decode cX11_isThere 72 = .ok (.iconst 0, 1) := by decide +kernel
theorem dX11_isThere_73 : decode cX11_isThere 73 = .ok (.ireturn, 1) := by decide +kernel
theorem dX11_asked_0 : decode cX11_asked 0 = .ok (.aload_n 0, 1) := by decide +kernel
theorem dX11_asked_1 : decode cX11_asked 1 = .ok (.iconst 0, 1) := by decide +kernel
theorem dX11_asked_2 : decode cX11_asked 2 = .ok (.putfield 115, 3) := by decide +kernel
theorem dX11_asked_5 : decode cX11_asked 5 = .ok (.iload_n 3, 1) := by decide +kernel
theorem dX11_asked_6 : decode cX11_asked 6 = .ok (.ifCond .lt 22, 3) := by decide +kernel
theorem dX11_asked_9 : decode cX11_asked 9 = .ok (.iload_n 3, 1) := by decide +kernel
theorem dX11_asked_10 : decode cX11_asked 10 = .ok (.bipush 6, 2) := by decide +kernel
theorem dX11_asked_12 : decode cX11_asked 12 = .ok (.if_icmp .gt 16, 3) := by decide +kernel
theorem dX11_asked_15 : decode cX11_asked 15 = .ok (.aload_n 0, 1) := by decide +kernel
theorem dX11_asked_16 : decode cX11_asked 16 = .ok (.iload_n 1, 1) := by decide +kernel
theorem dX11_asked_17 : decode cX11_asked 17 = .ok (.iload_n 2, 1) := by decide +kernel
theorem dX11_asked_18 : decode cX11_asked 18 = .ok (.iload 4, 2) := by decide +kernel
theorem dX11_asked_20 : decode cX11_asked 20 = .ok (.iload 5, 2) := by decide +kernel
theorem dX11_asked_22 : decode cX11_asked 22 = .ok (.invokevirtual 387, 3) := by decide +kernel
theorem dX11_asked_25 : decode cX11_asked 25 = .ok (.ifCond .ne 5, 3) := by decide +kernel
theorem dX11_asked_28 : decode cX11_asked 28 = .ok (.iconst (-1), 1) := by decide +kernel
theorem dX11_asked_29 : decode cX11_asked 29 = .ok (.ireturn, 1) := by decide +kernel
theorem dX11_asked_30 : decode cX11_asked 30 = .ok (.aload_n 0, 1) := by decide +kernel
theorem dX11_asked_31 : decode cX11_asked 31 = .ok (.getfield 91, 3) := by decide +kernel
theorem dX11_asked_34 : decode cX11_asked 34 = .ok (.iload_n 2, 1) := by decide +kernel
theorem dX11_asked_35 : decode cX11_asked 35 = .ok (.iaload, 1) := by decide +kernel
theorem dX11_asked_36 : decode cX11_asked 36 = .ok (.istore 6, 2) := by decide +kernel
theorem dX11_asked_38 : decode cX11_asked 38 = .ok (.iload_n 3, 1) := by decide +kernel
theorem dX11_asked_39 : decode cX11_asked 39 = .ok (.tableswitch 123 0 5 #[37, 51, 69, 85, 97, 111], 37) := by decide +kernel
theorem dX11_asked_76 : decode cX11_asked 76 = .ok (.aload_n 0, 1) := by decide +kernel
theorem dX11_asked_77 : decode cX11_asked 77 = .ok (.iload_n 1, 1) := by decide +kernel
theorem dX11_asked_78 : decode cX11_asked 78 = .ok (.iload 6, 2) := by decide +kernel
theorem dX11_asked_80 : decode cX11_asked 80 = .ok (.aload_n 0, 1) := by decide +kernel
theorem dX11_asked_81 : decode cX11_asked 81 = .ok (.getfield 61, 3) := by decide +kernel
theorem dX11_asked_84 : decode cX11_asked 84 = .ok (.iload_n 1, 1) := by decide +kernel
theorem dX11_asked_85 : decode cX11_asked 85 = .ok (.iaload, 1) := by decide +kernel
theorem dX11_asked_86 : decode cX11_asked 86 = .ok (.invokevirtual 318, 3) := by decide +kernel
theorem dX11_asked_89 : decode cX11_asked 89 = .ok (.ireturn, 1) := by decide +kernel
theorem dX11_asked_90 : decode cX11_asked 90 = .ok (.aload_n 0, 1) := by decide +kernel
theorem dX11_asked_91 : decode cX11_asked 91 = .ok (.iload_n 1, 1) := by decide +kernel
theorem dX11_asked_92 : decode cX11_asked 92 = .ok (.iload 6, 2) := by decide +kernel
theorem dX11_asked_94 : decode cX11_asked 94 = .ok (.aload_n 0, 1) := by decide +kernel
theorem dX11_asked_95 : decode cX11_asked 95 = .ok (.getfield 61, 3) := by decide +kernel
theorem dX11_asked_98 : decode cX11_asked 98 = .ok (.iload_n 1, 1) := by decide +kernel
theorem dX11_asked_99 : decode cX11_asked 99 = .ok (.iaload, 1) := by decide +kernel
theorem dX11_asked_100 : decode cX11_asked 100 = .ok (.invokevirtual 332, 3) := by decide +kernel
theorem dX11_asked_103 : decode cX11_asked 103 = .ok (.invokestatic 244, 3) := by decide +kernel
theorem dX11_asked_106 : decode cX11_asked 106 = .ok (.l2i, 1) := by decide +kernel
theorem dX11_asked_107 : decode cX11_asked 107 = .ok (.ireturn, 1) := by decide +kernel
theorem dX11_asked_108 : decode cX11_asked 108 = .ok (.aload_n 0, 1) := by decide +kernel
theorem dX11_asked_109 : decode cX11_asked 109 = .ok (.iload_n 1, 1) := by decide +kernel
theorem dX11_asked_110 : decode cX11_asked 110 = .ok (.iload 6, 2) := by decide +kernel
theorem dX11_asked_112 : decode cX11_asked 112 = .ok (.aload_n 0, 1) := by decide +kernel
theorem dX11_asked_113 : decode cX11_asked 113 = .ok (.getfield 363, 3) := by decide +kernel
theorem dX11_asked_116 : decode cX11_asked 116 = .ok (.invokevirtual 336, 3) := by decide +kernel
theorem dX11_asked_119 : decode cX11_asked 119 = .ok (.invokestatic 244, 3) := by decide +kernel
theorem dX11_asked_122 : decode cX11_asked 122 = .ok (.l2i, 1) := by decide +kernel
theorem dX11_asked_123 : decode cX11_asked 123 = .ok (.ireturn, 1) := by decide +kernel
theorem dX11_asked_124 : decode cX11_asked 124 = .ok (.aload_n 0, 1) := by decide +kernel
theorem dX11_asked_125 : decode cX11_asked 125 = .ok (.iload_n 1, 1) := by decide +kernel
theorem dX11_asked_126 : decode cX11_asked 126 = .ok (.iload 6, 2) := by decide +kernel
theorem dX11_asked_128 : decode cX11_asked 128 = .ok (.aload_n 0, 1) := by decide +kernel
theorem dX11_asked_129 : decode cX11_asked 129 = .ok (.getfield 363, 3) := by decide +kernel
theorem dX11_asked_132 : decode cX11_asked 132 = .ok (.invokevirtual 322, 3) := by decide +kernel
theorem dX11_asked_135 : decode cX11_asked 135 = .ok (.ireturn, 1) := by decide +kernel
theorem dX11_asked_136 : decode cX11_asked 136 = .ok (.aload_n 0, 1) := by decide +kernel
theorem dX11_asked_137 : decode cX11_asked 137 = .ok (.iload_n 1, 1) := by decide +kernel
theorem dX11_asked_138 : decode cX11_asked 138 = .ok (.iload 6, 2) := by decide +kernel
theorem dX11_asked_140 : decode cX11_asked 140 = .ok (.iload 4, 2) := by decide +kernel
theorem dX11_asked_142 : decode cX11_asked 142 = .ok (.invokevirtual 339, 3) := by decide +kernel
theorem dX11_asked_145 : decode cX11_asked 145 = .ok (.invokestatic 244, 3) := by decide +kernel
theorem dX11_asked_148 : decode cX11_asked 148 = .ok (.l2i, 1) := by decide +kernel
theorem dX11_asked_149 : decode cX11_asked 149 = .ok (.ireturn, 1) := by decide +kernel
theorem dX11_asked_150 : decode cX11_asked 150 = .ok (.aload_n 0, 1) := by decide +kernel
theorem dX11_asked_151 : decode cX11_asked 151 = .ok (.getfield 103, 3) := by decide +kernel
theorem dX11_asked_154 : decode cX11_asked 154 = .ok (.iload_n 1, 1) := by decide +kernel
theorem dX11_asked_155 : decode cX11_asked 155 = .ok (.iaload, 1) := by decide +kernel
theorem dX11_asked_156 : decode cX11_asked 156 = .ok (.iload 6, 2) := by decide +kernel
theorem dX11_asked_158 : decode cX11_asked 158 = .ok (.ishr, 1) := by decide +kernel
theorem dX11_asked_159 : decode cX11_asked 159 = .ok (.iconst 1, 1) := by decide +kernel
theorem dX11_asked_160 : decode cX11_asked 160 = .ok (.iand, 1) := by decide +kernel
theorem dX11_asked_161 : decode cX11_asked 161 = .ok (.ireturn, 1) := by decide +kernel
theorem dX11_asked_162 : decode cX11_asked 162 = .ok (.aload_n 0, 1) := by decide +kernel
theorem dX11_asked_163 : decode cX11_asked 163 = .ok (.getfield 109, 3) := by decide +kernel
theorem dX11_asked_166 : decode cX11_asked 166 = .ok (.iload_n 1, 1) := by decide +kernel
theorem dX11_asked_167 : decode cX11_asked 167 = .ok (.baload, 1) := by decide +kernel
theorem dX11_asked_168 : decode cX11_asked 168 = .ok (.invokestatic 244, 3) := by decide +kernel
