theorem dX10_count_93 : decode cX10_count 93 = .ok (.getfield 234, 3) := by decide +kernel
theorem dX10_count_96 : decode cX10_count 96 = .ok (.ireturn, 1) := by decide +kernel
theorem dX10_count_97 : decode cX10_count 97 = .ok (.iconst (-1), 1) := by decide +kernel
theorem dX10_count_98 : decode cX10_count 98 = .ok (.ireturn, 1) := by decide +kernel
theorem dX10_tapeFour_0 : decode cX10_tapeFour 0 = .ok (.bipush 24, 2) := by decide +kernel
theorem dX10_tapeFour_2 : decode cX10_tapeFour 2 = .ok (.istore_n 2, 1) := by decide +kernel
theorem dX10_tapeFour_3 : decode cX10_tapeFour 3 = .ok (.iload_n 2, 1) := by decide +kernel
theorem dX10_tapeFour_4 : decode cX10_tapeFour 4 = .ok (.ifCond .lt 42, 3) := by decide +kernel
theorem dX10_tapeFour_7 : decode cX10_tapeFour 7 = .ok (.aload_n 0, 1) := by decide +kernel
theorem dX10_tapeFour_8 : decode cX10_tapeFour 8 = .ok (.getfield 81, 3) := by decide +kernel
theorem dX10_tapeFour_11 : decode cX10_tapeFour 11 = .ok (.sipush 400, 3) := by decide +kernel
theorem dX10_tapeFour_14 : decode cX10_tapeFour 14 = .ok (.if_icmp .ge 32, 3) := by decide +kernel
theorem dX10_tapeFour_17 : decode cX10_tapeFour 17 = .ok (.aload_n 0, 1) := by decide +kernel
theorem dX10_tapeFour_18 : decode cX10_tapeFour 18 = .ok (.getfield 9, 3) := by decide +kernel
theorem dX10_tapeFour_21 : decode cX10_tapeFour 21 = .ok (.aload_n 0, 1) := by decide +kernel
theorem dX10_tapeFour_22 : decode cX10_tapeFour 22 = .ok (.getfield 81, 3) := by decide +kernel
theorem dX10_tapeFour_25 : decode cX10_tapeFour 25 = .ok (.iload_n 1, 1) := by decide +kernel
theorem dX10_tapeFour_26 : decode cX10_tapeFour 26 = .ok (.iload_n 2, 1) := by decide +kernel
theorem dX10_tapeFour_27 : decode cX10_tapeFour 27 = .ok (.ishr, 1) := by decide +kernel
theorem dX10_tapeFour_28 : decode cX10_tapeFour 28 = .ok (.i2b, 1) := by decide +kernel
theorem dX10_tapeFour_29 : decode cX10_tapeFour 29 = .ok (.bastore, 1) := by decide +kernel
theorem dX10_tapeFour_30 : decode cX10_tapeFour 30 = .ok (.aload_n 0, 1) := by decide +kernel
theorem dX10_tapeFour_31 : decode cX10_tapeFour 31 = .ok (.dup, 1) := by decide +kernel
theorem dX10_tapeFour_32 : decode cX10_tapeFour 32 = .ok (.getfield 81, 3) := by decide +kernel
theorem dX10_tapeFour_35 : decode cX10_tapeFour 35 = .ok (.iconst 1, 1) := by decide +kernel
theorem dX10_tapeFour_36 : decode cX10_tapeFour 36 = .ok (.iadd, 1) := by decide +kernel
theorem dX10_tapeFour_37 : decode cX10_tapeFour 37 = .ok (.putfield 81, 3) := by decide +kernel
theorem dX10_tapeFour_40 : decode cX10_tapeFour 40 = .ok (.iinc 2 (-8), 3) := by decide +kernel
theorem dX10_tapeFour_43 : decode cX10_tapeFour 43 = .ok (.goto (-40), 3) := by decide +kernel
theorem dX10_tapeFour_46 : decode cX10_tapeFour 46 = .ok (.return_, 1) := by decide +kernel
theorem dX10_isDay_0 : decode cX10_isDay 0 = .ok (.iload_n 0, 1) := by decide +kernel
theorem dX10_isDay_1 : decode cX10_isDay 1 = .ok (.ifCond .lt 14, 3) := by decide +kernel
theorem dX10_isDay_4 : decode cX10_isDay 4 = .ok (.iload_n 0, 1) := by decide +kernel
theorem dX10_isDay_5 : decode cX10_isDay 5 = .ok (.sipush 9999, 3) := by decide +kernel
theorem dX10_isDay_8 : decode cX10_isDay 8 = .ok (.if_icmp .gt 7, 3) := by decide +kernel
theorem dX10_isDay_11 : decode cX10_isDay 11 = .ok (.iconst 1, 1) := by decide +kernel
theorem dX10_isDay_12 : decode cX10_isDay 12 = .ok (.goto 4, 3) := by decide +kernel
theorem dX10_isDay_15 : decode cX10_isDay 15 = .ok (.iconst 0, 1) := by decide +kernel
theorem dX10_isDay_16 : decode cX10_isDay 16 = .ok (.ireturn, 1) := by decide +kernel
theorem dX10_areFacts_0 : decode cX10_areFacts 0 = .ok (.iload_n 0, 1) := by decide +kernel
theorem dX10_areFacts_1 : decode cX10_areFacts 1 = .ok (.ifCond .lt 14, 3) := by decide +kernel
theorem dX10_areFacts_4 : decode cX10_areFacts 4 = .ok (.iload_n 0, 1) := by decide +kernel
theorem dX10_areFacts_5 : decode cX10_areFacts 5 = .ok (.sipush 1023, 3) := by decide +kernel
theorem dX10_areFacts_8 : decode cX10_areFacts 8 = .ok (.if_icmp .gt 7, 3) := by decide +kernel
theorem dX10_areFacts_11 : decode cX10_areFacts 11 = .ok (.iconst 1, 1) := by decide +kernel
theorem dX10_areFacts_12 : decode cX10_areFacts 12 = .ok (.goto 4, 3) := by decide +kernel
theorem dX10_areFacts_15 : decode cX10_areFacts 15 = .ok (.iconst 0, 1) := by decide +kernel
theorem dX10_areFacts_16 : decode cX10_areFacts 16 = .ok (.ireturn, 1) := by decide +kernel
theorem dX10_isCourt_0 : decode cX10_isCourt 0 = .ok (.iload_n 1, 1) := by decide +kernel
theorem dX10_isCourt_1 : decode cX10_isCourt 1 = .ok (.ifCond .lt 18, 3) := by decide +kernel
theorem dX10_isCourt_4 : decode cX10_isCourt 4 = .ok (.iload_n 1, 1) := by decide +kernel
theorem dX10_isCourt_5 : decode cX10_isCourt 5 = .ok (.aload_n 0, 1) := by decide +kernel
theorem dX10_isCourt_6 : decode cX10_isCourt 6 = .ok (.getfield 16, 3) := by decide +kernel
theorem dX10_isCourt_9 : decode cX10_isCourt 9 = .ok (.getfield 229, 3) := by decide +kernel
theorem dX10_isCourt_12 : decode cX10_isCourt 12 = .ok (.if_icmp .ge 7, 3) := by decide +kernel
theorem dX10_isCourt_15 : decode cX10_isCourt 15 = .ok (.iconst 1, 1) := by decide +kernel
theorem dX10_isCourt_16 : decode cX10_isCourt 16 = .ok (.goto 4, 3) := by decide +kernel
theorem dX10_isCourt_19 : decode cX10_isCourt 19 = .ok (.iconst 0, 1) := by decide +kernel
theorem dX10_isCourt_20 : decode cX10_isCourt 20 = .ok (.ireturn, 1) := by decide +kernel
theorem dX10_isPoint_0 : decode cX10_isPoint 0 = .ok (.iload_n 1, 1) := by decide +kernel
theorem dX10_isPoint_1 : decode cX10_isPoint 1 = .ok (.ifCond .lt 18, 3) := by decide +kernel
theorem dX10_isPoint_4 : decode cX10_isPoint 4 = .ok (.iload_n 1, 1) := by decide +kernel
theorem dX10_isPoint_5 : decode cX10_isPoint 5 = .ok (.aload_n 0, 1) := by decide +kernel
theorem dX10_isPoint_6 : decode cX10_isPoint 6 = .ok (.getfield 23, 3) := by decide +kernel
theorem dX10_isPoint_9 : decode cX10_isPoint 9 = .ok (.getfield 113, 3) := by decide +kernel
theorem dX10_isPoint_12 : decode cX10_isPoint 12 = .ok (.if_icmp .ge 7, 3) := by decide +kernel
theorem dX10_isPoint_15 : decode cX10_isPoint 15 = .ok (.iconst 1, 1) := by decide +kernel
theorem dX10_isPoint_16 : decode cX10_isPoint 16 = .ok (.goto 4, 3) := by decide +kernel
theorem dX10_isPoint_19 : decode cX10_isPoint 19 = .ok (.iconst 0, 1) := by decide +kernel
theorem dX10_isPoint_20 : decode cX10_isPoint 20 = .ok (.ireturn, 1) := by decide +kernel
theorem dX10_isCase_0 : decode cX10_isCase 0 = .ok (.iload_n 1, 1) := by decide +kernel
theorem dX10_isCase_1 : decode cX10_isCase 1 = .ok (.ifCond .lt 18, 3) := by decide +kernel
theorem dX10_isCase_4 : decode cX10_isCase 4 = .ok (.iload_n 1, 1) := by decide +kernel
theorem dX10_isCase_5 : decode cX10_isCase 5 = .ok (.aload_n 0, 1) := by decide +kernel
theorem dX10_isCase_6 : decode cX10_isCase 6 = .ok (.getfield 30, 3) := by decide +kernel
theorem dX10_isCase_9 : decode cX10_isCase 9 = .ok (.getfield 230, 3) := by decide +kernel
theorem dX10_isCase_12 : decode cX10_isCase 12 = .ok (.if_icmp .ge 7, 3) := by decide +kernel
theorem dX10_isCase_15 : decode cX10_isCase 15 = .ok (.iconst 1, 1) := by decide +kernel
theorem dX10_isCase_16 : decode cX10_isCase 16 = .ok (.goto 4, 3) := by decide +kernel
theorem dX10_isCase_19 : decode cX10_isCase 19 = .ok (.iconst 0, 1) := by decide +kernel
theorem dX10_isCase_20 : decode cX10_isCase 20 = .ok (.ireturn, 1) := by decide +kernel
theorem dX10_isAskable_0 : decode cX10_isAskable 0 = .ok (.aload_n 0, 1) := by decide +kernel
theorem dX10_isAskable_1 : decode cX10_isAskable 1 = .ok (.iload_n 1, 1) := by decide +kernel
theorem dX10_isAskable_2 : decode cX10_isAskable 2 = .ok (.invokevirtual 127, 3) := by decide +kernel
theorem dX10_isAskable_5 : decode cX10_isAskable 5 = .ok (.ifCond .eq 29, 3) := by decide +kernel
theorem dX10_isAskable_8 : decode cX10_isAskable 8 = .ok (.iload_n 2, 1) := by decide +kernel
theorem dX10_isAskable_9 : decode cX10_isAskable 9 = .ok (.invokestatic 130, 3) := by decide +kernel
theorem dX10_isAskable_12 : decode cX10_isAskable 12 = .ok (.ifCond .eq 22, 3) := by decide +kernel
theorem dX10_isAskable_15 : decode cX10_isAskable 15 = .ok (.iload_n 3, 1) := by decide +kernel
theorem dX10_isAskable_16 : decode cX10_isAskable 16 = .ok (.invokestatic 102, 3) := by decide +kernel
theorem dX10_isAskable_19 : decode cX10_isAskable 19 = .ok (.ifCond .eq 15, 3) := by decide +kernel
theorem dX10_isAskable_22 : decode cX10_isAskable 22 = .ok (.iload 4, 2) := by decide +kernel
theorem dX10_isAskable_24 : decode cX10_isAskable 24 = .ok (.invokestatic 102, 3) := by decide +kernel
theorem dX10_isAskable_27 : decode cX10_isAskable 27 = .ok (.ifCond .eq 7, 3) := by decide +kernel
theorem dX10_isAskable_30 : decode cX10_isAskable 30 = .ok (.iconst 1, 1) := by decide +kernel
theorem dX10_isAskable_31 : decode cX10_isAskable 31 = .ok (.goto 4, 3) := by decide +kernel
theorem dX10_isAskable_34 : decode cX10_isAskable 34 = .ok (.iconst 0, 1) := by decide +kernel
theorem dX10_isAskable_35 : decode cX10_isAskable 35 = .ok (.ireturn, 1) := by decide +kernel
theorem dX10_asNumber_0 : decode cX10_asNumber 0 = .ok (.iload_n 0, 1) := by decide +kernel
theorem dX10_asNumber_1 : decode cX10_asNumber 1 = .ok (.ifCond .eq 7, 3) := by decide +kernel
theorem dX10_asNumber_4 : decode cX10_asNumber 4 = .ok (.iconst 1, 1) := by decide +kernel
theorem dX10_asNumber_5 : decode cX10_asNumber 5 = .ok (.goto 4, 3) := by decide +kernel
theorem dX10_asNumber_8 : decode cX10_asNumber 8 = .ok (.iconst 0, 1) := by decide +kernel
theorem dX10_asNumber_9 : decode cX10_asNumber 9 = .ok (.ireturn, 1) := by decide +kernel
theorem dX10_has_0 : decode cX10_has 0 = .ok (.iload_n 0, 1) := by decide +kernel
theorem dX10_has_1 : decode cX10_has 1 = .ok (.iload_n 1, 1) := by decide +kernel
theorem dX10_has_2 : decode cX10_has 2 = .ok (.iushr, 1) := by decide +kernel
theorem dX10_has_3 : decode cX10_has 3 = .ok (.iconst 1, 1) := by decide +kernel
theorem dX10_has_4 : decode cX10_has 4 = .ok (.iand, 1) := by decide +kernel
theorem dX10_has_5 : decode cX10_has 5 = .ok (.ifCond .eq 7, 3) := by decide +kernel
theorem dX10_has_8 : decode cX10_has 8 = .ok (.iconst 1, 1) := by decide +kernel
theorem dX10_has_9 : decode cX10_has 9 = .ok (.goto 4, 3) := by decide +kernel
theorem dX10_has_12 : decode cX10_has 12 = .ok (.iconst 0, 1) := by decide +kernel
theorem dX10_has_13 : decode cX10_has 13 = .ok (.ireturn, 1) := by decide +kernel
theorem dX10_tellOf_0 : decode cX10_tellOf 0 = .ok (.aload_n 0, 1) := by decide +kernel
theorem dX10_tellOf_1 : decode cX10_tellOf 1 = .ok (.getfield 30, 3) := by decide +kernel
theorem dX10_tellOf_4 : decode cX10_tellOf 4 = .ok (.getfield 218, 3) := by decide +kernel
theorem dX10_tellOf_7 : decode cX10_tellOf 7 = .ok (.iload_n 1, 1) := by decide +kernel
theorem dX10_tellOf_8 : decode cX10_tellOf 8 = .ok (.iaload, 1) := by decide +kernel
theorem dX10_tellOf_9 : decode cX10_tellOf 9 = .ok (.istore 4, 2) := by decide +kernel
theorem dX10_tellOf_11 : decode cX10_tellOf 11 = .ok (.iload_n 3, 1) := by decide +kernel
theorem dX10_tellOf_12 : decode cX10_tellOf 12 = .ok (.tableswitch 120 0 5 #[40, 52, 67, 80, 90, 103], 40) := by decide +kernel
theorem dX10_tellOf_52 : decode cX10_tellOf 52 = .ok (.aload_n 0, 1) := by decide +kernel
theorem dX10_tellOf_53 : decode cX10_tellOf 53 = .ok (.getfield 70, 3) := by decide +kernel
theorem dX10_tellOf_56 : decode cX10_tellOf 56 = .ok (.iload_n 1, 1) := by decide +kernel
theorem dX10_tellOf_57 : decode cX10_tellOf 57 = .ok (.iload_n 2, 1) := by decide +kernel
theorem dX10_tellOf_58 : decode cX10_tellOf 58 = .ok (.iload 4, 2) := by decide +kernel
theorem dX10_tellOf_60 : decode cX10_tellOf 60 = .ok (.invokevirtual 237, 3) := by decide +kernel
theorem dX10_tellOf_63 : decode cX10_tellOf 63 = .ok (.ireturn, 1) := by decide +kernel
theorem dX10_tellOf_64 : decode cX10_tellOf 64 = .ok (.aload_n 0, 1) := by decide +kernel
theorem dX10_tellOf_65 : decode cX10_tellOf 65 = .ok (.getfield 70, 3) := by decide +kernel
theorem dX10_tellOf_68 : decode cX10_tellOf 68 = .ok (.iload_n 1, 1) := by decide +kernel
theorem dX10_tellOf_69 : decode cX10_tellOf 69 = .ok (.iload_n 2, 1) := by decide +kernel
theorem dX10_tellOf_70 : decode cX10_tellOf 70 = .ok (.iload 4, 2) := by decide +kernel
theorem dX10_tellOf_72 : decode cX10_tellOf 72 = .ok (.invokevirtual 240, 3) := by decide +kernel
theorem dX10_tellOf_75 : decode cX10_tellOf 75 = .ok (.invokestatic 183, 3) := by decide +kernel
theorem dX10_tellOf_78 : decode cX10_tellOf 78 = .ok (.ireturn, 1) := by decide +kernel
theorem dX10_tellOf_79 : decode cX10_tellOf 79 = .ok (.aload_n 0, 1) := by decide +kernel
theorem dX10_tellOf_80 : decode cX10_tellOf 80 = .ok (.getfield 70, 3) := by decide +kernel
theorem dX10_tellOf_83 : decode cX10_tellOf 83 = .ok (.iload_n 1, 1) := by decide +kernel
theorem dX10_tellOf_84 : decode cX10_tellOf 84 = .ok (.iload_n 2, 1) := by decide +kernel
theorem dX10_tellOf_85 : decode cX10_tellOf 85 = .ok (.invokevirtual 244, 3) := by decide +kernel
theorem dX10_tellOf_88 : decode cX10_tellOf 88 = .ok (.invokestatic 183, 3) := by decide +kernel
theorem dX10_tellOf_91 : decode cX10_tellOf 91 = .ok (.ireturn, 1) := by decide +kernel
theorem dX10_tellOf_92 : decode cX10_tellOf 92 = .ok (.aload_n 0, 1) := by decide +kernel
theorem dX10_tellOf_93 : decode cX10_tellOf 93 = .ok (.getfield 70, 3) := by decide +kernel
theorem dX10_tellOf_96 : decode cX10_tellOf 96 = .ok (.iload_n 1, 1) := by decide +kernel
theorem dX10_tellOf_97 : decode cX10_tellOf 97 = .ok (.iload_n 2, 1) := by decide +kernel
theorem dX10_tellOf_98 : decode cX10_tellOf 98 = .ok (.invokevirtual 247, 3) := by decide +kernel
theorem dX10_tellOf_101 : decode cX10_tellOf 101 = .ok (.ireturn, 1) := by decide +kernel
theorem dX10_tellOf_102 : decode cX10_tellOf 102 = .ok (.aload_n 0, 1) := by decide +kernel
theorem dX10_tellOf_103 : decode cX10_tellOf 103 = .ok (.getfield 70, 3) := by decide +kernel
theorem dX10_tellOf_106 : decode cX10_tellOf 106 = .ok (.iload_n 1, 1) := by decide +kernel
theorem dX10_tellOf_107 : decode cX10_tellOf 107 = .ok (.iload_n 2, 1) := by decide +kernel
theorem dX10_tellOf_108 : decode cX10_tellOf 108 = .ok (.invokevirtual 250, 3) := by decide +kernel
theorem dX10_tellOf_111 : decode cX10_tellOf 111 = .ok (.invokestatic 183, 3) := by decide +kernel
theorem dX10_tellOf_114 : decode cX10_tellOf 114 = .ok (.ireturn, 1) := by decide +kernel
theorem dX10_tellOf_115 : decode cX10_tellOf 115 = .ok (.aload_n 0, 1) := by decide +kernel
theorem dX10_tellOf_116 : decode cX10_tellOf 116 = .ok (.getfield 70, 3) := by decide +kernel
theorem dX10_tellOf_119 : decode cX10_tellOf 119 = .ok (.getfield 253, 3) := by decide +kernel
theorem dX10_tellOf_122 : decode cX10_tellOf 122 = .ok (.iload_n 1, 1) := by decide +kernel
theorem dX10_tellOf_123 : decode cX10_tellOf 123 = .ok (.iaload, 1) := by decide +kernel
theorem dX10_tellOf_124 : decode cX10_tellOf 124 = .ok (.iload_n 2, 1) := by decide +kernel
theorem dX10_tellOf_125 : decode cX10_tellOf 125 = .ok (.invokestatic 256, 3) := by decide +kernel
theorem dX10_tellOf_128 : decode cX10_tellOf 128 = .ok (.invokestatic 183, 3) := by decide +kernel
theorem dX10_tellOf_131 : decode cX10_tellOf 131 = .ok (.ireturn, 1) := by decide +kernel
theorem dX10_tellOf_132 : decode cX10_tellOf 132 = .ok (.aload_n 0, 1) := by decide +kernel
theorem dX10_tellOf_133 : decode cX10_tellOf 133 = .ok (.getfield 70, 3) := by decide +kernel
theorem dX10_tellOf_136 : decode cX10_tellOf 136 = .ok (.getfield 259, 3) := by decide +kernel
theorem dX10_tellOf_139 : decode cX10_tellOf 139 = .ok (.iload_n 1, 1) := by decide +kernel
theorem dX10_tellOf_140 : decode cX10_tellOf 140 = .ok (.invokestatic 256, 3) := by decide +kernel
theorem dX10_tellOf_143 : decode cX10_tellOf 143 = .ok (.invokestatic 183, 3) := by decide +kernel
theorem dX10_tellOf_146 : decode cX10_tellOf 146 = .ok (.ireturn, 1) := by decide +kernel
theorem dX10_fewestToGiveUp_0 : decode cX10_fewestToGiveUp 0 = .ok (.iload_n 1, 1) := by decide +kernel
theorem dX10_fewestToGiveUp_1 : decode cX10_fewestToGiveUp 1 = .ok (.istore_n 2, 1) := by decide +kernel
theorem dX10_fewestToGiveUp_2 : decode cX10_fewestToGiveUp 2 = .ok (.iload_n 1, 1) := by decide +kernel
theorem dX10_fewestToGiveUp_3 : decode cX10_fewestToGiveUp 3 = .ok (.invokestatic 262, 3) := by decide +kernel
theorem dX10_fewestToGiveUp_6 : decode cX10_fewestToGiveUp 6 = .ok (.istore_n 3, 1) := by decide +kernel
theorem dX10_fewestToGiveUp_7 : decode cX10_fewestToGiveUp 7 = .ok (.iconst 0, 1) := by decide +kernel
theorem dX10_fewestToGiveUp_8 : decode cX10_fewestToGiveUp 8 = .ok (.istore 4, 2) := by decide +kernel
theorem dX10_fewestToGiveUp_10 : decode cX10_fewestToGiveUp 10 = .ok (.iconst 0, 1) := by decide +kernel
theorem dX10_fewestToGiveUp_11 : decode cX10_fewestToGiveUp 11 = .ok (.istore 5, 2) := by decide +kernel
theorem dX10_fewestToGiveUp_13 : decode cX10_fewestToGiveUp 13 = .ok (.iload 5, 2) := by decide +kernel
theorem dX10_fewestToGiveUp_15 : decode cX10_fewestToGiveUp 15 = .ok (.iconst 1, 1) := by decide +kernel
theorem dX10_fewestToGiveUp_16 : decode cX10_fewestToGiveUp 16 = .ok (.aload_n 0, 1) := by decide +kernel
theorem dX10_fewestToGiveUp_17 : decode cX10_fewestToGiveUp 17 = .ok (.getfield 23, 3) := by decide +kernel
theorem dX10_fewestToGiveUp_20 : decode cX10_fewestToGiveUp 20 = .ok (.getfield 113, 3) := by decide +kernel
theorem dX10_fewestToGiveUp_23 : decode cX10_fewestToGiveUp 23 = .ok (.ishl, 1) := by decide +kernel
theorem dX10_fewestToGiveUp_24 : decode cX10_fewestToGiveUp 24 = .ok (.if_icmp .ge 56, 3) := by decide +kernel
theorem dX10_fewestToGiveUp_27 : decode cX10_fewestToGiveUp 27 = .ok (.iload 4, 2) := by decide +kernel
theorem dX10_fewestToGiveUp_29 : decode cX10_fewestToGiveUp 29 = .ok (.invokestatic 262, 3) := by decide +kernel
theorem dX10_fewestToGiveUp_32 : decode cX10_fewestToGiveUp 32 = .ok (.iload_n 3, 1) := by decide +kernel
theorem dX10_fewestToGiveUp_33 : decode cX10_fewestToGiveUp 33 = .ok (.if_icmp .ge 25, 3) := by decide +kernel
theorem dX10_fewestToGiveUp_36 : decode cX10_fewestToGiveUp 36 = .ok (.aload_n 0, 1) := by decide +kernel
theorem dX10_fewestToGiveUp_37 : decode cX10_fewestToGiveUp 37 = .ok (.iload_n 1, 1) := by decide +kernel
theorem dX10_fewestToGiveUp_38 : decode cX10_fewestToGiveUp 38 = .ok (.iload 4, 2) := by decide +kernel
theorem dX10_fewestToGiveUp_40 : decode cX10_fewestToGiveUp 40 = .ok (.iconst (-1), 1) := by decide +kernel
theorem dX10_fewestToGiveUp_41 : decode cX10_fewestToGiveUp 41 = .ok (.ixor, 1) := by decide +kernel
theorem dX10_fewestToGiveUp_42 : decode cX10_fewestToGiveUp 42 = .ok (.iand, 1) := by decide +kernel
theorem dX10_fewestToGiveUp_43 : decode cX10_fewestToGiveUp 43 = .ok (.invokevirtual 267, 3) := by decide +kernel
theorem dX10_fewestToGiveUp_46 : decode cX10_fewestToGiveUp 46 = .ok (.ifCond .eq 12, 3) := by decide +kernel
theorem dX10_fewestToGiveUp_49 : decode cX10_fewestToGiveUp 49 = .ok (.iload 4, 2) := by decide +kernel
theorem dX10_fewestToGiveUp_51 : decode cX10_fewestToGiveUp 51 = .ok (.istore_n 2, 1) := by decide +kernel
theorem dX10_fewestToGiveUp_52 : decode cX10_fewestToGiveUp 52 = .ok (.iload 4, 2) := by decide +kernel
theorem dX10_fewestToGiveUp_54 : decode cX10_fewestToGiveUp 54 = .ok (.invokestatic 262, 3) := by decide +kernel
theorem dX10_fewestToGiveUp_57 : decode cX10_fewestToGiveUp 57 = .ok (.istore_n 3, 1) := by decide +kernel
theorem dX10_fewestToGiveUp_58 : decode cX10_fewestToGiveUp 58 = .ok (.iload 4, 2) := by decide +kernel
theorem dX10_fewestToGiveUp_60 : decode cX10_fewestToGiveUp 60 = .ok (.iload_n 1, 1) := by decide +kernel
theorem dX10_fewestToGiveUp_61 : decode cX10_fewestToGiveUp 61 = .ok (.isub, 1) := by decide +kernel
theorem dX10_fewestToGiveUp_62 : decode cX10_fewestToGiveUp 62 = .ok (.iload_n 1, 1) := by decide +kernel
theorem dX10_fewestToGiveUp_63 : decode cX10_fewestToGiveUp 63 = .ok (.iand, 1) := by decide +kernel
theorem dX10_fewestToGiveUp_64 : decode cX10_fewestToGiveUp 64 = .ok (.istore 4, 2) := by decide +kernel
theorem dX10_fewestToGiveUp_66 : decode cX10_fewestToGiveUp 66 = .ok (.iload 4, 2) := by decide +kernel
theorem dX10_fewestToGiveUp_68 : decode cX10_fewestToGiveUp 68 = .ok (.ifCond .ne 6, 3) := by decide +kernel
theorem dX10_fewestToGiveUp_71 : decode cX10_fewestToGiveUp 71 = .ok (.goto 9, 3) := by decide +kernel
theorem dX10_fewestToGiveUp_74 : decode cX10_fewestToGiveUp 74 = .ok (.iinc 5 1, 3) := by decide +kernel
theorem dX10_fewestToGiveUp_77 : decode cX10_fewestToGiveUp 77 = .ok (.goto (-64), 3) := by decide +kernel
theorem dX10_fewestToGiveUp_80 : decode cX10_fewestToGiveUp 80 = .ok (.iload_n 2, 1) := by decide +kernel
theorem dX10_fewestToGiveUp_81 : decode cX10_fewestToGiveUp 81 = .ok (.ireturn, 1) := by decide +kernel
theorem dX10_areAtPeace_0 : decode cX10_areAtPeace 0 = .ok (.iconst 0, 1) := by decide +kernel
theorem dX10_areAtPeace_1 : decode cX10_areAtPeace 1 = .ok (.istore_n 2, 1) := by decide +kernel
theorem dX10_areAtPeace_2 : decode cX10_areAtPeace 2 = .ok (.iload_n 2, 1) := by decide +kernel
theorem dX10_areAtPeace_3 : decode cX10_areAtPeace 3 = .ok (.aload_n 0, 1) := by decide +kernel
theorem dX10_areAtPeace_4 : decode cX10_areAtPeace 4 = .ok (.getfield 23, 3) := by decide +kernel
theorem dX10_areAtPeace_7 : decode cX10_areAtPeace 7 = .ok (.getfield 113, 3) := by decide +kernel
theorem dX10_areAtPeace_10 : decode cX10_areAtPeace 10 = .ok (.if_icmp .ge 36, 3) := by decide +kernel
theorem dX10_areAtPeace_13 : decode cX10_areAtPeace 13 = .ok (.iload_n 1, 1) := by decide +kernel
theorem dX10_areAtPeace_14 : decode cX10_areAtPeace 14 = .ok (.iload_n 2, 1) := by decide +kernel
theorem dX10_areAtPeace_15 : decode cX10_areAtPeace 15 = .ok (.invokestatic 256, 3) := by decide +kernel
theorem dX10_areAtPeace_18 : decode cX10_areAtPeace 18 = .ok (.ifCond .eq 22, 3) := by decide +kernel
theorem dX10_areAtPeace_21 : decode cX10_areAtPeace 21 = .ok (.aload_n 0, 1) := by decide +kernel
theorem dX10_areAtPeace_22 : decode cX10_areAtPeace 22 = .ok (.getfield 70, 3) := by decide +kernel
theorem dX10_areAtPeace_25 : decode cX10_areAtPeace 25 = .ok (.getfield 160, 3) := by decide +kernel
theorem dX10_areAtPeace_28 : decode cX10_areAtPeace 28 = .ok (.getfield 270, 3) := by decide +kernel
theorem dX10_areAtPeace_31 : decode cX10_areAtPeace 31 = .ok (.iload_n 2, 1) := by decide +kernel
theorem dX10_areAtPeace_32 : decode cX10_areAtPeace 32 = .ok (.iaload, 1) := by decide +kernel
theorem dX10_areAtPeace_33 : decode cX10_areAtPeace 33 = .ok (.iload_n 1, 1) := by decide +kernel
theorem dX10_areAtPeace_34 : decode cX10_areAtPeace 34 = .ok (.iand, 1) := by decide +kernel
theorem dX10_areAtPeace_35 : decode cX10_areAtPeace 35 = .ok (.ifCond .eq 5, 3) := by decide +kernel
theorem dX10_areAtPeace_38 : decode cX10_areAtPeace 38 = .ok (.iconst 0, 1) := by decide +kernel
theorem dX10_areAtPeace_39 : decode cX10_areAtPeace 39 = .ok (.ireturn, 1) := by decide +kernel
theorem dX10_areAtPeace_40 : decode cX10_areAtPeace 40 = .ok (.iinc 2 1, 3) := by decide +kernel
theorem dX10_areAtPeace_43 : decode cX10_areAtPeace 43 = .ok (.goto (-41), 3) := by decide +kernel
theorem dX10_areAtPeace_46 : decode cX10_areAtPeace 46 = .ok (.iconst 1, 1) := by decide +kernel
theorem dX10_areAtPeace_47 : decode cX10_areAtPeace 47 = .ok (.ireturn, 1) := by decide +kernel
theorem dX10_markDifferences_0 : decode cX10_markDifferences 0 = .ok (.aload_n 0, 1) := by decide +kernel
theorem dX10_markDifferences_1 : decode cX10_markDifferences 1 = .ok (.getfield 78, 3) := by decide +kernel
theorem dX10_markDifferences_4 : decode cX10_markDifferences 4 = .ok (.iconst 0, 1) := by decide +kernel
theorem dX10_markDifferences_5 : decode cX10_markDifferences 5 = .ok (.invokestatic 273, 3) := by decide +kernel
theorem dX10_markDifferences_8 : decode cX10_markDifferences 8 = .ok (.iconst 0, 1) := by decide +kernel
theorem dX10_markDifferences_9 : decode cX10_markDifferences 9 = .ok (.istore_n 3, 1) := by decide +kernel
theorem dX10_markDifferences_10 : decode cX10_markDifferences 10 = .ok (.iload_n 3, 1) := by decide +kernel
theorem dX10_markDifferences_11 : decode cX10_markDifferences 11 = .ok (.aload_n 0, 1) := by decide +kernel
theorem dX10_markDifferences_12 : decode cX10_markDifferences 12 = .ok (.getfield 30, 3) := by decide +kernel
theorem dX10_markDifferences_15 : decode cX10_markDifferences 15 = .ok (.getfield 230, 3) := by decide +kernel
theorem dX10_markDifferences_18 : decode cX10_markDifferences 18 = .ok (.if_icmp .ge 124, 3) := by decide +kernel
theorem dX10_markDifferences_21 : decode cX10_markDifferences 21 = .ok (.aload_n 0, 1) := by decide +kernel
theorem dX10_markDifferences_22 : decode cX10_markDifferences 22 = .ok (.getfield 70, 3) := by decide +kernel
theorem dX10_markDifferences_25 : decode cX10_markDifferences 25 = .ok (.iload_n 3, 1) := by decide +kernel
theorem dX10_markDifferences_26 : decode cX10_markDifferences 26 = .ok (.invokevirtual 174, 3) := by decide +kernel
theorem dX10_markDifferences_29 : decode cX10_markDifferences 29 = .ok (.ifCond .eq 107, 3) := by decide +kernel
theorem dX10_markDifferences_32 : decode cX10_markDifferences 32 = .ok (.aload_n 0, 1) := by decide +kernel
theorem dX10_markDifferences_33 : decode cX10_markDifferences 33 = .ok (.getfield 70, 3) := by decide +kernel
theorem dX10_markDifferences_36 : decode cX10_markDifferences 36 = .ok (.iload_n 3, 1) := by decide +kernel
theorem dX10_markDifferences_37 : decode cX10_markDifferences 37 = .ok (.iload_n 1, 1) := by decide +kernel
theorem dX10_markDifferences_38 : decode cX10_markDifferences 38 = .ok (.aload_n 0, 1) := by decide +kernel
theorem dX10_markDifferences_39 : decode cX10_markDifferences 39 = .ok (.getfield 30, 3) := by decide +kernel
theorem dX10_markDifferences_42 : decode cX10_markDifferences 42 = .ok (.getfield 218, 3) := by decide +kernel
theorem dX10_markDifferences_45 : decode cX10_markDifferences 45 = .ok (.iload_n 3, 1) := by decide +kernel
theorem dX10_markDifferences_46 : decode cX10_markDifferences 46 = .ok (.iaload, 1) := by decide +kernel
theorem dX10_markDifferences_47 : decode cX10_markDifferences 47 = .ok (.invokevirtual 240, 3) := by decide +kernel
theorem dX10_markDifferences_50 : decode cX10_markDifferences 50 = .ok (.ifCond .ne 6, 3) := by decide +kernel
theorem dX10_markDifferences_53 : decode cX10_markDifferences 53 = .ok (.goto 83, 3) := by decide +kernel
theorem dX10_markDifferences_56 : decode cX10_markDifferences 56 = .ok (.iconst 0, 1) := by decide +kernel
theorem dX10_markDifferences_57 : decode cX10_markDifferences 57 = .ok (.istore 4, 2) := by decide +kernel
theorem dX10_markDifferences_59 : decode cX10_markDifferences 59 = .ok (.iload 4, 2) := by decide +kernel
theorem dX10_markDifferences_61 : decode cX10_markDifferences 61 = .ok (.aload_n 0, 1) := by decide +kernel
theorem dX10_markDifferences_62 : decode cX10_markDifferences 62 = .ok (.getfield 30, 3) := by decide +kernel
theorem dX10_markDifferences_65 : decode cX10_markDifferences 65 = .ok (.getfield 230, 3) := by decide +kernel
theorem dX10_markDifferences_68 : decode cX10_markDifferences 68 = .ok (.if_icmp .ge 68, 3) := by decide +kernel
theorem dX10_markDifferences_71 : decode cX10_markDifferences 71 = .ok (.aload_n 0, 1) := by decide +kernel
theorem dX10_markDifferences_72 : decode cX10_markDifferences 72 = .ok (.getfield 70, 3) := by decide +kernel
theorem dX10_markDifferences_75 : decode cX10_markDifferences 75 = .ok (.iload 4, 2) := by decide +kernel
theorem dX10_markDifferences_77 : decode cX10_markDifferences 77 = .ok (.invokevirtual 174, 3) := by decide +kernel
theorem dX10_markDifferences_80 : decode cX10_markDifferences 80 = .ok (.ifCond .eq 50, 3) := by decide +kernel
theorem dX10_markDifferences_83 : decode cX10_markDifferences 83 = .ok (.aload_n 0, 1) := by decide +kernel
theorem dX10_markDifferences_84 : decode cX10_markDifferences 84 = .ok (.getfield 70, 3) := by decide +kernel
theorem dX10_markDifferences_87 : decode cX10_markDifferences 87 = .ok (.iload 4, 2) := by decide +kernel
theorem dX10_markDifferences_89 : decode cX10_markDifferences 89 = .ok (.iload_n 2, 1) := by decide +kernel
theorem dX10_markDifferences_90 : decode cX10_markDifferences 90 = .ok (.aload_n 0, 1) := by decide +kernel
theorem dX10_markDifferences_91 : decode cX10_markDifferences 91 = .ok (.getfield 30, 3) := by decide +kernel
theorem dX10_markDifferences_94 : decode cX10_markDifferences 94 = .ok (.getfield 218, 3) := by decide +kernel
theorem dX10_markDifferences_97 : decode cX10_markDifferences 97 = .ok (.iload 4, 2) := by decide +kernel
theorem dX10_markDifferences_99 : decode cX10_markDifferences 99 = .ok (.iaload, 1) := by decide +kernel
theorem dX10_markDifferences_100 : decode cX10_markDifferences 100 = .ok (.invokevirtual 240, 3) := by decide +kernel
theorem dX10_markDifferences_103 : decode cX10_markDifferences 103 = .ok (.ifCond .eq 27, 3) := by decide +kernel
theorem dX10_markDifferences_106 : decode cX10_markDifferences 106 = .ok (.aload_n 0, 1) := by decide +kernel
theorem dX10_markDifferences_107 : decode cX10_markDifferences 107 = .ok (.aload_n 0, 1) := by decide +kernel
theorem dX10_markDifferences_108 : decode cX10_markDifferences 108 = .ok (.getfield 30, 3) := by decide +kernel
theorem dX10_markDifferences_111 : decode cX10_markDifferences 111 = .ok (.getfield 218, 3) := by decide +kernel
theorem dX10_markDifferences_114 : decode cX10_markDifferences 114 = .ok (.iload_n 3, 1) := by decide +kernel
theorem dX10_markDifferences_115 : decode cX10_markDifferences 115 = .ok (.iaload, 1) := by decide +kernel
theorem dX10_markDifferences_116 : decode cX10_markDifferences 116 = .ok (.aload_n 0, 1) := by decide +kernel
theorem dX10_markDifferences_117 : decode cX10_markDifferences 117 = .ok (.getfield 30, 3) := by decide +kernel
theorem dX10_markDifferences_120 : decode cX10_markDifferences 120 = .ok (.getfield 218, 3) := by decide +kernel
theorem dX10_markDifferences_123 : decode cX10_markDifferences 123 = .ok (.iload 4, 2) := by decide +kernel
theorem dX10_markDifferences_125 : decode cX10_markDifferences 125 = .ok (.iaload, 1) := by decide +kernel
theorem dX10_markDifferences_126 : decode cX10_markDifferences 126 = .ok (.ixor, 1) := by decide +kernel
theorem dX10_markDifferences_127 : decode cX10_markDifferences 127 = .ok (.invokevirtual 279, 3) := by decide +kernel
theorem dX10_markDifferences_130 : decode cX10_markDifferences 130 = .ok (.iinc 4 1, 3) := by decide +kernel
theorem dX10_markDifferences_133 : decode cX10_markDifferences 133 = .ok (.goto (-74), 3) := by decide +kernel
theorem dX10_markDifferences_136 : decode cX10_markDifferences 136 = .ok (.iinc 3 1, 3) := by decide +kernel
theorem dX10_markDifferences_139 : decode cX10_markDifferences 139 = .ok (.goto (-129), 3) := by decide +kernel
theorem dX10_markDifferences_142 : decode cX10_markDifferences 142 = .ok (.aload_n 0, 1) := by decide +kernel
theorem dX10_markDifferences_143 : decode cX10_markDifferences 143 = .ok (.invokevirtual 282, 3) := by decide +kernel
theorem dX10_markDifferences_146 : decode cX10_markDifferences 146 = .ok (.return_, 1) := by decide +kernel
theorem dX10_spreadMarks_0 : decode cX10_spreadMarks 0 = .ok (.iconst 0, 1) := by decide +kernel
theorem dX10_spreadMarks_1 : decode cX10_spreadMarks 1 = .ok (.istore_n 1, 1) := by decide +kernel
theorem dX10_spreadMarks_2 : decode cX10_spreadMarks 2 = .ok (.iload_n 1, 1) := by decide +kernel
theorem dX10_spreadMarks_3 : decode cX10_spreadMarks 3 = .ok (.bipush 32, 2) := by decide +kernel
theorem dX10_spreadMarks_5 : decode cX10_spreadMarks 5 = .ok (.if_icmp .ge 47, 3) := by decide +kernel
theorem dX10_spreadMarks_8 : decode cX10_spreadMarks 8 = .ok (.iconst 0, 1) := by decide +kernel
theorem dX10_spreadMarks_9 : decode cX10_spreadMarks 9 = .ok (.istore_n 2, 1) := by decide +kernel
theorem dX10_spreadMarks_10 : decode cX10_spreadMarks 10 = .ok (.iload_n 2, 1) := by decide +kernel
theorem dX10_spreadMarks_11 : decode cX10_spreadMarks 11 = .ok (.iconst 5, 1) := by decide +kernel
theorem dX10_spreadMarks_12 : decode cX10_spreadMarks 12 = .ok (.if_icmp .ge 34, 3) := by decide +kernel
theorem dX10_spreadMarks_15 : decode cX10_spreadMarks 15 = .ok (.aload_n 0, 1) := by decide +kernel
theorem dX10_spreadMarks_16 : decode cX10_spreadMarks 16 = .ok (.getfield 78, 3) := by decide +kernel
theorem dX10_spreadMarks_19 : decode cX10_spreadMarks 19 = .ok (.iload_n 1, 1) := by decide +kernel
theorem dX10_spreadMarks_20 : decode cX10_spreadMarks 20 = .ok (.dup2, 1) := by decide +kernel
theorem dX10_spreadMarks_21 : decode cX10_spreadMarks 21 = .ok (.iaload, 1) := by decide +kernel
theorem dX10_spreadMarks_22 : decode cX10_spreadMarks 22 = .ok (.aload_n 0, 1) := by decide +kernel
theorem dX10_spreadMarks_23 : decode cX10_spreadMarks 23 = .ok (.getfield 78, 3) := by decide +kernel
theorem dX10_spreadMarks_26 : decode cX10_spreadMarks 26 = .ok (.iload_n 1, 1) := by decide +kernel
theorem dX10_spreadMarks_27 : decode cX10_spreadMarks 27 = .ok (.iaload, 1) := by decide +kernel
theorem dX10_spreadMarks_28 : decode cX10_spreadMarks 28 = .ok (.getstatic 285, 3) := by decide +kernel
theorem dX10_spreadMarks_31 : decode cX10_spreadMarks 31 = .ok (.iload_n 2, 1) := by decide +kernel
theorem dX10_spreadMarks_32 : decode cX10_spreadMarks 32 = .ok (.iaload, 1) := by decide +kernel
theorem dX10_spreadMarks_33 : decode cX10_spreadMarks 33 = .ok (.iand, 1) := by decide +kernel
theorem dX10_spreadMarks_34 : decode cX10_spreadMarks 34 = .ok (.iconst 1, 1) := by decide +kernel
theorem dX10_spreadMarks_35 : decode cX10_spreadMarks 35 = .ok (.iload_n 2, 1) := by decide +kernel
theorem dX10_spreadMarks_36 : decode cX10_spreadMarks 36 = .ok (.ishl, 1) := by decide +kernel
theorem dX10_spreadMarks_37 : decode cX10_spreadMarks 37 = .ok (.ishl, 1) := by decide +kernel
theorem dX10_spreadMarks_38 : decode cX10_spreadMarks 38 = .ok (.ior, 1) := by decide +kernel
theorem dX10_spreadMarks_39 : decode cX10_spreadMarks 39 = .ok (.iastore, 1) := by decide +kernel
theorem dX10_spreadMarks_40 : decode cX10_spreadMarks 40 = .ok (.iinc 2 1, 3) := by decide +kernel
theorem dX10_spreadMarks_43 : decode cX10_spreadMarks 43 = .ok (.goto (-33), 3) := by decide +kernel
theorem dX10_spreadMarks_46 : decode cX10_spreadMarks 46 = .ok (.iinc 1 1, 3) := by decide +kernel
theorem dX10_spreadMarks_49 : decode cX10_spreadMarks 49 = .ok (.goto (-47), 3) := by decide +kernel
theorem dX10_spreadMarks_52 : decode cX10_spreadMarks 52 = .ok (.iconst 0, 1) := by decide +kernel
theorem dX10_spreadMarks_53 : decode cX10_spreadMarks 53 = .ok (.istore_n 1, 1) := by decide +kernel
theorem dX10_spreadMarks_54 : decode cX10_spreadMarks 54 = .ok (.iload_n 1, 1) := by decide +kernel
theorem dX10_spreadMarks_55 : decode cX10_spreadMarks 55 = .ok (.iconst 5, 1) := by decide +kernel
theorem dX10_spreadMarks_56 : decode cX10_spreadMarks 56 = .ok (.if_icmp .ge 50, 3) := by decide +kernel
theorem dX10_spreadMarks_59 : decode cX10_spreadMarks 59 = .ok (.iconst 0, 1) := by decide +kernel
theorem dX10_spreadMarks_60 : decode cX10_spreadMarks 60 = .ok (.istore_n 2, 1) := by decide +kernel
theorem dX10_spreadMarks_61 : decode cX10_spreadMarks 61 = .ok (.iload_n 2, 1) := by decide +kernel
theorem dX10_spreadMarks_62 : decode cX10_spreadMarks 62 = .ok (.bipush 32, 2) := by decide +kernel
theorem dX10_spreadMarks_64 : decode cX10_spreadMarks 64 = .ok (.if_icmp .ge 36, 3) := by decide +kernel
theorem dX10_spreadMarks_67 : decode cX10_spreadMarks 67 = .ok (.iload_n 2, 1) := by decide +kernel
theorem dX10_spreadMarks_68 : decode cX10_spreadMarks 68 = .ok (.iload_n 1, 1) := by decide +kernel
theorem dX10_spreadMarks_69 : decode cX10_spreadMarks 69 = .ok (.invokestatic 256, 3) := by decide +kernel
theorem dX10_spreadMarks_72 : decode cX10_spreadMarks 72 = .ok (.ifCond .eq 22, 3) := by decide +kernel
theorem dX10_spreadMarks_75 : decode cX10_spreadMarks 75 = .ok (.aload_n 0, 1) := by decide +kernel
theorem dX10_spreadMarks_76 : decode cX10_spreadMarks 76 = .ok (.getfield 78, 3) := by decide +kernel
theorem dX10_spreadMarks_79 : decode cX10_spreadMarks 79 = .ok (.iload_n 2, 1) := by decide +kernel
theorem dX10_spreadMarks_80 : decode cX10_spreadMarks 80 = .ok (.dup2, 1) := by decide +kernel
theorem dX10_spreadMarks_81 : decode cX10_spreadMarks 81 = .ok (.iaload, 1) := by decide +kernel
theorem dX10_spreadMarks_82 : decode cX10_spreadMarks 82 = .ok (.aload_n 0, 1) := by decide +kernel
theorem dX10_spreadMarks_83 : decode cX10_spreadMarks 83 = .ok (.getfield 78, 3) := by decide +kernel
theorem dX10_spreadMarks_86 : decode cX10_spreadMarks 86 = .ok (.iload_n 2, 1) := by decide +kernel
theorem dX10_spreadMarks_87 : decode cX10_spreadMarks 87 = .ok (.iconst 1, 1) := by decide +kernel
theorem dX10_spreadMarks_88 : decode cX10_spreadMarks 88 = .ok (.iload_n 1, 1) := by decide +kernel
theorem dX10_spreadMarks_89 : decode cX10_spreadMarks 89 = .ok (.ishl, 1) := by decide +kernel
theorem dX10_spreadMarks_90 : decode cX10_spreadMarks 90 = .ok (.ixor, 1) := by decide +kernel
theorem dX10_spreadMarks_91 : decode cX10_spreadMarks 91 = .ok (.iaload, 1) := by decide +kernel
theorem dX10_spreadMarks_92 : decode cX10_spreadMarks 92 = .ok (.ior, 1) := by decide +kernel
theorem dX10_spreadMarks_93 : decode cX10_spreadMarks 93 = .ok (.iastore, 1) := by decide +kernel
theorem dX10_spreadMarks_94 : decode cX10_spreadMarks 94 = .ok (.iinc 2 1, 3) := by decide +kernel
theorem dX10_spreadMarks_97 : decode cX10_spreadMarks 97 = .ok (.goto (-36), 3) := by decide +kernel
theorem dX10_spreadMarks_100 : decode cX10_spreadMarks 100 = .ok (.iinc 1 1, 3) := by decide +kernel
theorem dX10_spreadMarks_103 : decode cX10_spreadMarks 103 = .ok (.goto (-49), 3) := by decide +kernel
theorem dX10_spreadMarks_106 : decode cX10_spreadMarks 106 = .ok (.return_, 1) := by decide +kernel
theorem dX10_mark_0 : decode cX10_mark 0 = .ok (.aload_n 0, 1) := by decide +kernel
theorem dX10_mark_1 : decode cX10_mark 1 = .ok (.getfield 78, 3) := by decide +kernel
theorem dX10_mark_4 : decode cX10_mark 4 = .ok (.iload_n 1, 1) := by decide +kernel
theorem dX10_mark_5 : decode cX10_mark 5 = .ok (.iconst 5, 1) := by decide +kernel
theorem dX10_mark_6 : decode cX10_mark 6 = .ok (.ishr, 1) := by decide +kernel
theorem dX10_mark_7 : decode cX10_mark 7 = .ok (.dup2, 1) := by decide +kernel
theorem dX10_mark_8 : decode cX10_mark 8 = .ok (.iaload, 1) := by decide +kernel
theorem dX10_mark_9 : decode cX10_mark 9 = .ok (.iconst 1, 1) := by decide +kernel
theorem dX10_mark_10 : decode cX10_mark 10 = .ok (.iload_n 1, 1) := by decide +kernel
theorem dX10_mark_11 : decode cX10_mark 11 = .ok (.bipush 31, 2) := by decide +kernel
theorem dX10_mark_13 : decode cX10_mark 13 = .ok (.iand, 1) := by decide +kernel
theorem dX10_mark_14 : decode cX10_mark 14 = .ok (.ishl, 1) := by decide +kernel
theorem dX10_mark_15 : decode cX10_mark 15 = .ok (.ior, 1) := by decide +kernel
theorem dX10_mark_16 : decode cX10_mark 16 = .ok (.iastore, 1) := by decide +kernel
theorem dX10_mark_17 : decode cX10_mark 17 = .ok (.return_, 1) := by decide +kernel
theorem dX10_isMarked_0 : decode cX10_isMarked 0 = .ok (.aload_n 0, 1) := by decide +kernel
theorem dX10_isMarked_1 : decode cX10_isMarked 1 = .ok (.getfield 78, 3) := by decide +kernel
theorem dX10_isMarked_4 : decode cX10_isMarked 4 = .ok (.iload_n 1, 1) := by decide +kernel
theorem dX10_isMarked_5 : decode cX10_isMarked 5 = .ok (.iconst 5, 1) := by decide +kernel
theorem dX10_isMarked_6 : decode cX10_isMarked 6 = .ok (.ishr, 1) := by decide +kernel
theorem dX10_isMarked_7 : decode cX10_isMarked 7 = .ok (.iaload, 1) := by decide +kernel
theorem dX10_isMarked_8 : decode cX10_isMarked 8 = .ok (.iload_n 1, 1) := by decide +kernel
theorem dX10_isMarked_9 : decode cX10_isMarked 9 = .ok (.bipush 31, 2) := by decide +kernel
theorem dX10_isMarked_11 : decode cX10_isMarked 11 = .ok (.iand, 1) := by decide +kernel
theorem dX10_isMarked_12 : decode cX10_isMarked 12 = .ok (.invokestatic 256, 3) := by decide +kernel
theorem dX10_isMarked_15 : decode cX10_isMarked 15 = .ok (.ireturn, 1) := by decide +kernel
theorem dX10_fewestThatTell_0 : decode cX10_fewestThatTell 0 = .ok (.aload_n 0, 1) := by decide +kernel
theorem dX10_fewestThatTell_1 : decode cX10_fewestThatTell 1 = .ok (.iconst 0, 1) := by decide +kernel
theorem dX10_fewestThatTell_2 : decode cX10_fewestThatTell 2 = .ok (.invokevirtual 288, 3) := by decide +kernel
theorem dX10_fewestThatTell_5 : decode cX10_fewestThatTell 5 = .ok (.ifCond .eq 5, 3) := by decide +kernel
theorem dX10_fewestThatTell_8 : decode cX10_fewestThatTell 8 = .ok (.iconst (-1), 1) := by decide +kernel
theorem dX10_fewestThatTell_9 : decode cX10_fewestThatTell 9 = .ok (.ireturn, 1) := by decide +kernel
theorem dX10_fewestThatTell_10 : decode cX10_fewestThatTell 10 = .ok (.sipush 1023, 3) := by decide +kernel
theorem dX10_fewestThatTell_13 : decode cX10_fewestThatTell 13 = .ok (.istore_n 1, 1) := by decide +kernel
theorem dX10_fewestThatTell_14 : decode cX10_fewestThatTell 14 = .ok (.bipush 10, 2) := by decide +kernel
theorem dX10_fewestThatTell_16 : decode cX10_fewestThatTell 16 = .ok (.istore_n 2, 1) := by decide +kernel
theorem dX10_fewestThatTell_17 : decode cX10_fewestThatTell 17 = .ok (.iconst 0, 1) := by decide +kernel
theorem dX10_fewestThatTell_18 : decode cX10_fewestThatTell 18 = .ok (.istore_n 3, 1) := by decide +kernel
theorem dX10_fewestThatTell_19 : decode cX10_fewestThatTell 19 = .ok (.iload_n 3, 1) := by decide +kernel
theorem dX10_fewestThatTell_20 : decode cX10_fewestThatTell 20 = .ok (.sipush 1023, 3) := by decide +kernel
theorem dX10_fewestThatTell_23 : decode cX10_fewestThatTell 23 = .ok (.if_icmp .ge 38, 3) := by decide +kernel
theorem dX10_fewestThatTell_26 : decode cX10_fewestThatTell 26 = .ok (.iload_n 3, 1) := by decide +kernel
theorem dX10_fewestThatTell_27 : decode cX10_fewestThatTell 27 = .ok (.invokestatic 262, 3) := by decide +kernel
theorem dX10_fewestThatTell_30 : decode cX10_fewestThatTell 30 = .ok (.iload_n 2, 1) := by decide +kernel
theorem dX10_fewestThatTell_31 : decode cX10_fewestThatTell 31 = .ok (.if_icmp .ge 24, 3) := by decide +kernel
theorem dX10_fewestThatTell_34 : decode cX10_fewestThatTell 34 = .ok (.aload_n 0, 1) := by decide +kernel
theorem dX10_fewestThatTell_35 : decode cX10_fewestThatTell 35 = .ok (.sipush 1023, 3) := by decide +kernel
theorem dX10_fewestThatTell_38 : decode cX10_fewestThatTell 38 = .ok (.iload_n 3, 1) := by decide +kernel
theorem dX10_fewestThatTell_39 : decode cX10_fewestThatTell 39 = .ok (.iconst (-1), 1) := by decide +kernel
theorem dX10_fewestThatTell_40 : decode cX10_fewestThatTell 40 = .ok (.ixor, 1) := by decide +kernel
theorem dX10_fewestThatTell_41 : decode cX10_fewestThatTell 41 = .ok (.iand, 1) := by decide +kernel
theorem dX10_fewestThatTell_42 : decode cX10_fewestThatTell 42 = .ok (.invokevirtual 288, 3) := by decide +kernel
theorem dX10_fewestThatTell_45 : decode cX10_fewestThatTell 45 = .ok (.ifCond .ne 10, 3) := by decide +kernel
theorem dX10_fewestThatTell_48 : decode cX10_fewestThatTell 48 = .ok (.iload_n 3, 1) := by decide +kernel
theorem dX10_fewestThatTell_49 : decode cX10_fewestThatTell 49 = .ok (.istore_n 1, 1) := by decide +kernel
theorem dX10_fewestThatTell_50 : decode cX10_fewestThatTell 50 = .ok (.iload_n 3, 1) := by decide +kernel
theorem dX10_fewestThatTell_51 : decode cX10_fewestThatTell 51 = .ok (.invokestatic 262, 3) := by decide +kernel
theorem dX10_fewestThatTell_54 : decode cX10_fewestThatTell 54 = .ok (.istore_n 2, 1) := by decide +kernel
theorem dX10_fewestThatTell_55 : decode cX10_fewestThatTell 55 = .ok (.iinc 3 1, 3) := by decide +kernel
theorem dX10_fewestThatTell_58 : decode cX10_fewestThatTell 58 = .ok (.goto (-39), 3) := by decide +kernel
theorem dX10_fewestThatTell_61 : decode cX10_fewestThatTell 61 = .ok (.iload_n 1, 1) := by decide +kernel
theorem dX10_fewestThatTell_62 : decode cX10_fewestThatTell 62 = .ok (.ireturn, 1) := by decide +kernel
theorem dX11_init_0 : decode cX11_init 0 = .ok (.aload_n 0, 1) := by decide +kernel
theorem dX11_init_1 : decode cX11_init 1 = .ok (.invokespecial 1, 3) := by decide +kernel
theorem dX11_init_4 : decode cX11_init 4 = .ok (.aload_n 0, 1) := by decide +kernel
theorem dX11_init_5 : decode cX11_init 5 = .ok (.sipush 400, 3) := by decide +kernel
theorem dX11_init_8 : decode cX11_init 8 = .ok (.newarray .int, 2) := by decide +kernel
theorem dX11_init_10 : decode cX11_init 10 = .ok (.putfield 7, 3) := by decide +kernel
theorem dX11_init_13 : decode cX11_init 13 = .ok (.aload_n 0, 1) := by decide +kernel
theorem dX11_init_14 : decode cX11_init 14 = .ok (.sipush 256, 3) := by decide +kernel
theorem dX11_init_17 : decode cX11_init 17 = .ok (.newarray .int, 2) := by decide +kernel
theorem dX11_init_19 : decode cX11_init 19 = .ok (.putfield 13, 3) := by decide +kernel
theorem dX11_init_22 : decode cX11_init 22 = .ok (.aload_n 0, 1) := by decide +kernel
theorem dX11_init_23 : decode cX11_init 23 = .ok (.sipush 256, 3) := by decide +kernel
theorem dX11_init_26 : decode cX11_init 26 = .ok (.newarray .int, 2) := by decide +kernel
theorem dX11_init_28 : decode cX11_init 28 = .ok (.putfield 16, 3) := by decide +kernel
theorem dX11_init_31 : decode cX11_init 31 = .ok (.aload_n 0, 1) := by decide +kernel
theorem dX11_init_32 : decode cX11_init 32 = .ok (.iconst 4, 1) := by decide +kernel
theorem dX11_init_33 : decode cX11_init 33 = .ok (.newarray .int, 2) := by decide +kernel
theorem dX11_init_35 : decode cX11_init 35 = .ok (.putfield 19, 3) := by decide +kernel
theorem dX11_init_38 : decode cX11_init 38 = .ok (.aload_n 0, 1) := by decide +kernel
theorem dX11_init_39 : decode cX11_init 39 = .ok (.iconst 4, 1) := by decide +kernel
theorem dX11_init_40 : decode cX11_init 40 = .ok (.newarray .boolean, 2) := by decide +kernel
theorem dX11_init_42 : decode cX11_init 42 = .ok (.putfield 22, 3) := by decide +kernel
theorem dX11_init_45 : decode cX11_init 45 = .ok (.aload_n 0, 1) := by decide +kernel
theorem dX11_init_46 : decode cX11_init 46 = .ok (.iconst 2, 1) := by decide +kernel
theorem dX11_init_47 : decode cX11_init 47 = .ok (.putfield 26, 3) := by decide +kernel
theorem dX11_init_50 : decode cX11_init 50 = .ok (.aload_n 0, 1) := by decide +kernel
theorem dX11_init_51 : decode cX11_init 51 = .ok (.iconst (-1), 1) := by decide +kernel
theorem dX11_init_52 : decode cX11_init 52 = .ok (.putfield 30, 3) := by decide +kernel
theorem dX11_init_55 : decode cX11_init 55 = .ok (.aload_n 0, 1) := by decide +kernel
theorem dX11_init_56 : decode cX11_init 56 = .ok (.bipush 96, 2) := by decide +kernel
theorem dX11_init_58 : decode cX11_init 58 = .ok (.newarray .int, 2) := by decide +kernel
theorem dX11_init_60 : decode cX11_init 60 = .ok (.putfield 33, 3) := by decide +kernel
theorem dX11_init_63 : decode cX11_init 63 = .ok (.aload_n 0, 1) := by decide +kernel
theorem dX11_init_64 : decode cX11_init 64 = .ok (.bipush 8, 2) := by decide +kernel
theorem dX11_init_66 : decode cX11_init 66 = .ok (.newarray .long, 2) := by decide +kernel
theorem dX11_init_68 : decode cX11_init 68 = .ok (.putfield 36, 3) := by decide +kernel
theorem dX11_init_71 : decode cX11_init 71 = .ok (.aload_n 0, 1) := by decide +kernel
theorem dX11_init_72 : decode cX11_init 72 = .ok (.bipush 72, 2) := by decide +kernel
theorem dX11_init_74 : decode cX11_init 74 = .ok (.newarray .long, 2) := by decide +kernel
theorem dX11_init_76 : decode cX11_init 76 = .ok (.putfield 40, 3) := by decide +kernel
theorem dX11_init_79 : decode cX11_init 79 = .ok (.aload_n 0, 1) := by decide +kernel
theorem dX11_init_80 : decode cX11_init 80 = .ok (.bipush 6, 2) := by decide +kernel
theorem dX11_init_82 : decode cX11_init 82 = .ok (.newarray .int, 2) := by decide +kernel
theorem dX11_init_84 : decode cX11_init 84 = .ok (.putfield 43, 3) := by decide +kernel
theorem dX11_init_87 : decode cX11_init 87 = .ok (.aload_n 0, 1) := by decide +kernel
theorem dX11_init_88 : decode cX11_init 88 = .ok (.bipush 6, 2) := by decide +kernel
theorem dX11_init_90 : decode cX11_init 90 = .ok (.newarray .int, 2) := by decide +kernel
theorem dX11_init_92 : decode cX11_init 92 = .ok (.putfield 46, 3) := by decide +kernel
theorem dX11_init_95 : decode cX11_init 95 = .ok (.aload_n 0, 1) := by decide +kernel
theorem dX11_init_96 : decode cX11_init 96 = .ok (.bipush 12, 2) := by decide +kernel
theorem dX11_init_98 : decode cX11_init 98 = .ok (.newarray .int, 2) := by decide +kernel
theorem dX11_init_100 : decode cX11_init 100 = .ok (.putfield 49, 3) := by decide +kernel
theorem dX11_init_103 : decode cX11_init 103 = .ok (.aload_n 0, 1) := by decide +kernel
theorem dX11_init_104 : decode cX11_init 104 = .ok (.bipush 32, 2) := by decide +kernel
theorem dX11_init_106 : decode cX11_init 106 = .ok (.newarray .int, 2) := by decide +kernel
theorem dX11_init_108 : decode cX11_init 108 = .ok (.putfield 52, 3) := by decide +kernel
theorem dX11_init_111 : decode cX11_init 111 = .ok (.aload_n 0, 1) := by decide +kernel
theorem dX11_init_112 : decode cX11_init 112 = .ok (.bipush 32, 2) := by decide +kernel
theorem dX11_init_114 : decode cX11_init 114 = .ok (.newarray .int, 2) := by decide +kernel
theorem dX11_init_116 : decode cX11_init 116 = .ok (.putfield 55, 3) := by decide +kernel
theorem dX11_init_119 : decode cX11_init 119 = .ok (.aload_n 0, 1) := by decide +kernel
theorem dX11_init_120 : decode cX11_init 120 = .ok (.bipush 32, 2) := by decide +kernel
theorem dX11_init_122 : decode cX11_init 122 = .ok (.newarray .int, 2) := by decide +kernel
theorem dX11_init_124 : decode cX11_init 124 = .ok (.putfield 58, 3) := by decide +kernel
theorem dX11_init_127 : decode cX11_init 127 = .ok (.aload_n 0, 1) := by decide +kernel
theorem dX11_init_128 : decode cX11_init 128 = .ok (.bipush 32, 2) := by decide +kernel
theorem dX11_init_130 : decode cX11_init 130 = .ok (.newarray .int, 2) := by decide +kernel
theorem dX11_init_132 : decode cX11_init 132 = .ok (.putfield 61, 3) := by decide +kernel
theorem dX11_init_135 : decode cX11_init 135 = .ok (.aload_n 0, 1) := by decide +kernel
theorem dX11_init_136 : decode cX11_init 136 = .ok (.bipush 32, 2) := by decide +kernel
theorem dX11_init_138 : decode cX11_init 138 = .ok (.newarray .int, 2) := by decide +kernel
theorem dX11_init_140 : decode cX11_init 140 = .ok (.putfield 64, 3) := by decide +kernel
theorem dX11_init_143 : decode cX11_init 143 = .ok (.aload_n 0, 1) := by decide +kernel
theorem dX11_init_144 : decode cX11_init 144 = .ok (.bipush 120, 2) := by decide +kernel
theorem dX11_init_146 : decode cX11_init 146 = .ok (.newarray .int, 2) := by decide +kernel
theorem dX11_init_148 : decode cX11_init 148 = .ok (.putfield 67, 3) := by decide +kernel
theorem dX11_init_151 : decode cX11_init 151 = .ok (.aload_n 0, 1) := by decide +kernel
theorem dX11_init_152 : decode cX11_init 152 = .ok (.bipush 120, 2) := by decide +kernel
theorem dX11_init_154 : decode cX11_init 154 = .ok (.newarray .int, 2) := by decide +kernel
theorem dX11_init_156 : decode cX11_init 156 = .ok (.putfield 70, 3) := by decide +kernel
theorem dX11_init_159 : decode cX11_init 159 = .ok (.aload_n 0, 1) := by decide +kernel
theorem dX11_init_160 : decode cX11_init 160 = .ok (.bipush 120, 2) := by decide +kernel
theorem dX11_init_162 : decode cX11_init 162 = .ok (.newarray .int, 2) := by decide +kernel
theorem dX11_init_164 : decode cX11_init 164 = .ok (.putfield 73, 3) := by decide +kernel
theorem dX11_init_167 : decode cX11_init 167 = .ok (.aload_n 0, 1) := by decide +kernel
theorem dX11_init_168 : decode cX11_init 168 = .ok (.bipush 120, 2) := by decide +kernel
theorem dX11_init_170 : decode cX11_init 170 = .ok (.newarray .int, 2) := by decide +kernel
theorem dX11_init_172 : decode cX11_init 172 = .ok (.putfield 76, 3) := by decide +kernel
theorem dX11_init_175 : decode cX11_init 175 = .ok (.aload_n 0, 1) := by decide +kernel
theorem dX11_init_176 : decode cX11_init 176 = .ok (.bipush 120, 2) := by decide +kernel
theorem dX11_init_178 : decode cX11_init 178 = .ok (.newarray .int, 2) := by decide +kernel
theorem dX11_init_180 : decode cX11_init 180 = .ok (.putfield 79, 3) := by decide +kernel
theorem dX11_init_183 : decode cX11_init 183 = .ok (.aload_n 0, 1) := by decide +kernel
theorem dX11_init_184 : decode cX11_init 184 = .ok (.bipush 120, 2) := by decide +kernel
theorem dX11_init_186 : decode cX11_init 186 = .ok (.newarray .int, 2) := by decide +kernel
theorem dX11_init_188 : decode cX11_init 188 = .ok (.putfield 82, 3) := by decide +kernel
theorem dX11_init_191 : decode cX11_init 191 = .ok (.aload_n 0, 1) := by decide +kernel
theorem dX11_init_192 : decode cX11_init 192 = .ok (.bipush 120, 2) := by decide +kernel
theorem dX11_init_194 : decode cX11_init 194 = .ok (.newarray .boolean, 2) := by decide +kernel
theorem dX11_init_196 : decode cX11_init 196 = .ok (.putfield 85, 3) := by decide +kernel
theorem dX11_init_199 : decode cX11_init 199 = .ok (.aload_n 0, 1) := by decide +kernel
theorem dX11_init_200 : decode cX11_init 200 = .ok (.bipush 120, 2) := by decide +kernel
theorem dX11_init_202 : decode cX11_init 202 = .ok (.newarray .boolean, 2) := by decide +kernel
theorem dX11_init_204 : decode cX11_init 204 = .ok (.putfield 88, 3) := by decide +kernel
theorem dX11_init_207 : decode cX11_init 207 = .ok (.aload_n 0, 1) := by decide +kernel
theorem dX11_init_208 : decode cX11_init 208 = .ok (.bipush 12, 2) := by decide +kernel
theorem dX11_init_210 : decode cX11_init 210 = .ok (.newarray .int, 2) := by decide +kernel
theorem dX11_init_212 : decode cX11_init 212 = .ok (.putfield 91, 3) := by decide +kernel
theorem dX11_init_215 : decode cX11_init 215 = .ok (.aload_n 0, 1) := by decide +kernel
theorem dX11_init_216 : decode cX11_init 216 = .ok (.bipush 12, 2) := by decide +kernel
theorem dX11_init_218 : decode cX11_init 218 = .ok (.newarray .int, 2) := by decide +kernel
theorem dX11_init_220 : decode cX11_init 220 = .ok (.putfield 94, 3) := by decide +kernel
theorem dX11_init_223 : decode cX11_init 223 = .ok (.aload_n 0, 1) := by decide +kernel
theorem dX11_init_224 : decode cX11_init 224 = .ok (.bipush 32, 2) := by decide +kernel
theorem dX11_init_226 : decode cX11_init 226 = .ok (.newarray .int, 2) := by decide +kernel
theorem dX11_init_228 : decode cX11_init 228 = .ok (.putfield 97, 3) := by decide +kernel
theorem dX11_init_231 : decode cX11_init 231 = .ok (.aload_n 0, 1) := by decide +kernel
theorem dX11_init_232 : decode cX11_init 232 = .ok (.bipush 32, 2) := by decide +kernel
theorem dX11_init_234 : decode cX11_init 234 = .ok (.newarray .int, 2) := by decide +kernel
theorem dX11_init_236 : decode cX11_init 236 = .ok (.putfield 100, 3) := by decide +kernel
theorem dX11_init_239 : decode cX11_init 239 = .ok (.aload_n 0, 1) := by decide +kernel
theorem dX11_init_240 : decode cX11_init 240 = .ok (.bipush 32, 2) := by decide +kernel
theorem dX11_init_242 : decode cX11_init 242 = .ok (.newarray .int, 2) := by decide +kernel
theorem dX11_init_244 : decode cX11_init 244 = .ok (.putfield 103, 3) := by decide +kernel
theorem dX11_init_247 : decode cX11_init 247 = .ok (.aload_n 0, 1) := by decide +kernel
theorem dX11_init_248 : decode cX11_init 248 = .ok (.bipush 32, 2) := by decide +kernel
theorem dX11_init_250 : decode cX11_init 250 = .ok (.newarray .int, 2) := by decide +kernel
theorem dX11_init_252 : decode cX11_init 252 = .ok (.putfield 106, 3) := by decide +kernel
theorem dX11_init_255 : decode cX11_init 255 = .ok (.aload_n 0, 1) := by decide +kernel
theorem dX11_init_256 : decode cX11_init 256 = .ok (.bipush 32, 2) := by decide +kernel
theorem dX11_init_258 : decode cX11_init 258 = .ok (.newarray .boolean, 2) := by decide +kernel
theorem dX11_init_260 : decode cX11_init 260 = .ok (.putfield 109, 3) := by decide +kernel
theorem dX11_init_263 : decode cX11_init 263 = .ok (.aload_n 0, 1) := by decide +kernel
theorem dX11_init_264 : decode cX11_init 264 = .ok (.bipush 12, 2) := by decide +kernel
theorem dX11_init_266 : decode cX11_init 266 = .ok (.newarray .int, 2) := by decide +kernel
theorem dX11_init_268 : decode cX11_init 268 = .ok (.putfield 112, 3) := by decide +kernel
theorem dX11_init_271 : decode cX11_init 271 = .ok (.return_, 1) := by decide +kernel
theorem dX11_thrown_0 : decode cX11_thrown 0 = .ok (.aload_n 0, 1) := by decide +kernel
theorem dX11_thrown_1 : decode cX11_thrown 1 = .ok (.getfield 115, 3) := by decide +kernel
theorem dX11_thrown_4 : decode cX11_thrown 4 = .ok (.ireturn, 1) := by decide +kernel
theorem dX11_feed_0 : decode cX11_feed 0 = .ok (.aload_n 0, 1) := by decide +kernel
theorem dX11_feed_1 : decode cX11_feed 1 = .ok (.iconst 0, 1) := by decide +kernel
theorem dX11_feed_2 : decode cX11_feed 2 = .ok (.putfield 115, 3) := by decide +kernel
theorem dX11_feed_5 : decode cX11_feed 5 = .ok (.aload_n 0, 1) := by decide +kernel
theorem dX11_feed_6 : decode cX11_feed 6 = .ok (.getfield 118, 3) := by decide +kernel
theorem dX11_feed_9 : decode cX11_feed 9 = .ok (.sipush 380, 3) := by decide +kernel
theorem dX11_feed_12 : decode cX11_feed 12 = .ok (.if_icmp .le 5, 3) := by decide +kernel
theorem dX11_feed_15 : decode cX11_feed 15 = .ok (.iconst (-1), 1) := by decide +kernel
theorem dX11_feed_16 : decode cX11_feed 16 = .ok (.ireturn, 1) := by decide +kernel
theorem dX11_feed_17 : decode cX11_feed 17 = .ok (.iconst 0, 1) := by decide +kernel
theorem dX11_feed_18 : decode cX11_feed 18 = .ok (.istore 6, 2) := by decide +kernel
theorem dX11_feed_20 : decode cX11_feed 20 = .ok (.iload 6, 2) := by decide +kernel
theorem dX11_feed_22 : decode cX11_feed 22 = .ok (.bipush 20, 2) := by decide +kernel
theorem dX11_feed_24 : decode cX11_feed 24 = .ok (.if_icmp .ge 86, 3) := by decide +kernel
theorem dX11_feed_27 : decode cX11_feed 27 = .ok (.iload 6, 2) := by decide +kernel
theorem dX11_feed_29 : decode cX11_feed 29 = .ok (.iconst 4, 1) := by decide +kernel
theorem dX11_feed_30 : decode cX11_feed 30 = .ok (.if_icmp .ge 7, 3) := by decide +kernel
theorem dX11_feed_33 : decode cX11_feed 33 = .ok (.iload_n 1, 1) := by decide +kernel
theorem dX11_feed_34 : decode cX11_feed 34 = .ok (.goto 39, 3) := by decide +kernel
theorem dX11_feed_37 : decode cX11_feed 37 = .ok (.iload 6, 2) := by decide +kernel
theorem dX11_feed_39 : decode cX11_feed 39 = .ok (.bipush 8, 2) := by decide +kernel
theorem dX11_feed_41 : decode cX11_feed 41 = .ok (.if_icmp .ge 7, 3) := by decide +kernel
theorem dX11_feed_44 : decode cX11_feed 44 = .ok (.iload_n 2, 1) := by decide +kernel
theorem dX11_feed_45 : decode cX11_feed 45 = .ok (.goto 28, 3) := by decide +kernel
theorem dX11_feed_48 : decode cX11_feed 48 = .ok (.iload 6, 2) := by decide +kernel
theorem dX11_feed_50 : decode cX11_feed 50 = .ok (.bipush 12, 2) := by decide +kernel
theorem dX11_feed_52 : decode cX11_feed 52 = .ok (.if_icmp .ge 7, 3) := by decide +kernel
theorem dX11_feed_55 : decode cX11_feed 55 = .ok (.iload_n 3, 1) := by decide +kernel
theorem dX11_feed_56 : decode cX11_feed 56 = .ok (.goto 17, 3) := by decide +kernel
theorem dX11_feed_59 : decode cX11_feed 59 = .ok (.iload 6, 2) := by decide +kernel
theorem dX11_feed_61 : decode cX11_feed 61 = .ok (.bipush 16, 2) := by decide +kernel
theorem dX11_feed_63 : decode cX11_feed 63 = .ok (.if_icmp .ge 8, 3) := by decide +kernel
theorem dX11_feed_66 : decode cX11_feed 66 = .ok (.iload 4, 2) := by decide +kernel
theorem dX11_feed_68 : decode cX11_feed 68 = .ok (.goto 5, 3) := by decide +kernel
theorem dX11_feed_71 : decode cX11_feed 71 = .ok (.iload 5, 2) := by decide +kernel
theorem dX11_feed_73 : decode cX11_feed 73 = .ok (.istore 7, 2) := by decide +kernel
theorem dX11_feed_75 : decode cX11_feed 75 = .ok (.aload_n 0, 1) := by decide +kernel
theorem dX11_feed_76 : decode cX11_feed 76 = .ok (.getfield 7, 3) := by decide +kernel
theorem dX11_feed_79 : decode cX11_feed 79 = .ok (.aload_n 0, 1) := by decide +kernel
theorem dX11_feed_80 : decode cX11_feed 80 = .ok (.getfield 118, 3) := by decide +kernel
theorem dX11_feed_83 : decode cX11_feed 83 = .ok (.iload 6, 2) := by decide +kernel
theorem dX11_feed_85 : decode cX11_feed 85 = .ok (.iadd, 1) := by decide +kernel
theorem dX11_feed_86 : decode cX11_feed 86 = .ok (.iload 7, 2) := by decide +kernel
theorem dX11_feed_88 : decode cX11_feed 88 = .ok (.bipush 24, 2) := by decide +kernel
theorem dX11_feed_90 : decode cX11_feed 90 = .ok (.bipush 8, 2) := by decide +kernel
theorem dX11_feed_92 : decode cX11_feed 92 = .ok (.iload 6, 2) := by decide +kernel
theorem dX11_feed_94 : decode cX11_feed 94 = .ok (.iconst 4, 1) := by decide +kernel
theorem dX11_feed_95 : decode cX11_feed 95 = .ok (.irem, 1) := by decide +kernel
theorem dX11_feed_96 : decode cX11_feed 96 = .ok (.imul, 1) := by decide +kernel
theorem dX11_feed_97 : decode cX11_feed 97 = .ok (.isub, 1) := by decide +kernel
theorem dX11_feed_98 : decode cX11_feed 98 = .ok (.ishr, 1) := by decide +kernel
theorem dX11_feed_99 : decode cX11_feed 99 = .ok (.sipush 255, 3) := by decide +kernel
theorem dX11_feed_102 : decode cX11_feed 102 = .ok (.iand, 1) := by decide +kernel
theorem dX11_feed_103 : decode cX11_feed 103 = .ok (.iastore, 1) := by decide +kernel
theorem dX11_feed_104 : decode cX11_feed 104 = .ok (.iinc 6 1, 3) := by decide +kernel
theorem dX11_feed_107 : decode cX11_feed 107 = .ok (.goto (-87), 3) := by decide +kernel
theorem dX11_feed_110 : decode cX11_feed 110 = .ok (.aload_n 0, 1) := by decide +kernel
theorem dX11_feed_111 : decode cX11_feed 111 = .ok (.dup, 1) := by decide +kernel
theorem dX11_feed_112 : decode cX11_feed 112 = .ok (.getfield 118, 3) := by decide +kernel
theorem dX11_feed_115 : decode cX11_feed 115 = .ok (.bipush 20, 2) := by decide +kernel
theorem dX11_feed_117 : decode cX11_feed 117 = .ok (.iadd, 1) := by decide +kernel
theorem dX11_feed_118 : decode cX11_feed 118 = .ok (.putfield 118, 3) := by decide +kernel
theorem dX11_feed_121 : decode cX11_feed 121 = .ok (.aload_n 0, 1) := by decide +kernel
theorem dX11_feed_122 : decode cX11_feed 122 = .ok (.getfield 118, 3) := by decide +kernel
theorem dX11_feed_125 : decode cX11_feed 125 = .ok (.ireturn, 1) := by decide +kernel
theorem dX11_here_0 : decode cX11_here 0 = .ok (.aload_n 0, 1) := by decide +kernel
theorem dX11_here_1 : decode cX11_here 1 = .ok (.getfield 121, 3) := by decide +kernel
theorem dX11_here_4 : decode cX11_here 4 = .ok (.aload_n 0, 1) := by decide +kernel
theorem dX11_here_5 : decode cX11_here 5 = .ok (.getfield 124, 3) := by decide +kernel
theorem dX11_here_8 : decode cX11_here 8 = .ok (.if_icmp .ge 15, 3) := by decide +kernel
theorem dX11_here_11 : decode cX11_here 11 = .ok (.aload_n 0, 1) := by decide +kernel
theorem dX11_here_12 : decode cX11_here 12 = .ok (.getfield 7, 3) := by decide +kernel
theorem dX11_here_15 : decode cX11_here 15 = .ok (.aload_n 0, 1) := by decide +kernel
theorem dX11_here_16 : decode cX11_here 16 = .ok (.getfield 121, 3) := by decide +kernel
theorem dX11_here_19 : decode cX11_here 19 = .ok (.iaload, 1) := by decide +kernel
theorem dX11_here_20 : decode cX11_here 20 = .ok (.goto 4, 3) := by decide +kernel
theorem dX11_here_23 : decode cX11_here 23 = .ok (.iconst (-1), 1) := by decide +kernel
theorem dX11_here_24 : decode cX11_here 24 = .ok (.ireturn, 1) := by decide +kernel
theorem dX11_isSmall_0 : decode cX11_isSmall 0 = .ok (.iload_n 0, 1) := by decide +kernel
theorem dX11_isSmall_1 : decode cX11_isSmall 1 = .ok (.bipush 97, 2) := by decide +kernel
theorem dX11_isSmall_3 : decode cX11_isSmall 3 = .ok (.if_icmp .lt 13, 3) := by decide +kernel
theorem dX11_isSmall_6 : decode cX11_isSmall 6 = .ok (.iload_n 0, 1) := by decide +kernel
theorem dX11_isSmall_7 : decode cX11_isSmall 7 = .ok (.bipush 122, 2) := by decide +kernel
theorem dX11_isSmall_9 : decode cX11_isSmall 9 = .ok (.if_icmp .gt 7, 3) := by decide +kernel
theorem dX11_isSmall_12 : decode cX11_isSmall 12 = .ok (.iconst 1, 1) := by decide +kernel
theorem dX11_isSmall_13 : decode cX11_isSmall 13 = .ok (.goto 4, 3) := by decide +kernel
theorem dX11_isSmall_16 : decode cX11_isSmall 16 = .ok (.iconst 0, 1) := by decide +kernel
theorem dX11_isSmall_17 : decode cX11_isSmall 17 = .ok (.ireturn, 1) := by decide +kernel
theorem dX11_isDigit_0 : decode cX11_isDigit 0 = .ok (.iload_n 0, 1) := by decide +kernel
theorem dX11_isDigit_1 : decode cX11_isDigit 1 = .ok (.bipush 48, 2) := by decide +kernel
theorem dX11_isDigit_3 : decode cX11_isDigit 3 = .ok (.if_icmp .lt 13, 3) := by decide +kernel
theorem dX11_isDigit_6 : decode cX11_isDigit 6 = .ok (.iload_n 0, 1) := by decide +kernel
theorem dX11_isDigit_7 : decode cX11_isDigit 7 = .ok (.bipush 57, 2) := by decide +kernel
theorem dX11_isDigit_9 : decode cX11_isDigit 9 = .ok (.if_icmp .gt 7, 3) := by decide +kernel
theorem dX11_isDigit_12 : decode cX11_isDigit 12 = .ok (.iconst 1, 1) := by decide +kernel
theorem dX11_isDigit_13 : decode cX11_isDigit 13 = .ok (.goto 4, 3) := by decide +kernel
theorem dX11_isDigit_16 : decode cX11_isDigit 16 = .ok (.iconst 0, 1) := by decide +kernel
theorem dX11_isDigit_17 : decode cX11_isDigit 17 = .ok (.ireturn, 1) := by decide +kernel
theorem dX11_next_0 : decode cX11_next 0 = .ok (.aload_n 0, 1) := by decide +kernel
theorem dX11_next_1 : decode cX11_next 1 = .ok (.invokevirtual 127, 3) := by decide +kernel
theorem dX11_next_4 : decode cX11_next 4 = .ok (.bipush 10, 2) := by decide +kernel
theorem dX11_next_6 : decode cX11_next 6 = .ok (.if_icmp .eq 12, 3) := by decide +kernel
theorem dX11_next_9 : decode cX11_next 9 = .ok (.aload_n 0, 1) := by decide +kernel
theorem dX11_next_10 : decode cX11_next 10 = .ok (.invokevirtual 127, 3) := by decide +kernel
theorem dX11_next_13 : decode cX11_next 13 = .ok (.bipush 32, 2) := by decide +kernel
theorem dX11_next_15 : decode cX11_next 15 = .ok (.if_icmp .ne 16, 3) := by decide +kernel
theorem dX11_next_18 : decode cX11_next 18 = .ok (.aload_n 0, 1) := by decide +kernel
theorem dX11_next_19 : decode cX11_next 19 = .ok (.dup, 1) := by decide +kernel
theorem dX11_next_20 : decode cX11_next 20 = .ok (.getfield 121, 3) := by decide +kernel
theorem dX11_next_23 : decode cX11_next 23 = .ok (.iconst 1, 1) := by decide +kernel
theorem dX11_next_24 : decode cX11_next 24 = .ok (.iadd, 1) := by decide +kernel
theorem dX11_next_25 : decode cX11_next 25 = .ok (.putfield 121, 3) := by decide +kernel
theorem dX11_next_28 : decode cX11_next 28 = .ok (.goto (-28), 3) := by decide +kernel
theorem dX11_next_31 : decode cX11_next 31 = .ok (.aload_n 0, 1) := by decide +kernel
theorem dX11_next_32 : decode cX11_next 32 = .ok (.aload_n 0, 1) := by decide +kernel
theorem dX11_next_33 : decode cX11_next 33 = .ok (.getfield 121, 3) := by decide +kernel
theorem dX11_next_36 : decode cX11_next 36 = .ok (.putfield 131, 3) := by decide +kernel
theorem dX11_next_39 : decode cX11_next 39 = .ok (.aload_n 0, 1) := by decide +kernel
theorem dX11_next_40 : decode cX11_next 40 = .ok (.invokevirtual 127, 3) := by decide +kernel
theorem dX11_next_43 : decode cX11_next 43 = .ok (.istore_n 1, 1) := by decide +kernel
theorem dX11_next_44 : decode cX11_next 44 = .ok (.iload_n 1, 1) := by decide +kernel
theorem dX11_next_45 : decode cX11_next 45 = .ok (.iconst (-1), 1) := by decide +kernel
theorem dX11_next_46 : decode cX11_next 46 = .ok (.if_icmp .ne 9, 3) := by decide +kernel
theorem dX11_next_49 : decode cX11_next 49 = .ok (.aload_n 0, 1) := by decide +kernel
theorem dX11_next_50 : decode cX11_next 50 = .ok (.iconst 3, 1) := by decide +kernel
theorem dX11_next_51 : decode cX11_next 51 = .ok (.putfield 134, 3) := by decide +kernel
theorem dX11_next_54 : decode cX11_next 54 = .ok (.return_, 1) := by decide +kernel
theorem dX11_next_55 : decode cX11_next 55 = .ok (.iload_n 1, 1) := by decide +kernel
theorem dX11_next_56 : decode cX11_next 56 = .ok (.invokestatic 137, 3) := by decide +kernel
theorem dX11_next_59 : decode cX11_next 59 = .ok (.ifCond .eq 52, 3) := by decide +kernel
theorem dX11_next_62 : decode cX11_next 62 = .ok (.aload_n 0, 1) := by decide +kernel
theorem dX11_next_63 : decode cX11_next 63 = .ok (.invokevirtual 127, 3) := by decide +kernel
theorem dX11_next_66 : decode cX11_next 66 = .ok (.invokestatic 137, 3) := by decide +kernel
theorem dX11_next_69 : decode cX11_next 69 = .ok (.ifCond .eq 16, 3) := by decide +kernel
theorem dX11_next_72 : decode cX11_next 72 = .ok (.aload_n 0, 1) := by decide +kernel
theorem dX11_next_73 : decode cX11_next 73 = .ok (.dup, 1) := by decide +kernel
theorem dX11_next_74 : decode cX11_next 74 = .ok (.getfield 121, 3) := by decide +kernel
theorem dX11_next_77 : decode cX11_next 77 = .ok (.iconst 1, 1) := by decide +kernel
theorem dX11_next_78 : decode cX11_next 78 = .ok (.iadd, 1) := by decide +kernel
theorem dX11_next_79 : decode cX11_next 79 = .ok (.putfield 121, 3) := by decide +kernel
theorem dX11_next_82 : decode cX11_next 82 = .ok (.goto (-20), 3) := by decide +kernel
theorem dX11_next_85 : decode cX11_next 85 = .ok (.aload_n 0, 1) := by decide +kernel
theorem dX11_next_86 : decode cX11_next 86 = .ok (.aload_n 0, 1) := by decide +kernel
theorem dX11_next_87 : decode cX11_next 87 = .ok (.invokevirtual 141, 3) := by decide +kernel
theorem dX11_next_90 : decode cX11_next 90 = .ok (.putfield 144, 3) := by decide +kernel
theorem dX11_next_93 : decode cX11_next 93 = .ok (.aload_n 0, 1) := by decide +kernel
theorem dX11_next_94 : decode cX11_next 94 = .ok (.aload_n 0, 1) := by decide +kernel
theorem dX11_next_95 : decode cX11_next 95 = .ok (.getfield 144, 3) := by decide +kernel
theorem dX11_next_98 : decode cX11_next 98 = .ok (.iconst (-1), 1) := by decide +kernel
theorem dX11_next_99 : decode cX11_next 99 = .ok (.if_icmp .ne 7, 3) := by decide +kernel
theorem dX11_next_102 : decode cX11_next 102 = .ok (.iconst 4, 1) := by decide +kernel
theorem dX11_next_103 : decode cX11_next 103 = .ok (.goto 4, 3) := by decide +kernel
theorem dX11_next_106 : decode cX11_next 106 = .ok (.iconst 0, 1) := by decide +kernel
theorem dX11_next_107 : decode cX11_next 107 = .ok (.putfield 134, 3) := by decide +kernel
theorem dX11_next_110 : decode cX11_next 110 = .ok (.return_, 1) := by decide +kernel
theorem dX11_next_111 : decode cX11_next 111 = .ok (.iload_n 1, 1) := by decide +kernel
theorem dX11_next_112 : decode cX11_next 112 = .ok (.invokestatic 147, 3) := by decide +kernel
theorem dX11_next_115 : decode cX11_next 115 = .ok (.ifCond .eq 73, 3) := by decide +kernel
theorem dX11_next_118 : decode cX11_next 118 = .ok (.aload_n 0, 1) := by decide +kernel
theorem dX11_next_119 : decode cX11_next 119 = .ok (.iconst 1, 1) := by decide +kernel
theorem dX11_next_120 : decode cX11_next 120 = .ok (.putfield 134, 3) := by decide +kernel
theorem dX11_next_123 : decode cX11_next 123 = .ok (.aload_n 0, 1) := by decide +kernel
theorem dX11_next_124 : decode cX11_next 124 = .ok (.iconst 0, 1) := by decide +kernel
theorem dX11_next_125 : decode cX11_next 125 = .ok (.putfield 144, 3) := by decide +kernel
theorem dX11_next_128 : decode cX11_next 128 = .ok (.aload_n 0, 1) := by decide +kernel
theorem dX11_next_129 : decode cX11_next 129 = .ok (.invokevirtual 127, 3) := by decide +kernel
theorem dX11_next_132 : decode cX11_next 132 = .ok (.invokestatic 147, 3) := by decide +kernel
theorem dX11_next_135 : decode cX11_next 135 = .ok (.ifCond .eq 52, 3) := by decide +kernel
theorem dX11_next_138 : decode cX11_next 138 = .ok (.aload_n 0, 1) := by decide +kernel
theorem dX11_next_139 : decode cX11_next 139 = .ok (.aload_n 0, 1) := by decide +kernel
theorem dX11_next_140 : decode cX11_next 140 = .ok (.getfield 144, 3) := by decide +kernel
theorem dX11_next_143 : decode cX11_next 143 = .ok (.sipush 9999, 3) := by decide +kernel
theorem dX11_next_146 : decode cX11_next 146 = .ok (.if_icmp .le 10, 3) := by decide +kernel
theorem dX11_next_149 : decode cX11_next 149 = .ok (.aload_n 0, 1) := by decide +kernel
theorem dX11_next_150 : decode cX11_next 150 = .ok (.getfield 144, 3) := by decide +kernel
theorem dX11_next_153 : decode cX11_next 153 = .ok (.goto 18, 3) := by decide +kernel
theorem dX11_next_156 : decode cX11_next 156 = .ok (.bipush 10, 2) := by decide +kernel
theorem dX11_next_158 : decode cX11_next 158 = .ok (.aload_n 0, 1) := by decide +kernel
theorem dX11_next_159 : decode cX11_next 159 = .ok (.getfield 144, 3) := by decide +kernel
theorem dX11_next_162 : decode cX11_next 162 = .ok (.imul, 1) := by decide +kernel
theorem dX11_next_163 : decode cX11_next 163 = .ok (.aload_n 0, 1) := by decide +kernel
theorem dX11_next_164 : decode cX11_next 164 = .ok (.invokevirtual 127, 3) := by decide +kernel
theorem dX11_next_167 : decode cX11_next 167 = .ok (.iadd, 1) := by decide +kernel
theorem dX11_next_168 : decode cX11_next 168 = .ok (.bipush 48, 2) := by decide +kernel
theorem dX11_next_170 : decode cX11_next 170 = .ok (.isub, 1) := by decide +kernel
theorem dX11_next_171 : decode cX11_next 171 = .ok (.putfield 144, 3) := by decide +kernel
theorem dX11_next_174 : decode cX11_next 174 = .ok (.aload_n 0, 1) := by decide +kernel
theorem dX11_next_175 : decode cX11_next 175 = .ok (.dup, 1) := by decide +kernel
theorem dX11_next_176 : decode cX11_next 176 = .ok (.getfield 121, 3) := by decide +kernel
theorem dX11_next_179 : decode cX11_next 179 = .ok (.iconst 1, 1) := by decide +kernel
theorem dX11_next_180 : decode cX11_next 180 = .ok (.iadd, 1) := by decide +kernel
theorem dX11_next_181 : decode cX11_next 181 = .ok (.putfield 121, 3) := by decide +kernel
theorem dX11_next_184 : decode cX11_next 184 = .ok (.goto (-56), 3) := by decide +kernel
theorem dX11_next_187 : decode cX11_next 187 = .ok (.return_, 1) := by decide +kernel
theorem dX11_next_188 : decode cX11_next 188 = .ok (.aload_n 0, 1) := by decide +kernel
theorem dX11_next_189 : decode cX11_next 189 = .ok (.dup, 1) := by decide +kernel
theorem dX11_next_190 : decode cX11_next 190 = .ok (.getfield 121, 3) := by decide +kernel
theorem dX11_next_193 : decode cX11_next 193 = .ok (.iconst 1, 1) := by decide +kernel
theorem dX11_next_194 : decode cX11_next 194 = .ok (.iadd, 1) := by decide +kernel
theorem dX11_next_195 : decode cX11_next 195 = .ok (.putfield 121, 3) := by decide +kernel
theorem dX11_next_198 : decode cX11_next 198 = .ok (.aload_n 0, 1) := by decide +kernel
theorem dX11_next_199 : decode cX11_next 199 = .ok (.iconst 2, 1) := by decide +kernel
theorem dX11_next_200 : decode cX11_next 200 = .ok (.putfield 134, 3) := by decide +kernel
theorem dX11_next_203 : decode cX11_next 203 = .ok (.aload_n 0, 1) := by decide +kernel
theorem dX11_next_204 : decode cX11_next 204 = .ok (.iload_n 1, 1) := by decide +kernel
theorem dX11_next_205 : decode cX11_next 205 = .ok (.putfield 144, 3) := by decide +kernel
theorem dX11_next_208 : decode cX11_next 208 = .ok (.iload_n 1, 1) := by decide +kernel
theorem dX11_next_209 : decode cX11_next 209 = .ok (.bipush 60, 2) := by decide +kernel
theorem dX11_next_211 : decode cX11_next 211 = .ok (.if_icmp .ne 22, 3) := by decide +kernel
theorem dX11_next_214 : decode cX11_next 214 = .ok (.aload_n 0, 1) := by decide +kernel
theorem dX11_next_215 : decode cX11_next 215 = .ok (.invokevirtual 127, 3) := by decide +kernel
theorem dX11_next_218 : decode cX11_next 218 = .ok (.bipush 61, 2) := by decide +kernel
theorem dX11_next_220 : decode cX11_next 220 = .ok (.if_icmp .ne 13, 3) := by decide +kernel
theorem dX11_next_223 : decode cX11_next 223 = .ok (.aload_n 0, 1) := by decide +kernel
theorem dX11_next_224 : decode cX11_next 224 = .ok (.sipush 256, 3) := by decide +kernel
theorem dX11_next_227 : decode cX11_next 227 = .ok (.putfield 144, 3) := by decide +kernel
theorem dX11_next_230 : decode cX11_next 230 = .ok (.goto 50, 3) := by decide +kernel
theorem dX11_next_233 : decode cX11_next 233 = .ok (.iload_n 1, 1) := by decide +kernel
theorem dX11_next_234 : decode cX11_next 234 = .ok (.bipush 60, 2) := by decide +kernel
theorem dX11_next_236 : decode cX11_next 236 = .ok (.if_icmp .ne 22, 3) := by decide +kernel
theorem dX11_next_239 : decode cX11_next 239 = .ok (.aload_n 0, 1) := by decide +kernel
theorem dX11_next_240 : decode cX11_next 240 = .ok (.invokevirtual 127, 3) := by decide +kernel
theorem dX11_next_243 : decode cX11_next 243 = .ok (.bipush 62, 2) := by decide +kernel
theorem dX11_next_245 : decode cX11_next 245 = .ok (.if_icmp .ne 13, 3) := by decide +kernel
theorem dX11_next_248 : decode cX11_next 248 = .ok (.aload_n 0, 1) := by decide +kernel
theorem dX11_next_249 : decode cX11_next 249 = .ok (.sipush 257, 3) := by decide +kernel
theorem dX11_next_252 : decode cX11_next 252 = .ok (.putfield 144, 3) := by decide +kernel
theorem dX11_next_255 : decode cX11_next 255 = .ok (.goto 25, 3) := by decide +kernel
theorem dX11_next_258 : decode cX11_next 258 = .ok (.iload_n 1, 1) := by decide +kernel
theorem dX11_next_259 : decode cX11_next 259 = .ok (.bipush 62, 2) := by decide +kernel
theorem dX11_next_261 : decode cX11_next 261 = .ok (.if_icmp .ne 19, 3) := by decide +kernel
theorem dX11_next_264 : decode cX11_next 264 = .ok (.aload_n 0, 1) := by decide +kernel
theorem dX11_next_265 : decode cX11_next 265 = .ok (.invokevirtual 127, 3) := by decide +kernel
theorem dX11_next_268 : decode cX11_next 268 = .ok (.bipush 61, 2) := by decide +kernel
theorem dX11_next_270 : decode cX11_next 270 = .ok (.if_icmp .ne 10, 3) := by decide +kernel
theorem dX11_next_273 : decode cX11_next 273 = .ok (.aload_n 0, 1) := by decide +kernel
theorem dX11_next_274 : decode cX11_next 274 = .ok (.sipush 258, 3) := by decide +kernel
theorem dX11_next_277 : decode cX11_next 277 = .ok (.putfield 144, 3) := by decide +kernel
theorem dX11_next_280 : decode cX11_next 280 = .ok (.aload_n 0, 1) := by decide +kernel
theorem dX11_next_281 : decode cX11_next 281 = .ok (.getfield 144, 3) := by decide +kernel
theorem dX11_next_284 : decode cX11_next 284 = .ok (.iload_n 1, 1) := by decide +kernel
theorem dX11_next_285 : decode cX11_next 285 = .ok (.if_icmp .eq 16, 3) := by decide +kernel
theorem dX11_next_288 : decode cX11_next 288 = .ok (.aload_n 0, 1) := by decide +kernel
theorem dX11_next_289 : decode cX11_next 289 = .ok (.dup, 1) := by decide +kernel
theorem dX11_next_290 : decode cX11_next 290 = .ok (.getfield 121, 3) := by decide +kernel
theorem dX11_next_293 : decode cX11_next 293 = .ok (.iconst 1, 1) := by decide +kernel
theorem dX11_next_294 : decode cX11_next 294 = .ok (.iadd, 1) := by decide +kernel
theorem dX11_next_295 : decode cX11_next 295 = .ok (.putfield 121, 3) := by decide +kernel
theorem dX11_next_298 : decode cX11_next 298 = .ok (.goto 68, 3) := by decide +kernel
theorem dX11_next_301 : decode cX11_next 301 = .ok (.iload_n 1, 1) := by decide +kernel
theorem dX11_next_302 : decode cX11_next 302 = .ok (.bipush 59, 2) := by decide +kernel
theorem dX11_next_304 : decode cX11_next 304 = .ok (.if_icmp .eq 62, 3) := by decide +kernel
theorem dX11_next_307 : decode cX11_next 307 = .ok (.iload_n 1, 1) := by decide +kernel
theorem dX11_next_308 : decode cX11_next 308 = .ok (.bipush 45, 2) := by decide +kernel
theorem dX11_next_310 : decode cX11_next 310 = .ok (.if_icmp .eq 56, 3) := by decide +kernel
theorem dX11_next_313 : decode cX11_next 313 = .ok (.iload_n 1, 1) := by decide +kernel
theorem dX11_next_314 : decode cX11_next 314 = .ok (.bipush 43, 2) := by decide +kernel
theorem dX11_next_316 : decode cX11_next 316 = .ok (.if_icmp .eq 50, 3) := by decide +kernel
theorem dX11_next_319 : decode cX11_next 319 = .ok (.iload_n 1, 1) := by decide +kernel
theorem dX11_next_320 : decode cX11_next 320 = .ok (.bipush 42, 2) := by decide +kernel
theorem dX11_next_322 : decode cX11_next 322 = .ok (.if_icmp .eq 44, 3) := by decide +kernel
theorem dX11_next_325 : decode cX11_next 325 = .ok (.iload_n 1, 1) := by decide +kernel
theorem dX11_next_326 : decode cX11_next 326 = .ok (.bipush 47, 2) := by decide +kernel
theorem dX11_next_328 : decode cX11_next 328 = .ok (.if_icmp .eq 38, 3) := by decide +kernel
theorem dX11_next_331 : decode cX11_next 331 = .ok (.iload_n 1, 1) := by decide +kernel
theorem dX11_next_332 : decode cX11_next 332 = .ok (.bipush 40, 2) := by decide +kernel
theorem dX11_next_334 : decode cX11_next 334 = .ok (.if_icmp .eq 32, 3) := by decide +kernel
theorem dX11_next_337 : decode cX11_next 337 = .ok (.iload_n 1, 1) := by decide +kernel
theorem dX11_next_338 : decode cX11_next 338 = .ok (.bipush 41, 2) := by decide +kernel
theorem dX11_next_340 : decode cX11_next 340 = .ok (.if_icmp .eq 26, 3) := by decide +kernel
theorem dX11_next_343 : decode cX11_next 343 = .ok (.iload_n 1, 1) := by decide +kernel
theorem dX11_next_344 : decode cX11_next 344 = .ok (.bipush 60, 2) := by decide +kernel
theorem dX11_next_346 : decode cX11_next 346 = .ok (.if_icmp .eq 20, 3) := by decide +kernel
theorem dX11_next_349 : decode cX11_next 349 = .ok (.iload_n 1, 1) := by decide +kernel
theorem dX11_next_350 : decode cX11_next 350 = .ok (.bipush 61, 2) := by decide +kernel
theorem dX11_next_352 : decode cX11_next 352 = .ok (.if_icmp .eq 14, 3) := by decide +kernel
theorem dX11_next_355 : decode cX11_next 355 = .ok (.iload_n 1, 1) := by decide +kernel
theorem dX11_next_356 : decode cX11_next 356 = .ok (.bipush 62, 2) := by decide +kernel
theorem dX11_next_358 : decode cX11_next 358 = .ok (.if_icmp .eq 8, 3) := by decide +kernel
theorem dX11_next_361 : decode cX11_next 361 = .ok (.aload_n 0, 1) := by decide +kernel
theorem dX11_next_362 : decode cX11_next 362 = .ok (.iconst 4, 1) := by decide +kernel
theorem dX11_next_363 : decode cX11_next 363 = .ok (.putfield 134, 3) := by decide +kernel
theorem dX11_next_366 : decode cX11_next 366 = .ok (.return_, 1) := by decide +kernel
theorem dX11_word_0 : decode cX11_word 0 = .ok (.iconst 0, 1) := by decide +kernel
theorem dX11_word_1 : decode cX11_word 1 = .ok (.istore_n 1, 1) := by decide +kernel
theorem dX11_word_2 : decode cX11_word 2 = .ok (.iconst 0, 1) := by decide +kernel
theorem dX11_word_3 : decode cX11_word 3 = .ok (.istore_n 2, 1) := by decide +kernel
theorem dX11_word_4 : decode cX11_word 4 = .ok (.iload_n 2, 1) := by decide +kernel
theorem dX11_word_5 : decode cX11_word 5 = .ok (.ldc 150, 2) := by decide +kernel
theorem dX11_word_7 : decode cX11_word 7 = .ok (.invokevirtual 152, 3) := by decide +kernel
theorem dX11_word_10 : decode cX11_word 10 = .ok (.if_icmp .ge 113, 3) := by decide +kernel
theorem dX11_word_13 : decode cX11_word 13 = .ok (.iconst 0, 1) := by decide +kernel
theorem dX11_word_14 : decode cX11_word 14 = .ok (.istore_n 3, 1) := by decide +kernel
theorem dX11_word_15 : decode cX11_word 15 = .ok (.ldc 150, 2) := by decide +kernel
theorem dX11_word_17 : decode cX11_word 17 = .ok (.iload_n 2, 1) := by decide +kernel
theorem dX11_word_18 : decode cX11_word 18 = .ok (.iload_n 3, 1) := by decide +kernel
theorem dX11_word_19 : decode cX11_word 19 = .ok (.iadd, 1) := by decide +kernel
theorem dX11_word_20 : decode cX11_word 20 = .ok (.invokevirtual 157, 3) := by decide +kernel
theorem dX11_word_23 : decode cX11_word 23 = .ok (.bipush 32, 2) := by decide +kernel
theorem dX11_word_25 : decode cX11_word 25 = .ok (.if_icmp .eq 44, 3) := by decide +kernel
theorem dX11_word_28 : decode cX11_word 28 = .ok (.aload_n 0, 1) := by decide +kernel
theorem dX11_word_29 : decode cX11_word 29 = .ok (.getfield 131, 3) := by decide +kernel
theorem dX11_word_32 : decode cX11_word 32 = .ok (.iload_n 3, 1) := by decide +kernel
theorem dX11_word_33 : decode cX11_word 33 = .ok (.iadd, 1) := by decide +kernel
theorem dX11_word_34 : decode cX11_word 34 = .ok (.aload_n 0, 1) := by decide +kernel
theorem dX11_word_35 : decode cX11_word 35 = .ok (.getfield 121, 3) := by decide +kernel
theorem dX11_word_38 : decode cX11_word 38 = .ok (.if_icmp .ge 31, 3) := by decide +kernel
theorem dX11_word_41 : decode cX11_word 41 = .ok (.aload_n 0, 1) := by decide +kernel
theorem dX11_word_42 : decode cX11_word 42 = .ok (.getfield 7, 3) := by decide +kernel
theorem dX11_word_45 : decode cX11_word 45 = .ok (.aload_n 0, 1) := by decide +kernel
theorem dX11_word_46 : decode cX11_word 46 = .ok (.getfield 131, 3) := by decide +kernel
theorem dX11_word_49 : decode cX11_word 49 = .ok (.iload_n 3, 1) := by decide +kernel
theorem dX11_word_50 : decode cX11_word 50 = .ok (.iadd, 1) := by decide +kernel
theorem dX11_word_51 : decode cX11_word 51 = .ok (.iaload, 1) := by decide +kernel
theorem dX11_word_52 : decode cX11_word 52 = .ok (.ldc 150, 2) := by decide +kernel
theorem dX11_word_54 : decode cX11_word 54 = .ok (.iload_n 2, 1) := by decide +kernel
theorem dX11_word_55 : decode cX11_word 55 = .ok (.iload_n 3, 1) := by decide +kernel
theorem dX11_word_56 : decode cX11_word 56 = .ok (.iadd, 1) := by decide +kernel
theorem dX11_word_57 : decode cX11_word 57 = .ok (.invokevirtual 157, 3) := by decide +kernel
theorem dX11_word_60 : decode cX11_word 60 = .ok (.if_icmp .ne 9, 3) := by decide +kernel
theorem dX11_word_63 : decode cX11_word 63 = .ok (.iinc 3 1, 3) := by decide +kernel
theorem dX11_word_66 : decode cX11_word 66 = .ok (.goto (-51), 3) := by decide +kernel
theorem dX11_word_69 : decode cX11_word 69 = .ok (.ldc 150, 2) := by decide +kernel
theorem dX11_word_71 : decode cX11_word 71 = .ok (.iload_n 2, 1) := by decide +kernel
theorem dX11_word_72 : decode cX11_word 72 = .ok (.iload_n 3, 1) := by decide +kernel
theorem dX11_word_73 : decode cX11_word 73 = .ok (.iadd, 1) := by decide +kernel
theorem dX11_word_74 : decode cX11_word 74 = .ok (.invokevirtual 157, 3) := by decide +kernel
theorem dX11_word_77 : decode cX11_word 77 = .ok (.bipush 32, 2) := by decide +kernel
theorem dX11_word_79 : decode cX11_word 79 = .ok (.if_icmp .ne 18, 3) := by decide +kernel
theorem dX11_word_82 : decode cX11_word 82 = .ok (.aload_n 0, 1) := by decide +kernel
theorem dX11_word_83 : decode cX11_word 83 = .ok (.getfield 131, 3) := by decide +kernel
theorem dX11_word_86 : decode cX11_word 86 = .ok (.iload_n 3, 1) := by decide +kernel
theorem dX11_word_87 : decode cX11_word 87 = .ok (.iadd, 1) := by decide +kernel
theorem dX11_word_88 : decode cX11_word 88 = .ok (.aload_n 0, 1) := by decide +kernel
theorem dX11_word_89 : decode cX11_word 89 = .ok (.getfield 121, 3) := by decide +kernel
theorem dX11_word_92 : decode cX11_word 92 = .ok (.if_icmp .ne 5, 3) := by decide +kernel
theorem dX11_word_95 : decode cX11_word 95 = .ok (.iload_n 1, 1) := by decide +kernel
theorem dX11_word_96 : decode cX11_word 96 = .ok (.ireturn, 1) := by decide +kernel
theorem dX11_word_97 : decode cX11_word 97 = .ok (.ldc 150, 2) := by decide +kernel
theorem dX11_word_99 : decode cX11_word 99 = .ok (.iload_n 2, 1) := by decide +kernel
theorem dX11_word_100 : decode cX11_word 100 = .ok (.invokevirtual 157, 3) := by decide +kernel
theorem dX11_word_103 : decode cX11_word 103 = .ok (.bipush 32, 2) := by decide +kernel
theorem dX11_word_105 : decode cX11_word 105 = .ok (.if_icmp .eq 9, 3) := by decide +kernel
theorem dX11_word_108 : decode cX11_word 108 = .ok (.iinc 2 1, 3) := by decide +kernel
theorem dX11_word_111 : decode cX11_word 111 = .ok (.goto (-14), 3) := by decide +kernel
theorem dX11_word_114 : decode cX11_word 114 = .ok (.iinc 2 1, 3) := by decide +kernel
theorem dX11_word_117 : decode cX11_word 117 = .ok (.iinc 1 1, 3) := by decide +kernel
theorem dX11_word_120 : decode cX11_word 120 = .ok (.goto (-116), 3) := by decide +kernel
theorem dX11_word_123 : decode cX11_word 123 = .ok (.iconst (-1), 1) := by decide +kernel
theorem dX11_word_124 : decode cX11_word 124 = .ok (.ireturn, 1) := by decide +kernel
theorem dX11_wrong_0 : decode cX11_wrong 0 = .ok (.aload_n 0, 1) := by decide +kernel
theorem dX11_wrong_1 : decode cX11_wrong 1 = .ok (.getfield 161, 3) := by decide +kernel
theorem dX11_wrong_4 : decode cX11_wrong 4 = .ok (.ifCond .eq 4, 3) := by decide +kernel
theorem dX11_wrong_7 : decode cX11_wrong 7 = .ok (.return_, 1) := by decide +kernel
theorem dX11_wrong_8 : decode cX11_wrong 8 = .ok (.aload_n 0, 1) := by decide +kernel
theorem dX11_wrong_9 : decode cX11_wrong 9 = .ok (.iload_n 1, 1) := by decide +kernel
theorem dX11_wrong_10 : decode cX11_wrong 10 = .ok (.putfield 161, 3) := by decide +kernel
theorem dX11_wrong_13 : decode cX11_wrong 13 = .ok (.aload_n 0, 1) := by decide +kernel
theorem dX11_wrong_14 : decode cX11_wrong 14 = .ok (.aload_n 0, 1) := by decide +kernel
theorem dX11_wrong_15 : decode cX11_wrong 15 = .ok (.getfield 131, 3) := by decide +kernel
theorem dX11_wrong_18 : decode cX11_wrong 18 = .ok (.putfield 164, 3) := by decide +kernel
theorem dX11_wrong_21 : decode cX11_wrong 21 = .ok (.return_, 1) := by decide +kernel
theorem dX11_isSign_0 : decode cX11_isSign 0 = .ok (.aload_n 0, 1) := by decide +kernel
theorem dX11_isSign_1 : decode cX11_isSign 1 = .ok (.getfield 134, 3) := by decide +kernel
theorem dX11_isSign_4 : decode cX11_isSign 4 = .ok (.iconst 2, 1) := by decide +kernel
theorem dX11_isSign_5 : decode cX11_isSign 5 = .ok (.if_icmp .ne 15, 3) := by decide +kernel
theorem dX11_isSign_8 : decode cX11_isSign 8 = .ok (.aload_n 0, 1) := by decide +kernel
theorem dX11_isSign_9 : decode cX11_isSign 9 = .ok (.getfield 144, 3) := by decide +kernel
theorem dX11_isSign_12 : decode cX11_isSign 12 = .ok (.iload_n 1, 1) := by decide +kernel
theorem dX11_isSign_13 : decode cX11_isSign 13 = .ok (.if_icmp .ne 7, 3) := by decide +kernel
theorem dX11_isSign_16 : decode cX11_isSign 16 = .ok (.iconst 1, 1) := by decide +kernel
theorem dX11_isSign_17 : decode cX11_isSign 17 = .ok (.goto 4, 3) := by decide +kernel
theorem dX11_isSign_20 : decode cX11_isSign 20 = .ok (.iconst 0, 1) := by decide +kernel
theorem dX11_isSign_21 : decode cX11_isSign 21 = .ok (.ireturn, 1) := by decide +kernel
theorem dX11_lineOf_0 : decode cX11_lineOf 0 = .ok (.aload_n 0, 1) := by decide +kernel
theorem dX11_lineOf_1 : decode cX11_lineOf 1 = .ok (.getfield 134, 3) := by decide +kernel
theorem dX11_lineOf_4 : decode cX11_lineOf 4 = .ok (.ifCond .ne 11, 3) := by decide +kernel
theorem dX11_lineOf_7 : decode cX11_lineOf 7 = .ok (.aload_n 0, 1) := by decide +kernel
theorem dX11_lineOf_8 : decode cX11_lineOf 8 = .ok (.getfield 144, 3) := by decide +kernel
theorem dX11_lineOf_11 : decode cX11_lineOf 11 = .ok (.iconst 2, 1) := by decide +kernel
theorem dX11_lineOf_12 : decode cX11_lineOf 12 = .ok (.if_icmp .le 9, 3) := by decide +kernel
theorem dX11_lineOf_15 : decode cX11_lineOf 15 = .ok (.aload_n 0, 1) := by decide +kernel
theorem dX11_lineOf_16 : decode cX11_lineOf 16 = .ok (.iconst 1, 1) := by decide +kernel
theorem dX11_lineOf_17 : decode cX11_lineOf 17 = .ok (.invokevirtual 167, 3) := by decide +kernel
theorem dX11_lineOf_20 : decode cX11_lineOf 20 = .ok (.return_, 1) := by decide +kernel
theorem dX11_lineOf_21 : decode cX11_lineOf 21 = .ok (.aload_n 0, 1) := by decide +kernel
theorem dX11_lineOf_22 : decode cX11_lineOf 22 = .ok (.getfield 144, 3) := by decide +kernel
theorem dX11_lineOf_25 : decode cX11_lineOf 25 = .ok (.istore_n 1, 1) := by decide +kernel
theorem dX11_lineOf_26 : decode cX11_lineOf 26 = .ok (.aload_n 0, 1) := by decide +kernel
theorem dX11_lineOf_27 : decode cX11_lineOf 27 = .ok (.getfield 171, 3) := by decide +kernel
theorem dX11_lineOf_30 : decode cX11_lineOf 30 = .ok (.iload_n 1, 1) := by decide +kernel
theorem dX11_lineOf_31 : decode cX11_lineOf 31 = .ok (.ishr, 1) := by decide +kernel
theorem dX11_lineOf_32 : decode cX11_lineOf 32 = .ok (.iconst 1, 1) := by decide +kernel
theorem dX11_lineOf_33 : decode cX11_lineOf 33 = .ok (.iand, 1) := by decide +kernel
theorem dX11_lineOf_34 : decode cX11_lineOf 34 = .ok (.iconst 1, 1) := by decide +kernel
theorem dX11_lineOf_35 : decode cX11_lineOf 35 = .ok (.if_icmp .ne 9, 3) := by decide +kernel
theorem dX11_lineOf_38 : decode cX11_lineOf 38 = .ok (.aload_n 0, 1) := by decide +kernel
theorem dX11_lineOf_39 : decode cX11_lineOf 39 = .ok (.iconst 3, 1) := by decide +kernel
theorem dX11_lineOf_40 : decode cX11_lineOf 40 = .ok (.invokevirtual 167, 3) := by decide +kernel
theorem dX11_lineOf_43 : decode cX11_lineOf 43 = .ok (.return_, 1) := by decide +kernel
theorem dX11_lineOf_44 : decode cX11_lineOf 44 = .ok (.aload_n 0, 1) := by decide +kernel
theorem dX11_lineOf_45 : decode cX11_lineOf 45 = .ok (.dup, 1) := by decide +kernel
theorem dX11_lineOf_46 : decode cX11_lineOf 46 = .ok (.getfield 171, 3) := by decide +kernel
theorem dX11_lineOf_49 : decode cX11_lineOf 49 = .ok (.iconst 1, 1) := by decide +kernel
theorem dX11_lineOf_50 : decode cX11_lineOf 50 = .ok (.iload_n 1, 1) := by decide +kernel
theorem dX11_lineOf_51 : decode cX11_lineOf 51 = .ok (.ishl, 1) := by decide +kernel
theorem dX11_lineOf_52 : decode cX11_lineOf 52 = .ok (.ior, 1) := by decide +kernel
theorem dX11_lineOf_53 : decode cX11_lineOf 53 = .ok (.putfield 171, 3) := by decide +kernel
theorem dX11_lineOf_56 : decode cX11_lineOf 56 = .ok (.aload_n 0, 1) := by decide +kernel
theorem dX11_lineOf_57 : decode cX11_lineOf 57 = .ok (.invokevirtual 174, 3) := by decide +kernel
theorem dX11_lineOf_60 : decode cX11_lineOf 60 = .ok (.iload_n 1, 1) := by decide +kernel
theorem dX11_lineOf_61 : decode cX11_lineOf 61 = .ok (.iconst 2, 1) := by decide +kernel
theorem dX11_lineOf_62 : decode cX11_lineOf 62 = .ok (.if_icmp .ne 63, 3) := by decide +kernel
theorem dX11_lineOf_65 : decode cX11_lineOf 65 = .ok (.aload_n 0, 1) := by decide +kernel
theorem dX11_lineOf_66 : decode cX11_lineOf 66 = .ok (.getfield 134, 3) := by decide +kernel
theorem dX11_lineOf_69 : decode cX11_lineOf 69 = .ok (.iconst 1, 1) := by decide +kernel
theorem dX11_lineOf_70 : decode cX11_lineOf 70 = .ok (.if_icmp .eq 11, 3) := by decide +kernel
theorem dX11_lineOf_73 : decode cX11_lineOf 73 = .ok (.aload_n 0, 1) := by decide +kernel
theorem dX11_lineOf_74 : decode cX11_lineOf 74 = .ok (.iconst 1, 1) := by decide +kernel
theorem dX11_lineOf_75 : decode cX11_lineOf 75 = .ok (.invokevirtual 167, 3) := by decide +kernel
theorem dX11_lineOf_78 : decode cX11_lineOf 78 = .ok (.goto 25, 3) := by decide +kernel
theorem dX11_lineOf_81 : decode cX11_lineOf 81 = .ok (.aload_n 0, 1) := by decide +kernel
theorem dX11_lineOf_82 : decode cX11_lineOf 82 = .ok (.getfield 144, 3) := by decide +kernel
theorem dX11_lineOf_85 : decode cX11_lineOf 85 = .ok (.iconst 1, 1) := by decide +kernel
theorem dX11_lineOf_86 : decode cX11_lineOf 86 = .ok (.if_icmp .lt 12, 3) := by decide +kernel
theorem dX11_lineOf_89 : decode cX11_lineOf 89 = .ok (.aload_n 0, 1) := by decide +kernel
theorem dX11_lineOf_90 : decode cX11_lineOf 90 = .ok (.getfield 144, 3) := by decide +kernel
theorem dX11_lineOf_93 : decode cX11_lineOf 93 = .ok (.bipush 9, 2) := by decide +kernel
theorem dX11_lineOf_95 : decode cX11_lineOf 95 = .ok (.if_icmp .le 8, 3) := by decide +kernel
theorem dX11_lineOf_98 : decode cX11_lineOf 98 = .ok (.aload_n 0, 1) := by decide +kernel
theorem dX11_lineOf_99 : decode cX11_lineOf 99 = .ok (.iconst 2, 1) := by decide +kernel
theorem dX11_lineOf_100 : decode cX11_lineOf 100 = .ok (.invokevirtual 167, 3) := by decide +kernel
theorem dX11_lineOf_103 : decode cX11_lineOf 103 = .ok (.aload_n 0, 1) := by decide +kernel
theorem dX11_lineOf_104 : decode cX11_lineOf 104 = .ok (.aload_n 0, 1) := by decide +kernel
theorem dX11_lineOf_105 : decode cX11_lineOf 105 = .ok (.getfield 144, 3) := by decide +kernel
theorem dX11_lineOf_108 : decode cX11_lineOf 108 = .ok (.putfield 177, 3) := by decide +kernel
theorem dX11_lineOf_111 : decode cX11_lineOf 111 = .ok (.aload_n 0, 1) := by decide +kernel
theorem dX11_lineOf_112 : decode cX11_lineOf 112 = .ok (.getfield 161, 3) := by decide +kernel
theorem dX11_lineOf_115 : decode cX11_lineOf 115 = .ok (.ifCond .ne 31, 3) := by decide +kernel
theorem dX11_lineOf_118 : decode cX11_lineOf 118 = .ok (.aload_n 0, 1) := by decide +kernel
theorem dX11_lineOf_119 : decode cX11_lineOf 119 = .ok (.invokevirtual 174, 3) := by decide +kernel
theorem dX11_lineOf_122 : decode cX11_lineOf 122 = .ok (.goto 24, 3) := by decide +kernel
theorem dX11_lineOf_125 : decode cX11_lineOf 125 = .ok (.aload_n 0, 1) := by decide +kernel
theorem dX11_lineOf_126 : decode cX11_lineOf 126 = .ok (.iconst 2, 1) := by decide +kernel
theorem dX11_lineOf_127 : decode cX11_lineOf 127 = .ok (.iload_n 1, 1) := by decide +kernel
theorem dX11_lineOf_128 : decode cX11_lineOf 128 = .ok (.iadd, 1) := by decide +kernel
theorem dX11_lineOf_129 : decode cX11_lineOf 129 = .ok (.putfield 180, 3) := by decide +kernel
theorem dX11_lineOf_132 : decode cX11_lineOf 132 = .ok (.aload_n 0, 1) := by decide +kernel
theorem dX11_lineOf_133 : decode cX11_lineOf 133 = .ok (.getfield 22, 3) := by decide +kernel
theorem dX11_lineOf_136 : decode cX11_lineOf 136 = .ok (.aload_n 0, 1) := by decide +kernel
theorem dX11_lineOf_137 : decode cX11_lineOf 137 = .ok (.getfield 180, 3) := by decide +kernel
theorem dX11_lineOf_140 : decode cX11_lineOf 140 = .ok (.iconst 1, 1) := by decide +kernel
theorem dX11_lineOf_141 : decode cX11_lineOf 141 = .ok (.bastore, 1) := by decide +kernel
theorem dX11_lineOf_142 : decode cX11_lineOf 142 = .ok (.aload_n 0, 1) := by decide +kernel
theorem dX11_lineOf_143 : decode cX11_lineOf 143 = .ok (.invokevirtual 183, 3) := by decide +kernel
theorem dX11_lineOf_146 : decode cX11_lineOf 146 = .ok (.aload_n 0, 1) := by decide +kernel
theorem dX11_lineOf_147 : decode cX11_lineOf 147 = .ok (.getfield 161, 3) := by decide +kernel
theorem dX11_lineOf_150 : decode cX11_lineOf 150 = .ok (.ifCond .eq 4, 3) := by decide +kernel
theorem dX11_lineOf_153 : decode cX11_lineOf 153 = .ok (.return_, 1) := by decide +kernel
theorem dX11_lineOf_154 : decode cX11_lineOf 154 = .ok (.aload_n 0, 1) := by decide +kernel
theorem dX11_lineOf_155 : decode cX11_lineOf 155 = .ok (.bipush 59, 2) := by decide +kernel
theorem dX11_lineOf_157 : decode cX11_lineOf 157 = .ok (.invokevirtual 186, 3) := by decide +kernel
theorem dX11_lineOf_160 : decode cX11_lineOf 160 = .ok (.ifCond .ne 11, 3) := by decide +kernel
theorem dX11_lineOf_163 : decode cX11_lineOf 163 = .ok (.aload_n 0, 1) := by decide +kernel
theorem dX11_lineOf_164 : decode cX11_lineOf 164 = .ok (.iconst 1, 1) := by decide +kernel
theorem dX11_lineOf_165 : decode cX11_lineOf 165 = .ok (.invokevirtual 167, 3) := by decide +kernel
theorem dX11_lineOf_168 : decode cX11_lineOf 168 = .ok (.goto 7, 3) := by decide +kernel
theorem dX11_lineOf_171 : decode cX11_lineOf 171 = .ok (.aload_n 0, 1) := by decide +kernel
theorem dX11_lineOf_172 : decode cX11_lineOf 172 = .ok (.invokevirtual 174, 3) := by decide +kernel
theorem dX11_lineOf_175 : decode cX11_lineOf 175 = .ok (.aload_n 0, 1) := by decide +kernel
theorem dX11_lineOf_176 : decode cX11_lineOf 176 = .ok (.dup, 1) := by decide +kernel
theorem dX11_lineOf_177 : decode cX11_lineOf 177 = .ok (.getfield 189, 3) := by decide +kernel
theorem dX11_lineOf_180 : decode cX11_lineOf 180 = .ok (.iconst 1, 1) := by decide +kernel
theorem dX11_lineOf_181 : decode cX11_lineOf 181 = .ok (.iadd, 1) := by decide +kernel
theorem dX11_lineOf_182 : decode cX11_lineOf 182 = .ok (.putfield 189, 3) := by decide +kernel
theorem dX11_lineOf_185 : decode cX11_lineOf 185 = .ok (.return_, 1) := by decide +kernel
theorem dX11_bind_0 : decode cX11_bind 0 = .ok (.iload_n 0, 1) := by decide +kernel
theorem dX11_bind_1 : decode cX11_bind 1 = .ok (.lookupswitch 128 #[(42, 125), (43, 123), (45, 123), (47, 125), (60, 121), (61, 121), (62, 121), (256, 121), (257, 121), (258, 121), (260, 119), (261, 117), (262, 115)], 115) := by decide +kernel
theorem dX11_bind_116 : decode cX11_bind 116 = .ok (.iconst 1, 1) := by decide +kernel
theorem dX11_bind_117 : decode cX11_bind 117 = .ok (.ireturn, 1) := by decide +kernel
theorem dX11_bind_118 : decode cX11_bind 118 = .ok (.iconst 2, 1) := by decide +kernel
theorem dX11_bind_119 : decode cX11_bind 119 = .ok (.ireturn, 1) := by decide +kernel
theorem dX11_bind_120 : decode cX11_bind 120 = .ok (.iconst 3, 1) := by decide +kernel
theorem dX11_bind_121 : decode cX11_bind 121 = .ok (.ireturn, 1) := by decide +kernel
theorem dX11_bind_122 : decode cX11_bind 122 = .ok (.iconst 4, 1) := by decide +kernel
theorem dX11_bind_123 : decode cX11_bind 123 = .ok (.ireturn, 1) := by decide +kernel
theorem dX11_bind_124 : decode cX11_bind 124 = .ok (.iconst 5, 1) := by decide +kernel
theorem dX11_bind_125 : decode cX11_bind 125 = .ok (.ireturn, 1) := by decide +kernel
theorem dX11_bind_126 : decode cX11_bind 126 = .ok (.bipush 6, 2) := by decide +kernel
theorem dX11_bind_128 : decode cX11_bind 128 = .ok (.ireturn, 1) := by decide +kernel
theorem dX11_bind_129 : decode cX11_bind 129 = .ok (.iconst 0, 1) := by decide +kernel
theorem dX11_bind_130 : decode cX11_bind 130 = .ok (.ireturn, 1) := by decide +kernel
theorem dX11_knot_0 : decode cX11_knot 0 = .ok (.aload_n 0, 1) := by decide +kernel
theorem dX11_knot_1 : decode cX11_knot 1 = .ok (.getfield 192, 3) := by decide +kernel
theorem dX11_knot_4 : decode cX11_knot 4 = .ok (.bipush 64, 2) := by decide +kernel
theorem dX11_knot_6 : decode cX11_knot 6 = .ok (.if_icmp .ne 11, 3) := by decide +kernel
theorem dX11_knot_9 : decode cX11_knot 9 = .ok (.aload_n 0, 1) := by decide +kernel
theorem dX11_knot_10 : decode cX11_knot 10 = .ok (.iconst 2, 1) := by decide +kernel
theorem dX11_knot_11 : decode cX11_knot 11 = .ok (.invokevirtual 167, 3) := by decide +kernel
theorem dX11_knot_14 : decode cX11_knot 14 = .ok (.goto 13, 3) := by decide +kernel
theorem dX11_knot_17 : decode cX11_knot 17 = .ok (.aload_n 0, 1) := by decide +kernel
theorem dX11_knot_18 : decode cX11_knot 18 = .ok (.dup, 1) := by decide +kernel
theorem dX11_knot_19 : decode cX11_knot 19 = .ok (.getfield 192, 3) := by decide +kernel
theorem dX11_knot_22 : decode cX11_knot 22 = .ok (.iconst 1, 1) := by decide +kernel
theorem dX11_knot_23 : decode cX11_knot 23 = .ok (.iadd, 1) := by decide +kernel
theorem dX11_knot_24 : decode cX11_knot 24 = .ok (.putfield 192, 3) := by decide +kernel
theorem dX11_knot_27 : decode cX11_knot 27 = .ok (.return_, 1) := by decide +kernel
theorem dX11_out_0 : decode cX11_out 0 = .ok (.aload_n 0, 1) := by decide +kernel
theorem dX11_out_1 : decode cX11_out 1 = .ok (.getfield 13, 3) := by decide +kernel
theorem dX11_out_4 : decode cX11_out 4 = .ok (.bipush 64, 2) := by decide +kernel
theorem dX11_out_6 : decode cX11_out 6 = .ok (.aload_n 0, 1) := by decide +kernel
theorem dX11_out_7 : decode cX11_out 7 = .ok (.getfield 180, 3) := by decide +kernel
theorem dX11_out_10 : decode cX11_out 10 = .ok (.imul, 1) := by decide +kernel
theorem dX11_out_11 : decode cX11_out 11 = .ok (.aload_n 0, 1) := by decide +kernel
theorem dX11_out_12 : decode cX11_out 12 = .ok (.getfield 19, 3) := by decide +kernel
theorem dX11_out_15 : decode cX11_out 15 = .ok (.aload_n 0, 1) := by decide +kernel
theorem dX11_out_16 : decode cX11_out 16 = .ok (.getfield 180, 3) := by decide +kernel
theorem dX11_out_19 : decode cX11_out 19 = .ok (.iaload, 1) := by decide +kernel
theorem dX11_out_20 : decode cX11_out 20 = .ok (.iadd, 1) := by decide +kernel
theorem dX11_out_21 : decode cX11_out 21 = .ok (.iload_n 1, 1) := by decide +kernel
theorem dX11_out_22 : decode cX11_out 22 = .ok (.iastore, 1) := by decide +kernel
theorem dX11_out_23 : decode cX11_out 23 = .ok (.aload_n 0, 1) := by decide +kernel
theorem dX11_out_24 : decode cX11_out 24 = .ok (.getfield 16, 3) := by decide +kernel
theorem dX11_out_27 : decode cX11_out 27 = .ok (.bipush 64, 2) := by decide +kernel
theorem dX11_out_29 : decode cX11_out 29 = .ok (.aload_n 0, 1) := by decide +kernel
theorem dX11_out_30 : decode cX11_out 30 = .ok (.getfield 180, 3) := by decide +kernel
theorem dX11_out_33 : decode cX11_out 33 = .ok (.imul, 1) := by decide +kernel
theorem dX11_out_34 : decode cX11_out 34 = .ok (.aload_n 0, 1) := by decide +kernel
theorem dX11_out_35 : decode cX11_out 35 = .ok (.getfield 19, 3) := by decide +kernel
theorem dX11_out_38 : decode cX11_out 38 = .ok (.aload_n 0, 1) := by decide +kernel
theorem dX11_out_39 : decode cX11_out 39 = .ok (.getfield 180, 3) := by decide +kernel
theorem dX11_out_42 : decode cX11_out 42 = .ok (.iaload, 1) := by decide +kernel
theorem dX11_out_43 : decode cX11_out 43 = .ok (.iadd, 1) := by decide +kernel
theorem dX11_out_44 : decode cX11_out 44 = .ok (.iload_n 2, 1) := by decide +kernel
theorem dX11_out_45 : decode cX11_out 45 = .ok (.iastore, 1) := by decide +kernel
theorem dX11_out_46 : decode cX11_out 46 = .ok (.aload_n 0, 1) := by decide +kernel
theorem dX11_out_47 : decode cX11_out 47 = .ok (.getfield 19, 3) := by decide +kernel
theorem dX11_out_50 : decode cX11_out 50 = .ok (.aload_n 0, 1) := by decide +kernel
theorem dX11_out_51 : decode cX11_out 51 = .ok (.getfield 180, 3) := by decide +kernel
theorem dX11_out_54 : decode cX11_out 54 = .ok (.dup2, 1) := by decide +kernel
theorem dX11_out_55 : decode cX11_out 55 = .ok (.iaload, 1) := by decide +kernel
theorem dX11_out_56 : decode cX11_out 56 = .ok (.iconst 1, 1) := by decide +kernel
theorem dX11_out_57 : decode cX11_out 57 = .ok (.iadd, 1) := by decide +kernel
theorem dX11_out_58 : decode cX11_out 58 = .ok (.iastore, 1) := by decide +kernel
theorem dX11_out_59 : decode cX11_out 59 = .ok (.return_, 1) := by decide +kernel
theorem dX11_pour_0 : decode cX11_pour 0 = .ok (.aload_n 0, 1) := by decide +kernel
theorem dX11_pour_1 : decode cX11_pour 1 = .ok (.getfield 195, 3) := by decide +kernel
theorem dX11_pour_4 : decode cX11_pour 4 = .ok (.ifCond .le 48, 3) := by decide +kernel
theorem dX11_pour_7 : decode cX11_pour 7 = .ok (.aload_n 0, 1) := by decide +kernel
theorem dX11_pour_8 : decode cX11_pour 8 = .ok (.getfield 33, 3) := by decide +kernel
theorem dX11_pour_11 : decode cX11_pour 11 = .ok (.aload_n 0, 1) := by decide +kernel
theorem dX11_pour_12 : decode cX11_pour 12 = .ok (.getfield 195, 3) := by decide +kernel
theorem dX11_pour_15 : decode cX11_pour 15 = .ok (.iconst 1, 1) := by decide +kernel
theorem dX11_pour_16 : decode cX11_pour 16 = .ok (.isub, 1) := by decide +kernel
theorem dX11_pour_17 : decode cX11_pour 17 = .ok (.iaload, 1) := by decide +kernel
theorem dX11_pour_18 : decode cX11_pour 18 = .ok (.invokestatic 198, 3) := by decide +kernel
theorem dX11_pour_21 : decode cX11_pour 21 = .ok (.iload_n 1, 1) := by decide +kernel
theorem dX11_pour_22 : decode cX11_pour 22 = .ok (.if_icmp .lt 30, 3) := by decide +kernel
theorem dX11_pour_25 : decode cX11_pour 25 = .ok (.aload_n 0, 1) := by decide +kernel
theorem dX11_pour_26 : decode cX11_pour 26 = .ok (.dup, 1) := by decide +kernel
theorem dX11_pour_27 : decode cX11_pour 27 = .ok (.getfield 195, 3) := by decide +kernel
theorem dX11_pour_30 : decode cX11_pour 30 = .ok (.iconst 1, 1) := by decide +kernel
theorem dX11_pour_31 : decode cX11_pour 31 = .ok (.isub, 1) := by decide +kernel
theorem dX11_pour_32 : decode cX11_pour 32 = .ok (.putfield 195, 3) := by decide +kernel
theorem dX11_pour_35 : decode cX11_pour 35 = .ok (.aload_n 0, 1) := by decide +kernel
theorem dX11_pour_36 : decode cX11_pour 36 = .ok (.iconst 2, 1) := by decide +kernel
theorem dX11_pour_37 : decode cX11_pour 37 = .ok (.aload_n 0, 1) := by decide +kernel
theorem dX11_pour_38 : decode cX11_pour 38 = .ok (.getfield 33, 3) := by decide +kernel
theorem dX11_pour_41 : decode cX11_pour 41 = .ok (.aload_n 0, 1) := by decide +kernel
theorem dX11_pour_42 : decode cX11_pour 42 = .ok (.getfield 195, 3) := by decide +kernel
theorem dX11_pour_45 : decode cX11_pour 45 = .ok (.iaload, 1) := by decide +kernel
theorem dX11_pour_46 : decode cX11_pour 46 = .ok (.invokevirtual 202, 3) := by decide +kernel
theorem dX11_pour_49 : decode cX11_pour 49 = .ok (.goto (-49), 3) := by decide +kernel
theorem dX11_pour_52 : decode cX11_pour 52 = .ok (.return_, 1) := by decide +kernel
theorem dX11_waits_0 : decode cX11_waits 0 = .ok (.aload_n 0, 1) := by decide +kernel
theorem dX11_waits_1 : decode cX11_waits 1 = .ok (.getfield 33, 3) := by decide +kernel
theorem dX11_waits_4 : decode cX11_waits 4 = .ok (.aload_n 0, 1) := by decide +kernel
theorem dX11_waits_5 : decode cX11_waits 5 = .ok (.getfield 195, 3) := by decide +kernel
theorem dX11_waits_8 : decode cX11_waits 8 = .ok (.iload_n 1, 1) := by decide +kernel
theorem dX11_waits_9 : decode cX11_waits 9 = .ok (.iastore, 1) := by decide +kernel
theorem dX11_waits_10 : decode cX11_waits 10 = .ok (.aload_n 0, 1) := by decide +kernel
theorem dX11_waits_11 : decode cX11_waits 11 = .ok (.dup, 1) := by decide +kernel
theorem dX11_waits_12 : decode cX11_waits 12 = .ok (.getfield 195, 3) := by decide +kernel
theorem dX11_waits_15 : decode cX11_waits 15 = .ok (.iconst 1, 1) := by decide +kernel
theorem dX11_waits_16 : decode cX11_waits 16 = .ok (.iadd, 1) := by decide +kernel
theorem dX11_waits_17 : decode cX11_waits 17 = .ok (.putfield 195, 3) := by decide +kernel
theorem dX11_waits_20 : decode cX11_waits 20 = .ok (.aload_n 0, 1) := by decide +kernel
theorem dX11_waits_21 : decode cX11_waits 21 = .ok (.invokevirtual 174, 3) := by decide +kernel
theorem dX11_waits_24 : decode cX11_waits 24 = .ok (.return_, 1) := by decide +kernel
theorem dX11_between_0 : decode cX11_between 0 = .ok (.aload_n 0, 1) := by decide +kernel
theorem dX11_between_1 : decode cX11_between 1 = .ok (.getfield 134, 3) := by decide +kernel
theorem dX11_between_4 : decode cX11_between 4 = .ok (.ifCond .ne 33, 3) := by decide +kernel
theorem dX11_between_7 : decode cX11_between 7 = .ok (.aload_n 0, 1) := by decide +kernel
theorem dX11_between_8 : decode cX11_between 8 = .ok (.getfield 144, 3) := by decide +kernel
theorem dX11_between_11 : decode cX11_between 11 = .ok (.iconst 3, 1) := by decide +kernel
theorem dX11_between_12 : decode cX11_between 12 = .ok (.if_icmp .ne 9, 3) := by decide +kernel
theorem dX11_between_15 : decode cX11_between 15 = .ok (.sipush 262, 3) := by decide +kernel
theorem dX11_between_18 : decode cX11_between 18 = .ok (.goto 18, 3) := by decide +kernel
theorem dX11_between_21 : decode cX11_between 21 = .ok (.aload_n 0, 1) := by decide +kernel
theorem dX11_between_22 : decode cX11_between 22 = .ok (.getfield 144, 3) := by decide +kernel
theorem dX11_between_25 : decode cX11_between 25 = .ok (.iconst 4, 1) := by decide +kernel
theorem dX11_between_26 : decode cX11_between 26 = .ok (.if_icmp .ne 9, 3) := by decide +kernel
theorem dX11_between_29 : decode cX11_between 29 = .ok (.sipush 261, 3) := by decide +kernel
theorem dX11_between_32 : decode cX11_between 32 = .ok (.goto 4, 3) := by decide +kernel
theorem dX11_between_35 : decode cX11_between 35 = .ok (.iconst 0, 1) := by decide +kernel
theorem dX11_between_36 : decode cX11_between 36 = .ok (.ireturn, 1) := by decide +kernel
theorem dX11_between_37 : decode cX11_between 37 = .ok (.aload_n 0, 1) := by decide +kernel
theorem dX11_between_38 : decode cX11_between 38 = .ok (.getfield 134, 3) := by decide +kernel
theorem dX11_between_41 : decode cX11_between 41 = .ok (.iconst 2, 1) := by decide +kernel
theorem dX11_between_42 : decode cX11_between 42 = .ok (.if_icmp .ne 38, 3) := by decide +kernel
theorem dX11_between_45 : decode cX11_between 45 = .ok (.aload_n 0, 1) := by decide +kernel
theorem dX11_between_46 : decode cX11_between 46 = .ok (.getfield 144, 3) := by decide +kernel
theorem dX11_between_49 : decode cX11_between 49 = .ok (.bipush 40, 2) := by decide +kernel
theorem dX11_between_51 : decode cX11_between 51 = .ok (.if_icmp .eq 29, 3) := by decide +kernel
theorem dX11_between_54 : decode cX11_between 54 = .ok (.aload_n 0, 1) := by decide +kernel
theorem dX11_between_55 : decode cX11_between 55 = .ok (.getfield 144, 3) := by decide +kernel
theorem dX11_between_58 : decode cX11_between 58 = .ok (.bipush 41, 2) := by decide +kernel
theorem dX11_between_60 : decode cX11_between 60 = .ok (.if_icmp .eq 20, 3) := by decide +kernel
theorem dX11_between_63 : decode cX11_between 63 = .ok (.aload_n 0, 1) := by decide +kernel
theorem dX11_between_64 : decode cX11_between 64 = .ok (.getfield 144, 3) := by decide +kernel
theorem dX11_between_67 : decode cX11_between 67 = .ok (.invokestatic 198, 3) := by decide +kernel
theorem dX11_between_70 : decode cX11_between 70 = .ok (.ifCond .le 10, 3) := by decide +kernel
theorem dX11_between_73 : decode cX11_between 73 = .ok (.aload_n 0, 1) := by decide +kernel
theorem dX11_between_74 : decode cX11_between 74 = .ok (.getfield 144, 3) := by decide +kernel
theorem dX11_between_77 : decode cX11_between 77 = .ok (.goto 4, 3) := by decide +kernel
theorem dX11_between_80 : decode cX11_between 80 = .ok (.iconst 0, 1) := by decide +kernel
theorem dX11_between_81 : decode cX11_between 81 = .ok (.ireturn, 1) := by decide +kernel
theorem dX11_expression_0 : decode cX11_expression 0 = .ok (.aload_n 0, 1) := by decide +kernel
theorem dX11_expression_1 : decode cX11_expression 1 = .ok (.iconst 0, 1) := by decide +kernel
theorem dX11_expression_2 : decode cX11_expression 2 = .ok (.putfield 195, 3) := by decide +kernel
theorem dX11_expression_5 : decode cX11_expression 5 = .ok (.aload_n 0, 1) := by decide +kernel
theorem dX11_expression_6 : decode cX11_expression 6 = .ok (.iconst 0, 1) := by decide +kernel
theorem dX11_expression_7 : decode cX11_expression 7 = .ok (.putfield 206, 3) := by decide +kernel
theorem dX11_expression_10 : decode cX11_expression 10 = .ok (.iconst 0, 1) := by decide +kernel
theorem dX11_expression_11 : decode cX11_expression 11 = .ok (.istore_n 1, 1) := by decide +kernel
theorem dX11_expression_12 : decode cX11_expression 12 = .ok (.iconst 1, 1) := by decide +kernel
theorem dX11_expression_13 : decode cX11_expression 13 = .ok (.istore_n 2, 1) := by decide +kernel
theorem dX11_expression_14 : decode cX11_expression 14 = .ok (.aload_n 0, 1) := by decide +kernel
theorem dX11_expression_15 : decode cX11_expression 15 = .ok (.getfield 161, 3) := by decide +kernel
theorem dX11_expression_18 : decode cX11_expression 18 = .ok (.ifCond .ne 91, 3) := by decide +kernel
theorem dX11_expression_21 : decode cX11_expression 21 = .ok (.iload_n 2, 1) := by decide +kernel
theorem dX11_expression_22 : decode cX11_expression 22 = .ok (.ifCond .eq 87, 3) := by decide +kernel
theorem dX11_expression_25 : decode cX11_expression 25 = .ok (.iload_n 1, 1) := by decide +kernel
theorem dX11_expression_26 : decode cX11_expression 26 = .ok (.ifCond .ne 11, 3) := by decide +kernel
theorem dX11_expression_29 : decode cX11_expression 29 = .ok (.aload_n 0, 1) := by decide +kernel
theorem dX11_expression_30 : decode cX11_expression 30 = .ok (.invokevirtual 209, 3) := by decide +kernel
theorem dX11_expression_33 : decode cX11_expression 33 = .ok (.istore_n 1, 1) := by decide +kernel
theorem dX11_expression_34 : decode cX11_expression 34 = .ok (.goto (-20), 3) := by decide +kernel
theorem dX11_expression_37 : decode cX11_expression 37 = .ok (.aload_n 0, 1) := by decide +kernel
theorem dX11_expression_38 : decode cX11_expression 38 = .ok (.invokevirtual 213, 3) := by decide +kernel
theorem dX11_expression_41 : decode cX11_expression 41 = .ok (.istore_n 3, 1) := by decide +kernel
theorem dX11_expression_42 : decode cX11_expression 42 = .ok (.iload_n 3, 1) := by decide +kernel
theorem dX11_expression_43 : decode cX11_expression 43 = .ok (.ifCond .eq 13, 3) := by decide +kernel
theorem dX11_expression_46 : decode cX11_expression 46 = .ok (.aload_n 0, 1) := by decide +kernel
theorem dX11_expression_47 : decode cX11_expression 47 = .ok (.iload_n 3, 1) := by decide +kernel
theorem dX11_expression_48 : decode cX11_expression 48 = .ok (.invokevirtual 216, 3) := by decide +kernel
theorem dX11_expression_51 : decode cX11_expression 51 = .ok (.iconst 0, 1) := by decide +kernel
theorem dX11_expression_52 : decode cX11_expression 52 = .ok (.istore_n 1, 1) := by decide +kernel
theorem dX11_expression_53 : decode cX11_expression 53 = .ok (.goto 53, 3) := by decide +kernel
theorem dX11_expression_56 : decode cX11_expression 56 = .ok (.aload_n 0, 1) := by decide +kernel
theorem dX11_expression_57 : decode cX11_expression 57 = .ok (.bipush 41, 2) := by decide +kernel
theorem dX11_expression_59 : decode cX11_expression 59 = .ok (.invokevirtual 186, 3) := by decide +kernel
theorem dX11_expression_62 : decode cX11_expression 62 = .ok (.ifCond .eq 42, 3) := by decide +kernel
theorem dX11_expression_65 : decode cX11_expression 65 = .ok (.aload_n 0, 1) := by decide +kernel
theorem dX11_expression_66 : decode cX11_expression 66 = .ok (.getfield 206, 3) := by decide +kernel
theorem dX11_expression_69 : decode cX11_expression 69 = .ok (.ifCond .le 35, 3) := by decide +kernel
theorem dX11_expression_72 : decode cX11_expression 72 = .ok (.aload_n 0, 1) := by decide +kernel
theorem dX11_expression_73 : decode cX11_expression 73 = .ok (.iconst 1, 1) := by decide +kernel
theorem dX11_expression_74 : decode cX11_expression 74 = .ok (.invokevirtual 219, 3) := by decide +kernel
theorem dX11_expression_77 : decode cX11_expression 77 = .ok (.aload_n 0, 1) := by decide +kernel
theorem dX11_expression_78 : decode cX11_expression 78 = .ok (.dup, 1) := by decide +kernel
theorem dX11_expression_79 : decode cX11_expression 79 = .ok (.getfield 195, 3) := by decide +kernel
theorem dX11_expression_82 : decode cX11_expression 82 = .ok (.iconst 1, 1) := by decide +kernel
theorem dX11_expression_83 : decode cX11_expression 83 = .ok (.isub, 1) := by decide +kernel
theorem dX11_expression_84 : decode cX11_expression 84 = .ok (.putfield 195, 3) := by decide +kernel
theorem dX11_expression_87 : decode cX11_expression 87 = .ok (.aload_n 0, 1) := by decide +kernel
theorem dX11_expression_88 : decode cX11_expression 88 = .ok (.dup, 1) := by decide +kernel
theorem dX11_expression_89 : decode cX11_expression 89 = .ok (.getfield 206, 3) := by decide +kernel
theorem dX11_expression_92 : decode cX11_expression 92 = .ok (.iconst 1, 1) := by decide +kernel
theorem dX11_expression_93 : decode cX11_expression 93 = .ok (.isub, 1) := by decide +kernel
theorem dX11_expression_94 : decode cX11_expression 94 = .ok (.putfield 206, 3) := by decide +kernel
theorem dX11_expression_97 : decode cX11_expression 97 = .ok (.aload_n 0, 1) := by decide +kernel
theorem dX11_expression_98 : decode cX11_expression 98 = .ok (.invokevirtual 174, 3) := by decide +kernel
theorem dX11_expression_101 : decode cX11_expression 101 = .ok (.goto 5, 3) := by decide +kernel
theorem dX11_expression_104 : decode cX11_expression 104 = .ok (.iconst 0, 1) := by decide +kernel
theorem dX11_expression_105 : decode cX11_expression 105 = .ok (.istore_n 2, 1) := by decide +kernel
theorem dX11_expression_106 : decode cX11_expression 106 = .ok (.goto (-92), 3) := by decide +kernel
theorem dX11_expression_109 : decode cX11_expression 109 = .ok (.aload_n 0, 1) := by decide +kernel
theorem dX11_expression_110 : decode cX11_expression 110 = .ok (.getfield 161, 3) := by decide +kernel
theorem dX11_expression_113 : decode cX11_expression 113 = .ok (.ifCond .eq 4, 3) := by decide +kernel
theorem dX11_expression_116 : decode cX11_expression 116 = .ok (.return_, 1) := by decide +kernel
theorem dX11_expression_117 : decode cX11_expression 117 = .ok (.aload_n 0, 1) := by decide +kernel
theorem dX11_expression_118 : decode cX11_expression 118 = .ok (.getfield 206, 3) := by decide +kernel
theorem dX11_expression_121 : decode cX11_expression 121 = .ok (.ifCond .le 8, 3) := by decide +kernel
theorem dX11_expression_124 : decode cX11_expression 124 = .ok (.aload_n 0, 1) := by decide +kernel
theorem dX11_expression_125 : decode cX11_expression 125 = .ok (.iconst 1, 1) := by decide +kernel
theorem dX11_expression_126 : decode cX11_expression 126 = .ok (.invokevirtual 167, 3) := by decide +kernel
theorem dX11_expression_129 : decode cX11_expression 129 = .ok (.aload_n 0, 1) := by decide +kernel
theorem dX11_expression_130 : decode cX11_expression 130 = .ok (.getfield 161, 3) := by decide +kernel
theorem dX11_expression_133 : decode cX11_expression 133 = .ok (.ifCond .ne 8, 3) := by decide +kernel
theorem dX11_expression_136 : decode cX11_expression 136 = .ok (.aload_n 0, 1) := by decide +kernel
theorem dX11_expression_137 : decode cX11_expression 137 = .ok (.iconst 1, 1) := by decide +kernel
theorem dX11_expression_138 : decode cX11_expression 138 = .ok (.invokevirtual 219, 3) := by decide +kernel
theorem dX11_expression_141 : decode cX11_expression 141 = .ok (.return_, 1) := by decide +kernel
theorem dX11_sign_0 : decode cX11_sign 0 = .ok (.iload_n 1, 1) := by decide +kernel
theorem dX11_sign_1 : decode cX11_sign 1 = .ok (.invokestatic 198, 3) := by decide +kernel
theorem dX11_sign_4 : decode cX11_sign 4 = .ok (.iconst 4, 1) := by decide +kernel
theorem dX11_sign_5 : decode cX11_sign 5 = .ok (.if_icmp .ne 41, 3) := by decide +kernel
theorem dX11_sign_8 : decode cX11_sign 8 = .ok (.aload_n 0, 1) := by decide +kernel
theorem dX11_sign_9 : decode cX11_sign 9 = .ok (.iconst 5, 1) := by decide +kernel
theorem dX11_sign_10 : decode cX11_sign 10 = .ok (.invokevirtual 219, 3) := by decide +kernel
theorem dX11_sign_13 : decode cX11_sign 13 = .ok (.aload_n 0, 1) := by decide +kernel
theorem dX11_sign_14 : decode cX11_sign 14 = .ok (.getfield 195, 3) := by decide +kernel
theorem dX11_sign_17 : decode cX11_sign 17 = .ok (.ifCond .le 37, 3) := by decide +kernel
theorem dX11_sign_20 : decode cX11_sign 20 = .ok (.aload_n 0, 1) := by decide +kernel
theorem dX11_sign_21 : decode cX11_sign 21 = .ok (.getfield 33, 3) := by decide +kernel
theorem dX11_sign_24 : decode cX11_sign 24 = .ok (.aload_n 0, 1) := by decide +kernel
theorem dX11_sign_25 : decode cX11_sign 25 = .ok (.getfield 195, 3) := by decide +kernel
theorem dX11_sign_28 : decode cX11_sign 28 = .ok (.iconst 1, 1) := by decide +kernel
theorem dX11_sign_29 : decode cX11_sign 29 = .ok (.isub, 1) := by decide +kernel
theorem dX11_sign_30 : decode cX11_sign 30 = .ok (.iaload, 1) := by decide +kernel
theorem dX11_sign_31 : decode cX11_sign 31 = .ok (.invokestatic 198, 3) := by decide +kernel
theorem dX11_sign_34 : decode cX11_sign 34 = .ok (.iconst 4, 1) := by decide +kernel
theorem dX11_sign_35 : decode cX11_sign 35 = .ok (.if_icmp .ne 19, 3) := by decide +kernel
theorem dX11_sign_38 : decode cX11_sign 38 = .ok (.aload_n 0, 1) := by decide +kernel
theorem dX11_sign_39 : decode cX11_sign 39 = .ok (.iconst 1, 1) := by decide +kernel
theorem dX11_sign_40 : decode cX11_sign 40 = .ok (.invokevirtual 167, 3) := by decide +kernel
theorem dX11_sign_43 : decode cX11_sign 43 = .ok (.goto 11, 3) := by decide +kernel
theorem dX11_sign_46 : decode cX11_sign 46 = .ok (.aload_n 0, 1) := by decide +kernel
theorem dX11_sign_47 : decode cX11_sign 47 = .ok (.iload_n 1, 1) := by decide +kernel
theorem dX11_sign_48 : decode cX11_sign 48 = .ok (.invokestatic 198, 3) := by decide +kernel
theorem dX11_sign_51 : decode cX11_sign 51 = .ok (.invokevirtual 219, 3) := by decide +kernel
theorem dX11_sign_54 : decode cX11_sign 54 = .ok (.aload_n 0, 1) := by decide +kernel
theorem dX11_sign_55 : decode cX11_sign 55 = .ok (.getfield 161, 3) := by decide +kernel
theorem dX11_sign_58 : decode cX11_sign 58 = .ok (.ifCond .ne 7, 3) := by decide +kernel
theorem dX11_sign_61 : decode cX11_sign 61 = .ok (.aload_n 0, 1) := by decide +kernel
theorem dX11_sign_62 : decode cX11_sign 62 = .ok (.invokevirtual 222, 3) := by decide +kernel
theorem dX11_sign_65 : decode cX11_sign 65 = .ok (.aload_n 0, 1) := by decide +kernel
theorem dX11_sign_66 : decode cX11_sign 66 = .ok (.getfield 161, 3) := by decide +kernel
theorem dX11_sign_69 : decode cX11_sign 69 = .ok (.ifCond .ne 8, 3) := by decide +kernel
theorem dX11_sign_72 : decode cX11_sign 72 = .ok (.aload_n 0, 1) := by decide +kernel
theorem dX11_sign_73 : decode cX11_sign 73 = .ok (.iload_n 1, 1) := by decide +kernel
theorem dX11_sign_74 : decode cX11_sign 74 = .ok (.invokevirtual 225, 3) := by decide +kernel
theorem dX11_sign_77 : decode cX11_sign 77 = .ok (.return_, 1) := by decide +kernel
theorem dX11_operand_0 : decode cX11_operand 0 = .ok (.aload_n 0, 1) := by decide +kernel
theorem dX11_operand_1 : decode cX11_operand 1 = .ok (.getfield 134, 3) := by decide +kernel
theorem dX11_operand_4 : decode cX11_operand 4 = .ok (.iconst 1, 1) := by decide +kernel
theorem dX11_operand_5 : decode cX11_operand 5 = .ok (.if_icmp .ne 53, 3) := by decide +kernel
theorem dX11_operand_8 : decode cX11_operand 8 = .ok (.aload_n 0, 1) := by decide +kernel
theorem dX11_operand_9 : decode cX11_operand 9 = .ok (.getfield 144, 3) := by decide +kernel
theorem dX11_operand_12 : decode cX11_operand 12 = .ok (.sipush 9999, 3) := by decide +kernel
theorem dX11_operand_15 : decode cX11_operand 15 = .ok (.if_icmp .le 8, 3) := by decide +kernel
theorem dX11_operand_18 : decode cX11_operand 18 = .ok (.aload_n 0, 1) := by decide +kernel
theorem dX11_operand_19 : decode cX11_operand 19 = .ok (.iconst 2, 1) := by decide +kernel
theorem dX11_operand_20 : decode cX11_operand 20 = .ok (.invokevirtual 167, 3) := by decide +kernel
theorem dX11_operand_23 : decode cX11_operand 23 = .ok (.aload_n 0, 1) := by decide +kernel
theorem dX11_operand_24 : decode cX11_operand 24 = .ok (.getfield 161, 3) := by decide +kernel
theorem dX11_operand_27 : decode cX11_operand 27 = .ok (.ifCond .ne 7, 3) := by decide +kernel
theorem dX11_operand_30 : decode cX11_operand 30 = .ok (.aload_n 0, 1) := by decide +kernel
theorem dX11_operand_31 : decode cX11_operand 31 = .ok (.invokevirtual 222, 3) := by decide +kernel
theorem dX11_operand_34 : decode cX11_operand 34 = .ok (.aload_n 0, 1) := by decide +kernel
theorem dX11_operand_35 : decode cX11_operand 35 = .ok (.getfield 161, 3) := by decide +kernel
theorem dX11_operand_38 : decode cX11_operand 38 = .ok (.ifCond .eq 5, 3) := by decide +kernel
theorem dX11_operand_41 : decode cX11_operand 41 = .ok (.iconst 0, 1) := by decide +kernel
theorem dX11_operand_42 : decode cX11_operand 42 = .ok (.ireturn, 1) := by decide +kernel
theorem dX11_operand_43 : decode cX11_operand 43 = .ok (.aload_n 0, 1) := by decide +kernel
theorem dX11_operand_44 : decode cX11_operand 44 = .ok (.iconst 0, 1) := by decide +kernel
theorem dX11_operand_45 : decode cX11_operand 45 = .ok (.aload_n 0, 1) := by decide +kernel
theorem dX11_operand_46 : decode cX11_operand 46 = .ok (.getfield 144, 3) := by decide +kernel
theorem dX11_operand_49 : decode cX11_operand 49 = .ok (.invokevirtual 202, 3) := by decide +kernel
theorem dX11_operand_52 : decode cX11_operand 52 = .ok (.aload_n 0, 1) := by decide +kernel
theorem dX11_operand_53 : decode cX11_operand 53 = .ok (.invokevirtual 174, 3) := by decide +kernel
theorem dX11_operand_56 : decode cX11_operand 56 = .ok (.iconst 1, 1) := by decide +kernel
theorem dX11_operand_57 : decode cX11_operand 57 = .ok (.ireturn, 1) := by decide +kernel
theorem dX11_operand_58 : decode cX11_operand 58 = .ok (.aload_n 0, 1) := by decide +kernel
theorem dX11_operand_59 : decode cX11_operand 59 = .ok (.getfield 134, 3) := by decide +kernel
theorem dX11_operand_62 : decode cX11_operand 62 = .ok (.ifCond .ne 43, 3) := by decide +kernel
theorem dX11_operand_65 : decode cX11_operand 65 = .ok (.aload_n 0, 1) := by decide +kernel
theorem dX11_operand_66 : decode cX11_operand 66 = .ok (.getfield 144, 3) := by decide +kernel
theorem dX11_operand_69 : decode cX11_operand 69 = .ok (.bipush 6, 2) := by decide +kernel
theorem dX11_operand_71 : decode cX11_operand 71 = .ok (.if_icmp .lt 34, 3) := by decide +kernel
theorem dX11_operand_74 : decode cX11_operand 74 = .ok (.aload_n 0, 1) := by decide +kernel
theorem dX11_operand_75 : decode cX11_operand 75 = .ok (.invokevirtual 222, 3) := by decide +kernel
theorem dX11_operand_78 : decode cX11_operand 78 = .ok (.aload_n 0, 1) := by decide +kernel
theorem dX11_operand_79 : decode cX11_operand 79 = .ok (.getfield 161, 3) := by decide +kernel
theorem dX11_operand_82 : decode cX11_operand 82 = .ok (.ifCond .eq 5, 3) := by decide +kernel
theorem dX11_operand_85 : decode cX11_operand 85 = .ok (.iconst 0, 1) := by decide +kernel
theorem dX11_operand_86 : decode cX11_operand 86 = .ok (.ireturn, 1) := by decide +kernel
theorem dX11_operand_87 : decode cX11_operand 87 = .ok (.aload_n 0, 1) := by decide +kernel
theorem dX11_operand_88 : decode cX11_operand 88 = .ok (.iconst 1, 1) := by decide +kernel
theorem dX11_operand_89 : decode cX11_operand 89 = .ok (.aload_n 0, 1) := by decide +kernel
theorem dX11_operand_90 : decode cX11_operand 90 = .ok (.getfield 144, 3) := by decide +kernel
theorem dX11_operand_93 : decode cX11_operand 93 = .ok (.bipush 6, 2) := by decide +kernel
theorem dX11_operand_95 : decode cX11_operand 95 = .ok (.isub, 1) := by decide +kernel
theorem dX11_operand_96 : decode cX11_operand 96 = .ok (.invokevirtual 202, 3) := by decide +kernel
theorem dX11_operand_99 : decode cX11_operand 99 = .ok (.aload_n 0, 1) := by decide +kernel
theorem dX11_operand_100 : decode cX11_operand 100 = .ok (.invokevirtual 174, 3) := by decide +kernel
theorem dX11_operand_103 : decode cX11_operand 103 = .ok (.iconst 1, 1) := by decide +kernel
theorem dX11_operand_104 : decode cX11_operand 104 = .ok (.ireturn, 1) := by decide +kernel
theorem dX11_operand_105 : decode cX11_operand 105 = .ok (.aload_n 0, 1) := by decide +kernel
theorem dX11_operand_106 : decode cX11_operand 106 = .ok (.bipush 40, 2) := by decide +kernel
theorem dX11_operand_108 : decode cX11_operand 108 = .ok (.invokevirtual 186, 3) := by decide +kernel
theorem dX11_operand_111 : decode cX11_operand 111 = .ok (.ifCond .eq 44, 3) := by decide +kernel
theorem dX11_operand_114 : decode cX11_operand 114 = .ok (.aload_n 0, 1) := by decide +kernel
theorem dX11_operand_115 : decode cX11_operand 115 = .ok (.getfield 206, 3) := by decide +kernel
theorem dX11_operand_118 : decode cX11_operand 118 = .ok (.bipush 8, 2) := by decide +kernel
theorem dX11_operand_120 : decode cX11_operand 120 = .ok (.if_icmp .ne 8, 3) := by decide +kernel
theorem dX11_operand_123 : decode cX11_operand 123 = .ok (.aload_n 0, 1) := by decide +kernel
theorem dX11_operand_124 : decode cX11_operand 124 = .ok (.iconst 2, 1) := by decide +kernel
theorem dX11_operand_125 : decode cX11_operand 125 = .ok (.invokevirtual 167, 3) := by decide +kernel
theorem dX11_operand_128 : decode cX11_operand 128 = .ok (.aload_n 0, 1) := by decide +kernel
theorem dX11_operand_129 : decode cX11_operand 129 = .ok (.getfield 161, 3) := by decide +kernel
theorem dX11_operand_132 : decode cX11_operand 132 = .ok (.ifCond .eq 5, 3) := by decide +kernel
theorem dX11_operand_135 : decode cX11_operand 135 = .ok (.iconst 0, 1) := by decide +kernel
theorem dX11_operand_136 : decode cX11_operand 136 = .ok (.ireturn, 1) := by decide +kernel
theorem dX11_operand_137 : decode cX11_operand 137 = .ok (.aload_n 0, 1) := by decide +kernel
theorem dX11_operand_138 : decode cX11_operand 138 = .ok (.dup, 1) := by decide +kernel
theorem dX11_operand_139 : decode cX11_operand 139 = .ok (.getfield 206, 3) := by decide +kernel
theorem dX11_operand_142 : decode cX11_operand 142 = .ok (.iconst 1, 1) := by decide +kernel
theorem dX11_operand_143 : decode cX11_operand 143 = .ok (.iadd, 1) := by decide +kernel
theorem dX11_operand_144 : decode cX11_operand 144 = .ok (.putfield 206, 3) := by decide +kernel
theorem dX11_operand_147 : decode cX11_operand 147 = .ok (.aload_n 0, 1) := by decide +kernel
theorem dX11_operand_148 : decode cX11_operand 148 = .ok (.bipush 40, 2) := by decide +kernel
theorem dX11_operand_150 : decode cX11_operand 150 = .ok (.invokevirtual 225, 3) := by decide +kernel
theorem dX11_operand_153 : decode cX11_operand 153 = .ok (.iconst 0, 1) := by decide +kernel
theorem dX11_operand_154 : decode cX11_operand 154 = .ok (.ireturn, 1) := by decide +kernel
theorem dX11_operand_155 : decode cX11_operand 155 = .ok (.aload_n 0, 1) := by decide +kernel
theorem dX11_operand_156 : decode cX11_operand 156 = .ok (.getfield 195, 3) := by decide +kernel
theorem dX11_operand_159 : decode cX11_operand 159 = .ok (.ifCond .eq 21, 3) := by decide +kernel
theorem dX11_operand_162 : decode cX11_operand 162 = .ok (.aload_n 0, 1) := by decide +kernel
theorem dX11_operand_163 : decode cX11_operand 163 = .ok (.getfield 33, 3) := by decide +kernel
theorem dX11_operand_166 : decode cX11_operand 166 = .ok (.aload_n 0, 1) := by decide +kernel
theorem dX11_operand_167 : decode cX11_operand 167 = .ok (.getfield 195, 3) := by decide +kernel
theorem dX11_operand_170 : decode cX11_operand 170 = .ok (.iconst 1, 1) := by decide +kernel
theorem dX11_operand_171 : decode cX11_operand 171 = .ok (.isub, 1) := by decide +kernel
theorem dX11_operand_172 : decode cX11_operand 172 = .ok (.iaload, 1) := by decide +kernel
theorem dX11_operand_173 : decode cX11_operand 173 = .ok (.invokestatic 198, 3) := by decide +kernel
theorem dX11_operand_176 : decode cX11_operand 176 = .ok (.iconst 4, 1) := by decide +kernel
theorem dX11_operand_177 : decode cX11_operand 177 = .ok (.if_icmp .ge 7, 3) := by decide +kernel
theorem dX11_operand_180 : decode cX11_operand 180 = .ok (.iconst 1, 1) := by decide +kernel
theorem dX11_operand_181 : decode cX11_operand 181 = .ok (.goto 4, 3) := by decide +kernel
theorem dX11_operand_184 : decode cX11_operand 184 = .ok (.iconst 0, 1) := by decide +kernel
theorem dX11_operand_185 : decode cX11_operand 185 = .ok (.istore_n 1, 1) := by decide +kernel
theorem dX11_operand_186 : decode cX11_operand 186 = .ok (.aload_n 0, 1) := by decide +kernel
theorem dX11_operand_187 : decode cX11_operand 187 = .ok (.getfield 134, 3) := by decide +kernel
theorem dX11_operand_190 : decode cX11_operand 190 = .ok (.ifCond .ne 15, 3) := by decide +kernel
theorem dX11_operand_193 : decode cX11_operand 193 = .ok (.aload_n 0, 1) := by decide +kernel
theorem dX11_operand_194 : decode cX11_operand 194 = .ok (.getfield 144, 3) := by decide +kernel
theorem dX11_operand_197 : decode cX11_operand 197 = .ok (.iconst 5, 1) := by decide +kernel
theorem dX11_operand_198 : decode cX11_operand 198 = .ok (.if_icmp .ne 7, 3) := by decide +kernel
theorem dX11_operand_201 : decode cX11_operand 201 = .ok (.iload_n 1, 1) := by decide +kernel
theorem dX11_operand_202 : decode cX11_operand 202 = .ok (.ifCond .ne 10, 3) := by decide +kernel
theorem dX11_operand_205 : decode cX11_operand 205 = .ok (.aload_n 0, 1) := by decide +kernel
theorem dX11_operand_206 : decode cX11_operand 206 = .ok (.iconst 1, 1) := by decide +kernel
theorem dX11_operand_207 : decode cX11_operand 207 = .ok (.invokevirtual 167, 3) := by decide +kernel
theorem dX11_operand_210 : decode cX11_operand 210 = .ok (.iconst 0, 1) := by decide +kernel
theorem dX11_operand_211 : decode cX11_operand 211 = .ok (.ireturn, 1) := by decide +kernel
theorem dX11_operand_212 : decode cX11_operand 212 = .ok (.aload_n 0, 1) := by decide +kernel
theorem dX11_operand_213 : decode cX11_operand 213 = .ok (.invokevirtual 222, 3) := by decide +kernel
theorem dX11_operand_216 : decode cX11_operand 216 = .ok (.aload_n 0, 1) := by decide +kernel
theorem dX11_operand_217 : decode cX11_operand 217 = .ok (.getfield 161, 3) := by decide +kernel
theorem dX11_operand_220 : decode cX11_operand 220 = .ok (.ifCond .ne 10, 3) := by decide +kernel
theorem dX11_operand_223 : decode cX11_operand 223 = .ok (.aload_n 0, 1) := by decide +kernel
theorem dX11_operand_224 : decode cX11_operand 224 = .ok (.sipush 260, 3) := by decide +kernel
theorem dX11_operand_227 : decode cX11_operand 227 = .ok (.invokevirtual 225, 3) := by decide +kernel
theorem dX11_operand_230 : decode cX11_operand 230 = .ok (.iconst 0, 1) := by decide +kernel
theorem dX11_operand_231 : decode cX11_operand 231 = .ok (.ireturn, 1) := by decide +kernel
theorem dX11_rules_0 : decode cX11_rules 0 = .ok (.aload_n 0, 1) := by decide +kernel
theorem dX11_rules_1 : decode cX11_rules 1 = .ok (.iconst 0, 1) := by decide +kernel
theorem dX11_rules_2 : decode cX11_rules 2 = .ok (.putfield 115, 3) := by decide +kernel
theorem dX11_rules_5 : decode cX11_rules 5 = .ok (.iload_n 1, 1) := by decide +kernel
theorem dX11_rules_6 : decode cX11_rules 6 = .ok (.ifCond .lt 11, 3) := by decide +kernel
theorem dX11_rules_9 : decode cX11_rules 9 = .ok (.iload_n 1, 1) := by decide +kernel
theorem dX11_rules_10 : decode cX11_rules 10 = .ok (.aload_n 0, 1) := by decide +kernel
theorem dX11_rules_11 : decode cX11_rules 11 = .ok (.getfield 118, 3) := by decide +kernel
theorem dX11_rules_14 : decode cX11_rules 14 = .ok (.if_icmp .le 6, 3) := by decide +kernel
theorem dX11_rules_17 : decode cX11_rules 17 = .ok (.bipush (-2), 2) := by decide +kernel
theorem dX11_rules_19 : decode cX11_rules 19 = .ok (.ireturn, 1) := by decide +kernel
theorem dX11_rules_20 : decode cX11_rules 20 = .ok (.aload_n 0, 1) := by decide +kernel
theorem dX11_rules_21 : decode cX11_rules 21 = .ok (.iload_n 1, 1) := by decide +kernel
theorem dX11_rules_22 : decode cX11_rules 22 = .ok (.putfield 124, 3) := by decide +kernel
theorem dX11_rules_25 : decode cX11_rules 25 = .ok (.aload_n 0, 1) := by decide +kernel
theorem dX11_rules_26 : decode cX11_rules 26 = .ok (.iconst 0, 1) := by decide +kernel
theorem dX11_rules_27 : decode cX11_rules 27 = .ok (.putfield 118, 3) := by decide +kernel
theorem dX11_rules_30 : decode cX11_rules 30 = .ok (.aload_n 0, 1) := by decide +kernel
theorem dX11_rules_31 : decode cX11_rules 31 = .ok (.iconst 0, 1) := by decide +kernel
theorem dX11_rules_32 : decode cX11_rules 32 = .ok (.putfield 121, 3) := by decide +kernel
theorem dX11_rules_35 : decode cX11_rules 35 = .ok (.aload_n 0, 1) := by decide +kernel
theorem dX11_rules_36 : decode cX11_rules 36 = .ok (.iconst 0, 1) := by decide +kernel
theorem dX11_rules_37 : decode cX11_rules 37 = .ok (.putfield 161, 3) := by decide +kernel
theorem dX11_rules_40 : decode cX11_rules 40 = .ok (.aload_n 0, 1) := by decide +kernel
theorem dX11_rules_41 : decode cX11_rules 41 = .ok (.iconst (-1), 1) := by decide +kernel
theorem dX11_rules_42 : decode cX11_rules 42 = .ok (.putfield 164, 3) := by decide +kernel
theorem dX11_rules_45 : decode cX11_rules 45 = .ok (.aload_n 0, 1) := by decide +kernel
theorem dX11_rules_46 : decode cX11_rules 46 = .ok (.iconst 0, 1) := by decide +kernel
theorem dX11_rules_47 : decode cX11_rules 47 = .ok (.putfield 192, 3) := by decide +kernel
theorem dX11_rules_50 : decode cX11_rules 50 = .ok (.aload_n 0, 1) := by decide +kernel
theorem dX11_rules_51 : decode cX11_rules 51 = .ok (.iconst 0, 1) := by decide +kernel
theorem dX11_rules_52 : decode cX11_rules 52 = .ok (.putfield 189, 3) := by decide +kernel
theorem dX11_rules_55 : decode cX11_rules 55 = .ok (.aload_n 0, 1) := by decide +kernel
theorem dX11_rules_56 : decode cX11_rules 56 = .ok (.iconst 0, 1) := by decide +kernel
theorem dX11_rules_57 : decode cX11_rules 57 = .ok (.putfield 171, 3) := by decide +kernel
theorem dX11_rules_60 : decode cX11_rules 60 = .ok (.aload_n 0, 1) := by decide +kernel
theorem dX11_rules_61 : decode cX11_rules 61 = .ok (.iconst 2, 1) := by decide +kernel
theorem dX11_rules_62 : decode cX11_rules 62 = .ok (.putfield 177, 3) := by decide +kernel
theorem dX11_rules_65 : decode cX11_rules 65 = .ok (.iconst 2, 1) := by decide +kernel
theorem dX11_rules_66 : decode cX11_rules 66 = .ok (.istore_n 2, 1) := by decide +kernel
theorem dX11_rules_67 : decode cX11_rules 67 = .ok (.iload_n 2, 1) := by decide +kernel
theorem dX11_rules_68 : decode cX11_rules 68 = .ok (.iconst 4, 1) := by decide +kernel
theorem dX11_rules_69 : decode cX11_rules 69 = .ok (.if_icmp .ge 23, 3) := by decide +kernel
theorem dX11_rules_72 : decode cX11_rules 72 = .ok (.aload_n 0, 1) := by decide +kernel
theorem dX11_rules_73 : decode cX11_rules 73 = .ok (.getfield 19, 3) := by decide +kernel
theorem dX11_rules_76 : decode cX11_rules 76 = .ok (.iload_n 2, 1) := by decide +kernel
theorem dX11_rules_77 : decode cX11_rules 77 = .ok (.iconst 0, 1) := by decide +kernel
theorem dX11_rules_78 : decode cX11_rules 78 = .ok (.iastore, 1) := by decide +kernel
theorem dX11_rules_79 : decode cX11_rules 79 = .ok (.aload_n 0, 1) := by decide +kernel
theorem dX11_rules_80 : decode cX11_rules 80 = .ok (.getfield 22, 3) := by decide +kernel
theorem dX11_rules_83 : decode cX11_rules 83 = .ok (.iload_n 2, 1) := by decide +kernel
theorem dX11_rules_84 : decode cX11_rules 84 = .ok (.iconst 0, 1) := by decide +kernel
theorem dX11_rules_85 : decode cX11_rules 85 = .ok (.bastore, 1) := by decide +kernel
theorem dX11_rules_86 : decode cX11_rules 86 = .ok (.iinc 2 1, 3) := by decide +kernel
theorem dX11_rules_89 : decode cX11_rules 89 = .ok (.goto (-22), 3) := by decide +kernel
theorem dX11_rules_92 : decode cX11_rules 92 = .ok (.aload_n 0, 1) := by decide +kernel
theorem dX11_rules_93 : decode cX11_rules 93 = .ok (.invokevirtual 174, 3) := by decide +kernel
theorem dX11_rules_96 : decode cX11_rules 96 = .ok (.aload_n 0, 1) := by decide +kernel
theorem dX11_rules_97 : decode cX11_rules 97 = .ok (.getfield 161, 3) := by decide +kernel
theorem dX11_rules_100 : decode cX11_rules 100 = .ok (.ifCond .ne 18, 3) := by decide +kernel
theorem dX11_rules_103 : decode cX11_rules 103 = .ok (.aload_n 0, 1) := by decide +kernel
theorem dX11_rules_104 : decode cX11_rules 104 = .ok (.getfield 134, 3) := by decide +kernel
theorem dX11_rules_107 : decode cX11_rules 107 = .ok (.iconst 3, 1) := by decide +kernel
theorem dX11_rules_108 : decode cX11_rules 108 = .ok (.if_icmp .eq 10, 3) := by decide +kernel
theorem dX11_rules_111 : decode cX11_rules 111 = .ok (.aload_n 0, 1) := by decide +kernel
theorem dX11_rules_112 : decode cX11_rules 112 = .ok (.invokevirtual 228, 3) := by decide +kernel
theorem dX11_rules_115 : decode cX11_rules 115 = .ok (.goto (-19), 3) := by decide +kernel
theorem dX11_rules_118 : decode cX11_rules 118 = .ok (.aload_n 0, 1) := by decide +kernel
theorem dX11_rules_119 : decode cX11_rules 119 = .ok (.aload_n 0, 1) := by decide +kernel
theorem dX11_rules_120 : decode cX11_rules 120 = .ok (.getfield 161, 3) := by decide +kernel
theorem dX11_rules_123 : decode cX11_rules 123 = .ok (.putfield 231, 3) := by decide +kernel
theorem dX11_rules_126 : decode cX11_rules 126 = .ok (.aload_n 0, 1) := by decide +kernel
theorem dX11_rules_127 : decode cX11_rules 127 = .ok (.aload_n 0, 1) := by decide +kernel
theorem dX11_rules_128 : decode cX11_rules 128 = .ok (.getfield 164, 3) := by decide +kernel
theorem dX11_rules_131 : decode cX11_rules 131 = .ok (.putfield 30, 3) := by decide +kernel
theorem dX11_rules_134 : decode cX11_rules 134 = .ok (.aload_n 0, 1) := by decide +kernel
theorem dX11_rules_135 : decode cX11_rules 135 = .ok (.getfield 161, 3) := by decide +kernel
theorem dX11_rules_138 : decode cX11_rules 138 = .ok (.ifCond .eq 5, 3) := by decide +kernel
theorem dX11_rules_141 : decode cX11_rules 141 = .ok (.iconst (-1), 1) := by decide +kernel
theorem dX11_rules_142 : decode cX11_rules 142 = .ok (.ireturn, 1) := by decide +kernel
theorem dX11_rules_143 : decode cX11_rules 143 = .ok (.iconst 0, 1) := by decide +kernel
theorem dX11_rules_144 : decode cX11_rules 144 = .ok (.istore_n 2, 1) := by decide +kernel
theorem dX11_rules_145 : decode cX11_rules 145 = .ok (.iload_n 2, 1) := by decide +kernel
theorem dX11_rules_146 : decode cX11_rules 146 = .ok (.sipush 128, 3) := by decide +kernel
theorem dX11_rules_149 : decode cX11_rules 149 = .ok (.if_icmp .ge 41, 3) := by decide +kernel
theorem dX11_rules_152 : decode cX11_rules 152 = .ok (.aload_n 0, 1) := by decide +kernel
theorem dX11_rules_153 : decode cX11_rules 153 = .ok (.getfield 13, 3) := by decide +kernel
theorem dX11_rules_156 : decode cX11_rules 156 = .ok (.iload_n 2, 1) := by decide +kernel
theorem dX11_rules_157 : decode cX11_rules 157 = .ok (.aload_n 0, 1) := by decide +kernel
theorem dX11_rules_158 : decode cX11_rules 158 = .ok (.getfield 13, 3) := by decide +kernel
theorem dX11_rules_161 : decode cX11_rules 161 = .ok (.sipush 128, 3) := by decide +kernel
theorem dX11_rules_164 : decode cX11_rules 164 = .ok (.iload_n 2, 1) := by decide +kernel
theorem dX11_rules_165 : decode cX11_rules 165 = .ok (.iadd, 1) := by decide +kernel
theorem dX11_rules_166 : decode cX11_rules 166 = .ok (.iaload, 1) := by decide +kernel
theorem dX11_rules_167 : decode cX11_rules 167 = .ok (.iastore, 1) := by decide +kernel
theorem dX11_rules_168 : decode cX11_rules 168 = .ok (.aload_n 0, 1) := by decide +kernel
theorem dX11_rules_169 : decode cX11_rules 169 = .ok (.getfield 16, 3) := by decide +kernel
theorem dX11_rules_172 : decode cX11_rules 172 = .ok (.iload_n 2, 1) := by decide +kernel
theorem dX11_rules_173 : decode cX11_rules 173 = .ok (.aload_n 0, 1) := by decide +kernel
theorem dX11_rules_174 : decode cX11_rules 174 = .ok (.getfield 16, 3) := by decide +kernel
theorem dX11_rules_177 : decode cX11_rules 177 = .ok (.sipush 128, 3) := by decide +kernel
theorem dX11_rules_180 : decode cX11_rules 180 = .ok (.iload_n 2, 1) := by decide +kernel
theorem dX11_rules_181 : decode cX11_rules 181 = .ok (.iadd, 1) := by decide +kernel
theorem dX11_rules_182 : decode cX11_rules 182 = .ok (.iaload, 1) := by decide +kernel
theorem dX11_rules_183 : decode cX11_rules 183 = .ok (.iastore, 1) := by decide +kernel
theorem dX11_rules_184 : decode cX11_rules 184 = .ok (.iinc 2 1, 3) := by decide +kernel
theorem dX11_rules_187 : decode cX11_rules 187 = .ok (.goto (-42), 3) := by decide +kernel
theorem dX11_rules_190 : decode cX11_rules 190 = .ok (.iconst 0, 1) := by decide +kernel
theorem dX11_rules_191 : decode cX11_rules 191 = .ok (.istore_n 2, 1) := by decide +kernel
theorem dX11_rules_192 : decode cX11_rules 192 = .ok (.iload_n 2, 1) := by decide +kernel
theorem dX11_rules_193 : decode cX11_rules 193 = .ok (.iconst 2, 1) := by decide +kernel
theorem dX11_rules_194 : decode cX11_rules 194 = .ok (.if_icmp .ge 37, 3) := by decide +kernel
theorem dX11_rules_197 : decode cX11_rules 197 = .ok (.aload_n 0, 1) := by decide +kernel
theorem dX11_rules_198 : decode cX11_rules 198 = .ok (.getfield 19, 3) := by decide +kernel
theorem dX11_rules_201 : decode cX11_rules 201 = .ok (.iload_n 2, 1) := by decide +kernel
theorem dX11_rules_202 : decode cX11_rules 202 = .ok (.aload_n 0, 1) := by decide +kernel
theorem dX11_rules_203 : decode cX11_rules 203 = .ok (.getfield 19, 3) := by decide +kernel
theorem dX11_rules_206 : decode cX11_rules 206 = .ok (.iconst 2, 1) := by decide +kernel
theorem dX11_rules_207 : decode cX11_rules 207 = .ok (.iload_n 2, 1) := by decide +kernel
theorem dX11_rules_208 : decode cX11_rules 208 = .ok (.iadd, 1) := by decide +kernel
theorem dX11_rules_209 : decode cX11_rules 209 = .ok (.iaload, 1) := by decide +kernel
theorem dX11_rules_210 : decode cX11_rules 210 = .ok (.iastore, 1) := by decide +kernel
theorem dX11_rules_211 : decode cX11_rules 211 = .ok (.aload_n 0, 1) := by decide +kernel
theorem dX11_rules_212 : decode cX11_rules 212 = .ok (.getfield 22, 3) := by decide +kernel
theorem dX11_rules_215 : decode cX11_rules 215 = .ok (.iload_n 2, 1) := by decide +kernel
theorem dX11_rules_216 : decode cX11_rules 216 = .ok (.aload_n 0, 1) := by decide +kernel
theorem dX11_rules_217 : decode cX11_rules 217 = .ok (.getfield 22, 3) := by decide +kernel
theorem dX11_rules_220 : decode cX11_rules 220 = .ok (.iconst 2, 1) := by decide +kernel
theorem dX11_rules_221 : decode cX11_rules 221 = .ok (.iload_n 2, 1) := by decide +kernel
theorem dX11_rules_222 : decode cX11_rules 222 = .ok (.iadd, 1) := by decide +kernel
theorem dX11_rules_223 : decode cX11_rules 223 = .ok (.baload, 1) := by decide +kernel
theorem dX11_rules_224 : decode cX11_rules 224 = .ok (.bastore, 1) := by decide +kernel
theorem dX11_rules_225 : decode cX11_rules 225 = .ok (.iinc 2 1, 3) := by decide +kernel
theorem dX11_rules_228 : decode cX11_rules 228 = .ok (.goto (-36), 3) := by decide +kernel
theorem dX11_rules_231 : decode cX11_rules 231 = .ok (.aload_n 0, 1) := by decide +kernel
theorem dX11_rules_232 : decode cX11_rules 232 = .ok (.aload_n 0, 1) := by decide +kernel
theorem dX11_rules_233 : decode cX11_rules 233 = .ok (.getfield 177, 3) := by decide +kernel
theorem dX11_rules_236 : decode cX11_rules 236 = .ok (.putfield 26, 3) := by decide +kernel
theorem dX11_rules_239 : decode cX11_rules 239 = .ok (.aload_n 0, 1) := by decide +kernel
theorem dX11_rules_240 : decode cX11_rules 240 = .ok (.aload_n 0, 1) := by decide +kernel
theorem dX11_rules_241 : decode cX11_rules 241 = .ok (.getfield 192, 3) := by decide +kernel
theorem dX11_rules_244 : decode cX11_rules 244 = .ok (.putfield 234, 3) := by decide +kernel
theorem dX11_rules_247 : decode cX11_rules 247 = .ok (.aload_n 0, 1) := by decide +kernel
theorem dX11_rules_248 : decode cX11_rules 248 = .ok (.getfield 189, 3) := by decide +kernel
theorem dX11_rules_251 : decode cX11_rules 251 = .ok (.ireturn, 1) := by decide +kernel
theorem dX11_fault_0 : decode cX11_fault 0 = .ok (.aload_n 0, 1) := by decide +kernel
theorem dX11_fault_1 : decode cX11_fault 1 = .ok (.iconst 0, 1) := by decide +kernel
theorem dX11_fault_2 : decode cX11_fault 2 = .ok (.putfield 115, 3) := by decide +kernel
theorem dX11_fault_5 : decode cX11_fault 5 = .ok (.iload_n 1, 1) := by decide +kernel
theorem dX11_fault_6 : decode cX11_fault 6 = .ok (.ifCond .ne 10, 3) := by decide +kernel
theorem dX11_fault_9 : decode cX11_fault 9 = .ok (.aload_n 0, 1) := by decide +kernel
theorem dX11_fault_10 : decode cX11_fault 10 = .ok (.getfield 231, 3) := by decide +kernel
theorem dX11_fault_13 : decode cX11_fault 13 = .ok (.goto 16, 3) := by decide +kernel
theorem dX11_fault_16 : decode cX11_fault 16 = .ok (.iload_n 1, 1) := by decide +kernel
theorem dX11_fault_17 : decode cX11_fault 17 = .ok (.iconst 1, 1) := by decide +kernel
theorem dX11_fault_18 : decode cX11_fault 18 = .ok (.if_icmp .ne 10, 3) := by decide +kernel
theorem dX11_fault_21 : decode cX11_fault 21 = .ok (.aload_n 0, 1) := by decide +kernel
theorem dX11_fault_22 : decode cX11_fault 22 = .ok (.getfield 30, 3) := by decide +kernel
theorem dX11_fault_25 : decode cX11_fault 25 = .ok (.goto 4, 3) := by decide +kernel
theorem dX11_fault_28 : decode cX11_fault 28 = .ok (.iconst (-1), 1) := by decide +kernel
theorem dX11_fault_29 : decode cX11_fault 29 = .ok (.ireturn, 1) := by decide +kernel
theorem dX11_puts_0 : decode cX11_puts 0 = .ok (.aload_n 0, 1) := by decide +kernel
theorem dX11_puts_1 : decode cX11_puts 1 = .ok (.getfield 40, 3) := by decide +kernel
theorem dX11_puts_4 : decode cX11_puts 4 = .ok (.aload_n 0, 1) := by decide +kernel
theorem dX11_puts_5 : decode cX11_puts 5 = .ok (.getfield 237, 3) := by decide +kernel
theorem dX11_puts_8 : decode cX11_puts 8 = .ok (.lload_n 1, 1) := by decide +kernel
theorem dX11_puts_9 : decode cX11_puts 9 = .ok (.lastore, 1) := by decide +kernel
theorem dX11_puts_10 : decode cX11_puts 10 = .ok (.aload_n 0, 1) := by decide +kernel
theorem dX11_puts_11 : decode cX11_puts 11 = .ok (.dup, 1) := by decide +kernel
theorem dX11_puts_12 : decode cX11_puts 12 = .ok (.getfield 237, 3) := by decide +kernel
theorem dX11_puts_15 : decode cX11_puts 15 = .ok (.iconst 1, 1) := by decide +kernel
theorem dX11_puts_16 : decode cX11_puts 16 = .ok (.iadd, 1) := by decide +kernel
theorem dX11_puts_17 : decode cX11_puts 17 = .ok (.putfield 237, 3) := by decide +kernel
theorem dX11_puts_20 : decode cX11_puts 20 = .ok (.lload_n 1, 1) := by decide +kernel
theorem dX11_puts_21 : decode cX11_puts 21 = .ok (.ldc2_w 240, 3) := by decide +kernel
theorem dX11_puts_24 : decode cX11_puts 24 = .ok (.lcmp, 1) := by decide +kernel
theorem dX11_puts_25 : decode cX11_puts 25 = .ok (.ifCond .gt 15, 3) := by decide +kernel
theorem dX11_puts_28 : decode cX11_puts 28 = .ok (.lload_n 1, 1) := by decide +kernel
theorem dX11_puts_29 : decode cX11_puts 29 = .ok (.ldc2_w 242, 3) := by decide +kernel
theorem dX11_puts_32 : decode cX11_puts 32 = .ok (.lcmp, 1) := by decide +kernel
theorem dX11_puts_33 : decode cX11_puts 33 = .ok (.ifCond .lt 7, 3) := by decide +kernel
theorem dX11_puts_36 : decode cX11_puts 36 = .ok (.iconst 1, 1) := by decide +kernel
theorem dX11_puts_37 : decode cX11_puts 37 = .ok (.goto 4, 3) := by decide +kernel
theorem dX11_puts_40 : decode cX11_puts 40 = .ok (.iconst 0, 1) := by decide +kernel
theorem dX11_puts_41 : decode cX11_puts 41 = .ok (.ireturn, 1) := by decide +kernel
theorem dX11_is_0 : decode cX11_is 0 = .ok (.iload_n 0, 1) := by decide +kernel
theorem dX11_is_1 : decode cX11_is 1 = .ok (.ifCond .eq 7, 3) := by decide +kernel
theorem dX11_is_4 : decode cX11_is 4 = .ok (.lconst 1, 1) := by decide +kernel
theorem dX11_is_5 : decode cX11_is 5 = .ok (.goto 4, 3) := by decide +kernel
theorem dX11_is_8 : decode cX11_is 8 = .ok (.lconst 0, 1) := by decide +kernel
theorem dX11_is_9 : decode cX11_is 9 = .ok (.lreturn, 1) := by decide +kernel
theorem dX11_does_0 : decode cX11_does 0 = .ok (.iload_n 1, 1) := by decide +kernel
theorem dX11_does_1 : decode cX11_does 1 = .ok (.sipush 260, 3) := by decide +kernel
theorem dX11_does_4 : decode cX11_does 4 = .ok (.if_icmp .ne 40, 3) := by decide +kernel
theorem dX11_does_7 : decode cX11_does 7 = .ok (.aload_n 0, 1) := by decide +kernel
theorem dX11_does_8 : decode cX11_does 8 = .ok (.getfield 40, 3) := by decide +kernel
theorem dX11_does_11 : decode cX11_does 11 = .ok (.aload_n 0, 1) := by decide +kernel
theorem dX11_does_12 : decode cX11_does 12 = .ok (.getfield 237, 3) := by decide +kernel
theorem dX11_does_15 : decode cX11_does 15 = .ok (.iconst 1, 1) := by decide +kernel
theorem dX11_does_16 : decode cX11_does 16 = .ok (.isub, 1) := by decide +kernel
theorem dX11_does_17 : decode cX11_does 17 = .ok (.aload_n 0, 1) := by decide +kernel
theorem dX11_does_18 : decode cX11_does 18 = .ok (.getfield 40, 3) := by decide +kernel
theorem dX11_does_21 : decode cX11_does 21 = .ok (.aload_n 0, 1) := by decide +kernel
theorem dX11_does_22 : decode cX11_does 22 = .ok (.getfield 237, 3) := by decide +kernel
theorem dX11_does_25 : decode cX11_does 25 = .ok (.iconst 1, 1) := by decide +kernel
theorem dX11_does_26 : decode cX11_does 26 = .ok (.isub, 1) := by decide +kernel
theorem dX11_does_27 : decode cX11_does 27 = .ok (.laload, 1) := by decide +kernel
theorem dX11_does_28 : decode cX11_does 28 = .ok (.lconst 0, 1) := by decide +kernel
theorem dX11_does_29 : decode cX11_does 29 = .ok (.lcmp, 1) := by decide +kernel
theorem dX11_does_30 : decode cX11_does 30 = .ok (.ifCond .ne 7, 3) := by decide +kernel
theorem dX11_does_33 : decode cX11_does 33 = .ok (.iconst 1, 1) := by decide +kernel
theorem dX11_does_34 : decode cX11_does 34 = .ok (.goto 4, 3) := by decide +kernel
theorem dX11_does_37 : decode cX11_does 37 = .ok (.iconst 0, 1) := by decide +kernel
theorem dX11_does_38 : decode cX11_does 38 = .ok (.invokestatic 244, 3) := by decide +kernel
theorem dX11_does_41 : decode cX11_does 41 = .ok (.lastore, 1) := by decide +kernel
theorem dX11_does_42 : decode cX11_does 42 = .ok (.iconst 1, 1) := by decide +kernel
theorem dX11_does_43 : decode cX11_does 43 = .ok (.ireturn, 1) := by decide +kernel
theorem dX11_does_44 : decode cX11_does 44 = .ok (.aload_n 0, 1) := by decide +kernel
theorem dX11_does_45 : decode cX11_does 45 = .ok (.dup, 1) := by decide +kernel
theorem dX11_does_46 : decode cX11_does 46 = .ok (.getfield 237, 3) := by decide +kernel
theorem dX11_does_49 : decode cX11_does 49 = .ok (.iconst 2, 1) := by decide +kernel
theorem dX11_does_50 : decode cX11_does 50 = .ok (.isub, 1) := by decide +kernel
theorem dX11_does_51 : decode cX11_does 51 = .ok (.putfield 237, 3) := by decide +kernel
theorem dX11_does_54 : decode cX11_does 54 = .ok (.aload_n 0, 1) := by decide +kernel
theorem dX11_does_55 : decode cX11_does 55 = .ok (.getfield 40, 3) := by decide +kernel
theorem dX11_does_58 : decode cX11_does 58 = .ok (.aload_n 0, 1) := by decide +kernel
theorem dX11_does_59 : decode cX11_does 59 = .ok (.getfield 237, 3) := by decide +kernel
theorem dX11_does_62 : decode cX11_does 62 = .ok (.laload, 1) := by decide +kernel
theorem dX11_does_63 : decode cX11_does 63 = .ok (.lstore_n 2, 1) := by decide +kernel
theorem dX11_does_64 : decode cX11_does 64 = .ok (.aload_n 0, 1) := by decide +kernel
theorem dX11_does_65 : decode cX11_does 65 = .ok (.getfield 40, 3) := by decide +kernel
theorem dX11_does_68 : decode cX11_does 68 = .ok (.aload_n 0, 1) := by decide +kernel
theorem dX11_does_69 : decode cX11_does 69 = .ok (.getfield 237, 3) := by decide +kernel
theorem dX11_does_72 : decode cX11_does 72 = .ok (.iconst 1, 1) := by decide +kernel
theorem dX11_does_73 : decode cX11_does 73 = .ok (.iadd, 1) := by decide +kernel
theorem dX11_does_74 : decode cX11_does 74 = .ok (.laload, 1) := by decide +kernel
theorem dX11_does_75 : decode cX11_does 75 = .ok (.lstore 4, 2) := by decide +kernel
theorem dX11_does_77 : decode cX11_does 77 = .ok (.iload_n 1, 1) := by decide +kernel
theorem dX11_does_78 : decode cX11_does 78 = .ok (.lookupswitch 328 #[(42, 288), (43, 270), (45, 279), (60, 150), (61, 190), (62, 250), (256, 170), (257, 210), (258, 230), (261, 124), (262, 98)], 98) := by decide +kernel
theorem dX11_does_176 : decode cX11_does 176 = .ok (.aload_n 0, 1) := by decide +kernel
theorem dX11_does_177 : decode cX11_does 177 = .ok (.lload_n 2, 1) := by decide +kernel
theorem dX11_does_178 : decode cX11_does 178 = .ok (.lconst 0, 1) := by decide +kernel
theorem dX11_does_179 : decode cX11_does 179 = .ok (.lcmp, 1) := by decide +kernel
theorem dX11_does_180 : decode cX11_does 180 = .ok (.ifCond .ne 10, 3) := by decide +kernel
theorem dX11_does_183 : decode cX11_does 183 = .ok (.lload 4, 2) := by decide +kernel
theorem dX11_does_185 : decode cX11_does 185 = .ok (.lconst 0, 1) := by decide +kernel
theorem dX11_does_186 : decode cX11_does 186 = .ok (.lcmp, 1) := by decide +kernel
theorem dX11_does_187 : decode cX11_does 187 = .ok (.ifCond .eq 7, 3) := by decide +kernel
theorem dX11_does_190 : decode cX11_does 190 = .ok (.iconst 1, 1) := by decide +kernel
theorem dX11_does_191 : decode cX11_does 191 = .ok (.goto 4, 3) := by decide +kernel
theorem dX11_does_194 : decode cX11_does 194 = .ok (.iconst 0, 1) := by decide +kernel
theorem dX11_does_195 : decode cX11_does 195 = .ok (.invokestatic 244, 3) := by decide +kernel
theorem dX11_does_198 : decode cX11_does 198 = .ok (.invokevirtual 248, 3) := by decide +kernel
theorem dX11_does_201 : decode cX11_does 201 = .ok (.ireturn, 1) := by decide +kernel
theorem dX11_does_202 : decode cX11_does 202 = .ok (.aload_n 0, 1) := by decide +kernel
theorem dX11_does_203 : decode cX11_does 203 = .ok (.lload_n 2, 1) := by decide +kernel
theorem dX11_does_204 : decode cX11_does 204 = .ok (.lconst 0, 1) := by decide +kernel
theorem dX11_does_205 : decode cX11_does 205 = .ok (.lcmp, 1) := by decide +kernel
theorem dX11_does_206 : decode cX11_does 206 = .ok (.ifCond .eq 14, 3) := by decide +kernel
theorem dX11_does_209 : decode cX11_does 209 = .ok (.lload 4, 2) := by decide +kernel
theorem dX11_does_211 : decode cX11_does 211 = .ok (.lconst 0, 1) := by decide +kernel
theorem dX11_does_212 : decode cX11_does 212 = .ok (.lcmp, 1) := by decide +kernel
theorem dX11_does_213 : decode cX11_does 213 = .ok (.ifCond .eq 7, 3) := by decide +kernel
theorem dX11_does_216 : decode cX11_does 216 = .ok (.iconst 1, 1) := by decide +kernel
theorem dX11_does_217 : decode cX11_does 217 = .ok (.goto 4, 3) := by decide +kernel
theorem dX11_does_220 : decode cX11_does 220 = .ok (.iconst 0, 1) := by decide +kernel
theorem dX11_does_221 : decode cX11_does 221 = .ok (.invokestatic 244, 3) := by decide +kernel
theorem dX11_does_224 : decode cX11_does 224 = .ok (.invokevirtual 248, 3) := by decide +kernel
theorem dX11_does_227 : decode cX11_does 227 = .ok (.ireturn, 1) := by decide +kernel
theorem dX11_does_228 : decode cX11_does 228 = .ok (.aload_n 0, 1) := by decide +kernel
theorem dX11_does_229 : decode cX11_does 229 = .ok (.lload_n 2, 1) := by decide +kernel
theorem dX11_does_230 : decode cX11_does 230 = .ok (.lload 4, 2) := by decide +kernel
theorem dX11_does_232 : decode cX11_does 232 = .ok (.lcmp, 1) := by decide +kernel
theorem dX11_does_233 : decode cX11_does 233 = .ok (.ifCond .ge 7, 3) := by decide +kernel
theorem dX11_does_236 : decode cX11_does 236 = .ok (.iconst 1, 1) := by decide +kernel
theorem dX11_does_237 : decode cX11_does 237 = .ok (.goto 4, 3) := by decide +kernel
theorem dX11_does_240 : decode cX11_does 240 = .ok (.iconst 0, 1) := by decide +kernel
theorem dX11_does_241 : decode cX11_does 241 = .ok (.invokestatic 244, 3) := by decide +kernel
theorem dX11_does_244 : decode cX11_does 244 = .ok (.invokevirtual 248, 3) := by decide +kernel
theorem dX11_does_247 : decode cX11_does 247 = .ok (.ireturn, 1) := by decide +kernel
theorem dX11_does_248 : decode cX11_does 248 = .ok (.aload_n 0, 1) := by decide +kernel
theorem dX11_does_249 : decode cX11_does 249 = .ok (.lload_n 2, 1) := by decide +kernel
theorem dX11_does_250 : decode cX11_does 250 = .ok (.lload 4, 2) := by decide +kernel
theorem dX11_does_252 : decode cX11_does 252 = .ok (.lcmp, 1) := by decide +kernel
theorem dX11_does_253 : decode cX11_does 253 = .ok (.ifCond .gt 7, 3) := by decide +kernel
theorem dX11_does_256 : decode cX11_does 256 = .ok (.iconst 1, 1) := by decide +kernel
theorem dX11_does_257 : decode cX11_does 257 = .ok (.goto 4, 3) := by decide +kernel
theorem dX11_does_260 : decode cX11_does 260 = .ok (.iconst 0, 1) := by decide +kernel
theorem dX11_does_261 : decode cX11_does 261 = .ok (.invokestatic 244, 3) := by decide +kernel
theorem dX11_does_264 : decode cX11_does 264 = .ok (.invokevirtual 248, 3) := by decide +kernel
theorem dX11_does_267 : decode cX11_does 267 = .ok (.ireturn, 1) := by decide +kernel
theorem dX11_does_268 : decode cX11_does 268 = .ok (.aload_n 0, 1) := by decide +kernel
theorem dX11_does_269 : decode cX11_does 269 = .ok (.lload_n 2, 1) := by decide +kernel
theorem dX11_does_270 : decode cX11_does 270 = .ok (.lload 4, 2) := by decide +kernel
theorem dX11_does_272 : decode cX11_does 272 = .ok (.lcmp, 1) := by decide +kernel
theorem dX11_does_273 : decode cX11_does 273 = .ok (.ifCond .ne 7, 3) := by decide +kernel
theorem dX11_does_276 : decode cX11_does 276 = .ok (.iconst 1, 1) := by decide +kernel
theorem dX11_does_277 : decode cX11_does 277 = .ok (.goto 4, 3) := by decide +kernel
theorem dX11_does_280 : decode cX11_does 280 = .ok (.iconst 0, 1) := by decide +kernel
theorem dX11_does_281 : decode cX11_does 281 = .ok (.invokestatic 244, 3) := by decide +kernel
theorem dX11_does_284 : decode cX11_does 284 = .ok (.invokevirtual 248, 3) := by decide +kernel
theorem dX11_does_287 : decode cX11_does 287 = .ok (.ireturn, 1) := by decide +kernel
theorem dX11_does_288 : decode cX11_does 288 = .ok (.aload_n 0, 1) := by decide +kernel
theorem dX11_does_289 : decode cX11_does 289 = .ok (.lload_n 2, 1) := by decide +kernel
theorem dX11_does_290 : decode cX11_does 290 = .ok (.lload 4, 2) := by decide +kernel
theorem dX11_does_292 : decode cX11_does 292 = .ok (.lcmp, 1) := by decide +kernel
theorem dX11_does_293 : decode cX11_does 293 = .ok (.ifCond .eq 7, 3) := by decide +kernel
theorem dX11_does_296 : decode cX11_does 296 = .ok (.iconst 1, 1) := by decide +kernel
theorem dX11_does_297 : decode cX11_does 297 = .ok (.goto 4, 3) := by decide +kernel
theorem dX11_does_300 : decode cX11_does 300 = .ok (.iconst 0, 1) := by decide +kernel
theorem dX11_does_301 : decode cX11_does 301 = .ok (.invokestatic 244, 3) := by decide +kernel
theorem dX11_does_304 : decode cX11_does 304 = .ok (.invokevirtual 248, 3) := by decide +kernel
theorem dX11_does_307 : decode cX11_does 307 = .ok (.ireturn, 1) := by decide +kernel
theorem dX11_does_308 : decode cX11_does 308 = .ok (.aload_n 0, 1) := by decide +kernel
theorem dX11_does_309 : decode cX11_does 309 = .ok (.lload_n 2, 1) := by decide +kernel
theorem dX11_does_310 : decode cX11_does 310 = .ok (.lload 4, 2) := by decide +kernel
theorem dX11_does_312 : decode cX11_does 312 = .ok (.lcmp, 1) := by decide +kernel
theorem dX11_does_313 : decode cX11_does 313 = .ok (.ifCond .lt 7, 3) := by decide +kernel
theorem dX11_does_316 : decode cX11_does 316 = .ok (.iconst 1, 1) := by decide +kernel
theorem dX11_does_317 : decode cX11_does 317 = .ok (.goto 4, 3) := by decide +kernel
theorem dX11_does_320 : decode cX11_does 320 = .ok (.iconst 0, 1) := by decide +kernel
theorem dX11_does_321 : decode cX11_does 321 = .ok (.invokestatic 244, 3) := by decide +kernel
theorem dX11_does_324 : decode cX11_does 324 = .ok (.invokevirtual 248, 3) := by decide +kernel
theorem dX11_does_327 : decode cX11_does 327 = .ok (.ireturn, 1) := by decide +kernel
theorem dX11_does_328 : decode cX11_does 328 = .ok (.aload_n 0, 1) := by decide +kernel
theorem dX11_does_329 : decode cX11_does 329 = .ok (.lload_n 2, 1) := by decide +kernel
theorem dX11_does_330 : decode cX11_does 330 = .ok (.lload 4, 2) := by decide +kernel
theorem dX11_does_332 : decode cX11_does 332 = .ok (.lcmp, 1) := by decide +kernel
theorem dX11_does_333 : decode cX11_does 333 = .ok (.ifCond .le 7, 3) := by decide +kernel
theorem dX11_does_336 : decode cX11_does 336 = .ok (.iconst 1, 1) := by decide +kernel
theorem dX11_does_337 : decode cX11_does 337 = .ok (.goto 4, 3) := by decide +kernel
theorem dX11_does_340 : decode cX11_does 340 = .ok (.iconst 0, 1) := by decide +kernel
theorem dX11_does_341 : decode cX11_does 341 = .ok (.invokestatic 244, 3) := by decide +kernel
theorem dX11_does_344 : decode cX11_does 344 = .ok (.invokevirtual 248, 3) := by decide +kernel
theorem dX11_does_347 : decode cX11_does 347 = .ok (.ireturn, 1) := by decide +kernel
theorem dX11_does_348 : decode cX11_does 348 = .ok (.aload_n 0, 1) := by decide +kernel
theorem dX11_does_349 : decode cX11_does 349 = .ok (.lload_n 2, 1) := by decide +kernel
theorem dX11_does_350 : decode cX11_does 350 = .ok (.lload 4, 2) := by decide +kernel
theorem dX11_does_352 : decode cX11_does 352 = .ok (.ladd, 1) := by decide +kernel
theorem dX11_does_353 : decode cX11_does 353 = .ok (.invokevirtual 248, 3) := by decide +kernel
theorem dX11_does_356 : decode cX11_does 356 = .ok (.ireturn, 1) := by decide +kernel
theorem dX11_does_357 : decode cX11_does 357 = .ok (.aload_n 0, 1) := by decide +kernel
theorem dX11_does_358 : decode cX11_does 358 = .ok (.lload_n 2, 1) := by decide +kernel
theorem dX11_does_359 : decode cX11_does 359 = .ok (.lload 4, 2) := by decide +kernel
theorem dX11_does_361 : decode cX11_does 361 = .ok (.lsub, 1) := by decide +kernel
theorem dX11_does_362 : decode cX11_does 362 = .ok (.invokevirtual 248, 3) := by decide +kernel
theorem dX11_does_365 : decode cX11_does 365 = .ok (.ireturn, 1) := by decide +kernel
theorem dX11_does_366 : decode cX11_does 366 = .ok (.lload_n 2, 1) := by decide +kernel
theorem dX11_does_367 : decode cX11_does 367 = .ok (.lconst 0, 1) := by decide +kernel
theorem dX11_does_368 : decode cX11_does 368 = .ok (.lcmp, 1) := by decide +kernel
theorem dX11_does_369 : decode cX11_does 369 = .ok (.ifCond .eq 20, 3) := by decide +kernel
theorem dX11_does_372 : decode cX11_does 372 = .ok (.lload 4, 2) := by decide +kernel
theorem dX11_does_374 : decode cX11_does 374 = .ok (.invokestatic 252, 3) := by decide +kernel
theorem dX11_does_377 : decode cX11_does 377 = .ok (.ldc2_w 240, 3) := by decide +kernel
theorem dX11_does_380 : decode cX11_does 380 = .ok (.lload_n 2, 1) := by decide +kernel
theorem dX11_does_381 : decode cX11_does 381 = .ok (.invokestatic 252, 3) := by decide +kernel
theorem dX11_does_384 : decode cX11_does 384 = .ok (.ldiv, 1) := by decide +kernel
theorem dX11_does_385 : decode cX11_does 385 = .ok (.lcmp, 1) := by decide +kernel
theorem dX11_does_386 : decode cX11_does 386 = .ok (.ifCond .gt 18, 3) := by decide +kernel
theorem dX11_does_389 : decode cX11_does 389 = .ok (.aload_n 0, 1) := by decide +kernel
theorem dX11_does_390 : decode cX11_does 390 = .ok (.lload_n 2, 1) := by decide +kernel
theorem dX11_does_391 : decode cX11_does 391 = .ok (.lload 4, 2) := by decide +kernel
theorem dX11_does_393 : decode cX11_does 393 = .ok (.lmul, 1) := by decide +kernel
theorem dX11_does_394 : decode cX11_does 394 = .ok (.invokevirtual 248, 3) := by decide +kernel
theorem dX11_does_397 : decode cX11_does 397 = .ok (.ifCond .eq 7, 3) := by decide +kernel
theorem dX11_does_400 : decode cX11_does 400 = .ok (.iconst 1, 1) := by decide +kernel
theorem dX11_does_401 : decode cX11_does 401 = .ok (.goto 4, 3) := by decide +kernel
theorem dX11_does_404 : decode cX11_does 404 = .ok (.iconst 0, 1) := by decide +kernel
theorem dX11_does_405 : decode cX11_does 405 = .ok (.ireturn, 1) := by decide +kernel
theorem dX11_does_406 : decode cX11_does 406 = .ok (.lload 4, 2) := by decide +kernel
theorem dX11_does_408 : decode cX11_does 408 = .ok (.lconst 0, 1) := by decide +kernel
theorem dX11_does_409 : decode cX11_does 409 = .ok (.lcmp, 1) := by decide +kernel
theorem dX11_does_410 : decode cX11_does 410 = .ok (.ifCond .eq 18, 3) := by decide +kernel
theorem dX11_does_413 : decode cX11_does 413 = .ok (.aload_n 0, 1) := by decide +kernel
theorem dX11_does_414 : decode cX11_does 414 = .ok (.lload_n 2, 1) := by decide +kernel
theorem dX11_does_415 : decode cX11_does 415 = .ok (.lload 4, 2) := by decide +kernel
theorem dX11_does_417 : decode cX11_does 417 = .ok (.ldiv, 1) := by decide +kernel
theorem dX11_does_418 : decode cX11_does 418 = .ok (.invokevirtual 248, 3) := by decide +kernel
theorem dX11_does_421 : decode cX11_does 421 = .ok (.ifCond .eq 7, 3) := by decide +kernel
theorem dX11_does_424 : decode cX11_does 424 = .ok (.iconst 1, 1) := by decide +kernel
theorem dX11_does_425 : decode cX11_does 425 = .ok (.goto 4, 3) := by decide +kernel
theorem dX11_does_428 : decode cX11_does 428 = .ok (.iconst 0, 1) := by decide +kernel
theorem dX11_does_429 : decode cX11_does 429 = .ok (.ireturn, 1) := by decide +kernel
theorem dX11_holdsE_0 : decode cX11_holdsE 0 = .ok (.aload_n 0, 1) := by decide +kernel
theorem dX11_holdsE_1 : decode cX11_holdsE 1 = .ok (.getfield 22, 3) := by decide +kernel
theorem dX11_holdsE_4 : decode cX11_holdsE 4 = .ok (.iload_n 1, 1) := by decide +kernel
theorem dX11_holdsE_5 : decode cX11_holdsE 5 = .ok (.baload, 1) := by decide +kernel
theorem dX11_holdsE_6 : decode cX11_holdsE 6 = .ok (.ifCond .ne 47, 3) := by decide +kernel
theorem dX11_holdsE_9 : decode cX11_holdsE 9 = .ok (.aload_n 0, 1) := by decide +kernel
theorem dX11_holdsE_10 : decode cX11_holdsE 10 = .ok (.getfield 36, 3) := by decide +kernel
theorem dX11_holdsE_13 : decode cX11_holdsE 13 = .ok (.iconst 3, 1) := by decide +kernel
theorem dX11_holdsE_14 : decode cX11_holdsE 14 = .ok (.laload, 1) := by decide +kernel
theorem dX11_holdsE_15 : decode cX11_holdsE 15 = .ok (.lconst 1, 1) := by decide +kernel
theorem dX11_holdsE_16 : decode cX11_holdsE 16 = .ok (.lcmp, 1) := by decide +kernel
theorem dX11_holdsE_17 : decode cX11_holdsE 17 = .ok (.ifCond .ne 34, 3) := by decide +kernel
theorem dX11_holdsE_20 : decode cX11_holdsE 20 = .ok (.aload_n 0, 1) := by decide +kernel
theorem dX11_holdsE_21 : decode cX11_holdsE 21 = .ok (.getfield 36, 3) := by decide +kernel
theorem dX11_holdsE_24 : decode cX11_holdsE 24 = .ok (.iconst 0, 1) := by decide +kernel
theorem dX11_holdsE_25 : decode cX11_holdsE 25 = .ok (.laload, 1) := by decide +kernel
theorem dX11_holdsE_26 : decode cX11_holdsE 26 = .ok (.aload_n 0, 1) := by decide +kernel
theorem dX11_holdsE_27 : decode cX11_holdsE 27 = .ok (.getfield 36, 3) := by decide +kernel
theorem dX11_holdsE_30 : decode cX11_holdsE 30 = .ok (.iconst 1, 1) := by decide +kernel
theorem dX11_holdsE_31 : decode cX11_holdsE 31 = .ok (.laload, 1) := by decide +kernel
theorem dX11_holdsE_32 : decode cX11_holdsE 32 = .ok (.lcmp, 1) := by decide +kernel
theorem dX11_holdsE_33 : decode cX11_holdsE 33 = .ok (.ifCond .gt 14, 3) := by decide +kernel
theorem dX11_holdsE_36 : decode cX11_holdsE 36 = .ok (.aload_n 0, 1) := by decide +kernel
theorem dX11_holdsE_37 : decode cX11_holdsE 37 = .ok (.getfield 36, 3) := by decide +kernel
theorem dX11_holdsE_40 : decode cX11_holdsE 40 = .ok (.iconst 2, 1) := by decide +kernel
theorem dX11_holdsE_41 : decode cX11_holdsE 41 = .ok (.laload, 1) := by decide +kernel
theorem dX11_holdsE_42 : decode cX11_holdsE 42 = .ok (.lconst 1, 1) := by decide +kernel
theorem dX11_holdsE_43 : decode cX11_holdsE 43 = .ok (.lcmp, 1) := by decide +kernel
theorem dX11_holdsE_44 : decode cX11_holdsE 44 = .ok (.ifCond .ne 7, 3) := by decide +kernel
theorem dX11_holdsE_47 : decode cX11_holdsE 47 = .ok (.iconst 1, 1) := by decide +kernel
theorem dX11_holdsE_48 : decode cX11_holdsE 48 = .ok (.goto 4, 3) := by decide +kernel
theorem dX11_holdsE_51 : decode cX11_holdsE 51 = .ok (.iconst 0, 1) := by decide +kernel
theorem dX11_holdsE_52 : decode cX11_holdsE 52 = .ok (.ireturn, 1) := by decide +kernel
theorem dX11_holdsE_53 : decode cX11_holdsE 53 = .ok (.aload_n 0, 1) := by decide +kernel
theorem dX11_holdsE_54 : decode cX11_holdsE 54 = .ok (.iconst 0, 1) := by decide +kernel
theorem dX11_holdsE_55 : decode cX11_holdsE 55 = .ok (.putfield 237, 3) := by decide +kernel
theorem dX11_holdsE_58 : decode cX11_holdsE 58 = .ok (.iconst 0, 1) := by decide +kernel
theorem dX11_holdsE_59 : decode cX11_holdsE 59 = .ok (.istore_n 2, 1) := by decide +kernel
theorem dX11_holdsE_60 : decode cX11_holdsE 60 = .ok (.iload_n 2, 1) := by decide +kernel
theorem dX11_holdsE_61 : decode cX11_holdsE 61 = .ok (.aload_n 0, 1) := by decide +kernel
theorem dX11_holdsE_62 : decode cX11_holdsE 62 = .ok (.getfield 19, 3) := by decide +kernel
theorem dX11_holdsE_65 : decode cX11_holdsE 65 = .ok (.iload_n 1, 1) := by decide +kernel
theorem dX11_holdsE_66 : decode cX11_holdsE 66 = .ok (.iaload, 1) := by decide +kernel
theorem dX11_holdsE_67 : decode cX11_holdsE 67 = .ok (.if_icmp .ge 82, 3) := by decide +kernel
theorem dX11_holdsE_70 : decode cX11_holdsE 70 = .ok (.bipush 64, 2) := by decide +kernel
theorem dX11_holdsE_72 : decode cX11_holdsE 72 = .ok (.iload_n 1, 1) := by decide +kernel
theorem dX11_holdsE_73 : decode cX11_holdsE 73 = .ok (.imul, 1) := by decide +kernel
theorem dX11_holdsE_74 : decode cX11_holdsE 74 = .ok (.iload_n 2, 1) := by decide +kernel
theorem dX11_holdsE_75 : decode cX11_holdsE 75 = .ok (.iadd, 1) := by decide +kernel
theorem dX11_holdsE_76 : decode cX11_holdsE 76 = .ok (.istore_n 3, 1) := by decide +kernel
theorem dX11_holdsE_77 : decode cX11_holdsE 77 = .ok (.aload_n 0, 1) := by decide +kernel
theorem dX11_holdsE_78 : decode cX11_holdsE 78 = .ok (.getfield 13, 3) := by decide +kernel
theorem dX11_holdsE_81 : decode cX11_holdsE 81 = .ok (.iload_n 3, 1) := by decide +kernel
theorem dX11_holdsE_82 : decode cX11_holdsE 82 = .ok (.iaload, 1) := by decide +kernel
theorem dX11_holdsE_83 : decode cX11_holdsE 83 = .ok (.iconst 2, 1) := by decide +kernel
theorem dX11_holdsE_84 : decode cX11_holdsE 84 = .ok (.if_icmp .ne 16, 3) := by decide +kernel
theorem dX11_holdsE_87 : decode cX11_holdsE 87 = .ok (.aload_n 0, 1) := by decide +kernel
theorem dX11_holdsE_88 : decode cX11_holdsE 88 = .ok (.aload_n 0, 1) := by decide +kernel
theorem dX11_holdsE_89 : decode cX11_holdsE 89 = .ok (.getfield 16, 3) := by decide +kernel
theorem dX11_holdsE_92 : decode cX11_holdsE 92 = .ok (.iload_n 3, 1) := by decide +kernel
theorem dX11_holdsE_93 : decode cX11_holdsE 93 = .ok (.iaload, 1) := by decide +kernel
theorem dX11_holdsE_94 : decode cX11_holdsE 94 = .ok (.invokevirtual 258, 3) := by decide +kernel
theorem dX11_holdsE_97 : decode cX11_holdsE 97 = .ok (.goto 37, 3) := by decide +kernel
theorem dX11_holdsE_100 : decode cX11_holdsE 100 = .ok (.aload_n 0, 1) := by decide +kernel
theorem dX11_holdsE_101 : decode cX11_holdsE 101 = .ok (.aload_n 0, 1) := by decide +kernel
theorem dX11_holdsE_102 : decode cX11_holdsE 102 = .ok (.getfield 13, 3) := by decide +kernel
theorem dX11_holdsE_105 : decode cX11_holdsE 105 = .ok (.iload_n 3, 1) := by decide +kernel
theorem dX11_holdsE_106 : decode cX11_holdsE 106 = .ok (.iaload, 1) := by decide +kernel
theorem dX11_holdsE_107 : decode cX11_holdsE 107 = .ok (.ifCond .ne 13, 3) := by decide +kernel
theorem dX11_holdsE_110 : decode cX11_holdsE 110 = .ok (.aload_n 0, 1) := by decide +kernel
theorem dX11_holdsE_111 : decode cX11_holdsE 111 = .ok (.getfield 16, 3) := by decide +kernel
theorem dX11_holdsE_114 : decode cX11_holdsE 114 = .ok (.iload_n 3, 1) := by decide +kernel
theorem dX11_holdsE_115 : decode cX11_holdsE 115 = .ok (.iaload, 1) := by decide +kernel
theorem dX11_holdsE_116 : decode cX11_holdsE 116 = .ok (.i2l, 1) := by decide +kernel
theorem dX11_holdsE_117 : decode cX11_holdsE 117 = .ok (.goto 14, 3) := by decide +kernel
theorem dX11_holdsE_120 : decode cX11_holdsE 120 = .ok (.aload_n 0, 1) := by decide +kernel
theorem dX11_holdsE_121 : decode cX11_holdsE 121 = .ok (.getfield 36, 3) := by decide +kernel
theorem dX11_holdsE_124 : decode cX11_holdsE 124 = .ok (.aload_n 0, 1) := by decide +kernel
theorem dX11_holdsE_125 : decode cX11_holdsE 125 = .ok (.getfield 16, 3) := by decide +kernel
theorem dX11_holdsE_128 : decode cX11_holdsE 128 = .ok (.iload_n 3, 1) := by decide +kernel
theorem dX11_holdsE_129 : decode cX11_holdsE 129 = .ok (.iaload, 1) := by decide +kernel
theorem dX11_holdsE_130 : decode cX11_holdsE 130 = .ok (.laload, 1) := by decide +kernel
theorem dX11_holdsE_131 : decode cX11_holdsE 131 = .ok (.invokevirtual 248, 3) := by decide +kernel
theorem dX11_holdsE_134 : decode cX11_holdsE 134 = .ok (.istore 4, 2) := by decide +kernel
theorem dX11_holdsE_136 : decode cX11_holdsE 136 = .ok (.iload 4, 2) := by decide +kernel
theorem dX11_holdsE_138 : decode cX11_holdsE 138 = .ok (.ifCond .ne 5, 3) := by decide +kernel
theorem dX11_holdsE_141 : decode cX11_holdsE 141 = .ok (.iconst 0, 1) := by decide +kernel
theorem dX11_holdsE_142 : decode cX11_holdsE 142 = .ok (.ireturn, 1) := by decide +kernel
theorem dX11_holdsE_143 : decode cX11_holdsE 143 = .ok (.iinc 2 1, 3) := by decide +kernel
theorem dX11_holdsE_146 : decode cX11_holdsE 146 = .ok (.goto (-86), 3) := by decide +kernel
theorem dX11_holdsE_149 : decode cX11_holdsE 149 = .ok (.aload_n 0, 1) := by decide +kernel
theorem dX11_holdsE_150 : decode cX11_holdsE 150 = .ok (.getfield 40, 3) := by decide +kernel
theorem dX11_holdsE_153 : decode cX11_holdsE 153 = .ok (.iconst 0, 1) := by decide +kernel
theorem dX11_holdsE_154 : decode cX11_holdsE 154 = .ok (.laload, 1) := by decide +kernel
theorem dX11_holdsE_155 : decode cX11_holdsE 155 = .ok (.lconst 0, 1) := by decide +kernel
theorem dX11_holdsE_156 : decode cX11_holdsE 156 = .ok (.lcmp, 1) := by decide +kernel
theorem dX11_holdsE_157 : decode cX11_holdsE 157 = .ok (.ifCond .eq 7, 3) := by decide +kernel
theorem dX11_holdsE_160 : decode cX11_holdsE 160 = .ok (.iconst 1, 1) := by decide +kernel
theorem dX11_holdsE_161 : decode cX11_holdsE 161 = .ok (.goto 4, 3) := by decide +kernel
theorem dX11_holdsE_164 : decode cX11_holdsE 164 = .ok (.iconst 0, 1) := by decide +kernel
theorem dX11_holdsE_165 : decode cX11_holdsE 165 = .ok (.ireturn, 1) := by decide +kernel
theorem dX11_days_0 : decode cX11_days 0 = .ok (.aload_n 0, 1) := by decide +kernel
theorem dX11_days_1 : decode cX11_days 1 = .ok (.iconst 0, 1) := by decide +kernel
theorem dX11_days_2 : decode cX11_days 2 = .ok (.putfield 115, 3) := by decide +kernel
theorem dX11_days_5 : decode cX11_days 5 = .ok (.iload_n 1, 1) := by decide +kernel
theorem dX11_days_6 : decode cX11_days 6 = .ok (.ifCond .lt 22, 3) := by decide +kernel
theorem dX11_days_9 : decode cX11_days 9 = .ok (.iload_n 1, 1) := by decide +kernel
theorem dX11_days_10 : decode cX11_days 10 = .ok (.sipush 9999, 3) := by decide +kernel
theorem dX11_days_13 : decode cX11_days 13 = .ok (.if_icmp .gt 15, 3) := by decide +kernel
theorem dX11_days_16 : decode cX11_days 16 = .ok (.aload_n 0, 1) := by decide +kernel
theorem dX11_days_17 : decode cX11_days 17 = .ok (.getfield 261, 3) := by decide +kernel
theorem dX11_days_20 : decode cX11_days 20 = .ok (.iload_n 1, 1) := by decide +kernel
theorem dX11_days_21 : decode cX11_days 21 = .ok (.iadd, 1) := by decide +kernel
theorem dX11_days_22 : decode cX11_days 22 = .ok (.sipush 9999, 3) := by decide +kernel
theorem dX11_days_25 : decode cX11_days 25 = .ok (.if_icmp .le 5, 3) := by decide +kernel
theorem dX11_days_28 : decode cX11_days 28 = .ok (.iconst (-1), 1) := by decide +kernel
theorem dX11_days_29 : decode cX11_days 29 = .ok (.ireturn, 1) := by decide +kernel
theorem dX11_days_30 : decode cX11_days 30 = .ok (.aload_n 0, 1) := by decide +kernel
theorem dX11_days_31 : decode cX11_days 31 = .ok (.dup, 1) := by decide +kernel
theorem dX11_days_32 : decode cX11_days 32 = .ok (.getfield 261, 3) := by decide +kernel
theorem dX11_days_35 : decode cX11_days 35 = .ok (.iload_n 1, 1) := by decide +kernel
theorem dX11_days_36 : decode cX11_days 36 = .ok (.iadd, 1) := by decide +kernel
theorem dX11_days_37 : decode cX11_days 37 = .ok (.putfield 261, 3) := by decide +kernel
theorem dX11_days_40 : decode cX11_days 40 = .ok (.aload_n 0, 1) := by decide +kernel
theorem dX11_days_41 : decode cX11_days 41 = .ok (.getfield 261, 3) := by decide +kernel
theorem dX11_days_44 : decode cX11_days 44 = .ok (.ireturn, 1) := by decide +kernel
theorem dX11_court_0 : decode cX11_court 0 = .ok (.aload_n 0, 1) := by decide +kernel
theorem dX11_court_1 : decode cX11_court 1 = .ok (.iconst 0, 1) := by decide +kernel
theorem dX11_court_2 : decode cX11_court 2 = .ok (.putfield 115, 3) := by decide +kernel
theorem dX11_court_5 : decode cX11_court 5 = .ok (.iload_n 1, 1) := by decide +kernel
theorem dX11_court_6 : decode cX11_court 6 = .ok (.ifCond .lt 27, 3) := by decide +kernel
theorem dX11_court_9 : decode cX11_court 9 = .ok (.iload_n 1, 1) := by decide +kernel
theorem dX11_court_10 : decode cX11_court 10 = .ok (.bipush 9, 2) := by decide +kernel
theorem dX11_court_12 : decode cX11_court 12 = .ok (.if_icmp .gt 21, 3) := by decide +kernel
theorem dX11_court_15 : decode cX11_court 15 = .ok (.iload_n 2, 1) := by decide +kernel
theorem dX11_court_16 : decode cX11_court 16 = .ok (.ifCond .lt 17, 3) := by decide +kernel
theorem dX11_court_19 : decode cX11_court 19 = .ok (.iload_n 2, 1) := by decide +kernel
theorem dX11_court_20 : decode cX11_court 20 = .ok (.iconst 3, 1) := by decide +kernel
theorem dX11_court_21 : decode cX11_court 21 = .ok (.if_icmp .gt 12, 3) := by decide +kernel
theorem dX11_court_24 : decode cX11_court 24 = .ok (.aload_n 0, 1) := by decide +kernel
theorem dX11_court_25 : decode cX11_court 25 = .ok (.getfield 264, 3) := by decide +kernel
theorem dX11_court_28 : decode cX11_court 28 = .ok (.bipush 6, 2) := by decide +kernel
theorem dX11_court_30 : decode cX11_court 30 = .ok (.if_icmp .ne 5, 3) := by decide +kernel
theorem dX11_court_33 : decode cX11_court 33 = .ok (.iconst (-1), 1) := by decide +kernel
theorem dX11_court_34 : decode cX11_court 34 = .ok (.ireturn, 1) := by decide +kernel
theorem dX11_court_35 : decode cX11_court 35 = .ok (.aload_n 0, 1) := by decide +kernel
theorem dX11_court_36 : decode cX11_court 36 = .ok (.getfield 43, 3) := by decide +kernel
theorem dX11_court_39 : decode cX11_court 39 = .ok (.aload_n 0, 1) := by decide +kernel
theorem dX11_court_40 : decode cX11_court 40 = .ok (.getfield 264, 3) := by decide +kernel
theorem dX11_court_43 : decode cX11_court 43 = .ok (.iload_n 1, 1) := by decide +kernel
theorem dX11_court_44 : decode cX11_court 44 = .ok (.iastore, 1) := by decide +kernel
theorem dX11_court_45 : decode cX11_court 45 = .ok (.aload_n 0, 1) := by decide +kernel
theorem dX11_court_46 : decode cX11_court 46 = .ok (.getfield 46, 3) := by decide +kernel
theorem dX11_court_49 : decode cX11_court 49 = .ok (.aload_n 0, 1) := by decide +kernel
theorem dX11_court_50 : decode cX11_court 50 = .ok (.getfield 264, 3) := by decide +kernel
theorem dX11_court_53 : decode cX11_court 53 = .ok (.iload_n 2, 1) := by decide +kernel
theorem dX11_court_54 : decode cX11_court 54 = .ok (.iastore, 1) := by decide +kernel
theorem dX11_court_55 : decode cX11_court 55 = .ok (.aload_n 0, 1) := by decide +kernel
theorem dX11_court_56 : decode cX11_court 56 = .ok (.dup, 1) := by decide +kernel
theorem dX11_court_57 : decode cX11_court 57 = .ok (.getfield 264, 3) := by decide +kernel
theorem dX11_court_60 : decode cX11_court 60 = .ok (.iconst 1, 1) := by decide +kernel
theorem dX11_court_61 : decode cX11_court 61 = .ok (.iadd, 1) := by decide +kernel
theorem dX11_court_62 : decode cX11_court 62 = .ok (.putfield 264, 3) := by decide +kernel
theorem dX11_court_65 : decode cX11_court 65 = .ok (.aload_n 0, 1) := by decide +kernel
theorem dX11_court_66 : decode cX11_court 66 = .ok (.getfield 264, 3) := by decide +kernel
