theorem dX8_takeSign_44 : decode cX8_takeSign 44 = .ok (.getfield 25, 3) := by decide +kernel
theorem dX8_takeSign_47 : decode cX8_takeSign 47 = .ok (.baload, 1) := by decide +kernel
theorem dX8_takeSign_48 : decode cX8_takeSign 48 = .ok (.goto 4, 3) := by decide +kernel
theorem dX8_takeSign_51 : decode cX8_takeSign 51 = .ok (.iconst (-1), 1) := by decide +kernel
theorem dX8_takeSign_52 : decode cX8_takeSign 52 = .ok (.istore_n 2, 1) := by decide +kernel
theorem dX8_takeSign_53 : decode cX8_takeSign 53 = .ok (.iload_n 1, 1) := by decide +kernel
theorem dX8_takeSign_54 : decode cX8_takeSign 54 = .ok (.bipush 60, 2) := by decide +kernel
theorem dX8_takeSign_56 : decode cX8_takeSign 56 = .ok (.if_icmp .ne 28, 3) := by decide +kernel
theorem dX8_takeSign_59 : decode cX8_takeSign 59 = .ok (.iload_n 2, 1) := by decide +kernel
theorem dX8_takeSign_60 : decode cX8_takeSign 60 = .ok (.bipush 61, 2) := by decide +kernel
theorem dX8_takeSign_62 : decode cX8_takeSign 62 = .ok (.if_icmp .ne 22, 3) := by decide +kernel
theorem dX8_takeSign_65 : decode cX8_takeSign 65 = .ok (.aload_n 0, 1) := by decide +kernel
theorem dX8_takeSign_66 : decode cX8_takeSign 66 = .ok (.bipush 8, 2) := by decide +kernel
theorem dX8_takeSign_68 : decode cX8_takeSign 68 = .ok (.putfield 34, 3) := by decide +kernel
theorem dX8_takeSign_71 : decode cX8_takeSign 71 = .ok (.aload_n 0, 1) := by decide +kernel
theorem dX8_takeSign_72 : decode cX8_takeSign 72 = .ok (.dup, 1) := by decide +kernel
theorem dX8_takeSign_73 : decode cX8_takeSign 73 = .ok (.getfield 25, 3) := by decide +kernel
theorem dX8_takeSign_76 : decode cX8_takeSign 76 = .ok (.iconst 1, 1) := by decide +kernel
theorem dX8_takeSign_77 : decode cX8_takeSign 77 = .ok (.iadd, 1) := by decide +kernel
theorem dX8_takeSign_78 : decode cX8_takeSign 78 = .ok (.putfield 25, 3) := by decide +kernel
theorem dX8_takeSign_81 : decode cX8_takeSign 81 = .ok (.goto 62, 3) := by decide +kernel
theorem dX8_takeSign_84 : decode cX8_takeSign 84 = .ok (.iload_n 1, 1) := by decide +kernel
theorem dX8_takeSign_85 : decode cX8_takeSign 85 = .ok (.bipush 60, 2) := by decide +kernel
theorem dX8_takeSign_87 : decode cX8_takeSign 87 = .ok (.if_icmp .ne 28, 3) := by decide +kernel
theorem dX8_takeSign_90 : decode cX8_takeSign 90 = .ok (.iload_n 2, 1) := by decide +kernel
theorem dX8_takeSign_91 : decode cX8_takeSign 91 = .ok (.bipush 62, 2) := by decide +kernel
theorem dX8_takeSign_93 : decode cX8_takeSign 93 = .ok (.if_icmp .ne 22, 3) := by decide +kernel
theorem dX8_takeSign_96 : decode cX8_takeSign 96 = .ok (.aload_n 0, 1) := by decide +kernel
theorem dX8_takeSign_97 : decode cX8_takeSign 97 = .ok (.bipush 10, 2) := by decide +kernel
theorem dX8_takeSign_99 : decode cX8_takeSign 99 = .ok (.putfield 34, 3) := by decide +kernel
theorem dX8_takeSign_102 : decode cX8_takeSign 102 = .ok (.aload_n 0, 1) := by decide +kernel
theorem dX8_takeSign_103 : decode cX8_takeSign 103 = .ok (.dup, 1) := by decide +kernel
theorem dX8_takeSign_104 : decode cX8_takeSign 104 = .ok (.getfield 25, 3) := by decide +kernel
theorem dX8_takeSign_107 : decode cX8_takeSign 107 = .ok (.iconst 1, 1) := by decide +kernel
theorem dX8_takeSign_108 : decode cX8_takeSign 108 = .ok (.iadd, 1) := by decide +kernel
theorem dX8_takeSign_109 : decode cX8_takeSign 109 = .ok (.putfield 25, 3) := by decide +kernel
theorem dX8_takeSign_112 : decode cX8_takeSign 112 = .ok (.goto 31, 3) := by decide +kernel
theorem dX8_takeSign_115 : decode cX8_takeSign 115 = .ok (.iload_n 1, 1) := by decide +kernel
theorem dX8_takeSign_116 : decode cX8_takeSign 116 = .ok (.bipush 62, 2) := by decide +kernel
theorem dX8_takeSign_118 : decode cX8_takeSign 118 = .ok (.if_icmp .ne 25, 3) := by decide +kernel
theorem dX8_takeSign_121 : decode cX8_takeSign 121 = .ok (.iload_n 2, 1) := by decide +kernel
theorem dX8_takeSign_122 : decode cX8_takeSign 122 = .ok (.bipush 61, 2) := by decide +kernel
theorem dX8_takeSign_124 : decode cX8_takeSign 124 = .ok (.if_icmp .ne 19, 3) := by decide +kernel
theorem dX8_takeSign_127 : decode cX8_takeSign 127 = .ok (.aload_n 0, 1) := by decide +kernel
theorem dX8_takeSign_128 : decode cX8_takeSign 128 = .ok (.bipush 11, 2) := by decide +kernel
theorem dX8_takeSign_130 : decode cX8_takeSign 130 = .ok (.putfield 34, 3) := by decide +kernel
theorem dX8_takeSign_133 : decode cX8_takeSign 133 = .ok (.aload_n 0, 1) := by decide +kernel
theorem dX8_takeSign_134 : decode cX8_takeSign 134 = .ok (.dup, 1) := by decide +kernel
theorem dX8_takeSign_135 : decode cX8_takeSign 135 = .ok (.getfield 25, 3) := by decide +kernel
theorem dX8_takeSign_138 : decode cX8_takeSign 138 = .ok (.iconst 1, 1) := by decide +kernel
theorem dX8_takeSign_139 : decode cX8_takeSign 139 = .ok (.iadd, 1) := by decide +kernel
theorem dX8_takeSign_140 : decode cX8_takeSign 140 = .ok (.putfield 25, 3) := by decide +kernel
theorem dX8_takeSign_143 : decode cX8_takeSign 143 = .ok (.return_, 1) := by decide +kernel
theorem dX8_signOf_0 : decode cX8_signOf 0 = .ok (.iload_n 0, 1) := by decide +kernel
theorem dX8_signOf_1 : decode cX8_signOf 1 = .ok (.tableswitch 135 40 62 #[109, 111, 129, 123, 135, 126, 135, 132, 135, 135, 135, 135, 135, 135, 135, 135, 135, 135, 135, 107, 114, 117, 120], 107) := by decide +kernel
theorem dX8_signOf_108 : decode cX8_signOf 108 = .ok (.iconst 4, 1) := by decide +kernel
theorem dX8_signOf_109 : decode cX8_signOf 109 = .ok (.ireturn, 1) := by decide +kernel
theorem dX8_signOf_110 : decode cX8_signOf 110 = .ok (.iconst 5, 1) := by decide +kernel
theorem dX8_signOf_111 : decode cX8_signOf 111 = .ok (.ireturn, 1) := by decide +kernel
theorem dX8_signOf_112 : decode cX8_signOf 112 = .ok (.bipush 6, 2) := by decide +kernel
theorem dX8_signOf_114 : decode cX8_signOf 114 = .ok (.ireturn, 1) := by decide +kernel
theorem dX8_signOf_115 : decode cX8_signOf 115 = .ok (.bipush 7, 2) := by decide +kernel
theorem dX8_signOf_117 : decode cX8_signOf 117 = .ok (.ireturn, 1) := by decide +kernel
theorem dX8_signOf_118 : decode cX8_signOf 118 = .ok (.bipush 9, 2) := by decide +kernel
theorem dX8_signOf_120 : decode cX8_signOf 120 = .ok (.ireturn, 1) := by decide +kernel
theorem dX8_signOf_121 : decode cX8_signOf 121 = .ok (.bipush 12, 2) := by decide +kernel
theorem dX8_signOf_123 : decode cX8_signOf 123 = .ok (.ireturn, 1) := by decide +kernel
theorem dX8_signOf_124 : decode cX8_signOf 124 = .ok (.bipush 13, 2) := by decide +kernel
theorem dX8_signOf_126 : decode cX8_signOf 126 = .ok (.ireturn, 1) := by decide +kernel
theorem dX8_signOf_127 : decode cX8_signOf 127 = .ok (.bipush 14, 2) := by decide +kernel
theorem dX8_signOf_129 : decode cX8_signOf 129 = .ok (.ireturn, 1) := by decide +kernel
theorem dX8_signOf_130 : decode cX8_signOf 130 = .ok (.bipush 15, 2) := by decide +kernel
theorem dX8_signOf_132 : decode cX8_signOf 132 = .ok (.ireturn, 1) := by decide +kernel
theorem dX8_signOf_133 : decode cX8_signOf 133 = .ok (.bipush 16, 2) := by decide +kernel
theorem dX8_signOf_135 : decode cX8_signOf 135 = .ok (.ireturn, 1) := by decide +kernel
theorem dX8_signOf_136 : decode cX8_signOf 136 = .ok (.iconst 2, 1) := by decide +kernel
theorem dX8_signOf_137 : decode cX8_signOf 137 = .ok (.ireturn, 1) := by decide +kernel
theorem dX8_wordOf_0 : decode cX8_wordOf 0 = .ok (.iload_n 0, 1) := by decide +kernel
theorem dX8_wordOf_1 : decode cX8_wordOf 1 = .ok (.tableswitch 113 17 30 #[71, 74, 77, 80, 83, 86, 89, 92, 95, 98, 101, 104, 107, 110], 71) := by decide +kernel
theorem dX8_wordOf_72 : decode cX8_wordOf 72 = .ok (.ldc 70, 2) := by decide +kernel
theorem dX8_wordOf_74 : decode cX8_wordOf 74 = .ok (.areturn, 1) := by decide +kernel
theorem dX8_wordOf_75 : decode cX8_wordOf 75 = .ok (.ldc 72, 2) := by decide +kernel
theorem dX8_wordOf_77 : decode cX8_wordOf 77 = .ok (.areturn, 1) := by decide +kernel
theorem dX8_wordOf_78 : decode cX8_wordOf 78 = .ok (.ldc 74, 2) := by decide +kernel
theorem dX8_wordOf_80 : decode cX8_wordOf 80 = .ok (.areturn, 1) := by decide +kernel
theorem dX8_wordOf_81 : decode cX8_wordOf 81 = .ok (.ldc 76, 2) := by decide +kernel
theorem dX8_wordOf_83 : decode cX8_wordOf 83 = .ok (.areturn, 1) := by decide +kernel
theorem dX8_wordOf_84 : decode cX8_wordOf 84 = .ok (.ldc 78, 2) := by decide +kernel
theorem dX8_wordOf_86 : decode cX8_wordOf 86 = .ok (.areturn, 1) := by decide +kernel
theorem dX8_wordOf_87 : decode cX8_wordOf 87 = .ok (.ldc 80, 2) := by decide +kernel
theorem dX8_wordOf_89 : decode cX8_wordOf 89 = .ok (.areturn, 1) := by decide +kernel
theorem dX8_wordOf_90 : decode cX8_wordOf 90 = .ok (.ldc 82, 2) := by decide +kernel
theorem dX8_wordOf_92 : decode cX8_wordOf 92 = .ok (.areturn, 1) := by decide +kernel
theorem dX8_wordOf_93 : decode cX8_wordOf 93 = .ok (.ldc 84, 2) := by decide +kernel
theorem dX8_wordOf_95 : decode cX8_wordOf 95 = .ok (.areturn, 1) := by decide +kernel
theorem dX8_wordOf_96 : decode cX8_wordOf 96 = .ok (.ldc 86, 2) := by decide +kernel
theorem dX8_wordOf_98 : decode cX8_wordOf 98 = .ok (.areturn, 1) := by decide +kernel
theorem dX8_wordOf_99 : decode cX8_wordOf 99 = .ok (.ldc 88, 2) := by decide +kernel
theorem dX8_wordOf_101 : decode cX8_wordOf 101 = .ok (.areturn, 1) := by decide +kernel
theorem dX8_wordOf_102 : decode cX8_wordOf 102 = .ok (.ldc 90, 2) := by decide +kernel
theorem dX8_wordOf_104 : decode cX8_wordOf 104 = .ok (.areturn, 1) := by decide +kernel
theorem dX8_wordOf_105 : decode cX8_wordOf 105 = .ok (.ldc 92, 2) := by decide +kernel
theorem dX8_wordOf_107 : decode cX8_wordOf 107 = .ok (.areturn, 1) := by decide +kernel
theorem dX8_wordOf_108 : decode cX8_wordOf 108 = .ok (.ldc 94, 2) := by decide +kernel
theorem dX8_wordOf_110 : decode cX8_wordOf 110 = .ok (.areturn, 1) := by decide +kernel
theorem dX8_wordOf_111 : decode cX8_wordOf 111 = .ok (.ldc 96, 2) := by decide +kernel
theorem dX8_wordOf_113 : decode cX8_wordOf 113 = .ok (.areturn, 1) := by decide +kernel
theorem dX8_wordOf_114 : decode cX8_wordOf 114 = .ok (.ldc 98, 2) := by decide +kernel
theorem dX8_wordOf_116 : decode cX8_wordOf 116 = .ok (.areturn, 1) := by decide +kernel
theorem dX9_init_0 : decode cX9_init 0 = .ok (.aload_n 0, 1) := by decide +kernel
theorem dX9_init_1 : decode cX9_init 1 = .ok (.invokespecial 3, 3) := by decide +kernel
theorem dX9_init_4 : decode cX9_init 4 = .ok (.aload_n 0, 1) := by decide +kernel
theorem dX9_init_5 : decode cX9_init 5 = .ok (.bipush 32, 2) := by decide +kernel
theorem dX9_init_7 : decode cX9_init 7 = .ok (.newarray .int, 2) := by decide +kernel
theorem dX9_init_9 : decode cX9_init 9 = .ok (.putfield 9, 3) := by decide +kernel
theorem dX9_init_12 : decode cX9_init 12 = .ok (.aload_n 0, 1) := by decide +kernel
theorem dX9_init_13 : decode cX9_init 13 = .ok (.bipush 32, 2) := by decide +kernel
theorem dX9_init_15 : decode cX9_init 15 = .ok (.newarray .int, 2) := by decide +kernel
theorem dX9_init_17 : decode cX9_init 17 = .ok (.putfield 15, 3) := by decide +kernel
theorem dX9_init_20 : decode cX9_init 20 = .ok (.aload_n 0, 1) := by decide +kernel
theorem dX9_init_21 : decode cX9_init 21 = .ok (.bipush 8, 2) := by decide +kernel
theorem dX9_init_23 : decode cX9_init 23 = .ok (.newarray .long, 2) := by decide +kernel
theorem dX9_init_25 : decode cX9_init 25 = .ok (.putfield 18, 3) := by decide +kernel
theorem dX9_init_28 : decode cX9_init 28 = .ok (.aload_n 0, 1) := by decide +kernel
theorem dX9_init_29 : decode cX9_init 29 = .ok (.bipush 64, 2) := by decide +kernel
theorem dX9_init_31 : decode cX9_init 31 = .ok (.newarray .long, 2) := by decide +kernel
theorem dX9_init_33 : decode cX9_init 33 = .ok (.putfield 22, 3) := by decide +kernel
theorem dX9_init_36 : decode cX9_init 36 = .ok (.aload_n 0, 1) := by decide +kernel
theorem dX9_init_37 : decode cX9_init 37 = .ok (.aload_n 1, 1) := by decide +kernel
theorem dX9_init_38 : decode cX9_init 38 = .ok (.putfield 25, 3) := by decide +kernel
theorem dX9_init_41 : decode cX9_init 41 = .ok (.aload_n 0, 1) := by decide +kernel
theorem dX9_init_42 : decode cX9_init 42 = .ok (.aload_n 2, 1) := by decide +kernel
theorem dX9_init_43 : decode cX9_init 43 = .ok (.putfield 29, 3) := by decide +kernel
theorem dX9_init_46 : decode cX9_init 46 = .ok (.aload_n 0, 1) := by decide +kernel
theorem dX9_init_47 : decode cX9_init 47 = .ok (.aload_n 3, 1) := by decide +kernel
theorem dX9_init_48 : decode cX9_init 48 = .ok (.getfield 33, 3) := by decide +kernel
theorem dX9_init_51 : decode cX9_init 51 = .ok (.putfield 39, 3) := by decide +kernel
theorem dX9_init_54 : decode cX9_init 54 = .ok (.aload_n 0, 1) := by decide +kernel
theorem dX9_init_55 : decode cX9_init 55 = .ok (.aload_n 3, 1) := by decide +kernel
theorem dX9_init_56 : decode cX9_init 56 = .ok (.putfield 40, 3) := by decide +kernel
theorem dX9_init_59 : decode cX9_init 59 = .ok (.aload_n 0, 1) := by decide +kernel
theorem dX9_init_60 : decode cX9_init 60 = .ok (.aload 4, 2) := by decide +kernel
theorem dX9_init_62 : decode cX9_init 62 = .ok (.putfield 44, 3) := by decide +kernel
theorem dX9_init_65 : decode cX9_init 65 = .ok (.return_, 1) := by decide +kernel
theorem dX9_see_0 : decode cX9_see 0 = .ok (.aload_n 0, 1) := by decide +kernel
theorem dX9_see_1 : decode cX9_see 1 = .ok (.aload_n 1, 1) := by decide +kernel
theorem dX9_see_2 : decode cX9_see 2 = .ok (.putfield 44, 3) := by decide +kernel
theorem dX9_see_5 : decode cX9_see 5 = .ok (.aload_n 0, 1) := by decide +kernel
theorem dX9_see_6 : decode cX9_see 6 = .ok (.getfield 40, 3) := by decide +kernel
theorem dX9_see_9 : decode cX9_see 9 = .ok (.iload_n 2, 1) := by decide +kernel
theorem dX9_see_10 : decode cX9_see 10 = .ok (.iload_n 3, 1) := by decide +kernel
theorem dX9_see_11 : decode cX9_see 11 = .ok (.invokevirtual 48, 3) := by decide +kernel
theorem dX9_see_14 : decode cX9_see 14 = .ok (.iconst 0, 1) := by decide +kernel
theorem dX9_see_15 : decode cX9_see 15 = .ok (.istore 4, 2) := by decide +kernel
theorem dX9_see_17 : decode cX9_see 17 = .ok (.iconst 0, 1) := by decide +kernel
theorem dX9_see_18 : decode cX9_see 18 = .ok (.istore 5, 2) := by decide +kernel
theorem dX9_see_20 : decode cX9_see 20 = .ok (.iload 5, 2) := by decide +kernel
theorem dX9_see_22 : decode cX9_see 22 = .ok (.aload_n 0, 1) := by decide +kernel
theorem dX9_see_23 : decode cX9_see 23 = .ok (.getfield 29, 3) := by decide +kernel
theorem dX9_see_26 : decode cX9_see 26 = .ok (.getfield 52, 3) := by decide +kernel
theorem dX9_see_29 : decode cX9_see 29 = .ok (.if_icmp .ge 50, 3) := by decide +kernel
theorem dX9_see_32 : decode cX9_see 32 = .ok (.aload_n 0, 1) := by decide +kernel
theorem dX9_see_33 : decode cX9_see 33 = .ok (.getfield 29, 3) := by decide +kernel
theorem dX9_see_36 : decode cX9_see 36 = .ok (.getfield 58, 3) := by decide +kernel
theorem dX9_see_39 : decode cX9_see 39 = .ok (.iload 5, 2) := by decide +kernel
theorem dX9_see_41 : decode cX9_see 41 = .ok (.iaload, 1) := by decide +kernel
theorem dX9_see_42 : decode cX9_see 42 = .ok (.istore 6, 2) := by decide +kernel
theorem dX9_see_44 : decode cX9_see 44 = .ok (.aload_n 0, 1) := by decide +kernel
theorem dX9_see_45 : decode cX9_see 45 = .ok (.getfield 40, 3) := by decide +kernel
theorem dX9_see_48 : decode cX9_see 48 = .ok (.iload 6, 2) := by decide +kernel
theorem dX9_see_50 : decode cX9_see 50 = .ok (.invokevirtual 61, 3) := by decide +kernel
theorem dX9_see_53 : decode cX9_see 53 = .ok (.ifCond .eq 20, 3) := by decide +kernel
theorem dX9_see_56 : decode cX9_see 56 = .ok (.aload_n 0, 1) := by decide +kernel
theorem dX9_see_57 : decode cX9_see 57 = .ok (.iload 6, 2) := by decide +kernel
theorem dX9_see_59 : decode cX9_see 59 = .ok (.iload 4, 2) := by decide +kernel
theorem dX9_see_61 : decode cX9_see 61 = .ok (.invokevirtual 65, 3) := by decide +kernel
theorem dX9_see_64 : decode cX9_see 64 = .ok (.iload 4, 2) := by decide +kernel
theorem dX9_see_66 : decode cX9_see 66 = .ok (.iconst 1, 1) := by decide +kernel
theorem dX9_see_67 : decode cX9_see 67 = .ok (.iload 6, 2) := by decide +kernel
theorem dX9_see_69 : decode cX9_see 69 = .ok (.ishl, 1) := by decide +kernel
theorem dX9_see_70 : decode cX9_see 70 = .ok (.ior, 1) := by decide +kernel
theorem dX9_see_71 : decode cX9_see 71 = .ok (.istore 4, 2) := by decide +kernel
theorem dX9_see_73 : decode cX9_see 73 = .ok (.iinc 5 1, 3) := by decide +kernel
theorem dX9_see_76 : decode cX9_see 76 = .ok (.goto (-56), 3) := by decide +kernel
theorem dX9_see_79 : decode cX9_see 79 = .ok (.return_, 1) := by decide +kernel
theorem dX9_goToDay_0 : decode cX9_goToDay 0 = .ok (.iconst 0, 1) := by decide +kernel
theorem dX9_goToDay_1 : decode cX9_goToDay 1 = .ok (.istore_n 2, 1) := by decide +kernel
theorem dX9_goToDay_2 : decode cX9_goToDay 2 = .ok (.iconst 0, 1) := by decide +kernel
theorem dX9_goToDay_3 : decode cX9_goToDay 3 = .ok (.istore_n 3, 1) := by decide +kernel
theorem dX9_goToDay_4 : decode cX9_goToDay 4 = .ok (.iload_n 3, 1) := by decide +kernel
theorem dX9_goToDay_5 : decode cX9_goToDay 5 = .ok (.aload_n 0, 1) := by decide +kernel
theorem dX9_goToDay_6 : decode cX9_goToDay 6 = .ok (.getfield 29, 3) := by decide +kernel
theorem dX9_goToDay_9 : decode cX9_goToDay 9 = .ok (.getfield 52, 3) := by decide +kernel
theorem dX9_goToDay_12 : decode cX9_goToDay 12 = .ok (.if_icmp .ge 39, 3) := by decide +kernel
theorem dX9_goToDay_15 : decode cX9_goToDay 15 = .ok (.aload_n 0, 1) := by decide +kernel
theorem dX9_goToDay_16 : decode cX9_goToDay 16 = .ok (.getfield 40, 3) := by decide +kernel
theorem dX9_goToDay_19 : decode cX9_goToDay 19 = .ok (.iload_n 3, 1) := by decide +kernel
theorem dX9_goToDay_20 : decode cX9_goToDay 20 = .ok (.invokevirtual 61, 3) := by decide +kernel
theorem dX9_goToDay_23 : decode cX9_goToDay 23 = .ok (.ifCond .eq 22, 3) := by decide +kernel
theorem dX9_goToDay_26 : decode cX9_goToDay 26 = .ok (.aload_n 0, 1) := by decide +kernel
theorem dX9_goToDay_27 : decode cX9_goToDay 27 = .ok (.getfield 29, 3) := by decide +kernel
theorem dX9_goToDay_30 : decode cX9_goToDay 30 = .ok (.getfield 68, 3) := by decide +kernel
theorem dX9_goToDay_33 : decode cX9_goToDay 33 = .ok (.iload_n 3, 1) := by decide +kernel
theorem dX9_goToDay_34 : decode cX9_goToDay 34 = .ok (.iaload, 1) := by decide +kernel
theorem dX9_goToDay_35 : decode cX9_goToDay 35 = .ok (.iload_n 1, 1) := by decide +kernel
theorem dX9_goToDay_36 : decode cX9_goToDay 36 = .ok (.if_icmp .gt 9, 3) := by decide +kernel
theorem dX9_goToDay_39 : decode cX9_goToDay 39 = .ok (.iload_n 2, 1) := by decide +kernel
theorem dX9_goToDay_40 : decode cX9_goToDay 40 = .ok (.iconst 1, 1) := by decide +kernel
theorem dX9_goToDay_41 : decode cX9_goToDay 41 = .ok (.iload_n 3, 1) := by decide +kernel
theorem dX9_goToDay_42 : decode cX9_goToDay 42 = .ok (.ishl, 1) := by decide +kernel
theorem dX9_goToDay_43 : decode cX9_goToDay 43 = .ok (.ior, 1) := by decide +kernel
theorem dX9_goToDay_44 : decode cX9_goToDay 44 = .ok (.istore_n 2, 1) := by decide +kernel
theorem dX9_goToDay_45 : decode cX9_goToDay 45 = .ok (.iinc 3 1, 3) := by decide +kernel
theorem dX9_goToDay_48 : decode cX9_goToDay 48 = .ok (.goto (-44), 3) := by decide +kernel
theorem dX9_goToDay_51 : decode cX9_goToDay 51 = .ok (.aload_n 0, 1) := by decide +kernel
theorem dX9_goToDay_52 : decode cX9_goToDay 52 = .ok (.iload_n 1, 1) := by decide +kernel
theorem dX9_goToDay_53 : decode cX9_goToDay 53 = .ok (.iload_n 2, 1) := by decide +kernel
theorem dX9_goToDay_54 : decode cX9_goToDay 54 = .ok (.invokevirtual 71, 3) := by decide +kernel
theorem dX9_goToDay_57 : decode cX9_goToDay 57 = .ok (.return_, 1) := by decide +kernel
theorem dX9_isThere_0 : decode cX9_isThere 0 = .ok (.aload_n 0, 1) := by decide +kernel
theorem dX9_isThere_1 : decode cX9_isThere 1 = .ok (.getfield 74, 3) := by decide +kernel
theorem dX9_isThere_4 : decode cX9_isThere 4 = .ok (.iload_n 1, 1) := by decide +kernel
theorem dX9_isThere_5 : decode cX9_isThere 5 = .ok (.invokestatic 77, 3) := by decide +kernel
theorem dX9_isThere_8 : decode cX9_isThere 8 = .ok (.ireturn, 1) := by decide +kernel
theorem dX9_goTo_0 : decode cX9_goTo 0 = .ok (.aload_n 0, 1) := by decide +kernel
theorem dX9_goTo_1 : decode cX9_goTo 1 = .ok (.iload_n 1, 1) := by decide +kernel
theorem dX9_goTo_2 : decode cX9_goTo 2 = .ok (.putfield 81, 3) := by decide +kernel
theorem dX9_goTo_5 : decode cX9_goTo 5 = .ok (.aload_n 0, 1) := by decide +kernel
theorem dX9_goTo_6 : decode cX9_goTo 6 = .ok (.iload_n 2, 1) := by decide +kernel
theorem dX9_goTo_7 : decode cX9_goTo 7 = .ok (.putfield 74, 3) := by decide +kernel
theorem dX9_goTo_10 : decode cX9_goTo 10 = .ok (.aload_n 0, 1) := by decide +kernel
theorem dX9_goTo_11 : decode cX9_goTo 11 = .ok (.iconst 0, 1) := by decide +kernel
theorem dX9_goTo_12 : decode cX9_goTo 12 = .ok (.putfield 84, 3) := by decide +kernel
theorem dX9_goTo_15 : decode cX9_goTo 15 = .ok (.aload_n 0, 1) := by decide +kernel
theorem dX9_goTo_16 : decode cX9_goTo 16 = .ok (.getfield 29, 3) := by decide +kernel
theorem dX9_goTo_19 : decode cX9_goTo 19 = .ok (.getfield 52, 3) := by decide +kernel
theorem dX9_goTo_22 : decode cX9_goTo 22 = .ok (.iconst 1, 1) := by decide +kernel
theorem dX9_goTo_23 : decode cX9_goTo 23 = .ok (.isub, 1) := by decide +kernel
theorem dX9_goTo_24 : decode cX9_goTo 24 = .ok (.istore_n 3, 1) := by decide +kernel
theorem dX9_goTo_25 : decode cX9_goTo 25 = .ok (.iload_n 3, 1) := by decide +kernel
theorem dX9_goTo_26 : decode cX9_goTo 26 = .ok (.ifCond .lt 59, 3) := by decide +kernel
theorem dX9_goTo_29 : decode cX9_goTo 29 = .ok (.aload_n 0, 1) := by decide +kernel
theorem dX9_goTo_30 : decode cX9_goTo 30 = .ok (.getfield 29, 3) := by decide +kernel
theorem dX9_goTo_33 : decode cX9_goTo 33 = .ok (.getfield 58, 3) := by decide +kernel
theorem dX9_goTo_36 : decode cX9_goTo 36 = .ok (.iload_n 3, 1) := by decide +kernel
theorem dX9_goTo_37 : decode cX9_goTo 37 = .ok (.iaload, 1) := by decide +kernel
theorem dX9_goTo_38 : decode cX9_goTo 38 = .ok (.istore 4, 2) := by decide +kernel
theorem dX9_goTo_40 : decode cX9_goTo 40 = .ok (.aload_n 0, 1) := by decide +kernel
theorem dX9_goTo_41 : decode cX9_goTo 41 = .ok (.iload 4, 2) := by decide +kernel
theorem dX9_goTo_43 : decode cX9_goTo 43 = .ok (.invokevirtual 87, 3) := by decide +kernel
theorem dX9_goTo_46 : decode cX9_goTo 46 = .ok (.ifCond .eq 33, 3) := by decide +kernel
theorem dX9_goTo_49 : decode cX9_goTo 49 = .ok (.aload_n 0, 1) := by decide +kernel
theorem dX9_goTo_50 : decode cX9_goTo 50 = .ok (.aload_n 0, 1) := by decide +kernel
theorem dX9_goTo_51 : decode cX9_goTo 51 = .ok (.getfield 40, 3) := by decide +kernel
theorem dX9_goTo_54 : decode cX9_goTo 54 = .ok (.getfield 90, 3) := by decide +kernel
theorem dX9_goTo_57 : decode cX9_goTo 57 = .ok (.iload 4, 2) := by decide +kernel
theorem dX9_goTo_59 : decode cX9_goTo 59 = .ok (.iaload, 1) := by decide +kernel
theorem dX9_goTo_60 : decode cX9_goTo 60 = .ok (.invokevirtual 93, 3) := by decide +kernel
theorem dX9_goTo_63 : decode cX9_goTo 63 = .ok (.ifCond .eq 16, 3) := by decide +kernel
theorem dX9_goTo_66 : decode cX9_goTo 66 = .ok (.aload_n 0, 1) := by decide +kernel
theorem dX9_goTo_67 : decode cX9_goTo 67 = .ok (.dup, 1) := by decide +kernel
theorem dX9_goTo_68 : decode cX9_goTo 68 = .ok (.getfield 84, 3) := by decide +kernel
theorem dX9_goTo_71 : decode cX9_goTo 71 = .ok (.iconst 1, 1) := by decide +kernel
theorem dX9_goTo_72 : decode cX9_goTo 72 = .ok (.iload 4, 2) := by decide +kernel
theorem dX9_goTo_74 : decode cX9_goTo 74 = .ok (.ishl, 1) := by decide +kernel
theorem dX9_goTo_75 : decode cX9_goTo 75 = .ok (.ior, 1) := by decide +kernel
theorem dX9_goTo_76 : decode cX9_goTo 76 = .ok (.putfield 84, 3) := by decide +kernel
theorem dX9_goTo_79 : decode cX9_goTo 79 = .ok (.iinc 3 (-1), 3) := by decide +kernel
theorem dX9_goTo_82 : decode cX9_goTo 82 = .ok (.goto (-57), 3) := by decide +kernel
theorem dX9_goTo_85 : decode cX9_goTo 85 = .ok (.return_, 1) := by decide +kernel
theorem dX9_alive_0 : decode cX9_alive 0 = .ok (.iload_n 1, 1) := by decide +kernel
theorem dX9_alive_1 : decode cX9_alive 1 = .ok (.aload_n 0, 1) := by decide +kernel
theorem dX9_alive_2 : decode cX9_alive 2 = .ok (.getfield 74, 3) := by decide +kernel
theorem dX9_alive_5 : decode cX9_alive 5 = .ok (.iand, 1) := by decide +kernel
theorem dX9_alive_6 : decode cX9_alive 6 = .ok (.aload_n 0, 1) := by decide +kernel
theorem dX9_alive_7 : decode cX9_alive 7 = .ok (.getfield 84, 3) := by decide +kernel
theorem dX9_alive_10 : decode cX9_alive 10 = .ok (.iconst (-1), 1) := by decide +kernel
theorem dX9_alive_11 : decode cX9_alive 11 = .ok (.ixor, 1) := by decide +kernel
theorem dX9_alive_12 : decode cX9_alive 12 = .ok (.iand, 1) := by decide +kernel
theorem dX9_alive_13 : decode cX9_alive 13 = .ok (.ireturn, 1) := by decide +kernel
theorem dX9_findMissed_0 : decode cX9_findMissed 0 = .ok (.aload_n 0, 1) := by decide +kernel
theorem dX9_findMissed_1 : decode cX9_findMissed 1 = .ok (.getfield 9, 3) := by decide +kernel
theorem dX9_findMissed_4 : decode cX9_findMissed 4 = .ok (.iload_n 1, 1) := by decide +kernel
theorem dX9_findMissed_5 : decode cX9_findMissed 5 = .ok (.iconst 0, 1) := by decide +kernel
theorem dX9_findMissed_6 : decode cX9_findMissed 6 = .ok (.iastore, 1) := by decide +kernel
theorem dX9_findMissed_7 : decode cX9_findMissed 7 = .ok (.aload_n 0, 1) := by decide +kernel
theorem dX9_findMissed_8 : decode cX9_findMissed 8 = .ok (.getfield 15, 3) := by decide +kernel
theorem dX9_findMissed_11 : decode cX9_findMissed 11 = .ok (.iload_n 1, 1) := by decide +kernel
theorem dX9_findMissed_12 : decode cX9_findMissed 12 = .ok (.iconst 0, 1) := by decide +kernel
theorem dX9_findMissed_13 : decode cX9_findMissed 13 = .ok (.iastore, 1) := by decide +kernel
theorem dX9_findMissed_14 : decode cX9_findMissed 14 = .ok (.aload_n 0, 1) := by decide +kernel
theorem dX9_findMissed_15 : decode cX9_findMissed 15 = .ok (.getfield 29, 3) := by decide +kernel
theorem dX9_findMissed_18 : decode cX9_findMissed 18 = .ok (.getfield 97, 3) := by decide +kernel
theorem dX9_findMissed_21 : decode cX9_findMissed 21 = .ok (.iload_n 1, 1) := by decide +kernel
theorem dX9_findMissed_22 : decode cX9_findMissed 22 = .ok (.iaload, 1) := by decide +kernel
theorem dX9_findMissed_23 : decode cX9_findMissed 23 = .ok (.istore_n 3, 1) := by decide +kernel
theorem dX9_findMissed_24 : decode cX9_findMissed 24 = .ok (.iconst 0, 1) := by decide +kernel
theorem dX9_findMissed_25 : decode cX9_findMissed 25 = .ok (.istore 4, 2) := by decide +kernel
theorem dX9_findMissed_27 : decode cX9_findMissed 27 = .ok (.iconst 0, 1) := by decide +kernel
theorem dX9_findMissed_28 : decode cX9_findMissed 28 = .ok (.istore 5, 2) := by decide +kernel
theorem dX9_findMissed_30 : decode cX9_findMissed 30 = .ok (.iconst 0, 1) := by decide +kernel
theorem dX9_findMissed_31 : decode cX9_findMissed 31 = .ok (.istore 6, 2) := by decide +kernel
theorem dX9_findMissed_33 : decode cX9_findMissed 33 = .ok (.iload 6, 2) := by decide +kernel
theorem dX9_findMissed_35 : decode cX9_findMissed 35 = .ok (.bipush 12, 2) := by decide +kernel
theorem dX9_findMissed_37 : decode cX9_findMissed 37 = .ok (.if_icmp .ge 61, 3) := by decide +kernel
theorem dX9_findMissed_40 : decode cX9_findMissed 40 = .ok (.aload_n 0, 1) := by decide +kernel
theorem dX9_findMissed_41 : decode cX9_findMissed 41 = .ok (.getfield 40, 3) := by decide +kernel
theorem dX9_findMissed_44 : decode cX9_findMissed 44 = .ok (.getfield 100, 3) := by decide +kernel
theorem dX9_findMissed_47 : decode cX9_findMissed 47 = .ok (.iload 6, 2) := by decide +kernel
theorem dX9_findMissed_49 : decode cX9_findMissed 49 = .ok (.iaload, 1) := by decide +kernel
theorem dX9_findMissed_50 : decode cX9_findMissed 50 = .ok (.iload_n 1, 1) := by decide +kernel
theorem dX9_findMissed_51 : decode cX9_findMissed 51 = .ok (.invokestatic 77, 3) := by decide +kernel
theorem dX9_findMissed_54 : decode cX9_findMissed 54 = .ok (.ifCond .eq 38, 3) := by decide +kernel
theorem dX9_findMissed_57 : decode cX9_findMissed 57 = .ok (.aload_n 0, 1) := by decide +kernel
theorem dX9_findMissed_58 : decode cX9_findMissed 58 = .ok (.iload_n 1, 1) := by decide +kernel
theorem dX9_findMissed_59 : decode cX9_findMissed 59 = .ok (.iload 6, 2) := by decide +kernel
theorem dX9_findMissed_61 : decode cX9_findMissed 61 = .ok (.iload_n 3, 1) := by decide +kernel
theorem dX9_findMissed_62 : decode cX9_findMissed 62 = .ok (.invokevirtual 103, 3) := by decide +kernel
theorem dX9_findMissed_65 : decode cX9_findMissed 65 = .ok (.ifCond .eq 27, 3) := by decide +kernel
theorem dX9_findMissed_68 : decode cX9_findMissed 68 = .ok (.iload 4, 2) := by decide +kernel
theorem dX9_findMissed_70 : decode cX9_findMissed 70 = .ok (.iconst 1, 1) := by decide +kernel
theorem dX9_findMissed_71 : decode cX9_findMissed 71 = .ok (.iload 6, 2) := by decide +kernel
theorem dX9_findMissed_73 : decode cX9_findMissed 73 = .ok (.ishl, 1) := by decide +kernel
theorem dX9_findMissed_74 : decode cX9_findMissed 74 = .ok (.ior, 1) := by decide +kernel
theorem dX9_findMissed_75 : decode cX9_findMissed 75 = .ok (.istore 4, 2) := by decide +kernel
theorem dX9_findMissed_77 : decode cX9_findMissed 77 = .ok (.iload 5, 2) := by decide +kernel
theorem dX9_findMissed_79 : decode cX9_findMissed 79 = .ok (.aload_n 0, 1) := by decide +kernel
theorem dX9_findMissed_80 : decode cX9_findMissed 80 = .ok (.getfield 40, 3) := by decide +kernel
theorem dX9_findMissed_83 : decode cX9_findMissed 83 = .ok (.getfield 107, 3) := by decide +kernel
theorem dX9_findMissed_86 : decode cX9_findMissed 86 = .ok (.iload 6, 2) := by decide +kernel
theorem dX9_findMissed_88 : decode cX9_findMissed 88 = .ok (.iaload, 1) := by decide +kernel
theorem dX9_findMissed_89 : decode cX9_findMissed 89 = .ok (.ior, 1) := by decide +kernel
theorem dX9_findMissed_90 : decode cX9_findMissed 90 = .ok (.istore 5, 2) := by decide +kernel
theorem dX9_findMissed_92 : decode cX9_findMissed 92 = .ok (.iinc 6 1, 3) := by decide +kernel
theorem dX9_findMissed_95 : decode cX9_findMissed 95 = .ok (.goto (-62), 3) := by decide +kernel
theorem dX9_findMissed_98 : decode cX9_findMissed 98 = .ok (.iload 5, 2) := by decide +kernel
theorem dX9_findMissed_100 : decode cX9_findMissed 100 = .ok (.ifCond .ne 4, 3) := by decide +kernel
theorem dX9_findMissed_103 : decode cX9_findMissed 103 = .ok (.return_, 1) := by decide +kernel
theorem dX9_findMissed_104 : decode cX9_findMissed 104 = .ok (.aload_n 0, 1) := by decide +kernel
theorem dX9_findMissed_105 : decode cX9_findMissed 105 = .ok (.aload_n 0, 1) := by decide +kernel
theorem dX9_findMissed_106 : decode cX9_findMissed 106 = .ok (.getfield 29, 3) := by decide +kernel
theorem dX9_findMissed_109 : decode cX9_findMissed 109 = .ok (.getfield 68, 3) := by decide +kernel
theorem dX9_findMissed_112 : decode cX9_findMissed 112 = .ok (.iload_n 1, 1) := by decide +kernel
theorem dX9_findMissed_113 : decode cX9_findMissed 113 = .ok (.iaload, 1) := by decide +kernel
theorem dX9_findMissed_114 : decode cX9_findMissed 114 = .ok (.iload_n 2, 1) := by decide +kernel
theorem dX9_findMissed_115 : decode cX9_findMissed 115 = .ok (.invokevirtual 71, 3) := by decide +kernel
theorem dX9_findMissed_118 : decode cX9_findMissed 118 = .ok (.iconst 0, 1) := by decide +kernel
theorem dX9_findMissed_119 : decode cX9_findMissed 119 = .ok (.istore 6, 2) := by decide +kernel
theorem dX9_findMissed_121 : decode cX9_findMissed 121 = .ok (.iconst 0, 1) := by decide +kernel
theorem dX9_findMissed_122 : decode cX9_findMissed 122 = .ok (.istore 7, 2) := by decide +kernel
theorem dX9_findMissed_124 : decode cX9_findMissed 124 = .ok (.iload 7, 2) := by decide +kernel
theorem dX9_findMissed_126 : decode cX9_findMissed 126 = .ok (.bipush 12, 2) := by decide +kernel
theorem dX9_findMissed_128 : decode cX9_findMissed 128 = .ok (.if_icmp .ge 75, 3) := by decide +kernel
theorem dX9_findMissed_131 : decode cX9_findMissed 131 = .ok (.iload 5, 2) := by decide +kernel
theorem dX9_findMissed_133 : decode cX9_findMissed 133 = .ok (.iload 7, 2) := by decide +kernel
theorem dX9_findMissed_135 : decode cX9_findMissed 135 = .ok (.invokestatic 77, 3) := by decide +kernel
theorem dX9_findMissed_138 : decode cX9_findMissed 138 = .ok (.ifCond .eq 59, 3) := by decide +kernel
theorem dX9_findMissed_141 : decode cX9_findMissed 141 = .ok (.aload_n 0, 1) := by decide +kernel
theorem dX9_findMissed_142 : decode cX9_findMissed 142 = .ok (.iload 7, 2) := by decide +kernel
theorem dX9_findMissed_144 : decode cX9_findMissed 144 = .ok (.aload_n 0, 1) := by decide +kernel
theorem dX9_findMissed_145 : decode cX9_findMissed 145 = .ok (.getfield 29, 3) := by decide +kernel
theorem dX9_findMissed_148 : decode cX9_findMissed 148 = .ok (.getfield 110, 3) := by decide +kernel
theorem dX9_findMissed_151 : decode cX9_findMissed 151 = .ok (.iload_n 1, 1) := by decide +kernel
theorem dX9_findMissed_152 : decode cX9_findMissed 152 = .ok (.iaload, 1) := by decide +kernel
theorem dX9_findMissed_153 : decode cX9_findMissed 153 = .ok (.iload_n 3, 1) := by decide +kernel
theorem dX9_findMissed_154 : decode cX9_findMissed 154 = .ok (.invokevirtual 112, 3) := by decide +kernel
theorem dX9_findMissed_157 : decode cX9_findMissed 157 = .ok (.istore 8, 2) := by decide +kernel
theorem dX9_findMissed_159 : decode cX9_findMissed 159 = .ok (.aload_n 0, 1) := by decide +kernel
theorem dX9_findMissed_160 : decode cX9_findMissed 160 = .ok (.getfield 15, 3) := by decide +kernel
theorem dX9_findMissed_163 : decode cX9_findMissed 163 = .ok (.iload_n 1, 1) := by decide +kernel
theorem dX9_findMissed_164 : decode cX9_findMissed 164 = .ok (.dup2, 1) := by decide +kernel
theorem dX9_findMissed_165 : decode cX9_findMissed 165 = .ok (.iaload, 1) := by decide +kernel
theorem dX9_findMissed_166 : decode cX9_findMissed 166 = .ok (.iload 8, 2) := by decide +kernel
theorem dX9_findMissed_168 : decode cX9_findMissed 168 = .ok (.ior, 1) := by decide +kernel
theorem dX9_findMissed_169 : decode cX9_findMissed 169 = .ok (.iastore, 1) := by decide +kernel
theorem dX9_findMissed_170 : decode cX9_findMissed 170 = .ok (.iload 6, 2) := by decide +kernel
theorem dX9_findMissed_172 : decode cX9_findMissed 172 = .ok (.iload 8, 2) := by decide +kernel
theorem dX9_findMissed_174 : decode cX9_findMissed 174 = .ok (.ifCond .ne 12, 3) := by decide +kernel
theorem dX9_findMissed_177 : decode cX9_findMissed 177 = .ok (.aload_n 0, 1) := by decide +kernel
theorem dX9_findMissed_178 : decode cX9_findMissed 178 = .ok (.iload 7, 2) := by decide +kernel
theorem dX9_findMissed_180 : decode cX9_findMissed 180 = .ok (.invokevirtual 116, 3) := by decide +kernel
theorem dX9_findMissed_183 : decode cX9_findMissed 183 = .ok (.ifCond .eq 10, 3) := by decide +kernel
theorem dX9_findMissed_186 : decode cX9_findMissed 186 = .ok (.iconst 1, 1) := by decide +kernel
theorem dX9_findMissed_187 : decode cX9_findMissed 187 = .ok (.iload 7, 2) := by decide +kernel
theorem dX9_findMissed_189 : decode cX9_findMissed 189 = .ok (.ishl, 1) := by decide +kernel
theorem dX9_findMissed_190 : decode cX9_findMissed 190 = .ok (.goto 4, 3) := by decide +kernel
theorem dX9_findMissed_193 : decode cX9_findMissed 193 = .ok (.iconst 0, 1) := by decide +kernel
theorem dX9_findMissed_194 : decode cX9_findMissed 194 = .ok (.ior, 1) := by decide +kernel
theorem dX9_findMissed_195 : decode cX9_findMissed 195 = .ok (.istore 6, 2) := by decide +kernel
theorem dX9_findMissed_197 : decode cX9_findMissed 197 = .ok (.iinc 7 1, 3) := by decide +kernel
theorem dX9_findMissed_200 : decode cX9_findMissed 200 = .ok (.goto (-76), 3) := by decide +kernel
theorem dX9_findMissed_203 : decode cX9_findMissed 203 = .ok (.iconst 0, 1) := by decide +kernel
theorem dX9_findMissed_204 : decode cX9_findMissed 204 = .ok (.istore 7, 2) := by decide +kernel
theorem dX9_findMissed_206 : decode cX9_findMissed 206 = .ok (.iload 7, 2) := by decide +kernel
theorem dX9_findMissed_208 : decode cX9_findMissed 208 = .ok (.bipush 12, 2) := by decide +kernel
theorem dX9_findMissed_210 : decode cX9_findMissed 210 = .ok (.if_icmp .ge 48, 3) := by decide +kernel
theorem dX9_findMissed_213 : decode cX9_findMissed 213 = .ok (.iload 4, 2) := by decide +kernel
theorem dX9_findMissed_215 : decode cX9_findMissed 215 = .ok (.iload 7, 2) := by decide +kernel
theorem dX9_findMissed_217 : decode cX9_findMissed 217 = .ok (.invokestatic 77, 3) := by decide +kernel
theorem dX9_findMissed_220 : decode cX9_findMissed 220 = .ok (.ifCond .eq 32, 3) := by decide +kernel
theorem dX9_findMissed_223 : decode cX9_findMissed 223 = .ok (.aload_n 0, 1) := by decide +kernel
theorem dX9_findMissed_224 : decode cX9_findMissed 224 = .ok (.getfield 40, 3) := by decide +kernel
theorem dX9_findMissed_227 : decode cX9_findMissed 227 = .ok (.getfield 107, 3) := by decide +kernel
theorem dX9_findMissed_230 : decode cX9_findMissed 230 = .ok (.iload 7, 2) := by decide +kernel
theorem dX9_findMissed_232 : decode cX9_findMissed 232 = .ok (.iaload, 1) := by decide +kernel
theorem dX9_findMissed_233 : decode cX9_findMissed 233 = .ok (.iload 6, 2) := by decide +kernel
theorem dX9_findMissed_235 : decode cX9_findMissed 235 = .ok (.iand, 1) := by decide +kernel
theorem dX9_findMissed_236 : decode cX9_findMissed 236 = .ok (.ifCond .eq 16, 3) := by decide +kernel
theorem dX9_findMissed_239 : decode cX9_findMissed 239 = .ok (.aload_n 0, 1) := by decide +kernel
theorem dX9_findMissed_240 : decode cX9_findMissed 240 = .ok (.getfield 9, 3) := by decide +kernel
theorem dX9_findMissed_243 : decode cX9_findMissed 243 = .ok (.iload_n 1, 1) := by decide +kernel
theorem dX9_findMissed_244 : decode cX9_findMissed 244 = .ok (.dup2, 1) := by decide +kernel
theorem dX9_findMissed_245 : decode cX9_findMissed 245 = .ok (.iaload, 1) := by decide +kernel
theorem dX9_findMissed_246 : decode cX9_findMissed 246 = .ok (.iconst 1, 1) := by decide +kernel
theorem dX9_findMissed_247 : decode cX9_findMissed 247 = .ok (.iload 7, 2) := by decide +kernel
theorem dX9_findMissed_249 : decode cX9_findMissed 249 = .ok (.ishl, 1) := by decide +kernel
theorem dX9_findMissed_250 : decode cX9_findMissed 250 = .ok (.ior, 1) := by decide +kernel
theorem dX9_findMissed_251 : decode cX9_findMissed 251 = .ok (.iastore, 1) := by decide +kernel
theorem dX9_findMissed_252 : decode cX9_findMissed 252 = .ok (.iinc 7 1, 3) := by decide +kernel
theorem dX9_findMissed_255 : decode cX9_findMissed 255 = .ok (.goto (-49), 3) := by decide +kernel
theorem dX9_findMissed_258 : decode cX9_findMissed 258 = .ok (.return_, 1) := by decide +kernel
theorem dX9_bindersOf_0 : decode cX9_bindersOf 0 = .ok (.iconst 0, 1) := by decide +kernel
theorem dX9_bindersOf_1 : decode cX9_bindersOf 1 = .ok (.istore 4, 2) := by decide +kernel
theorem dX9_bindersOf_3 : decode cX9_bindersOf 3 = .ok (.aload_n 0, 1) := by decide +kernel
theorem dX9_bindersOf_4 : decode cX9_bindersOf 4 = .ok (.aload_n 0, 1) := by decide +kernel
theorem dX9_bindersOf_5 : decode cX9_bindersOf 5 = .ok (.getfield 40, 3) := by decide +kernel
theorem dX9_bindersOf_8 : decode cX9_bindersOf 8 = .ok (.getfield 100, 3) := by decide +kernel
theorem dX9_bindersOf_11 : decode cX9_bindersOf 11 = .ok (.iload_n 1, 1) := by decide +kernel
theorem dX9_bindersOf_12 : decode cX9_bindersOf 12 = .ok (.iaload, 1) := by decide +kernel
theorem dX9_bindersOf_13 : decode cX9_bindersOf 13 = .ok (.invokevirtual 93, 3) := by decide +kernel
theorem dX9_bindersOf_16 : decode cX9_bindersOf 16 = .ok (.istore 5, 2) := by decide +kernel
theorem dX9_bindersOf_18 : decode cX9_bindersOf 18 = .ok (.iconst 0, 1) := by decide +kernel
theorem dX9_bindersOf_19 : decode cX9_bindersOf 19 = .ok (.istore 6, 2) := by decide +kernel
theorem dX9_bindersOf_21 : decode cX9_bindersOf 21 = .ok (.iload 6, 2) := by decide +kernel
theorem dX9_bindersOf_23 : decode cX9_bindersOf 23 = .ok (.aload_n 0, 1) := by decide +kernel
theorem dX9_bindersOf_24 : decode cX9_bindersOf 24 = .ok (.getfield 29, 3) := by decide +kernel
theorem dX9_bindersOf_27 : decode cX9_bindersOf 27 = .ok (.getfield 52, 3) := by decide +kernel
theorem dX9_bindersOf_30 : decode cX9_bindersOf 30 = .ok (.if_icmp .ge 46, 3) := by decide +kernel
theorem dX9_bindersOf_33 : decode cX9_bindersOf 33 = .ok (.iload 5, 2) := by decide +kernel
theorem dX9_bindersOf_35 : decode cX9_bindersOf 35 = .ok (.ifCond .eq 41, 3) := by decide +kernel
theorem dX9_bindersOf_38 : decode cX9_bindersOf 38 = .ok (.iload 5, 2) := by decide +kernel
theorem dX9_bindersOf_40 : decode cX9_bindersOf 40 = .ok (.iload 6, 2) := by decide +kernel
theorem dX9_bindersOf_42 : decode cX9_bindersOf 42 = .ok (.invokestatic 77, 3) := by decide +kernel
theorem dX9_bindersOf_45 : decode cX9_bindersOf 45 = .ok (.ifCond .eq 25, 3) := by decide +kernel
theorem dX9_bindersOf_48 : decode cX9_bindersOf 48 = .ok (.aload_n 0, 1) := by decide +kernel
theorem dX9_bindersOf_49 : decode cX9_bindersOf 49 = .ok (.iload 6, 2) := by decide +kernel
theorem dX9_bindersOf_51 : decode cX9_bindersOf 51 = .ok (.iload_n 1, 1) := by decide +kernel
theorem dX9_bindersOf_52 : decode cX9_bindersOf 52 = .ok (.iload_n 2, 1) := by decide +kernel
theorem dX9_bindersOf_53 : decode cX9_bindersOf 53 = .ok (.iload_n 3, 1) := by decide +kernel
theorem dX9_bindersOf_54 : decode cX9_bindersOf 54 = .ok (.invokevirtual 119, 3) := by decide +kernel
theorem dX9_bindersOf_57 : decode cX9_bindersOf 57 = .ok (.iconst 2, 1) := by decide +kernel
theorem dX9_bindersOf_58 : decode cX9_bindersOf 58 = .ok (.if_icmp .lt 12, 3) := by decide +kernel
theorem dX9_bindersOf_61 : decode cX9_bindersOf 61 = .ok (.iload 4, 2) := by decide +kernel
theorem dX9_bindersOf_63 : decode cX9_bindersOf 63 = .ok (.iconst 1, 1) := by decide +kernel
theorem dX9_bindersOf_64 : decode cX9_bindersOf 64 = .ok (.iload 6, 2) := by decide +kernel
theorem dX9_bindersOf_66 : decode cX9_bindersOf 66 = .ok (.ishl, 1) := by decide +kernel
theorem dX9_bindersOf_67 : decode cX9_bindersOf 67 = .ok (.ior, 1) := by decide +kernel
theorem dX9_bindersOf_68 : decode cX9_bindersOf 68 = .ok (.istore 4, 2) := by decide +kernel
theorem dX9_bindersOf_70 : decode cX9_bindersOf 70 = .ok (.iinc 6 1, 3) := by decide +kernel
theorem dX9_bindersOf_73 : decode cX9_bindersOf 73 = .ok (.goto (-52), 3) := by decide +kernel
theorem dX9_bindersOf_76 : decode cX9_bindersOf 76 = .ok (.iload 4, 2) := by decide +kernel
theorem dX9_bindersOf_78 : decode cX9_bindersOf 78 = .ok (.ireturn, 1) := by decide +kernel
theorem dX9_votesFor_0 : decode cX9_votesFor 0 = .ok (.iconst 0, 1) := by decide +kernel
theorem dX9_votesFor_1 : decode cX9_votesFor 1 = .ok (.istore 4, 2) := by decide +kernel
theorem dX9_votesFor_3 : decode cX9_votesFor 3 = .ok (.aload_n 0, 1) := by decide +kernel
theorem dX9_votesFor_4 : decode cX9_votesFor 4 = .ok (.getfield 40, 3) := by decide +kernel
theorem dX9_votesFor_7 : decode cX9_votesFor 7 = .ok (.getfield 123, 3) := by decide +kernel
theorem dX9_votesFor_10 : decode cX9_votesFor 10 = .ok (.iload_n 1, 1) := by decide +kernel
theorem dX9_votesFor_11 : decode cX9_votesFor 11 = .ok (.iaload, 1) := by decide +kernel
theorem dX9_votesFor_12 : decode cX9_votesFor 12 = .ok (.istore 5, 2) := by decide +kernel
theorem dX9_votesFor_14 : decode cX9_votesFor 14 = .ok (.iload 5, 2) := by decide +kernel
theorem dX9_votesFor_16 : decode cX9_votesFor 16 = .ok (.aload_n 0, 1) := by decide +kernel
theorem dX9_votesFor_17 : decode cX9_votesFor 17 = .ok (.getfield 40, 3) := by decide +kernel
theorem dX9_votesFor_20 : decode cX9_votesFor 20 = .ok (.getfield 126, 3) := by decide +kernel
theorem dX9_votesFor_23 : decode cX9_votesFor 23 = .ok (.iload_n 1, 1) := by decide +kernel
theorem dX9_votesFor_24 : decode cX9_votesFor 24 = .ok (.iaload, 1) := by decide +kernel
theorem dX9_votesFor_25 : decode cX9_votesFor 25 = .ok (.if_icmp .ge 62, 3) := by decide +kernel
theorem dX9_votesFor_28 : decode cX9_votesFor 28 = .ok (.aload_n 0, 1) := by decide +kernel
theorem dX9_votesFor_29 : decode cX9_votesFor 29 = .ok (.getfield 40, 3) := by decide +kernel
theorem dX9_votesFor_32 : decode cX9_votesFor 32 = .ok (.getfield 129, 3) := by decide +kernel
theorem dX9_votesFor_35 : decode cX9_votesFor 35 = .ok (.iload 5, 2) := by decide +kernel
theorem dX9_votesFor_37 : decode cX9_votesFor 37 = .ok (.iaload, 1) := by decide +kernel
theorem dX9_votesFor_38 : decode cX9_votesFor 38 = .ok (.istore 6, 2) := by decide +kernel
theorem dX9_votesFor_40 : decode cX9_votesFor 40 = .ok (.aload_n 0, 1) := by decide +kernel
theorem dX9_votesFor_41 : decode cX9_votesFor 41 = .ok (.getfield 39, 3) := by decide +kernel
theorem dX9_votesFor_44 : decode cX9_votesFor 44 = .ok (.getfield 132, 3) := by decide +kernel
theorem dX9_votesFor_47 : decode cX9_votesFor 47 = .ok (.iload 6, 2) := by decide +kernel
theorem dX9_votesFor_49 : decode cX9_votesFor 49 = .ok (.iaload, 1) := by decide +kernel
theorem dX9_votesFor_50 : decode cX9_votesFor 50 = .ok (.ifCond .ne 31, 3) := by decide +kernel
theorem dX9_votesFor_53 : decode cX9_votesFor 53 = .ok (.aload_n 0, 1) := by decide +kernel
theorem dX9_votesFor_54 : decode cX9_votesFor 54 = .ok (.iload 6, 2) := by decide +kernel
theorem dX9_votesFor_56 : decode cX9_votesFor 56 = .ok (.iload_n 2, 1) := by decide +kernel
theorem dX9_votesFor_57 : decode cX9_votesFor 57 = .ok (.iload_n 3, 1) := by decide +kernel
theorem dX9_votesFor_58 : decode cX9_votesFor 58 = .ok (.invokevirtual 137, 3) := by decide +kernel
theorem dX9_votesFor_61 : decode cX9_votesFor 61 = .ok (.ifCond .eq 20, 3) := by decide +kernel
theorem dX9_votesFor_64 : decode cX9_votesFor 64 = .ok (.iload 4, 2) := by decide +kernel
theorem dX9_votesFor_66 : decode cX9_votesFor 66 = .ok (.iconst 1, 1) := by decide +kernel
theorem dX9_votesFor_67 : decode cX9_votesFor 67 = .ok (.aload_n 0, 1) := by decide +kernel
theorem dX9_votesFor_68 : decode cX9_votesFor 68 = .ok (.getfield 39, 3) := by decide +kernel
theorem dX9_votesFor_71 : decode cX9_votesFor 71 = .ok (.getfield 140, 3) := by decide +kernel
theorem dX9_votesFor_74 : decode cX9_votesFor 74 = .ok (.iload 6, 2) := by decide +kernel
theorem dX9_votesFor_76 : decode cX9_votesFor 76 = .ok (.iaload, 1) := by decide +kernel
theorem dX9_votesFor_77 : decode cX9_votesFor 77 = .ok (.ishl, 1) := by decide +kernel
theorem dX9_votesFor_78 : decode cX9_votesFor 78 = .ok (.ior, 1) := by decide +kernel
theorem dX9_votesFor_79 : decode cX9_votesFor 79 = .ok (.istore 4, 2) := by decide +kernel
theorem dX9_votesFor_81 : decode cX9_votesFor 81 = .ok (.iinc 5 1, 3) := by decide +kernel
theorem dX9_votesFor_84 : decode cX9_votesFor 84 = .ok (.goto (-70), 3) := by decide +kernel
theorem dX9_votesFor_87 : decode cX9_votesFor 87 = .ok (.iload 4, 2) := by decide +kernel
theorem dX9_votesFor_89 : decode cX9_votesFor 89 = .ok (.invokestatic 143, 3) := by decide +kernel
theorem dX9_votesFor_92 : decode cX9_votesFor 92 = .ok (.ireturn, 1) := by decide +kernel
theorem dX9_isHeld_0 : decode cX9_isHeld 0 = .ok (.aload_n 0, 1) := by decide +kernel
theorem dX9_isHeld_1 : decode cX9_isHeld 1 = .ok (.iload_n 1, 1) := by decide +kernel
theorem dX9_isHeld_2 : decode cX9_isHeld 2 = .ok (.iload_n 2, 1) := by decide +kernel
theorem dX9_isHeld_3 : decode cX9_isHeld 3 = .ok (.iload_n 3, 1) := by decide +kernel
theorem dX9_isHeld_4 : decode cX9_isHeld 4 = .ok (.invokevirtual 148, 3) := by decide +kernel
theorem dX9_isHeld_7 : decode cX9_isHeld 7 = .ok (.iconst 2, 1) := by decide +kernel
theorem dX9_isHeld_8 : decode cX9_isHeld 8 = .ok (.imul, 1) := by decide +kernel
theorem dX9_isHeld_9 : decode cX9_isHeld 9 = .ok (.aload_n 0, 1) := by decide +kernel
theorem dX9_isHeld_10 : decode cX9_isHeld 10 = .ok (.getfield 29, 3) := by decide +kernel
theorem dX9_isHeld_13 : decode cX9_isHeld 13 = .ok (.getfield 151, 3) := by decide +kernel
theorem dX9_isHeld_16 : decode cX9_isHeld 16 = .ok (.iload_n 1, 1) := by decide +kernel
theorem dX9_isHeld_17 : decode cX9_isHeld 17 = .ok (.iaload, 1) := by decide +kernel
theorem dX9_isHeld_18 : decode cX9_isHeld 18 = .ok (.if_icmp .le 7, 3) := by decide +kernel
theorem dX9_isHeld_21 : decode cX9_isHeld 21 = .ok (.iconst 1, 1) := by decide +kernel
theorem dX9_isHeld_22 : decode cX9_isHeld 22 = .ok (.goto 4, 3) := by decide +kernel
theorem dX9_isHeld_25 : decode cX9_isHeld 25 = .ok (.iconst 0, 1) := by decide +kernel
theorem dX9_isHeld_26 : decode cX9_isHeld 26 = .ok (.ireturn, 1) := by decide +kernel
theorem dX9_speaks_0 : decode cX9_speaks 0 = .ok (.aload_n 0, 1) := by decide +kernel
theorem dX9_speaks_1 : decode cX9_speaks 1 = .ok (.getfield 40, 3) := by decide +kernel
theorem dX9_speaks_4 : decode cX9_speaks 4 = .ok (.getfield 154, 3) := by decide +kernel
theorem dX9_speaks_7 : decode cX9_speaks 7 = .ok (.aload_n 0, 1) := by decide +kernel
theorem dX9_speaks_8 : decode cX9_speaks 8 = .ok (.getfield 39, 3) := by decide +kernel
theorem dX9_speaks_11 : decode cX9_speaks 11 = .ok (.getfield 157, 3) := by decide +kernel
theorem dX9_speaks_14 : decode cX9_speaks 14 = .ok (.iload_n 1, 1) := by decide +kernel
theorem dX9_speaks_15 : decode cX9_speaks 15 = .ok (.iaload, 1) := by decide +kernel
theorem dX9_speaks_16 : decode cX9_speaks 16 = .ok (.iaload, 1) := by decide +kernel
theorem dX9_speaks_17 : decode cX9_speaks 17 = .ok (.iload_n 2, 1) := by decide +kernel
theorem dX9_speaks_18 : decode cX9_speaks 18 = .ok (.if_icmp .ne 23, 3) := by decide +kernel
theorem dX9_speaks_21 : decode cX9_speaks 21 = .ok (.aload_n 0, 1) := by decide +kernel
theorem dX9_speaks_22 : decode cX9_speaks 22 = .ok (.getfield 39, 3) := by decide +kernel
theorem dX9_speaks_25 : decode cX9_speaks 25 = .ok (.getfield 160, 3) := by decide +kernel
theorem dX9_speaks_28 : decode cX9_speaks 28 = .ok (.iload_n 1, 1) := by decide +kernel
theorem dX9_speaks_29 : decode cX9_speaks 29 = .ok (.iaload, 1) := by decide +kernel
theorem dX9_speaks_30 : decode cX9_speaks 30 = .ok (.iload_n 3, 1) := by decide +kernel
theorem dX9_speaks_31 : decode cX9_speaks 31 = .ok (.iconst (-1), 1) := by decide +kernel
theorem dX9_speaks_32 : decode cX9_speaks 32 = .ok (.ixor, 1) := by decide +kernel
theorem dX9_speaks_33 : decode cX9_speaks 33 = .ok (.iand, 1) := by decide +kernel
theorem dX9_speaks_34 : decode cX9_speaks 34 = .ok (.ifCond .ne 7, 3) := by decide +kernel
theorem dX9_speaks_37 : decode cX9_speaks 37 = .ok (.iconst 1, 1) := by decide +kernel
theorem dX9_speaks_38 : decode cX9_speaks 38 = .ok (.goto 4, 3) := by decide +kernel
theorem dX9_speaks_41 : decode cX9_speaks 41 = .ok (.iconst 0, 1) := by decide +kernel
theorem dX9_speaks_42 : decode cX9_speaks 42 = .ok (.ireturn, 1) := by decide +kernel
theorem dX9_isSpokenOf_0 : decode cX9_isSpokenOf 0 = .ok (.aload_n 0, 1) := by decide +kernel
theorem dX9_isSpokenOf_1 : decode cX9_isSpokenOf 1 = .ok (.getfield 40, 3) := by decide +kernel
theorem dX9_isSpokenOf_4 : decode cX9_isSpokenOf 4 = .ok (.getfield 123, 3) := by decide +kernel
theorem dX9_isSpokenOf_7 : decode cX9_isSpokenOf 7 = .ok (.iload_n 1, 1) := by decide +kernel
theorem dX9_isSpokenOf_8 : decode cX9_isSpokenOf 8 = .ok (.iaload, 1) := by decide +kernel
theorem dX9_isSpokenOf_9 : decode cX9_isSpokenOf 9 = .ok (.istore 4, 2) := by decide +kernel
theorem dX9_isSpokenOf_11 : decode cX9_isSpokenOf 11 = .ok (.iload 4, 2) := by decide +kernel
theorem dX9_isSpokenOf_13 : decode cX9_isSpokenOf 13 = .ok (.aload_n 0, 1) := by decide +kernel
theorem dX9_isSpokenOf_14 : decode cX9_isSpokenOf 14 = .ok (.getfield 40, 3) := by decide +kernel
theorem dX9_isSpokenOf_17 : decode cX9_isSpokenOf 17 = .ok (.getfield 126, 3) := by decide +kernel
theorem dX9_isSpokenOf_20 : decode cX9_isSpokenOf 20 = .ok (.iload_n 1, 1) := by decide +kernel
theorem dX9_isSpokenOf_21 : decode cX9_isSpokenOf 21 = .ok (.iaload, 1) := by decide +kernel
theorem dX9_isSpokenOf_22 : decode cX9_isSpokenOf 22 = .ok (.if_icmp .ge 30, 3) := by decide +kernel
theorem dX9_isSpokenOf_25 : decode cX9_isSpokenOf 25 = .ok (.aload_n 0, 1) := by decide +kernel
theorem dX9_isSpokenOf_26 : decode cX9_isSpokenOf 26 = .ok (.aload_n 0, 1) := by decide +kernel
theorem dX9_isSpokenOf_27 : decode cX9_isSpokenOf 27 = .ok (.getfield 40, 3) := by decide +kernel
theorem dX9_isSpokenOf_30 : decode cX9_isSpokenOf 30 = .ok (.getfield 129, 3) := by decide +kernel
theorem dX9_isSpokenOf_33 : decode cX9_isSpokenOf 33 = .ok (.iload 4, 2) := by decide +kernel
theorem dX9_isSpokenOf_35 : decode cX9_isSpokenOf 35 = .ok (.iaload, 1) := by decide +kernel
theorem dX9_isSpokenOf_36 : decode cX9_isSpokenOf 36 = .ok (.iload_n 2, 1) := by decide +kernel
theorem dX9_isSpokenOf_37 : decode cX9_isSpokenOf 37 = .ok (.iload_n 3, 1) := by decide +kernel
theorem dX9_isSpokenOf_38 : decode cX9_isSpokenOf 38 = .ok (.invokevirtual 137, 3) := by decide +kernel
theorem dX9_isSpokenOf_41 : decode cX9_isSpokenOf 41 = .ok (.ifCond .eq 5, 3) := by decide +kernel
theorem dX9_isSpokenOf_44 : decode cX9_isSpokenOf 44 = .ok (.iconst 1, 1) := by decide +kernel
theorem dX9_isSpokenOf_45 : decode cX9_isSpokenOf 45 = .ok (.ireturn, 1) := by decide +kernel
theorem dX9_isSpokenOf_46 : decode cX9_isSpokenOf 46 = .ok (.iinc 4 1, 3) := by decide +kernel
theorem dX9_isSpokenOf_49 : decode cX9_isSpokenOf 49 = .ok (.goto (-38), 3) := by decide +kernel
theorem dX9_isSpokenOf_52 : decode cX9_isSpokenOf 52 = .ok (.iconst 0, 1) := by decide +kernel
theorem dX9_isSpokenOf_53 : decode cX9_isSpokenOf 53 = .ok (.ireturn, 1) := by decide +kernel
theorem dX9_doubtsOf_0 : decode cX9_doubtsOf 0 = .ok (.aload_n 0, 1) := by decide +kernel
theorem dX9_doubtsOf_1 : decode cX9_doubtsOf 1 = .ok (.aload_n 0, 1) := by decide +kernel
theorem dX9_doubtsOf_2 : decode cX9_doubtsOf 2 = .ok (.getfield 40, 3) := by decide +kernel
theorem dX9_doubtsOf_5 : decode cX9_doubtsOf 5 = .ok (.getfield 163, 3) := by decide +kernel
theorem dX9_doubtsOf_8 : decode cX9_doubtsOf 8 = .ok (.iload_n 1, 1) := by decide +kernel
theorem dX9_doubtsOf_9 : decode cX9_doubtsOf 9 = .ok (.iload_n 2, 1) := by decide +kernel
theorem dX9_doubtsOf_10 : decode cX9_doubtsOf 10 = .ok (.invokestatic 166, 3) := by decide +kernel
theorem dX9_doubtsOf_13 : decode cX9_doubtsOf 13 = .ok (.iaload, 1) := by decide +kernel
theorem dX9_doubtsOf_14 : decode cX9_doubtsOf 14 = .ok (.invokevirtual 93, 3) := by decide +kernel
theorem dX9_doubtsOf_17 : decode cX9_doubtsOf 17 = .ok (.invokestatic 143, 3) := by decide +kernel
theorem dX9_doubtsOf_20 : decode cX9_doubtsOf 20 = .ok (.ireturn, 1) := by decide +kernel
theorem dX9_isOverruled_0 : decode cX9_isOverruled 0 = .ok (.aload_n 0, 1) := by decide +kernel
theorem dX9_isOverruled_1 : decode cX9_isOverruled 1 = .ok (.aload_n 0, 1) := by decide +kernel
theorem dX9_isOverruled_2 : decode cX9_isOverruled 2 = .ok (.getfield 40, 3) := by decide +kernel
theorem dX9_isOverruled_5 : decode cX9_isOverruled 5 = .ok (.getfield 170, 3) := by decide +kernel
theorem dX9_isOverruled_8 : decode cX9_isOverruled 8 = .ok (.iload_n 1, 1) := by decide +kernel
theorem dX9_isOverruled_9 : decode cX9_isOverruled 9 = .ok (.iload_n 2, 1) := by decide +kernel
theorem dX9_isOverruled_10 : decode cX9_isOverruled 10 = .ok (.invokestatic 166, 3) := by decide +kernel
theorem dX9_isOverruled_13 : decode cX9_isOverruled 13 = .ok (.iaload, 1) := by decide +kernel
theorem dX9_isOverruled_14 : decode cX9_isOverruled 14 = .ok (.invokevirtual 93, 3) := by decide +kernel
theorem dX9_isOverruled_17 : decode cX9_isOverruled 17 = .ok (.istore_n 3, 1) := by decide +kernel
theorem dX9_isOverruled_18 : decode cX9_isOverruled 18 = .ok (.iconst 0, 1) := by decide +kernel
theorem dX9_isOverruled_19 : decode cX9_isOverruled 19 = .ok (.istore 4, 2) := by decide +kernel
theorem dX9_isOverruled_21 : decode cX9_isOverruled 21 = .ok (.iload 4, 2) := by decide +kernel
theorem dX9_isOverruled_23 : decode cX9_isOverruled 23 = .ok (.aload_n 0, 1) := by decide +kernel
theorem dX9_isOverruled_24 : decode cX9_isOverruled 24 = .ok (.getfield 29, 3) := by decide +kernel
theorem dX9_isOverruled_27 : decode cX9_isOverruled 27 = .ok (.getfield 52, 3) := by decide +kernel
theorem dX9_isOverruled_30 : decode cX9_isOverruled 30 = .ok (.if_icmp .ge 126, 3) := by decide +kernel
theorem dX9_isOverruled_33 : decode cX9_isOverruled 33 = .ok (.iload_n 3, 1) := by decide +kernel
theorem dX9_isOverruled_34 : decode cX9_isOverruled 34 = .ok (.ifCond .eq 122, 3) := by decide +kernel
theorem dX9_isOverruled_37 : decode cX9_isOverruled 37 = .ok (.iload_n 3, 1) := by decide +kernel
theorem dX9_isOverruled_38 : decode cX9_isOverruled 38 = .ok (.iload 4, 2) := by decide +kernel
theorem dX9_isOverruled_40 : decode cX9_isOverruled 40 = .ok (.invokestatic 77, 3) := by decide +kernel
theorem dX9_isOverruled_43 : decode cX9_isOverruled 43 = .ok (.ifCond .eq 107, 3) := by decide +kernel
theorem dX9_isOverruled_46 : decode cX9_isOverruled 46 = .ok (.aload_n 0, 1) := by decide +kernel
theorem dX9_isOverruled_47 : decode cX9_isOverruled 47 = .ok (.iload 4, 2) := by decide +kernel
theorem dX9_isOverruled_49 : decode cX9_isOverruled 49 = .ok (.aload_n 0, 1) := by decide +kernel
theorem dX9_isOverruled_50 : decode cX9_isOverruled 50 = .ok (.getfield 29, 3) := by decide +kernel
theorem dX9_isOverruled_53 : decode cX9_isOverruled 53 = .ok (.getfield 110, 3) := by decide +kernel
theorem dX9_isOverruled_56 : decode cX9_isOverruled 56 = .ok (.iload_n 1, 1) := by decide +kernel
theorem dX9_isOverruled_57 : decode cX9_isOverruled 57 = .ok (.iaload, 1) := by decide +kernel
theorem dX9_isOverruled_58 : decode cX9_isOverruled 58 = .ok (.invokevirtual 173, 3) := by decide +kernel
theorem dX9_isOverruled_61 : decode cX9_isOverruled 61 = .ok (.aload_n 0, 1) := by decide +kernel
theorem dX9_isOverruled_62 : decode cX9_isOverruled 62 = .ok (.getfield 18, 3) := by decide +kernel
theorem dX9_isOverruled_65 : decode cX9_isOverruled 65 = .ok (.iconst 5, 1) := by decide +kernel
theorem dX9_isOverruled_66 : decode cX9_isOverruled 66 = .ok (.aload_n 0, 1) := by decide +kernel
theorem dX9_isOverruled_67 : decode cX9_isOverruled 67 = .ok (.iload 4, 2) := by decide +kernel
theorem dX9_isOverruled_69 : decode cX9_isOverruled 69 = .ok (.iload_n 2, 1) := by decide +kernel
theorem dX9_isOverruled_70 : decode cX9_isOverruled 70 = .ok (.aload_n 0, 1) := by decide +kernel
theorem dX9_isOverruled_71 : decode cX9_isOverruled 71 = .ok (.getfield 29, 3) := by decide +kernel
theorem dX9_isOverruled_74 : decode cX9_isOverruled 74 = .ok (.getfield 97, 3) := by decide +kernel
theorem dX9_isOverruled_77 : decode cX9_isOverruled 77 = .ok (.iload 4, 2) := by decide +kernel
theorem dX9_isOverruled_79 : decode cX9_isOverruled 79 = .ok (.iaload, 1) := by decide +kernel
theorem dX9_isOverruled_80 : decode cX9_isOverruled 80 = .ok (.invokevirtual 148, 3) := by decide +kernel
theorem dX9_isOverruled_83 : decode cX9_isOverruled 83 = .ok (.i2l, 1) := by decide +kernel
theorem dX9_isOverruled_84 : decode cX9_isOverruled 84 = .ok (.lastore, 1) := by decide +kernel
theorem dX9_isOverruled_85 : decode cX9_isOverruled 85 = .ok (.aload_n 0, 1) := by decide +kernel
theorem dX9_isOverruled_86 : decode cX9_isOverruled 86 = .ok (.getfield 18, 3) := by decide +kernel
theorem dX9_isOverruled_89 : decode cX9_isOverruled 89 = .ok (.bipush 6, 2) := by decide +kernel
theorem dX9_isOverruled_91 : decode cX9_isOverruled 91 = .ok (.aload_n 0, 1) := by decide +kernel
theorem dX9_isOverruled_92 : decode cX9_isOverruled 92 = .ok (.getfield 29, 3) := by decide +kernel
theorem dX9_isOverruled_95 : decode cX9_isOverruled 95 = .ok (.getfield 68, 3) := by decide +kernel
theorem dX9_isOverruled_98 : decode cX9_isOverruled 98 = .ok (.iload 4, 2) := by decide +kernel
theorem dX9_isOverruled_100 : decode cX9_isOverruled 100 = .ok (.iaload, 1) := by decide +kernel
theorem dX9_isOverruled_101 : decode cX9_isOverruled 101 = .ok (.aload_n 0, 1) := by decide +kernel
theorem dX9_isOverruled_102 : decode cX9_isOverruled 102 = .ok (.getfield 29, 3) := by decide +kernel
theorem dX9_isOverruled_105 : decode cX9_isOverruled 105 = .ok (.getfield 68, 3) := by decide +kernel
theorem dX9_isOverruled_108 : decode cX9_isOverruled 108 = .ok (.iload_n 1, 1) := by decide +kernel
theorem dX9_isOverruled_109 : decode cX9_isOverruled 109 = .ok (.iaload, 1) := by decide +kernel
theorem dX9_isOverruled_110 : decode cX9_isOverruled 110 = .ok (.isub, 1) := by decide +kernel
theorem dX9_isOverruled_111 : decode cX9_isOverruled 111 = .ok (.i2l, 1) := by decide +kernel
theorem dX9_isOverruled_112 : decode cX9_isOverruled 112 = .ok (.lastore, 1) := by decide +kernel
theorem dX9_isOverruled_113 : decode cX9_isOverruled 113 = .ok (.aload_n 0, 1) := by decide +kernel
theorem dX9_isOverruled_114 : decode cX9_isOverruled 114 = .ok (.getfield 18, 3) := by decide +kernel
theorem dX9_isOverruled_117 : decode cX9_isOverruled 117 = .ok (.bipush 7, 2) := by decide +kernel
theorem dX9_isOverruled_119 : decode cX9_isOverruled 119 = .ok (.aload_n 0, 1) := by decide +kernel
theorem dX9_isOverruled_120 : decode cX9_isOverruled 120 = .ok (.iload_n 1, 1) := by decide +kernel
theorem dX9_isOverruled_121 : decode cX9_isOverruled 121 = .ok (.iload_n 2, 1) := by decide +kernel
theorem dX9_isOverruled_122 : decode cX9_isOverruled 122 = .ok (.invokevirtual 176, 3) := by decide +kernel
theorem dX9_isOverruled_125 : decode cX9_isOverruled 125 = .ok (.i2l, 1) := by decide +kernel
theorem dX9_isOverruled_126 : decode cX9_isOverruled 126 = .ok (.lastore, 1) := by decide +kernel
theorem dX9_isOverruled_127 : decode cX9_isOverruled 127 = .ok (.aload_n 0, 1) := by decide +kernel
theorem dX9_isOverruled_128 : decode cX9_isOverruled 128 = .ok (.getfield 44, 3) := by decide +kernel
theorem dX9_isOverruled_131 : decode cX9_isOverruled 131 = .ok (.getfield 179, 3) := by decide +kernel
theorem dX9_isOverruled_134 : decode cX9_isOverruled 134 = .ok (.aload_n 0, 1) := by decide +kernel
theorem dX9_isOverruled_135 : decode cX9_isOverruled 135 = .ok (.getfield 18, 3) := by decide +kernel
theorem dX9_isOverruled_138 : decode cX9_isOverruled 138 = .ok (.aload_n 0, 1) := by decide +kernel
theorem dX9_isOverruled_139 : decode cX9_isOverruled 139 = .ok (.getfield 22, 3) := by decide +kernel
theorem dX9_isOverruled_142 : decode cX9_isOverruled 142 = .ok (.invokevirtual 185, 3) := by decide +kernel
theorem dX9_isOverruled_145 : decode cX9_isOverruled 145 = .ok (.ifCond .eq 5, 3) := by decide +kernel
theorem dX9_isOverruled_148 : decode cX9_isOverruled 148 = .ok (.iconst 1, 1) := by decide +kernel
theorem dX9_isOverruled_149 : decode cX9_isOverruled 149 = .ok (.ireturn, 1) := by decide +kernel
theorem dX9_isOverruled_150 : decode cX9_isOverruled 150 = .ok (.iinc 4 1, 3) := by decide +kernel
theorem dX9_isOverruled_153 : decode cX9_isOverruled 153 = .ok (.goto (-132), 3) := by decide +kernel
theorem dX9_isOverruled_156 : decode cX9_isOverruled 156 = .ok (.iconst 0, 1) := by decide +kernel
theorem dX9_isOverruled_157 : decode cX9_isOverruled 157 = .ok (.ireturn, 1) := by decide +kernel
theorem dX9_doesBind_0 : decode cX9_doesBind 0 = .ok (.aload_n 0, 1) := by decide +kernel
theorem dX9_doesBind_1 : decode cX9_doesBind 1 = .ok (.iload_n 1, 1) := by decide +kernel
theorem dX9_doesBind_2 : decode cX9_doesBind 2 = .ok (.iload_n 3, 1) := by decide +kernel
theorem dX9_doesBind_3 : decode cX9_doesBind 3 = .ok (.invokevirtual 173, 3) := by decide +kernel
theorem dX9_doesBind_6 : decode cX9_doesBind 6 = .ok (.aload_n 0, 1) := by decide +kernel
theorem dX9_doesBind_7 : decode cX9_doesBind 7 = .ok (.getfield 18, 3) := by decide +kernel
theorem dX9_doesBind_10 : decode cX9_doesBind 10 = .ok (.iconst 5, 1) := by decide +kernel
theorem dX9_doesBind_11 : decode cX9_doesBind 11 = .ok (.aload_n 0, 1) := by decide +kernel
theorem dX9_doesBind_12 : decode cX9_doesBind 12 = .ok (.iload_n 1, 1) := by decide +kernel
theorem dX9_doesBind_13 : decode cX9_doesBind 13 = .ok (.iload_n 2, 1) := by decide +kernel
theorem dX9_doesBind_14 : decode cX9_doesBind 14 = .ok (.iload 4, 2) := by decide +kernel
theorem dX9_doesBind_16 : decode cX9_doesBind 16 = .ok (.invokevirtual 148, 3) := by decide +kernel
theorem dX9_doesBind_19 : decode cX9_doesBind 19 = .ok (.i2l, 1) := by decide +kernel
theorem dX9_doesBind_20 : decode cX9_doesBind 20 = .ok (.lastore, 1) := by decide +kernel
theorem dX9_doesBind_21 : decode cX9_doesBind 21 = .ok (.aload_n 0, 1) := by decide +kernel
theorem dX9_doesBind_22 : decode cX9_doesBind 22 = .ok (.getfield 18, 3) := by decide +kernel
theorem dX9_doesBind_25 : decode cX9_doesBind 25 = .ok (.bipush 6, 2) := by decide +kernel
theorem dX9_doesBind_27 : decode cX9_doesBind 27 = .ok (.aload_n 0, 1) := by decide +kernel
theorem dX9_doesBind_28 : decode cX9_doesBind 28 = .ok (.getfield 81, 3) := by decide +kernel
theorem dX9_doesBind_31 : decode cX9_doesBind 31 = .ok (.aload_n 0, 1) := by decide +kernel
theorem dX9_doesBind_32 : decode cX9_doesBind 32 = .ok (.getfield 29, 3) := by decide +kernel
theorem dX9_doesBind_35 : decode cX9_doesBind 35 = .ok (.getfield 68, 3) := by decide +kernel
theorem dX9_doesBind_38 : decode cX9_doesBind 38 = .ok (.iload_n 1, 1) := by decide +kernel
theorem dX9_doesBind_39 : decode cX9_doesBind 39 = .ok (.iaload, 1) := by decide +kernel
theorem dX9_doesBind_40 : decode cX9_doesBind 40 = .ok (.isub, 1) := by decide +kernel
theorem dX9_doesBind_41 : decode cX9_doesBind 41 = .ok (.i2l, 1) := by decide +kernel
theorem dX9_doesBind_42 : decode cX9_doesBind 42 = .ok (.lastore, 1) := by decide +kernel
theorem dX9_doesBind_43 : decode cX9_doesBind 43 = .ok (.aload_n 0, 1) := by decide +kernel
theorem dX9_doesBind_44 : decode cX9_doesBind 44 = .ok (.getfield 18, 3) := by decide +kernel
theorem dX9_doesBind_47 : decode cX9_doesBind 47 = .ok (.bipush 7, 2) := by decide +kernel
theorem dX9_doesBind_49 : decode cX9_doesBind 49 = .ok (.aload_n 0, 1) := by decide +kernel
theorem dX9_doesBind_50 : decode cX9_doesBind 50 = .ok (.iload_n 1, 1) := by decide +kernel
theorem dX9_doesBind_51 : decode cX9_doesBind 51 = .ok (.iload_n 2, 1) := by decide +kernel
theorem dX9_doesBind_52 : decode cX9_doesBind 52 = .ok (.invokevirtual 176, 3) := by decide +kernel
theorem dX9_doesBind_55 : decode cX9_doesBind 55 = .ok (.i2l, 1) := by decide +kernel
theorem dX9_doesBind_56 : decode cX9_doesBind 56 = .ok (.lastore, 1) := by decide +kernel
theorem dX9_doesBind_57 : decode cX9_doesBind 57 = .ok (.aload_n 0, 1) := by decide +kernel
theorem dX9_doesBind_58 : decode cX9_doesBind 58 = .ok (.getfield 44, 3) := by decide +kernel
theorem dX9_doesBind_61 : decode cX9_doesBind 61 = .ok (.getfield 191, 3) := by decide +kernel
theorem dX9_doesBind_64 : decode cX9_doesBind 64 = .ok (.aload_n 0, 1) := by decide +kernel
theorem dX9_doesBind_65 : decode cX9_doesBind 65 = .ok (.getfield 18, 3) := by decide +kernel
theorem dX9_doesBind_68 : decode cX9_doesBind 68 = .ok (.aload_n 0, 1) := by decide +kernel
theorem dX9_doesBind_69 : decode cX9_doesBind 69 = .ok (.getfield 22, 3) := by decide +kernel
theorem dX9_doesBind_72 : decode cX9_doesBind 72 = .ok (.invokevirtual 185, 3) := by decide +kernel
theorem dX9_doesBind_75 : decode cX9_doesBind 75 = .ok (.ireturn, 1) := by decide +kernel
theorem dX9_nameSides_0 : decode cX9_nameSides 0 = .ok (.aload_n 0, 1) := by decide +kernel
theorem dX9_nameSides_1 : decode cX9_nameSides 1 = .ok (.getfield 29, 3) := by decide +kernel
theorem dX9_nameSides_4 : decode cX9_nameSides 4 = .ok (.getfield 110, 3) := by decide +kernel
theorem dX9_nameSides_7 : decode cX9_nameSides 7 = .ok (.iload_n 1, 1) := by decide +kernel
theorem dX9_nameSides_8 : decode cX9_nameSides 8 = .ok (.iaload, 1) := by decide +kernel
theorem dX9_nameSides_9 : decode cX9_nameSides 9 = .ok (.istore_n 3, 1) := by decide +kernel
theorem dX9_nameSides_10 : decode cX9_nameSides 10 = .ok (.aload_n 0, 1) := by decide +kernel
theorem dX9_nameSides_11 : decode cX9_nameSides 11 = .ok (.getfield 18, 3) := by decide +kernel
theorem dX9_nameSides_14 : decode cX9_nameSides 14 = .ok (.iconst 0, 1) := by decide +kernel
theorem dX9_nameSides_15 : decode cX9_nameSides 15 = .ok (.aload_n 0, 1) := by decide +kernel
theorem dX9_nameSides_16 : decode cX9_nameSides 16 = .ok (.getfield 25, 3) := by decide +kernel
theorem dX9_nameSides_19 : decode cX9_nameSides 19 = .ok (.getfield 194, 3) := by decide +kernel
theorem dX9_nameSides_22 : decode cX9_nameSides 22 = .ok (.iload_n 3, 1) := by decide +kernel
theorem dX9_nameSides_23 : decode cX9_nameSides 23 = .ok (.iaload, 1) := by decide +kernel
theorem dX9_nameSides_24 : decode cX9_nameSides 24 = .ok (.i2l, 1) := by decide +kernel
theorem dX9_nameSides_25 : decode cX9_nameSides 25 = .ok (.lastore, 1) := by decide +kernel
theorem dX9_nameSides_26 : decode cX9_nameSides 26 = .ok (.aload_n 0, 1) := by decide +kernel
theorem dX9_nameSides_27 : decode cX9_nameSides 27 = .ok (.getfield 18, 3) := by decide +kernel
theorem dX9_nameSides_30 : decode cX9_nameSides 30 = .ok (.iconst 1, 1) := by decide +kernel
theorem dX9_nameSides_31 : decode cX9_nameSides 31 = .ok (.aload_n 0, 1) := by decide +kernel
theorem dX9_nameSides_32 : decode cX9_nameSides 32 = .ok (.getfield 25, 3) := by decide +kernel
theorem dX9_nameSides_35 : decode cX9_nameSides 35 = .ok (.getfield 194, 3) := by decide +kernel
theorem dX9_nameSides_38 : decode cX9_nameSides 38 = .ok (.iload_n 2, 1) := by decide +kernel
theorem dX9_nameSides_39 : decode cX9_nameSides 39 = .ok (.iaload, 1) := by decide +kernel
theorem dX9_nameSides_40 : decode cX9_nameSides 40 = .ok (.i2l, 1) := by decide +kernel
theorem dX9_nameSides_41 : decode cX9_nameSides 41 = .ok (.lastore, 1) := by decide +kernel
theorem dX9_nameSides_42 : decode cX9_nameSides 42 = .ok (.aload_n 0, 1) := by decide +kernel
theorem dX9_nameSides_43 : decode cX9_nameSides 43 = .ok (.getfield 18, 3) := by decide +kernel
theorem dX9_nameSides_46 : decode cX9_nameSides 46 = .ok (.iconst 2, 1) := by decide +kernel
theorem dX9_nameSides_47 : decode cX9_nameSides 47 = .ok (.iload_n 3, 1) := by decide +kernel
theorem dX9_nameSides_48 : decode cX9_nameSides 48 = .ok (.iload_n 2, 1) := by decide +kernel
theorem dX9_nameSides_49 : decode cX9_nameSides 49 = .ok (.if_icmp .ne 7, 3) := by decide +kernel
theorem dX9_nameSides_52 : decode cX9_nameSides 52 = .ok (.lconst 1, 1) := by decide +kernel
theorem dX9_nameSides_53 : decode cX9_nameSides 53 = .ok (.goto 4, 3) := by decide +kernel
theorem dX9_nameSides_56 : decode cX9_nameSides 56 = .ok (.lconst 0, 1) := by decide +kernel
theorem dX9_nameSides_57 : decode cX9_nameSides 57 = .ok (.lastore, 1) := by decide +kernel
theorem dX9_nameSides_58 : decode cX9_nameSides 58 = .ok (.aload_n 0, 1) := by decide +kernel
theorem dX9_nameSides_59 : decode cX9_nameSides 59 = .ok (.getfield 18, 3) := by decide +kernel
theorem dX9_nameSides_62 : decode cX9_nameSides 62 = .ok (.iconst 3, 1) := by decide +kernel
theorem dX9_nameSides_63 : decode cX9_nameSides 63 = .ok (.aload_n 0, 1) := by decide +kernel
theorem dX9_nameSides_64 : decode cX9_nameSides 64 = .ok (.getfield 25, 3) := by decide +kernel
theorem dX9_nameSides_67 : decode cX9_nameSides 67 = .ok (.getfield 199, 3) := by decide +kernel
theorem dX9_nameSides_70 : decode cX9_nameSides 70 = .ok (.iload_n 3, 1) := by decide +kernel
theorem dX9_nameSides_71 : decode cX9_nameSides 71 = .ok (.iaload, 1) := by decide +kernel
theorem dX9_nameSides_72 : decode cX9_nameSides 72 = .ok (.aload_n 0, 1) := by decide +kernel
theorem dX9_nameSides_73 : decode cX9_nameSides 73 = .ok (.getfield 25, 3) := by decide +kernel
theorem dX9_nameSides_76 : decode cX9_nameSides 76 = .ok (.getfield 199, 3) := by decide +kernel
theorem dX9_nameSides_79 : decode cX9_nameSides 79 = .ok (.iload_n 2, 1) := by decide +kernel
theorem dX9_nameSides_80 : decode cX9_nameSides 80 = .ok (.iaload, 1) := by decide +kernel
theorem dX9_nameSides_81 : decode cX9_nameSides 81 = .ok (.if_icmp .ne 7, 3) := by decide +kernel
theorem dX9_nameSides_84 : decode cX9_nameSides 84 = .ok (.lconst 1, 1) := by decide +kernel
theorem dX9_nameSides_85 : decode cX9_nameSides 85 = .ok (.goto 4, 3) := by decide +kernel
theorem dX9_nameSides_88 : decode cX9_nameSides 88 = .ok (.lconst 0, 1) := by decide +kernel
theorem dX9_nameSides_89 : decode cX9_nameSides 89 = .ok (.lastore, 1) := by decide +kernel
theorem dX9_nameSides_90 : decode cX9_nameSides 90 = .ok (.aload_n 0, 1) := by decide +kernel
theorem dX9_nameSides_91 : decode cX9_nameSides 91 = .ok (.getfield 18, 3) := by decide +kernel
theorem dX9_nameSides_94 : decode cX9_nameSides 94 = .ok (.iconst 4, 1) := by decide +kernel
theorem dX9_nameSides_95 : decode cX9_nameSides 95 = .ok (.aload_n 0, 1) := by decide +kernel
theorem dX9_nameSides_96 : decode cX9_nameSides 96 = .ok (.getfield 29, 3) := by decide +kernel
theorem dX9_nameSides_99 : decode cX9_nameSides 99 = .ok (.getfield 151, 3) := by decide +kernel
theorem dX9_nameSides_102 : decode cX9_nameSides 102 = .ok (.iload_n 1, 1) := by decide +kernel
theorem dX9_nameSides_103 : decode cX9_nameSides 103 = .ok (.iaload, 1) := by decide +kernel
theorem dX9_nameSides_104 : decode cX9_nameSides 104 = .ok (.i2l, 1) := by decide +kernel
theorem dX9_nameSides_105 : decode cX9_nameSides 105 = .ok (.lastore, 1) := by decide +kernel
theorem dX9_nameSides_106 : decode cX9_nameSides 106 = .ok (.return_, 1) := by decide +kernel
theorem dX9_isTaken_0 : decode cX9_isTaken 0 = .ok (.iconst 0, 1) := by decide +kernel
theorem dX9_isTaken_1 : decode cX9_isTaken 1 = .ok (.istore_n 3, 1) := by decide +kernel
theorem dX9_isTaken_2 : decode cX9_isTaken 2 = .ok (.iload_n 3, 1) := by decide +kernel
theorem dX9_isTaken_3 : decode cX9_isTaken 3 = .ok (.aload_n 0, 1) := by decide +kernel
theorem dX9_isTaken_4 : decode cX9_isTaken 4 = .ok (.getfield 40, 3) := by decide +kernel
theorem dX9_isTaken_7 : decode cX9_isTaken 7 = .ok (.getfield 202, 3) := by decide +kernel
theorem dX9_isTaken_10 : decode cX9_isTaken 10 = .ok (.if_icmp .ge 109, 3) := by decide +kernel
theorem dX9_isTaken_13 : decode cX9_isTaken 13 = .ok (.aload_n 0, 1) := by decide +kernel
theorem dX9_isTaken_14 : decode cX9_isTaken 14 = .ok (.getfield 40, 3) := by decide +kernel
theorem dX9_isTaken_17 : decode cX9_isTaken 17 = .ok (.getfield 205, 3) := by decide +kernel
theorem dX9_isTaken_20 : decode cX9_isTaken 20 = .ok (.iload_n 3, 1) := by decide +kernel
theorem dX9_isTaken_21 : decode cX9_isTaken 21 = .ok (.iaload, 1) := by decide +kernel
theorem dX9_isTaken_22 : decode cX9_isTaken 22 = .ok (.istore 4, 2) := by decide +kernel
theorem dX9_isTaken_24 : decode cX9_isTaken 24 = .ok (.aload_n 0, 1) := by decide +kernel
theorem dX9_isTaken_25 : decode cX9_isTaken 25 = .ok (.getfield 39, 3) := by decide +kernel
theorem dX9_isTaken_28 : decode cX9_isTaken 28 = .ok (.getfield 132, 3) := by decide +kernel
theorem dX9_isTaken_31 : decode cX9_isTaken 31 = .ok (.iload 4, 2) := by decide +kernel
theorem dX9_isTaken_33 : decode cX9_isTaken 33 = .ok (.iaload, 1) := by decide +kernel
theorem dX9_isTaken_34 : decode cX9_isTaken 34 = .ok (.iconst 5, 1) := by decide +kernel
theorem dX9_isTaken_35 : decode cX9_isTaken 35 = .ok (.if_icmp .ne 29, 3) := by decide +kernel
theorem dX9_isTaken_38 : decode cX9_isTaken 38 = .ok (.aload_n 0, 1) := by decide +kernel
theorem dX9_isTaken_39 : decode cX9_isTaken 39 = .ok (.getfield 40, 3) := by decide +kernel
theorem dX9_isTaken_42 : decode cX9_isTaken 42 = .ok (.getfield 154, 3) := by decide +kernel
theorem dX9_isTaken_45 : decode cX9_isTaken 45 = .ok (.aload_n 0, 1) := by decide +kernel
theorem dX9_isTaken_46 : decode cX9_isTaken 46 = .ok (.getfield 39, 3) := by decide +kernel
theorem dX9_isTaken_49 : decode cX9_isTaken 49 = .ok (.getfield 157, 3) := by decide +kernel
theorem dX9_isTaken_52 : decode cX9_isTaken 52 = .ok (.iload 4, 2) := by decide +kernel
theorem dX9_isTaken_54 : decode cX9_isTaken 54 = .ok (.iaload, 1) := by decide +kernel
theorem dX9_isTaken_55 : decode cX9_isTaken 55 = .ok (.iaload, 1) := by decide +kernel
theorem dX9_isTaken_56 : decode cX9_isTaken 56 = .ok (.iload_n 2, 1) := by decide +kernel
theorem dX9_isTaken_57 : decode cX9_isTaken 57 = .ok (.if_icmp .ne 7, 3) := by decide +kernel
theorem dX9_isTaken_60 : decode cX9_isTaken 60 = .ok (.iconst 1, 1) := by decide +kernel
theorem dX9_isTaken_61 : decode cX9_isTaken 61 = .ok (.goto 4, 3) := by decide +kernel
theorem dX9_isTaken_64 : decode cX9_isTaken 64 = .ok (.iconst 0, 1) := by decide +kernel
theorem dX9_isTaken_65 : decode cX9_isTaken 65 = .ok (.istore 5, 2) := by decide +kernel
theorem dX9_isTaken_67 : decode cX9_isTaken 67 = .ok (.iload 5, 2) := by decide +kernel
theorem dX9_isTaken_69 : decode cX9_isTaken 69 = .ok (.ifCond .eq 44, 3) := by decide +kernel
theorem dX9_isTaken_72 : decode cX9_isTaken 72 = .ok (.aload_n 0, 1) := by decide +kernel
theorem dX9_isTaken_73 : decode cX9_isTaken 73 = .ok (.getfield 39, 3) := by decide +kernel
theorem dX9_isTaken_76 : decode cX9_isTaken 76 = .ok (.getfield 160, 3) := by decide +kernel
theorem dX9_isTaken_79 : decode cX9_isTaken 79 = .ok (.iload 4, 2) := by decide +kernel
theorem dX9_isTaken_81 : decode cX9_isTaken 81 = .ok (.iaload, 1) := by decide +kernel
theorem dX9_isTaken_82 : decode cX9_isTaken 82 = .ok (.aload_n 0, 1) := by decide +kernel
theorem dX9_isTaken_83 : decode cX9_isTaken 83 = .ok (.getfield 81, 3) := by decide +kernel
theorem dX9_isTaken_86 : decode cX9_isTaken 86 = .ok (.if_icmp .gt 27, 3) := by decide +kernel
theorem dX9_isTaken_89 : decode cX9_isTaken 89 = .ok (.aload_n 0, 1) := by decide +kernel
theorem dX9_isTaken_90 : decode cX9_isTaken 90 = .ok (.getfield 39, 3) := by decide +kernel
theorem dX9_isTaken_93 : decode cX9_isTaken 93 = .ok (.getfield 160, 3) := by decide +kernel
theorem dX9_isTaken_96 : decode cX9_isTaken 96 = .ok (.iload 4, 2) := by decide +kernel
theorem dX9_isTaken_98 : decode cX9_isTaken 98 = .ok (.iaload, 1) := by decide +kernel
theorem dX9_isTaken_99 : decode cX9_isTaken 99 = .ok (.aload_n 0, 1) := by decide +kernel
theorem dX9_isTaken_100 : decode cX9_isTaken 100 = .ok (.getfield 29, 3) := by decide +kernel
theorem dX9_isTaken_103 : decode cX9_isTaken 103 = .ok (.getfield 68, 3) := by decide +kernel
theorem dX9_isTaken_106 : decode cX9_isTaken 106 = .ok (.iload_n 1, 1) := by decide +kernel
theorem dX9_isTaken_107 : decode cX9_isTaken 107 = .ok (.iaload, 1) := by decide +kernel
theorem dX9_isTaken_108 : decode cX9_isTaken 108 = .ok (.if_icmp .lt 5, 3) := by decide +kernel
theorem dX9_isTaken_111 : decode cX9_isTaken 111 = .ok (.iconst 1, 1) := by decide +kernel
theorem dX9_isTaken_112 : decode cX9_isTaken 112 = .ok (.ireturn, 1) := by decide +kernel
theorem dX9_isTaken_113 : decode cX9_isTaken 113 = .ok (.iinc 3 1, 3) := by decide +kernel
theorem dX9_isTaken_116 : decode cX9_isTaken 116 = .ok (.goto (-114), 3) := by decide +kernel
theorem dX9_isTaken_119 : decode cX9_isTaken 119 = .ok (.iconst 0, 1) := by decide +kernel
theorem dX9_isTaken_120 : decode cX9_isTaken 120 = .ok (.ireturn, 1) := by decide +kernel
theorem dX9_isLaid_0 : decode cX9_isLaid 0 = .ok (.iconst (-1), 1) := by decide +kernel
theorem dX9_isLaid_1 : decode cX9_isLaid 1 = .ok (.istore_n 2, 1) := by decide +kernel
theorem dX9_isLaid_2 : decode cX9_isLaid 2 = .ok (.iconst 0, 1) := by decide +kernel
theorem dX9_isLaid_3 : decode cX9_isLaid 3 = .ok (.istore_n 3, 1) := by decide +kernel
theorem dX9_isLaid_4 : decode cX9_isLaid 4 = .ok (.iconst 0, 1) := by decide +kernel
theorem dX9_isLaid_5 : decode cX9_isLaid 5 = .ok (.istore 4, 2) := by decide +kernel
theorem dX9_isLaid_7 : decode cX9_isLaid 7 = .ok (.iload 4, 2) := by decide +kernel
theorem dX9_isLaid_9 : decode cX9_isLaid 9 = .ok (.aload_n 0, 1) := by decide +kernel
theorem dX9_isLaid_10 : decode cX9_isLaid 10 = .ok (.getfield 40, 3) := by decide +kernel
theorem dX9_isLaid_13 : decode cX9_isLaid 13 = .ok (.getfield 202, 3) := by decide +kernel
theorem dX9_isLaid_16 : decode cX9_isLaid 16 = .ok (.if_icmp .ge 94, 3) := by decide +kernel
theorem dX9_isLaid_19 : decode cX9_isLaid 19 = .ok (.aload_n 0, 1) := by decide +kernel
theorem dX9_isLaid_20 : decode cX9_isLaid 20 = .ok (.getfield 40, 3) := by decide +kernel
theorem dX9_isLaid_23 : decode cX9_isLaid 23 = .ok (.getfield 205, 3) := by decide +kernel
theorem dX9_isLaid_26 : decode cX9_isLaid 26 = .ok (.iload 4, 2) := by decide +kernel
theorem dX9_isLaid_28 : decode cX9_isLaid 28 = .ok (.iaload, 1) := by decide +kernel
theorem dX9_isLaid_29 : decode cX9_isLaid 29 = .ok (.istore 5, 2) := by decide +kernel
theorem dX9_isLaid_31 : decode cX9_isLaid 31 = .ok (.aload_n 0, 1) := by decide +kernel
theorem dX9_isLaid_32 : decode cX9_isLaid 32 = .ok (.getfield 39, 3) := by decide +kernel
theorem dX9_isLaid_35 : decode cX9_isLaid 35 = .ok (.getfield 160, 3) := by decide +kernel
theorem dX9_isLaid_38 : decode cX9_isLaid 38 = .ok (.iload 5, 2) := by decide +kernel
theorem dX9_isLaid_40 : decode cX9_isLaid 40 = .ok (.iaload, 1) := by decide +kernel
theorem dX9_isLaid_41 : decode cX9_isLaid 41 = .ok (.istore 6, 2) := by decide +kernel
theorem dX9_isLaid_43 : decode cX9_isLaid 43 = .ok (.aload_n 0, 1) := by decide +kernel
theorem dX9_isLaid_44 : decode cX9_isLaid 44 = .ok (.getfield 40, 3) := by decide +kernel
theorem dX9_isLaid_47 : decode cX9_isLaid 47 = .ok (.getfield 154, 3) := by decide +kernel
theorem dX9_isLaid_50 : decode cX9_isLaid 50 = .ok (.aload_n 0, 1) := by decide +kernel
theorem dX9_isLaid_51 : decode cX9_isLaid 51 = .ok (.getfield 39, 3) := by decide +kernel
theorem dX9_isLaid_54 : decode cX9_isLaid 54 = .ok (.getfield 157, 3) := by decide +kernel
theorem dX9_isLaid_57 : decode cX9_isLaid 57 = .ok (.iload 5, 2) := by decide +kernel
theorem dX9_isLaid_59 : decode cX9_isLaid 59 = .ok (.iaload, 1) := by decide +kernel
theorem dX9_isLaid_60 : decode cX9_isLaid 60 = .ok (.iaload, 1) := by decide +kernel
theorem dX9_isLaid_61 : decode cX9_isLaid 61 = .ok (.iload_n 1, 1) := by decide +kernel
theorem dX9_isLaid_62 : decode cX9_isLaid 62 = .ok (.if_icmp .ne 42, 3) := by decide +kernel
theorem dX9_isLaid_65 : decode cX9_isLaid 65 = .ok (.iload 6, 2) := by decide +kernel
theorem dX9_isLaid_67 : decode cX9_isLaid 67 = .ok (.aload_n 0, 1) := by decide +kernel
theorem dX9_isLaid_68 : decode cX9_isLaid 68 = .ok (.getfield 81, 3) := by decide +kernel
theorem dX9_isLaid_71 : decode cX9_isLaid 71 = .ok (.if_icmp .gt 33, 3) := by decide +kernel
theorem dX9_isLaid_74 : decode cX9_isLaid 74 = .ok (.iload 6, 2) := by decide +kernel
theorem dX9_isLaid_76 : decode cX9_isLaid 76 = .ok (.iload_n 2, 1) := by decide +kernel
theorem dX9_isLaid_77 : decode cX9_isLaid 77 = .ok (.if_icmp .lt 27, 3) := by decide +kernel
theorem dX9_isLaid_80 : decode cX9_isLaid 80 = .ok (.iload 6, 2) := by decide +kernel
theorem dX9_isLaid_82 : decode cX9_isLaid 82 = .ok (.istore_n 2, 1) := by decide +kernel
theorem dX9_isLaid_83 : decode cX9_isLaid 83 = .ok (.aload_n 0, 1) := by decide +kernel
theorem dX9_isLaid_84 : decode cX9_isLaid 84 = .ok (.getfield 39, 3) := by decide +kernel
theorem dX9_isLaid_87 : decode cX9_isLaid 87 = .ok (.getfield 132, 3) := by decide +kernel
theorem dX9_isLaid_90 : decode cX9_isLaid 90 = .ok (.iload 5, 2) := by decide +kernel
theorem dX9_isLaid_92 : decode cX9_isLaid 92 = .ok (.iaload, 1) := by decide +kernel
theorem dX9_isLaid_93 : decode cX9_isLaid 93 = .ok (.bipush 6, 2) := by decide +kernel
theorem dX9_isLaid_95 : decode cX9_isLaid 95 = .ok (.if_icmp .ne 7, 3) := by decide +kernel
theorem dX9_isLaid_98 : decode cX9_isLaid 98 = .ok (.iconst 1, 1) := by decide +kernel
theorem dX9_isLaid_99 : decode cX9_isLaid 99 = .ok (.goto 4, 3) := by decide +kernel
theorem dX9_isLaid_102 : decode cX9_isLaid 102 = .ok (.iconst 0, 1) := by decide +kernel
theorem dX9_isLaid_103 : decode cX9_isLaid 103 = .ok (.istore_n 3, 1) := by decide +kernel
theorem dX9_isLaid_104 : decode cX9_isLaid 104 = .ok (.iinc 4 1, 3) := by decide +kernel
theorem dX9_isLaid_107 : decode cX9_isLaid 107 = .ok (.goto (-100), 3) := by decide +kernel
theorem dX9_isLaid_110 : decode cX9_isLaid 110 = .ok (.iload_n 3, 1) := by decide +kernel
theorem dX9_isLaid_111 : decode cX9_isLaid 111 = .ok (.ireturn, 1) := by decide +kernel
theorem dX9_weightOf_0 : decode cX9_weightOf 0 = .ok (.aload_n 0, 1) := by decide +kernel
theorem dX9_weightOf_1 : decode cX9_weightOf 1 = .ok (.iload_n 1, 1) := by decide +kernel
theorem dX9_weightOf_2 : decode cX9_weightOf 2 = .ok (.iload_n 2, 1) := by decide +kernel
theorem dX9_weightOf_3 : decode cX9_weightOf 3 = .ok (.iload 4, 2) := by decide +kernel
theorem dX9_weightOf_5 : decode cX9_weightOf 5 = .ok (.invokevirtual 208, 3) := by decide +kernel
theorem dX9_weightOf_8 : decode cX9_weightOf 8 = .ok (.ifCond .eq 21, 3) := by decide +kernel
theorem dX9_weightOf_11 : decode cX9_weightOf 11 = .ok (.aload_n 0, 1) := by decide +kernel
theorem dX9_weightOf_12 : decode cX9_weightOf 12 = .ok (.iload_n 1, 1) := by decide +kernel
theorem dX9_weightOf_13 : decode cX9_weightOf 13 = .ok (.iload_n 2, 1) := by decide +kernel
theorem dX9_weightOf_14 : decode cX9_weightOf 14 = .ok (.invokevirtual 211, 3) := by decide +kernel
theorem dX9_weightOf_17 : decode cX9_weightOf 17 = .ok (.ifCond .ne 12, 3) := by decide +kernel
theorem dX9_weightOf_20 : decode cX9_weightOf 20 = .ok (.aload_n 0, 1) := by decide +kernel
theorem dX9_weightOf_21 : decode cX9_weightOf 21 = .ok (.iload_n 1, 1) := by decide +kernel
theorem dX9_weightOf_22 : decode cX9_weightOf 22 = .ok (.iload_n 2, 1) := by decide +kernel
theorem dX9_weightOf_23 : decode cX9_weightOf 23 = .ok (.invokevirtual 214, 3) := by decide +kernel
theorem dX9_weightOf_26 : decode cX9_weightOf 26 = .ok (.ifCond .eq 5, 3) := by decide +kernel
theorem dX9_weightOf_29 : decode cX9_weightOf 29 = .ok (.iconst 0, 1) := by decide +kernel
theorem dX9_weightOf_30 : decode cX9_weightOf 30 = .ok (.ireturn, 1) := by decide +kernel
theorem dX9_weightOf_31 : decode cX9_weightOf 31 = .ok (.aload_n 0, 1) := by decide +kernel
theorem dX9_weightOf_32 : decode cX9_weightOf 32 = .ok (.getfield 9, 3) := by decide +kernel
theorem dX9_weightOf_35 : decode cX9_weightOf 35 = .ok (.iload_n 1, 1) := by decide +kernel
theorem dX9_weightOf_36 : decode cX9_weightOf 36 = .ok (.iaload, 1) := by decide +kernel
theorem dX9_weightOf_37 : decode cX9_weightOf 37 = .ok (.iload_n 2, 1) := by decide +kernel
theorem dX9_weightOf_38 : decode cX9_weightOf 38 = .ok (.invokestatic 77, 3) := by decide +kernel
theorem dX9_weightOf_41 : decode cX9_weightOf 41 = .ok (.ifCond .ne 26, 3) := by decide +kernel
theorem dX9_weightOf_44 : decode cX9_weightOf 44 = .ok (.aload_n 0, 1) := by decide +kernel
theorem dX9_weightOf_45 : decode cX9_weightOf 45 = .ok (.iload_n 1, 1) := by decide +kernel
theorem dX9_weightOf_46 : decode cX9_weightOf 46 = .ok (.iload_n 2, 1) := by decide +kernel
theorem dX9_weightOf_47 : decode cX9_weightOf 47 = .ok (.iload 4, 2) := by decide +kernel
theorem dX9_weightOf_49 : decode cX9_weightOf 49 = .ok (.invokevirtual 103, 3) := by decide +kernel
theorem dX9_weightOf_52 : decode cX9_weightOf 52 = .ok (.ifCond .eq 15, 3) := by decide +kernel
theorem dX9_weightOf_55 : decode cX9_weightOf 55 = .ok (.aload_n 0, 1) := by decide +kernel
theorem dX9_weightOf_56 : decode cX9_weightOf 56 = .ok (.iload_n 1, 1) := by decide +kernel
theorem dX9_weightOf_57 : decode cX9_weightOf 57 = .ok (.iload_n 2, 1) := by decide +kernel
theorem dX9_weightOf_58 : decode cX9_weightOf 58 = .ok (.iload_n 3, 1) := by decide +kernel
theorem dX9_weightOf_59 : decode cX9_weightOf 59 = .ok (.iload 4, 2) := by decide +kernel
theorem dX9_weightOf_61 : decode cX9_weightOf 61 = .ok (.invokevirtual 217, 3) := by decide +kernel
theorem dX9_weightOf_64 : decode cX9_weightOf 64 = .ok (.ifCond .ne 5, 3) := by decide +kernel
theorem dX9_weightOf_67 : decode cX9_weightOf 67 = .ok (.iconst 1, 1) := by decide +kernel
theorem dX9_weightOf_68 : decode cX9_weightOf 68 = .ok (.ireturn, 1) := by decide +kernel
theorem dX9_weightOf_69 : decode cX9_weightOf 69 = .ok (.aload_n 0, 1) := by decide +kernel
theorem dX9_weightOf_70 : decode cX9_weightOf 70 = .ok (.iload_n 1, 1) := by decide +kernel
theorem dX9_weightOf_71 : decode cX9_weightOf 71 = .ok (.iload_n 2, 1) := by decide +kernel
theorem dX9_weightOf_72 : decode cX9_weightOf 72 = .ok (.invokevirtual 176, 3) := by decide +kernel
theorem dX9_weightOf_75 : decode cX9_weightOf 75 = .ok (.aload_n 0, 1) := by decide +kernel
theorem dX9_weightOf_76 : decode cX9_weightOf 76 = .ok (.getfield 44, 3) := by decide +kernel
theorem dX9_weightOf_79 : decode cX9_weightOf 79 = .ok (.getfield 221, 3) := by decide +kernel
theorem dX9_weightOf_82 : decode cX9_weightOf 82 = .ok (.if_icmp .lt 7, 3) := by decide +kernel
theorem dX9_weightOf_85 : decode cX9_weightOf 85 = .ok (.iconst 2, 1) := by decide +kernel
theorem dX9_weightOf_86 : decode cX9_weightOf 86 = .ok (.goto 4, 3) := by decide +kernel
theorem dX9_weightOf_89 : decode cX9_weightOf 89 = .ok (.iconst 3, 1) := by decide +kernel
theorem dX9_weightOf_90 : decode cX9_weightOf 90 = .ok (.ireturn, 1) := by decide +kernel
theorem dX9_standOf_0 : decode cX9_standOf 0 = .ok (.aload_n 0, 1) := by decide +kernel
theorem dX9_standOf_1 : decode cX9_standOf 1 = .ok (.iload_n 1, 1) := by decide +kernel
theorem dX9_standOf_2 : decode cX9_standOf 2 = .ok (.invokevirtual 116, 3) := by decide +kernel
theorem dX9_standOf_5 : decode cX9_standOf 5 = .ok (.ifCond .eq 5, 3) := by decide +kernel
theorem dX9_standOf_8 : decode cX9_standOf 8 = .ok (.iconst 4, 1) := by decide +kernel
theorem dX9_standOf_9 : decode cX9_standOf 9 = .ok (.ireturn, 1) := by decide +kernel
theorem dX9_standOf_10 : decode cX9_standOf 10 = .ok (.iconst 0, 1) := by decide +kernel
theorem dX9_standOf_11 : decode cX9_standOf 11 = .ok (.istore 4, 2) := by decide +kernel
theorem dX9_standOf_13 : decode cX9_standOf 13 = .ok (.aload_n 0, 1) := by decide +kernel
theorem dX9_standOf_14 : decode cX9_standOf 14 = .ok (.aload_n 0, 1) := by decide +kernel
theorem dX9_standOf_15 : decode cX9_standOf 15 = .ok (.getfield 40, 3) := by decide +kernel
theorem dX9_standOf_18 : decode cX9_standOf 18 = .ok (.getfield 100, 3) := by decide +kernel
theorem dX9_standOf_21 : decode cX9_standOf 21 = .ok (.iload_n 1, 1) := by decide +kernel
theorem dX9_standOf_22 : decode cX9_standOf 22 = .ok (.iaload, 1) := by decide +kernel
theorem dX9_standOf_23 : decode cX9_standOf 23 = .ok (.invokevirtual 93, 3) := by decide +kernel
theorem dX9_standOf_26 : decode cX9_standOf 26 = .ok (.istore 5, 2) := by decide +kernel
theorem dX9_standOf_28 : decode cX9_standOf 28 = .ok (.iconst 0, 1) := by decide +kernel
theorem dX9_standOf_29 : decode cX9_standOf 29 = .ok (.istore 6, 2) := by decide +kernel
theorem dX9_standOf_31 : decode cX9_standOf 31 = .ok (.iload 6, 2) := by decide +kernel
theorem dX9_standOf_33 : decode cX9_standOf 33 = .ok (.aload_n 0, 1) := by decide +kernel
theorem dX9_standOf_34 : decode cX9_standOf 34 = .ok (.getfield 29, 3) := by decide +kernel
theorem dX9_standOf_37 : decode cX9_standOf 37 = .ok (.getfield 52, 3) := by decide +kernel
theorem dX9_standOf_40 : decode cX9_standOf 40 = .ok (.if_icmp .ge 46, 3) := by decide +kernel
theorem dX9_standOf_43 : decode cX9_standOf 43 = .ok (.iload 4, 2) := by decide +kernel
theorem dX9_standOf_45 : decode cX9_standOf 45 = .ok (.iconst 3, 1) := by decide +kernel
theorem dX9_standOf_46 : decode cX9_standOf 46 = .ok (.if_icmp .ge 40, 3) := by decide +kernel
theorem dX9_standOf_49 : decode cX9_standOf 49 = .ok (.iload 5, 2) := by decide +kernel
theorem dX9_standOf_51 : decode cX9_standOf 51 = .ok (.ifCond .eq 35, 3) := by decide +kernel
theorem dX9_standOf_54 : decode cX9_standOf 54 = .ok (.iload 5, 2) := by decide +kernel
theorem dX9_standOf_56 : decode cX9_standOf 56 = .ok (.iload 6, 2) := by decide +kernel
theorem dX9_standOf_58 : decode cX9_standOf 58 = .ok (.invokestatic 77, 3) := by decide +kernel
theorem dX9_standOf_61 : decode cX9_standOf 61 = .ok (.ifCond .eq 19, 3) := by decide +kernel
theorem dX9_standOf_64 : decode cX9_standOf 64 = .ok (.iload 4, 2) := by decide +kernel
theorem dX9_standOf_66 : decode cX9_standOf 66 = .ok (.aload_n 0, 1) := by decide +kernel
theorem dX9_standOf_67 : decode cX9_standOf 67 = .ok (.iload 6, 2) := by decide +kernel
theorem dX9_standOf_69 : decode cX9_standOf 69 = .ok (.iload_n 1, 1) := by decide +kernel
theorem dX9_standOf_70 : decode cX9_standOf 70 = .ok (.iload_n 2, 1) := by decide +kernel
theorem dX9_standOf_71 : decode cX9_standOf 71 = .ok (.iload_n 3, 1) := by decide +kernel
theorem dX9_standOf_72 : decode cX9_standOf 72 = .ok (.invokevirtual 119, 3) := by decide +kernel
theorem dX9_standOf_75 : decode cX9_standOf 75 = .ok (.invokestatic 224, 3) := by decide +kernel
theorem dX9_standOf_78 : decode cX9_standOf 78 = .ok (.istore 4, 2) := by decide +kernel
theorem dX9_standOf_80 : decode cX9_standOf 80 = .ok (.iinc 6 1, 3) := by decide +kernel
theorem dX9_standOf_83 : decode cX9_standOf 83 = .ok (.goto (-52), 3) := by decide +kernel
theorem dX9_standOf_86 : decode cX9_standOf 86 = .ok (.iload 4, 2) := by decide +kernel
theorem dX9_standOf_88 : decode cX9_standOf 88 = .ok (.ireturn, 1) := by decide +kernel
theorem dX9_leaderOf_0 : decode cX9_leaderOf 0 = .ok (.aload_n 0, 1) := by decide +kernel
theorem dX9_leaderOf_1 : decode cX9_leaderOf 1 = .ok (.iload_n 1, 1) := by decide +kernel
theorem dX9_leaderOf_2 : decode cX9_leaderOf 2 = .ok (.invokevirtual 116, 3) := by decide +kernel
theorem dX9_leaderOf_5 : decode cX9_leaderOf 5 = .ok (.ifCond .eq 5, 3) := by decide +kernel
theorem dX9_leaderOf_8 : decode cX9_leaderOf 8 = .ok (.iconst (-1), 1) := by decide +kernel
theorem dX9_leaderOf_9 : decode cX9_leaderOf 9 = .ok (.ireturn, 1) := by decide +kernel
theorem dX9_leaderOf_10 : decode cX9_leaderOf 10 = .ok (.iconst (-1), 1) := by decide +kernel
theorem dX9_leaderOf_11 : decode cX9_leaderOf 11 = .ok (.istore 4, 2) := by decide +kernel
theorem dX9_leaderOf_13 : decode cX9_leaderOf 13 = .ok (.iconst 0, 1) := by decide +kernel
theorem dX9_leaderOf_14 : decode cX9_leaderOf 14 = .ok (.istore 5, 2) := by decide +kernel
theorem dX9_leaderOf_16 : decode cX9_leaderOf 16 = .ok (.aload_n 0, 1) := by decide +kernel
theorem dX9_leaderOf_17 : decode cX9_leaderOf 17 = .ok (.aload_n 0, 1) := by decide +kernel
theorem dX9_leaderOf_18 : decode cX9_leaderOf 18 = .ok (.getfield 40, 3) := by decide +kernel
theorem dX9_leaderOf_21 : decode cX9_leaderOf 21 = .ok (.getfield 100, 3) := by decide +kernel
theorem dX9_leaderOf_24 : decode cX9_leaderOf 24 = .ok (.iload_n 1, 1) := by decide +kernel
theorem dX9_leaderOf_25 : decode cX9_leaderOf 25 = .ok (.iaload, 1) := by decide +kernel
theorem dX9_leaderOf_26 : decode cX9_leaderOf 26 = .ok (.invokevirtual 93, 3) := by decide +kernel
theorem dX9_leaderOf_29 : decode cX9_leaderOf 29 = .ok (.istore 6, 2) := by decide +kernel
theorem dX9_leaderOf_31 : decode cX9_leaderOf 31 = .ok (.iconst 0, 1) := by decide +kernel
theorem dX9_leaderOf_32 : decode cX9_leaderOf 32 = .ok (.istore 7, 2) := by decide +kernel
theorem dX9_leaderOf_34 : decode cX9_leaderOf 34 = .ok (.iload 7, 2) := by decide +kernel
theorem dX9_leaderOf_36 : decode cX9_leaderOf 36 = .ok (.aload_n 0, 1) := by decide +kernel
theorem dX9_leaderOf_37 : decode cX9_leaderOf 37 = .ok (.getfield 29, 3) := by decide +kernel
theorem dX9_leaderOf_40 : decode cX9_leaderOf 40 = .ok (.getfield 52, 3) := by decide +kernel
theorem dX9_leaderOf_43 : decode cX9_leaderOf 43 = .ok (.if_icmp .ge 89, 3) := by decide +kernel
theorem dX9_leaderOf_46 : decode cX9_leaderOf 46 = .ok (.aload_n 0, 1) := by decide +kernel
theorem dX9_leaderOf_47 : decode cX9_leaderOf 47 = .ok (.getfield 29, 3) := by decide +kernel
theorem dX9_leaderOf_50 : decode cX9_leaderOf 50 = .ok (.getfield 58, 3) := by decide +kernel
theorem dX9_leaderOf_53 : decode cX9_leaderOf 53 = .ok (.iload 7, 2) := by decide +kernel
theorem dX9_leaderOf_55 : decode cX9_leaderOf 55 = .ok (.iaload, 1) := by decide +kernel
theorem dX9_leaderOf_56 : decode cX9_leaderOf 56 = .ok (.istore 8, 2) := by decide +kernel
theorem dX9_leaderOf_58 : decode cX9_leaderOf 58 = .ok (.iload 6, 2) := by decide +kernel
theorem dX9_leaderOf_60 : decode cX9_leaderOf 60 = .ok (.iload 8, 2) := by decide +kernel
theorem dX9_leaderOf_62 : decode cX9_leaderOf 62 = .ok (.invokestatic 77, 3) := by decide +kernel
theorem dX9_leaderOf_65 : decode cX9_leaderOf 65 = .ok (.ifCond .eq 15, 3) := by decide +kernel
theorem dX9_leaderOf_68 : decode cX9_leaderOf 68 = .ok (.aload_n 0, 1) := by decide +kernel
theorem dX9_leaderOf_69 : decode cX9_leaderOf 69 = .ok (.iload 8, 2) := by decide +kernel
theorem dX9_leaderOf_71 : decode cX9_leaderOf 71 = .ok (.iload_n 1, 1) := by decide +kernel
theorem dX9_leaderOf_72 : decode cX9_leaderOf 72 = .ok (.iload_n 2, 1) := by decide +kernel
theorem dX9_leaderOf_73 : decode cX9_leaderOf 73 = .ok (.iload_n 3, 1) := by decide +kernel
theorem dX9_leaderOf_74 : decode cX9_leaderOf 74 = .ok (.invokevirtual 119, 3) := by decide +kernel
theorem dX9_leaderOf_77 : decode cX9_leaderOf 77 = .ok (.goto 4, 3) := by decide +kernel
theorem dX9_leaderOf_80 : decode cX9_leaderOf 80 = .ok (.iconst 0, 1) := by decide +kernel
theorem dX9_leaderOf_81 : decode cX9_leaderOf 81 = .ok (.istore 9, 2) := by decide +kernel
theorem dX9_leaderOf_83 : decode cX9_leaderOf 83 = .ok (.iload 9, 2) := by decide +kernel
theorem dX9_leaderOf_85 : decode cX9_leaderOf 85 = .ok (.iload 5, 2) := by decide +kernel
theorem dX9_leaderOf_87 : decode cX9_leaderOf 87 = .ok (.if_icmp .gt 31, 3) := by decide +kernel
theorem dX9_leaderOf_90 : decode cX9_leaderOf 90 = .ok (.iload 9, 2) := by decide +kernel
theorem dX9_leaderOf_92 : decode cX9_leaderOf 92 = .ok (.iload 5, 2) := by decide +kernel
theorem dX9_leaderOf_94 : decode cX9_leaderOf 94 = .ok (.if_icmp .ne 32, 3) := by decide +kernel
theorem dX9_leaderOf_97 : decode cX9_leaderOf 97 = .ok (.iload 4, 2) := by decide +kernel
theorem dX9_leaderOf_99 : decode cX9_leaderOf 99 = .ok (.iconst (-1), 1) := by decide +kernel
theorem dX9_leaderOf_100 : decode cX9_leaderOf 100 = .ok (.if_icmp .eq 26, 3) := by decide +kernel
theorem dX9_leaderOf_103 : decode cX9_leaderOf 103 = .ok (.aload_n 0, 1) := by decide +kernel
theorem dX9_leaderOf_104 : decode cX9_leaderOf 104 = .ok (.iload 8, 2) := by decide +kernel
theorem dX9_leaderOf_106 : decode cX9_leaderOf 106 = .ok (.invokevirtual 229, 3) := by decide +kernel
theorem dX9_leaderOf_109 : decode cX9_leaderOf 109 = .ok (.aload_n 0, 1) := by decide +kernel
theorem dX9_leaderOf_110 : decode cX9_leaderOf 110 = .ok (.iload 4, 2) := by decide +kernel
theorem dX9_leaderOf_112 : decode cX9_leaderOf 112 = .ok (.invokevirtual 229, 3) := by decide +kernel
theorem dX9_leaderOf_115 : decode cX9_leaderOf 115 = .ok (.if_icmp .lt 11, 3) := by decide +kernel
theorem dX9_leaderOf_118 : decode cX9_leaderOf 118 = .ok (.iload 8, 2) := by decide +kernel
theorem dX9_leaderOf_120 : decode cX9_leaderOf 120 = .ok (.istore 4, 2) := by decide +kernel
theorem dX9_leaderOf_122 : decode cX9_leaderOf 122 = .ok (.iload 9, 2) := by decide +kernel
theorem dX9_leaderOf_124 : decode cX9_leaderOf 124 = .ok (.istore 5, 2) := by decide +kernel
theorem dX9_leaderOf_126 : decode cX9_leaderOf 126 = .ok (.iinc 7 1, 3) := by decide +kernel
theorem dX9_leaderOf_129 : decode cX9_leaderOf 129 = .ok (.goto (-95), 3) := by decide +kernel
theorem dX9_leaderOf_132 : decode cX9_leaderOf 132 = .ok (.iload 4, 2) := by decide +kernel
theorem dX9_leaderOf_134 : decode cX9_leaderOf 134 = .ok (.ireturn, 1) := by decide +kernel
theorem dX9_rankOf_0 : decode cX9_rankOf 0 = .ok (.aload_n 0, 1) := by decide +kernel
theorem dX9_rankOf_1 : decode cX9_rankOf 1 = .ok (.getfield 25, 3) := by decide +kernel
theorem dX9_rankOf_4 : decode cX9_rankOf 4 = .ok (.getfield 194, 3) := by decide +kernel
theorem dX9_rankOf_7 : decode cX9_rankOf 7 = .ok (.aload_n 0, 1) := by decide +kernel
theorem dX9_rankOf_8 : decode cX9_rankOf 8 = .ok (.getfield 29, 3) := by decide +kernel
theorem dX9_rankOf_11 : decode cX9_rankOf 11 = .ok (.getfield 110, 3) := by decide +kernel
theorem dX9_rankOf_14 : decode cX9_rankOf 14 = .ok (.iload_n 1, 1) := by decide +kernel
theorem dX9_rankOf_15 : decode cX9_rankOf 15 = .ok (.iaload, 1) := by decide +kernel
theorem dX9_rankOf_16 : decode cX9_rankOf 16 = .ok (.iaload, 1) := by decide +kernel
theorem dX9_rankOf_17 : decode cX9_rankOf 17 = .ok (.ireturn, 1) := by decide +kernel
theorem dX10_init_0 : decode cX10_init 0 = .ok (.aload_n 0, 1) := by decide +kernel
theorem dX10_init_1 : decode cX10_init 1 = .ok (.invokespecial 3, 3) := by decide +kernel
theorem dX10_init_4 : decode cX10_init 4 = .ok (.aload_n 0, 1) := by decide +kernel
theorem dX10_init_5 : decode cX10_init 5 = .ok (.sipush 400, 3) := by decide +kernel
theorem dX10_init_8 : decode cX10_init 8 = .ok (.newarray .byte, 2) := by decide +kernel
theorem dX10_init_10 : decode cX10_init 10 = .ok (.putfield 9, 3) := by decide +kernel
theorem dX10_init_13 : decode cX10_init 13 = .ok (.aload_n 0, 1) := by decide +kernel
theorem dX10_init_14 : decode cX10_init 14 = .ok (.new 13, 3) := by decide +kernel
theorem dX10_init_17 : decode cX10_init 17 = .ok (.dup, 1) := by decide +kernel
theorem dX10_init_18 : decode cX10_init 18 = .ok (.invokespecial 15, 3) := by decide +kernel
theorem dX10_init_21 : decode cX10_init 21 = .ok (.putfield 16, 3) := by decide +kernel
theorem dX10_init_24 : decode cX10_init 24 = .ok (.aload_n 0, 1) := by decide +kernel
theorem dX10_init_25 : decode cX10_init 25 = .ok (.new 20, 3) := by decide +kernel
theorem dX10_init_28 : decode cX10_init 28 = .ok (.dup, 1) := by decide +kernel
theorem dX10_init_29 : decode cX10_init 29 = .ok (.invokespecial 22, 3) := by decide +kernel
theorem dX10_init_32 : decode cX10_init 32 = .ok (.putfield 23, 3) := by decide +kernel
theorem dX10_init_35 : decode cX10_init 35 = .ok (.aload_n 0, 1) := by decide +kernel
theorem dX10_init_36 : decode cX10_init 36 = .ok (.new 27, 3) := by decide +kernel
theorem dX10_init_39 : decode cX10_init 39 = .ok (.dup, 1) := by decide +kernel
theorem dX10_init_40 : decode cX10_init 40 = .ok (.invokespecial 29, 3) := by decide +kernel
theorem dX10_init_43 : decode cX10_init 43 = .ok (.putfield 30, 3) := by decide +kernel
theorem dX10_init_46 : decode cX10_init 46 = .ok (.aload_n 0, 1) := by decide +kernel
theorem dX10_init_47 : decode cX10_init 47 = .ok (.new 34, 3) := by decide +kernel
theorem dX10_init_50 : decode cX10_init 50 = .ok (.dup, 1) := by decide +kernel
theorem dX10_init_51 : decode cX10_init 51 = .ok (.invokespecial 36, 3) := by decide +kernel
theorem dX10_init_54 : decode cX10_init 54 = .ok (.putfield 37, 3) := by decide +kernel
theorem dX10_init_57 : decode cX10_init 57 = .ok (.aload_n 0, 1) := by decide +kernel
theorem dX10_init_58 : decode cX10_init 58 = .ok (.new 41, 3) := by decide +kernel
theorem dX10_init_61 : decode cX10_init 61 = .ok (.dup, 1) := by decide +kernel
theorem dX10_init_62 : decode cX10_init 62 = .ok (.invokespecial 43, 3) := by decide +kernel
theorem dX10_init_65 : decode cX10_init 65 = .ok (.putfield 44, 3) := by decide +kernel
theorem dX10_init_68 : decode cX10_init 68 = .ok (.aload_n 0, 1) := by decide +kernel
theorem dX10_init_69 : decode cX10_init 69 = .ok (.new 41, 3) := by decide +kernel
theorem dX10_init_72 : decode cX10_init 72 = .ok (.dup, 1) := by decide +kernel
theorem dX10_init_73 : decode cX10_init 73 = .ok (.invokespecial 43, 3) := by decide +kernel
theorem dX10_init_76 : decode cX10_init 76 = .ok (.putfield 48, 3) := by decide +kernel
theorem dX10_init_79 : decode cX10_init 79 = .ok (.aload_n 0, 1) := by decide +kernel
theorem dX10_init_80 : decode cX10_init 80 = .ok (.new 51, 3) := by decide +kernel
theorem dX10_init_83 : decode cX10_init 83 = .ok (.dup, 1) := by decide +kernel
theorem dX10_init_84 : decode cX10_init 84 = .ok (.aload_n 0, 1) := by decide +kernel
theorem dX10_init_85 : decode cX10_init 85 = .ok (.getfield 48, 3) := by decide +kernel
theorem dX10_init_88 : decode cX10_init 88 = .ok (.invokespecial 53, 3) := by decide +kernel
theorem dX10_init_91 : decode cX10_init 91 = .ok (.putfield 56, 3) := by decide +kernel
theorem dX10_init_94 : decode cX10_init 94 = .ok (.aload_n 0, 1) := by decide +kernel
theorem dX10_init_95 : decode cX10_init 95 = .ok (.new 60, 3) := by decide +kernel
theorem dX10_init_98 : decode cX10_init 98 = .ok (.dup, 1) := by decide +kernel
theorem dX10_init_99 : decode cX10_init 99 = .ok (.aload_n 0, 1) := by decide +kernel
theorem dX10_init_100 : decode cX10_init 100 = .ok (.getfield 16, 3) := by decide +kernel
theorem dX10_init_103 : decode cX10_init 103 = .ok (.aload_n 0, 1) := by decide +kernel
theorem dX10_init_104 : decode cX10_init 104 = .ok (.getfield 30, 3) := by decide +kernel
theorem dX10_init_107 : decode cX10_init 107 = .ok (.new 62, 3) := by decide +kernel
theorem dX10_init_110 : decode cX10_init 110 = .ok (.dup, 1) := by decide +kernel
theorem dX10_init_111 : decode cX10_init 111 = .ok (.aload_n 0, 1) := by decide +kernel
theorem dX10_init_112 : decode cX10_init 112 = .ok (.getfield 23, 3) := by decide +kernel
theorem dX10_init_115 : decode cX10_init 115 = .ok (.aload_n 0, 1) := by decide +kernel
theorem dX10_init_116 : decode cX10_init 116 = .ok (.getfield 30, 3) := by decide +kernel
theorem dX10_init_119 : decode cX10_init 119 = .ok (.aload_n 0, 1) := by decide +kernel
theorem dX10_init_120 : decode cX10_init 120 = .ok (.getfield 37, 3) := by decide +kernel
theorem dX10_init_123 : decode cX10_init 123 = .ok (.invokespecial 64, 3) := by decide +kernel
theorem dX10_init_126 : decode cX10_init 126 = .ok (.aload_n 0, 1) := by decide +kernel
theorem dX10_init_127 : decode cX10_init 127 = .ok (.getfield 44, 3) := by decide +kernel
theorem dX10_init_130 : decode cX10_init 130 = .ok (.invokespecial 67, 3) := by decide +kernel
theorem dX10_init_133 : decode cX10_init 133 = .ok (.putfield 70, 3) := by decide +kernel
theorem dX10_init_136 : decode cX10_init 136 = .ok (.aload_n 0, 1) := by decide +kernel
theorem dX10_init_137 : decode cX10_init 137 = .ok (.bipush 12, 2) := by decide +kernel
theorem dX10_init_139 : decode cX10_init 139 = .ok (.newarray .int, 2) := by decide +kernel
theorem dX10_init_141 : decode cX10_init 141 = .ok (.putfield 74, 3) := by decide +kernel
theorem dX10_init_144 : decode cX10_init 144 = .ok (.aload_n 0, 1) := by decide +kernel
theorem dX10_init_145 : decode cX10_init 145 = .ok (.bipush 32, 2) := by decide +kernel
theorem dX10_init_147 : decode cX10_init 147 = .ok (.newarray .int, 2) := by decide +kernel
theorem dX10_init_149 : decode cX10_init 149 = .ok (.putfield 78, 3) := by decide +kernel
theorem dX10_init_152 : decode cX10_init 152 = .ok (.return_, 1) := by decide +kernel
theorem dX10_feed_0 : decode cX10_feed 0 = .ok (.aload_n 0, 1) := by decide +kernel
theorem dX10_feed_1 : decode cX10_feed 1 = .ok (.getfield 81, 3) := by decide +kernel
theorem dX10_feed_4 : decode cX10_feed 4 = .ok (.bipush 20, 2) := by decide +kernel
theorem dX10_feed_6 : decode cX10_feed 6 = .ok (.iadd, 1) := by decide +kernel
theorem dX10_feed_7 : decode cX10_feed 7 = .ok (.sipush 400, 3) := by decide +kernel
theorem dX10_feed_10 : decode cX10_feed 10 = .ok (.if_icmp .le 5, 3) := by decide +kernel
theorem dX10_feed_13 : decode cX10_feed 13 = .ok (.iconst (-1), 1) := by decide +kernel
theorem dX10_feed_14 : decode cX10_feed 14 = .ok (.ireturn, 1) := by decide +kernel
theorem dX10_feed_15 : decode cX10_feed 15 = .ok (.aload_n 0, 1) := by decide +kernel
theorem dX10_feed_16 : decode cX10_feed 16 = .ok (.iload_n 1, 1) := by decide +kernel
theorem dX10_feed_17 : decode cX10_feed 17 = .ok (.invokevirtual 85, 3) := by decide +kernel
theorem dX10_feed_20 : decode cX10_feed 20 = .ok (.aload_n 0, 1) := by decide +kernel
theorem dX10_feed_21 : decode cX10_feed 21 = .ok (.iload_n 2, 1) := by decide +kernel
theorem dX10_feed_22 : decode cX10_feed 22 = .ok (.invokevirtual 85, 3) := by decide +kernel
theorem dX10_feed_25 : decode cX10_feed 25 = .ok (.aload_n 0, 1) := by decide +kernel
theorem dX10_feed_26 : decode cX10_feed 26 = .ok (.iload_n 3, 1) := by decide +kernel
theorem dX10_feed_27 : decode cX10_feed 27 = .ok (.invokevirtual 85, 3) := by decide +kernel
theorem dX10_feed_30 : decode cX10_feed 30 = .ok (.aload_n 0, 1) := by decide +kernel
theorem dX10_feed_31 : decode cX10_feed 31 = .ok (.iload 4, 2) := by decide +kernel
theorem dX10_feed_33 : decode cX10_feed 33 = .ok (.invokevirtual 85, 3) := by decide +kernel
theorem dX10_feed_36 : decode cX10_feed 36 = .ok (.aload_n 0, 1) := by decide +kernel
theorem dX10_feed_37 : decode cX10_feed 37 = .ok (.iload 5, 2) := by decide +kernel
theorem dX10_feed_39 : decode cX10_feed 39 = .ok (.invokevirtual 85, 3) := by decide +kernel
theorem dX10_feed_42 : decode cX10_feed 42 = .ok (.aload_n 0, 1) := by decide +kernel
theorem dX10_feed_43 : decode cX10_feed 43 = .ok (.getfield 81, 3) := by decide +kernel
theorem dX10_feed_46 : decode cX10_feed 46 = .ok (.ireturn, 1) := by decide +kernel
theorem dX10_rules_0 : decode cX10_rules 0 = .ok (.iload_n 1, 1) := by decide +kernel
theorem dX10_rules_1 : decode cX10_rules 1 = .ok (.ifCond .lt 11, 3) := by decide +kernel
theorem dX10_rules_4 : decode cX10_rules 4 = .ok (.iload_n 1, 1) := by decide +kernel
theorem dX10_rules_5 : decode cX10_rules 5 = .ok (.aload_n 0, 1) := by decide +kernel
theorem dX10_rules_6 : decode cX10_rules 6 = .ok (.getfield 81, 3) := by decide +kernel
theorem dX10_rules_9 : decode cX10_rules 9 = .ok (.if_icmp .le 6, 3) := by decide +kernel
theorem dX10_rules_12 : decode cX10_rules 12 = .ok (.bipush (-2), 2) := by decide +kernel
theorem dX10_rules_14 : decode cX10_rules 14 = .ok (.ireturn, 1) := by decide +kernel
theorem dX10_rules_15 : decode cX10_rules 15 = .ok (.aload_n 0, 1) := by decide +kernel
theorem dX10_rules_16 : decode cX10_rules 16 = .ok (.iconst 0, 1) := by decide +kernel
theorem dX10_rules_17 : decode cX10_rules 17 = .ok (.putfield 81, 3) := by decide +kernel
theorem dX10_rules_20 : decode cX10_rules 20 = .ok (.aload_n 0, 1) := by decide +kernel
theorem dX10_rules_21 : decode cX10_rules 21 = .ok (.getfield 56, 3) := by decide +kernel
theorem dX10_rules_24 : decode cX10_rules 24 = .ok (.aload_n 0, 1) := by decide +kernel
theorem dX10_rules_25 : decode cX10_rules 25 = .ok (.getfield 9, 3) := by decide +kernel
theorem dX10_rules_28 : decode cX10_rules 28 = .ok (.iload_n 1, 1) := by decide +kernel
theorem dX10_rules_29 : decode cX10_rules 29 = .ok (.aload_n 0, 1) := by decide +kernel
theorem dX10_rules_30 : decode cX10_rules 30 = .ok (.getfield 48, 3) := by decide +kernel
theorem dX10_rules_33 : decode cX10_rules 33 = .ok (.invokevirtual 89, 3) := by decide +kernel
theorem dX10_rules_36 : decode cX10_rules 36 = .ok (.aload_n 0, 1) := by decide +kernel
theorem dX10_rules_37 : decode cX10_rules 37 = .ok (.getfield 56, 3) := by decide +kernel
theorem dX10_rules_40 : decode cX10_rules 40 = .ok (.getfield 93, 3) := by decide +kernel
theorem dX10_rules_43 : decode cX10_rules 43 = .ok (.ifCond .eq 5, 3) := by decide +kernel
theorem dX10_rules_46 : decode cX10_rules 46 = .ok (.iconst (-1), 1) := by decide +kernel
theorem dX10_rules_47 : decode cX10_rules 47 = .ok (.ireturn, 1) := by decide +kernel
theorem dX10_rules_48 : decode cX10_rules 48 = .ok (.aload_n 0, 1) := by decide +kernel
theorem dX10_rules_49 : decode cX10_rules 49 = .ok (.getfield 44, 3) := by decide +kernel
theorem dX10_rules_52 : decode cX10_rules 52 = .ok (.astore_n 2, 1) := by decide +kernel
theorem dX10_rules_53 : decode cX10_rules 53 = .ok (.aload_n 0, 1) := by decide +kernel
theorem dX10_rules_54 : decode cX10_rules 54 = .ok (.aload_n 0, 1) := by decide +kernel
theorem dX10_rules_55 : decode cX10_rules 55 = .ok (.getfield 48, 3) := by decide +kernel
theorem dX10_rules_58 : decode cX10_rules 58 = .ok (.putfield 44, 3) := by decide +kernel
theorem dX10_rules_61 : decode cX10_rules 61 = .ok (.aload_n 0, 1) := by decide +kernel
theorem dX10_rules_62 : decode cX10_rules 62 = .ok (.aload_n 2, 1) := by decide +kernel
theorem dX10_rules_63 : decode cX10_rules 63 = .ok (.putfield 48, 3) := by decide +kernel
theorem dX10_rules_66 : decode cX10_rules 66 = .ok (.aload_n 0, 1) := by decide +kernel
theorem dX10_rules_67 : decode cX10_rules 67 = .ok (.getfield 44, 3) := by decide +kernel
theorem dX10_rules_70 : decode cX10_rules 70 = .ok (.getfield 96, 3) := by decide +kernel
theorem dX10_rules_73 : decode cX10_rules 73 = .ok (.ireturn, 1) := by decide +kernel
theorem dX10_fault_0 : decode cX10_fault 0 = .ok (.iload_n 1, 1) := by decide +kernel
theorem dX10_fault_1 : decode cX10_fault 1 = .ok (.lookupswitch 43 #[(0, 27), (1, 35)], 27) := by decide +kernel
theorem dX10_fault_28 : decode cX10_fault 28 = .ok (.aload_n 0, 1) := by decide +kernel
theorem dX10_fault_29 : decode cX10_fault 29 = .ok (.getfield 56, 3) := by decide +kernel
theorem dX10_fault_32 : decode cX10_fault 32 = .ok (.getfield 93, 3) := by decide +kernel
theorem dX10_fault_35 : decode cX10_fault 35 = .ok (.ireturn, 1) := by decide +kernel
theorem dX10_fault_36 : decode cX10_fault 36 = .ok (.aload_n 0, 1) := by decide +kernel
theorem dX10_fault_37 : decode cX10_fault 37 = .ok (.getfield 56, 3) := by decide +kernel
theorem dX10_fault_40 : decode cX10_fault 40 = .ok (.getfield 99, 3) := by decide +kernel
theorem dX10_fault_43 : decode cX10_fault 43 = .ok (.ireturn, 1) := by decide +kernel
theorem dX10_fault_44 : decode cX10_fault 44 = .ok (.iconst (-1), 1) := by decide +kernel
theorem dX10_fault_45 : decode cX10_fault 45 = .ok (.ireturn, 1) := by decide +kernel
theorem dX10_days_0 : decode cX10_days 0 = .ok (.iload_n 1, 1) := by decide +kernel
theorem dX10_days_1 : decode cX10_days 1 = .ok (.invokestatic 102, 3) := by decide +kernel
theorem dX10_days_4 : decode cX10_days 4 = .ok (.ifCond .eq 15, 3) := by decide +kernel
theorem dX10_days_7 : decode cX10_days 7 = .ok (.aload_n 0, 1) := by decide +kernel
theorem dX10_days_8 : decode cX10_days 8 = .ok (.getfield 106, 3) := by decide +kernel
theorem dX10_days_11 : decode cX10_days 11 = .ok (.iload_n 1, 1) := by decide +kernel
theorem dX10_days_12 : decode cX10_days 12 = .ok (.iadd, 1) := by decide +kernel
theorem dX10_days_13 : decode cX10_days 13 = .ok (.invokestatic 102, 3) := by decide +kernel
theorem dX10_days_16 : decode cX10_days 16 = .ok (.ifCond .ne 5, 3) := by decide +kernel
theorem dX10_days_19 : decode cX10_days 19 = .ok (.iconst (-1), 1) := by decide +kernel
theorem dX10_days_20 : decode cX10_days 20 = .ok (.ireturn, 1) := by decide +kernel
theorem dX10_days_21 : decode cX10_days 21 = .ok (.aload_n 0, 1) := by decide +kernel
theorem dX10_days_22 : decode cX10_days 22 = .ok (.dup, 1) := by decide +kernel
theorem dX10_days_23 : decode cX10_days 23 = .ok (.getfield 106, 3) := by decide +kernel
theorem dX10_days_26 : decode cX10_days 26 = .ok (.iload_n 1, 1) := by decide +kernel
theorem dX10_days_27 : decode cX10_days 27 = .ok (.iadd, 1) := by decide +kernel
theorem dX10_days_28 : decode cX10_days 28 = .ok (.putfield 106, 3) := by decide +kernel
theorem dX10_days_31 : decode cX10_days 31 = .ok (.aload_n 0, 1) := by decide +kernel
theorem dX10_days_32 : decode cX10_days 32 = .ok (.getfield 106, 3) := by decide +kernel
theorem dX10_days_35 : decode cX10_days 35 = .ok (.ireturn, 1) := by decide +kernel
theorem dX10_court_0 : decode cX10_court 0 = .ok (.iload_n 1, 1) := by decide +kernel
theorem dX10_court_1 : decode cX10_court 1 = .ok (.ifCond .lt 18, 3) := by decide +kernel
theorem dX10_court_4 : decode cX10_court 4 = .ok (.iload_n 1, 1) := by decide +kernel
theorem dX10_court_5 : decode cX10_court 5 = .ok (.bipush 9, 2) := by decide +kernel
theorem dX10_court_7 : decode cX10_court 7 = .ok (.if_icmp .gt 12, 3) := by decide +kernel
theorem dX10_court_10 : decode cX10_court 10 = .ok (.iload_n 2, 1) := by decide +kernel
theorem dX10_court_11 : decode cX10_court 11 = .ok (.ifCond .lt 8, 3) := by decide +kernel
theorem dX10_court_14 : decode cX10_court 14 = .ok (.iload_n 2, 1) := by decide +kernel
theorem dX10_court_15 : decode cX10_court 15 = .ok (.iconst 3, 1) := by decide +kernel
theorem dX10_court_16 : decode cX10_court 16 = .ok (.if_icmp .le 5, 3) := by decide +kernel
theorem dX10_court_19 : decode cX10_court 19 = .ok (.iconst (-1), 1) := by decide +kernel
theorem dX10_court_20 : decode cX10_court 20 = .ok (.ireturn, 1) := by decide +kernel
theorem dX10_court_21 : decode cX10_court 21 = .ok (.aload_n 0, 1) := by decide +kernel
theorem dX10_court_22 : decode cX10_court 22 = .ok (.getfield 16, 3) := by decide +kernel
theorem dX10_court_25 : decode cX10_court 25 = .ok (.iload_n 1, 1) := by decide +kernel
theorem dX10_court_26 : decode cX10_court 26 = .ok (.iload_n 2, 1) := by decide +kernel
theorem dX10_court_27 : decode cX10_court 27 = .ok (.invokevirtual 109, 3) := by decide +kernel
theorem dX10_court_30 : decode cX10_court 30 = .ok (.ireturn, 1) := by decide +kernel
theorem dX10_point_0 : decode cX10_point 0 = .ok (.aload_n 0, 1) := by decide +kernel
theorem dX10_point_1 : decode cX10_point 1 = .ok (.getfield 23, 3) := by decide +kernel
theorem dX10_point_4 : decode cX10_point 4 = .ok (.getfield 113, 3) := by decide +kernel
theorem dX10_point_7 : decode cX10_point 7 = .ok (.bipush 12, 2) := by decide +kernel
theorem dX10_point_9 : decode cX10_point 9 = .ok (.if_icmp .lt 5, 3) := by decide +kernel
theorem dX10_point_12 : decode cX10_point 12 = .ok (.iconst (-1), 1) := by decide +kernel
theorem dX10_point_13 : decode cX10_point 13 = .ok (.ireturn, 1) := by decide +kernel
theorem dX10_point_14 : decode cX10_point 14 = .ok (.aload_n 0, 1) := by decide +kernel
theorem dX10_point_15 : decode cX10_point 15 = .ok (.getfield 23, 3) := by decide +kernel
theorem dX10_point_18 : decode cX10_point 18 = .ok (.dup, 1) := by decide +kernel
theorem dX10_point_19 : decode cX10_point 19 = .ok (.getfield 113, 3) := by decide +kernel
theorem dX10_point_22 : decode cX10_point 22 = .ok (.iconst 1, 1) := by decide +kernel
theorem dX10_point_23 : decode cX10_point 23 = .ok (.iadd, 1) := by decide +kernel
theorem dX10_point_24 : decode cX10_point 24 = .ok (.putfield 113, 3) := by decide +kernel
theorem dX10_point_27 : decode cX10_point 27 = .ok (.aload_n 0, 1) := by decide +kernel
theorem dX10_point_28 : decode cX10_point 28 = .ok (.getfield 23, 3) := by decide +kernel
theorem dX10_point_31 : decode cX10_point 31 = .ok (.getfield 113, 3) := by decide +kernel
theorem dX10_point_34 : decode cX10_point 34 = .ok (.iconst 1, 1) := by decide +kernel
theorem dX10_point_35 : decode cX10_point 35 = .ok (.isub, 1) := by decide +kernel
theorem dX10_point_36 : decode cX10_point 36 = .ok (.ireturn, 1) := by decide +kernel
theorem dX10_oppose_0 : decode cX10_oppose 0 = .ok (.aload_n 0, 1) := by decide +kernel
theorem dX10_oppose_1 : decode cX10_oppose 1 = .ok (.iload_n 1, 1) := by decide +kernel
theorem dX10_oppose_2 : decode cX10_oppose 2 = .ok (.invokevirtual 116, 3) := by decide +kernel
theorem dX10_oppose_5 : decode cX10_oppose 5 = .ok (.ifCond .eq 29, 3) := by decide +kernel
theorem dX10_oppose_8 : decode cX10_oppose 8 = .ok (.aload_n 0, 1) := by decide +kernel
theorem dX10_oppose_9 : decode cX10_oppose 9 = .ok (.iload_n 2, 1) := by decide +kernel
theorem dX10_oppose_10 : decode cX10_oppose 10 = .ok (.invokevirtual 116, 3) := by decide +kernel
theorem dX10_oppose_13 : decode cX10_oppose 13 = .ok (.ifCond .eq 21, 3) := by decide +kernel
theorem dX10_oppose_16 : decode cX10_oppose 16 = .ok (.iload_n 1, 1) := by decide +kernel
theorem dX10_oppose_17 : decode cX10_oppose 17 = .ok (.iload_n 2, 1) := by decide +kernel
theorem dX10_oppose_18 : decode cX10_oppose 18 = .ok (.if_icmp .eq 16, 3) := by decide +kernel
theorem dX10_oppose_21 : decode cX10_oppose 21 = .ok (.aload_n 0, 1) := by decide +kernel
theorem dX10_oppose_22 : decode cX10_oppose 22 = .ok (.getfield 23, 3) := by decide +kernel
theorem dX10_oppose_25 : decode cX10_oppose 25 = .ok (.iload_n 1, 1) := by decide +kernel
theorem dX10_oppose_26 : decode cX10_oppose 26 = .ok (.iload_n 2, 1) := by decide +kernel
theorem dX10_oppose_27 : decode cX10_oppose 27 = .ok (.invokevirtual 119, 3) := by decide +kernel
theorem dX10_oppose_30 : decode cX10_oppose 30 = .ok (.iload_n 3, 1) := by decide +kernel
theorem dX10_oppose_31 : decode cX10_oppose 31 = .ok (.if_icmp .ne 5, 3) := by decide +kernel
theorem dX10_oppose_34 : decode cX10_oppose 34 = .ok (.iconst 0, 1) := by decide +kernel
theorem dX10_oppose_35 : decode cX10_oppose 35 = .ok (.ireturn, 1) := by decide +kernel
theorem dX10_oppose_36 : decode cX10_oppose 36 = .ok (.aload_n 0, 1) := by decide +kernel
theorem dX10_oppose_37 : decode cX10_oppose 37 = .ok (.getfield 23, 3) := by decide +kernel
theorem dX10_oppose_40 : decode cX10_oppose 40 = .ok (.iload_n 1, 1) := by decide +kernel
theorem dX10_oppose_41 : decode cX10_oppose 41 = .ok (.iload_n 2, 1) := by decide +kernel
theorem dX10_oppose_42 : decode cX10_oppose 42 = .ok (.invokevirtual 123, 3) := by decide +kernel
theorem dX10_oppose_45 : decode cX10_oppose 45 = .ok (.iconst 1, 1) := by decide +kernel
theorem dX10_oppose_46 : decode cX10_oppose 46 = .ok (.ireturn, 1) := by decide +kernel
theorem dX10_kase_0 : decode cX10_kase 0 = .ok (.aload_n 0, 1) := by decide +kernel
theorem dX10_kase_1 : decode cX10_kase 1 = .ok (.iload_n 1, 1) := by decide +kernel
theorem dX10_kase_2 : decode cX10_kase 2 = .ok (.invokevirtual 127, 3) := by decide +kernel
theorem dX10_kase_5 : decode cX10_kase 5 = .ok (.ifCond .eq 33, 3) := by decide +kernel
theorem dX10_kase_8 : decode cX10_kase 8 = .ok (.iload_n 2, 1) := by decide +kernel
theorem dX10_kase_9 : decode cX10_kase 9 = .ok (.ifCond .lt 29, 3) := by decide +kernel
theorem dX10_kase_12 : decode cX10_kase 12 = .ok (.iload_n 2, 1) := by decide +kernel
theorem dX10_kase_13 : decode cX10_kase 13 = .ok (.aload_n 0, 1) := by decide +kernel
theorem dX10_kase_14 : decode cX10_kase 14 = .ok (.getfield 106, 3) := by decide +kernel
theorem dX10_kase_17 : decode cX10_kase 17 = .ok (.if_icmp .gt 21, 3) := by decide +kernel
theorem dX10_kase_20 : decode cX10_kase 20 = .ok (.iload_n 3, 1) := by decide +kernel
theorem dX10_kase_21 : decode cX10_kase 21 = .ok (.iconst 1, 1) := by decide +kernel
theorem dX10_kase_22 : decode cX10_kase 22 = .ok (.if_icmp .lt 16, 3) := by decide +kernel
theorem dX10_kase_25 : decode cX10_kase 25 = .ok (.iload_n 3, 1) := by decide +kernel
theorem dX10_kase_26 : decode cX10_kase 26 = .ok (.iconst 3, 1) := by decide +kernel
theorem dX10_kase_27 : decode cX10_kase 27 = .ok (.if_icmp .gt 11, 3) := by decide +kernel
theorem dX10_kase_30 : decode cX10_kase 30 = .ok (.iload 4, 2) := by decide +kernel
theorem dX10_kase_32 : decode cX10_kase 32 = .ok (.invokestatic 130, 3) := by decide +kernel
theorem dX10_kase_35 : decode cX10_kase 35 = .ok (.ifCond .ne 5, 3) := by decide +kernel
theorem dX10_kase_38 : decode cX10_kase 38 = .ok (.iconst (-1), 1) := by decide +kernel
theorem dX10_kase_39 : decode cX10_kase 39 = .ok (.ireturn, 1) := by decide +kernel
theorem dX10_kase_40 : decode cX10_kase 40 = .ok (.aload_n 0, 1) := by decide +kernel
theorem dX10_kase_41 : decode cX10_kase 41 = .ok (.getfield 30, 3) := by decide +kernel
theorem dX10_kase_44 : decode cX10_kase 44 = .ok (.iload_n 1, 1) := by decide +kernel
theorem dX10_kase_45 : decode cX10_kase 45 = .ok (.iload_n 2, 1) := by decide +kernel
theorem dX10_kase_46 : decode cX10_kase 46 = .ok (.iload_n 3, 1) := by decide +kernel
theorem dX10_kase_47 : decode cX10_kase 47 = .ok (.iload 4, 2) := by decide +kernel
theorem dX10_kase_49 : decode cX10_kase 49 = .ok (.aload_n 0, 1) := by decide +kernel
theorem dX10_kase_50 : decode cX10_kase 50 = .ok (.getfield 106, 3) := by decide +kernel
theorem dX10_kase_53 : decode cX10_kase 53 = .ok (.invokevirtual 133, 3) := by decide +kernel
theorem dX10_kase_56 : decode cX10_kase 56 = .ok (.ireturn, 1) := by decide +kernel
theorem dX10_holds_0 : decode cX10_holds 0 = .ok (.aload_n 0, 1) := by decide +kernel
theorem dX10_holds_1 : decode cX10_holds 1 = .ok (.iload_n 1, 1) := by decide +kernel
theorem dX10_holds_2 : decode cX10_holds 2 = .ok (.invokevirtual 136, 3) := by decide +kernel
theorem dX10_holds_5 : decode cX10_holds 5 = .ok (.ifCond .eq 19, 3) := by decide +kernel
theorem dX10_holds_8 : decode cX10_holds 8 = .ok (.aload_n 0, 1) := by decide +kernel
theorem dX10_holds_9 : decode cX10_holds 9 = .ok (.iload_n 3, 1) := by decide +kernel
theorem dX10_holds_10 : decode cX10_holds 10 = .ok (.invokevirtual 116, 3) := by decide +kernel
theorem dX10_holds_13 : decode cX10_holds 13 = .ok (.ifCond .eq 11, 3) := by decide +kernel
theorem dX10_holds_16 : decode cX10_holds 16 = .ok (.iload 4, 2) := by decide +kernel
theorem dX10_holds_18 : decode cX10_holds 18 = .ok (.invokestatic 130, 3) := by decide +kernel
theorem dX10_holds_21 : decode cX10_holds 21 = .ok (.ifCond .ne 5, 3) := by decide +kernel
theorem dX10_holds_24 : decode cX10_holds 24 = .ok (.iconst (-1), 1) := by decide +kernel
theorem dX10_holds_25 : decode cX10_holds 25 = .ok (.ireturn, 1) := by decide +kernel
theorem dX10_holds_26 : decode cX10_holds 26 = .ok (.iload_n 2, 1) := by decide +kernel
theorem dX10_holds_27 : decode cX10_holds 27 = .ok (.ifCond .lt 16, 3) := by decide +kernel
theorem dX10_holds_30 : decode cX10_holds 30 = .ok (.iload_n 2, 1) := by decide +kernel
theorem dX10_holds_31 : decode cX10_holds 31 = .ok (.aload_n 0, 1) := by decide +kernel
theorem dX10_holds_32 : decode cX10_holds 32 = .ok (.getfield 30, 3) := by decide +kernel
theorem dX10_holds_35 : decode cX10_holds 35 = .ok (.getfield 139, 3) := by decide +kernel
theorem dX10_holds_38 : decode cX10_holds 38 = .ok (.iload_n 1, 1) := by decide +kernel
theorem dX10_holds_39 : decode cX10_holds 39 = .ok (.iaload, 1) := by decide +kernel
theorem dX10_holds_40 : decode cX10_holds 40 = .ok (.if_icmp .lt 5, 3) := by decide +kernel
theorem dX10_holds_43 : decode cX10_holds 43 = .ok (.iconst (-1), 1) := by decide +kernel
theorem dX10_holds_44 : decode cX10_holds 44 = .ok (.ireturn, 1) := by decide +kernel
theorem dX10_holds_45 : decode cX10_holds 45 = .ok (.aload_n 0, 1) := by decide +kernel
theorem dX10_holds_46 : decode cX10_holds 46 = .ok (.getfield 37, 3) := by decide +kernel
theorem dX10_holds_49 : decode cX10_holds 49 = .ok (.iload 5, 2) := by decide +kernel
theorem dX10_holds_51 : decode cX10_holds 51 = .ok (.ifCond .eq 7, 3) := by decide +kernel
theorem dX10_holds_54 : decode cX10_holds 54 = .ok (.iconst 1, 1) := by decide +kernel
theorem dX10_holds_55 : decode cX10_holds 55 = .ok (.goto 4, 3) := by decide +kernel
theorem dX10_holds_58 : decode cX10_holds 58 = .ok (.iconst 0, 1) := by decide +kernel
theorem dX10_holds_59 : decode cX10_holds 59 = .ok (.aload_n 0, 1) := by decide +kernel
theorem dX10_holds_60 : decode cX10_holds 60 = .ok (.getfield 106, 3) := by decide +kernel
theorem dX10_holds_63 : decode cX10_holds 63 = .ok (.iload_n 1, 1) := by decide +kernel
theorem dX10_holds_64 : decode cX10_holds 64 = .ok (.iload_n 2, 1) := by decide +kernel
theorem dX10_holds_65 : decode cX10_holds 65 = .ok (.iload_n 3, 1) := by decide +kernel
theorem dX10_holds_66 : decode cX10_holds 66 = .ok (.iload 4, 2) := by decide +kernel
theorem dX10_holds_68 : decode cX10_holds 68 = .ok (.invokevirtual 142, 3) := by decide +kernel
theorem dX10_holds_71 : decode cX10_holds 71 = .ok (.ireturn, 1) := by decide +kernel
theorem dX10_treats_0 : decode cX10_treats 0 = .ok (.iload_n 1, 1) := by decide +kernel
theorem dX10_treats_1 : decode cX10_treats 1 = .ok (.iconst 2, 1) := by decide +kernel
theorem dX10_treats_2 : decode cX10_treats 2 = .ok (.if_icmp .lt 24, 3) := by decide +kernel
theorem dX10_treats_5 : decode cX10_treats 5 = .ok (.iload_n 1, 1) := by decide +kernel
theorem dX10_treats_6 : decode cX10_treats 6 = .ok (.iconst 4, 1) := by decide +kernel
theorem dX10_treats_7 : decode cX10_treats 7 = .ok (.if_icmp .gt 19, 3) := by decide +kernel
theorem dX10_treats_10 : decode cX10_treats 10 = .ok (.aload_n 0, 1) := by decide +kernel
theorem dX10_treats_11 : decode cX10_treats 11 = .ok (.iload_n 2, 1) := by decide +kernel
theorem dX10_treats_12 : decode cX10_treats 12 = .ok (.invokevirtual 136, 3) := by decide +kernel
theorem dX10_treats_15 : decode cX10_treats 15 = .ok (.ifCond .eq 11, 3) := by decide +kernel
theorem dX10_treats_18 : decode cX10_treats 18 = .ok (.aload_n 0, 1) := by decide +kernel
theorem dX10_treats_19 : decode cX10_treats 19 = .ok (.iload_n 3, 1) := by decide +kernel
theorem dX10_treats_20 : decode cX10_treats 20 = .ok (.invokevirtual 136, 3) := by decide +kernel
theorem dX10_treats_23 : decode cX10_treats 23 = .ok (.ifCond .ne 5, 3) := by decide +kernel
theorem dX10_treats_26 : decode cX10_treats 26 = .ok (.iconst (-1), 1) := by decide +kernel
theorem dX10_treats_27 : decode cX10_treats 27 = .ok (.ireturn, 1) := by decide +kernel
theorem dX10_treats_28 : decode cX10_treats 28 = .ok (.aload_n 0, 1) := by decide +kernel
theorem dX10_treats_29 : decode cX10_treats 29 = .ok (.getfield 30, 3) := by decide +kernel
theorem dX10_treats_32 : decode cX10_treats 32 = .ok (.iload_n 2, 1) := by decide +kernel
theorem dX10_treats_33 : decode cX10_treats 33 = .ok (.iload_n 3, 1) := by decide +kernel
theorem dX10_treats_34 : decode cX10_treats 34 = .ok (.invokevirtual 145, 3) := by decide +kernel
theorem dX10_treats_37 : decode cX10_treats 37 = .ok (.ifCond .eq 17, 3) := by decide +kernel
theorem dX10_treats_40 : decode cX10_treats 40 = .ok (.iload_n 1, 1) := by decide +kernel
theorem dX10_treats_41 : decode cX10_treats 41 = .ok (.iconst 4, 1) := by decide +kernel
theorem dX10_treats_42 : decode cX10_treats 42 = .ok (.if_icmp .eq 14, 3) := by decide +kernel
theorem dX10_treats_45 : decode cX10_treats 45 = .ok (.aload_n 0, 1) := by decide +kernel
theorem dX10_treats_46 : decode cX10_treats 46 = .ok (.iload 4, 2) := by decide +kernel
theorem dX10_treats_48 : decode cX10_treats 48 = .ok (.invokevirtual 116, 3) := by decide +kernel
theorem dX10_treats_51 : decode cX10_treats 51 = .ok (.ifCond .ne 5, 3) := by decide +kernel
theorem dX10_treats_54 : decode cX10_treats 54 = .ok (.iconst (-1), 1) := by decide +kernel
theorem dX10_treats_55 : decode cX10_treats 55 = .ok (.ireturn, 1) := by decide +kernel
theorem dX10_treats_56 : decode cX10_treats 56 = .ok (.aload_n 0, 1) := by decide +kernel
theorem dX10_treats_57 : decode cX10_treats 57 = .ok (.getfield 37, 3) := by decide +kernel
theorem dX10_treats_60 : decode cX10_treats 60 = .ok (.iload_n 1, 1) := by decide +kernel
theorem dX10_treats_61 : decode cX10_treats 61 = .ok (.aload_n 0, 1) := by decide +kernel
theorem dX10_treats_62 : decode cX10_treats 62 = .ok (.getfield 106, 3) := by decide +kernel
theorem dX10_treats_65 : decode cX10_treats 65 = .ok (.iload_n 2, 1) := by decide +kernel
theorem dX10_treats_66 : decode cX10_treats 66 = .ok (.iload_n 3, 1) := by decide +kernel
theorem dX10_treats_67 : decode cX10_treats 67 = .ok (.iload_n 1, 1) := by decide +kernel
theorem dX10_treats_68 : decode cX10_treats 68 = .ok (.iconst 4, 1) := by decide +kernel
theorem dX10_treats_69 : decode cX10_treats 69 = .ok (.if_icmp .ne 7, 3) := by decide +kernel
theorem dX10_treats_72 : decode cX10_treats 72 = .ok (.iconst (-1), 1) := by decide +kernel
theorem dX10_treats_73 : decode cX10_treats 73 = .ok (.goto 5, 3) := by decide +kernel
theorem dX10_treats_76 : decode cX10_treats 76 = .ok (.iload 4, 2) := by decide +kernel
theorem dX10_treats_78 : decode cX10_treats 78 = .ok (.iconst 0, 1) := by decide +kernel
theorem dX10_treats_79 : decode cX10_treats 79 = .ok (.invokevirtual 142, 3) := by decide +kernel
theorem dX10_treats_82 : decode cX10_treats 82 = .ok (.ireturn, 1) := by decide +kernel
theorem dX10_statute_0 : decode cX10_statute 0 = .ok (.aload_n 0, 1) := by decide +kernel
theorem dX10_statute_1 : decode cX10_statute 1 = .ok (.iload_n 1, 1) := by decide +kernel
theorem dX10_statute_2 : decode cX10_statute 2 = .ok (.invokevirtual 116, 3) := by decide +kernel
theorem dX10_statute_5 : decode cX10_statute 5 = .ok (.ifCond .eq 10, 3) := by decide +kernel
theorem dX10_statute_8 : decode cX10_statute 8 = .ok (.iload_n 2, 1) := by decide +kernel
theorem dX10_statute_9 : decode cX10_statute 9 = .ok (.invokestatic 102, 3) := by decide +kernel
theorem dX10_statute_12 : decode cX10_statute 12 = .ok (.ifCond .ne 5, 3) := by decide +kernel
theorem dX10_statute_15 : decode cX10_statute 15 = .ok (.iconst (-1), 1) := by decide +kernel
theorem dX10_statute_16 : decode cX10_statute 16 = .ok (.ireturn, 1) := by decide +kernel
theorem dX10_statute_17 : decode cX10_statute 17 = .ok (.aload_n 0, 1) := by decide +kernel
theorem dX10_statute_18 : decode cX10_statute 18 = .ok (.getfield 37, 3) := by decide +kernel
theorem dX10_statute_21 : decode cX10_statute 21 = .ok (.iload_n 3, 1) := by decide +kernel
theorem dX10_statute_22 : decode cX10_statute 22 = .ok (.ifCond .eq 8, 3) := by decide +kernel
theorem dX10_statute_25 : decode cX10_statute 25 = .ok (.bipush 6, 2) := by decide +kernel
theorem dX10_statute_27 : decode cX10_statute 27 = .ok (.goto 4, 3) := by decide +kernel
theorem dX10_statute_30 : decode cX10_statute 30 = .ok (.iconst 5, 1) := by decide +kernel
theorem dX10_statute_31 : decode cX10_statute 31 = .ok (.aload_n 0, 1) := by decide +kernel
theorem dX10_statute_32 : decode cX10_statute 32 = .ok (.getfield 106, 3) := by decide +kernel
theorem dX10_statute_35 : decode cX10_statute 35 = .ok (.iconst (-1), 1) := by decide +kernel
theorem dX10_statute_36 : decode cX10_statute 36 = .ok (.iconst (-1), 1) := by decide +kernel
theorem dX10_statute_37 : decode cX10_statute 37 = .ok (.iload_n 1, 1) := by decide +kernel
theorem dX10_statute_38 : decode cX10_statute 38 = .ok (.iload_n 2, 1) := by decide +kernel
theorem dX10_statute_39 : decode cX10_statute 39 = .ok (.invokevirtual 142, 3) := by decide +kernel
theorem dX10_statute_42 : decode cX10_statute 42 = .ok (.ireturn, 1) := by decide +kernel
theorem dX10_join_0 : decode cX10_join 0 = .ok (.aload_n 0, 1) := by decide +kernel
theorem dX10_join_1 : decode cX10_join 1 = .ok (.iload_n 1, 1) := by decide +kernel
theorem dX10_join_2 : decode cX10_join 2 = .ok (.invokevirtual 116, 3) := by decide +kernel
theorem dX10_join_5 : decode cX10_join 5 = .ok (.ifCond .eq 16, 3) := by decide +kernel
theorem dX10_join_8 : decode cX10_join 8 = .ok (.aload_n 0, 1) := by decide +kernel
theorem dX10_join_9 : decode cX10_join 9 = .ok (.iload_n 2, 1) := by decide +kernel
theorem dX10_join_10 : decode cX10_join 10 = .ok (.invokevirtual 116, 3) := by decide +kernel
theorem dX10_join_13 : decode cX10_join 13 = .ok (.ifCond .eq 8, 3) := by decide +kernel
theorem dX10_join_16 : decode cX10_join 16 = .ok (.iload_n 1, 1) := by decide +kernel
theorem dX10_join_17 : decode cX10_join 17 = .ok (.iload_n 2, 1) := by decide +kernel
theorem dX10_join_18 : decode cX10_join 18 = .ok (.if_icmp .ne 5, 3) := by decide +kernel
theorem dX10_join_21 : decode cX10_join 21 = .ok (.iconst (-1), 1) := by decide +kernel
theorem dX10_join_22 : decode cX10_join 22 = .ok (.ireturn, 1) := by decide +kernel
theorem dX10_join_23 : decode cX10_join 23 = .ok (.aload_n 0, 1) := by decide +kernel
theorem dX10_join_24 : decode cX10_join 24 = .ok (.getfield 37, 3) := by decide +kernel
theorem dX10_join_27 : decode cX10_join 27 = .ok (.bipush 7, 2) := by decide +kernel
theorem dX10_join_29 : decode cX10_join 29 = .ok (.aload_n 0, 1) := by decide +kernel
theorem dX10_join_30 : decode cX10_join 30 = .ok (.getfield 106, 3) := by decide +kernel
theorem dX10_join_33 : decode cX10_join 33 = .ok (.iconst (-1), 1) := by decide +kernel
theorem dX10_join_34 : decode cX10_join 34 = .ok (.iload_n 2, 1) := by decide +kernel
theorem dX10_join_35 : decode cX10_join 35 = .ok (.iload_n 1, 1) := by decide +kernel
theorem dX10_join_36 : decode cX10_join 36 = .ok (.iconst 0, 1) := by decide +kernel
theorem dX10_join_37 : decode cX10_join 37 = .ok (.invokevirtual 142, 3) := by decide +kernel
theorem dX10_join_40 : decode cX10_join 40 = .ok (.ireturn, 1) := by decide +kernel
theorem dX10_strike_0 : decode cX10_strike 0 = .ok (.iload_n 1, 1) := by decide +kernel
theorem dX10_strike_1 : decode cX10_strike 1 = .ok (.ifCond .lt 14, 3) := by decide +kernel
theorem dX10_strike_4 : decode cX10_strike 4 = .ok (.iload_n 1, 1) := by decide +kernel
theorem dX10_strike_5 : decode cX10_strike 5 = .ok (.aload_n 0, 1) := by decide +kernel
theorem dX10_strike_6 : decode cX10_strike 6 = .ok (.getfield 37, 3) := by decide +kernel
theorem dX10_strike_9 : decode cX10_strike 9 = .ok (.getfield 148, 3) := by decide +kernel
theorem dX10_strike_12 : decode cX10_strike 12 = .ok (.if_icmp .lt 5, 3) := by decide +kernel
theorem dX10_strike_15 : decode cX10_strike 15 = .ok (.iconst (-1), 1) := by decide +kernel
theorem dX10_strike_16 : decode cX10_strike 16 = .ok (.ireturn, 1) := by decide +kernel
theorem dX10_strike_17 : decode cX10_strike 17 = .ok (.aload_n 0, 1) := by decide +kernel
theorem dX10_strike_18 : decode cX10_strike 18 = .ok (.getfield 37, 3) := by decide +kernel
theorem dX10_strike_21 : decode cX10_strike 21 = .ok (.bipush 8, 2) := by decide +kernel
theorem dX10_strike_23 : decode cX10_strike 23 = .ok (.aload_n 0, 1) := by decide +kernel
theorem dX10_strike_24 : decode cX10_strike 24 = .ok (.getfield 106, 3) := by decide +kernel
theorem dX10_strike_27 : decode cX10_strike 27 = .ok (.iconst (-1), 1) := by decide +kernel
theorem dX10_strike_28 : decode cX10_strike 28 = .ok (.iload_n 1, 1) := by decide +kernel
theorem dX10_strike_29 : decode cX10_strike 29 = .ok (.iconst (-1), 1) := by decide +kernel
theorem dX10_strike_30 : decode cX10_strike 30 = .ok (.iconst 0, 1) := by decide +kernel
theorem dX10_strike_31 : decode cX10_strike 31 = .ok (.invokevirtual 142, 3) := by decide +kernel
theorem dX10_strike_34 : decode cX10_strike 34 = .ok (.ireturn, 1) := by decide +kernel
theorem dX10_stand_0 : decode cX10_stand 0 = .ok (.aload_n 0, 1) := by decide +kernel
theorem dX10_stand_1 : decode cX10_stand 1 = .ok (.iload_n 1, 1) := by decide +kernel
theorem dX10_stand_2 : decode cX10_stand 2 = .ok (.invokevirtual 116, 3) := by decide +kernel
theorem dX10_stand_5 : decode cX10_stand 5 = .ok (.ifCond .eq 16, 3) := by decide +kernel
theorem dX10_stand_8 : decode cX10_stand 8 = .ok (.aload_n 0, 1) := by decide +kernel
theorem dX10_stand_9 : decode cX10_stand 9 = .ok (.iload_n 2, 1) := by decide +kernel
theorem dX10_stand_10 : decode cX10_stand 10 = .ok (.iload_n 3, 1) := by decide +kernel
theorem dX10_stand_11 : decode cX10_stand 11 = .ok (.iload 4, 2) := by decide +kernel
theorem dX10_stand_13 : decode cX10_stand 13 = .ok (.iload 5, 2) := by decide +kernel
theorem dX10_stand_15 : decode cX10_stand 15 = .ok (.invokevirtual 149, 3) := by decide +kernel
theorem dX10_stand_18 : decode cX10_stand 18 = .ok (.ifCond .ne 5, 3) := by decide +kernel
theorem dX10_stand_21 : decode cX10_stand 21 = .ok (.iconst (-1), 1) := by decide +kernel
theorem dX10_stand_22 : decode cX10_stand 22 = .ok (.ireturn, 1) := by decide +kernel
theorem dX10_stand_23 : decode cX10_stand 23 = .ok (.aload_n 0, 1) := by decide +kernel
theorem dX10_stand_24 : decode cX10_stand 24 = .ok (.getfield 70, 3) := by decide +kernel
theorem dX10_stand_27 : decode cX10_stand 27 = .ok (.aload_n 0, 1) := by decide +kernel
theorem dX10_stand_28 : decode cX10_stand 28 = .ok (.getfield 44, 3) := by decide +kernel
theorem dX10_stand_31 : decode cX10_stand 31 = .ok (.iload 5, 2) := by decide +kernel
theorem dX10_stand_33 : decode cX10_stand 33 = .ok (.iconst (-1), 1) := by decide +kernel
theorem dX10_stand_34 : decode cX10_stand 34 = .ok (.invokevirtual 153, 3) := by decide +kernel
theorem dX10_stand_37 : decode cX10_stand 37 = .ok (.aload_n 0, 1) := by decide +kernel
theorem dX10_stand_38 : decode cX10_stand 38 = .ok (.getfield 70, 3) := by decide +kernel
theorem dX10_stand_41 : decode cX10_stand 41 = .ok (.iload 4, 2) := by decide +kernel
theorem dX10_stand_43 : decode cX10_stand 43 = .ok (.invokevirtual 157, 3) := by decide +kernel
theorem dX10_stand_46 : decode cX10_stand 46 = .ok (.aload_n 0, 1) := by decide +kernel
theorem dX10_stand_47 : decode cX10_stand 47 = .ok (.getfield 70, 3) := by decide +kernel
theorem dX10_stand_50 : decode cX10_stand 50 = .ok (.aload_n 0, 1) := by decide +kernel
theorem dX10_stand_51 : decode cX10_stand 51 = .ok (.getfield 70, 3) := by decide +kernel
theorem dX10_stand_54 : decode cX10_stand 54 = .ok (.getfield 160, 3) := by decide +kernel
theorem dX10_stand_57 : decode cX10_stand 57 = .ok (.getfield 164, 3) := by decide +kernel
theorem dX10_stand_60 : decode cX10_stand 60 = .ok (.iload_n 1, 1) := by decide +kernel
theorem dX10_stand_61 : decode cX10_stand 61 = .ok (.iaload, 1) := by decide +kernel
theorem dX10_stand_62 : decode cX10_stand 62 = .ok (.iload_n 2, 1) := by decide +kernel
theorem dX10_stand_63 : decode cX10_stand 63 = .ok (.iload_n 3, 1) := by decide +kernel
theorem dX10_stand_64 : decode cX10_stand 64 = .ok (.invokevirtual 167, 3) := by decide +kernel
theorem dX10_stand_67 : decode cX10_stand 67 = .ok (.ireturn, 1) := by decide +kernel
theorem dX10_lead_0 : decode cX10_lead 0 = .ok (.aload_n 0, 1) := by decide +kernel
theorem dX10_lead_1 : decode cX10_lead 1 = .ok (.iload_n 1, 1) := by decide +kernel
theorem dX10_lead_2 : decode cX10_lead 2 = .ok (.invokevirtual 116, 3) := by decide +kernel
theorem dX10_lead_5 : decode cX10_lead 5 = .ok (.ifCond .eq 16, 3) := by decide +kernel
theorem dX10_lead_8 : decode cX10_lead 8 = .ok (.aload_n 0, 1) := by decide +kernel
theorem dX10_lead_9 : decode cX10_lead 9 = .ok (.iload_n 2, 1) := by decide +kernel
theorem dX10_lead_10 : decode cX10_lead 10 = .ok (.iload_n 3, 1) := by decide +kernel
theorem dX10_lead_11 : decode cX10_lead 11 = .ok (.iload 4, 2) := by decide +kernel
theorem dX10_lead_13 : decode cX10_lead 13 = .ok (.iload 5, 2) := by decide +kernel
theorem dX10_lead_15 : decode cX10_lead 15 = .ok (.invokevirtual 149, 3) := by decide +kernel
theorem dX10_lead_18 : decode cX10_lead 18 = .ok (.ifCond .ne 5, 3) := by decide +kernel
theorem dX10_lead_21 : decode cX10_lead 21 = .ok (.iconst (-1), 1) := by decide +kernel
theorem dX10_lead_22 : decode cX10_lead 22 = .ok (.ireturn, 1) := by decide +kernel
theorem dX10_lead_23 : decode cX10_lead 23 = .ok (.aload_n 0, 1) := by decide +kernel
theorem dX10_lead_24 : decode cX10_lead 24 = .ok (.getfield 70, 3) := by decide +kernel
theorem dX10_lead_27 : decode cX10_lead 27 = .ok (.aload_n 0, 1) := by decide +kernel
theorem dX10_lead_28 : decode cX10_lead 28 = .ok (.getfield 44, 3) := by decide +kernel
theorem dX10_lead_31 : decode cX10_lead 31 = .ok (.iload 5, 2) := by decide +kernel
theorem dX10_lead_33 : decode cX10_lead 33 = .ok (.iconst (-1), 1) := by decide +kernel
theorem dX10_lead_34 : decode cX10_lead 34 = .ok (.invokevirtual 153, 3) := by decide +kernel
theorem dX10_lead_37 : decode cX10_lead 37 = .ok (.aload_n 0, 1) := by decide +kernel
theorem dX10_lead_38 : decode cX10_lead 38 = .ok (.getfield 70, 3) := by decide +kernel
theorem dX10_lead_41 : decode cX10_lead 41 = .ok (.iload 4, 2) := by decide +kernel
theorem dX10_lead_43 : decode cX10_lead 43 = .ok (.invokevirtual 157, 3) := by decide +kernel
theorem dX10_lead_46 : decode cX10_lead 46 = .ok (.aload_n 0, 1) := by decide +kernel
theorem dX10_lead_47 : decode cX10_lead 47 = .ok (.getfield 70, 3) := by decide +kernel
theorem dX10_lead_50 : decode cX10_lead 50 = .ok (.aload_n 0, 1) := by decide +kernel
theorem dX10_lead_51 : decode cX10_lead 51 = .ok (.getfield 70, 3) := by decide +kernel
theorem dX10_lead_54 : decode cX10_lead 54 = .ok (.getfield 160, 3) := by decide +kernel
theorem dX10_lead_57 : decode cX10_lead 57 = .ok (.getfield 164, 3) := by decide +kernel
theorem dX10_lead_60 : decode cX10_lead 60 = .ok (.iload_n 1, 1) := by decide +kernel
theorem dX10_lead_61 : decode cX10_lead 61 = .ok (.iaload, 1) := by decide +kernel
theorem dX10_lead_62 : decode cX10_lead 62 = .ok (.iload_n 2, 1) := by decide +kernel
theorem dX10_lead_63 : decode cX10_lead 63 = .ok (.iload_n 3, 1) := by decide +kernel
theorem dX10_lead_64 : decode cX10_lead 64 = .ok (.invokevirtual 171, 3) := by decide +kernel
theorem dX10_lead_67 : decode cX10_lead 67 = .ok (.ireturn, 1) := by decide +kernel
theorem dX10_asked_0 : decode cX10_asked 0 = .ok (.aload_n 0, 1) := by decide +kernel
theorem dX10_asked_1 : decode cX10_asked 1 = .ok (.iload_n 1, 1) := by decide +kernel
theorem dX10_asked_2 : decode cX10_asked 2 = .ok (.invokevirtual 136, 3) := by decide +kernel
theorem dX10_asked_5 : decode cX10_asked 5 = .ok (.ifCond .eq 37, 3) := by decide +kernel
theorem dX10_asked_8 : decode cX10_asked 8 = .ok (.aload_n 0, 1) := by decide +kernel
theorem dX10_asked_9 : decode cX10_asked 9 = .ok (.iload_n 2, 1) := by decide +kernel
theorem dX10_asked_10 : decode cX10_asked 10 = .ok (.invokevirtual 116, 3) := by decide +kernel
theorem dX10_asked_13 : decode cX10_asked 13 = .ok (.ifCond .eq 29, 3) := by decide +kernel
theorem dX10_asked_16 : decode cX10_asked 16 = .ok (.iload_n 3, 1) := by decide +kernel
theorem dX10_asked_17 : decode cX10_asked 17 = .ok (.ifCond .lt 25, 3) := by decide +kernel
theorem dX10_asked_20 : decode cX10_asked 20 = .ok (.iload_n 3, 1) := by decide +kernel
theorem dX10_asked_21 : decode cX10_asked 21 = .ok (.bipush 6, 2) := by decide +kernel
theorem dX10_asked_23 : decode cX10_asked 23 = .ok (.if_icmp .gt 19, 3) := by decide +kernel
theorem dX10_asked_26 : decode cX10_asked 26 = .ok (.iload 4, 2) := by decide +kernel
theorem dX10_asked_28 : decode cX10_asked 28 = .ok (.invokestatic 102, 3) := by decide +kernel
theorem dX10_asked_31 : decode cX10_asked 31 = .ok (.ifCond .eq 11, 3) := by decide +kernel
theorem dX10_asked_34 : decode cX10_asked 34 = .ok (.iload 5, 2) := by decide +kernel
theorem dX10_asked_36 : decode cX10_asked 36 = .ok (.invokestatic 102, 3) := by decide +kernel
theorem dX10_asked_39 : decode cX10_asked 39 = .ok (.ifCond .ne 5, 3) := by decide +kernel
theorem dX10_asked_42 : decode cX10_asked 42 = .ok (.iconst (-1), 1) := by decide +kernel
theorem dX10_asked_43 : decode cX10_asked 43 = .ok (.ireturn, 1) := by decide +kernel
theorem dX10_asked_44 : decode cX10_asked 44 = .ok (.aload_n 0, 1) := by decide +kernel
theorem dX10_asked_45 : decode cX10_asked 45 = .ok (.getfield 70, 3) := by decide +kernel
theorem dX10_asked_48 : decode cX10_asked 48 = .ok (.aload_n 0, 1) := by decide +kernel
theorem dX10_asked_49 : decode cX10_asked 49 = .ok (.getfield 44, 3) := by decide +kernel
theorem dX10_asked_52 : decode cX10_asked 52 = .ok (.iload 5, 2) := by decide +kernel
theorem dX10_asked_54 : decode cX10_asked 54 = .ok (.iconst (-1), 1) := by decide +kernel
theorem dX10_asked_55 : decode cX10_asked 55 = .ok (.invokevirtual 153, 3) := by decide +kernel
theorem dX10_asked_58 : decode cX10_asked 58 = .ok (.aload_n 0, 1) := by decide +kernel
theorem dX10_asked_59 : decode cX10_asked 59 = .ok (.getfield 70, 3) := by decide +kernel
theorem dX10_asked_62 : decode cX10_asked 62 = .ok (.iload 4, 2) := by decide +kernel
theorem dX10_asked_64 : decode cX10_asked 64 = .ok (.invokevirtual 157, 3) := by decide +kernel
theorem dX10_asked_67 : decode cX10_asked 67 = .ok (.aload_n 0, 1) := by decide +kernel
theorem dX10_asked_68 : decode cX10_asked 68 = .ok (.getfield 70, 3) := by decide +kernel
theorem dX10_asked_71 : decode cX10_asked 71 = .ok (.iload_n 1, 1) := by decide +kernel
theorem dX10_asked_72 : decode cX10_asked 72 = .ok (.invokevirtual 174, 3) := by decide +kernel
theorem dX10_asked_75 : decode cX10_asked 75 = .ok (.ifCond .ne 5, 3) := by decide +kernel
theorem dX10_asked_78 : decode cX10_asked 78 = .ok (.iconst (-1), 1) := by decide +kernel
theorem dX10_asked_79 : decode cX10_asked 79 = .ok (.ireturn, 1) := by decide +kernel
theorem dX10_asked_80 : decode cX10_asked 80 = .ok (.aload_n 0, 1) := by decide +kernel
theorem dX10_asked_81 : decode cX10_asked 81 = .ok (.iload_n 1, 1) := by decide +kernel
theorem dX10_asked_82 : decode cX10_asked 82 = .ok (.aload_n 0, 1) := by decide +kernel
theorem dX10_asked_83 : decode cX10_asked 83 = .ok (.getfield 70, 3) := by decide +kernel
theorem dX10_asked_86 : decode cX10_asked 86 = .ok (.getfield 160, 3) := by decide +kernel
theorem dX10_asked_89 : decode cX10_asked 89 = .ok (.getfield 164, 3) := by decide +kernel
theorem dX10_asked_92 : decode cX10_asked 92 = .ok (.iload_n 2, 1) := by decide +kernel
theorem dX10_asked_93 : decode cX10_asked 93 = .ok (.iaload, 1) := by decide +kernel
theorem dX10_asked_94 : decode cX10_asked 94 = .ok (.iload_n 3, 1) := by decide +kernel
theorem dX10_asked_95 : decode cX10_asked 95 = .ok (.invokevirtual 177, 3) := by decide +kernel
theorem dX10_asked_98 : decode cX10_asked 98 = .ok (.ireturn, 1) := by decide +kernel
theorem dX10_binds_0 : decode cX10_binds 0 = .ok (.aload_n 0, 1) := by decide +kernel
theorem dX10_binds_1 : decode cX10_binds 1 = .ok (.iload_n 1, 1) := by decide +kernel
theorem dX10_binds_2 : decode cX10_binds 2 = .ok (.invokevirtual 136, 3) := by decide +kernel
theorem dX10_binds_5 : decode cX10_binds 5 = .ok (.ifCond .eq 25, 3) := by decide +kernel
theorem dX10_binds_8 : decode cX10_binds 8 = .ok (.aload_n 0, 1) := by decide +kernel
theorem dX10_binds_9 : decode cX10_binds 9 = .ok (.iload_n 2, 1) := by decide +kernel
theorem dX10_binds_10 : decode cX10_binds 10 = .ok (.invokevirtual 116, 3) := by decide +kernel
theorem dX10_binds_13 : decode cX10_binds 13 = .ok (.ifCond .eq 17, 3) := by decide +kernel
theorem dX10_binds_16 : decode cX10_binds 16 = .ok (.aload_n 0, 1) := by decide +kernel
theorem dX10_binds_17 : decode cX10_binds 17 = .ok (.iload_n 3, 1) := by decide +kernel
theorem dX10_binds_18 : decode cX10_binds 18 = .ok (.iload 4, 2) := by decide +kernel
theorem dX10_binds_20 : decode cX10_binds 20 = .ok (.iload 5, 2) := by decide +kernel
theorem dX10_binds_22 : decode cX10_binds 22 = .ok (.iload 6, 2) := by decide +kernel
theorem dX10_binds_24 : decode cX10_binds 24 = .ok (.invokevirtual 149, 3) := by decide +kernel
theorem dX10_binds_27 : decode cX10_binds 27 = .ok (.ifCond .ne 5, 3) := by decide +kernel
theorem dX10_binds_30 : decode cX10_binds 30 = .ok (.iconst (-1), 1) := by decide +kernel
theorem dX10_binds_31 : decode cX10_binds 31 = .ok (.ireturn, 1) := by decide +kernel
theorem dX10_binds_32 : decode cX10_binds 32 = .ok (.aload_n 0, 1) := by decide +kernel
theorem dX10_binds_33 : decode cX10_binds 33 = .ok (.getfield 70, 3) := by decide +kernel
theorem dX10_binds_36 : decode cX10_binds 36 = .ok (.aload_n 0, 1) := by decide +kernel
theorem dX10_binds_37 : decode cX10_binds 37 = .ok (.getfield 44, 3) := by decide +kernel
theorem dX10_binds_40 : decode cX10_binds 40 = .ok (.iload 6, 2) := by decide +kernel
theorem dX10_binds_42 : decode cX10_binds 42 = .ok (.iconst (-1), 1) := by decide +kernel
theorem dX10_binds_43 : decode cX10_binds 43 = .ok (.invokevirtual 153, 3) := by decide +kernel
theorem dX10_binds_46 : decode cX10_binds 46 = .ok (.aload_n 0, 1) := by decide +kernel
theorem dX10_binds_47 : decode cX10_binds 47 = .ok (.getfield 70, 3) := by decide +kernel
theorem dX10_binds_50 : decode cX10_binds 50 = .ok (.iload 5, 2) := by decide +kernel
theorem dX10_binds_52 : decode cX10_binds 52 = .ok (.invokevirtual 157, 3) := by decide +kernel
theorem dX10_binds_55 : decode cX10_binds 55 = .ok (.aload_n 0, 1) := by decide +kernel
theorem dX10_binds_56 : decode cX10_binds 56 = .ok (.getfield 70, 3) := by decide +kernel
theorem dX10_binds_59 : decode cX10_binds 59 = .ok (.iload_n 1, 1) := by decide +kernel
theorem dX10_binds_60 : decode cX10_binds 60 = .ok (.invokevirtual 174, 3) := by decide +kernel
theorem dX10_binds_63 : decode cX10_binds 63 = .ok (.ifCond .ne 5, 3) := by decide +kernel
theorem dX10_binds_66 : decode cX10_binds 66 = .ok (.iconst (-1), 1) := by decide +kernel
theorem dX10_binds_67 : decode cX10_binds 67 = .ok (.ireturn, 1) := by decide +kernel
theorem dX10_binds_68 : decode cX10_binds 68 = .ok (.aload_n 0, 1) := by decide +kernel
theorem dX10_binds_69 : decode cX10_binds 69 = .ok (.getfield 70, 3) := by decide +kernel
theorem dX10_binds_72 : decode cX10_binds 72 = .ok (.iload_n 1, 1) := by decide +kernel
theorem dX10_binds_73 : decode cX10_binds 73 = .ok (.aload_n 0, 1) := by decide +kernel
theorem dX10_binds_74 : decode cX10_binds 74 = .ok (.getfield 70, 3) := by decide +kernel
theorem dX10_binds_77 : decode cX10_binds 77 = .ok (.getfield 160, 3) := by decide +kernel
theorem dX10_binds_80 : decode cX10_binds 80 = .ok (.getfield 164, 3) := by decide +kernel
theorem dX10_binds_83 : decode cX10_binds 83 = .ok (.iload_n 2, 1) := by decide +kernel
theorem dX10_binds_84 : decode cX10_binds 84 = .ok (.iaload, 1) := by decide +kernel
theorem dX10_binds_85 : decode cX10_binds 85 = .ok (.iload_n 3, 1) := by decide +kernel
theorem dX10_binds_86 : decode cX10_binds 86 = .ok (.iload 4, 2) := by decide +kernel
theorem dX10_binds_88 : decode cX10_binds 88 = .ok (.invokevirtual 180, 3) := by decide +kernel
theorem dX10_binds_91 : decode cX10_binds 91 = .ok (.invokestatic 183, 3) := by decide +kernel
theorem dX10_binds_94 : decode cX10_binds 94 = .ok (.ireturn, 1) := by decide +kernel
theorem dX10_quarrel_0 : decode cX10_quarrel 0 = .ok (.aload_n 0, 1) := by decide +kernel
theorem dX10_quarrel_1 : decode cX10_quarrel 1 = .ok (.iload_n 1, 1) := by decide +kernel
theorem dX10_quarrel_2 : decode cX10_quarrel 2 = .ok (.iload_n 2, 1) := by decide +kernel
theorem dX10_quarrel_3 : decode cX10_quarrel 3 = .ok (.iload_n 3, 1) := by decide +kernel
theorem dX10_quarrel_4 : decode cX10_quarrel 4 = .ok (.iload 4, 2) := by decide +kernel
theorem dX10_quarrel_6 : decode cX10_quarrel 6 = .ok (.invokevirtual 149, 3) := by decide +kernel
theorem dX10_quarrel_9 : decode cX10_quarrel 9 = .ok (.ifCond .ne 5, 3) := by decide +kernel
theorem dX10_quarrel_12 : decode cX10_quarrel 12 = .ok (.iconst (-1), 1) := by decide +kernel
theorem dX10_quarrel_13 : decode cX10_quarrel 13 = .ok (.ireturn, 1) := by decide +kernel
theorem dX10_quarrel_14 : decode cX10_quarrel 14 = .ok (.aload_n 0, 1) := by decide +kernel
theorem dX10_quarrel_15 : decode cX10_quarrel 15 = .ok (.getfield 70, 3) := by decide +kernel
theorem dX10_quarrel_18 : decode cX10_quarrel 18 = .ok (.aload_n 0, 1) := by decide +kernel
theorem dX10_quarrel_19 : decode cX10_quarrel 19 = .ok (.getfield 44, 3) := by decide +kernel
theorem dX10_quarrel_22 : decode cX10_quarrel 22 = .ok (.iload 4, 2) := by decide +kernel
theorem dX10_quarrel_24 : decode cX10_quarrel 24 = .ok (.iconst (-1), 1) := by decide +kernel
theorem dX10_quarrel_25 : decode cX10_quarrel 25 = .ok (.invokevirtual 153, 3) := by decide +kernel
theorem dX10_quarrel_28 : decode cX10_quarrel 28 = .ok (.aload_n 0, 1) := by decide +kernel
theorem dX10_quarrel_29 : decode cX10_quarrel 29 = .ok (.getfield 70, 3) := by decide +kernel
theorem dX10_quarrel_32 : decode cX10_quarrel 32 = .ok (.iload_n 3, 1) := by decide +kernel
theorem dX10_quarrel_33 : decode cX10_quarrel 33 = .ok (.invokevirtual 157, 3) := by decide +kernel
theorem dX10_quarrel_36 : decode cX10_quarrel 36 = .ok (.iconst 0, 1) := by decide +kernel
theorem dX10_quarrel_37 : decode cX10_quarrel 37 = .ok (.istore 5, 2) := by decide +kernel
theorem dX10_quarrel_39 : decode cX10_quarrel 39 = .ok (.iconst 0, 1) := by decide +kernel
theorem dX10_quarrel_40 : decode cX10_quarrel 40 = .ok (.istore 6, 2) := by decide +kernel
theorem dX10_quarrel_42 : decode cX10_quarrel 42 = .ok (.iload 6, 2) := by decide +kernel
theorem dX10_quarrel_44 : decode cX10_quarrel 44 = .ok (.aload_n 0, 1) := by decide +kernel
theorem dX10_quarrel_45 : decode cX10_quarrel 45 = .ok (.getfield 23, 3) := by decide +kernel
theorem dX10_quarrel_48 : decode cX10_quarrel 48 = .ok (.getfield 113, 3) := by decide +kernel
theorem dX10_quarrel_51 : decode cX10_quarrel 51 = .ok (.if_icmp .ge 51, 3) := by decide +kernel
theorem dX10_quarrel_54 : decode cX10_quarrel 54 = .ok (.aload_n 0, 1) := by decide +kernel
theorem dX10_quarrel_55 : decode cX10_quarrel 55 = .ok (.getfield 70, 3) := by decide +kernel
theorem dX10_quarrel_58 : decode cX10_quarrel 58 = .ok (.getfield 160, 3) := by decide +kernel
theorem dX10_quarrel_61 : decode cX10_quarrel 61 = .ok (.getfield 164, 3) := by decide +kernel
theorem dX10_quarrel_64 : decode cX10_quarrel 64 = .ok (.iload 6, 2) := by decide +kernel
theorem dX10_quarrel_66 : decode cX10_quarrel 66 = .ok (.iaload, 1) := by decide +kernel
theorem dX10_quarrel_67 : decode cX10_quarrel 67 = .ok (.iload 6, 2) := by decide +kernel
theorem dX10_quarrel_69 : decode cX10_quarrel 69 = .ok (.if_icmp .ne 27, 3) := by decide +kernel
theorem dX10_quarrel_72 : decode cX10_quarrel 72 = .ok (.aload_n 0, 1) := by decide +kernel
theorem dX10_quarrel_73 : decode cX10_quarrel 73 = .ok (.getfield 70, 3) := by decide +kernel
theorem dX10_quarrel_76 : decode cX10_quarrel 76 = .ok (.iload 6, 2) := by decide +kernel
theorem dX10_quarrel_78 : decode cX10_quarrel 78 = .ok (.iload_n 1, 1) := by decide +kernel
theorem dX10_quarrel_79 : decode cX10_quarrel 79 = .ok (.iload_n 2, 1) := by decide +kernel
theorem dX10_quarrel_80 : decode cX10_quarrel 80 = .ok (.invokevirtual 167, 3) := by decide +kernel
theorem dX10_quarrel_83 : decode cX10_quarrel 83 = .ok (.iconst 3, 1) := by decide +kernel
theorem dX10_quarrel_84 : decode cX10_quarrel 84 = .ok (.if_icmp .lt 12, 3) := by decide +kernel
theorem dX10_quarrel_87 : decode cX10_quarrel 87 = .ok (.iload 5, 2) := by decide +kernel
theorem dX10_quarrel_89 : decode cX10_quarrel 89 = .ok (.iconst 1, 1) := by decide +kernel
theorem dX10_quarrel_90 : decode cX10_quarrel 90 = .ok (.iload 6, 2) := by decide +kernel
theorem dX10_quarrel_92 : decode cX10_quarrel 92 = .ok (.ishl, 1) := by decide +kernel
theorem dX10_quarrel_93 : decode cX10_quarrel 93 = .ok (.ior, 1) := by decide +kernel
theorem dX10_quarrel_94 : decode cX10_quarrel 94 = .ok (.istore 5, 2) := by decide +kernel
theorem dX10_quarrel_96 : decode cX10_quarrel 96 = .ok (.iinc 6 1, 3) := by decide +kernel
theorem dX10_quarrel_99 : decode cX10_quarrel 99 = .ok (.goto (-57), 3) := by decide +kernel
theorem dX10_quarrel_102 : decode cX10_quarrel 102 = .ok (.aload_n 0, 1) := by decide +kernel
theorem dX10_quarrel_103 : decode cX10_quarrel 103 = .ok (.iload 5, 2) := by decide +kernel
theorem dX10_quarrel_105 : decode cX10_quarrel 105 = .ok (.invokevirtual 187, 3) := by decide +kernel
theorem dX10_quarrel_108 : decode cX10_quarrel 108 = .ok (.ireturn, 1) := by decide +kernel
theorem dX10_forgotten_0 : decode cX10_forgotten 0 = .ok (.aload_n 0, 1) := by decide +kernel
theorem dX10_forgotten_1 : decode cX10_forgotten 1 = .ok (.iload_n 1, 1) := by decide +kernel
theorem dX10_forgotten_2 : decode cX10_forgotten 2 = .ok (.invokevirtual 136, 3) := by decide +kernel
theorem dX10_forgotten_5 : decode cX10_forgotten 5 = .ok (.ifCond .eq 10, 3) := by decide +kernel
theorem dX10_forgotten_8 : decode cX10_forgotten 8 = .ok (.iload_n 2, 1) := by decide +kernel
theorem dX10_forgotten_9 : decode cX10_forgotten 9 = .ok (.invokestatic 102, 3) := by decide +kernel
theorem dX10_forgotten_12 : decode cX10_forgotten 12 = .ok (.ifCond .ne 5, 3) := by decide +kernel
theorem dX10_forgotten_15 : decode cX10_forgotten 15 = .ok (.iconst 0, 1) := by decide +kernel
theorem dX10_forgotten_16 : decode cX10_forgotten 16 = .ok (.ireturn, 1) := by decide +kernel
theorem dX10_forgotten_17 : decode cX10_forgotten 17 = .ok (.aload_n 0, 1) := by decide +kernel
theorem dX10_forgotten_18 : decode cX10_forgotten 18 = .ok (.getfield 70, 3) := by decide +kernel
theorem dX10_forgotten_21 : decode cX10_forgotten 21 = .ok (.aload_n 0, 1) := by decide +kernel
theorem dX10_forgotten_22 : decode cX10_forgotten 22 = .ok (.getfield 44, 3) := by decide +kernel
theorem dX10_forgotten_25 : decode cX10_forgotten 25 = .ok (.iload_n 2, 1) := by decide +kernel
theorem dX10_forgotten_26 : decode cX10_forgotten 26 = .ok (.iconst (-1), 1) := by decide +kernel
theorem dX10_forgotten_27 : decode cX10_forgotten 27 = .ok (.invokevirtual 153, 3) := by decide +kernel
theorem dX10_forgotten_30 : decode cX10_forgotten 30 = .ok (.aload_n 0, 1) := by decide +kernel
theorem dX10_forgotten_31 : decode cX10_forgotten 31 = .ok (.getfield 70, 3) := by decide +kernel
theorem dX10_forgotten_34 : decode cX10_forgotten 34 = .ok (.getfield 160, 3) := by decide +kernel
theorem dX10_forgotten_37 : decode cX10_forgotten 37 = .ok (.iload_n 1, 1) := by decide +kernel
theorem dX10_forgotten_38 : decode cX10_forgotten 38 = .ok (.invokevirtual 191, 3) := by decide +kernel
theorem dX10_forgotten_41 : decode cX10_forgotten 41 = .ok (.ifCond .eq 15, 3) := by decide +kernel
theorem dX10_forgotten_44 : decode cX10_forgotten 44 = .ok (.aload_n 0, 1) := by decide +kernel
theorem dX10_forgotten_45 : decode cX10_forgotten 45 = .ok (.getfield 70, 3) := by decide +kernel
theorem dX10_forgotten_48 : decode cX10_forgotten 48 = .ok (.getfield 194, 3) := by decide +kernel
theorem dX10_forgotten_51 : decode cX10_forgotten 51 = .ok (.iload_n 1, 1) := by decide +kernel
theorem dX10_forgotten_52 : decode cX10_forgotten 52 = .ok (.iaload, 1) := by decide +kernel
theorem dX10_forgotten_53 : decode cX10_forgotten 53 = .ok (.goto 4, 3) := by decide +kernel
theorem dX10_forgotten_56 : decode cX10_forgotten 56 = .ok (.iconst 0, 1) := by decide +kernel
theorem dX10_forgotten_57 : decode cX10_forgotten 57 = .ok (.ireturn, 1) := by decide +kernel
theorem dX10_apart_0 : decode cX10_apart 0 = .ok (.aload_n 0, 1) := by decide +kernel
theorem dX10_apart_1 : decode cX10_apart 1 = .ok (.iload_n 1, 1) := by decide +kernel
theorem dX10_apart_2 : decode cX10_apart 2 = .ok (.invokevirtual 116, 3) := by decide +kernel
theorem dX10_apart_5 : decode cX10_apart 5 = .ok (.ifCond .eq 26, 3) := by decide +kernel
theorem dX10_apart_8 : decode cX10_apart 8 = .ok (.aload_n 0, 1) := by decide +kernel
theorem dX10_apart_9 : decode cX10_apart 9 = .ok (.iload_n 2, 1) := by decide +kernel
theorem dX10_apart_10 : decode cX10_apart 10 = .ok (.invokevirtual 116, 3) := by decide +kernel
theorem dX10_apart_13 : decode cX10_apart 13 = .ok (.ifCond .eq 18, 3) := by decide +kernel
theorem dX10_apart_16 : decode cX10_apart 16 = .ok (.iload_n 3, 1) := by decide +kernel
theorem dX10_apart_17 : decode cX10_apart 17 = .ok (.invokestatic 102, 3) := by decide +kernel
theorem dX10_apart_20 : decode cX10_apart 20 = .ok (.ifCond .eq 11, 3) := by decide +kernel
theorem dX10_apart_23 : decode cX10_apart 23 = .ok (.iload 4, 2) := by decide +kernel
theorem dX10_apart_25 : decode cX10_apart 25 = .ok (.invokestatic 102, 3) := by decide +kernel
theorem dX10_apart_28 : decode cX10_apart 28 = .ok (.ifCond .ne 5, 3) := by decide +kernel
theorem dX10_apart_31 : decode cX10_apart 31 = .ok (.iconst (-1), 1) := by decide +kernel
theorem dX10_apart_32 : decode cX10_apart 32 = .ok (.ireturn, 1) := by decide +kernel
theorem dX10_apart_33 : decode cX10_apart 33 = .ok (.aload_n 0, 1) := by decide +kernel
theorem dX10_apart_34 : decode cX10_apart 34 = .ok (.getfield 70, 3) := by decide +kernel
theorem dX10_apart_37 : decode cX10_apart 37 = .ok (.aload_n 0, 1) := by decide +kernel
theorem dX10_apart_38 : decode cX10_apart 38 = .ok (.getfield 44, 3) := by decide +kernel
theorem dX10_apart_41 : decode cX10_apart 41 = .ok (.iload 4, 2) := by decide +kernel
theorem dX10_apart_43 : decode cX10_apart 43 = .ok (.iconst (-1), 1) := by decide +kernel
theorem dX10_apart_44 : decode cX10_apart 44 = .ok (.invokevirtual 153, 3) := by decide +kernel
theorem dX10_apart_47 : decode cX10_apart 47 = .ok (.aload_n 0, 1) := by decide +kernel
theorem dX10_apart_48 : decode cX10_apart 48 = .ok (.getfield 70, 3) := by decide +kernel
theorem dX10_apart_51 : decode cX10_apart 51 = .ok (.iload_n 3, 1) := by decide +kernel
theorem dX10_apart_52 : decode cX10_apart 52 = .ok (.invokevirtual 157, 3) := by decide +kernel
theorem dX10_apart_55 : decode cX10_apart 55 = .ok (.aload_n 0, 1) := by decide +kernel
theorem dX10_apart_56 : decode cX10_apart 56 = .ok (.aload_n 0, 1) := by decide +kernel
theorem dX10_apart_57 : decode cX10_apart 57 = .ok (.getfield 70, 3) := by decide +kernel
theorem dX10_apart_60 : decode cX10_apart 60 = .ok (.getfield 160, 3) := by decide +kernel
theorem dX10_apart_63 : decode cX10_apart 63 = .ok (.getfield 164, 3) := by decide +kernel
theorem dX10_apart_66 : decode cX10_apart 66 = .ok (.iload_n 1, 1) := by decide +kernel
theorem dX10_apart_67 : decode cX10_apart 67 = .ok (.iaload, 1) := by decide +kernel
theorem dX10_apart_68 : decode cX10_apart 68 = .ok (.aload_n 0, 1) := by decide +kernel
theorem dX10_apart_69 : decode cX10_apart 69 = .ok (.getfield 70, 3) := by decide +kernel
theorem dX10_apart_72 : decode cX10_apart 72 = .ok (.getfield 160, 3) := by decide +kernel
theorem dX10_apart_75 : decode cX10_apart 75 = .ok (.getfield 164, 3) := by decide +kernel
theorem dX10_apart_78 : decode cX10_apart 78 = .ok (.iload_n 2, 1) := by decide +kernel
theorem dX10_apart_79 : decode cX10_apart 79 = .ok (.iaload, 1) := by decide +kernel
theorem dX10_apart_80 : decode cX10_apart 80 = .ok (.invokevirtual 197, 3) := by decide +kernel
theorem dX10_apart_83 : decode cX10_apart 83 = .ok (.aload_n 0, 1) := by decide +kernel
theorem dX10_apart_84 : decode cX10_apart 84 = .ok (.invokevirtual 200, 3) := by decide +kernel
theorem dX10_apart_87 : decode cX10_apart 87 = .ok (.ireturn, 1) := by decide +kernel
theorem dX10_hangs_0 : decode cX10_hangs 0 = .ok (.aload_n 0, 1) := by decide +kernel
theorem dX10_hangs_1 : decode cX10_hangs 1 = .ok (.iload_n 1, 1) := by decide +kernel
theorem dX10_hangs_2 : decode cX10_hangs 2 = .ok (.invokevirtual 136, 3) := by decide +kernel
theorem dX10_hangs_5 : decode cX10_hangs 5 = .ok (.ifCond .eq 16, 3) := by decide +kernel
theorem dX10_hangs_8 : decode cX10_hangs 8 = .ok (.aload_n 0, 1) := by decide +kernel
theorem dX10_hangs_9 : decode cX10_hangs 9 = .ok (.iload_n 2, 1) := by decide +kernel
theorem dX10_hangs_10 : decode cX10_hangs 10 = .ok (.iload_n 3, 1) := by decide +kernel
theorem dX10_hangs_11 : decode cX10_hangs 11 = .ok (.iload 4, 2) := by decide +kernel
theorem dX10_hangs_13 : decode cX10_hangs 13 = .ok (.iload 5, 2) := by decide +kernel
theorem dX10_hangs_15 : decode cX10_hangs 15 = .ok (.invokevirtual 149, 3) := by decide +kernel
theorem dX10_hangs_18 : decode cX10_hangs 18 = .ok (.ifCond .ne 5, 3) := by decide +kernel
theorem dX10_hangs_21 : decode cX10_hangs 21 = .ok (.iconst (-1), 1) := by decide +kernel
theorem dX10_hangs_22 : decode cX10_hangs 22 = .ok (.ireturn, 1) := by decide +kernel
theorem dX10_hangs_23 : decode cX10_hangs 23 = .ok (.aload_n 0, 1) := by decide +kernel
theorem dX10_hangs_24 : decode cX10_hangs 24 = .ok (.getfield 70, 3) := by decide +kernel
theorem dX10_hangs_27 : decode cX10_hangs 27 = .ok (.aload_n 0, 1) := by decide +kernel
theorem dX10_hangs_28 : decode cX10_hangs 28 = .ok (.getfield 44, 3) := by decide +kernel
theorem dX10_hangs_31 : decode cX10_hangs 31 = .ok (.iload 5, 2) := by decide +kernel
theorem dX10_hangs_33 : decode cX10_hangs 33 = .ok (.iconst (-1), 1) := by decide +kernel
theorem dX10_hangs_34 : decode cX10_hangs 34 = .ok (.invokevirtual 153, 3) := by decide +kernel
theorem dX10_hangs_37 : decode cX10_hangs 37 = .ok (.aload_n 0, 1) := by decide +kernel
theorem dX10_hangs_38 : decode cX10_hangs 38 = .ok (.getfield 70, 3) := by decide +kernel
theorem dX10_hangs_41 : decode cX10_hangs 41 = .ok (.iload 4, 2) := by decide +kernel
theorem dX10_hangs_43 : decode cX10_hangs 43 = .ok (.invokevirtual 157, 3) := by decide +kernel
theorem dX10_hangs_46 : decode cX10_hangs 46 = .ok (.iconst 0, 1) := by decide +kernel
theorem dX10_hangs_47 : decode cX10_hangs 47 = .ok (.istore 6, 2) := by decide +kernel
theorem dX10_hangs_49 : decode cX10_hangs 49 = .ok (.iload 6, 2) := by decide +kernel
theorem dX10_hangs_51 : decode cX10_hangs 51 = .ok (.aload_n 0, 1) := by decide +kernel
theorem dX10_hangs_52 : decode cX10_hangs 52 = .ok (.getfield 23, 3) := by decide +kernel
theorem dX10_hangs_55 : decode cX10_hangs 55 = .ok (.getfield 113, 3) := by decide +kernel
theorem dX10_hangs_58 : decode cX10_hangs 58 = .ok (.if_icmp .ge 49, 3) := by decide +kernel
theorem dX10_hangs_61 : decode cX10_hangs 61 = .ok (.aload_n 0, 1) := by decide +kernel
theorem dX10_hangs_62 : decode cX10_hangs 62 = .ok (.getfield 74, 3) := by decide +kernel
theorem dX10_hangs_65 : decode cX10_hangs 65 = .ok (.iload 6, 2) := by decide +kernel
theorem dX10_hangs_67 : decode cX10_hangs 67 = .ok (.aload_n 0, 1) := by decide +kernel
theorem dX10_hangs_68 : decode cX10_hangs 68 = .ok (.getfield 70, 3) := by decide +kernel
theorem dX10_hangs_71 : decode cX10_hangs 71 = .ok (.getfield 160, 3) := by decide +kernel
theorem dX10_hangs_74 : decode cX10_hangs 74 = .ok (.getfield 164, 3) := by decide +kernel
theorem dX10_hangs_77 : decode cX10_hangs 77 = .ok (.iload 6, 2) := by decide +kernel
theorem dX10_hangs_79 : decode cX10_hangs 79 = .ok (.iaload, 1) := by decide +kernel
theorem dX10_hangs_80 : decode cX10_hangs 80 = .ok (.iload 6, 2) := by decide +kernel
theorem dX10_hangs_82 : decode cX10_hangs 82 = .ok (.if_icmp .ne 17, 3) := by decide +kernel
theorem dX10_hangs_85 : decode cX10_hangs 85 = .ok (.aload_n 0, 1) := by decide +kernel
theorem dX10_hangs_86 : decode cX10_hangs 86 = .ok (.getfield 70, 3) := by decide +kernel
theorem dX10_hangs_89 : decode cX10_hangs 89 = .ok (.iload 6, 2) := by decide +kernel
theorem dX10_hangs_91 : decode cX10_hangs 91 = .ok (.iload_n 2, 1) := by decide +kernel
theorem dX10_hangs_92 : decode cX10_hangs 92 = .ok (.iload_n 3, 1) := by decide +kernel
theorem dX10_hangs_93 : decode cX10_hangs 93 = .ok (.invokevirtual 167, 3) := by decide +kernel
theorem dX10_hangs_96 : decode cX10_hangs 96 = .ok (.goto 4, 3) := by decide +kernel
theorem dX10_hangs_99 : decode cX10_hangs 99 = .ok (.iconst 0, 1) := by decide +kernel
theorem dX10_hangs_100 : decode cX10_hangs 100 = .ok (.iastore, 1) := by decide +kernel
theorem dX10_hangs_101 : decode cX10_hangs 101 = .ok (.iinc 6 1, 3) := by decide +kernel
theorem dX10_hangs_104 : decode cX10_hangs 104 = .ok (.goto (-55), 3) := by decide +kernel
theorem dX10_hangs_107 : decode cX10_hangs 107 = .ok (.aload_n 0, 1) := by decide +kernel
theorem dX10_hangs_108 : decode cX10_hangs 108 = .ok (.getfield 70, 3) := by decide +kernel
theorem dX10_hangs_111 : decode cX10_hangs 111 = .ok (.aload_n 0, 1) := by decide +kernel
theorem dX10_hangs_112 : decode cX10_hangs 112 = .ok (.getfield 44, 3) := by decide +kernel
theorem dX10_hangs_115 : decode cX10_hangs 115 = .ok (.iload 5, 2) := by decide +kernel
theorem dX10_hangs_117 : decode cX10_hangs 117 = .ok (.iload_n 1, 1) := by decide +kernel
theorem dX10_hangs_118 : decode cX10_hangs 118 = .ok (.invokevirtual 153, 3) := by decide +kernel
theorem dX10_hangs_121 : decode cX10_hangs 121 = .ok (.aload_n 0, 1) := by decide +kernel
theorem dX10_hangs_122 : decode cX10_hangs 122 = .ok (.getfield 70, 3) := by decide +kernel
theorem dX10_hangs_125 : decode cX10_hangs 125 = .ok (.iload 4, 2) := by decide +kernel
theorem dX10_hangs_127 : decode cX10_hangs 127 = .ok (.invokevirtual 157, 3) := by decide +kernel
theorem dX10_hangs_130 : decode cX10_hangs 130 = .ok (.iconst 0, 1) := by decide +kernel
theorem dX10_hangs_131 : decode cX10_hangs 131 = .ok (.istore 6, 2) := by decide +kernel
theorem dX10_hangs_133 : decode cX10_hangs 133 = .ok (.iconst 0, 1) := by decide +kernel
theorem dX10_hangs_134 : decode cX10_hangs 134 = .ok (.istore 7, 2) := by decide +kernel
theorem dX10_hangs_136 : decode cX10_hangs 136 = .ok (.iload 7, 2) := by decide +kernel
theorem dX10_hangs_138 : decode cX10_hangs 138 = .ok (.aload_n 0, 1) := by decide +kernel
theorem dX10_hangs_139 : decode cX10_hangs 139 = .ok (.getfield 23, 3) := by decide +kernel
theorem dX10_hangs_142 : decode cX10_hangs 142 = .ok (.getfield 113, 3) := by decide +kernel
theorem dX10_hangs_145 : decode cX10_hangs 145 = .ok (.if_icmp .ge 57, 3) := by decide +kernel
theorem dX10_hangs_148 : decode cX10_hangs 148 = .ok (.aload_n 0, 1) := by decide +kernel
theorem dX10_hangs_149 : decode cX10_hangs 149 = .ok (.getfield 70, 3) := by decide +kernel
theorem dX10_hangs_152 : decode cX10_hangs 152 = .ok (.getfield 160, 3) := by decide +kernel
theorem dX10_hangs_155 : decode cX10_hangs 155 = .ok (.getfield 164, 3) := by decide +kernel
theorem dX10_hangs_158 : decode cX10_hangs 158 = .ok (.iload 7, 2) := by decide +kernel
theorem dX10_hangs_160 : decode cX10_hangs 160 = .ok (.iaload, 1) := by decide +kernel
theorem dX10_hangs_161 : decode cX10_hangs 161 = .ok (.iload 7, 2) := by decide +kernel
theorem dX10_hangs_163 : decode cX10_hangs 163 = .ok (.if_icmp .ne 33, 3) := by decide +kernel
theorem dX10_hangs_166 : decode cX10_hangs 166 = .ok (.aload_n 0, 1) := by decide +kernel
theorem dX10_hangs_167 : decode cX10_hangs 167 = .ok (.getfield 70, 3) := by decide +kernel
theorem dX10_hangs_170 : decode cX10_hangs 170 = .ok (.iload 7, 2) := by decide +kernel
theorem dX10_hangs_172 : decode cX10_hangs 172 = .ok (.iload_n 2, 1) := by decide +kernel
theorem dX10_hangs_173 : decode cX10_hangs 173 = .ok (.iload_n 3, 1) := by decide +kernel
theorem dX10_hangs_174 : decode cX10_hangs 174 = .ok (.invokevirtual 167, 3) := by decide +kernel
theorem dX10_hangs_177 : decode cX10_hangs 177 = .ok (.aload_n 0, 1) := by decide +kernel
theorem dX10_hangs_178 : decode cX10_hangs 178 = .ok (.getfield 74, 3) := by decide +kernel
theorem dX10_hangs_181 : decode cX10_hangs 181 = .ok (.iload 7, 2) := by decide +kernel
theorem dX10_hangs_183 : decode cX10_hangs 183 = .ok (.iaload, 1) := by decide +kernel
theorem dX10_hangs_184 : decode cX10_hangs 184 = .ok (.if_icmp .eq 12, 3) := by decide +kernel
theorem dX10_hangs_187 : decode cX10_hangs 187 = .ok (.iload 6, 2) := by decide +kernel
theorem dX10_hangs_189 : decode cX10_hangs 189 = .ok (.iconst 1, 1) := by decide +kernel
theorem dX10_hangs_190 : decode cX10_hangs 190 = .ok (.iload 7, 2) := by decide +kernel
theorem dX10_hangs_192 : decode cX10_hangs 192 = .ok (.ishl, 1) := by decide +kernel
theorem dX10_hangs_193 : decode cX10_hangs 193 = .ok (.ior, 1) := by decide +kernel
theorem dX10_hangs_194 : decode cX10_hangs 194 = .ok (.istore 6, 2) := by decide +kernel
theorem dX10_hangs_196 : decode cX10_hangs 196 = .ok (.iinc 7 1, 3) := by decide +kernel
theorem dX10_hangs_199 : decode cX10_hangs 199 = .ok (.goto (-63), 3) := by decide +kernel
theorem dX10_hangs_202 : decode cX10_hangs 202 = .ok (.iload 6, 2) := by decide +kernel
theorem dX10_hangs_204 : decode cX10_hangs 204 = .ok (.ireturn, 1) := by decide +kernel
theorem dX10_joined_0 : decode cX10_joined 0 = .ok (.aload_n 0, 1) := by decide +kernel
theorem dX10_joined_1 : decode cX10_joined 1 = .ok (.iload_n 1, 1) := by decide +kernel
theorem dX10_joined_2 : decode cX10_joined 2 = .ok (.invokevirtual 116, 3) := by decide +kernel
theorem dX10_joined_5 : decode cX10_joined 5 = .ok (.ifCond .eq 10, 3) := by decide +kernel
theorem dX10_joined_8 : decode cX10_joined 8 = .ok (.iload_n 2, 1) := by decide +kernel
theorem dX10_joined_9 : decode cX10_joined 9 = .ok (.invokestatic 102, 3) := by decide +kernel
theorem dX10_joined_12 : decode cX10_joined 12 = .ok (.ifCond .ne 5, 3) := by decide +kernel
theorem dX10_joined_15 : decode cX10_joined 15 = .ok (.iconst (-1), 1) := by decide +kernel
theorem dX10_joined_16 : decode cX10_joined 16 = .ok (.ireturn, 1) := by decide +kernel
theorem dX10_joined_17 : decode cX10_joined 17 = .ok (.aload_n 0, 1) := by decide +kernel
theorem dX10_joined_18 : decode cX10_joined 18 = .ok (.getfield 70, 3) := by decide +kernel
theorem dX10_joined_21 : decode cX10_joined 21 = .ok (.getfield 160, 3) := by decide +kernel
theorem dX10_joined_24 : decode cX10_joined 24 = .ok (.iload_n 2, 1) := by decide +kernel
theorem dX10_joined_25 : decode cX10_joined 25 = .ok (.iconst (-1), 1) := by decide +kernel
theorem dX10_joined_26 : decode cX10_joined 26 = .ok (.invokevirtual 204, 3) := by decide +kernel
theorem dX10_joined_29 : decode cX10_joined 29 = .ok (.aload_n 0, 1) := by decide +kernel
theorem dX10_joined_30 : decode cX10_joined 30 = .ok (.getfield 70, 3) := by decide +kernel
theorem dX10_joined_33 : decode cX10_joined 33 = .ok (.getfield 160, 3) := by decide +kernel
theorem dX10_joined_36 : decode cX10_joined 36 = .ok (.getfield 164, 3) := by decide +kernel
theorem dX10_joined_39 : decode cX10_joined 39 = .ok (.iload_n 1, 1) := by decide +kernel
theorem dX10_joined_40 : decode cX10_joined 40 = .ok (.iaload, 1) := by decide +kernel
theorem dX10_joined_41 : decode cX10_joined 41 = .ok (.ireturn, 1) := by decide +kernel
theorem dX10_look_0 : decode cX10_look 0 = .ok (.aload_n 0, 1) := by decide +kernel
theorem dX10_look_1 : decode cX10_look 1 = .ok (.iload_n 1, 1) := by decide +kernel
theorem dX10_look_2 : decode cX10_look 2 = .ok (.invokevirtual 136, 3) := by decide +kernel
theorem dX10_look_5 : decode cX10_look 5 = .ok (.ifCond .ne 13, 3) := by decide +kernel
theorem dX10_look_8 : decode cX10_look 8 = .ok (.new 206, 3) := by decide +kernel
theorem dX10_look_11 : decode cX10_look 11 = .ok (.dup, 1) := by decide +kernel
theorem dX10_look_12 : decode cX10_look 12 = .ok (.ldc 208, 2) := by decide +kernel
theorem dX10_look_14 : decode cX10_look 14 = .ok (.invokespecial 210, 3) := by decide +kernel
theorem dX10_look_17 : decode cX10_look 17 = .ok (.athrow, 1) := by decide +kernel
theorem dX10_look_18 : decode cX10_look 18 = .ok (.iload_n 2, 1) := by decide +kernel
theorem dX10_look_19 : decode cX10_look 19 = .ok (.tableswitch 83 0 4 #[33, 43, 53, 63, 73], 33) := by decide +kernel
theorem dX10_look_52 : decode cX10_look 52 = .ok (.aload_n 0, 1) := by decide +kernel
theorem dX10_look_53 : decode cX10_look 53 = .ok (.getfield 30, 3) := by decide +kernel
theorem dX10_look_56 : decode cX10_look 56 = .ok (.getfield 213, 3) := by decide +kernel
theorem dX10_look_59 : decode cX10_look 59 = .ok (.iload_n 1, 1) := by decide +kernel
theorem dX10_look_60 : decode cX10_look 60 = .ok (.iaload, 1) := by decide +kernel
theorem dX10_look_61 : decode cX10_look 61 = .ok (.ireturn, 1) := by decide +kernel
theorem dX10_look_62 : decode cX10_look 62 = .ok (.aload_n 0, 1) := by decide +kernel
theorem dX10_look_63 : decode cX10_look 63 = .ok (.getfield 30, 3) := by decide +kernel
theorem dX10_look_66 : decode cX10_look 66 = .ok (.getfield 215, 3) := by decide +kernel
theorem dX10_look_69 : decode cX10_look 69 = .ok (.iload_n 1, 1) := by decide +kernel
theorem dX10_look_70 : decode cX10_look 70 = .ok (.iaload, 1) := by decide +kernel
theorem dX10_look_71 : decode cX10_look 71 = .ok (.ireturn, 1) := by decide +kernel
theorem dX10_look_72 : decode cX10_look 72 = .ok (.aload_n 0, 1) := by decide +kernel
theorem dX10_look_73 : decode cX10_look 73 = .ok (.getfield 30, 3) := by decide +kernel
theorem dX10_look_76 : decode cX10_look 76 = .ok (.getfield 139, 3) := by decide +kernel
theorem dX10_look_79 : decode cX10_look 79 = .ok (.iload_n 1, 1) := by decide +kernel
theorem dX10_look_80 : decode cX10_look 80 = .ok (.iaload, 1) := by decide +kernel
theorem dX10_look_81 : decode cX10_look 81 = .ok (.ireturn, 1) := by decide +kernel
theorem dX10_look_82 : decode cX10_look 82 = .ok (.aload_n 0, 1) := by decide +kernel
theorem dX10_look_83 : decode cX10_look 83 = .ok (.getfield 30, 3) := by decide +kernel
theorem dX10_look_86 : decode cX10_look 86 = .ok (.getfield 218, 3) := by decide +kernel
theorem dX10_look_89 : decode cX10_look 89 = .ok (.iload_n 1, 1) := by decide +kernel
theorem dX10_look_90 : decode cX10_look 90 = .ok (.iaload, 1) := by decide +kernel
theorem dX10_look_91 : decode cX10_look 91 = .ok (.ireturn, 1) := by decide +kernel
theorem dX10_look_92 : decode cX10_look 92 = .ok (.aload_n 0, 1) := by decide +kernel
theorem dX10_look_93 : decode cX10_look 93 = .ok (.getfield 30, 3) := by decide +kernel
theorem dX10_look_96 : decode cX10_look 96 = .ok (.getfield 221, 3) := by decide +kernel
theorem dX10_look_99 : decode cX10_look 99 = .ok (.iload_n 1, 1) := by decide +kernel
theorem dX10_look_100 : decode cX10_look 100 = .ok (.iaload, 1) := by decide +kernel
theorem dX10_look_101 : decode cX10_look 101 = .ok (.ireturn, 1) := by decide +kernel
theorem dX10_look_102 : decode cX10_look 102 = .ok (.new 224, 3) := by decide +kernel
theorem dX10_look_105 : decode cX10_look 105 = .ok (.dup, 1) := by decide +kernel
theorem dX10_look_106 : decode cX10_look 106 = .ok (.ldc 226, 2) := by decide +kernel
theorem dX10_look_108 : decode cX10_look 108 = .ok (.invokespecial 228, 3) := by decide +kernel
theorem dX10_look_111 : decode cX10_look 111 = .ok (.athrow, 1) := by decide +kernel
theorem dX10_count_0 : decode cX10_count 0 = .ok (.iload_n 1, 1) := by decide +kernel
theorem dX10_count_1 : decode cX10_count 1 = .ok (.tableswitch 96 0 6 #[43, 48, 56, 64, 72, 80, 88], 43) := by decide +kernel
theorem dX10_count_44 : decode cX10_count 44 = .ok (.aload_n 0, 1) := by decide +kernel
theorem dX10_count_45 : decode cX10_count 45 = .ok (.getfield 106, 3) := by decide +kernel
theorem dX10_count_48 : decode cX10_count 48 = .ok (.ireturn, 1) := by decide +kernel
theorem dX10_count_49 : decode cX10_count 49 = .ok (.aload_n 0, 1) := by decide +kernel
theorem dX10_count_50 : decode cX10_count 50 = .ok (.getfield 16, 3) := by decide +kernel
theorem dX10_count_53 : decode cX10_count 53 = .ok (.getfield 229, 3) := by decide +kernel
theorem dX10_count_56 : decode cX10_count 56 = .ok (.ireturn, 1) := by decide +kernel
theorem dX10_count_57 : decode cX10_count 57 = .ok (.aload_n 0, 1) := by decide +kernel
theorem dX10_count_58 : decode cX10_count 58 = .ok (.getfield 23, 3) := by decide +kernel
theorem dX10_count_61 : decode cX10_count 61 = .ok (.getfield 113, 3) := by decide +kernel
theorem dX10_count_64 : decode cX10_count 64 = .ok (.ireturn, 1) := by decide +kernel
theorem dX10_count_65 : decode cX10_count 65 = .ok (.aload_n 0, 1) := by decide +kernel
theorem dX10_count_66 : decode cX10_count 66 = .ok (.getfield 30, 3) := by decide +kernel
theorem dX10_count_69 : decode cX10_count 69 = .ok (.getfield 230, 3) := by decide +kernel
theorem dX10_count_72 : decode cX10_count 72 = .ok (.ireturn, 1) := by decide +kernel
theorem dX10_count_73 : decode cX10_count 73 = .ok (.aload_n 0, 1) := by decide +kernel
theorem dX10_count_74 : decode cX10_count 74 = .ok (.getfield 37, 3) := by decide +kernel
theorem dX10_count_77 : decode cX10_count 77 = .ok (.getfield 148, 3) := by decide +kernel
theorem dX10_count_80 : decode cX10_count 80 = .ok (.ireturn, 1) := by decide +kernel
theorem dX10_count_81 : decode cX10_count 81 = .ok (.aload_n 0, 1) := by decide +kernel
theorem dX10_count_82 : decode cX10_count 82 = .ok (.getfield 44, 3) := by decide +kernel
theorem dX10_count_85 : decode cX10_count 85 = .ok (.getfield 231, 3) := by decide +kernel
theorem dX10_count_88 : decode cX10_count 88 = .ok (.ireturn, 1) := by decide +kernel
theorem dX10_count_89 : decode cX10_count 89 = .ok (.aload_n 0, 1) := by decide +kernel
theorem dX10_count_90 : decode cX10_count 90 = .ok (.getfield 44, 3) := by decide +kernel
