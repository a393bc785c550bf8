theorem kcX2_27 : Cond.constantLong RX2 27 (1000000000000 : Int64) ∈ lw_g := lw_g_of 827 (by decide +kernel) (by decide +kernel)
theorem kcX2_29 : Cond.constantLong RX2 29 (-1000000000000 : Int64) ∈ lw_g := lw_g_of 829 (by decide +kernel) (by decide +kernel)
theorem kcX2_31 : Cond.constantLong RX2 31 (1000000000001 : Int64) ∈ lw_g := lw_g_of 828 (by decide +kernel) (by decide +kernel)
theorem kcX11_240 : Cond.constantLong RX11 240 (1000000000000 : Int64) ∈ lw_g := lw_g_of 1451 (by decide +kernel) (by decide +kernel)
theorem kcX11_242 : Cond.constantLong RX11 242 (-1000000000000 : Int64) ∈ lw_g := lw_g_of 1452 (by decide +kernel) (by decide +kernel)
theorem kcJ6_265 : Cond.constant RJ6 265 (1431655765 : Int32) ∈ lw_g := lw_g_of 776 (by decide +kernel) (by decide +kernel)
theorem kcJ6_266 : Cond.constant RJ6 266 (858993459 : Int32) ∈ lw_g := lw_g_of 777 (by decide +kernel) (by decide +kernel)
theorem kcJ6_267 : Cond.constant RJ6 267 (252645135 : Int32) ∈ lw_g := lw_g_of 778 (by decide +kernel) (by decide +kernel)
theorem flX10_9 : FLk RX10 9 10 0 := ⟨RX10, TX10, 13, tyX10, rfl, inX10, tyX10_ok, nmX10, by decide, by decide, lw_g_of 378 (by decide +kernel) (by decide +kernel)⟩
theorem flX10_16 : FLk RX10 16 10 3 := ⟨RX10, TX10, 13, tyX10, rfl, inX10, tyX10_ok, nmX10, by decide, by decide, lw_g_of 381 (by decide +kernel) (by decide +kernel)⟩
theorem flX10_23 : FLk RX10 23 10 4 := ⟨RX10, TX10, 13, tyX10, rfl, inX10, tyX10_ok, nmX10, by decide, by decide, lw_g_of 382 (by decide +kernel) (by decide +kernel)⟩
theorem flX10_30 : FLk RX10 30 10 5 := ⟨RX10, TX10, 13, tyX10, rfl, inX10, tyX10_ok, nmX10, by decide, by decide, lw_g_of 383 (by decide +kernel) (by decide +kernel)⟩
theorem flX10_37 : FLk RX10 37 10 6 := ⟨RX10, TX10, 13, tyX10, rfl, inX10, tyX10_ok, nmX10, by decide, by decide, lw_g_of 384 (by decide +kernel) (by decide +kernel)⟩
theorem flX10_44 : FLk RX10 44 10 8 := ⟨RX10, TX10, 13, tyX10, rfl, inX10, tyX10_ok, nmX10, by decide, by decide, lw_g_of 386 (by decide +kernel) (by decide +kernel)⟩
theorem flX10_48 : FLk RX10 48 10 9 := ⟨RX10, TX10, 13, tyX10, rfl, inX10, tyX10_ok, nmX10, by decide, by decide, lw_g_of 387 (by decide +kernel) (by decide +kernel)⟩
theorem flX10_56 : FLk RX10 56 10 7 := ⟨RX10, TX10, 13, tyX10, rfl, inX10, tyX10_ok, nmX10, by decide, by decide, lw_g_of 385 (by decide +kernel) (by decide +kernel)⟩
theorem flX10_70 : FLk RX10 70 10 10 := ⟨RX10, TX10, 13, tyX10, rfl, inX10, tyX10_ok, nmX10, by decide, by decide, lw_g_of 388 (by decide +kernel) (by decide +kernel)⟩
theorem flX10_74 : FLk RX10 74 10 11 := ⟨RX10, TX10, 13, tyX10, rfl, inX10, tyX10_ok, nmX10, by decide, by decide, lw_g_of 389 (by decide +kernel) (by decide +kernel)⟩
theorem flX10_78 : FLk RX10 78 10 12 := ⟨RX10, TX10, 13, tyX10, rfl, inX10, tyX10_ok, nmX10, by decide, by decide, lw_g_of 390 (by decide +kernel) (by decide +kernel)⟩
theorem flX10_81 : FLk RX10 81 10 1 := ⟨RX10, TX10, 13, tyX10, rfl, inX10, tyX10_ok, nmX10, by decide, by decide, lw_g_of 379 (by decide +kernel) (by decide +kernel)⟩
theorem flX10_93 : FLk RX10 93 6 0 := ⟨RX6, TX6, 7, tyX6, rfl, inX6, tyX6_ok, nmX6, by decide, by decide, lw_g_of 238 (by decide +kernel) (by decide +kernel)⟩
theorem flX10_96 : FLk RX10 96 7 0 := ⟨RX7, TX7, 6, tyX7, rfl, inX7, tyX7_ok, nmX7, by decide, by decide, lw_g_of 173 (by decide +kernel) (by decide +kernel)⟩
theorem flX10_99 : FLk RX10 99 6 1 := ⟨RX6, TX6, 7, tyX6, rfl, inX6, tyX6_ok, nmX6, by decide, by decide, lw_g_of 240 (by decide +kernel) (by decide +kernel)⟩
theorem flX10_106 : FLk RX10 106 10 2 := ⟨RX10, TX10, 13, tyX10, rfl, inX10, tyX10_ok, nmX10, by decide, by decide, lw_g_of 380 (by decide +kernel) (by decide +kernel)⟩
theorem flX10_113 : FLk RX10 113 5 0 := ⟨RX5, TX5, 2, tyX5, rfl, inX5, tyX5_ok, nmX5, by decide, by decide, lw_g_of 60 (by decide +kernel) (by decide +kernel)⟩
theorem flX10_139 : FLk RX10 139 0 3 := ⟨RX0, TX0, 7, tyX0, rfl, inX0, tyX0_ok, nmX0, by decide, by decide, lw_g_of 86 (by decide +kernel) (by decide +kernel)⟩
theorem flX10_148 : FLk RX10 148 4 0 := ⟨RX4, TX4, 7, tyX4, rfl, inX4, tyX4_ok, nmX4, by decide, by decide, lw_g_of 118 (by decide +kernel) (by decide +kernel)⟩
theorem flX10_160 : FLk RX10 160 9 3 := ⟨RX9, TX9, 12, tyX9, rfl, inX9, tyX9_ok, nmX9, by decide, by decide, lw_g_of 340 (by decide +kernel) (by decide +kernel)⟩
theorem flX10_164 : FLk RX10 164 3 4 := ⟨RX3, TX3, 16, tyX3, rfl, inX3, tyX3_ok, nmX3, by decide, by decide, lw_g_of 276 (by decide +kernel) (by decide +kernel)⟩
theorem flX10_194 : FLk RX10 194 9 9 := ⟨RX9, TX9, 12, tyX9, rfl, inX9, tyX9_ok, nmX9, by decide, by decide, lw_g_of 349 (by decide +kernel) (by decide +kernel)⟩
theorem flX10_218 : FLk RX10 218 0 4 := ⟨RX0, TX0, 7, tyX0, rfl, inX0, tyX0_ok, nmX0, by decide, by decide, lw_g_of 89 (by decide +kernel) (by decide +kernel)⟩
theorem flX10_229 : FLk RX10 229 1 0 := ⟨RX1, TX1, 3, tyX1, rfl, inX1, tyX1_ok, nmX1, by decide, by decide, lw_g_of 40 (by decide +kernel) (by decide +kernel)⟩
theorem flX10_230 : FLk RX10 230 0 0 := ⟨RX0, TX0, 7, tyX0, rfl, inX0, tyX0_ok, nmX0, by decide, by decide, lw_g_of 77 (by decide +kernel) (by decide +kernel)⟩
theorem flX10_231 : FLk RX10 231 7 1 := ⟨RX7, TX7, 6, tyX7, rfl, inX7, tyX7_ok, nmX7, by decide, by decide, lw_g_of 177 (by decide +kernel) (by decide +kernel)⟩
theorem flX10_234 : FLk RX10 234 7 2 := ⟨RX7, TX7, 6, tyX7, rfl, inX7, tyX7_ok, nmX7, by decide, by decide, lw_g_of 181 (by decide +kernel) (by decide +kernel)⟩
theorem flX10_253 : FLk RX10 253 9 8 := ⟨RX9, TX9, 12, tyX9, rfl, inX9, tyX9_ok, nmX9, by decide, by decide, lw_g_of 347 (by decide +kernel) (by decide +kernel)⟩
theorem flX10_259 : FLk RX10 259 9 7 := ⟨RX9, TX9, 12, tyX9, rfl, inX9, tyX9_ok, nmX9, by decide, by decide, lw_g_of 345 (by decide +kernel) (by decide +kernel)⟩
theorem flX10_270 : FLk RX10 270 3 5 := ⟨RX3, TX3, 16, tyX3, rfl, inX3, tyX3_ok, nmX3, by decide, by decide, lw_g_of 279 (by decide +kernel) (by decide +kernel)⟩
theorem flX0_9 : FLk RX0 9 0 1 := ⟨RX0, TX0, 7, tyX0, rfl, inX0, tyX0_ok, nmX0, by decide, by decide, lw_g_of 78 (by decide +kernel) (by decide +kernel)⟩
theorem flX0_15 : FLk RX0 15 0 2 := ⟨RX0, TX0, 7, tyX0, rfl, inX0, tyX0_ok, nmX0, by decide, by decide, lw_g_of 81 (by decide +kernel) (by decide +kernel)⟩
theorem flX0_18 : FLk RX0 18 0 3 := ⟨RX0, TX0, 7, tyX0, rfl, inX0, tyX0_ok, nmX0, by decide, by decide, lw_g_of 84 (by decide +kernel) (by decide +kernel)⟩
theorem flX0_21 : FLk RX0 21 0 4 := ⟨RX0, TX0, 7, tyX0, rfl, inX0, tyX0_ok, nmX0, by decide, by decide, lw_g_of 87 (by decide +kernel) (by decide +kernel)⟩
theorem flX0_24 : FLk RX0 24 0 5 := ⟨RX0, TX0, 7, tyX0, rfl, inX0, tyX0_ok, nmX0, by decide, by decide, lw_g_of 90 (by decide +kernel) (by decide +kernel)⟩
theorem flX0_27 : FLk RX0 27 0 6 := ⟨RX0, TX0, 7, tyX0, rfl, inX0, tyX0_ok, nmX0, by decide, by decide, lw_g_of 93 (by decide +kernel) (by decide +kernel)⟩
theorem flX0_30 : FLk RX0 30 0 0 := ⟨RX0, TX0, 7, tyX0, rfl, inX0, tyX0_ok, nmX0, by decide, by decide, lw_g_of 74 (by decide +kernel) (by decide +kernel)⟩
theorem flX1_9 : FLk RX1 9 1 1 := ⟨RX1, TX1, 3, tyX1, rfl, inX1, tyX1_ok, nmX1, by decide, by decide, lw_g_of 41 (by decide +kernel) (by decide +kernel)⟩
theorem flX1_15 : FLk RX1 15 1 2 := ⟨RX1, TX1, 3, tyX1, rfl, inX1, tyX1_ok, nmX1, by decide, by decide, lw_g_of 43 (by decide +kernel) (by decide +kernel)⟩
theorem flX1_18 : FLk RX1 18 1 0 := ⟨RX1, TX1, 3, tyX1, rfl, inX1, tyX1_ok, nmX1, by decide, by decide, lw_g_of 39 (by decide +kernel) (by decide +kernel)⟩
theorem flX2_9 : FLk RX2 9 2 2 := ⟨RX2, TX2, 3, tyX2, rfl, inX2, tyX2_ok, nmX2, by decide, by decide, lw_g_of 164 (by decide +kernel) (by decide +kernel)⟩
theorem flX2_15 : FLk RX2 15 2 0 := ⟨RX2, TX2, 3, tyX2, rfl, inX2, tyX2_ok, nmX2, by decide, by decide, lw_g_of 161 (by decide +kernel) (by decide +kernel)⟩
theorem flX2_19 : FLk RX2 19 2 1 := ⟨RX2, TX2, 3, tyX2, rfl, inX2, tyX2_ok, nmX2, by decide, by decide, lw_g_of 163 (by decide +kernel) (by decide +kernel)⟩
theorem flX3_9 : FLk RX3 9 3 4 := ⟨RX3, TX3, 16, tyX3, rfl, inX3, tyX3_ok, nmX3, by decide, by decide, lw_g_of 274 (by decide +kernel) (by decide +kernel)⟩
theorem flX3_15 : FLk RX3 15 3 5 := ⟨RX3, TX3, 16, tyX3, rfl, inX3, tyX3_ok, nmX3, by decide, by decide, lw_g_of 277 (by decide +kernel) (by decide +kernel)⟩
theorem flX3_18 : FLk RX3 18 3 6 := ⟨RX3, TX3, 16, tyX3, rfl, inX3, tyX3_ok, nmX3, by decide, by decide, lw_g_of 280 (by decide +kernel) (by decide +kernel)⟩
theorem flX3_21 : FLk RX3 21 3 7 := ⟨RX3, TX3, 16, tyX3, rfl, inX3, tyX3_ok, nmX3, by decide, by decide, lw_g_of 282 (by decide +kernel) (by decide +kernel)⟩
theorem flX3_24 : FLk RX3 24 3 8 := ⟨RX3, TX3, 16, tyX3, rfl, inX3, tyX3_ok, nmX3, by decide, by decide, lw_g_of 284 (by decide +kernel) (by decide +kernel)⟩
theorem flX3_27 : FLk RX3 27 3 9 := ⟨RX3, TX3, 16, tyX3, rfl, inX3, tyX3_ok, nmX3, by decide, by decide, lw_g_of 286 (by decide +kernel) (by decide +kernel)⟩
theorem flX3_30 : FLk RX3 30 3 10 := ⟨RX3, TX3, 16, tyX3, rfl, inX3, tyX3_ok, nmX3, by decide, by decide, lw_g_of 288 (by decide +kernel) (by decide +kernel)⟩
theorem flX3_33 : FLk RX3 33 3 11 := ⟨RX3, TX3, 16, tyX3, rfl, inX3, tyX3_ok, nmX3, by decide, by decide, lw_g_of 290 (by decide +kernel) (by decide +kernel)⟩
theorem flX3_36 : FLk RX3 36 3 12 := ⟨RX3, TX3, 16, tyX3, rfl, inX3, tyX3_ok, nmX3, by decide, by decide, lw_g_of 292 (by decide +kernel) (by decide +kernel)⟩
theorem flX3_39 : FLk RX3 39 3 13 := ⟨RX3, TX3, 16, tyX3, rfl, inX3, tyX3_ok, nmX3, by decide, by decide, lw_g_of 294 (by decide +kernel) (by decide +kernel)⟩
theorem flX3_42 : FLk RX3 42 3 15 := ⟨RX3, TX3, 16, tyX3, rfl, inX3, tyX3_ok, nmX3, by decide, by decide, lw_g_of 298 (by decide +kernel) (by decide +kernel)⟩
theorem flX3_45 : FLk RX3 45 3 0 := ⟨RX3, TX3, 16, tyX3, rfl, inX3, tyX3_ok, nmX3, by decide, by decide, lw_g_of 269 (by decide +kernel) (by decide +kernel)⟩
theorem flX3_49 : FLk RX3 49 3 1 := ⟨RX3, TX3, 16, tyX3, rfl, inX3, tyX3_ok, nmX3, by decide, by decide, lw_g_of 270 (by decide +kernel) (by decide +kernel)⟩
theorem flX3_53 : FLk RX3 53 3 2 := ⟨RX3, TX3, 16, tyX3, rfl, inX3, tyX3_ok, nmX3, by decide, by decide, lw_g_of 272 (by decide +kernel) (by decide +kernel)⟩
theorem flX3_80 : FLk RX3 80 3 3 := ⟨RX3, TX3, 16, tyX3, rfl, inX3, tyX3_ok, nmX3, by decide, by decide, lw_g_of 273 (by decide +kernel) (by decide +kernel)⟩
theorem flX3_88 : FLk RX3 88 0 0 := ⟨RX0, TX0, 7, tyX0, rfl, inX0, tyX0_ok, nmX0, by decide, by decide, lw_g_of 76 (by decide +kernel) (by decide +kernel)⟩
theorem flX3_93 : FLk RX3 93 0 5 := ⟨RX0, TX0, 7, tyX0, rfl, inX0, tyX0_ok, nmX0, by decide, by decide, lw_g_of 91 (by decide +kernel) (by decide +kernel)⟩
theorem flX3_96 : FLk RX3 96 4 0 := ⟨RX4, TX4, 7, tyX4, rfl, inX4, tyX4_ok, nmX4, by decide, by decide, lw_g_of 117 (by decide +kernel) (by decide +kernel)⟩
theorem flX3_99 : FLk RX3 99 4 2 := ⟨RX4, TX4, 7, tyX4, rfl, inX4, tyX4_ok, nmX4, by decide, by decide, lw_g_of 123 (by decide +kernel) (by decide +kernel)⟩
theorem flX3_104 : FLk RX3 104 4 1 := ⟨RX4, TX4, 7, tyX4, rfl, inX4, tyX4_ok, nmX4, by decide, by decide, lw_g_of 120 (by decide +kernel) (by decide +kernel)⟩
theorem flX3_107 : FLk RX3 107 4 4 := ⟨RX4, TX4, 7, tyX4, rfl, inX4, tyX4_ok, nmX4, by decide, by decide, lw_g_of 127 (by decide +kernel) (by decide +kernel)⟩
theorem flX3_110 : FLk RX3 110 4 3 := ⟨RX4, TX4, 7, tyX4, rfl, inX4, tyX4_ok, nmX4, by decide, by decide, lw_g_of 125 (by decide +kernel) (by decide +kernel)⟩
theorem flX3_116 : FLk RX3 116 5 0 := ⟨RX5, TX5, 2, tyX5, rfl, inX5, tyX5_ok, nmX5, by decide, by decide, lw_g_of 61 (by decide +kernel) (by decide +kernel)⟩
theorem flX3_122 : FLk RX3 122 4 5 := ⟨RX4, TX4, 7, tyX4, rfl, inX4, tyX4_ok, nmX4, by decide, by decide, lw_g_of 130 (by decide +kernel) (by decide +kernel)⟩
theorem flX3_151 : FLk RX3 151 3 14 := ⟨RX3, TX3, 16, tyX3, rfl, inX3, tyX3_ok, nmX3, by decide, by decide, lw_g_of 296 (by decide +kernel) (by decide +kernel)⟩
theorem flX4_9 : FLk RX4 9 4 1 := ⟨RX4, TX4, 7, tyX4, rfl, inX4, tyX4_ok, nmX4, by decide, by decide, lw_g_of 119 (by decide +kernel) (by decide +kernel)⟩
theorem flX4_15 : FLk RX4 15 4 2 := ⟨RX4, TX4, 7, tyX4, rfl, inX4, tyX4_ok, nmX4, by decide, by decide, lw_g_of 122 (by decide +kernel) (by decide +kernel)⟩
theorem flX4_18 : FLk RX4 18 4 3 := ⟨RX4, TX4, 7, tyX4, rfl, inX4, tyX4_ok, nmX4, by decide, by decide, lw_g_of 124 (by decide +kernel) (by decide +kernel)⟩
theorem flX4_21 : FLk RX4 21 4 4 := ⟨RX4, TX4, 7, tyX4, rfl, inX4, tyX4_ok, nmX4, by decide, by decide, lw_g_of 126 (by decide +kernel) (by decide +kernel)⟩
theorem flX4_24 : FLk RX4 24 4 5 := ⟨RX4, TX4, 7, tyX4, rfl, inX4, tyX4_ok, nmX4, by decide, by decide, lw_g_of 129 (by decide +kernel) (by decide +kernel)⟩
theorem flX4_27 : FLk RX4 27 4 6 := ⟨RX4, TX4, 7, tyX4, rfl, inX4, tyX4_ok, nmX4, by decide, by decide, lw_g_of 132 (by decide +kernel) (by decide +kernel)⟩
theorem flX4_30 : FLk RX4 30 4 0 := ⟨RX4, TX4, 7, tyX4, rfl, inX4, tyX4_ok, nmX4, by decide, by decide, lw_g_of 116 (by decide +kernel) (by decide +kernel)⟩
theorem flX5_9 : FLk RX5 9 5 1 := ⟨RX5, TX5, 2, tyX5, rfl, inX5, tyX5_ok, nmX5, by decide, by decide, lw_g_of 62 (by decide +kernel) (by decide +kernel)⟩
theorem flX6_18 : FLk RX6 18 6 2 := ⟨RX6, TX6, 7, tyX6, rfl, inX6, tyX6_ok, nmX6, by decide, by decide, lw_g_of 241 (by decide +kernel) (by decide +kernel)⟩
theorem flX6_22 : FLk RX6 22 6 4 := ⟨RX6, TX6, 7, tyX6, rfl, inX6, tyX6_ok, nmX6, by decide, by decide, lw_g_of 243 (by decide +kernel) (by decide +kernel)⟩
theorem flX6_26 : FLk RX6 26 6 3 := ⟨RX6, TX6, 7, tyX6, rfl, inX6, tyX6_ok, nmX6, by decide, by decide, lw_g_of 242 (by decide +kernel) (by decide +kernel)⟩
theorem flX6_30 : FLk RX6 30 6 0 := ⟨RX6, TX6, 7, tyX6, rfl, inX6, tyX6_ok, nmX6, by decide, by decide, lw_g_of 237 (by decide +kernel) (by decide +kernel)⟩
theorem flX6_42 : FLk RX6 42 8 3 := ⟨RX8, TX8, 6, tyX8, rfl, inX8, tyX8_ok, nmX8, by decide, by decide, lw_g_of 218 (by decide +kernel) (by decide +kernel)⟩
theorem flX6_52 : FLk RX6 52 7 4 := ⟨RX7, TX7, 6, tyX7, rfl, inX7, tyX7_ok, nmX7, by decide, by decide, lw_g_of 185 (by decide +kernel) (by decide +kernel)⟩
theorem flX6_56 : FLk RX6 56 7 5 := ⟨RX7, TX7, 6, tyX7, rfl, inX7, tyX7_ok, nmX7, by decide, by decide, lw_g_of 188 (by decide +kernel) (by decide +kernel)⟩
theorem flX6_59 : FLk RX6 59 7 3 := ⟨RX7, TX7, 6, tyX7, rfl, inX7, tyX7_ok, nmX7, by decide, by decide, lw_g_of 183 (by decide +kernel) (by decide +kernel)⟩
theorem flX6_63 : FLk RX6 63 2 0 := ⟨RX2, TX2, 3, tyX2, rfl, inX2, tyX2_ok, nmX2, by decide, by decide, lw_g_of 162 (by decide +kernel) (by decide +kernel)⟩
theorem flX6_68 : FLk RX6 68 7 0 := ⟨RX7, TX7, 6, tyX7, rfl, inX7, tyX7_ok, nmX7, by decide, by decide, lw_g_of 174 (by decide +kernel) (by decide +kernel)⟩
theorem flX6_81 : FLk RX6 81 8 5 := ⟨RX8, TX8, 6, tyX8, rfl, inX8, tyX8_ok, nmX8, by decide, by decide, lw_g_of 222 (by decide +kernel) (by decide +kernel)⟩
theorem flX6_87 : FLk RX6 87 6 5 := ⟨RX6, TX6, 7, tyX6, rfl, inX6, tyX6_ok, nmX6, by decide, by decide, lw_g_of 244 (by decide +kernel) (by decide +kernel)⟩
theorem flX6_90 : FLk RX6 90 6 6 := ⟨RX6, TX6, 7, tyX6, rfl, inX6, tyX6_ok, nmX6, by decide, by decide, lw_g_of 245 (by decide +kernel) (by decide +kernel)⟩
theorem flX6_124 : FLk RX6 124 7 1 := ⟨RX7, TX7, 6, tyX7, rfl, inX7, tyX7_ok, nmX7, by decide, by decide, lw_g_of 176 (by decide +kernel) (by decide +kernel)⟩
theorem flX6_127 : FLk RX6 127 8 4 := ⟨RX8, TX8, 6, tyX8, rfl, inX8, tyX8_ok, nmX8, by decide, by decide, lw_g_of 221 (by decide +kernel) (by decide +kernel)⟩
theorem flX7_18 : FLk RX7 18 7 4 := ⟨RX7, TX7, 6, tyX7, rfl, inX7, tyX7_ok, nmX7, by decide, by decide, lw_g_of 184 (by decide +kernel) (by decide +kernel)⟩
theorem flX7_22 : FLk RX7 22 7 5 := ⟨RX7, TX7, 6, tyX7, rfl, inX7, tyX7_ok, nmX7, by decide, by decide, lw_g_of 187 (by decide +kernel) (by decide +kernel)⟩
theorem flX8_9 : FLk RX8 9 8 0 := ⟨RX8, TX8, 6, tyX8, rfl, inX8, tyX8_ok, nmX8, by decide, by decide, lw_g_of 215 (by decide +kernel) (by decide +kernel)⟩
theorem flX8_21 : FLk RX8 21 8 1 := ⟨RX8, TX8, 6, tyX8, rfl, inX8, tyX8_ok, nmX8, by decide, by decide, lw_g_of 216 (by decide +kernel) (by decide +kernel)⟩
theorem flX8_25 : FLk RX8 25 8 2 := ⟨RX8, TX8, 6, tyX8, rfl, inX8, tyX8_ok, nmX8, by decide, by decide, lw_g_of 217 (by decide +kernel) (by decide +kernel)⟩
theorem flX8_31 : FLk RX8 31 8 4 := ⟨RX8, TX8, 6, tyX8, rfl, inX8, tyX8_ok, nmX8, by decide, by decide, lw_g_of 220 (by decide +kernel) (by decide +kernel)⟩
theorem flX8_63 : FLk RX8 63 8 5 := ⟨RX8, TX8, 6, tyX8, rfl, inX8, tyX8_ok, nmX8, by decide, by decide, lw_g_of 223 (by decide +kernel) (by decide +kernel)⟩
theorem flX9_9 : FLk RX9 9 9 8 := ⟨RX9, TX9, 12, tyX9, rfl, inX9, tyX9_ok, nmX9, by decide, by decide, lw_g_of 346 (by decide +kernel) (by decide +kernel)⟩
theorem flX9_15 : FLk RX9 15 9 9 := ⟨RX9, TX9, 12, tyX9, rfl, inX9, tyX9_ok, nmX9, by decide, by decide, lw_g_of 348 (by decide +kernel) (by decide +kernel)⟩
theorem flX9_18 : FLk RX9 18 9 10 := ⟨RX9, TX9, 12, tyX9, rfl, inX9, tyX9_ok, nmX9, by decide, by decide, lw_g_of 350 (by decide +kernel) (by decide +kernel)⟩
theorem flX9_22 : FLk RX9 22 9 11 := ⟨RX9, TX9, 12, tyX9, rfl, inX9, tyX9_ok, nmX9, by decide, by decide, lw_g_of 351 (by decide +kernel) (by decide +kernel)⟩
theorem flX9_25 : FLk RX9 25 9 0 := ⟨RX9, TX9, 12, tyX9, rfl, inX9, tyX9_ok, nmX9, by decide, by decide, lw_g_of 336 (by decide +kernel) (by decide +kernel)⟩
theorem flX9_29 : FLk RX9 29 9 1 := ⟨RX9, TX9, 12, tyX9, rfl, inX9, tyX9_ok, nmX9, by decide, by decide, lw_g_of 337 (by decide +kernel) (by decide +kernel)⟩
theorem flX9_39 : FLk RX9 39 9 2 := ⟨RX9, TX9, 12, tyX9, rfl, inX9, tyX9_ok, nmX9, by decide, by decide, lw_g_of 338 (by decide +kernel) (by decide +kernel)⟩
theorem flX9_40 : FLk RX9 40 9 3 := ⟨RX9, TX9, 12, tyX9, rfl, inX9, tyX9_ok, nmX9, by decide, by decide, lw_g_of 339 (by decide +kernel) (by decide +kernel)⟩
theorem flX9_44 : FLk RX9 44 9 4 := ⟨RX9, TX9, 12, tyX9, rfl, inX9, tyX9_ok, nmX9, by decide, by decide, lw_g_of 341 (by decide +kernel) (by decide +kernel)⟩
theorem flX9_52 : FLk RX9 52 0 0 := ⟨RX0, TX0, 7, tyX0, rfl, inX0, tyX0_ok, nmX0, by decide, by decide, lw_g_of 75 (by decide +kernel) (by decide +kernel)⟩
theorem flX9_58 : FLk RX9 58 0 6 := ⟨RX0, TX0, 7, tyX0, rfl, inX0, tyX0_ok, nmX0, by decide, by decide, lw_g_of 94 (by decide +kernel) (by decide +kernel)⟩
theorem flX9_68 : FLk RX9 68 0 2 := ⟨RX0, TX0, 7, tyX0, rfl, inX0, tyX0_ok, nmX0, by decide, by decide, lw_g_of 82 (by decide +kernel) (by decide +kernel)⟩
theorem flX9_74 : FLk RX9 74 9 6 := ⟨RX9, TX9, 12, tyX9, rfl, inX9, tyX9_ok, nmX9, by decide, by decide, lw_g_of 343 (by decide +kernel) (by decide +kernel)⟩
theorem flX9_81 : FLk RX9 81 9 5 := ⟨RX9, TX9, 12, tyX9, rfl, inX9, tyX9_ok, nmX9, by decide, by decide, lw_g_of 342 (by decide +kernel) (by decide +kernel)⟩
theorem flX9_84 : FLk RX9 84 9 7 := ⟨RX9, TX9, 12, tyX9, rfl, inX9, tyX9_ok, nmX9, by decide, by decide, lw_g_of 344 (by decide +kernel) (by decide +kernel)⟩
theorem flX9_90 : FLk RX9 90 3 6 := ⟨RX3, TX3, 16, tyX3, rfl, inX3, tyX3_ok, nmX3, by decide, by decide, lw_g_of 281 (by decide +kernel) (by decide +kernel)⟩
theorem flX9_97 : FLk RX9 97 0 4 := ⟨RX0, TX0, 7, tyX0, rfl, inX0, tyX0_ok, nmX0, by decide, by decide, lw_g_of 88 (by decide +kernel) (by decide +kernel)⟩
theorem flX9_100 : FLk RX9 100 3 9 := ⟨RX3, TX3, 16, tyX3, rfl, inX3, tyX3_ok, nmX3, by decide, by decide, lw_g_of 287 (by decide +kernel) (by decide +kernel)⟩
theorem flX9_107 : FLk RX9 107 3 5 := ⟨RX3, TX3, 16, tyX3, rfl, inX3, tyX3_ok, nmX3, by decide, by decide, lw_g_of 278 (by decide +kernel) (by decide +kernel)⟩
theorem flX9_110 : FLk RX9 110 0 1 := ⟨RX0, TX0, 7, tyX0, rfl, inX0, tyX0_ok, nmX0, by decide, by decide, lw_g_of 79 (by decide +kernel) (by decide +kernel)⟩
theorem flX9_123 : FLk RX9 123 3 11 := ⟨RX3, TX3, 16, tyX3, rfl, inX3, tyX3_ok, nmX3, by decide, by decide, lw_g_of 291 (by decide +kernel) (by decide +kernel)⟩
theorem flX9_126 : FLk RX9 126 3 12 := ⟨RX3, TX3, 16, tyX3, rfl, inX3, tyX3_ok, nmX3, by decide, by decide, lw_g_of 293 (by decide +kernel) (by decide +kernel)⟩
theorem flX9_129 : FLk RX9 129 3 10 := ⟨RX3, TX3, 16, tyX3, rfl, inX3, tyX3_ok, nmX3, by decide, by decide, lw_g_of 289 (by decide +kernel) (by decide +kernel)⟩
theorem flX9_132 : FLk RX9 132 4 1 := ⟨RX4, TX4, 7, tyX4, rfl, inX4, tyX4_ok, nmX4, by decide, by decide, lw_g_of 121 (by decide +kernel) (by decide +kernel)⟩
theorem flX9_140 : FLk RX9 140 4 4 := ⟨RX4, TX4, 7, tyX4, rfl, inX4, tyX4_ok, nmX4, by decide, by decide, lw_g_of 128 (by decide +kernel) (by decide +kernel)⟩
theorem flX9_151 : FLk RX9 151 0 3 := ⟨RX0, TX0, 7, tyX0, rfl, inX0, tyX0_ok, nmX0, by decide, by decide, lw_g_of 85 (by decide +kernel) (by decide +kernel)⟩
theorem flX9_154 : FLk RX9 154 3 4 := ⟨RX3, TX3, 16, tyX3, rfl, inX3, tyX3_ok, nmX3, by decide, by decide, lw_g_of 275 (by decide +kernel) (by decide +kernel)⟩
theorem flX9_157 : FLk RX9 157 4 5 := ⟨RX4, TX4, 7, tyX4, rfl, inX4, tyX4_ok, nmX4, by decide, by decide, lw_g_of 131 (by decide +kernel) (by decide +kernel)⟩
theorem flX9_160 : FLk RX9 160 4 6 := ⟨RX4, TX4, 7, tyX4, rfl, inX4, tyX4_ok, nmX4, by decide, by decide, lw_g_of 133 (by decide +kernel) (by decide +kernel)⟩
theorem flX9_163 : FLk RX9 163 3 8 := ⟨RX3, TX3, 16, tyX3, rfl, inX3, tyX3_ok, nmX3, by decide, by decide, lw_g_of 285 (by decide +kernel) (by decide +kernel)⟩
theorem flX9_170 : FLk RX9 170 3 7 := ⟨RX3, TX3, 16, tyX3, rfl, inX3, tyX3_ok, nmX3, by decide, by decide, lw_g_of 283 (by decide +kernel) (by decide +kernel)⟩
theorem flX9_179 : FLk RX9 179 7 5 := ⟨RX7, TX7, 6, tyX7, rfl, inX7, tyX7_ok, nmX7, by decide, by decide, lw_g_of 189 (by decide +kernel) (by decide +kernel)⟩
theorem flX9_191 : FLk RX9 191 7 4 := ⟨RX7, TX7, 6, tyX7, rfl, inX7, tyX7_ok, nmX7, by decide, by decide, lw_g_of 186 (by decide +kernel) (by decide +kernel)⟩
theorem flX9_194 : FLk RX9 194 1 1 := ⟨RX1, TX1, 3, tyX1, rfl, inX1, tyX1_ok, nmX1, by decide, by decide, lw_g_of 42 (by decide +kernel) (by decide +kernel)⟩
theorem flX9_199 : FLk RX9 199 1 2 := ⟨RX1, TX1, 3, tyX1, rfl, inX1, tyX1_ok, nmX1, by decide, by decide, lw_g_of 44 (by decide +kernel) (by decide +kernel)⟩
theorem flX9_202 : FLk RX9 202 3 14 := ⟨RX3, TX3, 16, tyX3, rfl, inX3, tyX3_ok, nmX3, by decide, by decide, lw_g_of 297 (by decide +kernel) (by decide +kernel)⟩
theorem flX9_205 : FLk RX9 205 3 13 := ⟨RX3, TX3, 16, tyX3, rfl, inX3, tyX3_ok, nmX3, by decide, by decide, lw_g_of 295 (by decide +kernel) (by decide +kernel)⟩
theorem flX9_221 : FLk RX9 221 7 2 := ⟨RX7, TX7, 6, tyX7, rfl, inX7, tyX7_ok, nmX7, by decide, by decide, lw_g_of 180 (by decide +kernel) (by decide +kernel)⟩
theorem flX11_7 : FLk RX11 7 11 1 := ⟨RX11, TX11, 62, tyX11, rfl, inX11, tyX11_ok, nmX11, by decide, by decide, lw_g_of 1038 (by decide +kernel) (by decide +kernel)⟩
theorem flX11_13 : FLk RX11 13 11 3 := ⟨RX11, TX11, 62, tyX11, rfl, inX11, tyX11_ok, nmX11, by decide, by decide, lw_g_of 1040 (by decide +kernel) (by decide +kernel)⟩
theorem flX11_16 : FLk RX11 16 11 4 := ⟨RX11, TX11, 62, tyX11, rfl, inX11, tyX11_ok, nmX11, by decide, by decide, lw_g_of 1041 (by decide +kernel) (by decide +kernel)⟩
theorem flX11_19 : FLk RX11 19 11 5 := ⟨RX11, TX11, 62, tyX11, rfl, inX11, tyX11_ok, nmX11, by decide, by decide, lw_g_of 1042 (by decide +kernel) (by decide +kernel)⟩
theorem flX11_22 : FLk RX11 22 11 6 := ⟨RX11, TX11, 62, tyX11, rfl, inX11, tyX11_ok, nmX11, by decide, by decide, lw_g_of 1043 (by decide +kernel) (by decide +kernel)⟩
theorem flX11_26 : FLk RX11 26 11 7 := ⟨RX11, TX11, 62, tyX11, rfl, inX11, tyX11_ok, nmX11, by decide, by decide, lw_g_of 1044 (by decide +kernel) (by decide +kernel)⟩
theorem flX11_30 : FLk RX11 30 11 21 := ⟨RX11, TX11, 62, tyX11, rfl, inX11, tyX11_ok, nmX11, by decide, by decide, lw_g_of 1058 (by decide +kernel) (by decide +kernel)⟩
theorem flX11_33 : FLk RX11 33 11 23 := ⟨RX11, TX11, 62, tyX11, rfl, inX11, tyX11_ok, nmX11, by decide, by decide, lw_g_of 1060 (by decide +kernel) (by decide +kernel)⟩
theorem flX11_36 : FLk RX11 36 11 26 := ⟨RX11, TX11, 62, tyX11, rfl, inX11, tyX11_ok, nmX11, by decide, by decide, lw_g_of 1063 (by decide +kernel) (by decide +kernel)⟩
theorem flX11_40 : FLk RX11 40 11 27 := ⟨RX11, TX11, 62, tyX11, rfl, inX11, tyX11_ok, nmX11, by decide, by decide, lw_g_of 1064 (by decide +kernel) (by decide +kernel)⟩
theorem flX11_43 : FLk RX11 43 11 31 := ⟨RX11, TX11, 62, tyX11, rfl, inX11, tyX11_ok, nmX11, by decide, by decide, lw_g_of 1068 (by decide +kernel) (by decide +kernel)⟩
theorem flX11_46 : FLk RX11 46 11 32 := ⟨RX11, TX11, 62, tyX11, rfl, inX11, tyX11_ok, nmX11, by decide, by decide, lw_g_of 1069 (by decide +kernel) (by decide +kernel)⟩
theorem flX11_49 : FLk RX11 49 11 34 := ⟨RX11, TX11, 62, tyX11, rfl, inX11, tyX11_ok, nmX11, by decide, by decide, lw_g_of 1071 (by decide +kernel) (by decide +kernel)⟩
theorem flX11_52 : FLk RX11 52 11 36 := ⟨RX11, TX11, 62, tyX11, rfl, inX11, tyX11_ok, nmX11, by decide, by decide, lw_g_of 1073 (by decide +kernel) (by decide +kernel)⟩
theorem flX11_55 : FLk RX11 55 11 37 := ⟨RX11, TX11, 62, tyX11, rfl, inX11, tyX11_ok, nmX11, by decide, by decide, lw_g_of 1074 (by decide +kernel) (by decide +kernel)⟩
theorem flX11_58 : FLk RX11 58 11 38 := ⟨RX11, TX11, 62, tyX11, rfl, inX11, tyX11_ok, nmX11, by decide, by decide, lw_g_of 1075 (by decide +kernel) (by decide +kernel)⟩
theorem flX11_61 : FLk RX11 61 11 39 := ⟨RX11, TX11, 62, tyX11, rfl, inX11, tyX11_ok, nmX11, by decide, by decide, lw_g_of 1076 (by decide +kernel) (by decide +kernel)⟩
theorem flX11_64 : FLk RX11 64 11 40 := ⟨RX11, TX11, 62, tyX11, rfl, inX11, tyX11_ok, nmX11, by decide, by decide, lw_g_of 1077 (by decide +kernel) (by decide +kernel)⟩
theorem flX11_67 : FLk RX11 67 11 42 := ⟨RX11, TX11, 62, tyX11, rfl, inX11, tyX11_ok, nmX11, by decide, by decide, lw_g_of 1079 (by decide +kernel) (by decide +kernel)⟩
theorem flX11_70 : FLk RX11 70 11 43 := ⟨RX11, TX11, 62, tyX11, rfl, inX11, tyX11_ok, nmX11, by decide, by decide, lw_g_of 1080 (by decide +kernel) (by decide +kernel)⟩
theorem flX11_73 : FLk RX11 73 11 44 := ⟨RX11, TX11, 62, tyX11, rfl, inX11, tyX11_ok, nmX11, by decide, by decide, lw_g_of 1081 (by decide +kernel) (by decide +kernel)⟩
theorem flX11_76 : FLk RX11 76 11 45 := ⟨RX11, TX11, 62, tyX11, rfl, inX11, tyX11_ok, nmX11, by decide, by decide, lw_g_of 1082 (by decide +kernel) (by decide +kernel)⟩
theorem flX11_79 : FLk RX11 79 11 46 := ⟨RX11, TX11, 62, tyX11, rfl, inX11, tyX11_ok, nmX11, by decide, by decide, lw_g_of 1083 (by decide +kernel) (by decide +kernel)⟩
theorem flX11_82 : FLk RX11 82 11 47 := ⟨RX11, TX11, 62, tyX11, rfl, inX11, tyX11_ok, nmX11, by decide, by decide, lw_g_of 1084 (by decide +kernel) (by decide +kernel)⟩
theorem flX11_85 : FLk RX11 85 11 48 := ⟨RX11, TX11, 62, tyX11, rfl, inX11, tyX11_ok, nmX11, by decide, by decide, lw_g_of 1085 (by decide +kernel) (by decide +kernel)⟩
theorem flX11_88 : FLk RX11 88 11 49 := ⟨RX11, TX11, 62, tyX11, rfl, inX11, tyX11_ok, nmX11, by decide, by decide, lw_g_of 1086 (by decide +kernel) (by decide +kernel)⟩
theorem flX11_91 : FLk RX11 91 11 50 := ⟨RX11, TX11, 62, tyX11, rfl, inX11, tyX11_ok, nmX11, by decide, by decide, lw_g_of 1087 (by decide +kernel) (by decide +kernel)⟩
theorem flX11_94 : FLk RX11 94 11 51 := ⟨RX11, TX11, 62, tyX11, rfl, inX11, tyX11_ok, nmX11, by decide, by decide, lw_g_of 1088 (by decide +kernel) (by decide +kernel)⟩
theorem flX11_97 : FLk RX11 97 11 53 := ⟨RX11, TX11, 62, tyX11, rfl, inX11, tyX11_ok, nmX11, by decide, by decide, lw_g_of 1090 (by decide +kernel) (by decide +kernel)⟩
theorem flX11_100 : FLk RX11 100 11 54 := ⟨RX11, TX11, 62, tyX11, rfl, inX11, tyX11_ok, nmX11, by decide, by decide, lw_g_of 1091 (by decide +kernel) (by decide +kernel)⟩
theorem flX11_103 : FLk RX11 103 11 55 := ⟨RX11, TX11, 62, tyX11, rfl, inX11, tyX11_ok, nmX11, by decide, by decide, lw_g_of 1092 (by decide +kernel) (by decide +kernel)⟩
theorem flX11_106 : FLk RX11 106 11 56 := ⟨RX11, TX11, 62, tyX11, rfl, inX11, tyX11_ok, nmX11, by decide, by decide, lw_g_of 1093 (by decide +kernel) (by decide +kernel)⟩
theorem flX11_109 : FLk RX11 109 11 57 := ⟨RX11, TX11, 62, tyX11, rfl, inX11, tyX11_ok, nmX11, by decide, by decide, lw_g_of 1094 (by decide +kernel) (by decide +kernel)⟩
theorem flX11_112 : FLk RX11 112 11 61 := ⟨RX11, TX11, 62, tyX11, rfl, inX11, tyX11_ok, nmX11, by decide, by decide, lw_g_of 1098 (by decide +kernel) (by decide +kernel)⟩
theorem flX11_115 : FLk RX11 115 11 0 := ⟨RX11, TX11, 62, tyX11, rfl, inX11, tyX11_ok, nmX11, by decide, by decide, lw_g_of 1037 (by decide +kernel) (by decide +kernel)⟩
theorem flX11_118 : FLk RX11 118 11 2 := ⟨RX11, TX11, 62, tyX11, rfl, inX11, tyX11_ok, nmX11, by decide, by decide, lw_g_of 1039 (by decide +kernel) (by decide +kernel)⟩
theorem flX11_121 : FLk RX11 121 11 14 := ⟨RX11, TX11, 62, tyX11, rfl, inX11, tyX11_ok, nmX11, by decide, by decide, lw_g_of 1051 (by decide +kernel) (by decide +kernel)⟩
theorem flX11_124 : FLk RX11 124 11 13 := ⟨RX11, TX11, 62, tyX11, rfl, inX11, tyX11_ok, nmX11, by decide, by decide, lw_g_of 1050 (by decide +kernel) (by decide +kernel)⟩
theorem flX11_131 : FLk RX11 131 11 15 := ⟨RX11, TX11, 62, tyX11, rfl, inX11, tyX11_ok, nmX11, by decide, by decide, lw_g_of 1052 (by decide +kernel) (by decide +kernel)⟩
theorem flX11_134 : FLk RX11 134 11 16 := ⟨RX11, TX11, 62, tyX11, rfl, inX11, tyX11_ok, nmX11, by decide, by decide, lw_g_of 1053 (by decide +kernel) (by decide +kernel)⟩
theorem flX11_144 : FLk RX11 144 11 17 := ⟨RX11, TX11, 62, tyX11, rfl, inX11, tyX11_ok, nmX11, by decide, by decide, lw_g_of 1054 (by decide +kernel) (by decide +kernel)⟩
theorem flX11_161 : FLk RX11 161 11 18 := ⟨RX11, TX11, 62, tyX11, rfl, inX11, tyX11_ok, nmX11, by decide, by decide, lw_g_of 1055 (by decide +kernel) (by decide +kernel)⟩
theorem flX11_164 : FLk RX11 164 11 19 := ⟨RX11, TX11, 62, tyX11, rfl, inX11, tyX11_ok, nmX11, by decide, by decide, lw_g_of 1056 (by decide +kernel) (by decide +kernel)⟩
theorem flX11_171 : FLk RX11 171 11 12 := ⟨RX11, TX11, 62, tyX11, rfl, inX11, tyX11_ok, nmX11, by decide, by decide, lw_g_of 1049 (by decide +kernel) (by decide +kernel)⟩
theorem flX11_177 : FLk RX11 177 11 8 := ⟨RX11, TX11, 62, tyX11, rfl, inX11, tyX11_ok, nmX11, by decide, by decide, lw_g_of 1045 (by decide +kernel) (by decide +kernel)⟩
theorem flX11_180 : FLk RX11 180 11 22 := ⟨RX11, TX11, 62, tyX11, rfl, inX11, tyX11_ok, nmX11, by decide, by decide, lw_g_of 1059 (by decide +kernel) (by decide +kernel)⟩
theorem flX11_189 : FLk RX11 189 11 11 := ⟨RX11, TX11, 62, tyX11, rfl, inX11, tyX11_ok, nmX11, by decide, by decide, lw_g_of 1048 (by decide +kernel) (by decide +kernel)⟩
theorem flX11_192 : FLk RX11 192 11 10 := ⟨RX11, TX11, 62, tyX11, rfl, inX11, tyX11_ok, nmX11, by decide, by decide, lw_g_of 1047 (by decide +kernel) (by decide +kernel)⟩
theorem flX11_195 : FLk RX11 195 11 24 := ⟨RX11, TX11, 62, tyX11, rfl, inX11, tyX11_ok, nmX11, by decide, by decide, lw_g_of 1061 (by decide +kernel) (by decide +kernel)⟩
theorem flX11_206 : FLk RX11 206 11 25 := ⟨RX11, TX11, 62, tyX11, rfl, inX11, tyX11_ok, nmX11, by decide, by decide, lw_g_of 1062 (by decide +kernel) (by decide +kernel)⟩
theorem flX11_231 : FLk RX11 231 11 20 := ⟨RX11, TX11, 62, tyX11, rfl, inX11, tyX11_ok, nmX11, by decide, by decide, lw_g_of 1057 (by decide +kernel) (by decide +kernel)⟩
theorem flX11_234 : FLk RX11 234 11 9 := ⟨RX11, TX11, 62, tyX11, rfl, inX11, tyX11_ok, nmX11, by decide, by decide, lw_g_of 1046 (by decide +kernel) (by decide +kernel)⟩
theorem flX11_237 : FLk RX11 237 11 28 := ⟨RX11, TX11, 62, tyX11, rfl, inX11, tyX11_ok, nmX11, by decide, by decide, lw_g_of 1065 (by decide +kernel) (by decide +kernel)⟩
theorem flX11_261 : FLk RX11 261 11 29 := ⟨RX11, TX11, 62, tyX11, rfl, inX11, tyX11_ok, nmX11, by decide, by decide, lw_g_of 1066 (by decide +kernel) (by decide +kernel)⟩
theorem flX11_264 : FLk RX11 264 11 30 := ⟨RX11, TX11, 62, tyX11, rfl, inX11, tyX11_ok, nmX11, by decide, by decide, lw_g_of 1067 (by decide +kernel) (by decide +kernel)⟩
theorem flX11_267 : FLk RX11 267 11 33 := ⟨RX11, TX11, 62, tyX11, rfl, inX11, tyX11_ok, nmX11, by decide, by decide, lw_g_of 1070 (by decide +kernel) (by decide +kernel)⟩
theorem flX11_270 : FLk RX11 270 11 35 := ⟨RX11, TX11, 62, tyX11, rfl, inX11, tyX11_ok, nmX11, by decide, by decide, lw_g_of 1072 (by decide +kernel) (by decide +kernel)⟩
theorem flX11_282 : FLk RX11 282 11 41 := ⟨RX11, TX11, 62, tyX11, rfl, inX11, tyX11_ok, nmX11, by decide, by decide, lw_g_of 1078 (by decide +kernel) (by decide +kernel)⟩
theorem flX11_302 : FLk RX11 302 11 52 := ⟨RX11, TX11, 62, tyX11, rfl, inX11, tyX11_ok, nmX11, by decide, by decide, lw_g_of 1089 (by decide +kernel) (by decide +kernel)⟩
theorem flX11_360 : FLk RX11 360 11 59 := ⟨RX11, TX11, 62, tyX11, rfl, inX11, tyX11_ok, nmX11, by decide, by decide, lw_g_of 1096 (by decide +kernel) (by decide +kernel)⟩
theorem flX11_363 : FLk RX11 363 11 58 := ⟨RX11, TX11, 62, tyX11, rfl, inX11, tyX11_ok, nmX11, by decide, by decide, lw_g_of 1095 (by decide +kernel) (by decide +kernel)⟩
theorem flX11_366 : FLk RX11 366 11 60 := ⟨RX11, TX11, 62, tyX11, rfl, inX11, tyX11_ok, nmX11, by decide, by decide, lw_g_of 1097 (by decide +kernel) (by decide +kernel)⟩
theorem gsX10_285 : Cond.fieldLink RX10 285 "ReportedCases" "SETS_WITHOUT" "[I" ∈ lw_g := lw_g_of 917 (by decide +kernel) (by decide +kernel)
theorem flJ0_9 : Cond.fieldLink RJ0 9 "java/lang/String" "value" "[B" ∈ lw_g := lw_g_of 1549 (by decide +kernel) (by decide +kernel)
theorem flJ0_15 : Cond.fieldLink RJ0 15 "java/lang/String" "coder" "B" ∈ lw_g := lw_g_of 1550 (by decide +kernel) (by decide +kernel)
theorem flJ0_38 : Cond.fieldLink RJ0 38 "java/lang/String" "COMPACT_STRINGS" "Z" ∈ lw_g := lw_g_of 487 (by decide +kernel) (by decide +kernel)
theorem flJ0_1053 : Cond.fieldLink RJ0 1053 "jdk/internal/util/Preconditions" "SIOOBE_FORMATTER" "Ljava/util/function/BiFunction;" ∈ lw_g := lw_g_of 503 (by decide +kernel) (by decide +kernel)
theorem mlX10_85 : Cond.methodLink RX10 85 yX10_tapeFour ∈ lw_g := lw_g_of 422 (by decide +kernel) (by decide +kernel)
theorem mlX10_89 : Cond.methodLink RX10 89 yX6_read ∈ lw_g := lw_g_of 430 (by decide +kernel) (by decide +kernel)
theorem mlX10_102 : Cond.methodLink RX10 102 yX10_isDay ∈ lw_g := lw_g_of 598 (by decide +kernel) (by decide +kernel)
theorem mlX10_109 : Cond.methodLink RX10 109 yX1_add ∈ lw_g := lw_g_of 605 (by decide +kernel) (by decide +kernel)
theorem mlX10_116 : Cond.methodLink RX10 116 yX10_isPoint ∈ lw_g := lw_g_of 617 (by decide +kernel) (by decide +kernel)
theorem mlX10_119 : Cond.methodLink RX10 119 yX5_areOpposed ∈ lw_g := lw_g_of 621 (by decide +kernel) (by decide +kernel)
theorem mlX10_123 : Cond.methodLink RX10 123 yX5_turnOpposed ∈ lw_g := lw_g_of 628 (by decide +kernel) (by decide +kernel)
theorem mlX10_127 : Cond.methodLink RX10 127 yX10_isCourt ∈ lw_g := lw_g_of 636 (by decide +kernel) (by decide +kernel)
theorem mlX10_130 : Cond.methodLink RX10 130 yX10_areFacts ∈ lw_g := lw_g_of 640 (by decide +kernel) (by decide +kernel)
theorem mlX10_133 : Cond.methodLink RX10 133 yX0_add ∈ lw_g := lw_g_of 643 (by decide +kernel) (by decide +kernel)
theorem mlX10_136 : Cond.methodLink RX10 136 yX10_isCase ∈ lw_g := lw_g_of 651 (by decide +kernel) (by decide +kernel)
theorem mlX10_142 : Cond.methodLink RX10 142 yX4_add ∈ lw_g := lw_g_of 655 (by decide +kernel) (by decide +kernel)
theorem mlX10_145 : Cond.methodLink RX10 145 yX0_isLater ∈ lw_g := lw_g_of 663 (by decide +kernel) (by decide +kernel)
theorem mlX10_149 : Cond.methodLink RX10 149 yX10_isAskable ∈ lw_g := lw_g_of 683 (by decide +kernel) (by decide +kernel)
theorem mlX10_153 : Cond.methodLink RX10 153 yX9_see ∈ lw_g := lw_g_of 687 (by decide +kernel) (by decide +kernel)
theorem mlX10_157 : Cond.methodLink RX10 157 yX9_goToDay ∈ lw_g := lw_g_of 838 (by decide +kernel) (by decide +kernel)
theorem mlX10_167 : Cond.methodLink RX10 167 yX9_standOf ∈ lw_g := lw_g_of 842 (by decide +kernel) (by decide +kernel)
theorem mlX10_171 : Cond.methodLink RX10 171 yX9_leaderOf ∈ lw_g := lw_g_of 851 (by decide +kernel) (by decide +kernel)
theorem mlX10_174 : Cond.methodLink RX10 174 yX9_isThere ∈ lw_g := lw_g_of 863 (by decide +kernel) (by decide +kernel)
theorem mlX10_177 : Cond.methodLink RX10 177 yX10_tellOf ∈ lw_g := lw_g_of 864 (by decide +kernel) (by decide +kernel)
theorem mlX10_180 : Cond.methodLink RX10 180 yX9_doesBind ∈ lw_g := lw_g_of 881 (by decide +kernel) (by decide +kernel)
theorem mlX10_183 : Cond.methodLink RX10 183 yX10_asNumber ∈ lw_g := lw_g_of 870 (by decide +kernel) (by decide +kernel)
theorem mlX10_187 : Cond.methodLink RX10 187 yX10_fewestToGiveUp ∈ lw_g := lw_g_of 886 (by decide +kernel) (by decide +kernel)
theorem mlX10_191 : Cond.methodLink RX10 191 yX3_sees ∈ lw_g := lw_g_of 899 (by decide +kernel) (by decide +kernel)
theorem mlX10_197 : Cond.methodLink RX10 197 yX10_markDifferences ∈ lw_g := lw_g_of 904 (by decide +kernel) (by decide +kernel)
theorem mlX10_200 : Cond.methodLink RX10 200 yX10_fewestThatTell ∈ lw_g := lw_g_of 919 (by decide +kernel) (by decide +kernel)
theorem mlX10_204 : Cond.methodLink RX10 204 yX3_see ∈ lw_g := lw_g_of 935 (by decide +kernel) (by decide +kernel)
theorem mlX10_237 : Cond.methodLink RX10 237 yX9_votesFor ∈ lw_g := lw_g_of 868 (by decide +kernel) (by decide +kernel)
theorem mlX10_240 : Cond.methodLink RX10 240 yX9_isHeld ∈ lw_g := lw_g_of 869 (by decide +kernel) (by decide +kernel)
theorem mlX10_244 : Cond.methodLink RX10 244 yX9_isOverruled ∈ lw_g := lw_g_of 873 (by decide +kernel) (by decide +kernel)
theorem mlX10_247 : Cond.methodLink RX10 247 yX9_doubtsOf ∈ lw_g := lw_g_of 874 (by decide +kernel) (by decide +kernel)
theorem mlX10_250 : Cond.methodLink RX10 250 yX9_isTaken ∈ lw_g := lw_g_of 875 (by decide +kernel) (by decide +kernel)
theorem mlX10_256 : Cond.methodLink RX10 256 yX10_has ∈ lw_g := lw_g_of 876 (by decide +kernel) (by decide +kernel)
theorem mlX10_262 : Cond.methodLink RX10 262 yJ6_bitCount_0f7a4 ∈ lw_g := lw_g_of 890 (by decide +kernel) (by decide +kernel)
theorem mlX10_267 : Cond.methodLink RX10 267 yX10_areAtPeace ∈ lw_g := lw_g_of 891 (by decide +kernel) (by decide +kernel)
theorem mlX10_273 : Cond.methodLink RX10 273 yJ7_fill_53178 ∈ lw_g := lw_g_of 908 (by decide +kernel) (by decide +kernel)
theorem mlX10_279 : Cond.methodLink RX10 279 yX10_mark ∈ lw_g := lw_g_of 909 (by decide +kernel) (by decide +kernel)
theorem mlX10_282 : Cond.methodLink RX10 282 yX10_spreadMarks ∈ lw_g := lw_g_of 913 (by decide +kernel) (by decide +kernel)
theorem mlX10_288 : Cond.methodLink RX10 288 yX10_isMarked ∈ lw_g := lw_g_of 923 (by decide +kernel) (by decide +kernel)
theorem mlX2_23 : Cond.methodLink RX2 23 yX2_work ∈ lw_g := lw_g_of 824 (by decide +kernel) (by decide +kernel)
theorem mlX3_57 : Cond.methodLink RX3 57 yX3_seeCases ∈ lw_g := lw_g_of 695 (by decide +kernel) (by decide +kernel)
theorem mlX3_61 : Cond.methodLink RX3 61 yX3_seeNotes ∈ lw_g := lw_g_of 699 (by decide +kernel) (by decide +kernel)
theorem mlX3_65 : Cond.methodLink RX3 65 yX3_seeJoinings ∈ lw_g := lw_g_of 712 (by decide +kernel) (by decide +kernel)
theorem mlX3_68 : Cond.methodLink RX3 68 yX3_seeOpposed ∈ lw_g := lw_g_of 728 (by decide +kernel) (by decide +kernel)
theorem mlX3_71 : Cond.methodLink RX3 71 yX3_seeOpinions ∈ lw_g := lw_g_of 736 (by decide +kernel) (by decide +kernel)
theorem mlX3_74 : Cond.methodLink RX3 74 yX3_seeTreatments ∈ lw_g := lw_g_of 744 (by decide +kernel) (by decide +kernel)
theorem mlX3_77 : Cond.methodLink RX3 77 yX3_seeStatutes ∈ lw_g := lw_g_of 751 (by decide +kernel) (by decide +kernel)
theorem mlX3_84 : Cond.methodLinkNest RX3 84 yX10_has "ReportedCases" ∈ gnestM := List.mem_filter.mpr ⟨List.mem_append_right _ (List.mem_of_getElem? (i := 711) (by decide +kernel)), rfl⟩
theorem mlX3_100 : Cond.methodLink RX3 100 yX3_isOfSeenCases ∈ lw_g := lw_g_of 703 (by decide +kernel) (by decide +kernel)
theorem mlX3_113 : Cond.methodLink RX3 113 yX3_sees ∈ lw_g := lw_g_of 707 (by decide +kernel) (by decide +kernel)
theorem mlX3_119 : Cond.methodLink RX3 119 yX3_counts ∈ lw_g := lw_g_of 716 (by decide +kernel) (by decide +kernel)
theorem mlX3_124 : Cond.methodLink RX3 124 yJ9_max_7cf53 ∈ lw_g := lw_g_of 720 (by decide +kernel) (by decide +kernel)
theorem mlX3_130 : Cond.methodLink RX3 130 yJ9_min_7cf53 ∈ lw_g := lw_g_of 723 (by decide +kernel) (by decide +kernel)
theorem mlX3_133 : Cond.methodLink RX3 133 yX3_rename ∈ lw_g := lw_g_of 724 (by decide +kernel) (by decide +kernel)
theorem mlX3_136 : Cond.methodLink RX3 136 yJ7_fill_53178 ∈ lw_g := lw_g_of 732 (by decide +kernel) (by decide +kernel)
theorem mlX3_142 : Cond.methodLink RX3 142 yX5_areOpposed ∈ lw_g := lw_g_of 735 (by decide +kernel) (by decide +kernel)
theorem mlX3_145 : Cond.methodLink RX3 145 yX3_isOpinion ∈ lw_g := lw_g_of 740 (by decide +kernel) (by decide +kernel)
theorem mlX3_148 : Cond.methodLink RX3 148 yX3_placeOf ∈ lw_g := lw_g_of 748 (by decide +kernel) (by decide +kernel)
theorem mlX5_15 : Cond.methodLinkNest RX5 15 yX10_has "ReportedCases" ∈ gnestM := List.mem_filter.mpr ⟨List.mem_append_right _ (List.mem_of_getElem? (i := 625) (by decide +kernel)), rfl⟩
theorem mlX6_33 : Cond.methodLink RX6 33 yX7_clear ∈ lw_g := lw_g_of 434 (by decide +kernel) (by decide +kernel)
theorem mlX6_38 : Cond.methodLink RX6 38 yX8_start ∈ lw_g := lw_g_of 442 (by decide +kernel) (by decide +kernel)
theorem mlX6_45 : Cond.methodLink RX6 45 yX6_readLine ∈ lw_g := lw_g_of 538 (by decide +kernel) (by decide +kernel)
theorem mlX6_49 : Cond.methodLink RX6 49 yX6_fail ∈ lw_g := lw_g_of 542 (by decide +kernel) (by decide +kernel)
theorem mlX6_71 : Cond.methodLink RX6 71 yX8_advance ∈ lw_g := lw_g_of 546 (by decide +kernel) (by decide +kernel)
theorem mlX6_74 : Cond.methodLink RX6 74 yX6_readDoubts ∈ lw_g := lw_g_of 547 (by decide +kernel) (by decide +kernel)
theorem mlX6_77 : Cond.methodLink RX6 77 yX6_readFormula ∈ lw_g := lw_g_of 551 (by decide +kernel) (by decide +kernel)
theorem mlX6_93 : Cond.methodLink RX6 93 yX6_release ∈ lw_g := lw_g_of 555 (by decide +kernel) (by decide +kernel)
theorem mlX6_96 : Cond.methodLink RX6 96 yX6_isStillWantedBehind ∈ lw_g := lw_g_of 566 (by decide +kernel) (by decide +kernel)
theorem mlX6_100 : Cond.methodLink RX6 100 yX6_isWantedBehindSign ∈ lw_g := lw_g_of 586 (by decide +kernel) (by decide +kernel)
theorem mlX6_103 : Cond.methodLink RX6 103 yX6_openOne ∈ lw_g := lw_g_of 570 (by decide +kernel) (by decide +kernel)
theorem mlX6_106 : Cond.methodLink RX6 106 yX6_lastWaiting ∈ lw_g := lw_g_of 578 (by decide +kernel) (by decide +kernel)
theorem mlX6_110 : Cond.methodLink RX6 110 yX6_strengthOf ∈ lw_g := lw_g_of 559 (by decide +kernel) (by decide +kernel)
theorem mlX6_114 : Cond.methodLink RX6 114 yX6_tieKnot ∈ lw_g := lw_g_of 582 (by decide +kernel) (by decide +kernel)
theorem mlX6_118 : Cond.methodLink RX6 118 yX6_await ∈ lw_g := lw_g_of 574 (by decide +kernel) (by decide +kernel)
theorem mlX6_121 : Cond.methodLink RX6 121 yX2_add ∈ lw_g := lw_g_of 562 (by decide +kernel) (by decide +kernel)
theorem mlX7_35 : Cond.methodLink RX7 35 yX2_clear ∈ lw_g := lw_g_of 438 (by decide +kernel) (by decide +kernel)
theorem mlX8_15 : Cond.methodLink RX8 15 yJ9_min_7cf53 ∈ lw_g := lw_g_of 446 (by decide +kernel) (by decide +kernel)
theorem mlX8_28 : Cond.methodLink RX8 28 yX8_advance ∈ lw_g := lw_g_of 449 (by decide +kernel) (by decide +kernel)
theorem mlX8_37 : Cond.methodLink RX8 37 yX8_takeWord ∈ lw_g := lw_g_of 453 (by decide +kernel) (by decide +kernel)
theorem mlX8_40 : Cond.methodLink RX8 40 yX8_takeNumber ∈ lw_g := lw_g_of 527 (by decide +kernel) (by decide +kernel)
theorem mlX8_43 : Cond.methodLink RX8 43 yX8_takeSign ∈ lw_g := lw_g_of 531 (by decide +kernel) (by decide +kernel)
theorem mlX8_46 : Cond.methodLink RX8 46 yX8_wordOf ∈ lw_g := lw_g_of 457 (by decide +kernel) (by decide +kernel)
theorem mlX8_50 : Cond.methodLink RX8 50 yX8_isSpelt ∈ lw_g := lw_g_of 475 (by decide +kernel) (by decide +kernel)
theorem mlX8_54 : Cond.methodLink RX8 54 yJ0_length_8abf5 ∈ lw_g := lw_g_of 479 (by decide +kernel) (by decide +kernel)
theorem mlX8_59 : Cond.methodLink RX8 59 yJ0_charAt_5068e ∈ lw_g := lw_g_of 489 (by decide +kernel) (by decide +kernel)
theorem mlX8_66 : Cond.methodLink RX8 66 yX8_signOf ∈ lw_g := lw_g_of 535 (by decide +kernel) (by decide +kernel)
theorem mlX9_48 : Cond.methodLink RX9 48 yX3_see ∈ lw_g := lw_g_of 691 (by decide +kernel) (by decide +kernel)
theorem mlX9_61 : Cond.methodLink RX9 61 yX3_sees ∈ lw_g := lw_g_of 755 (by decide +kernel) (by decide +kernel)
theorem mlX9_65 : Cond.methodLink RX9 65 yX9_findMissed ∈ lw_g := lw_g_of 756 (by decide +kernel) (by decide +kernel)
theorem mlX9_71 : Cond.methodLink RX9 71 yX9_goTo ∈ lw_g := lw_g_of 779 (by decide +kernel) (by decide +kernel)
theorem mlX9_77 : Cond.methodLinkNest RX9 77 yX10_has "ReportedCases" ∈ gnestM := List.mem_filter.mpr ⟨List.mem_append_right _ (List.mem_of_getElem? (i := 760) (by decide +kernel)), rfl⟩
theorem mlX9_87 : Cond.methodLink RX9 87 yX9_isThere ∈ lw_g := lw_g_of 783 (by decide +kernel) (by decide +kernel)
theorem mlX9_93 : Cond.methodLink RX9 93 yX9_alive ∈ lw_g := lw_g_of 787 (by decide +kernel) (by decide +kernel)
theorem mlX9_103 : Cond.methodLink RX9 103 yX9_isHeld ∈ lw_g := lw_g_of 761 (by decide +kernel) (by decide +kernel)
theorem mlX9_112 : Cond.methodLink RX9 112 yX9_bindersOf ∈ lw_g := lw_g_of 791 (by decide +kernel) (by decide +kernel)
theorem mlX9_116 : Cond.methodLink RX9 116 yX9_isLaid ∈ lw_g := lw_g_of 834 (by decide +kernel) (by decide +kernel)
theorem mlX9_119 : Cond.methodLink RX9 119 yX9_weightOf ∈ lw_g := lw_g_of 795 (by decide +kernel) (by decide +kernel)
theorem mlX9_137 : Cond.methodLink RX9 137 yX9_speaks ∈ lw_g := lw_g_of 769 (by decide +kernel) (by decide +kernel)
theorem mlX9_143 : Cond.methodLink RX9 143 yJ6_bitCount_0f7a4 ∈ lw_g := lw_g_of 773 (by decide +kernel) (by decide +kernel)
theorem mlX9_148 : Cond.methodLink RX9 148 yX9_votesFor ∈ lw_g := lw_g_of 765 (by decide +kernel) (by decide +kernel)
theorem mlX9_166 : Cond.methodLink RX9 166 yX3_placeOf ∈ lw_g := lw_g_of 811 (by decide +kernel) (by decide +kernel)
theorem mlX9_173 : Cond.methodLink RX9 173 yX9_nameSides ∈ lw_g := lw_g_of 812 (by decide +kernel) (by decide +kernel)
theorem mlX9_176 : Cond.methodLink RX9 176 yX9_doubtsOf ∈ lw_g := lw_g_of 816 (by decide +kernel) (by decide +kernel)
theorem mlX9_185 : Cond.methodLink RX9 185 yX2_isTrue ∈ lw_g := lw_g_of 820 (by decide +kernel) (by decide +kernel)
theorem mlX9_208 : Cond.methodLink RX9 208 yX9_isSpokenOf ∈ lw_g := lw_g_of 799 (by decide +kernel) (by decide +kernel)
theorem mlX9_211 : Cond.methodLink RX9 211 yX9_isTaken ∈ lw_g := lw_g_of 803 (by decide +kernel) (by decide +kernel)
theorem mlX9_214 : Cond.methodLink RX9 214 yX9_isOverruled ∈ lw_g := lw_g_of 807 (by decide +kernel) (by decide +kernel)
theorem mlX9_217 : Cond.methodLink RX9 217 yX9_doesBind ∈ lw_g := lw_g_of 830 (by decide +kernel) (by decide +kernel)
theorem mlX9_224 : Cond.methodLink RX9 224 yJ9_max_7cf53 ∈ lw_g := lw_g_of 846 (by decide +kernel) (by decide +kernel)
theorem mlX9_229 : Cond.methodLink RX9 229 yX9_rankOf ∈ lw_g := lw_g_of 855 (by decide +kernel) (by decide +kernel)
theorem mlX11_127 : Cond.methodLink RX11 127 yX11_here ∈ lw_g := lw_g_of 1241 (by decide +kernel) (by decide +kernel)
theorem mlX11_137 : Cond.methodLink RX11 137 yX11_isSmall ∈ lw_g := lw_g_of 1245 (by decide +kernel) (by decide +kernel)
theorem mlX11_141 : Cond.methodLink RX11 141 yX11_word ∈ lw_g := lw_g_of 1248 (by decide +kernel) (by decide +kernel)
theorem mlX11_147 : Cond.methodLink RX11 147 yX11_isDigit ∈ lw_g := lw_g_of 1255 (by decide +kernel) (by decide +kernel)
theorem mlX11_152 : Cond.methodLink RX11 152 yJ0_length_8abf5 ∈ lw_g := lw_g_of 1253 (by decide +kernel) (by decide +kernel)
theorem mlX11_157 : Cond.methodLink RX11 157 yJ0_charAt_5068e ∈ lw_g := lw_g_of 1254 (by decide +kernel) (by decide +kernel)
theorem mlX11_167 : Cond.methodLink RX11 167 yX11_wrong ∈ lw_g := lw_g_of 1262 (by decide +kernel) (by decide +kernel)
theorem mlX11_174 : Cond.methodLink RX11 174 yX11_next ∈ lw_g := lw_g_of 1237 (by decide +kernel) (by decide +kernel)
theorem mlX11_183 : Cond.methodLink RX11 183 yX11_expression ∈ lw_g := lw_g_of 1266 (by decide +kernel) (by decide +kernel)
theorem mlX11_186 : Cond.methodLink RX11 186 yX11_isSign ∈ lw_g := lw_g_of 1282 (by decide +kernel) (by decide +kernel)
theorem mlX11_198 : Cond.methodLink RX11 198 yX11_bind ∈ lw_g := lw_g_of 1290 (by decide +kernel) (by decide +kernel)
theorem mlX11_202 : Cond.methodLink RX11 202 yX11_out ∈ lw_g := lw_g_of 1278 (by decide +kernel) (by decide +kernel)
theorem mlX11_209 : Cond.methodLink RX11 209 yX11_operand ∈ lw_g := lw_g_of 1270 (by decide +kernel) (by decide +kernel)
theorem mlX11_213 : Cond.methodLink RX11 213 yX11_between ∈ lw_g := lw_g_of 1293 (by decide +kernel) (by decide +kernel)
theorem mlX11_216 : Cond.methodLink RX11 216 yX11_sign ∈ lw_g := lw_g_of 1297 (by decide +kernel) (by decide +kernel)
theorem mlX11_219 : Cond.methodLink RX11 219 yX11_pour ∈ lw_g := lw_g_of 1301 (by decide +kernel) (by decide +kernel)
theorem mlX11_222 : Cond.methodLink RX11 222 yX11_knot ∈ lw_g := lw_g_of 1274 (by decide +kernel) (by decide +kernel)
theorem mlX11_225 : Cond.methodLink RX11 225 yX11_waits ∈ lw_g := lw_g_of 1286 (by decide +kernel) (by decide +kernel)
theorem mlX11_228 : Cond.methodLink RX11 228 yX11_lineOf ∈ lw_g := lw_g_of 1258 (by decide +kernel) (by decide +kernel)
theorem mlX11_244 : Cond.methodLink RX11 244 yX11_is ∈ lw_g := lw_g_of 1436 (by decide +kernel) (by decide +kernel)
theorem mlX11_248 : Cond.methodLink RX11 248 yX11_puts ∈ lw_g := lw_g_of 1447 (by decide +kernel) (by decide +kernel)
theorem mlX11_252 : Cond.methodLink RX11 252 yJ9_abs_067f4 ∈ lw_g := lw_g_of 1453 (by decide +kernel) (by decide +kernel)
theorem mlX11_258 : Cond.methodLink RX11 258 yX11_does ∈ lw_g := lw_g_of 1443 (by decide +kernel) (by decide +kernel)
theorem mlX11_273 : Cond.methodLink RX11 273 yX11_isPoint ∈ lw_g := lw_g_of 1325 (by decide +kernel) (by decide +kernel)
theorem mlX11_276 : Cond.methodLink RX11 276 yX11_isCourt ∈ lw_g := lw_g_of 1333 (by decide +kernel) (by decide +kernel)
theorem mlX11_279 : Cond.methodLink RX11 279 yX11_isFacts ∈ lw_g := lw_g_of 1337 (by decide +kernel) (by decide +kernel)
theorem mlX11_285 : Cond.methodLink RX11 285 yX11_isCase ∈ lw_g := lw_g_of 1344 (by decide +kernel) (by decide +kernel)
theorem mlX11_288 : Cond.methodLink RX11 288 yX11_note ∈ lw_g := lw_g_of 1348 (by decide +kernel) (by decide +kernel)
theorem mlX11_292 : Cond.methodLink RX11 292 yX11_isLater ∈ lw_g := lw_g_of 1356 (by decide +kernel) (by decide +kernel)
theorem mlX11_296 : Cond.methodLink RX11 296 yX11_isDay ∈ lw_g := lw_g_of 1364 (by decide +kernel) (by decide +kernel)
theorem mlX11_299 : Cond.methodLink RX11 299 yX11_joins ∈ lw_g := lw_g_of 1387 (by decide +kernel) (by decide +kernel)
theorem mlX11_305 : Cond.methodLink RX11 305 yX11_blinds ∈ lw_g := lw_g_of 1393 (by decide +kernel) (by decide +kernel)
theorem mlX11_308 : Cond.methodLink RX11 308 yJ9_min_7cf53 ∈ lw_g := lw_g_of 1391 (by decide +kernel) (by decide +kernel)
theorem mlX11_312 : Cond.methodLink RX11 312 yJ9_max_7cf53 ∈ lw_g := lw_g_of 1392 (by decide +kernel) (by decide +kernel)
theorem mlX11_315 : Cond.methodLink RX11 315 yX11_bits ∈ lw_g := lw_g_of 1409 (by decide +kernel) (by decide +kernel)
theorem mlX11_318 : Cond.methodLink RX11 318 yX11_votes ∈ lw_g := lw_g_of 1405 (by decide +kernel) (by decide +kernel)
theorem mlX11_322 : Cond.methodLink RX11 322 yX11_doubts ∈ lw_g := lw_g_of 1428 (by decide +kernel) (by decide +kernel)
theorem mlX11_325 : Cond.methodLink RX11 325 yX11_name ∈ lw_g := lw_g_of 1432 (by decide +kernel) (by decide +kernel)
theorem mlX11_329 : Cond.methodLink RX11 329 yX11_holdsE ∈ lw_g := lw_g_of 1439 (by decide +kernel) (by decide +kernel)
theorem mlX11_332 : Cond.methodLink RX11 332 yX11_isHeld ∈ lw_g := lw_g_of 1401 (by decide +kernel) (by decide +kernel)
theorem mlX11_336 : Cond.methodLink RX11 336 yX11_isOverruled ∈ lw_g := lw_g_of 1424 (by decide +kernel) (by decide +kernel)
theorem mlX11_339 : Cond.methodLink RX11 339 yX11_isTaken ∈ lw_g := lw_g_of 1456 (by decide +kernel) (by decide +kernel)
theorem mlX11_342 : Cond.methodLink RX11 342 yX11_undoes ∈ lw_g := lw_g_of 1397 (by decide +kernel) (by decide +kernel)
theorem mlX11_345 : Cond.methodLink RX11 345 yX11_forgets ∈ lw_g := lw_g_of 1412 (by decide +kernel) (by decide +kernel)
theorem mlX11_349 : Cond.methodLink RX11 349 yX11_isLaid ∈ lw_g := lw_g_of 1416 (by decide +kernel) (by decide +kernel)
theorem mlX11_352 : Cond.methodLink RX11 352 yX11_isGood ∈ lw_g := lw_g_of 1420 (by decide +kernel) (by decide +kernel)
theorem mlX11_356 : Cond.methodLink RX11 356 yX11_isBinding ∈ lw_g := lw_g_of 1460 (by decide +kernel) (by decide +kernel)
theorem mlX11_369 : Cond.methodLink RX11 369 yX11_isBefore ∈ lw_g := lw_g_of 1472 (by decide +kernel) (by decide +kernel)
theorem mlX11_372 : Cond.methodLink RX11 372 yX11_hasSaid ∈ lw_g := lw_g_of 1476 (by decide +kernel) (by decide +kernel)
theorem mlX11_375 : Cond.methodLink RX11 375 yX11_isAsked ∈ lw_g := lw_g_of 1379 (by decide +kernel) (by decide +kernel)
theorem mlX11_379 : Cond.methodLink RX11 379 yX11_knows ∈ lw_g := lw_g_of 1383 (by decide +kernel) (by decide +kernel)
theorem mlX11_382 : Cond.methodLink RX11 382 yX11_asOf ∈ lw_g := lw_g_of 1464 (by decide +kernel) (by decide +kernel)
theorem mlX11_384 : Cond.methodLink RX11 384 yX11_standOf ∈ lw_g := lw_g_of 1468 (by decide +kernel) (by decide +kernel)
theorem mlX11_387 : Cond.methodLink RX11 387 yX11_isThere ∈ lw_g := lw_g_of 1488 (by decide +kernel) (by decide +kernel)
theorem mlX11_390 : Cond.methodLink RX11 390 yX11_isPeace ∈ lw_g := lw_g_of 1500 (by decide +kernel) (by decide +kernel)
theorem mlX11_393 : Cond.methodLink RX11 393 yX11_parts ∈ lw_g := lw_g_of 1512 (by decide +kernel) (by decide +kernel)
theorem mlJ0_335 : Cond.methodLink RJ0 335 yJ0_coder_7d493 ∈ lw_g := lw_g_of 483 (by decide +kernel) (by decide +kernel)
theorem mlJ0_492 : Cond.methodLink RJ0 492 yJ0_isLatin1_aae02 ∈ lw_g := lw_g_of 493 (by decide +kernel) (by decide +kernel)
theorem mlJ0_495 : Cond.methodLink RJ0 495 yJ1_charAt_3b067 ∈ lw_g := lw_g_of 497 (by decide +kernel) (by decide +kernel)
theorem mlJ0_1059 : Cond.methodLink RJ0 1059 yJ3_checkIndex_8e157 ∈ lw_g := lw_g_of 505 (by decide +kernel) (by decide +kernel)
theorem mlJ1_9 : Cond.methodLink RJ1 9 yJ0_checkIndex_df160 ∈ lw_g := lw_g_of 500 (by decide +kernel) (by decide +kernel)
theorem fpX10_44 : FPk RX10 44 10 8 (.object "ReportedCases$RuleSet") := ⟨RX10, TX10, 13, tyX10, rfl, inX10, tyX10_ok, nmX10, by decide, by decide, lw_g_of 386 (by decide +kernel) (by decide +kernel), rfl, by decide +kernel⟩
theorem fpX10_48 : FPk RX10 48 10 9 (.object "ReportedCases$RuleSet") := ⟨RX10, TX10, 13, tyX10, rfl, inX10, tyX10_ok, nmX10, by decide, by decide, lw_g_of 387 (by decide +kernel) (by decide +kernel), rfl, by decide +kernel⟩
theorem fpX10_81 : FPk RX10 81 10 1 .int := ⟨RX10, TX10, 13, tyX10, rfl, inX10, tyX10_ok, nmX10, by decide, by decide, lw_g_of 379 (by decide +kernel) (by decide +kernel), rfl, by decide +kernel⟩
theorem fpX10_106 : FPk RX10 106 10 2 .int := ⟨RX10, TX10, 13, tyX10, rfl, inX10, tyX10_ok, nmX10, by decide, by decide, lw_g_of 380 (by decide +kernel) (by decide +kernel), rfl, by decide +kernel⟩
theorem fpX10_113 : FPk RX10 113 5 0 .int := ⟨RX5, TX5, 2, tyX5, rfl, inX5, tyX5_ok, nmX5, by decide, by decide, lw_g_of 60 (by decide +kernel) (by decide +kernel), rfl, by decide +kernel⟩
theorem fpX0_30 : FPk RX0 30 0 0 .int := ⟨RX0, TX0, 7, tyX0, rfl, inX0, tyX0_ok, nmX0, by decide, by decide, lw_g_of 74 (by decide +kernel) (by decide +kernel), rfl, by decide +kernel⟩
theorem fpX1_18 : FPk RX1 18 1 0 .int := ⟨RX1, TX1, 3, tyX1, rfl, inX1, tyX1_ok, nmX1, by decide, by decide, lw_g_of 39 (by decide +kernel) (by decide +kernel), rfl, by decide +kernel⟩
theorem fpX2_15 : FPk RX2 15 2 0 .boolean := ⟨RX2, TX2, 3, tyX2, rfl, inX2, tyX2_ok, nmX2, by decide, by decide, lw_g_of 161 (by decide +kernel) (by decide +kernel), rfl, by decide +kernel⟩
theorem fpX2_19 : FPk RX2 19 2 1 .int := ⟨RX2, TX2, 3, tyX2, rfl, inX2, tyX2_ok, nmX2, by decide, by decide, lw_g_of 163 (by decide +kernel) (by decide +kernel), rfl, by decide +kernel⟩
theorem fpX3_80 : FPk RX3 80 3 3 .int := ⟨RX3, TX3, 16, tyX3, rfl, inX3, tyX3_ok, nmX3, by decide, by decide, lw_g_of 273 (by decide +kernel) (by decide +kernel), rfl, by decide +kernel⟩
theorem fpX3_151 : FPk RX3 151 3 14 .int := ⟨RX3, TX3, 16, tyX3, rfl, inX3, tyX3_ok, nmX3, by decide, by decide, lw_g_of 296 (by decide +kernel) (by decide +kernel), rfl, by decide +kernel⟩
theorem fpX4_30 : FPk RX4 30 4 0 .int := ⟨RX4, TX4, 7, tyX4, rfl, inX4, tyX4_ok, nmX4, by decide, by decide, lw_g_of 116 (by decide +kernel) (by decide +kernel), rfl, by decide +kernel⟩
theorem fpX6_9 : FPk RX6 9 6 1 .int := ⟨RX6, TX6, 7, tyX6, rfl, inX6, tyX6_ok, nmX6, by decide, by decide, lw_g_of 239 (by decide +kernel) (by decide +kernel), rfl, by decide +kernel⟩
theorem fpX6_26 : FPk RX6 26 6 3 (.object "ReportedCases$RuleSet") := ⟨RX6, TX6, 7, tyX6, rfl, inX6, tyX6_ok, nmX6, by decide, by decide, lw_g_of 242 (by decide +kernel) (by decide +kernel), rfl, by decide +kernel⟩
theorem fpX6_30 : FPk RX6 30 6 0 .int := ⟨RX6, TX6, 7, tyX6, rfl, inX6, tyX6_ok, nmX6, by decide, by decide, lw_g_of 237 (by decide +kernel) (by decide +kernel), rfl, by decide +kernel⟩
theorem fpX6_59 : FPk RX6 59 7 3 .boolean := ⟨RX7, TX7, 6, tyX7, rfl, inX7, tyX7_ok, nmX7, by decide, by decide, lw_g_of 183 (by decide +kernel) (by decide +kernel), rfl, by decide +kernel⟩
theorem fpX6_63 : FPk RX6 63 2 0 .boolean := ⟨RX2, TX2, 3, tyX2, rfl, inX2, tyX2_ok, nmX2, by decide, by decide, lw_g_of 162 (by decide +kernel) (by decide +kernel), rfl, by decide +kernel⟩
theorem fpX6_68 : FPk RX6 68 7 0 .int := ⟨RX7, TX7, 6, tyX7, rfl, inX7, tyX7_ok, nmX7, by decide, by decide, lw_g_of 174 (by decide +kernel) (by decide +kernel), rfl, by decide +kernel⟩
theorem fpX6_84 : FPk RX6 84 7 2 .int := ⟨RX7, TX7, 6, tyX7, rfl, inX7, tyX7_ok, nmX7, by decide, by decide, lw_g_of 179 (by decide +kernel) (by decide +kernel), rfl, by decide +kernel⟩
theorem fpX6_87 : FPk RX6 87 6 5 .int := ⟨RX6, TX6, 7, tyX6, rfl, inX6, tyX6_ok, nmX6, by decide, by decide, lw_g_of 244 (by decide +kernel) (by decide +kernel), rfl, by decide +kernel⟩
theorem fpX6_90 : FPk RX6 90 6 6 .int := ⟨RX6, TX6, 7, tyX6, rfl, inX6, tyX6_ok, nmX6, by decide, by decide, lw_g_of 245 (by decide +kernel) (by decide +kernel), rfl, by decide +kernel⟩
theorem fpX6_124 : FPk RX6 124 7 1 .int := ⟨RX7, TX7, 6, tyX7, rfl, inX7, tyX7_ok, nmX7, by decide, by decide, lw_g_of 176 (by decide +kernel) (by decide +kernel), rfl, by decide +kernel⟩
theorem fpX7_9 : FPk RX7 9 7 2 .int := ⟨RX7, TX7, 6, tyX7, rfl, inX7, tyX7_ok, nmX7, by decide, by decide, lw_g_of 178 (by decide +kernel) (by decide +kernel), rfl, by decide +kernel⟩
theorem fpX7_25 : FPk RX7 25 7 0 .int := ⟨RX7, TX7, 6, tyX7, rfl, inX7, tyX7_ok, nmX7, by decide, by decide, lw_g_of 172 (by decide +kernel) (by decide +kernel), rfl, by decide +kernel⟩
theorem fpX7_28 : FPk RX7 28 7 1 .int := ⟨RX7, TX7, 6, tyX7, rfl, inX7, tyX7_ok, nmX7, by decide, by decide, lw_g_of 175 (by decide +kernel) (by decide +kernel), rfl, by decide +kernel⟩
theorem fpX7_31 : FPk RX7 31 7 3 .boolean := ⟨RX7, TX7, 6, tyX7, rfl, inX7, tyX7_ok, nmX7, by decide, by decide, lw_g_of 182 (by decide +kernel) (by decide +kernel), rfl, by decide +kernel⟩
theorem fpX8_9 : FPk RX8 9 8 0 (.array .byte) := ⟨RX8, TX8, 6, tyX8, rfl, inX8, tyX8_ok, nmX8, by decide, by decide, lw_g_of 215 (by decide +kernel) (by decide +kernel), rfl, by decide +kernel⟩
theorem fpX8_21 : FPk RX8 21 8 1 .int := ⟨RX8, TX8, 6, tyX8, rfl, inX8, tyX8_ok, nmX8, by decide, by decide, lw_g_of 216 (by decide +kernel) (by decide +kernel), rfl, by decide +kernel⟩
theorem fpX8_25 : FPk RX8 25 8 2 .int := ⟨RX8, TX8, 6, tyX8, rfl, inX8, tyX8_ok, nmX8, by decide, by decide, lw_g_of 217 (by decide +kernel) (by decide +kernel), rfl, by decide +kernel⟩
theorem fpX8_31 : FPk RX8 31 8 4 .int := ⟨RX8, TX8, 6, tyX8, rfl, inX8, tyX8_ok, nmX8, by decide, by decide, lw_g_of 220 (by decide +kernel) (by decide +kernel), rfl, by decide +kernel⟩
theorem fpX8_34 : FPk RX8 34 8 3 .int := ⟨RX8, TX8, 6, tyX8, rfl, inX8, tyX8_ok, nmX8, by decide, by decide, lw_g_of 219 (by decide +kernel) (by decide +kernel), rfl, by decide +kernel⟩
theorem fpX8_63 : FPk RX8 63 8 5 .int := ⟨RX8, TX8, 6, tyX8, rfl, inX8, tyX8_ok, nmX8, by decide, by decide, lw_g_of 223 (by decide +kernel) (by decide +kernel), rfl, by decide +kernel⟩
theorem fpX9_44 : FPk RX9 44 9 4 (.object "ReportedCases$RuleSet") := ⟨RX9, TX9, 12, tyX9, rfl, inX9, tyX9_ok, nmX9, by decide, by decide, lw_g_of 341 (by decide +kernel) (by decide +kernel), rfl, by decide +kernel⟩
theorem fpX9_74 : FPk RX9 74 9 6 .int := ⟨RX9, TX9, 12, tyX9, rfl, inX9, tyX9_ok, nmX9, by decide, by decide, lw_g_of 343 (by decide +kernel) (by decide +kernel), rfl, by decide +kernel⟩
theorem fpX9_81 : FPk RX9 81 9 5 .int := ⟨RX9, TX9, 12, tyX9, rfl, inX9, tyX9_ok, nmX9, by decide, by decide, lw_g_of 342 (by decide +kernel) (by decide +kernel), rfl, by decide +kernel⟩
theorem fpX9_84 : FPk RX9 84 9 7 .int := ⟨RX9, TX9, 12, tyX9, rfl, inX9, tyX9_ok, nmX9, by decide, by decide, lw_g_of 344 (by decide +kernel) (by decide +kernel), rfl, by decide +kernel⟩
theorem fpX11_26 : FPk RX11 26 11 7 .int := ⟨RX11, TX11, 62, tyX11, rfl, inX11, tyX11_ok, nmX11, by decide, by decide, lw_g_of 1044 (by decide +kernel) (by decide +kernel), rfl, by decide +kernel⟩
theorem fpX11_30 : FPk RX11 30 11 21 .int := ⟨RX11, TX11, 62, tyX11, rfl, inX11, tyX11_ok, nmX11, by decide, by decide, lw_g_of 1058 (by decide +kernel) (by decide +kernel), rfl, by decide +kernel⟩
theorem fpX11_115 : FPk RX11 115 11 0 .int := ⟨RX11, TX11, 62, tyX11, rfl, inX11, tyX11_ok, nmX11, by decide, by decide, lw_g_of 1037 (by decide +kernel) (by decide +kernel), rfl, by decide +kernel⟩
theorem fpX11_118 : FPk RX11 118 11 2 .int := ⟨RX11, TX11, 62, tyX11, rfl, inX11, tyX11_ok, nmX11, by decide, by decide, lw_g_of 1039 (by decide +kernel) (by decide +kernel), rfl, by decide +kernel⟩
theorem fpX11_121 : FPk RX11 121 11 14 .int := ⟨RX11, TX11, 62, tyX11, rfl, inX11, tyX11_ok, nmX11, by decide, by decide, lw_g_of 1051 (by decide +kernel) (by decide +kernel), rfl, by decide +kernel⟩
theorem fpX11_124 : FPk RX11 124 11 13 .int := ⟨RX11, TX11, 62, tyX11, rfl, inX11, tyX11_ok, nmX11, by decide, by decide, lw_g_of 1050 (by decide +kernel) (by decide +kernel), rfl, by decide +kernel⟩
theorem fpX11_131 : FPk RX11 131 11 15 .int := ⟨RX11, TX11, 62, tyX11, rfl, inX11, tyX11_ok, nmX11, by decide, by decide, lw_g_of 1052 (by decide +kernel) (by decide +kernel), rfl, by decide +kernel⟩
theorem fpX11_134 : FPk RX11 134 11 16 .int := ⟨RX11, TX11, 62, tyX11, rfl, inX11, tyX11_ok, nmX11, by decide, by decide, lw_g_of 1053 (by decide +kernel) (by decide +kernel), rfl, by decide +kernel⟩
theorem fpX11_144 : FPk RX11 144 11 17 .int := ⟨RX11, TX11, 62, tyX11, rfl, inX11, tyX11_ok, nmX11, by decide, by decide, lw_g_of 1054 (by decide +kernel) (by decide +kernel), rfl, by decide +kernel⟩
theorem fpX11_161 : FPk RX11 161 11 18 .int := ⟨RX11, TX11, 62, tyX11, rfl, inX11, tyX11_ok, nmX11, by decide, by decide, lw_g_of 1055 (by decide +kernel) (by decide +kernel), rfl, by decide +kernel⟩
theorem fpX11_164 : FPk RX11 164 11 19 .int := ⟨RX11, TX11, 62, tyX11, rfl, inX11, tyX11_ok, nmX11, by decide, by decide, lw_g_of 1056 (by decide +kernel) (by decide +kernel), rfl, by decide +kernel⟩
theorem fpX11_171 : FPk RX11 171 11 12 .int := ⟨RX11, TX11, 62, tyX11, rfl, inX11, tyX11_ok, nmX11, by decide, by decide, lw_g_of 1049 (by decide +kernel) (by decide +kernel), rfl, by decide +kernel⟩
theorem fpX11_177 : FPk RX11 177 11 8 .int := ⟨RX11, TX11, 62, tyX11, rfl, inX11, tyX11_ok, nmX11, by decide, by decide, lw_g_of 1045 (by decide +kernel) (by decide +kernel), rfl, by decide +kernel⟩
theorem fpX11_180 : FPk RX11 180 11 22 .int := ⟨RX11, TX11, 62, tyX11, rfl, inX11, tyX11_ok, nmX11, by decide, by decide, lw_g_of 1059 (by decide +kernel) (by decide +kernel), rfl, by decide +kernel⟩
theorem fpX11_189 : FPk RX11 189 11 11 .int := ⟨RX11, TX11, 62, tyX11, rfl, inX11, tyX11_ok, nmX11, by decide, by decide, lw_g_of 1048 (by decide +kernel) (by decide +kernel), rfl, by decide +kernel⟩
theorem fpX11_192 : FPk RX11 192 11 10 .int := ⟨RX11, TX11, 62, tyX11, rfl, inX11, tyX11_ok, nmX11, by decide, by decide, lw_g_of 1047 (by decide +kernel) (by decide +kernel), rfl, by decide +kernel⟩
theorem fpX11_195 : FPk RX11 195 11 24 .int := ⟨RX11, TX11, 62, tyX11, rfl, inX11, tyX11_ok, nmX11, by decide, by decide, lw_g_of 1061 (by decide +kernel) (by decide +kernel), rfl, by decide +kernel⟩
theorem fpX11_206 : FPk RX11 206 11 25 .int := ⟨RX11, TX11, 62, tyX11, rfl, inX11, tyX11_ok, nmX11, by decide, by decide, lw_g_of 1062 (by decide +kernel) (by decide +kernel), rfl, by decide +kernel⟩
theorem fpX11_231 : FPk RX11 231 11 20 .int := ⟨RX11, TX11, 62, tyX11, rfl, inX11, tyX11_ok, nmX11, by decide, by decide, lw_g_of 1057 (by decide +kernel) (by decide +kernel), rfl, by decide +kernel⟩
theorem fpX11_234 : FPk RX11 234 11 9 .int := ⟨RX11, TX11, 62, tyX11, rfl, inX11, tyX11_ok, nmX11, by decide, by decide, lw_g_of 1046 (by decide +kernel) (by decide +kernel), rfl, by decide +kernel⟩
theorem fpX11_237 : FPk RX11 237 11 28 .int := ⟨RX11, TX11, 62, tyX11, rfl, inX11, tyX11_ok, nmX11, by decide, by decide, lw_g_of 1065 (by decide +kernel) (by decide +kernel), rfl, by decide +kernel⟩
theorem fpX11_261 : FPk RX11 261 11 29 .int := ⟨RX11, TX11, 62, tyX11, rfl, inX11, tyX11_ok, nmX11, by decide, by decide, lw_g_of 1066 (by decide +kernel) (by decide +kernel), rfl, by decide +kernel⟩
theorem fpX11_264 : FPk RX11 264 11 30 .int := ⟨RX11, TX11, 62, tyX11, rfl, inX11, tyX11_ok, nmX11, by decide, by decide, lw_g_of 1067 (by decide +kernel) (by decide +kernel), rfl, by decide +kernel⟩
theorem fpX11_267 : FPk RX11 267 11 33 .int := ⟨RX11, TX11, 62, tyX11, rfl, inX11, tyX11_ok, nmX11, by decide, by decide, lw_g_of 1070 (by decide +kernel) (by decide +kernel), rfl, by decide +kernel⟩
theorem fpX11_270 : FPk RX11 270 11 35 .int := ⟨RX11, TX11, 62, tyX11, rfl, inX11, tyX11_ok, nmX11, by decide, by decide, lw_g_of 1072 (by decide +kernel) (by decide +kernel), rfl, by decide +kernel⟩
theorem fpX11_282 : FPk RX11 282 11 41 .int := ⟨RX11, TX11, 62, tyX11, rfl, inX11, tyX11_ok, nmX11, by decide, by decide, lw_g_of 1078 (by decide +kernel) (by decide +kernel), rfl, by decide +kernel⟩
theorem fpX11_302 : FPk RX11 302 11 52 .int := ⟨RX11, TX11, 62, tyX11, rfl, inX11, tyX11_ok, nmX11, by decide, by decide, lw_g_of 1089 (by decide +kernel) (by decide +kernel), rfl, by decide +kernel⟩
theorem fpX11_360 : FPk RX11 360 11 59 .int := ⟨RX11, TX11, 62, tyX11, rfl, inX11, tyX11_ok, nmX11, by decide, by decide, lw_g_of 1096 (by decide +kernel) (by decide +kernel), rfl, by decide +kernel⟩
theorem fpX11_363 : FPk RX11 363 11 58 .int := ⟨RX11, TX11, 62, tyX11, rfl, inX11, tyX11_ok, nmX11, by decide, by decide, lw_g_of 1095 (by decide +kernel) (by decide +kernel), rfl, by decide +kernel⟩
theorem fpX11_366 : FPk RX11 366 11 60 .int := ⟨RX11, TX11, 62, tyX11, rfl, inX11, tyX11_ok, nmX11, by decide, by decide, lw_g_of 1097 (by decide +kernel) (by decide +kernel), rfl, by decide +kernel⟩
theorem mcX0_add : MCk yX0_add cX0_add 7 (some .int) 5 := ⟨lw_g_of 646 (by decide +kernel) (by decide +kernel), lw_g_of 4 (by decide +kernel) (by decide +kernel), by decide +kernel⟩
theorem miX0_add : MIk yX0_add := ⟨lw_g_of 644 (by decide +kernel) (by decide +kernel), lw_g_of 645 (by decide +kernel) (by decide +kernel)⟩
theorem mcX0_isLater : MCk yX0_isLater cX0_isLater 3 (some .boolean) 2 := ⟨lw_g_of 666 (by decide +kernel) (by decide +kernel), lw_g_of 4 (by decide +kernel) (by decide +kernel), by decide +kernel⟩
theorem miX0_isLater : MIk yX0_isLater := ⟨lw_g_of 664 (by decide +kernel) (by decide +kernel), lw_g_of 665 (by decide +kernel) (by decide +kernel)⟩
theorem mcX1_add : MCk yX1_add cX1_add 3 (some .int) 2 := ⟨lw_g_of 608 (by decide +kernel) (by decide +kernel), lw_g_of 2 (by decide +kernel) (by decide +kernel), by decide +kernel⟩
theorem miX1_add : MIk yX1_add := ⟨lw_g_of 606 (by decide +kernel) (by decide +kernel), lw_g_of 607 (by decide +kernel) (by decide +kernel)⟩
theorem mcX2_clear : MCk yX2_clear cX2_clear 1 none 0 := ⟨lw_g_of 441 (by decide +kernel) (by decide +kernel), lw_g_of 7 (by decide +kernel) (by decide +kernel), by decide +kernel⟩
theorem miX2_clear : MIk yX2_clear := ⟨lw_g_of 439 (by decide +kernel) (by decide +kernel), lw_g_of 440 (by decide +kernel) (by decide +kernel)⟩
theorem mcX2_add : MCk yX2_add cX2_add 2 none 1 := ⟨lw_g_of 565 (by decide +kernel) (by decide +kernel), lw_g_of 7 (by decide +kernel) (by decide +kernel), by decide +kernel⟩
theorem miX2_add : MIk yX2_add := ⟨lw_g_of 563 (by decide +kernel) (by decide +kernel), lw_g_of 564 (by decide +kernel) (by decide +kernel)⟩
theorem mcX2_work : MCk yX2_work cX2_work 5 (some .long) 3 := ⟨lw_g_of 826 (by decide +kernel) (by decide +kernel), lw_g_of 7 (by decide +kernel) (by decide +kernel), by decide +kernel⟩
theorem msX2_work : Cond.static yX2_work ∈ lw_g := lw_g_of 825 (by decide +kernel) (by decide +kernel)
theorem mcX2_isTrue : MCk yX2_isTrue cX2_isTrue 8 (some .boolean) 2 := ⟨lw_g_of 823 (by decide +kernel) (by decide +kernel), lw_g_of 7 (by decide +kernel) (by decide +kernel), by decide +kernel⟩
theorem miX2_isTrue : MIk yX2_isTrue := ⟨lw_g_of 821 (by decide +kernel) (by decide +kernel), lw_g_of 822 (by decide +kernel) (by decide +kernel)⟩
theorem mcX3_seeCases : MCk yX3_seeCases cX3_seeCases 4 none 2 := ⟨lw_g_of 698 (by decide +kernel) (by decide +kernel), lw_g_of 11 (by decide +kernel) (by decide +kernel), by decide +kernel⟩
theorem miX3_seeCases : MIk yX3_seeCases := ⟨lw_g_of 697 (by decide +kernel) (by decide +kernel), lw_g_sel (q := (yX3_seeCases, 16)) 20 (by decide +kernel) (by decide +kernel)⟩
theorem mcX10_has : MCk yX10_has cX10_has 2 (some .boolean) 2 := ⟨lw_g_of 627 (by decide +kernel) (by decide +kernel), lw_g_of 1 (by decide +kernel) (by decide +kernel), by decide +kernel⟩
theorem msX10_has : Cond.static yX10_has ∈ lw_g := lw_g_of 626 (by decide +kernel) (by decide +kernel)
theorem mcX3_sees : MCk yX3_sees cX3_sees 2 (some .boolean) 1 := ⟨lw_g_of 710 (by decide +kernel) (by decide +kernel), lw_g_of 11 (by decide +kernel) (by decide +kernel), by decide +kernel⟩
theorem miX3_sees : MIk yX3_sees := ⟨lw_g_of 708 (by decide +kernel) (by decide +kernel), lw_g_of 709 (by decide +kernel) (by decide +kernel)⟩
theorem mcX3_isOfSeenCases : MCk yX3_isOfSeenCases cX3_isOfSeenCases 3 (some .boolean) 1 := ⟨lw_g_of 706 (by decide +kernel) (by decide +kernel), lw_g_of 11 (by decide +kernel) (by decide +kernel), by decide +kernel⟩
theorem miX3_isOfSeenCases : MIk yX3_isOfSeenCases := ⟨lw_g_of 705 (by decide +kernel) (by decide +kernel), lw_g_sel (q := (yX3_isOfSeenCases, 16)) 22 (by decide +kernel) (by decide +kernel)⟩
theorem mcX3_seeNotes : MCk yX3_seeNotes cX3_seeNotes 3 none 1 := ⟨lw_g_of 702 (by decide +kernel) (by decide +kernel), lw_g_of 11 (by decide +kernel) (by decide +kernel), by decide +kernel⟩
theorem miX3_seeNotes : MIk yX3_seeNotes := ⟨lw_g_of 701 (by decide +kernel) (by decide +kernel), lw_g_sel (q := (yX3_seeNotes, 16)) 21 (by decide +kernel) (by decide +kernel)⟩
theorem mcX3_counts : MCk yX3_counts cX3_counts 3 (some .boolean) 2 := ⟨lw_g_of 719 (by decide +kernel) (by decide +kernel), lw_g_of 11 (by decide +kernel) (by decide +kernel), by decide +kernel⟩
theorem miX3_counts : MIk yX3_counts := ⟨lw_g_of 718 (by decide +kernel) (by decide +kernel), lw_g_sel (q := (yX3_counts, 16)) 24 (by decide +kernel) (by decide +kernel)⟩
theorem mcX3_rename : MCk yX3_rename cX3_rename 4 none 2 := ⟨lw_g_of 727 (by decide +kernel) (by decide +kernel), lw_g_of 11 (by decide +kernel) (by decide +kernel), by decide +kernel⟩
theorem miX3_rename : MIk yX3_rename := ⟨lw_g_of 726 (by decide +kernel) (by decide +kernel), lw_g_sel (q := (yX3_rename, 16)) 25 (by decide +kernel) (by decide +kernel)⟩
theorem mcX3_seeJoinings : MCk yX3_seeJoinings cX3_seeJoinings 4 none 0 := ⟨lw_g_of 715 (by decide +kernel) (by decide +kernel), lw_g_of 11 (by decide +kernel) (by decide +kernel), by decide +kernel⟩
theorem miX3_seeJoinings : MIk yX3_seeJoinings := ⟨lw_g_of 714 (by decide +kernel) (by decide +kernel), lw_g_sel (q := (yX3_seeJoinings, 16)) 23 (by decide +kernel) (by decide +kernel)⟩
theorem mcJ7_fill_53178 : MCk yJ7_fill_53178 cJ7_fill_53178 4 none 2 := ⟨lw_g_of 734 (by decide +kernel) (by decide +kernel), lw_g_of 18 (by decide +kernel) (by decide +kernel), by decide +kernel⟩
theorem msJ7_fill_53178 : Cond.static yJ7_fill_53178 ∈ lw_g := lw_g_of 733 (by decide +kernel) (by decide +kernel)
theorem mcX5_areOpposed : MCk yX5_areOpposed cX5_areOpposed 3 (some .boolean) 2 := ⟨lw_g_of 624 (by decide +kernel) (by decide +kernel), lw_g_of 3 (by decide +kernel) (by decide +kernel), by decide +kernel⟩
theorem miX5_areOpposed : MIk yX5_areOpposed := ⟨lw_g_of 622 (by decide +kernel) (by decide +kernel), lw_g_of 623 (by decide +kernel) (by decide +kernel)⟩
theorem mcX3_seeOpposed : MCk yX3_seeOpposed cX3_seeOpposed 3 none 0 := ⟨lw_g_of 731 (by decide +kernel) (by decide +kernel), lw_g_of 11 (by decide +kernel) (by decide +kernel), by decide +kernel⟩
theorem miX3_seeOpposed : MIk yX3_seeOpposed := ⟨lw_g_of 730 (by decide +kernel) (by decide +kernel), lw_g_sel (q := (yX3_seeOpposed, 16)) 26 (by decide +kernel) (by decide +kernel)⟩
theorem mcX3_isOpinion : MCk yX3_isOpinion cX3_isOpinion 2 (some .boolean) 1 := ⟨lw_g_of 743 (by decide +kernel) (by decide +kernel), lw_g_of 11 (by decide +kernel) (by decide +kernel), by decide +kernel⟩
theorem miX3_isOpinion : MIk yX3_isOpinion := ⟨lw_g_of 742 (by decide +kernel) (by decide +kernel), lw_g_sel (q := (yX3_isOpinion, 16)) 28 (by decide +kernel) (by decide +kernel)⟩
theorem mcX3_seeOpinions : MCk yX3_seeOpinions cX3_seeOpinions 4 none 0 := ⟨lw_g_of 739 (by decide +kernel) (by decide +kernel), lw_g_of 11 (by decide +kernel) (by decide +kernel), by decide +kernel⟩
theorem miX3_seeOpinions : MIk yX3_seeOpinions := ⟨lw_g_of 738 (by decide +kernel) (by decide +kernel), lw_g_sel (q := (yX3_seeOpinions, 16)) 27 (by decide +kernel) (by decide +kernel)⟩
theorem mcX3_placeOf : MCk yX3_placeOf cX3_placeOf 2 (some .int) 2 := ⟨lw_g_of 750 (by decide +kernel) (by decide +kernel), lw_g_of 11 (by decide +kernel) (by decide +kernel), by decide +kernel⟩
theorem msX3_placeOf : Cond.static yX3_placeOf ∈ lw_g := lw_g_of 749 (by decide +kernel) (by decide +kernel)
theorem mcX3_seeTreatments : MCk yX3_seeTreatments cX3_seeTreatments 2 none 0 := ⟨lw_g_of 747 (by decide +kernel) (by decide +kernel), lw_g_of 11 (by decide +kernel) (by decide +kernel), by decide +kernel⟩
theorem miX3_seeTreatments : MIk yX3_seeTreatments := ⟨lw_g_of 746 (by decide +kernel) (by decide +kernel), lw_g_sel (q := (yX3_seeTreatments, 16)) 29 (by decide +kernel) (by decide +kernel)⟩
theorem mcX3_seeStatutes : MCk yX3_seeStatutes cX3_seeStatutes 2 none 0 := ⟨lw_g_of 754 (by decide +kernel) (by decide +kernel), lw_g_of 11 (by decide +kernel) (by decide +kernel), by decide +kernel⟩
theorem miX3_seeStatutes : MIk yX3_seeStatutes := ⟨lw_g_of 753 (by decide +kernel) (by decide +kernel), lw_g_sel (q := (yX3_seeStatutes, 16)) 30 (by decide +kernel) (by decide +kernel)⟩
theorem mcX3_see : MCk yX3_see cX3_see 3 none 2 := ⟨lw_g_of 694 (by decide +kernel) (by decide +kernel), lw_g_of 11 (by decide +kernel) (by decide +kernel), by decide +kernel⟩
theorem miX3_see : MIk yX3_see := ⟨lw_g_of 692 (by decide +kernel) (by decide +kernel), lw_g_of 693 (by decide +kernel) (by decide +kernel)⟩
theorem mcX4_add : MCk yX4_add cX4_add 7 (some .int) 6 := ⟨lw_g_of 658 (by decide +kernel) (by decide +kernel), lw_g_of 5 (by decide +kernel) (by decide +kernel), by decide +kernel⟩
theorem miX4_add : MIk yX4_add := ⟨lw_g_of 656 (by decide +kernel) (by decide +kernel), lw_g_of 657 (by decide +kernel) (by decide +kernel)⟩
theorem mcX5_turnOpposed : MCk yX5_turnOpposed cX5_turnOpposed 3 none 2 := ⟨lw_g_of 631 (by decide +kernel) (by decide +kernel), lw_g_of 3 (by decide +kernel) (by decide +kernel), by decide +kernel⟩
theorem miX5_turnOpposed : MIk yX5_turnOpposed := ⟨lw_g_of 629 (by decide +kernel) (by decide +kernel), lw_g_of 630 (by decide +kernel) (by decide +kernel)⟩
theorem mcX7_clear : MCk yX7_clear cX7_clear 1 none 0 := ⟨lw_g_of 437 (by decide +kernel) (by decide +kernel), lw_g_of 6 (by decide +kernel) (by decide +kernel), by decide +kernel⟩
theorem miX7_clear : MIk yX7_clear := ⟨lw_g_of 435 (by decide +kernel) (by decide +kernel), lw_g_of 436 (by decide +kernel) (by decide +kernel)⟩
theorem mcX8_wordOf : MCk yX8_wordOf cX8_wordOf 1 (some (.object "java/lang/String")) 1 := ⟨lw_g_of 459 (by decide +kernel) (by decide +kernel), lw_g_of 9 (by decide +kernel) (by decide +kernel), by decide +kernel⟩
theorem msX8_wordOf : Cond.static yX8_wordOf ∈ lw_g := lw_g_of 458 (by decide +kernel) (by decide +kernel)
theorem mcX8_isSpelt : MCk yX8_isSpelt cX8_isSpelt 3 (some .boolean) 1 := ⟨lw_g_of 478 (by decide +kernel) (by decide +kernel), lw_g_of 9 (by decide +kernel) (by decide +kernel), by decide +kernel⟩
theorem miX8_isSpelt : MIk yX8_isSpelt := ⟨lw_g_of 477 (by decide +kernel) (by decide +kernel), lw_g_sel (q := (yX8_isSpelt, 6)) 2 (by decide +kernel) (by decide +kernel)⟩
theorem mcX8_takeWord : MCk yX8_takeWord cX8_takeWord 2 none 0 := ⟨lw_g_of 456 (by decide +kernel) (by decide +kernel), lw_g_of 9 (by decide +kernel) (by decide +kernel), by decide +kernel⟩
theorem miX8_takeWord : MIk yX8_takeWord := ⟨lw_g_of 455 (by decide +kernel) (by decide +kernel), lw_g_sel (q := (yX8_takeWord, 6)) 1 (by decide +kernel) (by decide +kernel)⟩
theorem mcX8_takeNumber : MCk yX8_takeNumber cX8_takeNumber 1 none 0 := ⟨lw_g_of 530 (by decide +kernel) (by decide +kernel), lw_g_of 9 (by decide +kernel) (by decide +kernel), by decide +kernel⟩
theorem miX8_takeNumber : MIk yX8_takeNumber := ⟨lw_g_of 529 (by decide +kernel) (by decide +kernel), lw_g_sel (q := (yX8_takeNumber, 6)) 3 (by decide +kernel) (by decide +kernel)⟩
theorem mcX8_signOf : MCk yX8_signOf cX8_signOf 1 (some .int) 1 := ⟨lw_g_of 537 (by decide +kernel) (by decide +kernel), lw_g_of 9 (by decide +kernel) (by decide +kernel), by decide +kernel⟩
theorem msX8_signOf : Cond.static yX8_signOf ∈ lw_g := lw_g_of 536 (by decide +kernel) (by decide +kernel)
theorem mcX8_takeSign : MCk yX8_takeSign cX8_takeSign 3 none 0 := ⟨lw_g_of 534 (by decide +kernel) (by decide +kernel), lw_g_of 9 (by decide +kernel) (by decide +kernel), by decide +kernel⟩
theorem miX8_takeSign : MIk yX8_takeSign := ⟨lw_g_of 533 (by decide +kernel) (by decide +kernel), lw_g_sel (q := (yX8_takeSign, 6)) 4 (by decide +kernel) (by decide +kernel)⟩
theorem mcX8_advance : MCk yX8_advance cX8_advance 1 none 0 := ⟨lw_g_of 452 (by decide +kernel) (by decide +kernel), lw_g_of 9 (by decide +kernel) (by decide +kernel), by decide +kernel⟩
theorem miX8_advance : MIk yX8_advance := ⟨lw_g_of 450 (by decide +kernel) (by decide +kernel), lw_g_of 451 (by decide +kernel) (by decide +kernel)⟩
theorem mcX8_start : MCk yX8_start cX8_start 3 none 2 := ⟨lw_g_of 445 (by decide +kernel) (by decide +kernel), lw_g_of 9 (by decide +kernel) (by decide +kernel), by decide +kernel⟩
theorem miX8_start : MIk yX8_start := ⟨lw_g_of 443 (by decide +kernel) (by decide +kernel), lw_g_of 444 (by decide +kernel) (by decide +kernel)⟩
theorem mcX6_fail : MCk yX6_fail cX6_fail 2 none 1 := ⟨lw_g_of 545 (by decide +kernel) (by decide +kernel), lw_g_of 8 (by decide +kernel) (by decide +kernel), by decide +kernel⟩
theorem miX6_fail : MIk yX6_fail := ⟨lw_g_of 544 (by decide +kernel) (by decide +kernel), lw_g_sel (q := (yX6_fail, 7)) 6 (by decide +kernel) (by decide +kernel)⟩
theorem mcX6_readDoubts : MCk yX6_readDoubts cX6_readDoubts 1 none 0 := ⟨lw_g_of 550 (by decide +kernel) (by decide +kernel), lw_g_of 8 (by decide +kernel) (by decide +kernel), by decide +kernel⟩
theorem miX6_readDoubts : MIk yX6_readDoubts := ⟨lw_g_of 549 (by decide +kernel) (by decide +kernel), lw_g_sel (q := (yX6_readDoubts, 7)) 7 (by decide +kernel) (by decide +kernel)⟩
theorem mcX6_strengthOf : MCk yX6_strengthOf cX6_strengthOf 1 (some .int) 1 := ⟨lw_g_of 561 (by decide +kernel) (by decide +kernel), lw_g_of 8 (by decide +kernel) (by decide +kernel), by decide +kernel⟩
theorem msX6_strengthOf : Cond.static yX6_strengthOf ∈ lw_g := lw_g_of 560 (by decide +kernel) (by decide +kernel)
theorem mcX6_release : MCk yX6_release cX6_release 3 none 2 := ⟨lw_g_of 558 (by decide +kernel) (by decide +kernel), lw_g_of 8 (by decide +kernel) (by decide +kernel), by decide +kernel⟩
theorem miX6_release : MIk yX6_release := ⟨lw_g_of 557 (by decide +kernel) (by decide +kernel), lw_g_sel (q := (yX6_release, 7)) 9 (by decide +kernel) (by decide +kernel)⟩
theorem mcX6_await : MCk yX6_await cX6_await 2 none 1 := ⟨lw_g_of 577 (by decide +kernel) (by decide +kernel), lw_g_of 8 (by decide +kernel) (by decide +kernel), by decide +kernel⟩
theorem miX6_await : MIk yX6_await := ⟨lw_g_of 576 (by decide +kernel) (by decide +kernel), lw_g_sel (q := (yX6_await, 7)) 12 (by decide +kernel) (by decide +kernel)⟩
theorem mcX6_openOne : MCk yX6_openOne cX6_openOne 1 none 0 := ⟨lw_g_of 573 (by decide +kernel) (by decide +kernel), lw_g_of 8 (by decide +kernel) (by decide +kernel), by decide +kernel⟩
theorem miX6_openOne : MIk yX6_openOne := ⟨lw_g_of 572 (by decide +kernel) (by decide +kernel), lw_g_sel (q := (yX6_openOne, 7)) 11 (by decide +kernel) (by decide +kernel)⟩
theorem mcX6_lastWaiting : MCk yX6_lastWaiting cX6_lastWaiting 1 (some .int) 0 := ⟨lw_g_of 581 (by decide +kernel) (by decide +kernel), lw_g_of 8 (by decide +kernel) (by decide +kernel), by decide +kernel⟩
theorem miX6_lastWaiting : MIk yX6_lastWaiting := ⟨lw_g_of 580 (by decide +kernel) (by decide +kernel), lw_g_sel (q := (yX6_lastWaiting, 7)) 13 (by decide +kernel) (by decide +kernel)⟩
theorem mcX6_tieKnot : MCk yX6_tieKnot cX6_tieKnot 1 (some .boolean) 0 := ⟨lw_g_of 585 (by decide +kernel) (by decide +kernel), lw_g_of 8 (by decide +kernel) (by decide +kernel), by decide +kernel⟩
theorem miX6_tieKnot : MIk yX6_tieKnot := ⟨lw_g_of 584 (by decide +kernel) (by decide +kernel), lw_g_sel (q := (yX6_tieKnot, 7)) 14 (by decide +kernel) (by decide +kernel)⟩
theorem mcX6_isStillWantedBehind : MCk yX6_isStillWantedBehind cX6_isStillWantedBehind 3 (some .boolean) 1 := ⟨lw_g_of 569 (by decide +kernel) (by decide +kernel), lw_g_of 8 (by decide +kernel) (by decide +kernel), by decide +kernel⟩
theorem miX6_isStillWantedBehind : MIk yX6_isStillWantedBehind := ⟨lw_g_of 568 (by decide +kernel) (by decide +kernel), lw_g_sel (q := (yX6_isStillWantedBehind, 7)) 10 (by decide +kernel) (by decide +kernel)⟩
theorem mcX6_isWantedBehindSign : MCk yX6_isWantedBehindSign cX6_isWantedBehindSign 5 (some .boolean) 1 := ⟨lw_g_of 589 (by decide +kernel) (by decide +kernel), lw_g_of 8 (by decide +kernel) (by decide +kernel), by decide +kernel⟩
theorem miX6_isWantedBehindSign : MIk yX6_isWantedBehindSign := ⟨lw_g_of 588 (by decide +kernel) (by decide +kernel), lw_g_sel (q := (yX6_isWantedBehindSign, 7)) 15 (by decide +kernel) (by decide +kernel)⟩
theorem mcX6_readFormula : MCk yX6_readFormula cX6_readFormula 5 none 2 := ⟨lw_g_of 554 (by decide +kernel) (by decide +kernel), lw_g_of 8 (by decide +kernel) (by decide +kernel), by decide +kernel⟩
theorem miX6_readFormula : MIk yX6_readFormula := ⟨lw_g_of 553 (by decide +kernel) (by decide +kernel), lw_g_sel (q := (yX6_readFormula, 7)) 8 (by decide +kernel) (by decide +kernel)⟩
theorem mcX6_readLine : MCk yX6_readLine cX6_readLine 4 none 1 := ⟨lw_g_of 541 (by decide +kernel) (by decide +kernel), lw_g_of 8 (by decide +kernel) (by decide +kernel), by decide +kernel⟩
theorem miX6_readLine : MIk yX6_readLine := ⟨lw_g_of 540 (by decide +kernel) (by decide +kernel), lw_g_sel (q := (yX6_readLine, 7)) 5 (by decide +kernel) (by decide +kernel)⟩
theorem mcX6_read : MCk yX6_read cX6_read 5 none 3 := ⟨lw_g_of 433 (by decide +kernel) (by decide +kernel), lw_g_of 8 (by decide +kernel) (by decide +kernel), by decide +kernel⟩
theorem miX6_read : MIk yX6_read := ⟨lw_g_of 431 (by decide +kernel) (by decide +kernel), lw_g_of 432 (by decide +kernel) (by decide +kernel)⟩
theorem mcX9_speaks : MCk yX9_speaks cX9_speaks 4 (some .boolean) 3 := ⟨lw_g_of 772 (by decide +kernel) (by decide +kernel), lw_g_of 10 (by decide +kernel) (by decide +kernel), by decide +kernel⟩
theorem miX9_speaks : MIk yX9_speaks := ⟨lw_g_of 771 (by decide +kernel) (by decide +kernel), lw_g_sel (q := (yX9_speaks, 12)) 32 (by decide +kernel) (by decide +kernel)⟩
theorem mcJ6_bitCount_0f7a4 : MCk yJ6_bitCount_0f7a4 cJ6_bitCount_0f7a4 1 (some .int) 1 := ⟨lw_g_of 775 (by decide +kernel) (by decide +kernel), lw_g_of 19 (by decide +kernel) (by decide +kernel), by decide +kernel⟩
theorem msJ6_bitCount_0f7a4 : Cond.static yJ6_bitCount_0f7a4 ∈ lw_g := lw_g_of 774 (by decide +kernel) (by decide +kernel)
theorem mcX9_votesFor : MCk yX9_votesFor cX9_votesFor 7 (some .int) 3 := ⟨lw_g_of 768 (by decide +kernel) (by decide +kernel), lw_g_of 10 (by decide +kernel) (by decide +kernel), by decide +kernel⟩
theorem miX9_votesFor : MIk yX9_votesFor := ⟨lw_g_of 766 (by decide +kernel) (by decide +kernel), lw_g_of 767 (by decide +kernel) (by decide +kernel)⟩
theorem mcX9_isHeld : MCk yX9_isHeld cX9_isHeld 4 (some .boolean) 3 := ⟨lw_g_of 764 (by decide +kernel) (by decide +kernel), lw_g_of 10 (by decide +kernel) (by decide +kernel), by decide +kernel⟩
theorem miX9_isHeld : MIk yX9_isHeld := ⟨lw_g_of 762 (by decide +kernel) (by decide +kernel), lw_g_of 763 (by decide +kernel) (by decide +kernel)⟩
theorem mcX9_isThere : MCk yX9_isThere cX9_isThere 2 (some .boolean) 1 := ⟨lw_g_of 786 (by decide +kernel) (by decide +kernel), lw_g_of 10 (by decide +kernel) (by decide +kernel), by decide +kernel⟩
theorem miX9_isThere : MIk yX9_isThere := ⟨lw_g_of 784 (by decide +kernel) (by decide +kernel), lw_g_of 785 (by decide +kernel) (by decide +kernel)⟩
theorem mcX9_alive : MCk yX9_alive cX9_alive 2 (some .int) 1 := ⟨lw_g_of 790 (by decide +kernel) (by decide +kernel), lw_g_of 10 (by decide +kernel) (by decide +kernel), by decide +kernel⟩
theorem miX9_alive : MIk yX9_alive := ⟨lw_g_of 789 (by decide +kernel) (by decide +kernel), lw_g_sel (q := (yX9_alive, 12)) 34 (by decide +kernel) (by decide +kernel)⟩
theorem mcX9_goTo : MCk yX9_goTo cX9_goTo 5 none 2 := ⟨lw_g_of 782 (by decide +kernel) (by decide +kernel), lw_g_of 10 (by decide +kernel) (by decide +kernel), by decide +kernel⟩
theorem miX9_goTo : MIk yX9_goTo := ⟨lw_g_of 781 (by decide +kernel) (by decide +kernel), lw_g_sel (q := (yX9_goTo, 12)) 33 (by decide +kernel) (by decide +kernel)⟩
theorem mcX9_isSpokenOf : MCk yX9_isSpokenOf cX9_isSpokenOf 5 (some .boolean) 3 := ⟨lw_g_of 802 (by decide +kernel) (by decide +kernel), lw_g_of 10 (by decide +kernel) (by decide +kernel), by decide +kernel⟩
theorem miX9_isSpokenOf : MIk yX9_isSpokenOf := ⟨lw_g_of 801 (by decide +kernel) (by decide +kernel), lw_g_sel (q := (yX9_isSpokenOf, 12)) 37 (by decide +kernel) (by decide +kernel)⟩
theorem mcX9_isTaken : MCk yX9_isTaken cX9_isTaken 6 (some .boolean) 2 := ⟨lw_g_of 806 (by decide +kernel) (by decide +kernel), lw_g_of 10 (by decide +kernel) (by decide +kernel), by decide +kernel⟩
theorem miX9_isTaken : MIk yX9_isTaken := ⟨lw_g_of 804 (by decide +kernel) (by decide +kernel), lw_g_of 805 (by decide +kernel) (by decide +kernel)⟩
theorem mcX9_nameSides : MCk yX9_nameSides cX9_nameSides 4 none 2 := ⟨lw_g_of 815 (by decide +kernel) (by decide +kernel), lw_g_of 10 (by decide +kernel) (by decide +kernel), by decide +kernel⟩
theorem miX9_nameSides : MIk yX9_nameSides := ⟨lw_g_of 814 (by decide +kernel) (by decide +kernel), lw_g_sel (q := (yX9_nameSides, 12)) 38 (by decide +kernel) (by decide +kernel)⟩
theorem mcX9_doubtsOf : MCk yX9_doubtsOf cX9_doubtsOf 3 (some .int) 2 := ⟨lw_g_of 819 (by decide +kernel) (by decide +kernel), lw_g_of 10 (by decide +kernel) (by decide +kernel), by decide +kernel⟩
theorem miX9_doubtsOf : MIk yX9_doubtsOf := ⟨lw_g_of 817 (by decide +kernel) (by decide +kernel), lw_g_of 818 (by decide +kernel) (by decide +kernel)⟩
theorem mcX9_isOverruled : MCk yX9_isOverruled cX9_isOverruled 5 (some .boolean) 2 := ⟨lw_g_of 810 (by decide +kernel) (by decide +kernel), lw_g_of 10 (by decide +kernel) (by decide +kernel), by decide +kernel⟩
theorem miX9_isOverruled : MIk yX9_isOverruled := ⟨lw_g_of 808 (by decide +kernel) (by decide +kernel), lw_g_of 809 (by decide +kernel) (by decide +kernel)⟩
theorem mcX9_doesBind : MCk yX9_doesBind cX9_doesBind 5 (some .boolean) 4 := ⟨lw_g_of 833 (by decide +kernel) (by decide +kernel), lw_g_of 10 (by decide +kernel) (by decide +kernel), by decide +kernel⟩
theorem miX9_doesBind : MIk yX9_doesBind := ⟨lw_g_of 831 (by decide +kernel) (by decide +kernel), lw_g_of 832 (by decide +kernel) (by decide +kernel)⟩
theorem mcX9_weightOf : MCk yX9_weightOf cX9_weightOf 5 (some .int) 4 := ⟨lw_g_of 798 (by decide +kernel) (by decide +kernel), lw_g_of 10 (by decide +kernel) (by decide +kernel), by decide +kernel⟩
theorem miX9_weightOf : MIk yX9_weightOf := ⟨lw_g_of 797 (by decide +kernel) (by decide +kernel), lw_g_sel (q := (yX9_weightOf, 12)) 36 (by decide +kernel) (by decide +kernel)⟩
theorem mcX9_bindersOf : MCk yX9_bindersOf cX9_bindersOf 7 (some .int) 3 := ⟨lw_g_of 794 (by decide +kernel) (by decide +kernel), lw_g_of 10 (by decide +kernel) (by decide +kernel), by decide +kernel⟩
theorem miX9_bindersOf : MIk yX9_bindersOf := ⟨lw_g_of 793 (by decide +kernel) (by decide +kernel), lw_g_sel (q := (yX9_bindersOf, 12)) 35 (by decide +kernel) (by decide +kernel)⟩
theorem mcX9_isLaid : MCk yX9_isLaid cX9_isLaid 7 (some .boolean) 1 := ⟨lw_g_of 837 (by decide +kernel) (by decide +kernel), lw_g_of 10 (by decide +kernel) (by decide +kernel), by decide +kernel⟩
theorem miX9_isLaid : MIk yX9_isLaid := ⟨lw_g_of 836 (by decide +kernel) (by decide +kernel), lw_g_sel (q := (yX9_isLaid, 12)) 39 (by decide +kernel) (by decide +kernel)⟩
theorem mcX9_findMissed : MCk yX9_findMissed cX9_findMissed 9 none 2 := ⟨lw_g_of 759 (by decide +kernel) (by decide +kernel), lw_g_of 10 (by decide +kernel) (by decide +kernel), by decide +kernel⟩
theorem miX9_findMissed : MIk yX9_findMissed := ⟨lw_g_of 758 (by decide +kernel) (by decide +kernel), lw_g_sel (q := (yX9_findMissed, 12)) 31 (by decide +kernel) (by decide +kernel)⟩
theorem mcX9_see : MCk yX9_see cX9_see 7 none 3 := ⟨lw_g_of 690 (by decide +kernel) (by decide +kernel), lw_g_of 10 (by decide +kernel) (by decide +kernel), by decide +kernel⟩
theorem miX9_see : MIk yX9_see := ⟨lw_g_of 688 (by decide +kernel) (by decide +kernel), lw_g_of 689 (by decide +kernel) (by decide +kernel)⟩
theorem mcX9_goToDay : MCk yX9_goToDay cX9_goToDay 4 none 1 := ⟨lw_g_of 841 (by decide +kernel) (by decide +kernel), lw_g_of 10 (by decide +kernel) (by decide +kernel), by decide +kernel⟩
theorem miX9_goToDay : MIk yX9_goToDay := ⟨lw_g_of 839 (by decide +kernel) (by decide +kernel), lw_g_of 840 (by decide +kernel) (by decide +kernel)⟩
theorem mcX9_standOf : MCk yX9_standOf cX9_standOf 7 (some .int) 3 := ⟨lw_g_of 845 (by decide +kernel) (by decide +kernel), lw_g_of 10 (by decide +kernel) (by decide +kernel), by decide +kernel⟩
theorem miX9_standOf : MIk yX9_standOf := ⟨lw_g_of 843 (by decide +kernel) (by decide +kernel), lw_g_of 844 (by decide +kernel) (by decide +kernel)⟩
theorem mcX9_rankOf : MCk yX9_rankOf cX9_rankOf 2 (some .int) 1 := ⟨lw_g_of 858 (by decide +kernel) (by decide +kernel), lw_g_of 10 (by decide +kernel) (by decide +kernel), by decide +kernel⟩
theorem miX9_rankOf : MIk yX9_rankOf := ⟨lw_g_of 857 (by decide +kernel) (by decide +kernel), lw_g_sel (q := (yX9_rankOf, 12)) 40 (by decide +kernel) (by decide +kernel)⟩
theorem mcX9_leaderOf : MCk yX9_leaderOf cX9_leaderOf 10 (some .int) 3 := ⟨lw_g_of 854 (by decide +kernel) (by decide +kernel), lw_g_of 10 (by decide +kernel) (by decide +kernel), by decide +kernel⟩
theorem miX9_leaderOf : MIk yX9_leaderOf := ⟨lw_g_of 852 (by decide +kernel) (by decide +kernel), lw_g_of 853 (by decide +kernel) (by decide +kernel)⟩
theorem mcX10_tapeFour : MCk yX10_tapeFour cX10_tapeFour 3 none 1 := ⟨lw_g_of 425 (by decide +kernel) (by decide +kernel), lw_g_of 1 (by decide +kernel) (by decide +kernel), by decide +kernel⟩
theorem miX10_tapeFour : MIk yX10_tapeFour := ⟨lw_g_of 424 (by decide +kernel) (by decide +kernel), lw_g_sel (q := (yX10_tapeFour, 13)) 0 (by decide +kernel) (by decide +kernel)⟩
theorem mcX10_feed : MCk yX10_feed cX10_feed 6 (some .int) 5 := ⟨lw_g_of 421 (by decide +kernel) (by decide +kernel), lw_g_of 1 (by decide +kernel) (by decide +kernel), by decide +kernel⟩
theorem miX10_feed : MIk yX10_feed := ⟨lw_g_of 419 (by decide +kernel) (by decide +kernel), lw_g_of 420 (by decide +kernel) (by decide +kernel)⟩
theorem mcX10_rules : MCk yX10_rules cX10_rules 3 (some .int) 1 := ⟨lw_g_of 429 (by decide +kernel) (by decide +kernel), lw_g_of 1 (by decide +kernel) (by decide +kernel), by decide +kernel⟩
theorem miX10_rules : MIk yX10_rules := ⟨lw_g_of 427 (by decide +kernel) (by decide +kernel), lw_g_of 428 (by decide +kernel) (by decide +kernel)⟩
theorem mcX10_fault : MCk yX10_fault cX10_fault 2 (some .int) 1 := ⟨lw_g_of 593 (by decide +kernel) (by decide +kernel), lw_g_of 1 (by decide +kernel) (by decide +kernel), by decide +kernel⟩
theorem miX10_fault : MIk yX10_fault := ⟨lw_g_of 591 (by decide +kernel) (by decide +kernel), lw_g_of 592 (by decide +kernel) (by decide +kernel)⟩
theorem mcX10_isDay : MCk yX10_isDay cX10_isDay 1 (some .boolean) 1 := ⟨lw_g_of 600 (by decide +kernel) (by decide +kernel), lw_g_of 1 (by decide +kernel) (by decide +kernel), by decide +kernel⟩
theorem msX10_isDay : Cond.static yX10_isDay ∈ lw_g := lw_g_of 599 (by decide +kernel) (by decide +kernel)
theorem mcX10_days : MCk yX10_days cX10_days 2 (some .int) 1 := ⟨lw_g_of 597 (by decide +kernel) (by decide +kernel), lw_g_of 1 (by decide +kernel) (by decide +kernel), by decide +kernel⟩
theorem miX10_days : MIk yX10_days := ⟨lw_g_of 595 (by decide +kernel) (by decide +kernel), lw_g_of 596 (by decide +kernel) (by decide +kernel)⟩
theorem mcX10_court : MCk yX10_court cX10_court 3 (some .int) 2 := ⟨lw_g_of 604 (by decide +kernel) (by decide +kernel), lw_g_of 1 (by decide +kernel) (by decide +kernel), by decide +kernel⟩
theorem miX10_court : MIk yX10_court := ⟨lw_g_of 602 (by decide +kernel) (by decide +kernel), lw_g_of 603 (by decide +kernel) (by decide +kernel)⟩
theorem mcX10_point : MCk yX10_point cX10_point 1 (some .int) 0 := ⟨lw_g_of 612 (by decide +kernel) (by decide +kernel), lw_g_of 1 (by decide +kernel) (by decide +kernel), by decide +kernel⟩
theorem miX10_point : MIk yX10_point := ⟨lw_g_of 610 (by decide +kernel) (by decide +kernel), lw_g_of 611 (by decide +kernel) (by decide +kernel)⟩
theorem mcX10_isPoint : MCk yX10_isPoint cX10_isPoint 2 (some .boolean) 1 := ⟨lw_g_of 620 (by decide +kernel) (by decide +kernel), lw_g_of 1 (by decide +kernel) (by decide +kernel), by decide +kernel⟩
theorem miX10_isPoint : MIk yX10_isPoint := ⟨lw_g_of 619 (by decide +kernel) (by decide +kernel), lw_g_sel (q := (yX10_isPoint, 13)) 16 (by decide +kernel) (by decide +kernel)⟩
theorem mcX10_oppose : MCk yX10_oppose cX10_oppose 4 (some .boolean) 3 := ⟨lw_g_of 616 (by decide +kernel) (by decide +kernel), lw_g_of 1 (by decide +kernel) (by decide +kernel), by decide +kernel⟩
theorem miX10_oppose : MIk yX10_oppose := ⟨lw_g_of 614 (by decide +kernel) (by decide +kernel), lw_g_of 615 (by decide +kernel) (by decide +kernel)⟩
theorem mcX10_isCourt : MCk yX10_isCourt cX10_isCourt 2 (some .boolean) 1 := ⟨lw_g_of 639 (by decide +kernel) (by decide +kernel), lw_g_of 1 (by decide +kernel) (by decide +kernel), by decide +kernel⟩
theorem miX10_isCourt : MIk yX10_isCourt := ⟨lw_g_of 638 (by decide +kernel) (by decide +kernel), lw_g_sel (q := (yX10_isCourt, 13)) 17 (by decide +kernel) (by decide +kernel)⟩
theorem mcX10_areFacts : MCk yX10_areFacts cX10_areFacts 1 (some .boolean) 1 := ⟨lw_g_of 642 (by decide +kernel) (by decide +kernel), lw_g_of 1 (by decide +kernel) (by decide +kernel), by decide +kernel⟩
theorem msX10_areFacts : Cond.static yX10_areFacts ∈ lw_g := lw_g_of 641 (by decide +kernel) (by decide +kernel)
theorem mcX10_kase : MCk yX10_kase cX10_kase 5 (some .int) 4 := ⟨lw_g_of 635 (by decide +kernel) (by decide +kernel), lw_g_of 1 (by decide +kernel) (by decide +kernel), by decide +kernel⟩
theorem miX10_kase : MIk yX10_kase := ⟨lw_g_of 633 (by decide +kernel) (by decide +kernel), lw_g_of 634 (by decide +kernel) (by decide +kernel)⟩
theorem mcX10_isCase : MCk yX10_isCase cX10_isCase 2 (some .boolean) 1 := ⟨lw_g_of 654 (by decide +kernel) (by decide +kernel), lw_g_of 1 (by decide +kernel) (by decide +kernel), by decide +kernel⟩
theorem miX10_isCase : MIk yX10_isCase := ⟨lw_g_of 653 (by decide +kernel) (by decide +kernel), lw_g_sel (q := (yX10_isCase, 13)) 18 (by decide +kernel) (by decide +kernel)⟩
theorem mcX10_holds : MCk yX10_holds cX10_holds 6 (some .int) 5 := ⟨lw_g_of 650 (by decide +kernel) (by decide +kernel), lw_g_of 1 (by decide +kernel) (by decide +kernel), by decide +kernel⟩
theorem miX10_holds : MIk yX10_holds := ⟨lw_g_of 648 (by decide +kernel) (by decide +kernel), lw_g_of 649 (by decide +kernel) (by decide +kernel)⟩
theorem mcX10_treats : MCk yX10_treats cX10_treats 5 (some .int) 4 := ⟨lw_g_of 662 (by decide +kernel) (by decide +kernel), lw_g_of 1 (by decide +kernel) (by decide +kernel), by decide +kernel⟩
theorem miX10_treats : MIk yX10_treats := ⟨lw_g_of 660 (by decide +kernel) (by decide +kernel), lw_g_of 661 (by decide +kernel) (by decide +kernel)⟩
theorem mcX10_statute : MCk yX10_statute cX10_statute 4 (some .int) 3 := ⟨lw_g_of 670 (by decide +kernel) (by decide +kernel), lw_g_of 1 (by decide +kernel) (by decide +kernel), by decide +kernel⟩
theorem miX10_statute : MIk yX10_statute := ⟨lw_g_of 668 (by decide +kernel) (by decide +kernel), lw_g_of 669 (by decide +kernel) (by decide +kernel)⟩
theorem mcX10_join : MCk yX10_join cX10_join 3 (some .int) 2 := ⟨lw_g_of 674 (by decide +kernel) (by decide +kernel), lw_g_of 1 (by decide +kernel) (by decide +kernel), by decide +kernel⟩
theorem miX10_join : MIk yX10_join := ⟨lw_g_of 672 (by decide +kernel) (by decide +kernel), lw_g_of 673 (by decide +kernel) (by decide +kernel)⟩
theorem mcX10_strike : MCk yX10_strike cX10_strike 2 (some .int) 1 := ⟨lw_g_of 678 (by decide +kernel) (by decide +kernel), lw_g_of 1 (by decide +kernel) (by decide +kernel), by decide +kernel⟩
theorem miX10_strike : MIk yX10_strike := ⟨lw_g_of 676 (by decide +kernel) (by decide +kernel), lw_g_of 677 (by decide +kernel) (by decide +kernel)⟩
theorem mcX10_isAskable : MCk yX10_isAskable cX10_isAskable 5 (some .boolean) 4 := ⟨lw_g_of 686 (by decide +kernel) (by decide +kernel), lw_g_of 1 (by decide +kernel) (by decide +kernel), by decide +kernel⟩
theorem miX10_isAskable : MIk yX10_isAskable := ⟨lw_g_of 685 (by decide +kernel) (by decide +kernel), lw_g_sel (q := (yX10_isAskable, 13)) 19 (by decide +kernel) (by decide +kernel)⟩
theorem mcX10_stand : MCk yX10_stand cX10_stand 6 (some .int) 5 := ⟨lw_g_of 682 (by decide +kernel) (by decide +kernel), lw_g_of 1 (by decide +kernel) (by decide +kernel), by decide +kernel⟩
theorem miX10_stand : MIk yX10_stand := ⟨lw_g_of 680 (by decide +kernel) (by decide +kernel), lw_g_of 681 (by decide +kernel) (by decide +kernel)⟩
theorem mcX10_lead : MCk yX10_lead cX10_lead 6 (some .int) 5 := ⟨lw_g_of 850 (by decide +kernel) (by decide +kernel), lw_g_of 1 (by decide +kernel) (by decide +kernel), by decide +kernel⟩
theorem miX10_lead : MIk yX10_lead := ⟨lw_g_of 848 (by decide +kernel) (by decide +kernel), lw_g_of 849 (by decide +kernel) (by decide +kernel)⟩
theorem mcX10_asNumber : MCk yX10_asNumber cX10_asNumber 1 (some .int) 1 := ⟨lw_g_of 872 (by decide +kernel) (by decide +kernel), lw_g_of 1 (by decide +kernel) (by decide +kernel), by decide +kernel⟩
theorem msX10_asNumber : Cond.static yX10_asNumber ∈ lw_g := lw_g_of 871 (by decide +kernel) (by decide +kernel)
theorem mcX10_tellOf : MCk yX10_tellOf cX10_tellOf 5 (some .int) 3 := ⟨lw_g_of 867 (by decide +kernel) (by decide +kernel), lw_g_of 1 (by decide +kernel) (by decide +kernel), by decide +kernel⟩
theorem miX10_tellOf : MIk yX10_tellOf := ⟨lw_g_of 866 (by decide +kernel) (by decide +kernel), lw_g_sel (q := (yX10_tellOf, 13)) 41 (by decide +kernel) (by decide +kernel)⟩
theorem mcX10_asked : MCk yX10_asked cX10_asked 6 (some .int) 5 := ⟨lw_g_of 862 (by decide +kernel) (by decide +kernel), lw_g_of 1 (by decide +kernel) (by decide +kernel), by decide +kernel⟩
theorem miX10_asked : MIk yX10_asked := ⟨lw_g_of 860 (by decide +kernel) (by decide +kernel), lw_g_of 861 (by decide +kernel) (by decide +kernel)⟩
theorem mcX10_binds : MCk yX10_binds cX10_binds 7 (some .int) 6 := ⟨lw_g_of 880 (by decide +kernel) (by decide +kernel), lw_g_of 1 (by decide +kernel) (by decide +kernel), by decide +kernel⟩
theorem miX10_binds : MIk yX10_binds := ⟨lw_g_of 878 (by decide +kernel) (by decide +kernel), lw_g_of 879 (by decide +kernel) (by decide +kernel)⟩
theorem mcX10_areAtPeace : MCk yX10_areAtPeace cX10_areAtPeace 3 (some .boolean) 1 := ⟨lw_g_of 894 (by decide +kernel) (by decide +kernel), lw_g_of 1 (by decide +kernel) (by decide +kernel), by decide +kernel⟩
theorem miX10_areAtPeace : MIk yX10_areAtPeace := ⟨lw_g_of 893 (by decide +kernel) (by decide +kernel), lw_g_sel (q := (yX10_areAtPeace, 13)) 43 (by decide +kernel) (by decide +kernel)⟩
theorem mcX10_fewestToGiveUp : MCk yX10_fewestToGiveUp cX10_fewestToGiveUp 6 (some .int) 1 := ⟨lw_g_of 889 (by decide +kernel) (by decide +kernel), lw_g_of 1 (by decide +kernel) (by decide +kernel), by decide +kernel⟩
theorem miX10_fewestToGiveUp : MIk yX10_fewestToGiveUp := ⟨lw_g_of 888 (by decide +kernel) (by decide +kernel), lw_g_sel (q := (yX10_fewestToGiveUp, 13)) 42 (by decide +kernel) (by decide +kernel)⟩
theorem mcX10_quarrel : MCk yX10_quarrel cX10_quarrel 7 (some .int) 4 := ⟨lw_g_of 885 (by decide +kernel) (by decide +kernel), lw_g_of 1 (by decide +kernel) (by decide +kernel), by decide +kernel⟩
theorem miX10_quarrel : MIk yX10_quarrel := ⟨lw_g_of 883 (by decide +kernel) (by decide +kernel), lw_g_of 884 (by decide +kernel) (by decide +kernel)⟩
theorem mcX10_forgotten : MCk yX10_forgotten cX10_forgotten 3 (some .int) 2 := ⟨lw_g_of 898 (by decide +kernel) (by decide +kernel), lw_g_of 1 (by decide +kernel) (by decide +kernel), by decide +kernel⟩
theorem miX10_forgotten : MIk yX10_forgotten := ⟨lw_g_of 896 (by decide +kernel) (by decide +kernel), lw_g_of 897 (by decide +kernel) (by decide +kernel)⟩
theorem mcX10_mark : MCk yX10_mark cX10_mark 2 none 1 := ⟨lw_g_of 912 (by decide +kernel) (by decide +kernel), lw_g_of 1 (by decide +kernel) (by decide +kernel), by decide +kernel⟩
theorem miX10_mark : MIk yX10_mark := ⟨lw_g_of 911 (by decide +kernel) (by decide +kernel), lw_g_sel (q := (yX10_mark, 13)) 45 (by decide +kernel) (by decide +kernel)⟩
theorem mcX10_spreadMarks : MCk yX10_spreadMarks cX10_spreadMarks 3 none 0 := ⟨lw_g_of 916 (by decide +kernel) (by decide +kernel), lw_g_of 1 (by decide +kernel) (by decide +kernel), by decide +kernel⟩
theorem miX10_spreadMarks : MIk yX10_spreadMarks := ⟨lw_g_of 915 (by decide +kernel) (by decide +kernel), lw_g_sel (q := (yX10_spreadMarks, 13)) 46 (by decide +kernel) (by decide +kernel)⟩
theorem mcX10_markDifferences : MCk yX10_markDifferences cX10_markDifferences 5 none 2 := ⟨lw_g_of 907 (by decide +kernel) (by decide +kernel), lw_g_of 1 (by decide +kernel) (by decide +kernel), by decide +kernel⟩
theorem miX10_markDifferences : MIk yX10_markDifferences := ⟨lw_g_of 906 (by decide +kernel) (by decide +kernel), lw_g_sel (q := (yX10_markDifferences, 13)) 44 (by decide +kernel) (by decide +kernel)⟩
theorem mcX10_isMarked : MCk yX10_isMarked cX10_isMarked 2 (some .boolean) 1 := ⟨lw_g_of 926 (by decide +kernel) (by decide +kernel), lw_g_of 1 (by decide +kernel) (by decide +kernel), by decide +kernel⟩
theorem miX10_isMarked : MIk yX10_isMarked := ⟨lw_g_of 925 (by decide +kernel) (by decide +kernel), lw_g_sel (q := (yX10_isMarked, 13)) 48 (by decide +kernel) (by decide +kernel)⟩
theorem mcX10_fewestThatTell : MCk yX10_fewestThatTell cX10_fewestThatTell 4 (some .int) 0 := ⟨lw_g_of 922 (by decide +kernel) (by decide +kernel), lw_g_of 1 (by decide +kernel) (by decide +kernel), by decide +kernel⟩
theorem miX10_fewestThatTell : MIk yX10_fewestThatTell := ⟨lw_g_of 921 (by decide +kernel) (by decide +kernel), lw_g_sel (q := (yX10_fewestThatTell, 13)) 47 (by decide +kernel) (by decide +kernel)⟩
theorem mcX10_apart : MCk yX10_apart cX10_apart 5 (some .int) 4 := ⟨lw_g_of 903 (by decide +kernel) (by decide +kernel), lw_g_of 1 (by decide +kernel) (by decide +kernel), by decide +kernel⟩
theorem miX10_apart : MIk yX10_apart := ⟨lw_g_of 901 (by decide +kernel) (by decide +kernel), lw_g_of 902 (by decide +kernel) (by decide +kernel)⟩
theorem mcX10_hangs : MCk yX10_hangs cX10_hangs 8 (some .int) 5 := ⟨lw_g_of 930 (by decide +kernel) (by decide +kernel), lw_g_of 1 (by decide +kernel) (by decide +kernel), by decide +kernel⟩
theorem miX10_hangs : MIk yX10_hangs := ⟨lw_g_of 928 (by decide +kernel) (by decide +kernel), lw_g_of 929 (by decide +kernel) (by decide +kernel)⟩
theorem mcX10_joined : MCk yX10_joined cX10_joined 3 (some .int) 2 := ⟨lw_g_of 934 (by decide +kernel) (by decide +kernel), lw_g_of 1 (by decide +kernel) (by decide +kernel), by decide +kernel⟩
theorem miX10_joined : MIk yX10_joined := ⟨lw_g_of 932 (by decide +kernel) (by decide +kernel), lw_g_of 933 (by decide +kernel) (by decide +kernel)⟩
theorem mcX10_count : MCk yX10_count cX10_count 2 (some .int) 1 := ⟨lw_g_of 939 (by decide +kernel) (by decide +kernel), lw_g_of 1 (by decide +kernel) (by decide +kernel), by decide +kernel⟩
theorem miX10_count : MIk yX10_count := ⟨lw_g_of 937 (by decide +kernel) (by decide +kernel), lw_g_of 938 (by decide +kernel) (by decide +kernel)⟩
theorem mcX11_thrown : MCk yX11_thrown cX11_thrown 1 (some .int) 0 := ⟨lw_g_of 1228 (by decide +kernel) (by decide +kernel), lw_g_of 12 (by decide +kernel) (by decide +kernel), by decide +kernel⟩
theorem miX11_thrown : MIk yX11_thrown := ⟨lw_g_of 1226 (by decide +kernel) (by decide +kernel), lw_g_of 1227 (by decide +kernel) (by decide +kernel)⟩
theorem mcX11_feed : MCk yX11_feed cX11_feed 8 (some .int) 5 := ⟨lw_g_of 1232 (by decide +kernel) (by decide +kernel), lw_g_of 12 (by decide +kernel) (by decide +kernel), by decide +kernel⟩
theorem miX11_feed : MIk yX11_feed := ⟨lw_g_of 1230 (by decide +kernel) (by decide +kernel), lw_g_of 1231 (by decide +kernel) (by decide +kernel)⟩
theorem mcX11_here : MCk yX11_here cX11_here 1 (some .int) 0 := ⟨lw_g_of 1244 (by decide +kernel) (by decide +kernel), lw_g_of 12 (by decide +kernel) (by decide +kernel), by decide +kernel⟩
theorem miX11_here : MIk yX11_here := ⟨lw_g_of 1243 (by decide +kernel) (by decide +kernel), lw_g_sel (q := (yX11_here, 62)) 51 (by decide +kernel) (by decide +kernel)⟩
theorem mcX11_isSmall : MCk yX11_isSmall cX11_isSmall 1 (some .boolean) 1 := ⟨lw_g_of 1247 (by decide +kernel) (by decide +kernel), lw_g_of 12 (by decide +kernel) (by decide +kernel), by decide +kernel⟩
theorem msX11_isSmall : Cond.static yX11_isSmall ∈ lw_g := lw_g_of 1246 (by decide +kernel) (by decide +kernel)
theorem mcX11_isDigit : MCk yX11_isDigit cX11_isDigit 1 (some .boolean) 1 := ⟨lw_g_of 1257 (by decide +kernel) (by decide +kernel), lw_g_of 12 (by decide +kernel) (by decide +kernel), by decide +kernel⟩
theorem msX11_isDigit : Cond.static yX11_isDigit ∈ lw_g := lw_g_of 1256 (by decide +kernel) (by decide +kernel)
theorem mcX11_word : MCk yX11_word cX11_word 4 (some .int) 0 := ⟨lw_g_of 1251 (by decide +kernel) (by decide +kernel), lw_g_of 12 (by decide +kernel) (by decide +kernel), by decide +kernel⟩
theorem miX11_word : MIk yX11_word := ⟨lw_g_of 1250 (by decide +kernel) (by decide +kernel), lw_g_sel (q := (yX11_word, 62)) 52 (by decide +kernel) (by decide +kernel)⟩
theorem mcX11_next : MCk yX11_next cX11_next 2 none 0 := ⟨lw_g_of 1240 (by decide +kernel) (by decide +kernel), lw_g_of 12 (by decide +kernel) (by decide +kernel), by decide +kernel⟩
theorem miX11_next : MIk yX11_next := ⟨lw_g_of 1239 (by decide +kernel) (by decide +kernel), lw_g_sel (q := (yX11_next, 62)) 50 (by decide +kernel) (by decide +kernel)⟩
theorem mcX11_wrong : MCk yX11_wrong cX11_wrong 2 none 1 := ⟨lw_g_of 1265 (by decide +kernel) (by decide +kernel), lw_g_of 12 (by decide +kernel) (by decide +kernel), by decide +kernel⟩
theorem miX11_wrong : MIk yX11_wrong := ⟨lw_g_of 1264 (by decide +kernel) (by decide +kernel), lw_g_sel (q := (yX11_wrong, 62)) 54 (by decide +kernel) (by decide +kernel)⟩
theorem mcX11_isSign : MCk yX11_isSign cX11_isSign 2 (some .boolean) 1 := ⟨lw_g_of 1285 (by decide +kernel) (by decide +kernel), lw_g_of 12 (by decide +kernel) (by decide +kernel), by decide +kernel⟩
theorem miX11_isSign : MIk yX11_isSign := ⟨lw_g_of 1284 (by decide +kernel) (by decide +kernel), lw_g_sel (q := (yX11_isSign, 62)) 59 (by decide +kernel) (by decide +kernel)⟩
theorem mcX11_knot : MCk yX11_knot cX11_knot 1 none 0 := ⟨lw_g_of 1277 (by decide +kernel) (by decide +kernel), lw_g_of 12 (by decide +kernel) (by decide +kernel), by decide +kernel⟩
theorem miX11_knot : MIk yX11_knot := ⟨lw_g_of 1276 (by decide +kernel) (by decide +kernel), lw_g_sel (q := (yX11_knot, 62)) 57 (by decide +kernel) (by decide +kernel)⟩
theorem mcX11_out : MCk yX11_out cX11_out 3 none 2 := ⟨lw_g_of 1281 (by decide +kernel) (by decide +kernel), lw_g_of 12 (by decide +kernel) (by decide +kernel), by decide +kernel⟩
theorem miX11_out : MIk yX11_out := ⟨lw_g_of 1280 (by decide +kernel) (by decide +kernel), lw_g_sel (q := (yX11_out, 62)) 58 (by decide +kernel) (by decide +kernel)⟩
theorem mcX11_waits : MCk yX11_waits cX11_waits 2 none 1 := ⟨lw_g_of 1289 (by decide +kernel) (by decide +kernel), lw_g_of 12 (by decide +kernel) (by decide +kernel), by decide +kernel⟩
theorem miX11_waits : MIk yX11_waits := ⟨lw_g_of 1288 (by decide +kernel) (by decide +kernel), lw_g_sel (q := (yX11_waits, 62)) 60 (by decide +kernel) (by decide +kernel)⟩
theorem mcX11_bind : MCk yX11_bind cX11_bind 1 (some .int) 1 := ⟨lw_g_of 1292 (by decide +kernel) (by decide +kernel), lw_g_of 12 (by decide +kernel) (by decide +kernel), by decide +kernel⟩
theorem msX11_bind : Cond.static yX11_bind ∈ lw_g := lw_g_of 1291 (by decide +kernel) (by decide +kernel)
theorem mcX11_operand : MCk yX11_operand cX11_operand 2 (some .boolean) 0 := ⟨lw_g_of 1273 (by decide +kernel) (by decide +kernel), lw_g_of 12 (by decide +kernel) (by decide +kernel), by decide +kernel⟩
theorem miX11_operand : MIk yX11_operand := ⟨lw_g_of 1272 (by decide +kernel) (by decide +kernel), lw_g_sel (q := (yX11_operand, 62)) 56 (by decide +kernel) (by decide +kernel)⟩
theorem mcX11_between : MCk yX11_between cX11_between 1 (some .int) 0 := ⟨lw_g_of 1296 (by decide +kernel) (by decide +kernel), lw_g_of 12 (by decide +kernel) (by decide +kernel), by decide +kernel⟩
theorem miX11_between : MIk yX11_between := ⟨lw_g_of 1295 (by decide +kernel) (by decide +kernel), lw_g_sel (q := (yX11_between, 62)) 61 (by decide +kernel) (by decide +kernel)⟩
theorem mcX11_pour : MCk yX11_pour cX11_pour 2 none 1 := ⟨lw_g_of 1304 (by decide +kernel) (by decide +kernel), lw_g_of 12 (by decide +kernel) (by decide +kernel), by decide +kernel⟩
theorem miX11_pour : MIk yX11_pour := ⟨lw_g_of 1303 (by decide +kernel) (by decide +kernel), lw_g_sel (q := (yX11_pour, 62)) 63 (by decide +kernel) (by decide +kernel)⟩
theorem mcX11_sign : MCk yX11_sign cX11_sign 2 none 1 := ⟨lw_g_of 1300 (by decide +kernel) (by decide +kernel), lw_g_of 12 (by decide +kernel) (by decide +kernel), by decide +kernel⟩
theorem miX11_sign : MIk yX11_sign := ⟨lw_g_of 1299 (by decide +kernel) (by decide +kernel), lw_g_sel (q := (yX11_sign, 62)) 62 (by decide +kernel) (by decide +kernel)⟩
theorem mcX11_expression : MCk yX11_expression cX11_expression 4 none 0 := ⟨lw_g_of 1269 (by decide +kernel) (by decide +kernel), lw_g_of 12 (by decide +kernel) (by decide +kernel), by decide +kernel⟩
theorem miX11_expression : MIk yX11_expression := ⟨lw_g_of 1268 (by decide +kernel) (by decide +kernel), lw_g_sel (q := (yX11_expression, 62)) 55 (by decide +kernel) (by decide +kernel)⟩
theorem mcX11_lineOf : MCk yX11_lineOf cX11_lineOf 2 none 0 := ⟨lw_g_of 1261 (by decide +kernel) (by decide +kernel), lw_g_of 12 (by decide +kernel) (by decide +kernel), by decide +kernel⟩
theorem miX11_lineOf : MIk yX11_lineOf := ⟨lw_g_of 1260 (by decide +kernel) (by decide +kernel), lw_g_sel (q := (yX11_lineOf, 62)) 53 (by decide +kernel) (by decide +kernel)⟩
theorem mcX11_rules : MCk yX11_rules cX11_rules 3 (some .int) 1 := ⟨lw_g_of 1236 (by decide +kernel) (by decide +kernel), lw_g_of 12 (by decide +kernel) (by decide +kernel), by decide +kernel⟩
theorem miX11_rules : MIk yX11_rules := ⟨lw_g_of 1234 (by decide +kernel) (by decide +kernel), lw_g_of 1235 (by decide +kernel) (by decide +kernel)⟩
theorem mcX11_fault : MCk yX11_fault cX11_fault 2 (some .int) 1 := ⟨lw_g_of 1308 (by decide +kernel) (by decide +kernel), lw_g_of 12 (by decide +kernel) (by decide +kernel), by decide +kernel⟩
theorem miX11_fault : MIk yX11_fault := ⟨lw_g_of 1306 (by decide +kernel) (by decide +kernel), lw_g_of 1307 (by decide +kernel) (by decide +kernel)⟩
theorem mcX11_puts : MCk yX11_puts cX11_puts 3 (some .boolean) 1 := ⟨lw_g_of 1450 (by decide +kernel) (by decide +kernel), lw_g_of 12 (by decide +kernel) (by decide +kernel), by decide +kernel⟩
theorem miX11_puts : MIk yX11_puts := ⟨lw_g_of 1449 (by decide +kernel) (by decide +kernel), lw_g_sel (q := (yX11_puts, 62)) 84 (by decide +kernel) (by decide +kernel)⟩
theorem mcX11_is : MCk yX11_is cX11_is 1 (some .long) 1 := ⟨lw_g_of 1438 (by decide +kernel) (by decide +kernel), lw_g_of 12 (by decide +kernel) (by decide +kernel), by decide +kernel⟩
theorem msX11_is : Cond.static yX11_is ∈ lw_g := lw_g_of 1437 (by decide +kernel) (by decide +kernel)
theorem mcX11_does : MCk yX11_does cX11_does 6 (some .boolean) 1 := ⟨lw_g_of 1446 (by decide +kernel) (by decide +kernel), lw_g_of 12 (by decide +kernel) (by decide +kernel), by decide +kernel⟩
theorem miX11_does : MIk yX11_does := ⟨lw_g_of 1445 (by decide +kernel) (by decide +kernel), lw_g_sel (q := (yX11_does, 62)) 83 (by decide +kernel) (by decide +kernel)⟩
theorem mcX11_holdsE : MCk yX11_holdsE cX11_holdsE 5 (some .boolean) 1 := ⟨lw_g_of 1442 (by decide +kernel) (by decide +kernel), lw_g_of 12 (by decide +kernel) (by decide +kernel), by decide +kernel⟩
theorem miX11_holdsE : MIk yX11_holdsE := ⟨lw_g_of 1441 (by decide +kernel) (by decide +kernel), lw_g_sel (q := (yX11_holdsE, 62)) 82 (by decide +kernel) (by decide +kernel)⟩
theorem mcX11_days : MCk yX11_days cX11_days 2 (some .int) 1 := ⟨lw_g_of 1312 (by decide +kernel) (by decide +kernel), lw_g_of 12 (by decide +kernel) (by decide +kernel), by decide +kernel⟩
theorem miX11_days : MIk yX11_days := ⟨lw_g_of 1310 (by decide +kernel) (by decide +kernel), lw_g_of 1311 (by decide +kernel) (by decide +kernel)⟩
theorem mcX11_court : MCk yX11_court cX11_court 3 (some .int) 2 := ⟨lw_g_of 1316 (by decide +kernel) (by decide +kernel), lw_g_of 12 (by decide +kernel) (by decide +kernel), by decide +kernel⟩
theorem miX11_court : MIk yX11_court := ⟨lw_g_of 1314 (by decide +kernel) (by decide +kernel), lw_g_of 1315 (by decide +kernel) (by decide +kernel)⟩
theorem mcX11_point : MCk yX11_point cX11_point 1 (some .int) 0 := ⟨lw_g_of 1320 (by decide +kernel) (by decide +kernel), lw_g_of 12 (by decide +kernel) (by decide +kernel), by decide +kernel⟩
theorem miX11_point : MIk yX11_point := ⟨lw_g_of 1318 (by decide +kernel) (by decide +kernel), lw_g_of 1319 (by decide +kernel) (by decide +kernel)⟩
theorem mcX11_isPoint : MCk yX11_isPoint cX11_isPoint 2 (some .boolean) 1 := ⟨lw_g_of 1328 (by decide +kernel) (by decide +kernel), lw_g_of 12 (by decide +kernel) (by decide +kernel), by decide +kernel⟩
theorem miX11_isPoint : MIk yX11_isPoint := ⟨lw_g_of 1327 (by decide +kernel) (by decide +kernel), lw_g_sel (q := (yX11_isPoint, 62)) 64 (by decide +kernel) (by decide +kernel)⟩
theorem mcX11_isCase : MCk yX11_isCase cX11_isCase 2 (some .boolean) 1 := ⟨lw_g_of 1347 (by decide +kernel) (by decide +kernel), lw_g_of 12 (by decide +kernel) (by decide +kernel), by decide +kernel⟩
theorem miX11_isCase : MIk yX11_isCase := ⟨lw_g_of 1346 (by decide +kernel) (by decide +kernel), lw_g_sel (q := (yX11_isCase, 62)) 66 (by decide +kernel) (by decide +kernel)⟩
theorem mcX11_isCourt : MCk yX11_isCourt cX11_isCourt 2 (some .boolean) 1 := ⟨lw_g_of 1336 (by decide +kernel) (by decide +kernel), lw_g_of 12 (by decide +kernel) (by decide +kernel), by decide +kernel⟩
theorem miX11_isCourt : MIk yX11_isCourt := ⟨lw_g_of 1335 (by decide +kernel) (by decide +kernel), lw_g_sel (q := (yX11_isCourt, 62)) 65 (by decide +kernel) (by decide +kernel)⟩
theorem mcX11_isFacts : MCk yX11_isFacts cX11_isFacts 1 (some .boolean) 1 := ⟨lw_g_of 1339 (by decide +kernel) (by decide +kernel), lw_g_of 12 (by decide +kernel) (by decide +kernel), by decide +kernel⟩
theorem msX11_isFacts : Cond.static yX11_isFacts ∈ lw_g := lw_g_of 1338 (by decide +kernel) (by decide +kernel)
theorem mcX11_isDay : MCk yX11_isDay cX11_isDay 1 (some .boolean) 1 := ⟨lw_g_of 1366 (by decide +kernel) (by decide +kernel), lw_g_of 12 (by decide +kernel) (by decide +kernel), by decide +kernel⟩
theorem msX11_isDay : Cond.static yX11_isDay ∈ lw_g := lw_g_of 1365 (by decide +kernel) (by decide +kernel)
theorem mcX11_oppose : MCk yX11_oppose cX11_oppose 4 (some .boolean) 3 := ⟨lw_g_of 1324 (by decide +kernel) (by decide +kernel), lw_g_of 12 (by decide +kernel) (by decide +kernel), by decide +kernel⟩
theorem miX11_oppose : MIk yX11_oppose := ⟨lw_g_of 1322 (by decide +kernel) (by decide +kernel), lw_g_of 1323 (by decide +kernel) (by decide +kernel)⟩
theorem mcX11_kase : MCk yX11_kase cX11_kase 5 (some .int) 4 := ⟨lw_g_of 1332 (by decide +kernel) (by decide +kernel), lw_g_of 12 (by decide +kernel) (by decide +kernel), by decide +kernel⟩
theorem miX11_kase : MIk yX11_kase := ⟨lw_g_of 1330 (by decide +kernel) (by decide +kernel), lw_g_of 1331 (by decide +kernel) (by decide +kernel)⟩
theorem mcX11_note : MCk yX11_note cX11_note 6 (some .int) 5 := ⟨lw_g_of 1351 (by decide +kernel) (by decide +kernel), lw_g_of 12 (by decide +kernel) (by decide +kernel), by decide +kernel⟩
theorem miX11_note : MIk yX11_note := ⟨lw_g_of 1350 (by decide +kernel) (by decide +kernel), lw_g_sel (q := (yX11_note, 62)) 67 (by decide +kernel) (by decide +kernel)⟩
theorem mcX11_holds : MCk yX11_holds cX11_holds 6 (some .int) 5 := ⟨lw_g_of 1343 (by decide +kernel) (by decide +kernel), lw_g_of 12 (by decide +kernel) (by decide +kernel), by decide +kernel⟩
theorem miX11_holds : MIk yX11_holds := ⟨lw_g_of 1341 (by decide +kernel) (by decide +kernel), lw_g_of 1342 (by decide +kernel) (by decide +kernel)⟩
theorem mcX11_isLater : MCk yX11_isLater cX11_isLater 3 (some .boolean) 2 := ⟨lw_g_of 1359 (by decide +kernel) (by decide +kernel), lw_g_of 12 (by decide +kernel) (by decide +kernel), by decide +kernel⟩
theorem miX11_isLater : MIk yX11_isLater := ⟨lw_g_of 1358 (by decide +kernel) (by decide +kernel), lw_g_sel (q := (yX11_isLater, 62)) 68 (by decide +kernel) (by decide +kernel)⟩
theorem mcX11_treats : MCk yX11_treats cX11_treats 5 (some .int) 4 := ⟨lw_g_of 1355 (by decide +kernel) (by decide +kernel), lw_g_of 12 (by decide +kernel) (by decide +kernel), by decide +kernel⟩
theorem miX11_treats : MIk yX11_treats := ⟨lw_g_of 1353 (by decide +kernel) (by decide +kernel), lw_g_of 1354 (by decide +kernel) (by decide +kernel)⟩
theorem mcX11_statute : MCk yX11_statute cX11_statute 4 (some .int) 3 := ⟨lw_g_of 1363 (by decide +kernel) (by decide +kernel), lw_g_of 12 (by decide +kernel) (by decide +kernel), by decide +kernel⟩
theorem miX11_statute : MIk yX11_statute := ⟨lw_g_of 1361 (by decide +kernel) (by decide +kernel), lw_g_of 1362 (by decide +kernel) (by decide +kernel)⟩
theorem mcX11_join : MCk yX11_join cX11_join 3 (some .int) 2 := ⟨lw_g_of 1370 (by decide +kernel) (by decide +kernel), lw_g_of 12 (by decide +kernel) (by decide +kernel), by decide +kernel⟩
theorem miX11_join : MIk yX11_join := ⟨lw_g_of 1368 (by decide +kernel) (by decide +kernel), lw_g_of 1369 (by decide +kernel) (by decide +kernel)⟩
theorem mcX11_strike : MCk yX11_strike cX11_strike 2 (some .int) 1 := ⟨lw_g_of 1374 (by decide +kernel) (by decide +kernel), lw_g_of 12 (by decide +kernel) (by decide +kernel), by decide +kernel⟩
theorem miX11_strike : MIk yX11_strike := ⟨lw_g_of 1372 (by decide +kernel) (by decide +kernel), lw_g_of 1373 (by decide +kernel) (by decide +kernel)⟩
theorem mcX11_joins : MCk yX11_joins cX11_joins 5 none 0 := ⟨lw_g_of 1390 (by decide +kernel) (by decide +kernel), lw_g_of 12 (by decide +kernel) (by decide +kernel), by decide +kernel⟩
theorem miX11_joins : MIk yX11_joins := ⟨lw_g_of 1389 (by decide +kernel) (by decide +kernel), lw_g_sel (q := (yX11_joins, 62)) 71 (by decide +kernel) (by decide +kernel)⟩
theorem mcX11_undoes : MCk yX11_undoes cX11_undoes 5 none 1 := ⟨lw_g_of 1400 (by decide +kernel) (by decide +kernel), lw_g_of 12 (by decide +kernel) (by decide +kernel), by decide +kernel⟩
theorem miX11_undoes : MIk yX11_undoes := ⟨lw_g_of 1399 (by decide +kernel) (by decide +kernel), lw_g_sel (q := (yX11_undoes, 62)) 73 (by decide +kernel) (by decide +kernel)⟩
theorem mcX11_bits : MCk yX11_bits cX11_bits 3 (some .int) 1 := ⟨lw_g_of 1411 (by decide +kernel) (by decide +kernel), lw_g_of 12 (by decide +kernel) (by decide +kernel), by decide +kernel⟩
theorem msX11_bits : Cond.static yX11_bits ∈ lw_g := lw_g_of 1410 (by decide +kernel) (by decide +kernel)
theorem mcX11_votes : MCk yX11_votes cX11_votes 6 (some .int) 3 := ⟨lw_g_of 1408 (by decide +kernel) (by decide +kernel), lw_g_of 12 (by decide +kernel) (by decide +kernel), by decide +kernel⟩
theorem miX11_votes : MIk yX11_votes := ⟨lw_g_of 1407 (by decide +kernel) (by decide +kernel), lw_g_sel (q := (yX11_votes, 62)) 75 (by decide +kernel) (by decide +kernel)⟩
theorem mcX11_isHeld : MCk yX11_isHeld cX11_isHeld 4 (some .boolean) 3 := ⟨lw_g_of 1404 (by decide +kernel) (by decide +kernel), lw_g_of 12 (by decide +kernel) (by decide +kernel), by decide +kernel⟩
theorem miX11_isHeld : MIk yX11_isHeld := ⟨lw_g_of 1403 (by decide +kernel) (by decide +kernel), lw_g_sel (q := (yX11_isHeld, 62)) 74 (by decide +kernel) (by decide +kernel)⟩
theorem mcX11_isLaid : MCk yX11_isLaid cX11_isLaid 5 (some .boolean) 2 := ⟨lw_g_of 1419 (by decide +kernel) (by decide +kernel), lw_g_of 12 (by decide +kernel) (by decide +kernel), by decide +kernel⟩
theorem miX11_isLaid : MIk yX11_isLaid := ⟨lw_g_of 1418 (by decide +kernel) (by decide +kernel), lw_g_sel (q := (yX11_isLaid, 62)) 77 (by decide +kernel) (by decide +kernel)⟩
theorem mcX11_doubts : MCk yX11_doubts cX11_doubts 7 (some .int) 3 := ⟨lw_g_of 1431 (by decide +kernel) (by decide +kernel), lw_g_of 12 (by decide +kernel) (by decide +kernel), by decide +kernel⟩
theorem miX11_doubts : MIk yX11_doubts := ⟨lw_g_of 1430 (by decide +kernel) (by decide +kernel), lw_g_sel (q := (yX11_doubts, 62)) 80 (by decide +kernel) (by decide +kernel)⟩
theorem mcX11_name : MCk yX11_name cX11_name 7 none 5 := ⟨lw_g_of 1435 (by decide +kernel) (by decide +kernel), lw_g_of 12 (by decide +kernel) (by decide +kernel), by decide +kernel⟩
theorem miX11_name : MIk yX11_name := ⟨lw_g_of 1434 (by decide +kernel) (by decide +kernel), lw_g_sel (q := (yX11_name, 62)) 81 (by decide +kernel) (by decide +kernel)⟩
theorem mcX11_isOverruled : MCk yX11_isOverruled cX11_isOverruled 6 (some .boolean) 3 := ⟨lw_g_of 1427 (by decide +kernel) (by decide +kernel), lw_g_of 12 (by decide +kernel) (by decide +kernel), by decide +kernel⟩
theorem miX11_isOverruled : MIk yX11_isOverruled := ⟨lw_g_of 1426 (by decide +kernel) (by decide +kernel), lw_g_sel (q := (yX11_isOverruled, 62)) 79 (by decide +kernel) (by decide +kernel)⟩
theorem mcX11_isTaken : MCk yX11_isTaken cX11_isTaken 5 (some .boolean) 3 := ⟨lw_g_of 1459 (by decide +kernel) (by decide +kernel), lw_g_of 12 (by decide +kernel) (by decide +kernel), by decide +kernel⟩
theorem miX11_isTaken : MIk yX11_isTaken := ⟨lw_g_of 1458 (by decide +kernel) (by decide +kernel), lw_g_sel (q := (yX11_isTaken, 62)) 85 (by decide +kernel) (by decide +kernel)⟩
theorem mcX11_isGood : MCk yX11_isGood cX11_isGood 6 (some .boolean) 5 := ⟨lw_g_of 1423 (by decide +kernel) (by decide +kernel), lw_g_of 12 (by decide +kernel) (by decide +kernel), by decide +kernel⟩
theorem miX11_isGood : MIk yX11_isGood := ⟨lw_g_of 1422 (by decide +kernel) (by decide +kernel), lw_g_sel (q := (yX11_isGood, 62)) 78 (by decide +kernel) (by decide +kernel)⟩
theorem mcX11_isBinding : MCk yX11_isBinding cX11_isBinding 7 (some .boolean) 6 := ⟨lw_g_of 1463 (by decide +kernel) (by decide +kernel), lw_g_of 12 (by decide +kernel) (by decide +kernel), by decide +kernel⟩
theorem miX11_isBinding : MIk yX11_isBinding := ⟨lw_g_of 1462 (by decide +kernel) (by decide +kernel), lw_g_sel (q := (yX11_isBinding, 62)) 86 (by decide +kernel) (by decide +kernel)⟩
theorem mcX11_forgets : MCk yX11_forgets cX11_forgets 7 none 4 := ⟨lw_g_of 1415 (by decide +kernel) (by decide +kernel), lw_g_of 12 (by decide +kernel) (by decide +kernel), by decide +kernel⟩
theorem miX11_forgets : MIk yX11_forgets := ⟨lw_g_of 1414 (by decide +kernel) (by decide +kernel), lw_g_sel (q := (yX11_forgets, 62)) 76 (by decide +kernel) (by decide +kernel)⟩
theorem mcX11_blinds : MCk yX11_blinds cX11_blinds 5 none 1 := ⟨lw_g_of 1396 (by decide +kernel) (by decide +kernel), lw_g_of 12 (by decide +kernel) (by decide +kernel), by decide +kernel⟩
theorem miX11_blinds : MIk yX11_blinds := ⟨lw_g_of 1395 (by decide +kernel) (by decide +kernel), lw_g_sel (q := (yX11_blinds, 62)) 72 (by decide +kernel) (by decide +kernel)⟩
theorem mcX11_knows : MCk yX11_knows cX11_knows 5 none 2 := ⟨lw_g_of 1386 (by decide +kernel) (by decide +kernel), lw_g_of 12 (by decide +kernel) (by decide +kernel), by decide +kernel⟩
theorem miX11_knows : MIk yX11_knows := ⟨lw_g_of 1385 (by decide +kernel) (by decide +kernel), lw_g_sel (q := (yX11_knows, 62)) 70 (by decide +kernel) (by decide +kernel)⟩
theorem mcX11_asOf : MCk yX11_asOf cX11_asOf 2 none 1 := ⟨lw_g_of 1467 (by decide +kernel) (by decide +kernel), lw_g_of 12 (by decide +kernel) (by decide +kernel), by decide +kernel⟩
theorem miX11_asOf : MIk yX11_asOf := ⟨lw_g_of 1466 (by decide +kernel) (by decide +kernel), lw_g_sel (q := (yX11_asOf, 62)) 87 (by decide +kernel) (by decide +kernel)⟩
theorem mcX11_isBefore : MCk yX11_isBefore cX11_isBefore 5 (some .boolean) 2 := ⟨lw_g_of 1475 (by decide +kernel) (by decide +kernel), lw_g_of 12 (by decide +kernel) (by decide +kernel), by decide +kernel⟩
theorem miX11_isBefore : MIk yX11_isBefore := ⟨lw_g_of 1474 (by decide +kernel) (by decide +kernel), lw_g_sel (q := (yX11_isBefore, 62)) 89 (by decide +kernel) (by decide +kernel)⟩
theorem mcX11_hasSaid : MCk yX11_hasSaid cX11_hasSaid 5 (some .boolean) 3 := ⟨lw_g_of 1479 (by decide +kernel) (by decide +kernel), lw_g_of 12 (by decide +kernel) (by decide +kernel), by decide +kernel⟩
theorem miX11_hasSaid : MIk yX11_hasSaid := ⟨lw_g_of 1478 (by decide +kernel) (by decide +kernel), lw_g_sel (q := (yX11_hasSaid, 62)) 90 (by decide +kernel) (by decide +kernel)⟩
theorem mcX11_standOf : MCk yX11_standOf cX11_standOf 10 (some .int) 3 := ⟨lw_g_of 1471 (by decide +kernel) (by decide +kernel), lw_g_of 12 (by decide +kernel) (by decide +kernel), by decide +kernel⟩
theorem miX11_standOf : MIk yX11_standOf := ⟨lw_g_of 1470 (by decide +kernel) (by decide +kernel), lw_g_sel (q := (yX11_standOf, 62)) 88 (by decide +kernel) (by decide +kernel)⟩
theorem mcX11_isAsked : MCk yX11_isAsked cX11_isAsked 5 (some .boolean) 4 := ⟨lw_g_of 1382 (by decide +kernel) (by decide +kernel), lw_g_of 12 (by decide +kernel) (by decide +kernel), by decide +kernel⟩
theorem miX11_isAsked : MIk yX11_isAsked := ⟨lw_g_of 1381 (by decide +kernel) (by decide +kernel), lw_g_sel (q := (yX11_isAsked, 62)) 69 (by decide +kernel) (by decide +kernel)⟩
theorem mcX11_stand : MCk yX11_stand cX11_stand 6 (some .int) 5 := ⟨lw_g_of 1378 (by decide +kernel) (by decide +kernel), lw_g_of 12 (by decide +kernel) (by decide +kernel), by decide +kernel⟩
theorem miX11_stand : MIk yX11_stand := ⟨lw_g_of 1376 (by decide +kernel) (by decide +kernel), lw_g_of 1377 (by decide +kernel) (by decide +kernel)⟩
theorem mcX11_lead : MCk yX11_lead cX11_lead 6 (some .int) 5 := ⟨lw_g_of 1483 (by decide +kernel) (by decide +kernel), lw_g_of 12 (by decide +kernel) (by decide +kernel), by decide +kernel⟩
theorem miX11_lead : MIk yX11_lead := ⟨lw_g_of 1481 (by decide +kernel) (by decide +kernel), lw_g_of 1482 (by decide +kernel) (by decide +kernel)⟩
theorem mcX11_isThere : MCk yX11_isThere cX11_isThere 5 (some .boolean) 4 := ⟨lw_g_of 1491 (by decide +kernel) (by decide +kernel), lw_g_of 12 (by decide +kernel) (by decide +kernel), by decide +kernel⟩
theorem miX11_isThere : MIk yX11_isThere := ⟨lw_g_of 1490 (by decide +kernel) (by decide +kernel), lw_g_sel (q := (yX11_isThere, 62)) 91 (by decide +kernel) (by decide +kernel)⟩
theorem mcX11_asked : MCk yX11_asked cX11_asked 7 (some .int) 5 := ⟨lw_g_of 1487 (by decide +kernel) (by decide +kernel), lw_g_of 12 (by decide +kernel) (by decide +kernel), by decide +kernel⟩
theorem miX11_asked : MIk yX11_asked := ⟨lw_g_of 1485 (by decide +kernel) (by decide +kernel), lw_g_of 1486 (by decide +kernel) (by decide +kernel)⟩
theorem mcX11_binds : MCk yX11_binds cX11_binds 7 (some .int) 6 := ⟨lw_g_of 1495 (by decide +kernel) (by decide +kernel), lw_g_of 12 (by decide +kernel) (by decide +kernel), by decide +kernel⟩
theorem miX11_binds : MIk yX11_binds := ⟨lw_g_of 1493 (by decide +kernel) (by decide +kernel), lw_g_of 1494 (by decide +kernel) (by decide +kernel)⟩
theorem mcX11_isPeace : MCk yX11_isPeace cX11_isPeace 3 (some .boolean) 1 := ⟨lw_g_of 1503 (by decide +kernel) (by decide +kernel), lw_g_of 12 (by decide +kernel) (by decide +kernel), by decide +kernel⟩
theorem miX11_isPeace : MIk yX11_isPeace := ⟨lw_g_of 1502 (by decide +kernel) (by decide +kernel), lw_g_sel (q := (yX11_isPeace, 62)) 92 (by decide +kernel) (by decide +kernel)⟩
theorem mcX11_quarrel : MCk yX11_quarrel cX11_quarrel 8 (some .int) 4 := ⟨lw_g_of 1499 (by decide +kernel) (by decide +kernel), lw_g_of 12 (by decide +kernel) (by decide +kernel), by decide +kernel⟩
theorem miX11_quarrel : MIk yX11_quarrel := ⟨lw_g_of 1497 (by decide +kernel) (by decide +kernel), lw_g_of 1498 (by decide +kernel) (by decide +kernel)⟩
theorem mcX11_forgotten : MCk yX11_forgotten cX11_forgotten 3 (some .int) 2 := ⟨lw_g_of 1507 (by decide +kernel) (by decide +kernel), lw_g_of 12 (by decide +kernel) (by decide +kernel), by decide +kernel⟩
theorem miX11_forgotten : MIk yX11_forgotten := ⟨lw_g_of 1505 (by decide +kernel) (by decide +kernel), lw_g_of 1506 (by decide +kernel) (by decide +kernel)⟩
theorem mcX11_parts : MCk yX11_parts cX11_parts 6 (some .boolean) 3 := ⟨lw_g_of 1515 (by decide +kernel) (by decide +kernel), lw_g_of 12 (by decide +kernel) (by decide +kernel), by decide +kernel⟩
theorem miX11_parts : MIk yX11_parts := ⟨lw_g_of 1514 (by decide +kernel) (by decide +kernel), lw_g_sel (q := (yX11_parts, 62)) 93 (by decide +kernel) (by decide +kernel)⟩
theorem mcX11_apart : MCk yX11_apart cX11_apart 7 (some .int) 4 := ⟨lw_g_of 1511 (by decide +kernel) (by decide +kernel), lw_g_of 12 (by decide +kernel) (by decide +kernel), by decide +kernel⟩
theorem miX11_apart : MIk yX11_apart := ⟨lw_g_of 1509 (by decide +kernel) (by decide +kernel), lw_g_of 1510 (by decide +kernel) (by decide +kernel)⟩
theorem mcX11_hangs : MCk yX11_hangs cX11_hangs 8 (some .int) 5 := ⟨lw_g_of 1519 (by decide +kernel) (by decide +kernel), lw_g_of 12 (by decide +kernel) (by decide +kernel), by decide +kernel⟩
theorem miX11_hangs : MIk yX11_hangs := ⟨lw_g_of 1517 (by decide +kernel) (by decide +kernel), lw_g_of 1518 (by decide +kernel) (by decide +kernel)⟩
theorem mcX11_joined : MCk yX11_joined cX11_joined 3 (some .int) 2 := ⟨lw_g_of 1523 (by decide +kernel) (by decide +kernel), lw_g_of 12 (by decide +kernel) (by decide +kernel), by decide +kernel⟩
theorem miX11_joined : MIk yX11_joined := ⟨lw_g_of 1521 (by decide +kernel) (by decide +kernel), lw_g_of 1522 (by decide +kernel) (by decide +kernel)⟩
theorem mcX11_look : MCk yX11_look cX11_look 3 (some .int) 2 := ⟨lw_g_of 1527 (by decide +kernel) (by decide +kernel), lw_g_of 12 (by decide +kernel) (by decide +kernel), by decide +kernel⟩
theorem miX11_look : MIk yX11_look := ⟨lw_g_of 1525 (by decide +kernel) (by decide +kernel), lw_g_of 1526 (by decide +kernel) (by decide +kernel)⟩
theorem mcX11_count : MCk yX11_count cX11_count 2 (some .int) 1 := ⟨lw_g_of 1531 (by decide +kernel) (by decide +kernel), lw_g_of 12 (by decide +kernel) (by decide +kernel), by decide +kernel⟩
theorem miX11_count : MIk yX11_count := ⟨lw_g_of 1529 (by decide +kernel) (by decide +kernel), lw_g_of 1530 (by decide +kernel) (by decide +kernel)⟩
theorem mcJ0_length_8abf5 : MCk yJ0_length_8abf5 cJ0_length_8abf5 1 (some .int) 0 := ⟨lw_g_of 482 (by decide +kernel) (by decide +kernel), lw_g_of 14 (by decide +kernel) (by decide +kernel), by decide +kernel⟩
theorem miJ0_length_8abf5 : MIk yJ0_length_8abf5 := ⟨lw_g_of 480 (by decide +kernel) (by decide +kernel), lw_g_of 481 (by decide +kernel) (by decide +kernel)⟩
theorem mcJ0_charAt_5068e : MCk yJ0_charAt_5068e cJ0_charAt_5068e 2 (some .char) 1 := ⟨lw_g_of 492 (by decide +kernel) (by decide +kernel), lw_g_of 14 (by decide +kernel) (by decide +kernel), by decide +kernel⟩
theorem miJ0_charAt_5068e : MIk yJ0_charAt_5068e := ⟨lw_g_of 490 (by decide +kernel) (by decide +kernel), lw_g_of 491 (by decide +kernel) (by decide +kernel)⟩
theorem mcJ0_coder_7d493 : MCk yJ0_coder_7d493 cJ0_coder_7d493 1 (some .byte) 0 := ⟨lw_g_of 486 (by decide +kernel) (by decide +kernel), lw_g_of 14 (by decide +kernel) (by decide +kernel), by decide +kernel⟩
theorem miJ0_coder_7d493 : MIk yJ0_coder_7d493 := ⟨lw_g_of 484 (by decide +kernel) (by decide +kernel), lw_g_of 485 (by decide +kernel) (by decide +kernel)⟩
theorem mcJ0_isLatin1_aae02 : MCk yJ0_isLatin1_aae02 cJ0_isLatin1_aae02 1 (some .boolean) 0 := ⟨lw_g_of 496 (by decide +kernel) (by decide +kernel), lw_g_of 14 (by decide +kernel) (by decide +kernel), by decide +kernel⟩
theorem miJ0_isLatin1_aae02 : MIk yJ0_isLatin1_aae02 := ⟨lw_g_of 494 (by decide +kernel) (by decide +kernel), lw_g_of 495 (by decide +kernel) (by decide +kernel)⟩
theorem mcJ3_checkIndex_8e157 : MCk yJ3_checkIndex_8e157 cJ3_checkIndex_8e157 3 (some .int) 3 := ⟨lw_g_of 507 (by decide +kernel) (by decide +kernel), lw_g_of 16 (by decide +kernel) (by decide +kernel), by decide +kernel⟩
theorem msJ3_checkIndex_8e157 : Cond.static yJ3_checkIndex_8e157 ∈ lw_g := lw_g_of 506 (by decide +kernel) (by decide +kernel)
theorem mcJ0_checkIndex_df160 : MCk yJ0_checkIndex_df160 cJ0_checkIndex_df160 2 none 2 := ⟨lw_g_of 502 (by decide +kernel) (by decide +kernel), lw_g_of 14 (by decide +kernel) (by decide +kernel), by decide +kernel⟩
theorem msJ0_checkIndex_df160 : Cond.static yJ0_checkIndex_df160 ∈ lw_g := lw_g_of 501 (by decide +kernel) (by decide +kernel)
theorem mcJ1_charAt_3b067 : MCk yJ1_charAt_3b067 cJ1_charAt_3b067 2 (some .char) 2 := ⟨lw_g_of 499 (by decide +kernel) (by decide +kernel), lw_g_of 15 (by decide +kernel) (by decide +kernel), by decide +kernel⟩
theorem msJ1_charAt_3b067 : Cond.static yJ1_charAt_3b067 ∈ lw_g := lw_g_of 498 (by decide +kernel) (by decide +kernel)
theorem mcJ9_max_7cf53 : MCk yJ9_max_7cf53 cJ9_max_7cf53 2 (some .int) 2 := ⟨lw_g_of 722 (by decide +kernel) (by decide +kernel), lw_g_of 13 (by decide +kernel) (by decide +kernel), by decide +kernel⟩
theorem msJ9_max_7cf53 : Cond.static yJ9_max_7cf53 ∈ lw_g := lw_g_of 721 (by decide +kernel) (by decide +kernel)
theorem mcJ9_min_7cf53 : MCk yJ9_min_7cf53 cJ9_min_7cf53 2 (some .int) 2 := ⟨lw_g_of 448 (by decide +kernel) (by decide +kernel), lw_g_of 13 (by decide +kernel) (by decide +kernel), by decide +kernel⟩
theorem msJ9_min_7cf53 : Cond.static yJ9_min_7cf53 ∈ lw_g := lw_g_of 447 (by decide +kernel) (by decide +kernel)
theorem mcJ9_abs_067f4 : MCk yJ9_abs_067f4 cJ9_abs_067f4 2 (some .long) 1 := ⟨lw_g_of 1455 (by decide +kernel) (by decide +kernel), lw_g_of 13 (by decide +kernel) (by decide +kernel), by decide +kernel⟩
theorem msJ9_abs_067f4 : Cond.static yJ9_abs_067f4 ∈ lw_g := lw_g_of 1454 (by decide +kernel) (by decide +kernel)
