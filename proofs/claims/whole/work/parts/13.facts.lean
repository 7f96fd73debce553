theorem oj_04 : 0 < 4 := by decide
theorem oj_08 : 0 < 8 := by decide
theorem oj_lt1 {n : Nat} (h : n < 3) : 1 + n < 4 := by omega
theorem inoX0 : ∀ w ∈ u_ws RX0 TX0 4, w ∈ ojT := by decide +kernel
theorem inoX1 : ∀ w ∈ u_ws RX1 TX1 2, w ∈ ojT := by decide +kernel
theorem inoX2 : ∀ w ∈ u_ws RX2 TX2 1, w ∈ ojT := by decide +kernel
theorem inoX3 : ∀ w ∈ u_ws RX3 TX3 5, w ∈ ojT := by decide +kernel
theorem inoX4 : ∀ w ∈ u_ws RX4 TX4 3, w ∈ ojT := by decide +kernel
theorem inoX5 : ∀ w ∈ u_ws RX5 TX5 6, w ∈ ojT := by decide +kernel
theorem inoX6 : ∀ w ∈ u_ws RX6 TX6 1, w ∈ ojT := by decide +kernel
theorem inoX7 : ∀ w ∈ u_ws RX7 TX7 4, w ∈ ojT := by decide +kernel
theorem inoX8 : ∀ w ∈ u_ws RX8 TX8 14, w ∈ ojT := by decide +kernel
theorem inoX9 : ∀ w ∈ u_ws RX9 TX9 36, w ∈ ojT := by decide +kernel
theorem kb_m2 : (Int8.ofInt (-2)).toInt32 = (-2) := by decide
theorem kb_6 : (Int8.ofInt 6).toInt32 = 6 := by decide
theorem kb_7 : (Int8.ofInt 7).toInt32 = 7 := by decide
theorem kb_8 : (Int8.ofInt 8).toInt32 = 8 := by decide
theorem kb_9 : (Int8.ofInt 9).toInt32 = 9 := by decide
theorem kb_10 : (Int8.ofInt 10).toInt32 = 10 := by decide
theorem kb_11 : (Int8.ofInt 11).toInt32 = 11 := by decide
theorem kb_12 : (Int8.ofInt 12).toInt32 = 12 := by decide
theorem kb_19 : (Int8.ofInt 19).toInt32 = 19 := by decide
theorem kb_20 : (Int8.ofInt 20).toInt32 = 20 := by decide
theorem kb_30 : (Int8.ofInt 30).toInt32 = 30 := by decide
theorem kb_48 : (Int8.ofInt 48).toInt32 = 48 := by decide
theorem kb_50 : (Int8.ofInt 50).toInt32 = 50 := by decide
theorem kb_84 : (Int8.ofInt 84).toInt32 = 84 := by decide
theorem kb_95 : (Int8.ofInt 95).toInt32 = 95 := by decide
theorem kb_96 : (Int8.ofInt 96).toInt32 = 96 := by decide
theorem kb_100 : (Int8.ofInt 100).toInt32 = 100 := by decide
theorem kb_112 : (Int8.ofInt 112).toInt32 = 112 := by decide
theorem kc_m1 : Int32.ofInt (-1) = (-1) := by decide
theorem kc_0 : Int32.ofInt 0 = 0 := by decide
theorem kc_1 : Int32.ofInt 1 = 1 := by decide
theorem kc_2 : Int32.ofInt 2 = 2 := by decide
theorem kc_3 : Int32.ofInt 3 = 3 := by decide
theorem kc_4 : Int32.ofInt 4 = 4 := by decide
theorem kc_5 : Int32.ofInt 5 = 5 := by decide
theorem kc_12 : Int32.ofInt 12 = 12 := by decide
theorem kc_96 : Int32.ofInt 96 = 96 := by decide
theorem ks_500 : (Int16.ofInt 500).toInt32 = 500 := by decide
theorem ks_501 : (Int16.ofInt 501).toInt32 = 501 := by decide
theorem ks_1000 : (Int16.ofInt 1000).toInt32 = 1000 := by decide
theorem ks_5000 : (Int16.ofInt 5000).toInt32 = 5000 := by decide
theorem kd_X8_111 : Cond.constant RX8 111 100000 ∈ ojT := ojT_in (by decide +kernel) rfl
theorem kd_X8_115 : Cond.constant RX8 115 1000000 ∈ ojT := ojT_in (by decide +kernel) rfl
theorem kd_X8_201 : Cond.constant RX8 201 999999 ∈ ojT := ojT_in (by decide +kernel) rfl
theorem kd_X9_121 : Cond.constant RX9 121 100000 ∈ ojT := ojT_in (by decide +kernel) rfl
theorem kd_X9_125 : Cond.constant RX9 125 1000000 ∈ ojT := ojT_in (by decide +kernel) rfl
theorem kd_X9_141 : Cond.constantLong RX9 141 1000 ∈ ojT := ojT_in (by decide +kernel) rfl
theorem kd_X9_179 : Cond.constant RX9 179 999999 ∈ ojT := ojT_in (by decide +kernel) rfl
theorem ff_X0_15 : ojF RX0 15 0 1 := ⟨RX0, TX0, 4, rfl, inoX0, by decide, ojT_in (by decide +kernel) rfl⟩
theorem ff_X0_18 : ojF RX0 18 0 2 := ⟨RX0, TX0, 4, rfl, inoX0, by decide, ojT_in (by decide +kernel) rfl⟩
theorem ff_X0_25 : ojF RX0 25 0 3 := ⟨RX0, TX0, 4, rfl, inoX0, by decide, ojT_in (by decide +kernel) rfl⟩
theorem ff_X0_9 : ojF RX0 9 0 0 := ⟨RX0, TX0, 4, rfl, inoX0, by decide, ojT_in (by decide +kernel) rfl⟩
theorem ff_X1_11 : ojF RX1 11 1 0 := ⟨RX1, TX1, 2, rfl, inoX1, by decide, ojT_in (by decide +kernel) rfl⟩
theorem ff_X1_18 : ojF RX1 18 1 1 := ⟨RX1, TX1, 2, rfl, inoX1, by decide, ojT_in (by decide +kernel) rfl⟩
theorem ff_X1_22 : ojF RX1 22 5 0 := ⟨RX5, TX5, 6, rfl, inoX5, by decide, ojT_in (by decide +kernel) rfl⟩
theorem ff_X1_25 : ojF RX1 25 5 1 := ⟨RX5, TX5, 6, rfl, inoX5, by decide, ojT_in (by decide +kernel) rfl⟩
theorem ff_X1_28 : ojF RX1 28 5 2 := ⟨RX5, TX5, 6, rfl, inoX5, by decide, ojT_in (by decide +kernel) rfl⟩
theorem ff_X1_38 : ojF RX1 38 7 1 := ⟨RX7, TX7, 4, rfl, inoX7, by decide, ojT_in (by decide +kernel) rfl⟩
theorem ff_X1_54 : ojF RX1 54 7 0 := ⟨RX7, TX7, 4, rfl, inoX7, by decide, ojT_in (by decide +kernel) rfl⟩
theorem ff_X2_9 : ojF RX2 9 2 0 := ⟨RX2, TX2, 1, rfl, inoX2, by decide, ojT_in (by decide +kernel) rfl⟩
theorem ff_X6_9 : ojF RX6 9 6 0 := ⟨RX6, TX6, 1, rfl, inoX6, by decide, ojT_in (by decide +kernel) rfl⟩
theorem ff_X7_15 : ojF RX7 15 7 1 := ⟨RX7, TX7, 4, rfl, inoX7, by decide, ojT_in (by decide +kernel) rfl⟩
theorem ff_X7_24 : ojF RX7 24 7 2 := ⟨RX7, TX7, 4, rfl, inoX7, by decide, ojT_in (by decide +kernel) rfl⟩
theorem ff_X7_28 : ojF RX7 28 7 3 := ⟨RX7, TX7, 4, rfl, inoX7, by decide, ojT_in (by decide +kernel) rfl⟩
theorem ff_X7_9 : ojF RX7 9 7 0 := ⟨RX7, TX7, 4, rfl, inoX7, by decide, ojT_in (by decide +kernel) rfl⟩
theorem ff_X8_112 : ojF RX8 112 8 11 := ⟨RX8, TX8, 14, rfl, inoX8, by decide, ojT_in (by decide +kernel) rfl⟩
theorem ff_X8_116 : ojF RX8 116 8 12 := ⟨RX8, TX8, 14, rfl, inoX8, by decide, ojT_in (by decide +kernel) rfl⟩
theorem ff_X8_12 : ojF RX8 12 8 0 := ⟨RX8, TX8, 14, rfl, inoX8, by decide, ojT_in (by decide +kernel) rfl⟩
theorem ff_X8_126 : ojF RX8 126 1 0 := ⟨RX1, TX1, 2, rfl, inoX1, by decide, ojT_in (by decide +kernel) rfl⟩
theorem ff_X8_130 : ojF RX8 130 5 5 := ⟨RX5, TX5, 6, rfl, inoX5, by decide, ojT_in (by decide +kernel) rfl⟩
theorem ff_X8_136 : ojF RX8 136 5 0 := ⟨RX5, TX5, 6, rfl, inoX5, by decide, ojT_in (by decide +kernel) rfl⟩
theorem ff_X8_139 : ojF RX8 139 5 3 := ⟨RX5, TX5, 6, rfl, inoX5, by decide, ojT_in (by decide +kernel) rfl⟩
theorem ff_X8_146 : ojF RX8 146 7 1 := ⟨RX7, TX7, 4, rfl, inoX7, by decide, ojT_in (by decide +kernel) rfl⟩
theorem ff_X8_149 : ojF RX8 149 5 4 := ⟨RX5, TX5, 6, rfl, inoX5, by decide, ojT_in (by decide +kernel) rfl⟩
theorem ff_X8_161 : ojF RX8 161 8 9 := ⟨RX8, TX8, 14, rfl, inoX8, by decide, ojT_in (by decide +kernel) rfl⟩
theorem ff_X8_168 : ojF RX8 168 8 13 := ⟨RX8, TX8, 14, rfl, inoX8, by decide, ojT_in (by decide +kernel) rfl⟩
theorem ff_X8_171 : ojF RX8 171 1 1 := ⟨RX1, TX1, 2, rfl, inoX1, by decide, ojT_in (by decide +kernel) rfl⟩
theorem ff_X8_19 : ojF RX8 19 8 1 := ⟨RX8, TX8, 14, rfl, inoX8, by decide, ojT_in (by decide +kernel) rfl⟩
theorem ff_X8_195 : ojF RX8 195 3 3 := ⟨RX3, TX3, 5, rfl, inoX3, by decide, ojT_in (by decide +kernel) rfl⟩
theorem ff_X8_198 : ojF RX8 198 3 4 := ⟨RX3, TX3, 5, rfl, inoX3, by decide, ojT_in (by decide +kernel) rfl⟩
theorem ff_X8_202 : ojF RX8 202 4 0 := ⟨RX4, TX4, 3, rfl, inoX4, by decide, ojT_in (by decide +kernel) rfl⟩
theorem ff_X8_205 : ojF RX8 205 4 1 := ⟨RX4, TX4, 3, rfl, inoX4, by decide, ojT_in (by decide +kernel) rfl⟩
theorem ff_X8_206 : ojF RX8 206 4 2 := ⟨RX4, TX4, 3, rfl, inoX4, by decide, ojT_in (by decide +kernel) rfl⟩
theorem ff_X8_228 : ojF RX8 228 7 2 := ⟨RX7, TX7, 4, rfl, inoX7, by decide, ojT_in (by decide +kernel) rfl⟩
theorem ff_X8_234 : ojF RX8 234 7 3 := ⟨RX7, TX7, 4, rfl, inoX7, by decide, ojT_in (by decide +kernel) rfl⟩
theorem ff_X8_243 : ojF RX8 243 0 3 := ⟨RX0, TX0, 4, rfl, inoX0, by decide, ojT_in (by decide +kernel) rfl⟩
theorem ff_X8_26 : ojF RX8 26 8 2 := ⟨RX8, TX8, 14, rfl, inoX8, by decide, ojT_in (by decide +kernel) rfl⟩
theorem ff_X8_276 : ojF RX8 276 3 0 := ⟨RX3, TX3, 5, rfl, inoX3, by decide, ojT_in (by decide +kernel) rfl⟩
theorem ff_X8_279 : ojF RX8 279 5 1 := ⟨RX5, TX5, 6, rfl, inoX5, by decide, ojT_in (by decide +kernel) rfl⟩
theorem ff_X8_282 : ojF RX8 282 3 1 := ⟨RX3, TX3, 5, rfl, inoX3, by decide, ojT_in (by decide +kernel) rfl⟩
theorem ff_X8_296 : ojF RX8 296 3 2 := ⟨RX3, TX3, 5, rfl, inoX3, by decide, ojT_in (by decide +kernel) rfl⟩
theorem ff_X8_33 : ojF RX8 33 8 3 := ⟨RX8, TX8, 14, rfl, inoX8, by decide, ojT_in (by decide +kernel) rfl⟩
theorem ff_X8_40 : ojF RX8 40 8 4 := ⟨RX8, TX8, 14, rfl, inoX8, by decide, ojT_in (by decide +kernel) rfl⟩
theorem ff_X8_44 : ojF RX8 44 8 5 := ⟨RX8, TX8, 14, rfl, inoX8, by decide, ojT_in (by decide +kernel) rfl⟩
theorem ff_X8_51 : ojF RX8 51 8 6 := ⟨RX8, TX8, 14, rfl, inoX8, by decide, ojT_in (by decide +kernel) rfl⟩
theorem ff_X8_57 : ojF RX8 57 8 7 := ⟨RX8, TX8, 14, rfl, inoX8, by decide, ojT_in (by decide +kernel) rfl⟩
theorem ff_X8_62 : ojF RX8 62 8 8 := ⟨RX8, TX8, 14, rfl, inoX8, by decide, ojT_in (by decide +kernel) rfl⟩
theorem ff_X8_74 : ojF RX8 74 8 10 := ⟨RX8, TX8, 14, rfl, inoX8, by decide, ojT_in (by decide +kernel) rfl⟩
theorem ff_X8_78 : ojF RX8 78 7 0 := ⟨RX7, TX7, 4, rfl, inoX7, by decide, ojT_in (by decide +kernel) rfl⟩
theorem ff_X8_90 : ojF RX8 90 2 0 := ⟨RX2, TX2, 1, rfl, inoX2, by decide, ojT_in (by decide +kernel) rfl⟩
theorem ff_X9_101 : ojF RX9 101 9 14 := ⟨RX9, TX9, 36, rfl, inoX9, by decide, ojT_in (by decide +kernel) rfl⟩
theorem ff_X9_104 : ojF RX9 104 9 0 := ⟨RX9, TX9, 36, rfl, inoX9, by decide, ojT_in (by decide +kernel) rfl⟩
theorem ff_X9_107 : ojF RX9 107 9 23 := ⟨RX9, TX9, 36, rfl, inoX9, by decide, ojT_in (by decide +kernel) rfl⟩
theorem ff_X9_122 : ojF RX9 122 9 9 := ⟨RX9, TX9, 36, rfl, inoX9, by decide, ojT_in (by decide +kernel) rfl⟩
theorem ff_X9_13 : ojF RX9 13 9 2 := ⟨RX9, TX9, 36, rfl, inoX9, by decide, ojT_in (by decide +kernel) rfl⟩
theorem ff_X9_138 : ojF RX9 138 9 12 := ⟨RX9, TX9, 36, rfl, inoX9, by decide, ojT_in (by decide +kernel) rfl⟩
theorem ff_X9_143 : ojF RX9 143 9 11 := ⟨RX9, TX9, 36, rfl, inoX9, by decide, ojT_in (by decide +kernel) rfl⟩
theorem ff_X9_146 : ojF RX9 146 9 13 := ⟨RX9, TX9, 36, rfl, inoX9, by decide, ojT_in (by decide +kernel) rfl⟩
theorem ff_X9_16 : ojF RX9 16 9 3 := ⟨RX9, TX9, 36, rfl, inoX9, by decide, ojT_in (by decide +kernel) rfl⟩
theorem ff_X9_166 : ojF RX9 166 9 30 := ⟨RX9, TX9, 36, rfl, inoX9, by decide, ojT_in (by decide +kernel) rfl⟩
theorem ff_X9_169 : ojF RX9 169 9 31 := ⟨RX9, TX9, 36, rfl, inoX9, by decide, ojT_in (by decide +kernel) rfl⟩
theorem ff_X9_19 : ojF RX9 19 9 4 := ⟨RX9, TX9, 36, rfl, inoX9, by decide, ojT_in (by decide +kernel) rfl⟩
theorem ff_X9_22 : ojF RX9 22 9 5 := ⟨RX9, TX9, 36, rfl, inoX9, by decide, ojT_in (by decide +kernel) rfl⟩
theorem ff_X9_26 : ojF RX9 26 9 6 := ⟨RX9, TX9, 36, rfl, inoX9, by decide, ojT_in (by decide +kernel) rfl⟩
theorem ff_X9_29 : ojF RX9 29 9 7 := ⟨RX9, TX9, 36, rfl, inoX9, by decide, ojT_in (by decide +kernel) rfl⟩
theorem ff_X9_32 : ojF RX9 32 9 8 := ⟨RX9, TX9, 36, rfl, inoX9, by decide, ojT_in (by decide +kernel) rfl⟩
theorem ff_X9_35 : ojF RX9 35 9 10 := ⟨RX9, TX9, 36, rfl, inoX9, by decide, ojT_in (by decide +kernel) rfl⟩
theorem ff_X9_39 : ojF RX9 39 9 15 := ⟨RX9, TX9, 36, rfl, inoX9, by decide, ojT_in (by decide +kernel) rfl⟩
theorem ff_X9_42 : ojF RX9 42 9 16 := ⟨RX9, TX9, 36, rfl, inoX9, by decide, ojT_in (by decide +kernel) rfl⟩
theorem ff_X9_45 : ojF RX9 45 9 17 := ⟨RX9, TX9, 36, rfl, inoX9, by decide, ojT_in (by decide +kernel) rfl⟩
theorem ff_X9_48 : ojF RX9 48 9 18 := ⟨RX9, TX9, 36, rfl, inoX9, by decide, ojT_in (by decide +kernel) rfl⟩
theorem ff_X9_51 : ojF RX9 51 9 19 := ⟨RX9, TX9, 36, rfl, inoX9, by decide, ojT_in (by decide +kernel) rfl⟩
theorem ff_X9_54 : ojF RX9 54 9 20 := ⟨RX9, TX9, 36, rfl, inoX9, by decide, ojT_in (by decide +kernel) rfl⟩
theorem ff_X9_57 : ojF RX9 57 9 21 := ⟨RX9, TX9, 36, rfl, inoX9, by decide, ojT_in (by decide +kernel) rfl⟩
theorem ff_X9_60 : ojF RX9 60 9 22 := ⟨RX9, TX9, 36, rfl, inoX9, by decide, ojT_in (by decide +kernel) rfl⟩
theorem ff_X9_63 : ojF RX9 63 9 24 := ⟨RX9, TX9, 36, rfl, inoX9, by decide, ojT_in (by decide +kernel) rfl⟩
theorem ff_X9_66 : ojF RX9 66 9 25 := ⟨RX9, TX9, 36, rfl, inoX9, by decide, ojT_in (by decide +kernel) rfl⟩
theorem ff_X9_69 : ojF RX9 69 9 26 := ⟨RX9, TX9, 36, rfl, inoX9, by decide, ojT_in (by decide +kernel) rfl⟩
theorem ff_X9_72 : ojF RX9 72 9 27 := ⟨RX9, TX9, 36, rfl, inoX9, by decide, ojT_in (by decide +kernel) rfl⟩
theorem ff_X9_75 : ojF RX9 75 9 28 := ⟨RX9, TX9, 36, rfl, inoX9, by decide, ojT_in (by decide +kernel) rfl⟩
theorem ff_X9_78 : ojF RX9 78 9 29 := ⟨RX9, TX9, 36, rfl, inoX9, by decide, ojT_in (by decide +kernel) rfl⟩
theorem ff_X9_81 : ojF RX9 81 9 32 := ⟨RX9, TX9, 36, rfl, inoX9, by decide, ojT_in (by decide +kernel) rfl⟩
theorem ff_X9_84 : ojF RX9 84 9 33 := ⟨RX9, TX9, 36, rfl, inoX9, by decide, ojT_in (by decide +kernel) rfl⟩
theorem ff_X9_87 : ojF RX9 87 9 34 := ⟨RX9, TX9, 36, rfl, inoX9, by decide, ojT_in (by decide +kernel) rfl⟩
theorem ff_X9_9 : ojF RX9 9 9 1 := ⟨RX9, TX9, 36, rfl, inoX9, by decide, ojT_in (by decide +kernel) rfl⟩
theorem ff_X9_90 : ojF RX9 90 9 35 := ⟨RX9, TX9, 36, rfl, inoX9, by decide, ojT_in (by decide +kernel) rfl⟩
theorem fp_X0_25 : ojFp RX0 25 0 3 .int := ⟨RX0, TX0, 4, tyX0, rfl, inoX0, by decide, ojT_in (by decide +kernel) rfl, tyX0_ok, nmX0, rfl, by decide +kernel⟩
theorem fp_X1_18 : ojFp RX1 18 1 1 .int := ⟨RX1, TX1, 2, tyX1, rfl, inoX1, by decide, ojT_in (by decide +kernel) rfl, tyX1_ok, nmX1, rfl, by decide +kernel⟩
theorem fp_X1_22 : ojFp RX1 22 5 0 .int := ⟨RX5, TX5, 6, tyX5, rfl, inoX5, by decide, ojT_in (by decide +kernel) rfl, tyX5_ok, nmX5, rfl, by decide +kernel⟩
theorem fp_X1_25 : ojFp RX1 25 5 1 .int := ⟨RX5, TX5, 6, tyX5, rfl, inoX5, by decide, ojT_in (by decide +kernel) rfl, tyX5_ok, nmX5, rfl, by decide +kernel⟩
theorem fp_X1_28 : ojFp RX1 28 5 2 .int := ⟨RX5, TX5, 6, tyX5, rfl, inoX5, by decide, ojT_in (by decide +kernel) rfl, tyX5_ok, nmX5, rfl, by decide +kernel⟩
theorem fp_X1_31 : ojFp RX1 31 5 3 .int := ⟨RX5, TX5, 6, tyX5, rfl, inoX5, by decide, ojT_in (by decide +kernel) rfl, tyX5_ok, nmX5, rfl, by decide +kernel⟩
theorem fp_X1_34 : ojFp RX1 34 5 5 .boolean := ⟨RX5, TX5, 6, tyX5, rfl, inoX5, by decide, ojT_in (by decide +kernel) rfl, tyX5_ok, nmX5, rfl, by decide +kernel⟩
theorem fp_X3_15 : ojFp RX3 15 3 1 .int := ⟨RX3, TX3, 5, tyX3, rfl, inoX3, by decide, ojT_in (by decide +kernel) rfl, tyX3_ok, nmX3, rfl, by decide +kernel⟩
theorem fp_X3_18 : ojFp RX3 18 3 2 .int := ⟨RX3, TX3, 5, tyX3, rfl, inoX3, by decide, ojT_in (by decide +kernel) rfl, tyX3_ok, nmX3, rfl, by decide +kernel⟩
theorem fp_X3_21 : ojFp RX3 21 3 3 .int := ⟨RX3, TX3, 5, tyX3, rfl, inoX3, by decide, ojT_in (by decide +kernel) rfl, tyX3_ok, nmX3, rfl, by decide +kernel⟩
theorem fp_X3_24 : ojFp RX3 24 3 4 .int := ⟨RX3, TX3, 5, tyX3, rfl, inoX3, by decide, ojT_in (by decide +kernel) rfl, tyX3_ok, nmX3, rfl, by decide +kernel⟩
theorem fp_X3_9 : ojFp RX3 9 3 0 .int := ⟨RX3, TX3, 5, tyX3, rfl, inoX3, by decide, ojT_in (by decide +kernel) rfl, tyX3_ok, nmX3, rfl, by decide +kernel⟩
theorem fp_X7_24 : ojFp RX7 24 7 2 .int := ⟨RX7, TX7, 4, tyX7, rfl, inoX7, by decide, ojT_in (by decide +kernel) rfl, tyX7_ok, nmX7, rfl, by decide +kernel⟩
theorem fp_X7_28 : ojFp RX7 28 7 3 .int := ⟨RX7, TX7, 4, tyX7, rfl, inoX7, by decide, ojT_in (by decide +kernel) rfl, tyX7_ok, nmX7, rfl, by decide +kernel⟩
theorem fp_X8_112 : ojFp RX8 112 8 11 .int := ⟨RX8, TX8, 14, tyX8, rfl, inoX8, by decide, ojT_in (by decide +kernel) rfl, tyX8_ok, nmX8, rfl, by decide +kernel⟩
theorem fp_X8_116 : ojFp RX8 116 8 12 .int := ⟨RX8, TX8, 14, tyX8, rfl, inoX8, by decide, ojT_in (by decide +kernel) rfl, tyX8_ok, nmX8, rfl, by decide +kernel⟩
theorem fp_X8_130 : ojFp RX8 130 5 5 .boolean := ⟨RX5, TX5, 6, tyX5, rfl, inoX5, by decide, ojT_in (by decide +kernel) rfl, tyX5_ok, nmX5, rfl, by decide +kernel⟩
theorem fp_X8_136 : ojFp RX8 136 5 0 .int := ⟨RX5, TX5, 6, tyX5, rfl, inoX5, by decide, ojT_in (by decide +kernel) rfl, tyX5_ok, nmX5, rfl, by decide +kernel⟩
theorem fp_X8_149 : ojFp RX8 149 5 4 .int := ⟨RX5, TX5, 6, tyX5, rfl, inoX5, by decide, ojT_in (by decide +kernel) rfl, tyX5_ok, nmX5, rfl, by decide +kernel⟩
theorem fp_X8_161 : ojFp RX8 161 8 9 .int := ⟨RX8, TX8, 14, tyX8, rfl, inoX8, by decide, ojT_in (by decide +kernel) rfl, tyX8_ok, nmX8, rfl, by decide +kernel⟩
theorem fp_X8_168 : ojFp RX8 168 8 13 .int := ⟨RX8, TX8, 14, tyX8, rfl, inoX8, by decide, ojT_in (by decide +kernel) rfl, tyX8_ok, nmX8, rfl, by decide +kernel⟩
theorem fp_X8_195 : ojFp RX8 195 3 3 .int := ⟨RX3, TX3, 5, tyX3, rfl, inoX3, by decide, ojT_in (by decide +kernel) rfl, tyX3_ok, nmX3, rfl, by decide +kernel⟩
theorem fp_X8_198 : ojFp RX8 198 3 4 .int := ⟨RX3, TX3, 5, tyX3, rfl, inoX3, by decide, ojT_in (by decide +kernel) rfl, tyX3_ok, nmX3, rfl, by decide +kernel⟩
theorem fp_X8_202 : ojFp RX8 202 4 0 .int := ⟨RX4, TX4, 3, tyX4, rfl, inoX4, by decide, ojT_in (by decide +kernel) rfl, tyX4_ok, nmX4, rfl, by decide +kernel⟩
theorem fp_X8_205 : ojFp RX8 205 4 1 .int := ⟨RX4, TX4, 3, tyX4, rfl, inoX4, by decide, ojT_in (by decide +kernel) rfl, tyX4_ok, nmX4, rfl, by decide +kernel⟩
theorem fp_X8_228 : ojFp RX8 228 7 2 .int := ⟨RX7, TX7, 4, tyX7, rfl, inoX7, by decide, ojT_in (by decide +kernel) rfl, tyX7_ok, nmX7, rfl, by decide +kernel⟩
theorem fp_X8_234 : ojFp RX8 234 7 3 .int := ⟨RX7, TX7, 4, tyX7, rfl, inoX7, by decide, ojT_in (by decide +kernel) rfl, tyX7_ok, nmX7, rfl, by decide +kernel⟩
theorem fp_X8_296 : ojFp RX8 296 3 2 .int := ⟨RX3, TX3, 5, tyX3, rfl, inoX3, by decide, ojT_in (by decide +kernel) rfl, tyX3_ok, nmX3, rfl, by decide +kernel⟩
theorem fp_X8_74 : ojFp RX8 74 8 10 .int := ⟨RX8, TX8, 14, tyX8, rfl, inoX8, by decide, ojT_in (by decide +kernel) rfl, tyX8_ok, nmX8, rfl, by decide +kernel⟩
theorem fp_X9_101 : ojFp RX9 101 9 14 .int := ⟨RX9, TX9, 36, tyX9, rfl, inoX9, by decide, ojT_in (by decide +kernel) rfl, tyX9_ok, nmX9, rfl, by decide +kernel⟩
theorem fp_X9_104 : ojFp RX9 104 9 0 .int := ⟨RX9, TX9, 36, tyX9, rfl, inoX9, by decide, ojT_in (by decide +kernel) rfl, tyX9_ok, nmX9, rfl, by decide +kernel⟩
theorem fp_X9_107 : ojFp RX9 107 9 23 .int := ⟨RX9, TX9, 36, tyX9, rfl, inoX9, by decide, ojT_in (by decide +kernel) rfl, tyX9_ok, nmX9, rfl, by decide +kernel⟩
theorem fp_X9_122 : ojFp RX9 122 9 9 .int := ⟨RX9, TX9, 36, tyX9, rfl, inoX9, by decide, ojT_in (by decide +kernel) rfl, tyX9_ok, nmX9, rfl, by decide +kernel⟩
theorem fp_X9_138 : ojFp RX9 138 9 12 .int := ⟨RX9, TX9, 36, tyX9, rfl, inoX9, by decide, ojT_in (by decide +kernel) rfl, tyX9_ok, nmX9, rfl, by decide +kernel⟩
theorem fp_X9_143 : ojFp RX9 143 9 11 .int := ⟨RX9, TX9, 36, tyX9, rfl, inoX9, by decide, ojT_in (by decide +kernel) rfl, tyX9_ok, nmX9, rfl, by decide +kernel⟩
theorem fp_X9_146 : ojFp RX9 146 9 13 .int := ⟨RX9, TX9, 36, tyX9, rfl, inoX9, by decide, ojT_in (by decide +kernel) rfl, tyX9_ok, nmX9, rfl, by decide +kernel⟩
theorem fp_X9_166 : ojFp RX9 166 9 30 .int := ⟨RX9, TX9, 36, tyX9, rfl, inoX9, by decide, ojT_in (by decide +kernel) rfl, tyX9_ok, nmX9, rfl, by decide +kernel⟩
theorem fp_X9_169 : ojFp RX9 169 9 31 .int := ⟨RX9, TX9, 36, tyX9, rfl, inoX9, by decide, ojT_in (by decide +kernel) rfl, tyX9_ok, nmX9, rfl, by decide +kernel⟩
theorem fp_X9_35 : ojFp RX9 35 9 10 .int := ⟨RX9, TX9, 36, tyX9, rfl, inoX9, by decide, ojT_in (by decide +kernel) rfl, tyX9_ok, nmX9, rfl, by decide +kernel⟩
theorem cv_X0_21 : ojCV RX0 21 yX0_limitBothSides cX0_limitBothSides 5 none 3 0 := ⟨⟨ojT_in (by decide +kernel) rfl, ojT_in (by decide +kernel) rfl, ojT_in (by decide +kernel) rfl, by decide +kernel, by decide⟩, ojT_in (by decide +kernel) rfl, ojT_in (by decide +kernel) rfl, _, rfl, rfl⟩
theorem cv_X1_44 : ojCV RX1 44 yX1_roomLeft cX1_roomLeft 3 (some .int) 2 1 := ⟨⟨ojT_in (by decide +kernel) rfl, ojT_in (by decide +kernel) rfl, ojT_in (by decide +kernel) rfl, by decide +kernel, by decide⟩, ojT_in (by decide +kernel) rfl, ojT_in (by decide +kernel) rfl, _, rfl, rfl⟩
theorem cv_X1_57 : ojCV RX1 57 yX1_canTake cX1_canTake 5 (some .int) 3 1 := ⟨⟨ojT_in (by decide +kernel) rfl, ojT_in (by decide +kernel) rfl, ojT_in (by decide +kernel) rfl, by decide +kernel, by decide⟩, ojT_in (by decide +kernel) rfl, ojT_in (by decide +kernel) rfl, _, rfl, rfl⟩
theorem cv_X1_61 : ojCV RX1 61 yX1_take cX1_take 5 none 3 1 := ⟨⟨ojT_in (by decide +kernel) rfl, ojT_in (by decide +kernel) rfl, ojT_in (by decide +kernel) rfl, by decide +kernel, by decide⟩, ojT_in (by decide +kernel) rfl, ojT_in (by decide +kernel) rfl, _, rfl, rfl⟩
theorem cv_X6_15 : ojCV RX6 15 yX6_at cX6_at 3 (some .int) 2 6 := ⟨⟨ojT_in (by decide +kernel) rfl, ojT_in (by decide +kernel) rfl, ojT_in (by decide +kernel) rfl, by decide +kernel, by decide⟩, ojT_in (by decide +kernel) rfl, ojT_in (by decide +kernel) rfl, _, rfl, rfl⟩
theorem cv_X8_104 : ojCV RX8 104 yX0_lay cX0_lay 5 (some .int) 3 0 := ⟨⟨ojT_in (by decide +kernel) rfl, ojT_in (by decide +kernel) rfl, ojT_in (by decide +kernel) rfl, by decide +kernel, by decide⟩, ojT_in (by decide +kernel) rfl, ojT_in (by decide +kernel) rfl, _, rfl, rfl⟩
theorem cv_X8_108 : ojCV RX8 108 yX0_takeUp cX0_takeUp 2 (some .boolean) 1 0 := ⟨⟨ojT_in (by decide +kernel) rfl, ojT_in (by decide +kernel) rfl, ojT_in (by decide +kernel) rfl, by decide +kernel, by decide⟩, ojT_in (by decide +kernel) rfl, ojT_in (by decide +kernel) rfl, _, rfl, rfl⟩
theorem cv_X8_119 : ojCV RX8 119 yX1_add cX1_add 6 (some .int) 4 1 := ⟨⟨ojT_in (by decide +kernel) rfl, ojT_in (by decide +kernel) rfl, ojT_in (by decide +kernel) rfl, by decide +kernel, by decide⟩, ojT_in (by decide +kernel) rfl, ojT_in (by decide +kernel) rfl, _, rfl, rfl⟩
theorem cv_X8_123 : ojCV RX8 123 yX1_has cX1_has 2 (some .boolean) 1 1 := ⟨⟨ojT_in (by decide +kernel) rfl, ojT_in (by decide +kernel) rfl, ojT_in (by decide +kernel) rfl, by decide +kernel, by decide⟩, ojT_in (by decide +kernel) rfl, ojT_in (by decide +kernel) rfl, _, rfl, rfl⟩
theorem cv_X8_157 : ojCV RX8 157 yX8_passHour cX8_passHour 4 none 3 8 := ⟨⟨ojT_in (by decide +kernel) rfl, ojT_in (by decide +kernel) rfl, ojT_in (by decide +kernel) rfl, by decide +kernel, by decide⟩, ojT_in (by decide +kernel) rfl, ojT_in (by decide +kernel) rfl, _, rfl, rfl⟩
theorem cv_X8_164 : ojCV RX8 164 yX8_spreadPossible cX8_spreadPossible 7 none 2 8 := ⟨⟨ojT_in (by decide +kernel) rfl, ojT_in (by decide +kernel) rfl, ojT_in (by decide +kernel) rfl, by decide +kernel, by decide⟩, ojT_in (by decide +kernel) rfl, ojT_in (by decide +kernel) rfl, _, rfl, rfl⟩
theorem cv_X8_174 : ojCV RX8 174 yX1_beginHour cX1_beginHour 2 none 0 1 := ⟨⟨ojT_in (by decide +kernel) rfl, ojT_in (by decide +kernel) rfl, ojT_in (by decide +kernel) rfl, by decide +kernel, by decide⟩, ojT_in (by decide +kernel) rfl, ojT_in (by decide +kernel) rfl, _, rfl, rfl⟩
theorem cv_X8_177 : ojCV RX8 177 yX8_harmAhead cX8_harmAhead 5 (some .int) 2 8 := ⟨⟨ojT_in (by decide +kernel) rfl, ojT_in (by decide +kernel) rfl, ojT_in (by decide +kernel) rfl, by decide +kernel, by decide⟩, ojT_in (by decide +kernel) rfl, ojT_in (by decide +kernel) rfl, _, rfl, rfl⟩
theorem cv_X8_183 : ojCV RX8 183 yX3_begin cX3_begin 3 none 2 3 := ⟨⟨ojT_in (by decide +kernel) rfl, ojT_in (by decide +kernel) rfl, ojT_in (by decide +kernel) rfl, by decide +kernel, by decide⟩, ojT_in (by decide +kernel) rfl, ojT_in (by decide +kernel) rfl, _, rfl, rfl⟩
theorem cv_X8_187 : ojCV RX8 187 yX7_become cX7_become 2 none 1 7 := ⟨⟨ojT_in (by decide +kernel) rfl, ojT_in (by decide +kernel) rfl, ojT_in (by decide +kernel) rfl, by decide +kernel, by decide⟩, ojT_in (by decide +kernel) rfl, ojT_in (by decide +kernel) rfl, _, rfl, rfl⟩
theorem cv_X8_191 : ojCV RX8 191 yX8_searchHour cX8_searchHour 10 none 3 8 := ⟨⟨ojT_in (by decide +kernel) rfl, ojT_in (by decide +kernel) rfl, ojT_in (by decide +kernel) rfl, by decide +kernel, by decide⟩, ojT_in (by decide +kernel) rfl, ojT_in (by decide +kernel) rfl, _, rfl, rfl⟩
theorem cv_X8_213 : ojCV RX8 213 yX8_isDoubtful cX8_isDoubtful 6 (some .boolean) 4 8 := ⟨⟨ojT_in (by decide +kernel) rfl, ojT_in (by decide +kernel) rfl, ojT_in (by decide +kernel) rfl, by decide +kernel, by decide⟩, ojT_in (by decide +kernel) rfl, ojT_in (by decide +kernel) rfl, _, rfl, rfl⟩
theorem cv_X8_217 : ojCV RX8 217 yX8_wholeBill cX8_wholeBill 1 (some .int) 0 8 := ⟨⟨ojT_in (by decide +kernel) rfl, ojT_in (by decide +kernel) rfl, ojT_in (by decide +kernel) rfl, by decide +kernel, by decide⟩, ojT_in (by decide +kernel) rfl, ojT_in (by decide +kernel) rfl, _, rfl, rfl⟩
theorem cv_X8_221 : ojCV RX8 221 yX8_shareOf cX8_shareOf 9 (some .int) 3 8 := ⟨⟨ojT_in (by decide +kernel) rfl, ojT_in (by decide +kernel) rfl, ojT_in (by decide +kernel) rfl, by decide +kernel, by decide⟩, ojT_in (by decide +kernel) rfl, ojT_in (by decide +kernel) rfl, _, rfl, rfl⟩
theorem cv_X8_224 : ojCV RX8 224 yX8_litersAfloat cX8_litersAfloat 4 (some .int) 1 8 := ⟨⟨ojT_in (by decide +kernel) rfl, ojT_in (by decide +kernel) rfl, ojT_in (by decide +kernel) rfl, by decide +kernel, by decide⟩, ojT_in (by decide +kernel) rfl, ojT_in (by decide +kernel) rfl, _, rfl, rfl⟩
theorem cv_X8_231 : ojCV RX8 231 yX8_litersAshore cX8_litersAshore 4 (some .int) 1 8 := ⟨⟨ojT_in (by decide +kernel) rfl, ojT_in (by decide +kernel) rfl, ojT_in (by decide +kernel) rfl, by decide +kernel, by decide⟩, ojT_in (by decide +kernel) rfl, ojT_in (by decide +kernel) rfl, _, rfl, rfl⟩
theorem cv_X8_237 : ojCV RX8 237 yX8_litersSkimmed cX8_litersSkimmed 3 (some .int) 0 8 := ⟨⟨ojT_in (by decide +kernel) rfl, ojT_in (by decide +kernel) rfl, ojT_in (by decide +kernel) rfl, by decide +kernel, by decide⟩, ojT_in (by decide +kernel) rfl, ojT_in (by decide +kernel) rfl, _, rfl, rfl⟩
theorem cv_X8_240 : ojCV RX8 240 yX8_harmOf cX8_harmOf 4 (some .int) 1 8 := ⟨⟨ojT_in (by decide +kernel) rfl, ojT_in (by decide +kernel) rfl, ojT_in (by decide +kernel) rfl, by decide +kernel, by decide⟩, ojT_in (by decide +kernel) rfl, ojT_in (by decide +kernel) rfl, _, rfl, rfl⟩
theorem cv_X8_244 : ojCV RX8 244 yX8_driftAndLose cX8_driftAndLose 5 none 3 8 := ⟨⟨ojT_in (by decide +kernel) rfl, ojT_in (by decide +kernel) rfl, ojT_in (by decide +kernel) rfl, by decide +kernel, by decide⟩, ojT_in (by decide +kernel) rfl, ojT_in (by decide +kernel) rfl, _, rfl, rfl⟩
theorem cv_X8_247 : ojCV RX8 247 yX1_skim cX1_skim 5 none 3 1 := ⟨⟨ojT_in (by decide +kernel) rfl, ojT_in (by decide +kernel) rfl, ojT_in (by decide +kernel) rfl, by decide +kernel, by decide⟩, ojT_in (by decide +kernel) rfl, ojT_in (by decide +kernel) rfl, _, rfl, rfl⟩
theorem cv_X8_250 : ojCV RX8 250 yX6_wayAt cX6_wayAt 3 (some .int) 2 6 := ⟨⟨ojT_in (by decide +kernel) rfl, ojT_in (by decide +kernel) rfl, ojT_in (by decide +kernel) rfl, by decide +kernel, by decide⟩, ojT_in (by decide +kernel) rfl, ojT_in (by decide +kernel) rfl, _, rfl, rfl⟩
theorem cv_X8_253 : ojCV RX8 253 yX6_forceAt cX6_forceAt 3 (some .int) 2 6 := ⟨⟨ojT_in (by decide +kernel) rfl, ojT_in (by decide +kernel) rfl, ojT_in (by decide +kernel) rfl, by decide +kernel, by decide⟩, ojT_in (by decide +kernel) rfl, ojT_in (by decide +kernel) rfl, _, rfl, rfl⟩
theorem cv_X8_256 : ojCV RX8 256 yX8_driftAll cX8_driftAll 6 none 3 8 := ⟨⟨ojT_in (by decide +kernel) rfl, ojT_in (by decide +kernel) rfl, ojT_in (by decide +kernel) rfl, by decide +kernel, by decide⟩, ojT_in (by decide +kernel) rfl, ojT_in (by decide +kernel) rfl, _, rfl, rfl⟩
theorem cv_X8_259 : ojCV RX8 259 yX8_loseByAge cX8_loseByAge 6 none 2 8 := ⟨⟨ojT_in (by decide +kernel) rfl, ojT_in (by decide +kernel) rfl, ojT_in (by decide +kernel) rfl, by decide +kernel, by decide⟩, ojT_in (by decide +kernel) rfl, ojT_in (by decide +kernel) rfl, _, rfl, rfl⟩
theorem cv_X8_266 : ojCV RX8 266 yX8_driftFrom cX8_driftFrom 7 none 4 8 := ⟨⟨ojT_in (by decide +kernel) rfl, ojT_in (by decide +kernel) rfl, ojT_in (by decide +kernel) rfl, by decide +kernel, by decide⟩, ojT_in (by decide +kernel) rfl, ojT_in (by decide +kernel) rfl, _, rfl, rfl⟩
theorem cv_X8_273 : ojCV RX8 273 yX0_hold cX0_hold 4 (some .boolean) 3 0 := ⟨⟨ojT_in (by decide +kernel) rfl, ojT_in (by decide +kernel) rfl, ojT_in (by decide +kernel) rfl, by decide +kernel, by decide⟩, ojT_in (by decide +kernel) rfl, ojT_in (by decide +kernel) rfl, _, rfl, rfl⟩
theorem cv_X8_285 : ojCV RX8 285 yX1_roomLeft cX1_roomLeft 3 (some .int) 2 1 := ⟨⟨ojT_in (by decide +kernel) rfl, ojT_in (by decide +kernel) rfl, ojT_in (by decide +kernel) rfl, by decide +kernel, by decide⟩, ojT_in (by decide +kernel) rfl, ojT_in (by decide +kernel) rfl, _, rfl, rfl⟩
theorem cv_X8_289 : ojCV RX8 289 yX1_canTake cX1_canTake 5 (some .int) 3 1 := ⟨⟨ojT_in (by decide +kernel) rfl, ojT_in (by decide +kernel) rfl, ojT_in (by decide +kernel) rfl, by decide +kernel, by decide⟩, ojT_in (by decide +kernel) rfl, ojT_in (by decide +kernel) rfl, _, rfl, rfl⟩
theorem cv_X8_293 : ojCV RX8 293 yX8_searchFrom cX8_searchFrom 5 none 3 8 := ⟨⟨ojT_in (by decide +kernel) rfl, ojT_in (by decide +kernel) rfl, ojT_in (by decide +kernel) rfl, by decide +kernel, by decide⟩, ojT_in (by decide +kernel) rfl, ojT_in (by decide +kernel) rfl, _, rfl, rfl⟩
theorem cv_X8_299 : ojCV RX8 299 yX1_take cX1_take 5 none 3 1 := ⟨⟨ojT_in (by decide +kernel) rfl, ojT_in (by decide +kernel) rfl, ojT_in (by decide +kernel) rfl, by decide +kernel, by decide⟩, ojT_in (by decide +kernel) rfl, ojT_in (by decide +kernel) rfl, _, rfl, rfl⟩
theorem cv_X8_81 : ojCV RX8 81 yX1_isAt cX1_isAt 3 (some .boolean) 1 1 := ⟨⟨ojT_in (by decide +kernel) rfl, ojT_in (by decide +kernel) rfl, ojT_in (by decide +kernel) rfl, by decide +kernel, by decide⟩, ojT_in (by decide +kernel) rfl, ojT_in (by decide +kernel) rfl, _, rfl, rfl⟩
theorem cv_X8_84 : ojCV RX8 84 yX0_endAt cX0_endAt 3 (some .boolean) 1 0 := ⟨⟨ojT_in (by decide +kernel) rfl, ojT_in (by decide +kernel) rfl, ojT_in (by decide +kernel) rfl, by decide +kernel, by decide⟩, ojT_in (by decide +kernel) rfl, ojT_in (by decide +kernel) rfl, _, rfl, rfl⟩
theorem cv_X8_87 : ojCV RX8 87 yX8_shipLeftAt cX8_shipLeftAt 3 (some .boolean) 1 8 := ⟨⟨ojT_in (by decide +kernel) rfl, ojT_in (by decide +kernel) rfl, ojT_in (by decide +kernel) rfl, by decide +kernel, by decide⟩, ojT_in (by decide +kernel) rfl, ojT_in (by decide +kernel) rfl, _, rfl, rfl⟩
theorem cv_X8_93 : ojCV RX8 93 yX6_tell cX6_tell 5 none 4 6 := ⟨⟨ojT_in (by decide +kernel) rfl, ojT_in (by decide +kernel) rfl, ojT_in (by decide +kernel) rfl, by decide +kernel, by decide⟩, ojT_in (by decide +kernel) rfl, ojT_in (by decide +kernel) rfl, _, rfl, rfl⟩
theorem cv_X8_97 : ojCV RX8 97 yX2_isSea cX2_isSea 2 (some .boolean) 1 2 := ⟨⟨ojT_in (by decide +kernel) rfl, ojT_in (by decide +kernel) rfl, ojT_in (by decide +kernel) rfl, by decide +kernel, by decide⟩, ojT_in (by decide +kernel) rfl, ojT_in (by decide +kernel) rfl, _, rfl, rfl⟩
theorem cv_X9_110 : ojCV RX9 110 yX9_isSea cX9_isSea 2 (some .boolean) 1 9 := ⟨⟨ojT_in (by decide +kernel) rfl, ojT_in (by decide +kernel) rfl, ojT_in (by decide +kernel) rfl, by decide +kernel, by decide⟩, ojT_in (by decide +kernel) rfl, ojT_in (by decide +kernel) rfl, _, rfl, rfl⟩
theorem cv_X9_117 : ojCV RX9 117 yX9_boomAt cX9_boomAt 4 (some .int) 2 9 := ⟨⟨ojT_in (by decide +kernel) rfl, ojT_in (by decide +kernel) rfl, ojT_in (by decide +kernel) rfl, by decide +kernel, by decide⟩, ojT_in (by decide +kernel) rfl, ojT_in (by decide +kernel) rfl, _, rfl, rfl⟩
theorem cv_X9_129 : ojCV RX9 129 yX9_nearBy cX9_nearBy 7 (some .boolean) 3 9 := ⟨⟨ojT_in (by decide +kernel) rfl, ojT_in (by decide +kernel) rfl, ojT_in (by decide +kernel) rfl, by decide +kernel, by decide⟩, ojT_in (by decide +kernel) rfl, ojT_in (by decide +kernel) rfl, _, rfl, rfl⟩
theorem cv_X9_132 : ojCV RX9 132 yX9_isSkimmer cX9_isSkimmer 2 (some .boolean) 1 9 := ⟨⟨ojT_in (by decide +kernel) rfl, ojT_in (by decide +kernel) rfl, ojT_in (by decide +kernel) rfl, by decide +kernel, by decide⟩, ojT_in (by decide +kernel) rfl, ojT_in (by decide +kernel) rfl, _, rfl, rfl⟩
theorem cv_X9_135 : ojCV RX9 135 yX9_canGo cX9_canGo 6 (some .boolean) 3 9 := ⟨⟨ojT_in (by decide +kernel) rfl, ojT_in (by decide +kernel) rfl, ojT_in (by decide +kernel) rfl, by decide +kernel, by decide⟩, ojT_in (by decide +kernel) rfl, ojT_in (by decide +kernel) rfl, _, rfl, rfl⟩
theorem cv_X9_149 : ojCV RX9 149 yX9_hour cX9_hour 8 none 1 9 := ⟨⟨ojT_in (by decide +kernel) rfl, ojT_in (by decide +kernel) rfl, ojT_in (by decide +kernel) rfl, by decide +kernel, by decide⟩, ojT_in (by decide +kernel) rfl, ojT_in (by decide +kernel) rfl, _, rfl, rfl⟩
theorem cv_X9_153 : ojCV RX9 153 yX9_keeps cX9_keeps 4 none 1 9 := ⟨⟨ojT_in (by decide +kernel) rfl, ojT_in (by decide +kernel) rfl, ojT_in (by decide +kernel) rfl, by decide +kernel, by decide⟩, ojT_in (by decide +kernel) rfl, ojT_in (by decide +kernel) rfl, _, rfl, rfl⟩
theorem cv_X9_156 : ojCV RX9 156 yX9_harm cX9_harm 3 (some .int) 0 9 := ⟨⟨ojT_in (by decide +kernel) rfl, ojT_in (by decide +kernel) rfl, ojT_in (by decide +kernel) rfl, by decide +kernel, by decide⟩, ojT_in (by decide +kernel) rfl, ojT_in (by decide +kernel) rfl, _, rfl, rfl⟩
theorem cv_X9_160 : ojCV RX9 160 yX9_back cX9_back 4 none 1 9 := ⟨⟨ojT_in (by decide +kernel) rfl, ojT_in (by decide +kernel) rfl, ojT_in (by decide +kernel) rfl, by decide +kernel, by decide⟩, ojT_in (by decide +kernel) rfl, ojT_in (by decide +kernel) rfl, _, rfl, rfl⟩
theorem cv_X9_163 : ojCV RX9 163 yX9_foretold cX9_foretold 4 (some .int) 2 9 := ⟨⟨ojT_in (by decide +kernel) rfl, ojT_in (by decide +kernel) rfl, ojT_in (by decide +kernel) rfl, by decide +kernel, by decide⟩, ojT_in (by decide +kernel) rfl, ojT_in (by decide +kernel) rfl, _, rfl, rfl⟩
theorem cv_X9_172 : ojCV RX9 172 yX9_tries cX9_tries 4 (some .boolean) 3 9 := ⟨⟨ojT_in (by decide +kernel) rfl, ojT_in (by decide +kernel) rfl, ojT_in (by decide +kernel) rfl, by decide +kernel, by decide⟩, ojT_in (by decide +kernel) rfl, ojT_in (by decide +kernel) rfl, _, rfl, rfl⟩
theorem cv_X9_175 : ojCV RX9 175 yX9_meets cX9_meets 3 none 2 9 := ⟨⟨ojT_in (by decide +kernel) rfl, ojT_in (by decide +kernel) rfl, ojT_in (by decide +kernel) rfl, by decide +kernel, by decide⟩, ojT_in (by decide +kernel) rfl, ojT_in (by decide +kernel) rfl, _, rfl, rfl⟩
theorem cv_X9_180 : ojCV RX9 180 yX9_could cX9_could 5 (some .boolean) 2 9 := ⟨⟨ojT_in (by decide +kernel) rfl, ojT_in (by decide +kernel) rfl, ojT_in (by decide +kernel) rfl, by decide +kernel, by decide⟩, ojT_in (by decide +kernel) rfl, ojT_in (by decide +kernel) rfl, _, rfl, rfl⟩
theorem cv_X9_186 : ojCV RX9 186 yX9_billAll cX9_billAll 3 (some .int) 0 9 := ⟨⟨ojT_in (by decide +kernel) rfl, ojT_in (by decide +kernel) rfl, ojT_in (by decide +kernel) rfl, by decide +kernel, by decide⟩, ojT_in (by decide +kernel) rfl, ojT_in (by decide +kernel) rfl, _, rfl, rfl⟩
theorem cs_X0_29 : ojCS RX0 29 yX2_ahead cX2_ahead 3 (some .int) 2 := ⟨⟨ojT_in (by decide +kernel) rfl, ojT_in (by decide +kernel) rfl, ojT_in (by decide +kernel) rfl, by decide +kernel, by decide⟩, ojT_in (by decide +kernel) rfl⟩
theorem cs_X0_35 : ojCS RX0 35 yX2_opposite cX2_opposite 1 (some .int) 1 := ⟨⟨ojT_in (by decide +kernel) rfl, ojT_in (by decide +kernel) rfl, ojT_in (by decide +kernel) rfl, by decide +kernel, by decide⟩, ojT_in (by decide +kernel) rfl⟩
theorem cs_X2_15 : ojCS RX2 15 yX2_isCell cX2_isCell 1 (some .boolean) 1 := ⟨⟨ojT_in (by decide +kernel) rfl, ojT_in (by decide +kernel) rfl, ojT_in (by decide +kernel) rfl, by decide +kernel, by decide⟩, ojT_in (by decide +kernel) rfl⟩
theorem cs_X2_19 : ojCS RX2 19 yX2_ahead cX2_ahead 3 (some .int) 2 := ⟨⟨ojT_in (by decide +kernel) rfl, ojT_in (by decide +kernel) rfl, ojT_in (by decide +kernel) rfl, by decide +kernel, by decide⟩, ojT_in (by decide +kernel) rfl⟩
theorem cs_X8_100 : ojCS RX8 100 yX2_wayBeside cX2_wayBeside 3 (some .int) 2 := ⟨⟨ojT_in (by decide +kernel) rfl, ojT_in (by decide +kernel) rfl, ojT_in (by decide +kernel) rfl, by decide +kernel, by decide⟩, ojT_in (by decide +kernel) rfl⟩
theorem cs_X8_142 : ojCS RX8 142 yX8_isWayOverSea cX8_isWayOverSea 5 (some .boolean) 4 := ⟨⟨ojT_in (by decide +kernel) rfl, ojT_in (by decide +kernel) rfl, ojT_in (by decide +kernel) rfl, by decide +kernel, by decide⟩, ojT_in (by decide +kernel) rfl⟩
theorem cs_X8_210 : ojCS RX8 210 yX8_markDifference cX8_markDifference 7 (some .int) 2 := ⟨⟨ojT_in (by decide +kernel) rfl, ojT_in (by decide +kernel) rfl, ojT_in (by decide +kernel) rfl, by decide +kernel, by decide⟩, ojT_in (by decide +kernel) rfl⟩
theorem cs_X8_263 : ojCS RX8 263 yX8_cellAtTurn cX8_cellAtTurn 2 (some .int) 2 := ⟨⟨ojT_in (by decide +kernel) rfl, ojT_in (by decide +kernel) rfl, ojT_in (by decide +kernel) rfl, by decide +kernel, by decide⟩, ojT_in (by decide +kernel) rfl⟩
theorem cs_X8_270 : ojCS RX8 270 yX2_ahead cX2_ahead 3 (some .int) 2 := ⟨⟨ojT_in (by decide +kernel) rfl, ojT_in (by decide +kernel) rfl, ojT_in (by decide +kernel) rfl, by decide +kernel, by decide⟩, ojT_in (by decide +kernel) rfl⟩
theorem cs_X8_302 : ojCS RX8 302 yX2_distance cX2_distance 2 (some .int) 2 := ⟨⟨ojT_in (by decide +kernel) rfl, ojT_in (by decide +kernel) rfl, ojT_in (by decide +kernel) rfl, by decide +kernel, by decide⟩, ojT_in (by decide +kernel) rfl⟩
theorem cs_X8_66 : ojCS RX8 66 yX2_isCell cX2_isCell 1 (some .boolean) 1 := ⟨⟨ojT_in (by decide +kernel) rfl, ojT_in (by decide +kernel) rfl, ojT_in (by decide +kernel) rfl, by decide +kernel, by decide⟩, ojT_in (by decide +kernel) rfl⟩
theorem cs_X8_70 : ojCS RX8 70 yX8_isWithin cX8_isWithin 3 (some .boolean) 3 := ⟨⟨ojT_in (by decide +kernel) rfl, ojT_in (by decide +kernel) rfl, ojT_in (by decide +kernel) rfl, by decide +kernel, by decide⟩, ojT_in (by decide +kernel) rfl⟩
theorem cs_X9_113 : ojCS RX9 113 yX9_areSide cX9_areSide 4 (some .boolean) 2 := ⟨⟨ojT_in (by decide +kernel) rfl, ojT_in (by decide +kernel) rfl, ojT_in (by decide +kernel) rfl, by decide +kernel, by decide⟩, ojT_in (by decide +kernel) rfl⟩
theorem cs_X9_126 : ojCS RX9 126 yX9_step cX9_step 4 (some .int) 2 := ⟨⟨ojT_in (by decide +kernel) rfl, ojT_in (by decide +kernel) rfl, ojT_in (by decide +kernel) rfl, by decide +kernel, by decide⟩, ojT_in (by decide +kernel) rfl⟩
theorem cs_X9_183 : ojCS RX9 183 yX9_apart cX9_apart 6 (some .int) 2 := ⟨⟨ojT_in (by decide +kernel) rfl, ojT_in (by decide +kernel) rfl, ojT_in (by decide +kernel) rfl, by decide +kernel, by decide⟩, ojT_in (by decide +kernel) rfl⟩
theorem cs_X9_93 : ojCS RX9 93 yX9_in cX9_in 3 (some .boolean) 3 := ⟨⟨ojT_in (by decide +kernel) rfl, ojT_in (by decide +kernel) rfl, ojT_in (by decide +kernel) rfl, by decide +kernel, by decide⟩, ojT_in (by decide +kernel) rfl⟩
theorem cs_X9_97 : ojCS RX9 97 yX9_isCell cX9_isCell 1 (some .boolean) 1 := ⟨⟨ojT_in (by decide +kernel) rfl, ojT_in (by decide +kernel) rfl, ojT_in (by decide +kernel) rfl, by decide +kernel, by decide⟩, ojT_in (by decide +kernel) rfl⟩
theorem mm_X1_48 : Cond.methodLink RX1 48 Lib.Math.min.name ∈ ojT := ojT_in (by decide +kernel) rfl
theorem mm_X2_23 : Cond.methodLink RX2 23 Lib.Math.abs.name ∈ ojT := ojT_in (by decide +kernel) rfl
theorem mm_X7_18 : Cond.methodLink RX7 18 arraycopyName ∈ ojT := ojT_in (by decide +kernel) rfl
theorem mm_X8_152 : Cond.methodLink RX8 152 Lib.Math.min.name ∈ ojT := ojT_in (by decide +kernel) rfl
theorem mm_X8_180 : Cond.methodLink RX8 180 Lib.Math.max.name ∈ ojT := ojT_in (by decide +kernel) rfl
theorem mm_sabs : Cond.static Lib.Math.abs.name ∈ ojT := ojT_in (by decide +kernel) rfl
theorem mm_cabs : Cond.code Lib.Math.abs.name Lib.Math.abs.code 1 (some .int) ∈ ojT := ojT_in (by decide +kernel) rfl
theorem mm_smax : Cond.static Lib.Math.max.name ∈ ojT := ojT_in (by decide +kernel) rfl
theorem mm_cmax : Cond.code Lib.Math.max.name Lib.Math.max.code 2 (some .int) ∈ ojT := ojT_in (by decide +kernel) rfl
theorem mm_smin : Cond.static Lib.Math.min.name ∈ ojT := ojT_in (by decide +kernel) rfl
theorem mm_cmin : Cond.code Lib.Math.min.name Lib.Math.min.code 2 (some .int) ∈ ojT := ojT_in (by decide +kernel) rfl
theorem mm_ini : Cond.initialized "java/lang/Math" ∈ ojT := ojT_in (by decide +kernel) rfl
theorem mm_inis : Cond.initialized "java/lang/System" ∈ ojT := ojT_in (by decide +kernel) rfl
theorem mm_n : Cond.native arraycopyName ∈ ojT := ojT_in (by decide +kernel) rfl
theorem mm_sarraycopy : Cond.static arraycopyName ∈ ojT := ojT_in (by decide +kernel) rfl
