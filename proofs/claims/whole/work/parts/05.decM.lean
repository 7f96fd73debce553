theorem dX9_init_0 : decode cX9_init 0 = .ok (.aload_n 0, 1) := by decide +kernel
theorem dX9_init_1 : decode cX9_init 1 = .ok (.invokespecial 3, 3) := by decide +kernel
theorem dX9_init_4 : decode cX9_init 4 = .ok (.aload_n 0, 1) := by decide +kernel
theorem dX9_init_5 : decode cX9_init 5 = .ok (.bipush 96, 2) := by decide +kernel
theorem dX9_init_7 : decode cX9_init 7 = .ok (.newarray .int, 2) := by decide +kernel
theorem dX9_init_9 : decode cX9_init 9 = .ok (.putfield 9, 3) := by decide +kernel
theorem dX9_init_12 : decode cX9_init 12 = .ok (.aload_n 0, 1) := by decide +kernel
theorem dX9_init_13 : decode cX9_init 13 = .ok (.bipush 96, 2) := by decide +kernel
theorem dX9_init_15 : decode cX9_init 15 = .ok (.newarray .int, 2) := by decide +kernel
theorem dX9_init_17 : decode cX9_init 17 = .ok (.putfield 13, 3) := by decide +kernel
theorem dX9_init_20 : decode cX9_init 20 = .ok (.aload_n 0, 1) := by decide +kernel
theorem dX9_init_21 : decode cX9_init 21 = .ok (.sipush 1503, 3) := by decide +kernel
theorem dX9_init_24 : decode cX9_init 24 = .ok (.newarray .int, 2) := by decide +kernel
theorem dX9_init_26 : decode cX9_init 26 = .ok (.putfield 16, 3) := by decide +kernel
theorem dX9_init_29 : decode cX9_init 29 = .ok (.aload_n 0, 1) := by decide +kernel
theorem dX9_init_30 : decode cX9_init 30 = .ok (.sipush 1503, 3) := by decide +kernel
theorem dX9_init_33 : decode cX9_init 33 = .ok (.newarray .int, 2) := by decide +kernel
theorem dX9_init_35 : decode cX9_init 35 = .ok (.putfield 19, 3) := by decide +kernel
theorem dX9_init_38 : decode cX9_init 38 = .ok (.aload_n 0, 1) := by decide +kernel
theorem dX9_init_39 : decode cX9_init 39 = .ok (.bipush 20, 2) := by decide +kernel
theorem dX9_init_41 : decode cX9_init 41 = .ok (.newarray .boolean, 2) := by decide +kernel
theorem dX9_init_43 : decode cX9_init 43 = .ok (.putfield 22, 3) := by decide +kernel
theorem dX9_init_46 : decode cX9_init 46 = .ok (.aload_n 0, 1) := by decide +kernel
theorem dX9_init_47 : decode cX9_init 47 = .ok (.bipush 20, 2) := by decide +kernel
theorem dX9_init_49 : decode cX9_init 49 = .ok (.newarray .int, 2) := by decide +kernel
theorem dX9_init_51 : decode cX9_init 51 = .ok (.putfield 26, 3) := by decide +kernel
theorem dX9_init_54 : decode cX9_init 54 = .ok (.aload_n 0, 1) := by decide +kernel
theorem dX9_init_55 : decode cX9_init 55 = .ok (.bipush 20, 2) := by decide +kernel
theorem dX9_init_57 : decode cX9_init 57 = .ok (.newarray .int, 2) := by decide +kernel
theorem dX9_init_59 : decode cX9_init 59 = .ok (.putfield 29, 3) := by decide +kernel
theorem dX9_init_62 : decode cX9_init 62 = .ok (.aload_n 0, 1) := by decide +kernel
theorem dX9_init_63 : decode cX9_init 63 = .ok (.bipush 20, 2) := by decide +kernel
theorem dX9_init_65 : decode cX9_init 65 = .ok (.newarray .int, 2) := by decide +kernel
theorem dX9_init_67 : decode cX9_init 67 = .ok (.putfield 32, 3) := by decide +kernel
theorem dX9_init_70 : decode cX9_init 70 = .ok (.aload_n 0, 1) := by decide +kernel
theorem dX9_init_71 : decode cX9_init 71 = .ok (.iconst (-1), 1) := by decide +kernel
theorem dX9_init_72 : decode cX9_init 72 = .ok (.putfield 35, 3) := by decide +kernel
theorem dX9_init_75 : decode cX9_init 75 = .ok (.aload_n 0, 1) := by decide +kernel
theorem dX9_init_76 : decode cX9_init 76 = .ok (.iconst 4, 1) := by decide +kernel
theorem dX9_init_77 : decode cX9_init 77 = .ok (.newarray .int, 2) := by decide +kernel
theorem dX9_init_79 : decode cX9_init 79 = .ok (.putfield 39, 3) := by decide +kernel
theorem dX9_init_82 : decode cX9_init 82 = .ok (.aload_n 0, 1) := by decide +kernel
theorem dX9_init_83 : decode cX9_init 83 = .ok (.iconst 4, 1) := by decide +kernel
theorem dX9_init_84 : decode cX9_init 84 = .ok (.newarray .int, 2) := by decide +kernel
theorem dX9_init_86 : decode cX9_init 86 = .ok (.putfield 42, 3) := by decide +kernel
theorem dX9_init_89 : decode cX9_init 89 = .ok (.aload_n 0, 1) := by decide +kernel
theorem dX9_init_90 : decode cX9_init 90 = .ok (.iconst 4, 1) := by decide +kernel
theorem dX9_init_91 : decode cX9_init 91 = .ok (.newarray .int, 2) := by decide +kernel
theorem dX9_init_93 : decode cX9_init 93 = .ok (.putfield 45, 3) := by decide +kernel
theorem dX9_init_96 : decode cX9_init 96 = .ok (.aload_n 0, 1) := by decide +kernel
theorem dX9_init_97 : decode cX9_init 97 = .ok (.iconst 4, 1) := by decide +kernel
theorem dX9_init_98 : decode cX9_init 98 = .ok (.newarray .int, 2) := by decide +kernel
theorem dX9_init_100 : decode cX9_init 100 = .ok (.putfield 48, 3) := by decide +kernel
theorem dX9_init_103 : decode cX9_init 103 = .ok (.aload_n 0, 1) := by decide +kernel
theorem dX9_init_104 : decode cX9_init 104 = .ok (.iconst 4, 1) := by decide +kernel
theorem dX9_init_105 : decode cX9_init 105 = .ok (.newarray .int, 2) := by decide +kernel
theorem dX9_init_107 : decode cX9_init 107 = .ok (.putfield 51, 3) := by decide +kernel
theorem dX9_init_110 : decode cX9_init 110 = .ok (.aload_n 0, 1) := by decide +kernel
theorem dX9_init_111 : decode cX9_init 111 = .ok (.iconst 4, 1) := by decide +kernel
theorem dX9_init_112 : decode cX9_init 112 = .ok (.newarray .int, 2) := by decide +kernel
theorem dX9_init_114 : decode cX9_init 114 = .ok (.putfield 54, 3) := by decide +kernel
theorem dX9_init_117 : decode cX9_init 117 = .ok (.aload_n 0, 1) := by decide +kernel
theorem dX9_init_118 : decode cX9_init 118 = .ok (.iconst 4, 1) := by decide +kernel
theorem dX9_init_119 : decode cX9_init 119 = .ok (.newarray .int, 2) := by decide +kernel
theorem dX9_init_121 : decode cX9_init 121 = .ok (.putfield 57, 3) := by decide +kernel
theorem dX9_init_124 : decode cX9_init 124 = .ok (.aload_n 0, 1) := by decide +kernel
theorem dX9_init_125 : decode cX9_init 125 = .ok (.iconst 4, 1) := by decide +kernel
theorem dX9_init_126 : decode cX9_init 126 = .ok (.newarray .boolean, 2) := by decide +kernel
theorem dX9_init_128 : decode cX9_init 128 = .ok (.putfield 60, 3) := by decide +kernel
theorem dX9_init_131 : decode cX9_init 131 = .ok (.aload_n 0, 1) := by decide +kernel
theorem dX9_init_132 : decode cX9_init 132 = .ok (.bipush 8, 2) := by decide +kernel
theorem dX9_init_134 : decode cX9_init 134 = .ok (.newarray .int, 2) := by decide +kernel
theorem dX9_init_136 : decode cX9_init 136 = .ok (.putfield 63, 3) := by decide +kernel
theorem dX9_init_139 : decode cX9_init 139 = .ok (.aload_n 0, 1) := by decide +kernel
theorem dX9_init_140 : decode cX9_init 140 = .ok (.bipush 8, 2) := by decide +kernel
theorem dX9_init_142 : decode cX9_init 142 = .ok (.newarray .int, 2) := by decide +kernel
theorem dX9_init_144 : decode cX9_init 144 = .ok (.putfield 66, 3) := by decide +kernel
theorem dX9_init_147 : decode cX9_init 147 = .ok (.aload_n 0, 1) := by decide +kernel
theorem dX9_init_148 : decode cX9_init 148 = .ok (.bipush 8, 2) := by decide +kernel
theorem dX9_init_150 : decode cX9_init 150 = .ok (.newarray .int, 2) := by decide +kernel
theorem dX9_init_152 : decode cX9_init 152 = .ok (.putfield 69, 3) := by decide +kernel
theorem dX9_init_155 : decode cX9_init 155 = .ok (.aload_n 0, 1) := by decide +kernel
theorem dX9_init_156 : decode cX9_init 156 = .ok (.iconst 4, 1) := by decide +kernel
theorem dX9_init_157 : decode cX9_init 157 = .ok (.newarray .int, 2) := by decide +kernel
theorem dX9_init_159 : decode cX9_init 159 = .ok (.putfield 72, 3) := by decide +kernel
theorem dX9_init_162 : decode cX9_init 162 = .ok (.aload_n 0, 1) := by decide +kernel
theorem dX9_init_163 : decode cX9_init 163 = .ok (.bipush 96, 2) := by decide +kernel
theorem dX9_init_165 : decode cX9_init 165 = .ok (.newarray .int, 2) := by decide +kernel
theorem dX9_init_167 : decode cX9_init 167 = .ok (.putfield 75, 3) := by decide +kernel
theorem dX9_init_170 : decode cX9_init 170 = .ok (.aload_n 0, 1) := by decide +kernel
theorem dX9_init_171 : decode cX9_init 171 = .ok (.sipush 448, 3) := by decide +kernel
theorem dX9_init_174 : decode cX9_init 174 = .ok (.newarray .int, 2) := by decide +kernel
theorem dX9_init_176 : decode cX9_init 176 = .ok (.putfield 78, 3) := by decide +kernel
theorem dX9_init_179 : decode cX9_init 179 = .ok (.aload_n 0, 1) := by decide +kernel
theorem dX9_init_180 : decode cX9_init 180 = .ok (.bipush 96, 2) := by decide +kernel
theorem dX9_init_182 : decode cX9_init 182 = .ok (.newarray .boolean, 2) := by decide +kernel
theorem dX9_init_184 : decode cX9_init 184 = .ok (.putfield 81, 3) := by decide +kernel
theorem dX9_init_187 : decode cX9_init 187 = .ok (.aload_n 0, 1) := by decide +kernel
theorem dX9_init_188 : decode cX9_init 188 = .ok (.bipush 96, 2) := by decide +kernel
theorem dX9_init_190 : decode cX9_init 190 = .ok (.newarray .boolean, 2) := by decide +kernel
theorem dX9_init_192 : decode cX9_init 192 = .ok (.putfield 84, 3) := by decide +kernel
theorem dX9_init_195 : decode cX9_init 195 = .ok (.aload_n 0, 1) := by decide +kernel
theorem dX9_init_196 : decode cX9_init 196 = .ok (.iconst 4, 1) := by decide +kernel
theorem dX9_init_197 : decode cX9_init 197 = .ok (.newarray .int, 2) := by decide +kernel
theorem dX9_init_199 : decode cX9_init 199 = .ok (.putfield 87, 3) := by decide +kernel
theorem dX9_init_202 : decode cX9_init 202 = .ok (.aload_n 0, 1) := by decide +kernel
theorem dX9_init_203 : decode cX9_init 203 = .ok (.iconst 4, 1) := by decide +kernel
theorem dX9_init_204 : decode cX9_init 204 = .ok (.newarray .int, 2) := by decide +kernel
theorem dX9_init_206 : decode cX9_init 206 = .ok (.putfield 90, 3) := by decide +kernel
theorem dX9_init_209 : decode cX9_init 209 = .ok (.return_, 1) := by decide +kernel
theorem dX9_in_0 : decode cX9_in 0 = .ok (.iload_n 0, 1) := by decide +kernel
theorem dX9_in_1 : decode cX9_in 1 = .ok (.iload_n 1, 1) := by decide +kernel
theorem dX9_in_2 : decode cX9_in 2 = .ok (.if_icmp .lt 12, 3) := by decide +kernel
theorem dX9_in_5 : decode cX9_in 5 = .ok (.iload_n 0, 1) := by decide +kernel
theorem dX9_in_6 : decode cX9_in 6 = .ok (.iload_n 2, 1) := by decide +kernel
theorem dX9_in_7 : decode cX9_in 7 = .ok (.if_icmp .gt 7, 3) := by decide +kernel
theorem dX9_in_10 : decode cX9_in 10 = .ok (.iconst 1, 1) := by decide +kernel
theorem dX9_in_11 : decode cX9_in 11 = .ok (.goto 4, 3) := by decide +kernel
theorem dX9_in_14 : decode cX9_in 14 = .ok (.iconst 0, 1) := by decide +kernel
theorem dX9_in_15 : decode cX9_in 15 = .ok (.ireturn, 1) := by decide +kernel
theorem dX9_isCell_0 : decode cX9_isCell 0 = .ok (.iload_n 0, 1) := by decide +kernel
theorem dX9_isCell_1 : decode cX9_isCell 1 = .ok (.iconst 0, 1) := by decide +kernel
theorem dX9_isCell_2 : decode cX9_isCell 2 = .ok (.bipush 95, 2) := by decide +kernel
theorem dX9_isCell_4 : decode cX9_isCell 4 = .ok (.invokestatic 93, 3) := by decide +kernel
theorem dX9_isCell_7 : decode cX9_isCell 7 = .ok (.ireturn, 1) := by decide +kernel
theorem dX9_isSea_0 : decode cX9_isSea 0 = .ok (.iload_n 1, 1) := by decide +kernel
theorem dX9_isSea_1 : decode cX9_isSea 1 = .ok (.invokestatic 97, 3) := by decide +kernel
theorem dX9_isSea_4 : decode cX9_isSea 4 = .ok (.ifCond .eq 16, 3) := by decide +kernel
theorem dX9_isSea_7 : decode cX9_isSea 7 = .ok (.aload_n 0, 1) := by decide +kernel
theorem dX9_isSea_8 : decode cX9_isSea 8 = .ok (.getfield 9, 3) := by decide +kernel
theorem dX9_isSea_11 : decode cX9_isSea 11 = .ok (.iload_n 1, 1) := by decide +kernel
theorem dX9_isSea_12 : decode cX9_isSea 12 = .ok (.iaload, 1) := by decide +kernel
theorem dX9_isSea_13 : decode cX9_isSea 13 = .ok (.ifCond .ne 7, 3) := by decide +kernel
theorem dX9_isSea_16 : decode cX9_isSea 16 = .ok (.iconst 1, 1) := by decide +kernel
theorem dX9_isSea_17 : decode cX9_isSea 17 = .ok (.goto 4, 3) := by decide +kernel
theorem dX9_isSea_20 : decode cX9_isSea 20 = .ok (.iconst 0, 1) := by decide +kernel
theorem dX9_isSea_21 : decode cX9_isSea 21 = .ok (.ireturn, 1) := by decide +kernel
theorem dX9_isSkimmer_0 : decode cX9_isSkimmer 0 = .ok (.iload_n 1, 1) := by decide +kernel
theorem dX9_isSkimmer_1 : decode cX9_isSkimmer 1 = .ok (.iconst 0, 1) := by decide +kernel
theorem dX9_isSkimmer_2 : decode cX9_isSkimmer 2 = .ok (.aload_n 0, 1) := by decide +kernel
theorem dX9_isSkimmer_3 : decode cX9_isSkimmer 3 = .ok (.getfield 101, 3) := by decide +kernel
theorem dX9_isSkimmer_6 : decode cX9_isSkimmer 6 = .ok (.iconst 1, 1) := by decide +kernel
theorem dX9_isSkimmer_7 : decode cX9_isSkimmer 7 = .ok (.isub, 1) := by decide +kernel
theorem dX9_isSkimmer_8 : decode cX9_isSkimmer 8 = .ok (.invokestatic 93, 3) := by decide +kernel
theorem dX9_isSkimmer_11 : decode cX9_isSkimmer 11 = .ok (.ireturn, 1) := by decide +kernel
theorem dX9_shore_0 : decode cX9_shore 0 = .ok (.iload_n 1, 1) := by decide +kernel
theorem dX9_shore_1 : decode cX9_shore 1 = .ok (.invokestatic 97, 3) := by decide +kernel
theorem dX9_shore_4 : decode cX9_shore 4 = .ok (.ifCond .eq 29, 3) := by decide +kernel
theorem dX9_shore_7 : decode cX9_shore 7 = .ok (.iload_n 2, 1) := by decide +kernel
theorem dX9_shore_8 : decode cX9_shore 8 = .ok (.iconst 0, 1) := by decide +kernel
theorem dX9_shore_9 : decode cX9_shore 9 = .ok (.bipush 9, 2) := by decide +kernel
theorem dX9_shore_11 : decode cX9_shore 11 = .ok (.invokestatic 93, 3) := by decide +kernel
theorem dX9_shore_14 : decode cX9_shore 14 = .ok (.ifCond .eq 19, 3) := by decide +kernel
theorem dX9_shore_17 : decode cX9_shore 17 = .ok (.aload_n 0, 1) := by decide +kernel
theorem dX9_shore_18 : decode cX9_shore 18 = .ok (.getfield 104, 3) := by decide +kernel
theorem dX9_shore_21 : decode cX9_shore 21 = .ok (.ifCond .gt 12, 3) := by decide +kernel
theorem dX9_shore_24 : decode cX9_shore 24 = .ok (.aload_n 0, 1) := by decide +kernel
theorem dX9_shore_25 : decode cX9_shore 25 = .ok (.getfield 13, 3) := by decide +kernel
theorem dX9_shore_28 : decode cX9_shore 28 = .ok (.iload_n 1, 1) := by decide +kernel
theorem dX9_shore_29 : decode cX9_shore 29 = .ok (.iaload, 1) := by decide +kernel
theorem dX9_shore_30 : decode cX9_shore 30 = .ok (.ifCond .le 5, 3) := by decide +kernel
theorem dX9_shore_33 : decode cX9_shore 33 = .ok (.iconst 0, 1) := by decide +kernel
theorem dX9_shore_34 : decode cX9_shore 34 = .ok (.ireturn, 1) := by decide +kernel
theorem dX9_shore_35 : decode cX9_shore 35 = .ok (.iconst 0, 1) := by decide +kernel
theorem dX9_shore_36 : decode cX9_shore 36 = .ok (.istore_n 3, 1) := by decide +kernel
theorem dX9_shore_37 : decode cX9_shore 37 = .ok (.iload_n 3, 1) := by decide +kernel
theorem dX9_shore_38 : decode cX9_shore 38 = .ok (.aload_n 0, 1) := by decide +kernel
theorem dX9_shore_39 : decode cX9_shore 39 = .ok (.getfield 101, 3) := by decide +kernel
theorem dX9_shore_42 : decode cX9_shore 42 = .ok (.if_icmp .ge 21, 3) := by decide +kernel
theorem dX9_shore_45 : decode cX9_shore 45 = .ok (.aload_n 0, 1) := by decide +kernel
theorem dX9_shore_46 : decode cX9_shore 46 = .ok (.getfield 39, 3) := by decide +kernel
theorem dX9_shore_49 : decode cX9_shore 49 = .ok (.iload_n 3, 1) := by decide +kernel
theorem dX9_shore_50 : decode cX9_shore 50 = .ok (.iaload, 1) := by decide +kernel
theorem dX9_shore_51 : decode cX9_shore 51 = .ok (.iload_n 1, 1) := by decide +kernel
theorem dX9_shore_52 : decode cX9_shore 52 = .ok (.if_icmp .ne 5, 3) := by decide +kernel
theorem dX9_shore_55 : decode cX9_shore 55 = .ok (.iconst 0, 1) := by decide +kernel
theorem dX9_shore_56 : decode cX9_shore 56 = .ok (.ireturn, 1) := by decide +kernel
theorem dX9_shore_57 : decode cX9_shore 57 = .ok (.iinc 3 1, 3) := by decide +kernel
theorem dX9_shore_60 : decode cX9_shore 60 = .ok (.goto (-23), 3) := by decide +kernel
theorem dX9_shore_63 : decode cX9_shore 63 = .ok (.iconst 0, 1) := by decide +kernel
theorem dX9_shore_64 : decode cX9_shore 64 = .ok (.istore_n 3, 1) := by decide +kernel
theorem dX9_shore_65 : decode cX9_shore 65 = .ok (.iload_n 3, 1) := by decide +kernel
theorem dX9_shore_66 : decode cX9_shore 66 = .ok (.aload_n 0, 1) := by decide +kernel
theorem dX9_shore_67 : decode cX9_shore 67 = .ok (.getfield 107, 3) := by decide +kernel
theorem dX9_shore_70 : decode cX9_shore 70 = .ok (.if_icmp .ge 21, 3) := by decide +kernel
theorem dX9_shore_73 : decode cX9_shore 73 = .ok (.aload_n 0, 1) := by decide +kernel
theorem dX9_shore_74 : decode cX9_shore 74 = .ok (.getfield 66, 3) := by decide +kernel
theorem dX9_shore_77 : decode cX9_shore 77 = .ok (.iload_n 3, 1) := by decide +kernel
theorem dX9_shore_78 : decode cX9_shore 78 = .ok (.iaload, 1) := by decide +kernel
theorem dX9_shore_79 : decode cX9_shore 79 = .ok (.iload_n 1, 1) := by decide +kernel
theorem dX9_shore_80 : decode cX9_shore 80 = .ok (.if_icmp .ne 5, 3) := by decide +kernel
theorem dX9_shore_83 : decode cX9_shore 83 = .ok (.iconst 0, 1) := by decide +kernel
theorem dX9_shore_84 : decode cX9_shore 84 = .ok (.ireturn, 1) := by decide +kernel
theorem dX9_shore_85 : decode cX9_shore 85 = .ok (.iinc 3 1, 3) := by decide +kernel
theorem dX9_shore_88 : decode cX9_shore 88 = .ok (.goto (-23), 3) := by decide +kernel
theorem dX9_shore_91 : decode cX9_shore 91 = .ok (.iconst 0, 1) := by decide +kernel
theorem dX9_shore_92 : decode cX9_shore 92 = .ok (.istore_n 3, 1) := by decide +kernel
theorem dX9_shore_93 : decode cX9_shore 93 = .ok (.iload_n 3, 1) := by decide +kernel
theorem dX9_shore_94 : decode cX9_shore 94 = .ok (.bipush 20, 2) := by decide +kernel
theorem dX9_shore_96 : decode cX9_shore 96 = .ok (.if_icmp .ge 40, 3) := by decide +kernel
theorem dX9_shore_99 : decode cX9_shore 99 = .ok (.aload_n 0, 1) := by decide +kernel
theorem dX9_shore_100 : decode cX9_shore 100 = .ok (.getfield 22, 3) := by decide +kernel
theorem dX9_shore_103 : decode cX9_shore 103 = .ok (.iload_n 3, 1) := by decide +kernel
theorem dX9_shore_104 : decode cX9_shore 104 = .ok (.baload, 1) := by decide +kernel
theorem dX9_shore_105 : decode cX9_shore 105 = .ok (.ifCond .eq 25, 3) := by decide +kernel
theorem dX9_shore_108 : decode cX9_shore 108 = .ok (.aload_n 0, 1) := by decide +kernel
theorem dX9_shore_109 : decode cX9_shore 109 = .ok (.getfield 26, 3) := by decide +kernel
theorem dX9_shore_112 : decode cX9_shore 112 = .ok (.iload_n 3, 1) := by decide +kernel
theorem dX9_shore_113 : decode cX9_shore 113 = .ok (.iaload, 1) := by decide +kernel
theorem dX9_shore_114 : decode cX9_shore 114 = .ok (.iload_n 1, 1) := by decide +kernel
theorem dX9_shore_115 : decode cX9_shore 115 = .ok (.if_icmp .eq 13, 3) := by decide +kernel
theorem dX9_shore_118 : decode cX9_shore 118 = .ok (.aload_n 0, 1) := by decide +kernel
theorem dX9_shore_119 : decode cX9_shore 119 = .ok (.getfield 29, 3) := by decide +kernel
theorem dX9_shore_122 : decode cX9_shore 122 = .ok (.iload_n 3, 1) := by decide +kernel
theorem dX9_shore_123 : decode cX9_shore 123 = .ok (.iaload, 1) := by decide +kernel
theorem dX9_shore_124 : decode cX9_shore 124 = .ok (.iload_n 1, 1) := by decide +kernel
theorem dX9_shore_125 : decode cX9_shore 125 = .ok (.if_icmp .ne 5, 3) := by decide +kernel
theorem dX9_shore_128 : decode cX9_shore 128 = .ok (.iconst 0, 1) := by decide +kernel
theorem dX9_shore_129 : decode cX9_shore 129 = .ok (.ireturn, 1) := by decide +kernel
theorem dX9_shore_130 : decode cX9_shore 130 = .ok (.iinc 3 1, 3) := by decide +kernel
theorem dX9_shore_133 : decode cX9_shore 133 = .ok (.goto (-40), 3) := by decide +kernel
theorem dX9_shore_136 : decode cX9_shore 136 = .ok (.aload_n 0, 1) := by decide +kernel
theorem dX9_shore_137 : decode cX9_shore 137 = .ok (.getfield 9, 3) := by decide +kernel
theorem dX9_shore_140 : decode cX9_shore 140 = .ok (.iload_n 1, 1) := by decide +kernel
theorem dX9_shore_141 : decode cX9_shore 141 = .ok (.iload_n 2, 1) := by decide +kernel
theorem dX9_shore_142 : decode cX9_shore 142 = .ok (.iastore, 1) := by decide +kernel
theorem dX9_shore_143 : decode cX9_shore 143 = .ok (.iconst 1, 1) := by decide +kernel
theorem dX9_shore_144 : decode cX9_shore 144 = .ok (.ireturn, 1) := by decide +kernel
theorem dX9_weather_0 : decode cX9_weather 0 = .ok (.iload_n 1, 1) := by decide +kernel
theorem dX9_weather_1 : decode cX9_weather 1 = .ok (.iconst 0, 1) := by decide +kernel
theorem dX9_weather_2 : decode cX9_weather 2 = .ok (.iconst 2, 1) := by decide +kernel
theorem dX9_weather_3 : decode cX9_weather 3 = .ok (.invokestatic 93, 3) := by decide +kernel
theorem dX9_weather_6 : decode cX9_weather 6 = .ok (.ifCond .eq 37, 3) := by decide +kernel
theorem dX9_weather_9 : decode cX9_weather 9 = .ok (.iload_n 2, 1) := by decide +kernel
theorem dX9_weather_10 : decode cX9_weather 10 = .ok (.aload_n 0, 1) := by decide +kernel
theorem dX9_weather_11 : decode cX9_weather 11 = .ok (.getfield 104, 3) := by decide +kernel
theorem dX9_weather_14 : decode cX9_weather 14 = .ok (.sipush 500, 3) := by decide +kernel
theorem dX9_weather_17 : decode cX9_weather 17 = .ok (.invokestatic 93, 3) := by decide +kernel
theorem dX9_weather_20 : decode cX9_weather 20 = .ok (.ifCond .eq 23, 3) := by decide +kernel
theorem dX9_weather_23 : decode cX9_weather 23 = .ok (.iload_n 3, 1) := by decide +kernel
theorem dX9_weather_24 : decode cX9_weather 24 = .ok (.iconst 0, 1) := by decide +kernel
theorem dX9_weather_25 : decode cX9_weather 25 = .ok (.iconst 4, 1) := by decide +kernel
theorem dX9_weather_26 : decode cX9_weather 26 = .ok (.invokestatic 93, 3) := by decide +kernel
theorem dX9_weather_29 : decode cX9_weather 29 = .ok (.ifCond .eq 14, 3) := by decide +kernel
theorem dX9_weather_32 : decode cX9_weather 32 = .ok (.iload 4, 2) := by decide +kernel
theorem dX9_weather_34 : decode cX9_weather 34 = .ok (.iconst 0, 1) := by decide +kernel
theorem dX9_weather_35 : decode cX9_weather 35 = .ok (.bipush 9, 2) := by decide +kernel
theorem dX9_weather_37 : decode cX9_weather 37 = .ok (.invokestatic 93, 3) := by decide +kernel
theorem dX9_weather_40 : decode cX9_weather 40 = .ok (.ifCond .ne 5, 3) := by decide +kernel
theorem dX9_weather_43 : decode cX9_weather 43 = .ok (.iconst 0, 1) := by decide +kernel
theorem dX9_weather_44 : decode cX9_weather 44 = .ok (.ireturn, 1) := by decide +kernel
theorem dX9_weather_45 : decode cX9_weather 45 = .ok (.aload_n 0, 1) := by decide +kernel
theorem dX9_weather_46 : decode cX9_weather 46 = .ok (.getfield 16, 3) := by decide +kernel
theorem dX9_weather_49 : decode cX9_weather 49 = .ok (.sipush 501, 3) := by decide +kernel
theorem dX9_weather_52 : decode cX9_weather 52 = .ok (.iload_n 1, 1) := by decide +kernel
theorem dX9_weather_53 : decode cX9_weather 53 = .ok (.imul, 1) := by decide +kernel
theorem dX9_weather_54 : decode cX9_weather 54 = .ok (.iload_n 2, 1) := by decide +kernel
theorem dX9_weather_55 : decode cX9_weather 55 = .ok (.iadd, 1) := by decide +kernel
theorem dX9_weather_56 : decode cX9_weather 56 = .ok (.iload_n 3, 1) := by decide +kernel
theorem dX9_weather_57 : decode cX9_weather 57 = .ok (.iastore, 1) := by decide +kernel
theorem dX9_weather_58 : decode cX9_weather 58 = .ok (.aload_n 0, 1) := by decide +kernel
theorem dX9_weather_59 : decode cX9_weather 59 = .ok (.getfield 19, 3) := by decide +kernel
theorem dX9_weather_62 : decode cX9_weather 62 = .ok (.sipush 501, 3) := by decide +kernel
theorem dX9_weather_65 : decode cX9_weather 65 = .ok (.iload_n 1, 1) := by decide +kernel
theorem dX9_weather_66 : decode cX9_weather 66 = .ok (.imul, 1) := by decide +kernel
theorem dX9_weather_67 : decode cX9_weather 67 = .ok (.iload_n 2, 1) := by decide +kernel
theorem dX9_weather_68 : decode cX9_weather 68 = .ok (.iadd, 1) := by decide +kernel
theorem dX9_weather_69 : decode cX9_weather 69 = .ok (.iload 4, 2) := by decide +kernel
theorem dX9_weather_71 : decode cX9_weather 71 = .ok (.iastore, 1) := by decide +kernel
theorem dX9_weather_72 : decode cX9_weather 72 = .ok (.iconst 1, 1) := by decide +kernel
theorem dX9_weather_73 : decode cX9_weather 73 = .ok (.ireturn, 1) := by decide +kernel
theorem dX9_areSide_0 : decode cX9_areSide 0 = .ok (.iload_n 0, 1) := by decide +kernel
theorem dX9_areSide_1 : decode cX9_areSide 1 = .ok (.bipush 12, 2) := by decide +kernel
theorem dX9_areSide_3 : decode cX9_areSide 3 = .ok (.idiv, 1) := by decide +kernel
theorem dX9_areSide_4 : decode cX9_areSide 4 = .ok (.iload_n 1, 1) := by decide +kernel
theorem dX9_areSide_5 : decode cX9_areSide 5 = .ok (.bipush 12, 2) := by decide +kernel
theorem dX9_areSide_7 : decode cX9_areSide 7 = .ok (.idiv, 1) := by decide +kernel
theorem dX9_areSide_8 : decode cX9_areSide 8 = .ok (.isub, 1) := by decide +kernel
theorem dX9_areSide_9 : decode cX9_areSide 9 = .ok (.istore_n 2, 1) := by decide +kernel
theorem dX9_areSide_10 : decode cX9_areSide 10 = .ok (.iload_n 0, 1) := by decide +kernel
theorem dX9_areSide_11 : decode cX9_areSide 11 = .ok (.bipush 12, 2) := by decide +kernel
theorem dX9_areSide_13 : decode cX9_areSide 13 = .ok (.irem, 1) := by decide +kernel
theorem dX9_areSide_14 : decode cX9_areSide 14 = .ok (.iload_n 1, 1) := by decide +kernel
theorem dX9_areSide_15 : decode cX9_areSide 15 = .ok (.bipush 12, 2) := by decide +kernel
theorem dX9_areSide_17 : decode cX9_areSide 17 = .ok (.irem, 1) := by decide +kernel
theorem dX9_areSide_18 : decode cX9_areSide 18 = .ok (.isub, 1) := by decide +kernel
theorem dX9_areSide_19 : decode cX9_areSide 19 = .ok (.istore_n 3, 1) := by decide +kernel
theorem dX9_areSide_20 : decode cX9_areSide 20 = .ok (.iload_n 2, 1) := by decide +kernel
theorem dX9_areSide_21 : decode cX9_areSide 21 = .ok (.iload_n 2, 1) := by decide +kernel
theorem dX9_areSide_22 : decode cX9_areSide 22 = .ok (.imul, 1) := by decide +kernel
theorem dX9_areSide_23 : decode cX9_areSide 23 = .ok (.iload_n 3, 1) := by decide +kernel
theorem dX9_areSide_24 : decode cX9_areSide 24 = .ok (.iload_n 3, 1) := by decide +kernel
theorem dX9_areSide_25 : decode cX9_areSide 25 = .ok (.imul, 1) := by decide +kernel
theorem dX9_areSide_26 : decode cX9_areSide 26 = .ok (.iadd, 1) := by decide +kernel
theorem dX9_areSide_27 : decode cX9_areSide 27 = .ok (.iconst 1, 1) := by decide +kernel
theorem dX9_areSide_28 : decode cX9_areSide 28 = .ok (.if_icmp .ne 7, 3) := by decide +kernel
theorem dX9_areSide_31 : decode cX9_areSide 31 = .ok (.iconst 1, 1) := by decide +kernel
theorem dX9_areSide_32 : decode cX9_areSide 32 = .ok (.goto 4, 3) := by decide +kernel
theorem dX9_areSide_35 : decode cX9_areSide 35 = .ok (.iconst 0, 1) := by decide +kernel
theorem dX9_areSide_36 : decode cX9_areSide 36 = .ok (.ireturn, 1) := by decide +kernel
theorem dX9_boomAt_0 : decode cX9_boomAt 0 = .ok (.iconst 0, 1) := by decide +kernel
theorem dX9_boomAt_1 : decode cX9_boomAt 1 = .ok (.istore_n 3, 1) := by decide +kernel
theorem dX9_boomAt_2 : decode cX9_boomAt 2 = .ok (.iload_n 3, 1) := by decide +kernel
theorem dX9_boomAt_3 : decode cX9_boomAt 3 = .ok (.bipush 20, 2) := by decide +kernel
theorem dX9_boomAt_5 : decode cX9_boomAt 5 = .ok (.if_icmp .ge 60, 3) := by decide +kernel
theorem dX9_boomAt_8 : decode cX9_boomAt 8 = .ok (.aload_n 0, 1) := by decide +kernel
theorem dX9_boomAt_9 : decode cX9_boomAt 9 = .ok (.getfield 22, 3) := by decide +kernel
theorem dX9_boomAt_12 : decode cX9_boomAt 12 = .ok (.iload_n 3, 1) := by decide +kernel
theorem dX9_boomAt_13 : decode cX9_boomAt 13 = .ok (.baload, 1) := by decide +kernel
theorem dX9_boomAt_14 : decode cX9_boomAt 14 = .ok (.ifCond .eq 45, 3) := by decide +kernel
theorem dX9_boomAt_17 : decode cX9_boomAt 17 = .ok (.aload_n 0, 1) := by decide +kernel
theorem dX9_boomAt_18 : decode cX9_boomAt 18 = .ok (.getfield 26, 3) := by decide +kernel
theorem dX9_boomAt_21 : decode cX9_boomAt 21 = .ok (.iload_n 3, 1) := by decide +kernel
theorem dX9_boomAt_22 : decode cX9_boomAt 22 = .ok (.iaload, 1) := by decide +kernel
theorem dX9_boomAt_23 : decode cX9_boomAt 23 = .ok (.iload_n 1, 1) := by decide +kernel
theorem dX9_boomAt_24 : decode cX9_boomAt 24 = .ok (.if_icmp .ne 13, 3) := by decide +kernel
theorem dX9_boomAt_27 : decode cX9_boomAt 27 = .ok (.aload_n 0, 1) := by decide +kernel
theorem dX9_boomAt_28 : decode cX9_boomAt 28 = .ok (.getfield 29, 3) := by decide +kernel
theorem dX9_boomAt_31 : decode cX9_boomAt 31 = .ok (.iload_n 3, 1) := by decide +kernel
theorem dX9_boomAt_32 : decode cX9_boomAt 32 = .ok (.iaload, 1) := by decide +kernel
theorem dX9_boomAt_33 : decode cX9_boomAt 33 = .ok (.iload_n 2, 1) := by decide +kernel
theorem dX9_boomAt_34 : decode cX9_boomAt 34 = .ok (.if_icmp .eq 23, 3) := by decide +kernel
theorem dX9_boomAt_37 : decode cX9_boomAt 37 = .ok (.aload_n 0, 1) := by decide +kernel
theorem dX9_boomAt_38 : decode cX9_boomAt 38 = .ok (.getfield 26, 3) := by decide +kernel
theorem dX9_boomAt_41 : decode cX9_boomAt 41 = .ok (.iload_n 3, 1) := by decide +kernel
theorem dX9_boomAt_42 : decode cX9_boomAt 42 = .ok (.iaload, 1) := by decide +kernel
theorem dX9_boomAt_43 : decode cX9_boomAt 43 = .ok (.iload_n 2, 1) := by decide +kernel
theorem dX9_boomAt_44 : decode cX9_boomAt 44 = .ok (.if_icmp .ne 15, 3) := by decide +kernel
theorem dX9_boomAt_47 : decode cX9_boomAt 47 = .ok (.aload_n 0, 1) := by decide +kernel
theorem dX9_boomAt_48 : decode cX9_boomAt 48 = .ok (.getfield 29, 3) := by decide +kernel
theorem dX9_boomAt_51 : decode cX9_boomAt 51 = .ok (.iload_n 3, 1) := by decide +kernel
theorem dX9_boomAt_52 : decode cX9_boomAt 52 = .ok (.iaload, 1) := by decide +kernel
theorem dX9_boomAt_53 : decode cX9_boomAt 53 = .ok (.iload_n 1, 1) := by decide +kernel
theorem dX9_boomAt_54 : decode cX9_boomAt 54 = .ok (.if_icmp .ne 5, 3) := by decide +kernel
theorem dX9_boomAt_57 : decode cX9_boomAt 57 = .ok (.iload_n 3, 1) := by decide +kernel
theorem dX9_boomAt_58 : decode cX9_boomAt 58 = .ok (.ireturn, 1) := by decide +kernel
theorem dX9_boomAt_59 : decode cX9_boomAt 59 = .ok (.iinc 3 1, 3) := by decide +kernel
theorem dX9_boomAt_62 : decode cX9_boomAt 62 = .ok (.goto (-60), 3) := by decide +kernel
theorem dX9_boomAt_65 : decode cX9_boomAt 65 = .ok (.iconst (-1), 1) := by decide +kernel
theorem dX9_boomAt_66 : decode cX9_boomAt 66 = .ok (.ireturn, 1) := by decide +kernel
theorem dX9_boom_0 : decode cX9_boom 0 = .ok (.aload_n 0, 1) := by decide +kernel
theorem dX9_boom_1 : decode cX9_boom 1 = .ok (.iload_n 1, 1) := by decide +kernel
theorem dX9_boom_2 : decode cX9_boom 2 = .ok (.invokevirtual 110, 3) := by decide +kernel
theorem dX9_boom_5 : decode cX9_boom 5 = .ok (.ifCond .eq 39, 3) := by decide +kernel
theorem dX9_boom_8 : decode cX9_boom 8 = .ok (.aload_n 0, 1) := by decide +kernel
theorem dX9_boom_9 : decode cX9_boom 9 = .ok (.iload_n 2, 1) := by decide +kernel
theorem dX9_boom_10 : decode cX9_boom 10 = .ok (.invokevirtual 110, 3) := by decide +kernel
theorem dX9_boom_13 : decode cX9_boom 13 = .ok (.ifCond .eq 31, 3) := by decide +kernel
theorem dX9_boom_16 : decode cX9_boom 16 = .ok (.iload_n 1, 1) := by decide +kernel
theorem dX9_boom_17 : decode cX9_boom 17 = .ok (.iload_n 2, 1) := by decide +kernel
theorem dX9_boom_18 : decode cX9_boom 18 = .ok (.invokestatic 113, 3) := by decide +kernel
theorem dX9_boom_21 : decode cX9_boom 21 = .ok (.ifCond .eq 23, 3) := by decide +kernel
theorem dX9_boom_24 : decode cX9_boom 24 = .ok (.aload_n 0, 1) := by decide +kernel
theorem dX9_boom_25 : decode cX9_boom 25 = .ok (.iload_n 1, 1) := by decide +kernel
theorem dX9_boom_26 : decode cX9_boom 26 = .ok (.iload_n 2, 1) := by decide +kernel
theorem dX9_boom_27 : decode cX9_boom 27 = .ok (.invokevirtual 117, 3) := by decide +kernel
theorem dX9_boom_30 : decode cX9_boom 30 = .ok (.iconst (-1), 1) := by decide +kernel
theorem dX9_boom_31 : decode cX9_boom 31 = .ok (.if_icmp .ne 13, 3) := by decide +kernel
theorem dX9_boom_34 : decode cX9_boom 34 = .ok (.iload_n 3, 1) := by decide +kernel
theorem dX9_boom_35 : decode cX9_boom 35 = .ok (.iconst 0, 1) := by decide +kernel
theorem dX9_boom_36 : decode cX9_boom 36 = .ok (.bipush 9, 2) := by decide +kernel
theorem dX9_boom_38 : decode cX9_boom 38 = .ok (.invokestatic 93, 3) := by decide +kernel
theorem dX9_boom_41 : decode cX9_boom 41 = .ok (.ifCond .ne 5, 3) := by decide +kernel
theorem dX9_boom_44 : decode cX9_boom 44 = .ok (.iconst (-1), 1) := by decide +kernel
theorem dX9_boom_45 : decode cX9_boom 45 = .ok (.ireturn, 1) := by decide +kernel
theorem dX9_boom_46 : decode cX9_boom 46 = .ok (.iconst 0, 1) := by decide +kernel
theorem dX9_boom_47 : decode cX9_boom 47 = .ok (.istore 4, 2) := by decide +kernel
theorem dX9_boom_49 : decode cX9_boom 49 = .ok (.iload 4, 2) := by decide +kernel
theorem dX9_boom_51 : decode cX9_boom 51 = .ok (.bipush 20, 2) := by decide +kernel
theorem dX9_boom_53 : decode cX9_boom 53 = .ok (.if_icmp .ge 57, 3) := by decide +kernel
theorem dX9_boom_56 : decode cX9_boom 56 = .ok (.aload_n 0, 1) := by decide +kernel
theorem dX9_boom_57 : decode cX9_boom 57 = .ok (.getfield 22, 3) := by decide +kernel
theorem dX9_boom_60 : decode cX9_boom 60 = .ok (.iload 4, 2) := by decide +kernel
theorem dX9_boom_62 : decode cX9_boom 62 = .ok (.baload, 1) := by decide +kernel
theorem dX9_boom_63 : decode cX9_boom 63 = .ok (.ifCond .eq 6, 3) := by decide +kernel
theorem dX9_boom_66 : decode cX9_boom 66 = .ok (.goto 38, 3) := by decide +kernel
theorem dX9_boom_69 : decode cX9_boom 69 = .ok (.aload_n 0, 1) := by decide +kernel
theorem dX9_boom_70 : decode cX9_boom 70 = .ok (.getfield 22, 3) := by decide +kernel
theorem dX9_boom_73 : decode cX9_boom 73 = .ok (.iload 4, 2) := by decide +kernel
theorem dX9_boom_75 : decode cX9_boom 75 = .ok (.iconst 1, 1) := by decide +kernel
theorem dX9_boom_76 : decode cX9_boom 76 = .ok (.bastore, 1) := by decide +kernel
theorem dX9_boom_77 : decode cX9_boom 77 = .ok (.aload_n 0, 1) := by decide +kernel
theorem dX9_boom_78 : decode cX9_boom 78 = .ok (.getfield 26, 3) := by decide +kernel
theorem dX9_boom_81 : decode cX9_boom 81 = .ok (.iload 4, 2) := by decide +kernel
theorem dX9_boom_83 : decode cX9_boom 83 = .ok (.iload_n 1, 1) := by decide +kernel
theorem dX9_boom_84 : decode cX9_boom 84 = .ok (.iastore, 1) := by decide +kernel
theorem dX9_boom_85 : decode cX9_boom 85 = .ok (.aload_n 0, 1) := by decide +kernel
theorem dX9_boom_86 : decode cX9_boom 86 = .ok (.getfield 29, 3) := by decide +kernel
theorem dX9_boom_89 : decode cX9_boom 89 = .ok (.iload 4, 2) := by decide +kernel
theorem dX9_boom_91 : decode cX9_boom 91 = .ok (.iload_n 2, 1) := by decide +kernel
theorem dX9_boom_92 : decode cX9_boom 92 = .ok (.iastore, 1) := by decide +kernel
theorem dX9_boom_93 : decode cX9_boom 93 = .ok (.aload_n 0, 1) := by decide +kernel
theorem dX9_boom_94 : decode cX9_boom 94 = .ok (.getfield 32, 3) := by decide +kernel
theorem dX9_boom_97 : decode cX9_boom 97 = .ok (.iload 4, 2) := by decide +kernel
theorem dX9_boom_99 : decode cX9_boom 99 = .ok (.iload_n 3, 1) := by decide +kernel
theorem dX9_boom_100 : decode cX9_boom 100 = .ok (.iastore, 1) := by decide +kernel
theorem dX9_boom_101 : decode cX9_boom 101 = .ok (.iload 4, 2) := by decide +kernel
theorem dX9_boom_103 : decode cX9_boom 103 = .ok (.ireturn, 1) := by decide +kernel
theorem dX9_boom_104 : decode cX9_boom 104 = .ok (.iinc 4 1, 3) := by decide +kernel
theorem dX9_boom_107 : decode cX9_boom 107 = .ok (.goto (-58), 3) := by decide +kernel
theorem dX9_boom_110 : decode cX9_boom 110 = .ok (.iconst (-1), 1) := by decide +kernel
theorem dX9_boom_111 : decode cX9_boom 111 = .ok (.ireturn, 1) := by decide +kernel
theorem dX9_lift_0 : decode cX9_lift 0 = .ok (.iload_n 1, 1) := by decide +kernel
theorem dX9_lift_1 : decode cX9_lift 1 = .ok (.iconst 0, 1) := by decide +kernel
theorem dX9_lift_2 : decode cX9_lift 2 = .ok (.bipush 19, 2) := by decide +kernel
theorem dX9_lift_4 : decode cX9_lift 4 = .ok (.invokestatic 93, 3) := by decide +kernel
theorem dX9_lift_7 : decode cX9_lift 7 = .ok (.ifCond .eq 12, 3) := by decide +kernel
theorem dX9_lift_10 : decode cX9_lift 10 = .ok (.aload_n 0, 1) := by decide +kernel
theorem dX9_lift_11 : decode cX9_lift 11 = .ok (.getfield 22, 3) := by decide +kernel
theorem dX9_lift_14 : decode cX9_lift 14 = .ok (.iload_n 1, 1) := by decide +kernel
theorem dX9_lift_15 : decode cX9_lift 15 = .ok (.baload, 1) := by decide +kernel
theorem dX9_lift_16 : decode cX9_lift 16 = .ok (.ifCond .ne 5, 3) := by decide +kernel
theorem dX9_lift_19 : decode cX9_lift 19 = .ok (.iconst 0, 1) := by decide +kernel
theorem dX9_lift_20 : decode cX9_lift 20 = .ok (.ireturn, 1) := by decide +kernel
theorem dX9_lift_21 : decode cX9_lift 21 = .ok (.aload_n 0, 1) := by decide +kernel
theorem dX9_lift_22 : decode cX9_lift 22 = .ok (.getfield 22, 3) := by decide +kernel
theorem dX9_lift_25 : decode cX9_lift 25 = .ok (.iload_n 1, 1) := by decide +kernel
theorem dX9_lift_26 : decode cX9_lift 26 = .ok (.iconst 0, 1) := by decide +kernel
theorem dX9_lift_27 : decode cX9_lift 27 = .ok (.bastore, 1) := by decide +kernel
theorem dX9_lift_28 : decode cX9_lift 28 = .ok (.iconst 1, 1) := by decide +kernel
theorem dX9_lift_29 : decode cX9_lift 29 = .ok (.ireturn, 1) := by decide +kernel
theorem dX9_spill_0 : decode cX9_spill 0 = .ok (.aload_n 0, 1) := by decide +kernel
theorem dX9_spill_1 : decode cX9_spill 1 = .ok (.iload_n 1, 1) := by decide +kernel
theorem dX9_spill_2 : decode cX9_spill 2 = .ok (.invokevirtual 110, 3) := by decide +kernel
theorem dX9_spill_5 : decode cX9_spill 5 = .ok (.ifCond .eq 24, 3) := by decide +kernel
theorem dX9_spill_8 : decode cX9_spill 8 = .ok (.iload_n 2, 1) := by decide +kernel
theorem dX9_spill_9 : decode cX9_spill 9 = .ok (.iconst 1, 1) := by decide +kernel
theorem dX9_spill_10 : decode cX9_spill 10 = .ok (.ldc 121, 2) := by decide +kernel
theorem dX9_spill_12 : decode cX9_spill 12 = .ok (.invokestatic 93, 3) := by decide +kernel
theorem dX9_spill_15 : decode cX9_spill 15 = .ok (.ifCond .eq 14, 3) := by decide +kernel
theorem dX9_spill_18 : decode cX9_spill 18 = .ok (.aload_n 0, 1) := by decide +kernel
theorem dX9_spill_19 : decode cX9_spill 19 = .ok (.getfield 122, 3) := by decide +kernel
theorem dX9_spill_22 : decode cX9_spill 22 = .ok (.iload_n 2, 1) := by decide +kernel
theorem dX9_spill_23 : decode cX9_spill 23 = .ok (.iadd, 1) := by decide +kernel
theorem dX9_spill_24 : decode cX9_spill 24 = .ok (.ldc 125, 2) := by decide +kernel
theorem dX9_spill_26 : decode cX9_spill 26 = .ok (.if_icmp .le 5, 3) := by decide +kernel
theorem dX9_spill_29 : decode cX9_spill 29 = .ok (.iconst (-1), 1) := by decide +kernel
theorem dX9_spill_30 : decode cX9_spill 30 = .ok (.ireturn, 1) := by decide +kernel
theorem dX9_spill_31 : decode cX9_spill 31 = .ok (.aload_n 0, 1) := by decide +kernel
theorem dX9_spill_32 : decode cX9_spill 32 = .ok (.getfield 35, 3) := by decide +kernel
theorem dX9_spill_35 : decode cX9_spill 35 = .ok (.iconst (-1), 1) := by decide +kernel
theorem dX9_spill_36 : decode cX9_spill 36 = .ok (.if_icmp .ne 11, 3) := by decide +kernel
theorem dX9_spill_39 : decode cX9_spill 39 = .ok (.aload_n 0, 1) := by decide +kernel
theorem dX9_spill_40 : decode cX9_spill 40 = .ok (.aload_n 0, 1) := by decide +kernel
theorem dX9_spill_41 : decode cX9_spill 41 = .ok (.getfield 104, 3) := by decide +kernel
theorem dX9_spill_44 : decode cX9_spill 44 = .ok (.putfield 35, 3) := by decide +kernel
theorem dX9_spill_47 : decode cX9_spill 47 = .ok (.aload_n 0, 1) := by decide +kernel
theorem dX9_spill_48 : decode cX9_spill 48 = .ok (.dup, 1) := by decide +kernel
theorem dX9_spill_49 : decode cX9_spill 49 = .ok (.getfield 122, 3) := by decide +kernel
theorem dX9_spill_52 : decode cX9_spill 52 = .ok (.iload_n 2, 1) := by decide +kernel
theorem dX9_spill_53 : decode cX9_spill 53 = .ok (.iadd, 1) := by decide +kernel
theorem dX9_spill_54 : decode cX9_spill 54 = .ok (.putfield 122, 3) := by decide +kernel
theorem dX9_spill_57 : decode cX9_spill 57 = .ok (.aload_n 0, 1) := by decide +kernel
theorem dX9_spill_58 : decode cX9_spill 58 = .ok (.getfield 13, 3) := by decide +kernel
theorem dX9_spill_61 : decode cX9_spill 61 = .ok (.iload_n 1, 1) := by decide +kernel
theorem dX9_spill_62 : decode cX9_spill 62 = .ok (.dup2, 1) := by decide +kernel
theorem dX9_spill_63 : decode cX9_spill 63 = .ok (.iaload, 1) := by decide +kernel
theorem dX9_spill_64 : decode cX9_spill 64 = .ok (.iload_n 2, 1) := by decide +kernel
theorem dX9_spill_65 : decode cX9_spill 65 = .ok (.iadd, 1) := by decide +kernel
theorem dX9_spill_66 : decode cX9_spill 66 = .ok (.iastore, 1) := by decide +kernel
theorem dX9_spill_67 : decode cX9_spill 67 = .ok (.aload_n 0, 1) := by decide +kernel
theorem dX9_spill_68 : decode cX9_spill 68 = .ok (.getfield 13, 3) := by decide +kernel
theorem dX9_spill_71 : decode cX9_spill 71 = .ok (.iload_n 1, 1) := by decide +kernel
theorem dX9_spill_72 : decode cX9_spill 72 = .ok (.iaload, 1) := by decide +kernel
theorem dX9_spill_73 : decode cX9_spill 73 = .ok (.ireturn, 1) := by decide +kernel
theorem dX9_skimmer_0 : decode cX9_skimmer 0 = .ok (.aload_n 0, 1) := by decide +kernel
theorem dX9_skimmer_1 : decode cX9_skimmer 1 = .ok (.iload_n 1, 1) := by decide +kernel
theorem dX9_skimmer_2 : decode cX9_skimmer 2 = .ok (.invokevirtual 110, 3) := by decide +kernel
theorem dX9_skimmer_5 : decode cX9_skimmer 5 = .ok (.ifCond .eq 42, 3) := by decide +kernel
theorem dX9_skimmer_8 : decode cX9_skimmer 8 = .ok (.iload_n 2, 1) := by decide +kernel
theorem dX9_skimmer_9 : decode cX9_skimmer 9 = .ok (.iconst 1, 1) := by decide +kernel
theorem dX9_skimmer_10 : decode cX9_skimmer 10 = .ok (.sipush 5000, 3) := by decide +kernel
theorem dX9_skimmer_13 : decode cX9_skimmer 13 = .ok (.invokestatic 93, 3) := by decide +kernel
theorem dX9_skimmer_16 : decode cX9_skimmer 16 = .ok (.ifCond .eq 31, 3) := by decide +kernel
theorem dX9_skimmer_19 : decode cX9_skimmer 19 = .ok (.iload_n 3, 1) := by decide +kernel
theorem dX9_skimmer_20 : decode cX9_skimmer 20 = .ok (.iconst 0, 1) := by decide +kernel
theorem dX9_skimmer_21 : decode cX9_skimmer 21 = .ok (.ldc 121, 2) := by decide +kernel
theorem dX9_skimmer_23 : decode cX9_skimmer 23 = .ok (.invokestatic 93, 3) := by decide +kernel
theorem dX9_skimmer_26 : decode cX9_skimmer 26 = .ok (.ifCond .eq 21, 3) := by decide +kernel
theorem dX9_skimmer_29 : decode cX9_skimmer 29 = .ok (.iload 4, 2) := by decide +kernel
theorem dX9_skimmer_31 : decode cX9_skimmer 31 = .ok (.iconst 1, 1) := by decide +kernel
theorem dX9_skimmer_32 : decode cX9_skimmer 32 = .ok (.iconst 3, 1) := by decide +kernel
theorem dX9_skimmer_33 : decode cX9_skimmer 33 = .ok (.invokestatic 93, 3) := by decide +kernel
theorem dX9_skimmer_36 : decode cX9_skimmer 36 = .ok (.ifCond .eq 11, 3) := by decide +kernel
theorem dX9_skimmer_39 : decode cX9_skimmer 39 = .ok (.aload_n 0, 1) := by decide +kernel
theorem dX9_skimmer_40 : decode cX9_skimmer 40 = .ok (.getfield 101, 3) := by decide +kernel
theorem dX9_skimmer_43 : decode cX9_skimmer 43 = .ok (.iconst 4, 1) := by decide +kernel
theorem dX9_skimmer_44 : decode cX9_skimmer 44 = .ok (.if_icmp .ne 5, 3) := by decide +kernel
theorem dX9_skimmer_47 : decode cX9_skimmer 47 = .ok (.iconst (-1), 1) := by decide +kernel
theorem dX9_skimmer_48 : decode cX9_skimmer 48 = .ok (.ireturn, 1) := by decide +kernel
theorem dX9_skimmer_49 : decode cX9_skimmer 49 = .ok (.aload_n 0, 1) := by decide +kernel
theorem dX9_skimmer_50 : decode cX9_skimmer 50 = .ok (.getfield 39, 3) := by decide +kernel
theorem dX9_skimmer_53 : decode cX9_skimmer 53 = .ok (.aload_n 0, 1) := by decide +kernel
theorem dX9_skimmer_54 : decode cX9_skimmer 54 = .ok (.getfield 101, 3) := by decide +kernel
theorem dX9_skimmer_57 : decode cX9_skimmer 57 = .ok (.iload_n 1, 1) := by decide +kernel
theorem dX9_skimmer_58 : decode cX9_skimmer 58 = .ok (.iastore, 1) := by decide +kernel
theorem dX9_skimmer_59 : decode cX9_skimmer 59 = .ok (.aload_n 0, 1) := by decide +kernel
theorem dX9_skimmer_60 : decode cX9_skimmer 60 = .ok (.getfield 42, 3) := by decide +kernel
theorem dX9_skimmer_63 : decode cX9_skimmer 63 = .ok (.aload_n 0, 1) := by decide +kernel
theorem dX9_skimmer_64 : decode cX9_skimmer 64 = .ok (.getfield 101, 3) := by decide +kernel
theorem dX9_skimmer_67 : decode cX9_skimmer 67 = .ok (.iload_n 2, 1) := by decide +kernel
theorem dX9_skimmer_68 : decode cX9_skimmer 68 = .ok (.iastore, 1) := by decide +kernel
theorem dX9_skimmer_69 : decode cX9_skimmer 69 = .ok (.aload_n 0, 1) := by decide +kernel
theorem dX9_skimmer_70 : decode cX9_skimmer 70 = .ok (.getfield 45, 3) := by decide +kernel
theorem dX9_skimmer_73 : decode cX9_skimmer 73 = .ok (.aload_n 0, 1) := by decide +kernel
theorem dX9_skimmer_74 : decode cX9_skimmer 74 = .ok (.getfield 101, 3) := by decide +kernel
theorem dX9_skimmer_77 : decode cX9_skimmer 77 = .ok (.iload_n 3, 1) := by decide +kernel
theorem dX9_skimmer_78 : decode cX9_skimmer 78 = .ok (.iastore, 1) := by decide +kernel
theorem dX9_skimmer_79 : decode cX9_skimmer 79 = .ok (.aload_n 0, 1) := by decide +kernel
theorem dX9_skimmer_80 : decode cX9_skimmer 80 = .ok (.getfield 48, 3) := by decide +kernel
theorem dX9_skimmer_83 : decode cX9_skimmer 83 = .ok (.aload_n 0, 1) := by decide +kernel
theorem dX9_skimmer_84 : decode cX9_skimmer 84 = .ok (.getfield 101, 3) := by decide +kernel
theorem dX9_skimmer_87 : decode cX9_skimmer 87 = .ok (.iload 4, 2) := by decide +kernel
theorem dX9_skimmer_89 : decode cX9_skimmer 89 = .ok (.iastore, 1) := by decide +kernel
theorem dX9_skimmer_90 : decode cX9_skimmer 90 = .ok (.aload_n 0, 1) := by decide +kernel
theorem dX9_skimmer_91 : decode cX9_skimmer 91 = .ok (.getfield 57, 3) := by decide +kernel
theorem dX9_skimmer_94 : decode cX9_skimmer 94 = .ok (.aload_n 0, 1) := by decide +kernel
theorem dX9_skimmer_95 : decode cX9_skimmer 95 = .ok (.getfield 101, 3) := by decide +kernel
theorem dX9_skimmer_98 : decode cX9_skimmer 98 = .ok (.aload_n 0, 1) := by decide +kernel
theorem dX9_skimmer_99 : decode cX9_skimmer 99 = .ok (.getfield 104, 3) := by decide +kernel
theorem dX9_skimmer_102 : decode cX9_skimmer 102 = .ok (.iastore, 1) := by decide +kernel
theorem dX9_skimmer_103 : decode cX9_skimmer 103 = .ok (.aload_n 0, 1) := by decide +kernel
theorem dX9_skimmer_104 : decode cX9_skimmer 104 = .ok (.dup, 1) := by decide +kernel
theorem dX9_skimmer_105 : decode cX9_skimmer 105 = .ok (.getfield 101, 3) := by decide +kernel
theorem dX9_skimmer_108 : decode cX9_skimmer 108 = .ok (.iconst 1, 1) := by decide +kernel
theorem dX9_skimmer_109 : decode cX9_skimmer 109 = .ok (.iadd, 1) := by decide +kernel
theorem dX9_skimmer_110 : decode cX9_skimmer 110 = .ok (.putfield 101, 3) := by decide +kernel
theorem dX9_skimmer_113 : decode cX9_skimmer 113 = .ok (.aload_n 0, 1) := by decide +kernel
theorem dX9_skimmer_114 : decode cX9_skimmer 114 = .ok (.getfield 101, 3) := by decide +kernel
theorem dX9_skimmer_117 : decode cX9_skimmer 117 = .ok (.iconst 1, 1) := by decide +kernel
theorem dX9_skimmer_118 : decode cX9_skimmer 118 = .ok (.isub, 1) := by decide +kernel
theorem dX9_skimmer_119 : decode cX9_skimmer 119 = .ok (.ireturn, 1) := by decide +kernel
theorem dX9_step_0 : decode cX9_step 0 = .ok (.iload_n 0, 1) := by decide +kernel
theorem dX9_step_1 : decode cX9_step 1 = .ok (.bipush 12, 2) := by decide +kernel
theorem dX9_step_3 : decode cX9_step 3 = .ok (.idiv, 1) := by decide +kernel
theorem dX9_step_4 : decode cX9_step 4 = .ok (.iload_n 1, 1) := by decide +kernel
theorem dX9_step_5 : decode cX9_step 5 = .ok (.iconst 1, 1) := by decide +kernel
theorem dX9_step_6 : decode cX9_step 6 = .ok (.if_icmp .ne 7, 3) := by decide +kernel
theorem dX9_step_9 : decode cX9_step 9 = .ok (.iconst (-1), 1) := by decide +kernel
theorem dX9_step_10 : decode cX9_step 10 = .ok (.goto 13, 3) := by decide +kernel
theorem dX9_step_13 : decode cX9_step 13 = .ok (.iload_n 1, 1) := by decide +kernel
theorem dX9_step_14 : decode cX9_step 14 = .ok (.iconst 3, 1) := by decide +kernel
theorem dX9_step_15 : decode cX9_step 15 = .ok (.if_icmp .ne 7, 3) := by decide +kernel
theorem dX9_step_18 : decode cX9_step 18 = .ok (.iconst 1, 1) := by decide +kernel
theorem dX9_step_19 : decode cX9_step 19 = .ok (.goto 4, 3) := by decide +kernel
theorem dX9_step_22 : decode cX9_step 22 = .ok (.iconst 0, 1) := by decide +kernel
theorem dX9_step_23 : decode cX9_step 23 = .ok (.iadd, 1) := by decide +kernel
theorem dX9_step_24 : decode cX9_step 24 = .ok (.istore_n 2, 1) := by decide +kernel
theorem dX9_step_25 : decode cX9_step 25 = .ok (.iload_n 0, 1) := by decide +kernel
theorem dX9_step_26 : decode cX9_step 26 = .ok (.bipush 12, 2) := by decide +kernel
theorem dX9_step_28 : decode cX9_step 28 = .ok (.irem, 1) := by decide +kernel
theorem dX9_step_29 : decode cX9_step 29 = .ok (.iload_n 1, 1) := by decide +kernel
theorem dX9_step_30 : decode cX9_step 30 = .ok (.iconst 2, 1) := by decide +kernel
theorem dX9_step_31 : decode cX9_step 31 = .ok (.if_icmp .ne 7, 3) := by decide +kernel
theorem dX9_step_34 : decode cX9_step 34 = .ok (.iconst 1, 1) := by decide +kernel
theorem dX9_step_35 : decode cX9_step 35 = .ok (.goto 13, 3) := by decide +kernel
theorem dX9_step_38 : decode cX9_step 38 = .ok (.iload_n 1, 1) := by decide +kernel
theorem dX9_step_39 : decode cX9_step 39 = .ok (.iconst 4, 1) := by decide +kernel
theorem dX9_step_40 : decode cX9_step 40 = .ok (.if_icmp .ne 7, 3) := by decide +kernel
theorem dX9_step_43 : decode cX9_step 43 = .ok (.iconst (-1), 1) := by decide +kernel
theorem dX9_step_44 : decode cX9_step 44 = .ok (.goto 4, 3) := by decide +kernel
theorem dX9_step_47 : decode cX9_step 47 = .ok (.iconst 0, 1) := by decide +kernel
theorem dX9_step_48 : decode cX9_step 48 = .ok (.iadd, 1) := by decide +kernel
theorem dX9_step_49 : decode cX9_step 49 = .ok (.istore_n 3, 1) := by decide +kernel
theorem dX9_step_50 : decode cX9_step 50 = .ok (.iload_n 2, 1) := by decide +kernel
theorem dX9_step_51 : decode cX9_step 51 = .ok (.iconst 0, 1) := by decide +kernel
theorem dX9_step_52 : decode cX9_step 52 = .ok (.bipush 7, 2) := by decide +kernel
theorem dX9_step_54 : decode cX9_step 54 = .ok (.invokestatic 93, 3) := by decide +kernel
theorem dX9_step_57 : decode cX9_step 57 = .ok (.ifCond .eq 22, 3) := by decide +kernel
theorem dX9_step_60 : decode cX9_step 60 = .ok (.iload_n 3, 1) := by decide +kernel
theorem dX9_step_61 : decode cX9_step 61 = .ok (.iconst 0, 1) := by decide +kernel
theorem dX9_step_62 : decode cX9_step 62 = .ok (.bipush 11, 2) := by decide +kernel
theorem dX9_step_64 : decode cX9_step 64 = .ok (.invokestatic 93, 3) := by decide +kernel
theorem dX9_step_67 : decode cX9_step 67 = .ok (.ifCond .eq 12, 3) := by decide +kernel
theorem dX9_step_70 : decode cX9_step 70 = .ok (.bipush 12, 2) := by decide +kernel
theorem dX9_step_72 : decode cX9_step 72 = .ok (.iload_n 2, 1) := by decide +kernel
theorem dX9_step_73 : decode cX9_step 73 = .ok (.imul, 1) := by decide +kernel
theorem dX9_step_74 : decode cX9_step 74 = .ok (.iload_n 3, 1) := by decide +kernel
theorem dX9_step_75 : decode cX9_step 75 = .ok (.iadd, 1) := by decide +kernel
theorem dX9_step_76 : decode cX9_step 76 = .ok (.goto 4, 3) := by decide +kernel
theorem dX9_step_79 : decode cX9_step 79 = .ok (.iconst (-1), 1) := by decide +kernel
theorem dX9_step_80 : decode cX9_step 80 = .ok (.ireturn, 1) := by decide +kernel
theorem dX9_canGo_0 : decode cX9_canGo 0 = .ok (.iload_n 1, 1) := by decide +kernel
theorem dX9_canGo_1 : decode cX9_canGo 1 = .ok (.iload_n 2, 1) := by decide +kernel
theorem dX9_canGo_2 : decode cX9_canGo 2 = .ok (.if_icmp .ne 5, 3) := by decide +kernel
theorem dX9_canGo_5 : decode cX9_canGo 5 = .ok (.iconst 1, 1) := by decide +kernel
theorem dX9_canGo_6 : decode cX9_canGo 6 = .ok (.ireturn, 1) := by decide +kernel
theorem dX9_canGo_7 : decode cX9_canGo 7 = .ok (.iconst 1, 1) := by decide +kernel
theorem dX9_canGo_8 : decode cX9_canGo 8 = .ok (.istore 4, 2) := by decide +kernel
theorem dX9_canGo_10 : decode cX9_canGo 10 = .ok (.iload 4, 2) := by decide +kernel
theorem dX9_canGo_12 : decode cX9_canGo 12 = .ok (.iconst 4, 1) := by decide +kernel
theorem dX9_canGo_13 : decode cX9_canGo 13 = .ok (.if_icmp .gt 65, 3) := by decide +kernel
theorem dX9_canGo_16 : decode cX9_canGo 16 = .ok (.iload_n 3, 1) := by decide +kernel
theorem dX9_canGo_17 : decode cX9_canGo 17 = .ok (.ifCond .le 61, 3) := by decide +kernel
theorem dX9_canGo_20 : decode cX9_canGo 20 = .ok (.iload_n 1, 1) := by decide +kernel
theorem dX9_canGo_21 : decode cX9_canGo 21 = .ok (.iload 4, 2) := by decide +kernel
theorem dX9_canGo_23 : decode cX9_canGo 23 = .ok (.invokestatic 126, 3) := by decide +kernel
theorem dX9_canGo_26 : decode cX9_canGo 26 = .ok (.istore 5, 2) := by decide +kernel
theorem dX9_canGo_28 : decode cX9_canGo 28 = .ok (.iload 5, 2) := by decide +kernel
theorem dX9_canGo_30 : decode cX9_canGo 30 = .ok (.iconst (-1), 1) := by decide +kernel
theorem dX9_canGo_31 : decode cX9_canGo 31 = .ok (.if_icmp .eq 41, 3) := by decide +kernel
theorem dX9_canGo_34 : decode cX9_canGo 34 = .ok (.aload_n 0, 1) := by decide +kernel
theorem dX9_canGo_35 : decode cX9_canGo 35 = .ok (.iload 5, 2) := by decide +kernel
theorem dX9_canGo_37 : decode cX9_canGo 37 = .ok (.invokevirtual 110, 3) := by decide +kernel
theorem dX9_canGo_40 : decode cX9_canGo 40 = .ok (.ifCond .ne 6, 3) := by decide +kernel
theorem dX9_canGo_43 : decode cX9_canGo 43 = .ok (.goto 29, 3) := by decide +kernel
theorem dX9_canGo_46 : decode cX9_canGo 46 = .ok (.iload 5, 2) := by decide +kernel
theorem dX9_canGo_48 : decode cX9_canGo 48 = .ok (.iload_n 2, 1) := by decide +kernel
theorem dX9_canGo_49 : decode cX9_canGo 49 = .ok (.if_icmp .eq 21, 3) := by decide +kernel
theorem dX9_canGo_52 : decode cX9_canGo 52 = .ok (.iload_n 3, 1) := by decide +kernel
theorem dX9_canGo_53 : decode cX9_canGo 53 = .ok (.iconst 1, 1) := by decide +kernel
theorem dX9_canGo_54 : decode cX9_canGo 54 = .ok (.if_icmp .le 18, 3) := by decide +kernel
theorem dX9_canGo_57 : decode cX9_canGo 57 = .ok (.aload_n 0, 1) := by decide +kernel
theorem dX9_canGo_58 : decode cX9_canGo 58 = .ok (.iload 5, 2) := by decide +kernel
theorem dX9_canGo_60 : decode cX9_canGo 60 = .ok (.iload_n 2, 1) := by decide +kernel
theorem dX9_canGo_61 : decode cX9_canGo 61 = .ok (.iload_n 3, 1) := by decide +kernel
theorem dX9_canGo_62 : decode cX9_canGo 62 = .ok (.iconst 1, 1) := by decide +kernel
theorem dX9_canGo_63 : decode cX9_canGo 63 = .ok (.isub, 1) := by decide +kernel
theorem dX9_canGo_64 : decode cX9_canGo 64 = .ok (.invokevirtual 129, 3) := by decide +kernel
theorem dX9_canGo_67 : decode cX9_canGo 67 = .ok (.ifCond .eq 5, 3) := by decide +kernel
theorem dX9_canGo_70 : decode cX9_canGo 70 = .ok (.iconst 1, 1) := by decide +kernel
theorem dX9_canGo_71 : decode cX9_canGo 71 = .ok (.ireturn, 1) := by decide +kernel
theorem dX9_canGo_72 : decode cX9_canGo 72 = .ok (.iinc 4 1, 3) := by decide +kernel
theorem dX9_canGo_75 : decode cX9_canGo 75 = .ok (.goto (-65), 3) := by decide +kernel
theorem dX9_canGo_78 : decode cX9_canGo 78 = .ok (.iconst 0, 1) := by decide +kernel
theorem dX9_canGo_79 : decode cX9_canGo 79 = .ok (.ireturn, 1) := by decide +kernel
theorem dX9_nearBy_0 : decode cX9_nearBy 0 = .ok (.iconst 1, 1) := by decide +kernel
theorem dX9_nearBy_1 : decode cX9_nearBy 1 = .ok (.istore 4, 2) := by decide +kernel
theorem dX9_nearBy_3 : decode cX9_nearBy 3 = .ok (.iload 4, 2) := by decide +kernel
theorem dX9_nearBy_5 : decode cX9_nearBy 5 = .ok (.iconst 4, 1) := by decide +kernel
theorem dX9_nearBy_6 : decode cX9_nearBy 6 = .ok (.if_icmp .gt 76, 3) := by decide +kernel
theorem dX9_nearBy_9 : decode cX9_nearBy 9 = .ok (.iload_n 1, 1) := by decide +kernel
theorem dX9_nearBy_10 : decode cX9_nearBy 10 = .ok (.iload 4, 2) := by decide +kernel
theorem dX9_nearBy_12 : decode cX9_nearBy 12 = .ok (.invokestatic 126, 3) := by decide +kernel
theorem dX9_nearBy_15 : decode cX9_nearBy 15 = .ok (.istore 5, 2) := by decide +kernel
theorem dX9_nearBy_17 : decode cX9_nearBy 17 = .ok (.iload 5, 2) := by decide +kernel
theorem dX9_nearBy_19 : decode cX9_nearBy 19 = .ok (.iconst (-1), 1) := by decide +kernel
theorem dX9_nearBy_20 : decode cX9_nearBy 20 = .ok (.if_icmp .eq 56, 3) := by decide +kernel
theorem dX9_nearBy_23 : decode cX9_nearBy 23 = .ok (.aload_n 0, 1) := by decide +kernel
theorem dX9_nearBy_24 : decode cX9_nearBy 24 = .ok (.iload 5, 2) := by decide +kernel
theorem dX9_nearBy_26 : decode cX9_nearBy 26 = .ok (.invokevirtual 110, 3) := by decide +kernel
theorem dX9_nearBy_29 : decode cX9_nearBy 29 = .ok (.ifCond .ne 6, 3) := by decide +kernel
theorem dX9_nearBy_32 : decode cX9_nearBy 32 = .ok (.goto 44, 3) := by decide +kernel
theorem dX9_nearBy_35 : decode cX9_nearBy 35 = .ok (.iload 5, 2) := by decide +kernel
theorem dX9_nearBy_37 : decode cX9_nearBy 37 = .ok (.iload_n 2, 1) := by decide +kernel
theorem dX9_nearBy_38 : decode cX9_nearBy 38 = .ok (.if_icmp .ne 5, 3) := by decide +kernel
theorem dX9_nearBy_41 : decode cX9_nearBy 41 = .ok (.iconst 1, 1) := by decide +kernel
theorem dX9_nearBy_42 : decode cX9_nearBy 42 = .ok (.ireturn, 1) := by decide +kernel
theorem dX9_nearBy_43 : decode cX9_nearBy 43 = .ok (.iconst 1, 1) := by decide +kernel
theorem dX9_nearBy_44 : decode cX9_nearBy 44 = .ok (.istore 6, 2) := by decide +kernel
theorem dX9_nearBy_46 : decode cX9_nearBy 46 = .ok (.iload 6, 2) := by decide +kernel
theorem dX9_nearBy_48 : decode cX9_nearBy 48 = .ok (.iconst 4, 1) := by decide +kernel
theorem dX9_nearBy_49 : decode cX9_nearBy 49 = .ok (.if_icmp .gt 27, 3) := by decide +kernel
theorem dX9_nearBy_52 : decode cX9_nearBy 52 = .ok (.iload_n 3, 1) := by decide +kernel
theorem dX9_nearBy_53 : decode cX9_nearBy 53 = .ok (.iconst 1, 1) := by decide +kernel
theorem dX9_nearBy_54 : decode cX9_nearBy 54 = .ok (.if_icmp .le 22, 3) := by decide +kernel
theorem dX9_nearBy_57 : decode cX9_nearBy 57 = .ok (.iload 5, 2) := by decide +kernel
theorem dX9_nearBy_59 : decode cX9_nearBy 59 = .ok (.iload 6, 2) := by decide +kernel
theorem dX9_nearBy_61 : decode cX9_nearBy 61 = .ok (.invokestatic 126, 3) := by decide +kernel
theorem dX9_nearBy_64 : decode cX9_nearBy 64 = .ok (.iload_n 2, 1) := by decide +kernel
theorem dX9_nearBy_65 : decode cX9_nearBy 65 = .ok (.if_icmp .ne 5, 3) := by decide +kernel
theorem dX9_nearBy_68 : decode cX9_nearBy 68 = .ok (.iconst 1, 1) := by decide +kernel
theorem dX9_nearBy_69 : decode cX9_nearBy 69 = .ok (.ireturn, 1) := by decide +kernel
theorem dX9_nearBy_70 : decode cX9_nearBy 70 = .ok (.iinc 6 1, 3) := by decide +kernel
theorem dX9_nearBy_73 : decode cX9_nearBy 73 = .ok (.goto (-27), 3) := by decide +kernel
theorem dX9_nearBy_76 : decode cX9_nearBy 76 = .ok (.iinc 4 1, 3) := by decide +kernel
theorem dX9_nearBy_79 : decode cX9_nearBy 79 = .ok (.goto (-76), 3) := by decide +kernel
theorem dX9_nearBy_82 : decode cX9_nearBy 82 = .ok (.iconst 0, 1) := by decide +kernel
theorem dX9_nearBy_83 : decode cX9_nearBy 83 = .ok (.ireturn, 1) := by decide +kernel
theorem dX9_sail_0 : decode cX9_sail 0 = .ok (.aload_n 0, 1) := by decide +kernel
theorem dX9_sail_1 : decode cX9_sail 1 = .ok (.iload_n 1, 1) := by decide +kernel
theorem dX9_sail_2 : decode cX9_sail 2 = .ok (.invokevirtual 132, 3) := by decide +kernel
theorem dX9_sail_5 : decode cX9_sail 5 = .ok (.ifCond .eq 40, 3) := by decide +kernel
theorem dX9_sail_8 : decode cX9_sail 8 = .ok (.aload_n 0, 1) := by decide +kernel
theorem dX9_sail_9 : decode cX9_sail 9 = .ok (.getfield 60, 3) := by decide +kernel
theorem dX9_sail_12 : decode cX9_sail 12 = .ok (.iload_n 1, 1) := by decide +kernel
theorem dX9_sail_13 : decode cX9_sail 13 = .ok (.baload, 1) := by decide +kernel
theorem dX9_sail_14 : decode cX9_sail 14 = .ok (.ifCond .ne 31, 3) := by decide +kernel
theorem dX9_sail_17 : decode cX9_sail 17 = .ok (.aload_n 0, 1) := by decide +kernel
theorem dX9_sail_18 : decode cX9_sail 18 = .ok (.iload_n 2, 1) := by decide +kernel
theorem dX9_sail_19 : decode cX9_sail 19 = .ok (.invokevirtual 110, 3) := by decide +kernel
theorem dX9_sail_22 : decode cX9_sail 22 = .ok (.ifCond .eq 23, 3) := by decide +kernel
theorem dX9_sail_25 : decode cX9_sail 25 = .ok (.aload_n 0, 1) := by decide +kernel
theorem dX9_sail_26 : decode cX9_sail 26 = .ok (.aload_n 0, 1) := by decide +kernel
theorem dX9_sail_27 : decode cX9_sail 27 = .ok (.getfield 39, 3) := by decide +kernel
theorem dX9_sail_30 : decode cX9_sail 30 = .ok (.iload_n 1, 1) := by decide +kernel
theorem dX9_sail_31 : decode cX9_sail 31 = .ok (.iaload, 1) := by decide +kernel
theorem dX9_sail_32 : decode cX9_sail 32 = .ok (.iload_n 2, 1) := by decide +kernel
theorem dX9_sail_33 : decode cX9_sail 33 = .ok (.aload_n 0, 1) := by decide +kernel
theorem dX9_sail_34 : decode cX9_sail 34 = .ok (.getfield 48, 3) := by decide +kernel
theorem dX9_sail_37 : decode cX9_sail 37 = .ok (.iload_n 1, 1) := by decide +kernel
theorem dX9_sail_38 : decode cX9_sail 38 = .ok (.iaload, 1) := by decide +kernel
theorem dX9_sail_39 : decode cX9_sail 39 = .ok (.invokevirtual 135, 3) := by decide +kernel
theorem dX9_sail_42 : decode cX9_sail 42 = .ok (.ifCond .ne 5, 3) := by decide +kernel
theorem dX9_sail_45 : decode cX9_sail 45 = .ok (.iconst 0, 1) := by decide +kernel
theorem dX9_sail_46 : decode cX9_sail 46 = .ok (.ireturn, 1) := by decide +kernel
theorem dX9_sail_47 : decode cX9_sail 47 = .ok (.aload_n 0, 1) := by decide +kernel
theorem dX9_sail_48 : decode cX9_sail 48 = .ok (.getfield 39, 3) := by decide +kernel
theorem dX9_sail_51 : decode cX9_sail 51 = .ok (.iload_n 1, 1) := by decide +kernel
theorem dX9_sail_52 : decode cX9_sail 52 = .ok (.iload_n 2, 1) := by decide +kernel
theorem dX9_sail_53 : decode cX9_sail 53 = .ok (.iastore, 1) := by decide +kernel
theorem dX9_sail_54 : decode cX9_sail 54 = .ok (.aload_n 0, 1) := by decide +kernel
theorem dX9_sail_55 : decode cX9_sail 55 = .ok (.getfield 60, 3) := by decide +kernel
theorem dX9_sail_58 : decode cX9_sail 58 = .ok (.iload_n 1, 1) := by decide +kernel
theorem dX9_sail_59 : decode cX9_sail 59 = .ok (.iconst 1, 1) := by decide +kernel
theorem dX9_sail_60 : decode cX9_sail 60 = .ok (.bastore, 1) := by decide +kernel
theorem dX9_sail_61 : decode cX9_sail 61 = .ok (.iconst 1, 1) := by decide +kernel
theorem dX9_sail_62 : decode cX9_sail 62 = .ok (.ireturn, 1) := by decide +kernel
theorem dX9_empty_0 : decode cX9_empty 0 = .ok (.aload_n 0, 1) := by decide +kernel
theorem dX9_empty_1 : decode cX9_empty 1 = .ok (.iload_n 1, 1) := by decide +kernel
theorem dX9_empty_2 : decode cX9_empty 2 = .ok (.invokevirtual 132, 3) := by decide +kernel
theorem dX9_empty_5 : decode cX9_empty 5 = .ok (.ifCond .ne 5, 3) := by decide +kernel
theorem dX9_empty_8 : decode cX9_empty 8 = .ok (.iconst (-1), 1) := by decide +kernel
theorem dX9_empty_9 : decode cX9_empty 9 = .ok (.ireturn, 1) := by decide +kernel
theorem dX9_empty_10 : decode cX9_empty 10 = .ok (.aload_n 0, 1) := by decide +kernel
theorem dX9_empty_11 : decode cX9_empty 11 = .ok (.getfield 51, 3) := by decide +kernel
theorem dX9_empty_14 : decode cX9_empty 14 = .ok (.iload_n 1, 1) := by decide +kernel
theorem dX9_empty_15 : decode cX9_empty 15 = .ok (.iaload, 1) := by decide +kernel
theorem dX9_empty_16 : decode cX9_empty 16 = .ok (.istore_n 2, 1) := by decide +kernel
theorem dX9_empty_17 : decode cX9_empty 17 = .ok (.aload_n 0, 1) := by decide +kernel
theorem dX9_empty_18 : decode cX9_empty 18 = .ok (.getfield 51, 3) := by decide +kernel
theorem dX9_empty_21 : decode cX9_empty 21 = .ok (.iload_n 1, 1) := by decide +kernel
theorem dX9_empty_22 : decode cX9_empty 22 = .ok (.iconst 0, 1) := by decide +kernel
theorem dX9_empty_23 : decode cX9_empty 23 = .ok (.iastore, 1) := by decide +kernel
theorem dX9_empty_24 : decode cX9_empty 24 = .ok (.iload_n 2, 1) := by decide +kernel
theorem dX9_empty_25 : decode cX9_empty 25 = .ok (.ireturn, 1) := by decide +kernel
theorem dX9_hour_0 : decode cX9_hour 0 = .ok (.aload_n 0, 1) := by decide +kernel
theorem dX9_hour_1 : decode cX9_hour 1 = .ok (.getfield 104, 3) := by decide +kernel
theorem dX9_hour_4 : decode cX9_hour 4 = .ok (.sipush 500, 3) := by decide +kernel
theorem dX9_hour_7 : decode cX9_hour 7 = .ok (.if_icmp .le 7, 3) := by decide +kernel
theorem dX9_hour_10 : decode cX9_hour 10 = .ok (.iconst 0, 1) := by decide +kernel
theorem dX9_hour_11 : decode cX9_hour 11 = .ok (.goto 18, 3) := by decide +kernel
theorem dX9_hour_14 : decode cX9_hour 14 = .ok (.aload_n 0, 1) := by decide +kernel
theorem dX9_hour_15 : decode cX9_hour 15 = .ok (.getfield 16, 3) := by decide +kernel
theorem dX9_hour_18 : decode cX9_hour 18 = .ok (.sipush 501, 3) := by decide +kernel
theorem dX9_hour_21 : decode cX9_hour 21 = .ok (.iload_n 1, 1) := by decide +kernel
theorem dX9_hour_22 : decode cX9_hour 22 = .ok (.imul, 1) := by decide +kernel
theorem dX9_hour_23 : decode cX9_hour 23 = .ok (.aload_n 0, 1) := by decide +kernel
theorem dX9_hour_24 : decode cX9_hour 24 = .ok (.getfield 104, 3) := by decide +kernel
theorem dX9_hour_27 : decode cX9_hour 27 = .ok (.iadd, 1) := by decide +kernel
theorem dX9_hour_28 : decode cX9_hour 28 = .ok (.iaload, 1) := by decide +kernel
theorem dX9_hour_29 : decode cX9_hour 29 = .ok (.istore_n 2, 1) := by decide +kernel
theorem dX9_hour_30 : decode cX9_hour 30 = .ok (.aload_n 0, 1) := by decide +kernel
theorem dX9_hour_31 : decode cX9_hour 31 = .ok (.getfield 104, 3) := by decide +kernel
theorem dX9_hour_34 : decode cX9_hour 34 = .ok (.sipush 500, 3) := by decide +kernel
theorem dX9_hour_37 : decode cX9_hour 37 = .ok (.if_icmp .le 7, 3) := by decide +kernel
theorem dX9_hour_40 : decode cX9_hour 40 = .ok (.iconst 0, 1) := by decide +kernel
theorem dX9_hour_41 : decode cX9_hour 41 = .ok (.goto 18, 3) := by decide +kernel
theorem dX9_hour_44 : decode cX9_hour 44 = .ok (.aload_n 0, 1) := by decide +kernel
theorem dX9_hour_45 : decode cX9_hour 45 = .ok (.getfield 19, 3) := by decide +kernel
theorem dX9_hour_48 : decode cX9_hour 48 = .ok (.sipush 501, 3) := by decide +kernel
theorem dX9_hour_51 : decode cX9_hour 51 = .ok (.iload_n 1, 1) := by decide +kernel
theorem dX9_hour_52 : decode cX9_hour 52 = .ok (.imul, 1) := by decide +kernel
theorem dX9_hour_53 : decode cX9_hour 53 = .ok (.aload_n 0, 1) := by decide +kernel
theorem dX9_hour_54 : decode cX9_hour 54 = .ok (.getfield 104, 3) := by decide +kernel
theorem dX9_hour_57 : decode cX9_hour 57 = .ok (.iadd, 1) := by decide +kernel
theorem dX9_hour_58 : decode cX9_hour 58 = .ok (.iaload, 1) := by decide +kernel
theorem dX9_hour_59 : decode cX9_hour 59 = .ok (.istore_n 3, 1) := by decide +kernel
theorem dX9_hour_60 : decode cX9_hour 60 = .ok (.iconst 0, 1) := by decide +kernel
theorem dX9_hour_61 : decode cX9_hour 61 = .ok (.istore 4, 2) := by decide +kernel
theorem dX9_hour_63 : decode cX9_hour 63 = .ok (.iload 4, 2) := by decide +kernel
theorem dX9_hour_65 : decode cX9_hour 65 = .ok (.bipush 96, 2) := by decide +kernel
theorem dX9_hour_67 : decode cX9_hour 67 = .ok (.if_icmp .ge 17, 3) := by decide +kernel
theorem dX9_hour_70 : decode cX9_hour 70 = .ok (.aload_n 0, 1) := by decide +kernel
theorem dX9_hour_71 : decode cX9_hour 71 = .ok (.getfield 75, 3) := by decide +kernel
theorem dX9_hour_74 : decode cX9_hour 74 = .ok (.iload 4, 2) := by decide +kernel
theorem dX9_hour_76 : decode cX9_hour 76 = .ok (.iconst 0, 1) := by decide +kernel
theorem dX9_hour_77 : decode cX9_hour 77 = .ok (.iastore, 1) := by decide +kernel
theorem dX9_hour_78 : decode cX9_hour 78 = .ok (.iinc 4 1, 3) := by decide +kernel
theorem dX9_hour_81 : decode cX9_hour 81 = .ok (.goto (-18), 3) := by decide +kernel
theorem dX9_hour_84 : decode cX9_hour 84 = .ok (.iconst 0, 1) := by decide +kernel
theorem dX9_hour_85 : decode cX9_hour 85 = .ok (.istore 4, 2) := by decide +kernel
theorem dX9_hour_87 : decode cX9_hour 87 = .ok (.iload 4, 2) := by decide +kernel
theorem dX9_hour_89 : decode cX9_hour 89 = .ok (.bipush 96, 2) := by decide +kernel
theorem dX9_hour_91 : decode cX9_hour 91 = .ok (.if_icmp .ge 135, 3) := by decide +kernel
theorem dX9_hour_94 : decode cX9_hour 94 = .ok (.iload_n 2, 1) := by decide +kernel
theorem dX9_hour_95 : decode cX9_hour 95 = .ok (.ifCond .le 131, 3) := by decide +kernel
theorem dX9_hour_98 : decode cX9_hour 98 = .ok (.aload_n 0, 1) := by decide +kernel
theorem dX9_hour_99 : decode cX9_hour 99 = .ok (.getfield 9, 3) := by decide +kernel
theorem dX9_hour_102 : decode cX9_hour 102 = .ok (.iload 4, 2) := by decide +kernel
theorem dX9_hour_104 : decode cX9_hour 104 = .ok (.iaload, 1) := by decide +kernel
theorem dX9_hour_105 : decode cX9_hour 105 = .ok (.ifCond .le 6, 3) := by decide +kernel
theorem dX9_hour_108 : decode cX9_hour 108 = .ok (.goto 112, 3) := by decide +kernel
theorem dX9_hour_111 : decode cX9_hour 111 = .ok (.aload_n 0, 1) := by decide +kernel
theorem dX9_hour_112 : decode cX9_hour 112 = .ok (.getfield 13, 3) := by decide +kernel
theorem dX9_hour_115 : decode cX9_hour 115 = .ok (.iload 4, 2) := by decide +kernel
theorem dX9_hour_117 : decode cX9_hour 117 = .ok (.iaload, 1) := by decide +kernel
theorem dX9_hour_118 : decode cX9_hour 118 = .ok (.iconst 2, 1) := by decide +kernel
theorem dX9_hour_119 : decode cX9_hour 119 = .ok (.idiv, 1) := by decide +kernel
theorem dX9_hour_120 : decode cX9_hour 120 = .ok (.istore 5, 2) := by decide +kernel
theorem dX9_hour_122 : decode cX9_hour 122 = .ok (.iload 4, 2) := by decide +kernel
theorem dX9_hour_124 : decode cX9_hour 124 = .ok (.iload_n 2, 1) := by decide +kernel
theorem dX9_hour_125 : decode cX9_hour 125 = .ok (.invokestatic 126, 3) := by decide +kernel
theorem dX9_hour_128 : decode cX9_hour 128 = .ok (.istore 6, 2) := by decide +kernel
theorem dX9_hour_130 : decode cX9_hour 130 = .ok (.iload 6, 2) := by decide +kernel
theorem dX9_hour_132 : decode cX9_hour 132 = .ok (.iconst (-1), 1) := by decide +kernel
theorem dX9_hour_133 : decode cX9_hour 133 = .ok (.if_icmp .ne 29, 3) := by decide +kernel
theorem dX9_hour_136 : decode cX9_hour 136 = .ok (.aload_n 0, 1) := by decide +kernel
theorem dX9_hour_137 : decode cX9_hour 137 = .ok (.dup, 1) := by decide +kernel
theorem dX9_hour_138 : decode cX9_hour 138 = .ok (.getfield 138, 3) := by decide +kernel
theorem dX9_hour_141 : decode cX9_hour 141 = .ok (.iload 5, 2) := by decide +kernel
theorem dX9_hour_143 : decode cX9_hour 143 = .ok (.iadd, 1) := by decide +kernel
theorem dX9_hour_144 : decode cX9_hour 144 = .ok (.putfield 138, 3) := by decide +kernel
theorem dX9_hour_147 : decode cX9_hour 147 = .ok (.aload_n 0, 1) := by decide +kernel
theorem dX9_hour_148 : decode cX9_hour 148 = .ok (.getfield 75, 3) := by decide +kernel
theorem dX9_hour_151 : decode cX9_hour 151 = .ok (.iload 4, 2) := by decide +kernel
theorem dX9_hour_153 : decode cX9_hour 153 = .ok (.dup2, 1) := by decide +kernel
theorem dX9_hour_154 : decode cX9_hour 154 = .ok (.iaload, 1) := by decide +kernel
theorem dX9_hour_155 : decode cX9_hour 155 = .ok (.iload 5, 2) := by decide +kernel
theorem dX9_hour_157 : decode cX9_hour 157 = .ok (.isub, 1) := by decide +kernel
theorem dX9_hour_158 : decode cX9_hour 158 = .ok (.iastore, 1) := by decide +kernel
theorem dX9_hour_159 : decode cX9_hour 159 = .ok (.goto 61, 3) := by decide +kernel
theorem dX9_hour_162 : decode cX9_hour 162 = .ok (.aload_n 0, 1) := by decide +kernel
theorem dX9_hour_163 : decode cX9_hour 163 = .ok (.iload 4, 2) := by decide +kernel
theorem dX9_hour_165 : decode cX9_hour 165 = .ok (.iload 6, 2) := by decide +kernel
theorem dX9_hour_167 : decode cX9_hour 167 = .ok (.invokevirtual 117, 3) := by decide +kernel
theorem dX9_hour_170 : decode cX9_hour 170 = .ok (.istore 7, 2) := by decide +kernel
theorem dX9_hour_172 : decode cX9_hour 172 = .ok (.iload 7, 2) := by decide +kernel
theorem dX9_hour_174 : decode cX9_hour 174 = .ok (.iconst (-1), 1) := by decide +kernel
theorem dX9_hour_175 : decode cX9_hour 175 = .ok (.if_icmp .eq 21, 3) := by decide +kernel
theorem dX9_hour_178 : decode cX9_hour 178 = .ok (.iload_n 3, 1) := by decide +kernel
theorem dX9_hour_179 : decode cX9_hour 179 = .ok (.aload_n 0, 1) := by decide +kernel
theorem dX9_hour_180 : decode cX9_hour 180 = .ok (.getfield 32, 3) := by decide +kernel
theorem dX9_hour_183 : decode cX9_hour 183 = .ok (.iload 7, 2) := by decide +kernel
theorem dX9_hour_185 : decode cX9_hour 185 = .ok (.iaload, 1) := by decide +kernel
theorem dX9_hour_186 : decode cX9_hour 186 = .ok (.if_icmp .gt 10, 3) := by decide +kernel
theorem dX9_hour_189 : decode cX9_hour 189 = .ok (.iload 5, 2) := by decide +kernel
theorem dX9_hour_191 : decode cX9_hour 191 = .ok (.bipush 10, 2) := by decide +kernel
theorem dX9_hour_193 : decode cX9_hour 193 = .ok (.idiv, 1) := by decide +kernel
theorem dX9_hour_194 : decode cX9_hour 194 = .ok (.istore 5, 2) := by decide +kernel
theorem dX9_hour_196 : decode cX9_hour 196 = .ok (.aload_n 0, 1) := by decide +kernel
theorem dX9_hour_197 : decode cX9_hour 197 = .ok (.getfield 75, 3) := by decide +kernel
theorem dX9_hour_200 : decode cX9_hour 200 = .ok (.iload 4, 2) := by decide +kernel
theorem dX9_hour_202 : decode cX9_hour 202 = .ok (.dup2, 1) := by decide +kernel
theorem dX9_hour_203 : decode cX9_hour 203 = .ok (.iaload, 1) := by decide +kernel
theorem dX9_hour_204 : decode cX9_hour 204 = .ok (.iload 5, 2) := by decide +kernel
theorem dX9_hour_206 : decode cX9_hour 206 = .ok (.isub, 1) := by decide +kernel
theorem dX9_hour_207 : decode cX9_hour 207 = .ok (.iastore, 1) := by decide +kernel
theorem dX9_hour_208 : decode cX9_hour 208 = .ok (.aload_n 0, 1) := by decide +kernel
theorem dX9_hour_209 : decode cX9_hour 209 = .ok (.getfield 75, 3) := by decide +kernel
theorem dX9_hour_212 : decode cX9_hour 212 = .ok (.iload 6, 2) := by decide +kernel
theorem dX9_hour_214 : decode cX9_hour 214 = .ok (.dup2, 1) := by decide +kernel
theorem dX9_hour_215 : decode cX9_hour 215 = .ok (.iaload, 1) := by decide +kernel
theorem dX9_hour_216 : decode cX9_hour 216 = .ok (.iload 5, 2) := by decide +kernel
theorem dX9_hour_218 : decode cX9_hour 218 = .ok (.iadd, 1) := by decide +kernel
theorem dX9_hour_219 : decode cX9_hour 219 = .ok (.iastore, 1) := by decide +kernel
theorem dX9_hour_220 : decode cX9_hour 220 = .ok (.iinc 4 1, 3) := by decide +kernel
theorem dX9_hour_223 : decode cX9_hour 223 = .ok (.goto (-136), 3) := by decide +kernel
theorem dX9_hour_226 : decode cX9_hour 226 = .ok (.aload_n 0, 1) := by decide +kernel
theorem dX9_hour_227 : decode cX9_hour 227 = .ok (.getfield 104, 3) := by decide +kernel
theorem dX9_hour_230 : decode cX9_hour 230 = .ok (.aload_n 0, 1) := by decide +kernel
theorem dX9_hour_231 : decode cX9_hour 231 = .ok (.getfield 35, 3) := by decide +kernel
theorem dX9_hour_234 : decode cX9_hour 234 = .ok (.isub, 1) := by decide +kernel
theorem dX9_hour_235 : decode cX9_hour 235 = .ok (.istore 4, 2) := by decide +kernel
theorem dX9_hour_237 : decode cX9_hour 237 = .ok (.iload 4, 2) := by decide +kernel
theorem dX9_hour_239 : decode cX9_hour 239 = .ok (.bipush 12, 2) := by decide +kernel
theorem dX9_hour_241 : decode cX9_hour 241 = .ok (.if_icmp .ge 8, 3) := by decide +kernel
theorem dX9_hour_244 : decode cX9_hour 244 = .ok (.bipush 30, 2) := by decide +kernel
theorem dX9_hour_246 : decode cX9_hour 246 = .ok (.goto 16, 3) := by decide +kernel
theorem dX9_hour_249 : decode cX9_hour 249 = .ok (.iload 4, 2) := by decide +kernel
theorem dX9_hour_251 : decode cX9_hour 251 = .ok (.bipush 48, 2) := by decide +kernel
theorem dX9_hour_253 : decode cX9_hour 253 = .ok (.if_icmp .ge 8, 3) := by decide +kernel
theorem dX9_hour_256 : decode cX9_hour 256 = .ok (.bipush 10, 2) := by decide +kernel
theorem dX9_hour_258 : decode cX9_hour 258 = .ok (.goto 4, 3) := by decide +kernel
theorem dX9_hour_261 : decode cX9_hour 261 = .ok (.iconst 2, 1) := by decide +kernel
theorem dX9_hour_262 : decode cX9_hour 262 = .ok (.istore 5, 2) := by decide +kernel
theorem dX9_hour_264 : decode cX9_hour 264 = .ok (.iconst 0, 1) := by decide +kernel
theorem dX9_hour_265 : decode cX9_hour 265 = .ok (.istore 6, 2) := by decide +kernel
theorem dX9_hour_267 : decode cX9_hour 267 = .ok (.iload 6, 2) := by decide +kernel
theorem dX9_hour_269 : decode cX9_hour 269 = .ok (.bipush 96, 2) := by decide +kernel
theorem dX9_hour_271 : decode cX9_hour 271 = .ok (.if_icmp .ge 81, 3) := by decide +kernel
theorem dX9_hour_274 : decode cX9_hour 274 = .ok (.aload_n 0, 1) := by decide +kernel
theorem dX9_hour_275 : decode cX9_hour 275 = .ok (.getfield 13, 3) := by decide +kernel
theorem dX9_hour_278 : decode cX9_hour 278 = .ok (.iload 6, 2) := by decide +kernel
theorem dX9_hour_280 : decode cX9_hour 280 = .ok (.dup2, 1) := by decide +kernel
theorem dX9_hour_281 : decode cX9_hour 281 = .ok (.iaload, 1) := by decide +kernel
theorem dX9_hour_282 : decode cX9_hour 282 = .ok (.aload_n 0, 1) := by decide +kernel
theorem dX9_hour_283 : decode cX9_hour 283 = .ok (.getfield 75, 3) := by decide +kernel
theorem dX9_hour_286 : decode cX9_hour 286 = .ok (.iload 6, 2) := by decide +kernel
theorem dX9_hour_288 : decode cX9_hour 288 = .ok (.iaload, 1) := by decide +kernel
theorem dX9_hour_289 : decode cX9_hour 289 = .ok (.iadd, 1) := by decide +kernel
theorem dX9_hour_290 : decode cX9_hour 290 = .ok (.iastore, 1) := by decide +kernel
theorem dX9_hour_291 : decode cX9_hour 291 = .ok (.aload_n 0, 1) := by decide +kernel
theorem dX9_hour_292 : decode cX9_hour 292 = .ok (.getfield 9, 3) := by decide +kernel
theorem dX9_hour_295 : decode cX9_hour 295 = .ok (.iload 6, 2) := by decide +kernel
theorem dX9_hour_297 : decode cX9_hour 297 = .ok (.iaload, 1) := by decide +kernel
theorem dX9_hour_298 : decode cX9_hour 298 = .ok (.ifCond .le 6, 3) := by decide +kernel
theorem dX9_hour_301 : decode cX9_hour 301 = .ok (.goto 45, 3) := by decide +kernel
theorem dX9_hour_304 : decode cX9_hour 304 = .ok (.aload_n 0, 1) := by decide +kernel
theorem dX9_hour_305 : decode cX9_hour 305 = .ok (.getfield 13, 3) := by decide +kernel
theorem dX9_hour_308 : decode cX9_hour 308 = .ok (.iload 6, 2) := by decide +kernel
theorem dX9_hour_310 : decode cX9_hour 310 = .ok (.iaload, 1) := by decide +kernel
theorem dX9_hour_311 : decode cX9_hour 311 = .ok (.i2l, 1) := by decide +kernel
theorem dX9_hour_312 : decode cX9_hour 312 = .ok (.iload 5, 2) := by decide +kernel
theorem dX9_hour_314 : decode cX9_hour 314 = .ok (.i2l, 1) := by decide +kernel
theorem dX9_hour_315 : decode cX9_hour 315 = .ok (.lmul, 1) := by decide +kernel
theorem dX9_hour_316 : decode cX9_hour 316 = .ok (.ldc2_w 141, 3) := by decide +kernel
theorem dX9_hour_319 : decode cX9_hour 319 = .ok (.ldiv, 1) := by decide +kernel
theorem dX9_hour_320 : decode cX9_hour 320 = .ok (.l2i, 1) := by decide +kernel
theorem dX9_hour_321 : decode cX9_hour 321 = .ok (.istore 7, 2) := by decide +kernel
theorem dX9_hour_323 : decode cX9_hour 323 = .ok (.aload_n 0, 1) := by decide +kernel
theorem dX9_hour_324 : decode cX9_hour 324 = .ok (.getfield 13, 3) := by decide +kernel
theorem dX9_hour_327 : decode cX9_hour 327 = .ok (.iload 6, 2) := by decide +kernel
theorem dX9_hour_329 : decode cX9_hour 329 = .ok (.dup2, 1) := by decide +kernel
theorem dX9_hour_330 : decode cX9_hour 330 = .ok (.iaload, 1) := by decide +kernel
theorem dX9_hour_331 : decode cX9_hour 331 = .ok (.iload 7, 2) := by decide +kernel
theorem dX9_hour_333 : decode cX9_hour 333 = .ok (.isub, 1) := by decide +kernel
theorem dX9_hour_334 : decode cX9_hour 334 = .ok (.iastore, 1) := by decide +kernel
theorem dX9_hour_335 : decode cX9_hour 335 = .ok (.aload_n 0, 1) := by decide +kernel
theorem dX9_hour_336 : decode cX9_hour 336 = .ok (.dup, 1) := by decide +kernel
theorem dX9_hour_337 : decode cX9_hour 337 = .ok (.getfield 143, 3) := by decide +kernel
theorem dX9_hour_340 : decode cX9_hour 340 = .ok (.iload 7, 2) := by decide +kernel
theorem dX9_hour_342 : decode cX9_hour 342 = .ok (.iadd, 1) := by decide +kernel
theorem dX9_hour_343 : decode cX9_hour 343 = .ok (.putfield 143, 3) := by decide +kernel
theorem dX9_hour_346 : decode cX9_hour 346 = .ok (.iinc 6 1, 3) := by decide +kernel
theorem dX9_hour_349 : decode cX9_hour 349 = .ok (.goto (-82), 3) := by decide +kernel
theorem dX9_hour_352 : decode cX9_hour 352 = .ok (.iconst 0, 1) := by decide +kernel
theorem dX9_hour_353 : decode cX9_hour 353 = .ok (.istore 6, 2) := by decide +kernel
theorem dX9_hour_355 : decode cX9_hour 355 = .ok (.iload 6, 2) := by decide +kernel
theorem dX9_hour_357 : decode cX9_hour 357 = .ok (.aload_n 0, 1) := by decide +kernel
theorem dX9_hour_358 : decode cX9_hour 358 = .ok (.getfield 101, 3) := by decide +kernel
theorem dX9_hour_361 : decode cX9_hour 361 = .ok (.if_icmp .ge 149, 3) := by decide +kernel
theorem dX9_hour_364 : decode cX9_hour 364 = .ok (.aload_n 0, 1) := by decide +kernel
theorem dX9_hour_365 : decode cX9_hour 365 = .ok (.getfield 13, 3) := by decide +kernel
theorem dX9_hour_368 : decode cX9_hour 368 = .ok (.aload_n 0, 1) := by decide +kernel
theorem dX9_hour_369 : decode cX9_hour 369 = .ok (.getfield 39, 3) := by decide +kernel
theorem dX9_hour_372 : decode cX9_hour 372 = .ok (.iload 6, 2) := by decide +kernel
theorem dX9_hour_374 : decode cX9_hour 374 = .ok (.iaload, 1) := by decide +kernel
theorem dX9_hour_375 : decode cX9_hour 375 = .ok (.iaload, 1) := by decide +kernel
theorem dX9_hour_376 : decode cX9_hour 376 = .ok (.aload_n 0, 1) := by decide +kernel
theorem dX9_hour_377 : decode cX9_hour 377 = .ok (.getfield 42, 3) := by decide +kernel
theorem dX9_hour_380 : decode cX9_hour 380 = .ok (.iload 6, 2) := by decide +kernel
theorem dX9_hour_382 : decode cX9_hour 382 = .ok (.iaload, 1) := by decide +kernel
theorem dX9_hour_383 : decode cX9_hour 383 = .ok (.if_icmp .ge 18, 3) := by decide +kernel
theorem dX9_hour_386 : decode cX9_hour 386 = .ok (.aload_n 0, 1) := by decide +kernel
theorem dX9_hour_387 : decode cX9_hour 387 = .ok (.getfield 13, 3) := by decide +kernel
theorem dX9_hour_390 : decode cX9_hour 390 = .ok (.aload_n 0, 1) := by decide +kernel
theorem dX9_hour_391 : decode cX9_hour 391 = .ok (.getfield 39, 3) := by decide +kernel
theorem dX9_hour_394 : decode cX9_hour 394 = .ok (.iload 6, 2) := by decide +kernel
theorem dX9_hour_396 : decode cX9_hour 396 = .ok (.iaload, 1) := by decide +kernel
theorem dX9_hour_397 : decode cX9_hour 397 = .ok (.iaload, 1) := by decide +kernel
theorem dX9_hour_398 : decode cX9_hour 398 = .ok (.goto 10, 3) := by decide +kernel
theorem dX9_hour_401 : decode cX9_hour 401 = .ok (.aload_n 0, 1) := by decide +kernel
theorem dX9_hour_402 : decode cX9_hour 402 = .ok (.getfield 42, 3) := by decide +kernel
theorem dX9_hour_405 : decode cX9_hour 405 = .ok (.iload 6, 2) := by decide +kernel
theorem dX9_hour_407 : decode cX9_hour 407 = .ok (.iaload, 1) := by decide +kernel
theorem dX9_hour_408 : decode cX9_hour 408 = .ok (.istore 7, 2) := by decide +kernel
theorem dX9_hour_410 : decode cX9_hour 410 = .ok (.iload 7, 2) := by decide +kernel
theorem dX9_hour_412 : decode cX9_hour 412 = .ok (.aload_n 0, 1) := by decide +kernel
theorem dX9_hour_413 : decode cX9_hour 413 = .ok (.getfield 45, 3) := by decide +kernel
theorem dX9_hour_416 : decode cX9_hour 416 = .ok (.iload 6, 2) := by decide +kernel
theorem dX9_hour_418 : decode cX9_hour 418 = .ok (.iaload, 1) := by decide +kernel
theorem dX9_hour_419 : decode cX9_hour 419 = .ok (.aload_n 0, 1) := by decide +kernel
theorem dX9_hour_420 : decode cX9_hour 420 = .ok (.getfield 51, 3) := by decide +kernel
theorem dX9_hour_423 : decode cX9_hour 423 = .ok (.iload 6, 2) := by decide +kernel
theorem dX9_hour_425 : decode cX9_hour 425 = .ok (.iaload, 1) := by decide +kernel
theorem dX9_hour_426 : decode cX9_hour 426 = .ok (.isub, 1) := by decide +kernel
theorem dX9_hour_427 : decode cX9_hour 427 = .ok (.if_icmp .ge 8, 3) := by decide +kernel
theorem dX9_hour_430 : decode cX9_hour 430 = .ok (.iload 7, 2) := by decide +kernel
theorem dX9_hour_432 : decode cX9_hour 432 = .ok (.goto 18, 3) := by decide +kernel
theorem dX9_hour_435 : decode cX9_hour 435 = .ok (.aload_n 0, 1) := by decide +kernel
theorem dX9_hour_436 : decode cX9_hour 436 = .ok (.getfield 45, 3) := by decide +kernel
theorem dX9_hour_439 : decode cX9_hour 439 = .ok (.iload 6, 2) := by decide +kernel
theorem dX9_hour_441 : decode cX9_hour 441 = .ok (.iaload, 1) := by decide +kernel
theorem dX9_hour_442 : decode cX9_hour 442 = .ok (.aload_n 0, 1) := by decide +kernel
theorem dX9_hour_443 : decode cX9_hour 443 = .ok (.getfield 51, 3) := by decide +kernel
theorem dX9_hour_446 : decode cX9_hour 446 = .ok (.iload 6, 2) := by decide +kernel
theorem dX9_hour_448 : decode cX9_hour 448 = .ok (.iaload, 1) := by decide +kernel
theorem dX9_hour_449 : decode cX9_hour 449 = .ok (.isub, 1) := by decide +kernel
theorem dX9_hour_450 : decode cX9_hour 450 = .ok (.istore 7, 2) := by decide +kernel
theorem dX9_hour_452 : decode cX9_hour 452 = .ok (.aload_n 0, 1) := by decide +kernel
theorem dX9_hour_453 : decode cX9_hour 453 = .ok (.getfield 13, 3) := by decide +kernel
theorem dX9_hour_456 : decode cX9_hour 456 = .ok (.aload_n 0, 1) := by decide +kernel
theorem dX9_hour_457 : decode cX9_hour 457 = .ok (.getfield 39, 3) := by decide +kernel
theorem dX9_hour_460 : decode cX9_hour 460 = .ok (.iload 6, 2) := by decide +kernel
theorem dX9_hour_462 : decode cX9_hour 462 = .ok (.iaload, 1) := by decide +kernel
theorem dX9_hour_463 : decode cX9_hour 463 = .ok (.dup2, 1) := by decide +kernel
theorem dX9_hour_464 : decode cX9_hour 464 = .ok (.iaload, 1) := by decide +kernel
theorem dX9_hour_465 : decode cX9_hour 465 = .ok (.iload 7, 2) := by decide +kernel
theorem dX9_hour_467 : decode cX9_hour 467 = .ok (.isub, 1) := by decide +kernel
theorem dX9_hour_468 : decode cX9_hour 468 = .ok (.iastore, 1) := by decide +kernel
theorem dX9_hour_469 : decode cX9_hour 469 = .ok (.aload_n 0, 1) := by decide +kernel
theorem dX9_hour_470 : decode cX9_hour 470 = .ok (.getfield 51, 3) := by decide +kernel
theorem dX9_hour_473 : decode cX9_hour 473 = .ok (.iload 6, 2) := by decide +kernel
theorem dX9_hour_475 : decode cX9_hour 475 = .ok (.dup2, 1) := by decide +kernel
theorem dX9_hour_476 : decode cX9_hour 476 = .ok (.iaload, 1) := by decide +kernel
theorem dX9_hour_477 : decode cX9_hour 477 = .ok (.iload 7, 2) := by decide +kernel
theorem dX9_hour_479 : decode cX9_hour 479 = .ok (.iadd, 1) := by decide +kernel
theorem dX9_hour_480 : decode cX9_hour 480 = .ok (.iastore, 1) := by decide +kernel
theorem dX9_hour_481 : decode cX9_hour 481 = .ok (.aload_n 0, 1) := by decide +kernel
theorem dX9_hour_482 : decode cX9_hour 482 = .ok (.getfield 54, 3) := by decide +kernel
theorem dX9_hour_485 : decode cX9_hour 485 = .ok (.iload 6, 2) := by decide +kernel
theorem dX9_hour_487 : decode cX9_hour 487 = .ok (.dup2, 1) := by decide +kernel
theorem dX9_hour_488 : decode cX9_hour 488 = .ok (.iaload, 1) := by decide +kernel
theorem dX9_hour_489 : decode cX9_hour 489 = .ok (.iload 7, 2) := by decide +kernel
theorem dX9_hour_491 : decode cX9_hour 491 = .ok (.iadd, 1) := by decide +kernel
theorem dX9_hour_492 : decode cX9_hour 492 = .ok (.iastore, 1) := by decide +kernel
theorem dX9_hour_493 : decode cX9_hour 493 = .ok (.aload_n 0, 1) := by decide +kernel
theorem dX9_hour_494 : decode cX9_hour 494 = .ok (.dup, 1) := by decide +kernel
theorem dX9_hour_495 : decode cX9_hour 495 = .ok (.getfield 146, 3) := by decide +kernel
theorem dX9_hour_498 : decode cX9_hour 498 = .ok (.iload 7, 2) := by decide +kernel
theorem dX9_hour_500 : decode cX9_hour 500 = .ok (.iadd, 1) := by decide +kernel
theorem dX9_hour_501 : decode cX9_hour 501 = .ok (.putfield 146, 3) := by decide +kernel
theorem dX9_hour_504 : decode cX9_hour 504 = .ok (.iinc 6 1, 3) := by decide +kernel
theorem dX9_hour_507 : decode cX9_hour 507 = .ok (.goto (-152), 3) := by decide +kernel
theorem dX9_hour_510 : decode cX9_hour 510 = .ok (.aload_n 0, 1) := by decide +kernel
theorem dX9_hour_511 : decode cX9_hour 511 = .ok (.dup, 1) := by decide +kernel
theorem dX9_hour_512 : decode cX9_hour 512 = .ok (.getfield 104, 3) := by decide +kernel
theorem dX9_hour_515 : decode cX9_hour 515 = .ok (.iconst 1, 1) := by decide +kernel
theorem dX9_hour_516 : decode cX9_hour 516 = .ok (.iadd, 1) := by decide +kernel
theorem dX9_hour_517 : decode cX9_hour 517 = .ok (.putfield 104, 3) := by decide +kernel
theorem dX9_hour_520 : decode cX9_hour 520 = .ok (.return_, 1) := by decide +kernel
theorem dX9_go_0 : decode cX9_go 0 = .ok (.iload_n 1, 1) := by decide +kernel
theorem dX9_go_1 : decode cX9_go 1 = .ok (.iconst 0, 1) := by decide +kernel
theorem dX9_go_2 : decode cX9_go 2 = .ok (.bipush 48, 2) := by decide +kernel
theorem dX9_go_4 : decode cX9_go 4 = .ok (.invokestatic 93, 3) := by decide +kernel
theorem dX9_go_7 : decode cX9_go 7 = .ok (.ifCond .ne 5, 3) := by decide +kernel
theorem dX9_go_10 : decode cX9_go 10 = .ok (.iconst (-1), 1) := by decide +kernel
theorem dX9_go_11 : decode cX9_go 11 = .ok (.ireturn, 1) := by decide +kernel
theorem dX9_go_12 : decode cX9_go 12 = .ok (.iconst 0, 1) := by decide +kernel
theorem dX9_go_13 : decode cX9_go 13 = .ok (.istore_n 2, 1) := by decide +kernel
theorem dX9_go_14 : decode cX9_go 14 = .ok (.iload_n 2, 1) := by decide +kernel
theorem dX9_go_15 : decode cX9_go 15 = .ok (.iload_n 1, 1) := by decide +kernel
theorem dX9_go_16 : decode cX9_go 16 = .ok (.if_icmp .ge 47, 3) := by decide +kernel
theorem dX9_go_19 : decode cX9_go 19 = .ok (.aload_n 0, 1) := by decide +kernel
theorem dX9_go_20 : decode cX9_go 20 = .ok (.getfield 104, 3) := by decide +kernel
theorem dX9_go_23 : decode cX9_go 23 = .ok (.sipush 500, 3) := by decide +kernel
theorem dX9_go_26 : decode cX9_go 26 = .ok (.if_icmp .ge 37, 3) := by decide +kernel
theorem dX9_go_29 : decode cX9_go 29 = .ok (.aload_n 0, 1) := by decide +kernel
theorem dX9_go_30 : decode cX9_go 30 = .ok (.iconst 0, 1) := by decide +kernel
theorem dX9_go_31 : decode cX9_go 31 = .ok (.invokevirtual 149, 3) := by decide +kernel
theorem dX9_go_34 : decode cX9_go 34 = .ok (.iconst 0, 1) := by decide +kernel
theorem dX9_go_35 : decode cX9_go 35 = .ok (.istore_n 3, 1) := by decide +kernel
theorem dX9_go_36 : decode cX9_go 36 = .ok (.iload_n 3, 1) := by decide +kernel
theorem dX9_go_37 : decode cX9_go 37 = .ok (.aload_n 0, 1) := by decide +kernel
theorem dX9_go_38 : decode cX9_go 38 = .ok (.getfield 101, 3) := by decide +kernel
theorem dX9_go_41 : decode cX9_go 41 = .ok (.if_icmp .ge 16, 3) := by decide +kernel
theorem dX9_go_44 : decode cX9_go 44 = .ok (.aload_n 0, 1) := by decide +kernel
theorem dX9_go_45 : decode cX9_go 45 = .ok (.getfield 60, 3) := by decide +kernel
theorem dX9_go_48 : decode cX9_go 48 = .ok (.iload_n 3, 1) := by decide +kernel
theorem dX9_go_49 : decode cX9_go 49 = .ok (.iconst 0, 1) := by decide +kernel
theorem dX9_go_50 : decode cX9_go 50 = .ok (.bastore, 1) := by decide +kernel
theorem dX9_go_51 : decode cX9_go 51 = .ok (.iinc 3 1, 3) := by decide +kernel
theorem dX9_go_54 : decode cX9_go 54 = .ok (.goto (-18), 3) := by decide +kernel
theorem dX9_go_57 : decode cX9_go 57 = .ok (.iinc 2 1, 3) := by decide +kernel
theorem dX9_go_60 : decode cX9_go 60 = .ok (.goto (-46), 3) := by decide +kernel
theorem dX9_go_63 : decode cX9_go 63 = .ok (.aload_n 0, 1) := by decide +kernel
theorem dX9_go_64 : decode cX9_go 64 = .ok (.getfield 104, 3) := by decide +kernel
theorem dX9_go_67 : decode cX9_go 67 = .ok (.ireturn, 1) := by decide +kernel
theorem dX9_harm_0 : decode cX9_harm 0 = .ok (.iconst 0, 1) := by decide +kernel
theorem dX9_harm_1 : decode cX9_harm 1 = .ok (.istore_n 1, 1) := by decide +kernel
theorem dX9_harm_2 : decode cX9_harm 2 = .ok (.iconst 0, 1) := by decide +kernel
theorem dX9_harm_3 : decode cX9_harm 3 = .ok (.istore_n 2, 1) := by decide +kernel
theorem dX9_harm_4 : decode cX9_harm 4 = .ok (.iload_n 2, 1) := by decide +kernel
theorem dX9_harm_5 : decode cX9_harm 5 = .ok (.bipush 96, 2) := by decide +kernel
theorem dX9_harm_7 : decode cX9_harm 7 = .ok (.if_icmp .ge 25, 3) := by decide +kernel
theorem dX9_harm_10 : decode cX9_harm 10 = .ok (.iload_n 1, 1) := by decide +kernel
theorem dX9_harm_11 : decode cX9_harm 11 = .ok (.aload_n 0, 1) := by decide +kernel
theorem dX9_harm_12 : decode cX9_harm 12 = .ok (.getfield 13, 3) := by decide +kernel
theorem dX9_harm_15 : decode cX9_harm 15 = .ok (.iload_n 2, 1) := by decide +kernel
theorem dX9_harm_16 : decode cX9_harm 16 = .ok (.iaload, 1) := by decide +kernel
theorem dX9_harm_17 : decode cX9_harm 17 = .ok (.aload_n 0, 1) := by decide +kernel
theorem dX9_harm_18 : decode cX9_harm 18 = .ok (.getfield 9, 3) := by decide +kernel
theorem dX9_harm_21 : decode cX9_harm 21 = .ok (.iload_n 2, 1) := by decide +kernel
theorem dX9_harm_22 : decode cX9_harm 22 = .ok (.iaload, 1) := by decide +kernel
theorem dX9_harm_23 : decode cX9_harm 23 = .ok (.imul, 1) := by decide +kernel
theorem dX9_harm_24 : decode cX9_harm 24 = .ok (.iadd, 1) := by decide +kernel
theorem dX9_harm_25 : decode cX9_harm 25 = .ok (.istore_n 1, 1) := by decide +kernel
theorem dX9_harm_26 : decode cX9_harm 26 = .ok (.iinc 2 1, 3) := by decide +kernel
theorem dX9_harm_29 : decode cX9_harm 29 = .ok (.goto (-25), 3) := by decide +kernel
theorem dX9_harm_32 : decode cX9_harm 32 = .ok (.iload_n 1, 1) := by decide +kernel
theorem dX9_harm_33 : decode cX9_harm 33 = .ok (.sipush 1000, 3) := by decide +kernel
theorem dX9_harm_36 : decode cX9_harm 36 = .ok (.idiv, 1) := by decide +kernel
theorem dX9_harm_37 : decode cX9_harm 37 = .ok (.ireturn, 1) := by decide +kernel
theorem dX9_keeps_0 : decode cX9_keeps 0 = .ok (.bipush 112, 2) := by decide +kernel
theorem dX9_keeps_2 : decode cX9_keeps 2 = .ok (.iload_n 1, 1) := by decide +kernel
theorem dX9_keeps_3 : decode cX9_keeps 3 = .ok (.imul, 1) := by decide +kernel
theorem dX9_keeps_4 : decode cX9_keeps 4 = .ok (.istore_n 2, 1) := by decide +kernel
theorem dX9_keeps_5 : decode cX9_keeps 5 = .ok (.iconst 0, 1) := by decide +kernel
theorem dX9_keeps_6 : decode cX9_keeps 6 = .ok (.istore_n 3, 1) := by decide +kernel
theorem dX9_keeps_7 : decode cX9_keeps 7 = .ok (.iload_n 3, 1) := by decide +kernel
theorem dX9_keeps_8 : decode cX9_keeps 8 = .ok (.bipush 96, 2) := by decide +kernel
theorem dX9_keeps_10 : decode cX9_keeps 10 = .ok (.if_icmp .ge 23, 3) := by decide +kernel
theorem dX9_keeps_13 : decode cX9_keeps 13 = .ok (.aload_n 0, 1) := by decide +kernel
theorem dX9_keeps_14 : decode cX9_keeps 14 = .ok (.getfield 78, 3) := by decide +kernel
theorem dX9_keeps_17 : decode cX9_keeps 17 = .ok (.iload_n 2, 1) := by decide +kernel
theorem dX9_keeps_18 : decode cX9_keeps 18 = .ok (.iload_n 3, 1) := by decide +kernel
theorem dX9_keeps_19 : decode cX9_keeps 19 = .ok (.iadd, 1) := by decide +kernel
theorem dX9_keeps_20 : decode cX9_keeps 20 = .ok (.aload_n 0, 1) := by decide +kernel
theorem dX9_keeps_21 : decode cX9_keeps 21 = .ok (.getfield 13, 3) := by decide +kernel
theorem dX9_keeps_24 : decode cX9_keeps 24 = .ok (.iload_n 3, 1) := by decide +kernel
theorem dX9_keeps_25 : decode cX9_keeps 25 = .ok (.iaload, 1) := by decide +kernel
theorem dX9_keeps_26 : decode cX9_keeps 26 = .ok (.iastore, 1) := by decide +kernel
theorem dX9_keeps_27 : decode cX9_keeps 27 = .ok (.iinc 3 1, 3) := by decide +kernel
theorem dX9_keeps_30 : decode cX9_keeps 30 = .ok (.goto (-23), 3) := by decide +kernel
theorem dX9_keeps_33 : decode cX9_keeps 33 = .ok (.iinc 2 96, 3) := by decide +kernel
theorem dX9_keeps_36 : decode cX9_keeps 36 = .ok (.iconst 0, 1) := by decide +kernel
theorem dX9_keeps_37 : decode cX9_keeps 37 = .ok (.istore_n 3, 1) := by decide +kernel
theorem dX9_keeps_38 : decode cX9_keeps 38 = .ok (.iload_n 3, 1) := by decide +kernel
theorem dX9_keeps_39 : decode cX9_keeps 39 = .ok (.iconst 4, 1) := by decide +kernel
theorem dX9_keeps_40 : decode cX9_keeps 40 = .ok (.if_icmp .ge 61, 3) := by decide +kernel
theorem dX9_keeps_43 : decode cX9_keeps 43 = .ok (.aload_n 0, 1) := by decide +kernel
theorem dX9_keeps_44 : decode cX9_keeps 44 = .ok (.getfield 78, 3) := by decide +kernel
theorem dX9_keeps_47 : decode cX9_keeps 47 = .ok (.iload_n 2, 1) := by decide +kernel
theorem dX9_keeps_48 : decode cX9_keeps 48 = .ok (.iconst 3, 1) := by decide +kernel
theorem dX9_keeps_49 : decode cX9_keeps 49 = .ok (.iload_n 3, 1) := by decide +kernel
theorem dX9_keeps_50 : decode cX9_keeps 50 = .ok (.imul, 1) := by decide +kernel
theorem dX9_keeps_51 : decode cX9_keeps 51 = .ok (.iadd, 1) := by decide +kernel
theorem dX9_keeps_52 : decode cX9_keeps 52 = .ok (.aload_n 0, 1) := by decide +kernel
theorem dX9_keeps_53 : decode cX9_keeps 53 = .ok (.getfield 39, 3) := by decide +kernel
theorem dX9_keeps_56 : decode cX9_keeps 56 = .ok (.iload_n 3, 1) := by decide +kernel
theorem dX9_keeps_57 : decode cX9_keeps 57 = .ok (.iaload, 1) := by decide +kernel
theorem dX9_keeps_58 : decode cX9_keeps 58 = .ok (.iastore, 1) := by decide +kernel
theorem dX9_keeps_59 : decode cX9_keeps 59 = .ok (.aload_n 0, 1) := by decide +kernel
theorem dX9_keeps_60 : decode cX9_keeps 60 = .ok (.getfield 78, 3) := by decide +kernel
theorem dX9_keeps_63 : decode cX9_keeps 63 = .ok (.iload_n 2, 1) := by decide +kernel
theorem dX9_keeps_64 : decode cX9_keeps 64 = .ok (.iconst 3, 1) := by decide +kernel
theorem dX9_keeps_65 : decode cX9_keeps 65 = .ok (.iload_n 3, 1) := by decide +kernel
theorem dX9_keeps_66 : decode cX9_keeps 66 = .ok (.imul, 1) := by decide +kernel
theorem dX9_keeps_67 : decode cX9_keeps 67 = .ok (.iadd, 1) := by decide +kernel
theorem dX9_keeps_68 : decode cX9_keeps 68 = .ok (.iconst 1, 1) := by decide +kernel
theorem dX9_keeps_69 : decode cX9_keeps 69 = .ok (.iadd, 1) := by decide +kernel
theorem dX9_keeps_70 : decode cX9_keeps 70 = .ok (.aload_n 0, 1) := by decide +kernel
theorem dX9_keeps_71 : decode cX9_keeps 71 = .ok (.getfield 51, 3) := by decide +kernel
theorem dX9_keeps_74 : decode cX9_keeps 74 = .ok (.iload_n 3, 1) := by decide +kernel
theorem dX9_keeps_75 : decode cX9_keeps 75 = .ok (.iaload, 1) := by decide +kernel
theorem dX9_keeps_76 : decode cX9_keeps 76 = .ok (.iastore, 1) := by decide +kernel
theorem dX9_keeps_77 : decode cX9_keeps 77 = .ok (.aload_n 0, 1) := by decide +kernel
theorem dX9_keeps_78 : decode cX9_keeps 78 = .ok (.getfield 78, 3) := by decide +kernel
theorem dX9_keeps_81 : decode cX9_keeps 81 = .ok (.iload_n 2, 1) := by decide +kernel
theorem dX9_keeps_82 : decode cX9_keeps 82 = .ok (.iconst 3, 1) := by decide +kernel
theorem dX9_keeps_83 : decode cX9_keeps 83 = .ok (.iload_n 3, 1) := by decide +kernel
theorem dX9_keeps_84 : decode cX9_keeps 84 = .ok (.imul, 1) := by decide +kernel
theorem dX9_keeps_85 : decode cX9_keeps 85 = .ok (.iadd, 1) := by decide +kernel
theorem dX9_keeps_86 : decode cX9_keeps 86 = .ok (.iconst 2, 1) := by decide +kernel
theorem dX9_keeps_87 : decode cX9_keeps 87 = .ok (.iadd, 1) := by decide +kernel
theorem dX9_keeps_88 : decode cX9_keeps 88 = .ok (.aload_n 0, 1) := by decide +kernel
theorem dX9_keeps_89 : decode cX9_keeps 89 = .ok (.getfield 54, 3) := by decide +kernel
theorem dX9_keeps_92 : decode cX9_keeps 92 = .ok (.iload_n 3, 1) := by decide +kernel
theorem dX9_keeps_93 : decode cX9_keeps 93 = .ok (.iaload, 1) := by decide +kernel
theorem dX9_keeps_94 : decode cX9_keeps 94 = .ok (.iastore, 1) := by decide +kernel
theorem dX9_keeps_95 : decode cX9_keeps 95 = .ok (.iinc 3 1, 3) := by decide +kernel
theorem dX9_keeps_98 : decode cX9_keeps 98 = .ok (.goto (-60), 3) := by decide +kernel
theorem dX9_keeps_101 : decode cX9_keeps 101 = .ok (.iinc 2 12, 3) := by decide +kernel
theorem dX9_keeps_104 : decode cX9_keeps 104 = .ok (.aload_n 0, 1) := by decide +kernel
theorem dX9_keeps_105 : decode cX9_keeps 105 = .ok (.getfield 78, 3) := by decide +kernel
theorem dX9_keeps_108 : decode cX9_keeps 108 = .ok (.iload_n 2, 1) := by decide +kernel
theorem dX9_keeps_109 : decode cX9_keeps 109 = .ok (.aload_n 0, 1) := by decide +kernel
theorem dX9_keeps_110 : decode cX9_keeps 110 = .ok (.getfield 104, 3) := by decide +kernel
theorem dX9_keeps_113 : decode cX9_keeps 113 = .ok (.iastore, 1) := by decide +kernel
theorem dX9_keeps_114 : decode cX9_keeps 114 = .ok (.aload_n 0, 1) := by decide +kernel
theorem dX9_keeps_115 : decode cX9_keeps 115 = .ok (.getfield 78, 3) := by decide +kernel
theorem dX9_keeps_118 : decode cX9_keeps 118 = .ok (.iload_n 2, 1) := by decide +kernel
theorem dX9_keeps_119 : decode cX9_keeps 119 = .ok (.iconst 1, 1) := by decide +kernel
theorem dX9_keeps_120 : decode cX9_keeps 120 = .ok (.iadd, 1) := by decide +kernel
theorem dX9_keeps_121 : decode cX9_keeps 121 = .ok (.aload_n 0, 1) := by decide +kernel
theorem dX9_keeps_122 : decode cX9_keeps 122 = .ok (.getfield 143, 3) := by decide +kernel
theorem dX9_keeps_125 : decode cX9_keeps 125 = .ok (.iastore, 1) := by decide +kernel
theorem dX9_keeps_126 : decode cX9_keeps 126 = .ok (.aload_n 0, 1) := by decide +kernel
theorem dX9_keeps_127 : decode cX9_keeps 127 = .ok (.getfield 78, 3) := by decide +kernel
theorem dX9_keeps_130 : decode cX9_keeps 130 = .ok (.iload_n 2, 1) := by decide +kernel
theorem dX9_keeps_131 : decode cX9_keeps 131 = .ok (.iconst 2, 1) := by decide +kernel
theorem dX9_keeps_132 : decode cX9_keeps 132 = .ok (.iadd, 1) := by decide +kernel
theorem dX9_keeps_133 : decode cX9_keeps 133 = .ok (.aload_n 0, 1) := by decide +kernel
theorem dX9_keeps_134 : decode cX9_keeps 134 = .ok (.getfield 138, 3) := by decide +kernel
theorem dX9_keeps_137 : decode cX9_keeps 137 = .ok (.iastore, 1) := by decide +kernel
theorem dX9_keeps_138 : decode cX9_keeps 138 = .ok (.aload_n 0, 1) := by decide +kernel
theorem dX9_keeps_139 : decode cX9_keeps 139 = .ok (.getfield 78, 3) := by decide +kernel
theorem dX9_keeps_142 : decode cX9_keeps 142 = .ok (.iload_n 2, 1) := by decide +kernel
theorem dX9_keeps_143 : decode cX9_keeps 143 = .ok (.iconst 3, 1) := by decide +kernel
theorem dX9_keeps_144 : decode cX9_keeps 144 = .ok (.iadd, 1) := by decide +kernel
theorem dX9_keeps_145 : decode cX9_keeps 145 = .ok (.aload_n 0, 1) := by decide +kernel
theorem dX9_keeps_146 : decode cX9_keeps 146 = .ok (.getfield 146, 3) := by decide +kernel
theorem dX9_keeps_149 : decode cX9_keeps 149 = .ok (.iastore, 1) := by decide +kernel
theorem dX9_keeps_150 : decode cX9_keeps 150 = .ok (.return_, 1) := by decide +kernel
theorem dX9_back_0 : decode cX9_back 0 = .ok (.bipush 112, 2) := by decide +kernel
theorem dX9_back_2 : decode cX9_back 2 = .ok (.iload_n 1, 1) := by decide +kernel
theorem dX9_back_3 : decode cX9_back 3 = .ok (.imul, 1) := by decide +kernel
theorem dX9_back_4 : decode cX9_back 4 = .ok (.istore_n 2, 1) := by decide +kernel
theorem dX9_back_5 : decode cX9_back 5 = .ok (.iconst 0, 1) := by decide +kernel
theorem dX9_back_6 : decode cX9_back 6 = .ok (.istore_n 3, 1) := by decide +kernel
theorem dX9_back_7 : decode cX9_back 7 = .ok (.iload_n 3, 1) := by decide +kernel
theorem dX9_back_8 : decode cX9_back 8 = .ok (.bipush 96, 2) := by decide +kernel
theorem dX9_back_10 : decode cX9_back 10 = .ok (.if_icmp .ge 23, 3) := by decide +kernel
theorem dX9_back_13 : decode cX9_back 13 = .ok (.aload_n 0, 1) := by decide +kernel
theorem dX9_back_14 : decode cX9_back 14 = .ok (.getfield 13, 3) := by decide +kernel
theorem dX9_back_17 : decode cX9_back 17 = .ok (.iload_n 3, 1) := by decide +kernel
theorem dX9_back_18 : decode cX9_back 18 = .ok (.aload_n 0, 1) := by decide +kernel
theorem dX9_back_19 : decode cX9_back 19 = .ok (.getfield 78, 3) := by decide +kernel
theorem dX9_back_22 : decode cX9_back 22 = .ok (.iload_n 2, 1) := by decide +kernel
theorem dX9_back_23 : decode cX9_back 23 = .ok (.iload_n 3, 1) := by decide +kernel
theorem dX9_back_24 : decode cX9_back 24 = .ok (.iadd, 1) := by decide +kernel
theorem dX9_back_25 : decode cX9_back 25 = .ok (.iaload, 1) := by decide +kernel
theorem dX9_back_26 : decode cX9_back 26 = .ok (.iastore, 1) := by decide +kernel
theorem dX9_back_27 : decode cX9_back 27 = .ok (.iinc 3 1, 3) := by decide +kernel
theorem dX9_back_30 : decode cX9_back 30 = .ok (.goto (-23), 3) := by decide +kernel
theorem dX9_back_33 : decode cX9_back 33 = .ok (.iinc 2 96, 3) := by decide +kernel
theorem dX9_back_36 : decode cX9_back 36 = .ok (.iconst 0, 1) := by decide +kernel
theorem dX9_back_37 : decode cX9_back 37 = .ok (.istore_n 3, 1) := by decide +kernel
theorem dX9_back_38 : decode cX9_back 38 = .ok (.iload_n 3, 1) := by decide +kernel
theorem dX9_back_39 : decode cX9_back 39 = .ok (.iconst 4, 1) := by decide +kernel
theorem dX9_back_40 : decode cX9_back 40 = .ok (.if_icmp .ge 61, 3) := by decide +kernel
theorem dX9_back_43 : decode cX9_back 43 = .ok (.aload_n 0, 1) := by decide +kernel
theorem dX9_back_44 : decode cX9_back 44 = .ok (.getfield 39, 3) := by decide +kernel
theorem dX9_back_47 : decode cX9_back 47 = .ok (.iload_n 3, 1) := by decide +kernel
theorem dX9_back_48 : decode cX9_back 48 = .ok (.aload_n 0, 1) := by decide +kernel
theorem dX9_back_49 : decode cX9_back 49 = .ok (.getfield 78, 3) := by decide +kernel
theorem dX9_back_52 : decode cX9_back 52 = .ok (.iload_n 2, 1) := by decide +kernel
theorem dX9_back_53 : decode cX9_back 53 = .ok (.iconst 3, 1) := by decide +kernel
theorem dX9_back_54 : decode cX9_back 54 = .ok (.iload_n 3, 1) := by decide +kernel
theorem dX9_back_55 : decode cX9_back 55 = .ok (.imul, 1) := by decide +kernel
theorem dX9_back_56 : decode cX9_back 56 = .ok (.iadd, 1) := by decide +kernel
theorem dX9_back_57 : decode cX9_back 57 = .ok (.iaload, 1) := by decide +kernel
theorem dX9_back_58 : decode cX9_back 58 = .ok (.iastore, 1) := by decide +kernel
theorem dX9_back_59 : decode cX9_back 59 = .ok (.aload_n 0, 1) := by decide +kernel
theorem dX9_back_60 : decode cX9_back 60 = .ok (.getfield 51, 3) := by decide +kernel
theorem dX9_back_63 : decode cX9_back 63 = .ok (.iload_n 3, 1) := by decide +kernel
theorem dX9_back_64 : decode cX9_back 64 = .ok (.aload_n 0, 1) := by decide +kernel
theorem dX9_back_65 : decode cX9_back 65 = .ok (.getfield 78, 3) := by decide +kernel
theorem dX9_back_68 : decode cX9_back 68 = .ok (.iload_n 2, 1) := by decide +kernel
theorem dX9_back_69 : decode cX9_back 69 = .ok (.iconst 3, 1) := by decide +kernel
theorem dX9_back_70 : decode cX9_back 70 = .ok (.iload_n 3, 1) := by decide +kernel
theorem dX9_back_71 : decode cX9_back 71 = .ok (.imul, 1) := by decide +kernel
theorem dX9_back_72 : decode cX9_back 72 = .ok (.iadd, 1) := by decide +kernel
theorem dX9_back_73 : decode cX9_back 73 = .ok (.iconst 1, 1) := by decide +kernel
theorem dX9_back_74 : decode cX9_back 74 = .ok (.iadd, 1) := by decide +kernel
theorem dX9_back_75 : decode cX9_back 75 = .ok (.iaload, 1) := by decide +kernel
theorem dX9_back_76 : decode cX9_back 76 = .ok (.iastore, 1) := by decide +kernel
theorem dX9_back_77 : decode cX9_back 77 = .ok (.aload_n 0, 1) := by decide +kernel
theorem dX9_back_78 : decode cX9_back 78 = .ok (.getfield 54, 3) := by decide +kernel
theorem dX9_back_81 : decode cX9_back 81 = .ok (.iload_n 3, 1) := by decide +kernel
theorem dX9_back_82 : decode cX9_back 82 = .ok (.aload_n 0, 1) := by decide +kernel
theorem dX9_back_83 : decode cX9_back 83 = .ok (.getfield 78, 3) := by decide +kernel
theorem dX9_back_86 : decode cX9_back 86 = .ok (.iload_n 2, 1) := by decide +kernel
theorem dX9_back_87 : decode cX9_back 87 = .ok (.iconst 3, 1) := by decide +kernel
theorem dX9_back_88 : decode cX9_back 88 = .ok (.iload_n 3, 1) := by decide +kernel
theorem dX9_back_89 : decode cX9_back 89 = .ok (.imul, 1) := by decide +kernel
theorem dX9_back_90 : decode cX9_back 90 = .ok (.iadd, 1) := by decide +kernel
theorem dX9_back_91 : decode cX9_back 91 = .ok (.iconst 2, 1) := by decide +kernel
theorem dX9_back_92 : decode cX9_back 92 = .ok (.iadd, 1) := by decide +kernel
theorem dX9_back_93 : decode cX9_back 93 = .ok (.iaload, 1) := by decide +kernel
theorem dX9_back_94 : decode cX9_back 94 = .ok (.iastore, 1) := by decide +kernel
theorem dX9_back_95 : decode cX9_back 95 = .ok (.iinc 3 1, 3) := by decide +kernel
theorem dX9_back_98 : decode cX9_back 98 = .ok (.goto (-60), 3) := by decide +kernel
theorem dX9_back_101 : decode cX9_back 101 = .ok (.iinc 2 12, 3) := by decide +kernel
theorem dX9_back_104 : decode cX9_back 104 = .ok (.aload_n 0, 1) := by decide +kernel
theorem dX9_back_105 : decode cX9_back 105 = .ok (.aload_n 0, 1) := by decide +kernel
theorem dX9_back_106 : decode cX9_back 106 = .ok (.getfield 78, 3) := by decide +kernel
theorem dX9_back_109 : decode cX9_back 109 = .ok (.iload_n 2, 1) := by decide +kernel
theorem dX9_back_110 : decode cX9_back 110 = .ok (.iaload, 1) := by decide +kernel
theorem dX9_back_111 : decode cX9_back 111 = .ok (.putfield 104, 3) := by decide +kernel
theorem dX9_back_114 : decode cX9_back 114 = .ok (.aload_n 0, 1) := by decide +kernel
theorem dX9_back_115 : decode cX9_back 115 = .ok (.aload_n 0, 1) := by decide +kernel
theorem dX9_back_116 : decode cX9_back 116 = .ok (.getfield 78, 3) := by decide +kernel
theorem dX9_back_119 : decode cX9_back 119 = .ok (.iload_n 2, 1) := by decide +kernel
theorem dX9_back_120 : decode cX9_back 120 = .ok (.iconst 1, 1) := by decide +kernel
theorem dX9_back_121 : decode cX9_back 121 = .ok (.iadd, 1) := by decide +kernel
theorem dX9_back_122 : decode cX9_back 122 = .ok (.iaload, 1) := by decide +kernel
theorem dX9_back_123 : decode cX9_back 123 = .ok (.putfield 143, 3) := by decide +kernel
theorem dX9_back_126 : decode cX9_back 126 = .ok (.aload_n 0, 1) := by decide +kernel
theorem dX9_back_127 : decode cX9_back 127 = .ok (.aload_n 0, 1) := by decide +kernel
theorem dX9_back_128 : decode cX9_back 128 = .ok (.getfield 78, 3) := by decide +kernel
theorem dX9_back_131 : decode cX9_back 131 = .ok (.iload_n 2, 1) := by decide +kernel
theorem dX9_back_132 : decode cX9_back 132 = .ok (.iconst 2, 1) := by decide +kernel
theorem dX9_back_133 : decode cX9_back 133 = .ok (.iadd, 1) := by decide +kernel
theorem dX9_back_134 : decode cX9_back 134 = .ok (.iaload, 1) := by decide +kernel
theorem dX9_back_135 : decode cX9_back 135 = .ok (.putfield 138, 3) := by decide +kernel
theorem dX9_back_138 : decode cX9_back 138 = .ok (.aload_n 0, 1) := by decide +kernel
theorem dX9_back_139 : decode cX9_back 139 = .ok (.aload_n 0, 1) := by decide +kernel
theorem dX9_back_140 : decode cX9_back 140 = .ok (.getfield 78, 3) := by decide +kernel
theorem dX9_back_143 : decode cX9_back 143 = .ok (.iload_n 2, 1) := by decide +kernel
theorem dX9_back_144 : decode cX9_back 144 = .ok (.iconst 3, 1) := by decide +kernel
theorem dX9_back_145 : decode cX9_back 145 = .ok (.iadd, 1) := by decide +kernel
theorem dX9_back_146 : decode cX9_back 146 = .ok (.iaload, 1) := by decide +kernel
theorem dX9_back_147 : decode cX9_back 147 = .ok (.putfield 146, 3) := by decide +kernel
theorem dX9_back_150 : decode cX9_back 150 = .ok (.return_, 1) := by decide +kernel
theorem dX9_foretold_0 : decode cX9_foretold 0 = .ok (.iload_n 1, 1) := by decide +kernel
theorem dX9_foretold_1 : decode cX9_foretold 1 = .ok (.iconst 0, 1) := by decide +kernel
theorem dX9_foretold_2 : decode cX9_foretold 2 = .ok (.iconst 2, 1) := by decide +kernel
theorem dX9_foretold_3 : decode cX9_foretold 3 = .ok (.invokestatic 93, 3) := by decide +kernel
theorem dX9_foretold_6 : decode cX9_foretold 6 = .ok (.ifCond .eq 13, 3) := by decide +kernel
theorem dX9_foretold_9 : decode cX9_foretold 9 = .ok (.iload_n 2, 1) := by decide +kernel
theorem dX9_foretold_10 : decode cX9_foretold 10 = .ok (.iconst 0, 1) := by decide +kernel
theorem dX9_foretold_11 : decode cX9_foretold 11 = .ok (.bipush 48, 2) := by decide +kernel
theorem dX9_foretold_13 : decode cX9_foretold 13 = .ok (.invokestatic 93, 3) := by decide +kernel
theorem dX9_foretold_16 : decode cX9_foretold 16 = .ok (.ifCond .ne 5, 3) := by decide +kernel
theorem dX9_foretold_19 : decode cX9_foretold 19 = .ok (.iconst (-1), 1) := by decide +kernel
theorem dX9_foretold_20 : decode cX9_foretold 20 = .ok (.ireturn, 1) := by decide +kernel
theorem dX9_foretold_21 : decode cX9_foretold 21 = .ok (.aload_n 0, 1) := by decide +kernel
theorem dX9_foretold_22 : decode cX9_foretold 22 = .ok (.iconst 0, 1) := by decide +kernel
theorem dX9_foretold_23 : decode cX9_foretold 23 = .ok (.invokevirtual 153, 3) := by decide +kernel
theorem dX9_foretold_26 : decode cX9_foretold 26 = .ok (.iconst 0, 1) := by decide +kernel
theorem dX9_foretold_27 : decode cX9_foretold 27 = .ok (.istore_n 3, 1) := by decide +kernel
theorem dX9_foretold_28 : decode cX9_foretold 28 = .ok (.iload_n 3, 1) := by decide +kernel
theorem dX9_foretold_29 : decode cX9_foretold 29 = .ok (.iload_n 2, 1) := by decide +kernel
theorem dX9_foretold_30 : decode cX9_foretold 30 = .ok (.if_icmp .ge 14, 3) := by decide +kernel
theorem dX9_foretold_33 : decode cX9_foretold 33 = .ok (.aload_n 0, 1) := by decide +kernel
theorem dX9_foretold_34 : decode cX9_foretold 34 = .ok (.iload_n 1, 1) := by decide +kernel
theorem dX9_foretold_35 : decode cX9_foretold 35 = .ok (.invokevirtual 149, 3) := by decide +kernel
theorem dX9_foretold_38 : decode cX9_foretold 38 = .ok (.iinc 3 1, 3) := by decide +kernel
theorem dX9_foretold_41 : decode cX9_foretold 41 = .ok (.goto (-13), 3) := by decide +kernel
theorem dX9_foretold_44 : decode cX9_foretold 44 = .ok (.aload_n 0, 1) := by decide +kernel
theorem dX9_foretold_45 : decode cX9_foretold 45 = .ok (.invokevirtual 156, 3) := by decide +kernel
theorem dX9_foretold_48 : decode cX9_foretold 48 = .ok (.istore_n 3, 1) := by decide +kernel
theorem dX9_foretold_49 : decode cX9_foretold 49 = .ok (.aload_n 0, 1) := by decide +kernel
theorem dX9_foretold_50 : decode cX9_foretold 50 = .ok (.iconst 0, 1) := by decide +kernel
theorem dX9_foretold_51 : decode cX9_foretold 51 = .ok (.invokevirtual 160, 3) := by decide +kernel
theorem dX9_foretold_54 : decode cX9_foretold 54 = .ok (.iload_n 3, 1) := by decide +kernel
theorem dX9_foretold_55 : decode cX9_foretold 55 = .ok (.ireturn, 1) := by decide +kernel
theorem dX9_worst_0 : decode cX9_worst 0 = .ok (.iconst (-1), 1) := by decide +kernel
theorem dX9_worst_1 : decode cX9_worst 1 = .ok (.istore_n 2, 1) := by decide +kernel
theorem dX9_worst_2 : decode cX9_worst 2 = .ok (.iconst 0, 1) := by decide +kernel
theorem dX9_worst_3 : decode cX9_worst 3 = .ok (.istore_n 3, 1) := by decide +kernel
theorem dX9_worst_4 : decode cX9_worst 4 = .ok (.iload_n 3, 1) := by decide +kernel
theorem dX9_worst_5 : decode cX9_worst 5 = .ok (.iconst 3, 1) := by decide +kernel
theorem dX9_worst_6 : decode cX9_worst 6 = .ok (.if_icmp .ge 40, 3) := by decide +kernel
theorem dX9_worst_9 : decode cX9_worst 9 = .ok (.iload_n 1, 1) := by decide +kernel
theorem dX9_worst_10 : decode cX9_worst 10 = .ok (.iconst 0, 1) := by decide +kernel
theorem dX9_worst_11 : decode cX9_worst 11 = .ok (.bipush 48, 2) := by decide +kernel
theorem dX9_worst_13 : decode cX9_worst 13 = .ok (.invokestatic 93, 3) := by decide +kernel
theorem dX9_worst_16 : decode cX9_worst 16 = .ok (.ifCond .eq 30, 3) := by decide +kernel
theorem dX9_worst_19 : decode cX9_worst 19 = .ok (.aload_n 0, 1) := by decide +kernel
theorem dX9_worst_20 : decode cX9_worst 20 = .ok (.iload_n 3, 1) := by decide +kernel
theorem dX9_worst_21 : decode cX9_worst 21 = .ok (.iload_n 1, 1) := by decide +kernel
theorem dX9_worst_22 : decode cX9_worst 22 = .ok (.invokevirtual 163, 3) := by decide +kernel
theorem dX9_worst_25 : decode cX9_worst 25 = .ok (.iload_n 2, 1) := by decide +kernel
theorem dX9_worst_26 : decode cX9_worst 26 = .ok (.if_icmp .le 12, 3) := by decide +kernel
theorem dX9_worst_29 : decode cX9_worst 29 = .ok (.aload_n 0, 1) := by decide +kernel
theorem dX9_worst_30 : decode cX9_worst 30 = .ok (.iload_n 3, 1) := by decide +kernel
theorem dX9_worst_31 : decode cX9_worst 31 = .ok (.iload_n 1, 1) := by decide +kernel
theorem dX9_worst_32 : decode cX9_worst 32 = .ok (.invokevirtual 163, 3) := by decide +kernel
theorem dX9_worst_35 : decode cX9_worst 35 = .ok (.goto 4, 3) := by decide +kernel
theorem dX9_worst_38 : decode cX9_worst 38 = .ok (.iload_n 2, 1) := by decide +kernel
theorem dX9_worst_39 : decode cX9_worst 39 = .ok (.istore_n 2, 1) := by decide +kernel
theorem dX9_worst_40 : decode cX9_worst 40 = .ok (.iinc 3 1, 3) := by decide +kernel
theorem dX9_worst_43 : decode cX9_worst 43 = .ok (.goto (-39), 3) := by decide +kernel
theorem dX9_worst_46 : decode cX9_worst 46 = .ok (.iload_n 2, 1) := by decide +kernel
theorem dX9_worst_47 : decode cX9_worst 47 = .ok (.ireturn, 1) := by decide +kernel
theorem dX9_tries_0 : decode cX9_tries 0 = .ok (.aload_n 0, 1) := by decide +kernel
theorem dX9_tries_1 : decode cX9_tries 1 = .ok (.iload_n 2, 1) := by decide +kernel
theorem dX9_tries_2 : decode cX9_tries 2 = .ok (.invokevirtual 110, 3) := by decide +kernel
theorem dX9_tries_5 : decode cX9_tries 5 = .ok (.ifCond .eq 23, 3) := by decide +kernel
theorem dX9_tries_8 : decode cX9_tries 8 = .ok (.aload_n 0, 1) := by decide +kernel
theorem dX9_tries_9 : decode cX9_tries 9 = .ok (.aload_n 0, 1) := by decide +kernel
theorem dX9_tries_10 : decode cX9_tries 10 = .ok (.getfield 39, 3) := by decide +kernel
theorem dX9_tries_13 : decode cX9_tries 13 = .ok (.iload_n 1, 1) := by decide +kernel
theorem dX9_tries_14 : decode cX9_tries 14 = .ok (.iaload, 1) := by decide +kernel
theorem dX9_tries_15 : decode cX9_tries 15 = .ok (.iload_n 2, 1) := by decide +kernel
theorem dX9_tries_16 : decode cX9_tries 16 = .ok (.aload_n 0, 1) := by decide +kernel
theorem dX9_tries_17 : decode cX9_tries 17 = .ok (.getfield 48, 3) := by decide +kernel
theorem dX9_tries_20 : decode cX9_tries 20 = .ok (.iload_n 1, 1) := by decide +kernel
theorem dX9_tries_21 : decode cX9_tries 21 = .ok (.iaload, 1) := by decide +kernel
theorem dX9_tries_22 : decode cX9_tries 22 = .ok (.invokevirtual 135, 3) := by decide +kernel
theorem dX9_tries_25 : decode cX9_tries 25 = .ok (.ifCond .ne 5, 3) := by decide +kernel
theorem dX9_tries_28 : decode cX9_tries 28 = .ok (.iconst 0, 1) := by decide +kernel
theorem dX9_tries_29 : decode cX9_tries 29 = .ok (.ireturn, 1) := by decide +kernel
theorem dX9_tries_30 : decode cX9_tries 30 = .ok (.aload_n 0, 1) := by decide +kernel
theorem dX9_tries_31 : decode cX9_tries 31 = .ok (.iload_n 3, 1) := by decide +kernel
theorem dX9_tries_32 : decode cX9_tries 32 = .ok (.invokevirtual 153, 3) := by decide +kernel
theorem dX9_tries_35 : decode cX9_tries 35 = .ok (.aload_n 0, 1) := by decide +kernel
theorem dX9_tries_36 : decode cX9_tries 36 = .ok (.getfield 39, 3) := by decide +kernel
theorem dX9_tries_39 : decode cX9_tries 39 = .ok (.iload_n 1, 1) := by decide +kernel
theorem dX9_tries_40 : decode cX9_tries 40 = .ok (.iload_n 2, 1) := by decide +kernel
theorem dX9_tries_41 : decode cX9_tries 41 = .ok (.iastore, 1) := by decide +kernel
theorem dX9_tries_42 : decode cX9_tries 42 = .ok (.aload_n 0, 1) := by decide +kernel
theorem dX9_tries_43 : decode cX9_tries 43 = .ok (.iconst 0, 1) := by decide +kernel
theorem dX9_tries_44 : decode cX9_tries 44 = .ok (.invokevirtual 149, 3) := by decide +kernel
theorem dX9_tries_47 : decode cX9_tries 47 = .ok (.iconst 1, 1) := by decide +kernel
theorem dX9_tries_48 : decode cX9_tries 48 = .ok (.ireturn, 1) := by decide +kernel
theorem dX9_meets_0 : decode cX9_meets 0 = .ok (.iload_n 1, 1) := by decide +kernel
theorem dX9_meets_1 : decode cX9_meets 1 = .ok (.aload_n 0, 1) := by decide +kernel
theorem dX9_meets_2 : decode cX9_meets 2 = .ok (.getfield 166, 3) := by decide +kernel
theorem dX9_meets_5 : decode cX9_meets 5 = .ok (.if_icmp .gt 4, 3) := by decide +kernel
theorem dX9_meets_8 : decode cX9_meets 8 = .ok (.return_, 1) := by decide +kernel
theorem dX9_meets_9 : decode cX9_meets 9 = .ok (.aload_n 0, 1) := by decide +kernel
theorem dX9_meets_10 : decode cX9_meets 10 = .ok (.iload_n 1, 1) := by decide +kernel
theorem dX9_meets_11 : decode cX9_meets 11 = .ok (.putfield 166, 3) := by decide +kernel
theorem dX9_meets_14 : decode cX9_meets 14 = .ok (.aload_n 0, 1) := by decide +kernel
theorem dX9_meets_15 : decode cX9_meets 15 = .ok (.iload_n 2, 1) := by decide +kernel
theorem dX9_meets_16 : decode cX9_meets 16 = .ok (.putfield 169, 3) := by decide +kernel
theorem dX9_meets_19 : decode cX9_meets 19 = .ok (.return_, 1) := by decide +kernel
theorem dX9_best_0 : decode cX9_best 0 = .ok (.aload_n 0, 1) := by decide +kernel
theorem dX9_best_1 : decode cX9_best 1 = .ok (.iload_n 1, 1) := by decide +kernel
theorem dX9_best_2 : decode cX9_best 2 = .ok (.invokevirtual 132, 3) := by decide +kernel
theorem dX9_best_5 : decode cX9_best 5 = .ok (.ifCond .eq 30, 3) := by decide +kernel
theorem dX9_best_8 : decode cX9_best 8 = .ok (.aload_n 0, 1) := by decide +kernel
theorem dX9_best_9 : decode cX9_best 9 = .ok (.getfield 60, 3) := by decide +kernel
theorem dX9_best_12 : decode cX9_best 12 = .ok (.iload_n 1, 1) := by decide +kernel
theorem dX9_best_13 : decode cX9_best 13 = .ok (.baload, 1) := by decide +kernel
theorem dX9_best_14 : decode cX9_best 14 = .ok (.ifCond .ne 21, 3) := by decide +kernel
theorem dX9_best_17 : decode cX9_best 17 = .ok (.iload_n 2, 1) := by decide +kernel
theorem dX9_best_18 : decode cX9_best 18 = .ok (.iconst 1, 1) := by decide +kernel
theorem dX9_best_19 : decode cX9_best 19 = .ok (.iconst 3, 1) := by decide +kernel
theorem dX9_best_20 : decode cX9_best 20 = .ok (.invokestatic 93, 3) := by decide +kernel
theorem dX9_best_23 : decode cX9_best 23 = .ok (.ifCond .eq 12, 3) := by decide +kernel
theorem dX9_best_26 : decode cX9_best 26 = .ok (.iload_n 3, 1) := by decide +kernel
theorem dX9_best_27 : decode cX9_best 27 = .ok (.iconst 0, 1) := by decide +kernel
theorem dX9_best_28 : decode cX9_best 28 = .ok (.iconst 1, 1) := by decide +kernel
theorem dX9_best_29 : decode cX9_best 29 = .ok (.invokestatic 93, 3) := by decide +kernel
theorem dX9_best_32 : decode cX9_best 32 = .ok (.ifCond .ne 5, 3) := by decide +kernel
theorem dX9_best_35 : decode cX9_best 35 = .ok (.iconst (-1), 1) := by decide +kernel
theorem dX9_best_36 : decode cX9_best 36 = .ok (.ireturn, 1) := by decide +kernel
theorem dX9_best_37 : decode cX9_best 37 = .ok (.aload_n 0, 1) := by decide +kernel
theorem dX9_best_38 : decode cX9_best 38 = .ok (.iconst (-1), 1) := by decide +kernel
theorem dX9_best_39 : decode cX9_best 39 = .ok (.putfield 166, 3) := by decide +kernel
theorem dX9_best_42 : decode cX9_best 42 = .ok (.aload_n 0, 1) := by decide +kernel
theorem dX9_best_43 : decode cX9_best 43 = .ok (.getfield 54, 3) := by decide +kernel
theorem dX9_best_46 : decode cX9_best 46 = .ok (.iload_n 1, 1) := by decide +kernel
theorem dX9_best_47 : decode cX9_best 47 = .ok (.iaload, 1) := by decide +kernel
theorem dX9_best_48 : decode cX9_best 48 = .ok (.istore 4, 2) := by decide +kernel
theorem dX9_best_50 : decode cX9_best 50 = .ok (.iconst 0, 1) := by decide +kernel
theorem dX9_best_51 : decode cX9_best 51 = .ok (.istore 5, 2) := by decide +kernel
theorem dX9_best_53 : decode cX9_best 53 = .ok (.iload 5, 2) := by decide +kernel
theorem dX9_best_55 : decode cX9_best 55 = .ok (.bipush 96, 2) := by decide +kernel
theorem dX9_best_57 : decode cX9_best 57 = .ok (.if_icmp .ge 163, 3) := by decide +kernel
theorem dX9_best_60 : decode cX9_best 60 = .ok (.aload_n 0, 1) := by decide +kernel
theorem dX9_best_61 : decode cX9_best 61 = .ok (.iload_n 1, 1) := by decide +kernel
theorem dX9_best_62 : decode cX9_best 62 = .ok (.iload 5, 2) := by decide +kernel
theorem dX9_best_64 : decode cX9_best 64 = .ok (.iconst 1, 1) := by decide +kernel
theorem dX9_best_65 : decode cX9_best 65 = .ok (.invokevirtual 172, 3) := by decide +kernel
theorem dX9_best_68 : decode cX9_best 68 = .ok (.ifCond .ne 6, 3) := by decide +kernel
theorem dX9_best_71 : decode cX9_best 71 = .ok (.goto 143, 3) := by decide +kernel
theorem dX9_best_74 : decode cX9_best 74 = .ok (.iconst 0, 1) := by decide +kernel
theorem dX9_best_75 : decode cX9_best 75 = .ok (.istore 6, 2) := by decide +kernel
theorem dX9_best_77 : decode cX9_best 77 = .ok (.iload 6, 2) := by decide +kernel
theorem dX9_best_79 : decode cX9_best 79 = .ok (.bipush 96, 2) := by decide +kernel
theorem dX9_best_81 : decode cX9_best 81 = .ok (.if_icmp .ge 108, 3) := by decide +kernel
theorem dX9_best_84 : decode cX9_best 84 = .ok (.iload_n 2, 1) := by decide +kernel
theorem dX9_best_85 : decode cX9_best 85 = .ok (.iconst 1, 1) := by decide +kernel
theorem dX9_best_86 : decode cX9_best 86 = .ok (.if_icmp .le 103, 3) := by decide +kernel
theorem dX9_best_89 : decode cX9_best 89 = .ok (.aload_n 0, 1) := by decide +kernel
theorem dX9_best_90 : decode cX9_best 90 = .ok (.iload_n 1, 1) := by decide +kernel
theorem dX9_best_91 : decode cX9_best 91 = .ok (.iload 6, 2) := by decide +kernel
theorem dX9_best_93 : decode cX9_best 93 = .ok (.iconst 2, 1) := by decide +kernel
theorem dX9_best_94 : decode cX9_best 94 = .ok (.invokevirtual 172, 3) := by decide +kernel
theorem dX9_best_97 : decode cX9_best 97 = .ok (.ifCond .ne 6, 3) := by decide +kernel
theorem dX9_best_100 : decode cX9_best 100 = .ok (.goto 83, 3) := by decide +kernel
theorem dX9_best_103 : decode cX9_best 103 = .ok (.iconst 0, 1) := by decide +kernel
theorem dX9_best_104 : decode cX9_best 104 = .ok (.istore 7, 2) := by decide +kernel
theorem dX9_best_106 : decode cX9_best 106 = .ok (.iload 7, 2) := by decide +kernel
theorem dX9_best_108 : decode cX9_best 108 = .ok (.bipush 96, 2) := by decide +kernel
theorem dX9_best_110 : decode cX9_best 110 = .ok (.if_icmp .ge 48, 3) := by decide +kernel
theorem dX9_best_113 : decode cX9_best 113 = .ok (.iload_n 2, 1) := by decide +kernel
theorem dX9_best_114 : decode cX9_best 114 = .ok (.iconst 2, 1) := by decide +kernel
theorem dX9_best_115 : decode cX9_best 115 = .ok (.if_icmp .le 43, 3) := by decide +kernel
theorem dX9_best_118 : decode cX9_best 118 = .ok (.aload_n 0, 1) := by decide +kernel
theorem dX9_best_119 : decode cX9_best 119 = .ok (.iload_n 1, 1) := by decide +kernel
theorem dX9_best_120 : decode cX9_best 120 = .ok (.iload 7, 2) := by decide +kernel
theorem dX9_best_122 : decode cX9_best 122 = .ok (.iconst 3, 1) := by decide +kernel
theorem dX9_best_123 : decode cX9_best 123 = .ok (.invokevirtual 172, 3) := by decide +kernel
theorem dX9_best_126 : decode cX9_best 126 = .ok (.ifCond .ne 6, 3) := by decide +kernel
theorem dX9_best_129 : decode cX9_best 129 = .ok (.goto 23, 3) := by decide +kernel
theorem dX9_best_132 : decode cX9_best 132 = .ok (.aload_n 0, 1) := by decide +kernel
theorem dX9_best_133 : decode cX9_best 133 = .ok (.aload_n 0, 1) := by decide +kernel
theorem dX9_best_134 : decode cX9_best 134 = .ok (.getfield 54, 3) := by decide +kernel
theorem dX9_best_137 : decode cX9_best 137 = .ok (.iload_n 1, 1) := by decide +kernel
theorem dX9_best_138 : decode cX9_best 138 = .ok (.iaload, 1) := by decide +kernel
theorem dX9_best_139 : decode cX9_best 139 = .ok (.iload 4, 2) := by decide +kernel
theorem dX9_best_141 : decode cX9_best 141 = .ok (.isub, 1) := by decide +kernel
theorem dX9_best_142 : decode cX9_best 142 = .ok (.iload 5, 2) := by decide +kernel
theorem dX9_best_144 : decode cX9_best 144 = .ok (.invokevirtual 175, 3) := by decide +kernel
theorem dX9_best_147 : decode cX9_best 147 = .ok (.aload_n 0, 1) := by decide +kernel
theorem dX9_best_148 : decode cX9_best 148 = .ok (.iconst 3, 1) := by decide +kernel
theorem dX9_best_149 : decode cX9_best 149 = .ok (.invokevirtual 160, 3) := by decide +kernel
theorem dX9_best_152 : decode cX9_best 152 = .ok (.iinc 7 1, 3) := by decide +kernel
theorem dX9_best_155 : decode cX9_best 155 = .ok (.goto (-49), 3) := by decide +kernel
theorem dX9_best_158 : decode cX9_best 158 = .ok (.iload_n 2, 1) := by decide +kernel
theorem dX9_best_159 : decode cX9_best 159 = .ok (.iconst 2, 1) := by decide +kernel
theorem dX9_best_160 : decode cX9_best 160 = .ok (.if_icmp .ne 18, 3) := by decide +kernel
theorem dX9_best_163 : decode cX9_best 163 = .ok (.aload_n 0, 1) := by decide +kernel
theorem dX9_best_164 : decode cX9_best 164 = .ok (.aload_n 0, 1) := by decide +kernel
theorem dX9_best_165 : decode cX9_best 165 = .ok (.getfield 54, 3) := by decide +kernel
theorem dX9_best_168 : decode cX9_best 168 = .ok (.iload_n 1, 1) := by decide +kernel
theorem dX9_best_169 : decode cX9_best 169 = .ok (.iaload, 1) := by decide +kernel
theorem dX9_best_170 : decode cX9_best 170 = .ok (.iload 4, 2) := by decide +kernel
theorem dX9_best_172 : decode cX9_best 172 = .ok (.isub, 1) := by decide +kernel
theorem dX9_best_173 : decode cX9_best 173 = .ok (.iload 5, 2) := by decide +kernel
theorem dX9_best_175 : decode cX9_best 175 = .ok (.invokevirtual 175, 3) := by decide +kernel
theorem dX9_best_178 : decode cX9_best 178 = .ok (.aload_n 0, 1) := by decide +kernel
theorem dX9_best_179 : decode cX9_best 179 = .ok (.iconst 2, 1) := by decide +kernel
theorem dX9_best_180 : decode cX9_best 180 = .ok (.invokevirtual 160, 3) := by decide +kernel
theorem dX9_best_183 : decode cX9_best 183 = .ok (.iinc 6 1, 3) := by decide +kernel
theorem dX9_best_186 : decode cX9_best 186 = .ok (.goto (-109), 3) := by decide +kernel
theorem dX9_best_189 : decode cX9_best 189 = .ok (.iload_n 2, 1) := by decide +kernel
theorem dX9_best_190 : decode cX9_best 190 = .ok (.iconst 1, 1) := by decide +kernel
theorem dX9_best_191 : decode cX9_best 191 = .ok (.if_icmp .ne 18, 3) := by decide +kernel
theorem dX9_best_194 : decode cX9_best 194 = .ok (.aload_n 0, 1) := by decide +kernel
theorem dX9_best_195 : decode cX9_best 195 = .ok (.aload_n 0, 1) := by decide +kernel
theorem dX9_best_196 : decode cX9_best 196 = .ok (.getfield 54, 3) := by decide +kernel
theorem dX9_best_199 : decode cX9_best 199 = .ok (.iload_n 1, 1) := by decide +kernel
theorem dX9_best_200 : decode cX9_best 200 = .ok (.iaload, 1) := by decide +kernel
theorem dX9_best_201 : decode cX9_best 201 = .ok (.iload 4, 2) := by decide +kernel
theorem dX9_best_203 : decode cX9_best 203 = .ok (.isub, 1) := by decide +kernel
theorem dX9_best_204 : decode cX9_best 204 = .ok (.iload 5, 2) := by decide +kernel
theorem dX9_best_206 : decode cX9_best 206 = .ok (.invokevirtual 175, 3) := by decide +kernel
theorem dX9_best_209 : decode cX9_best 209 = .ok (.aload_n 0, 1) := by decide +kernel
theorem dX9_best_210 : decode cX9_best 210 = .ok (.iconst 1, 1) := by decide +kernel
theorem dX9_best_211 : decode cX9_best 211 = .ok (.invokevirtual 160, 3) := by decide +kernel
theorem dX9_best_214 : decode cX9_best 214 = .ok (.iinc 5 1, 3) := by decide +kernel
theorem dX9_best_217 : decode cX9_best 217 = .ok (.goto (-164), 3) := by decide +kernel
theorem dX9_best_220 : decode cX9_best 220 = .ok (.iload_n 3, 1) := by decide +kernel
theorem dX9_best_221 : decode cX9_best 221 = .ok (.ifCond .ne 10, 3) := by decide +kernel
theorem dX9_best_224 : decode cX9_best 224 = .ok (.aload_n 0, 1) := by decide +kernel
theorem dX9_best_225 : decode cX9_best 225 = .ok (.getfield 166, 3) := by decide +kernel
theorem dX9_best_228 : decode cX9_best 228 = .ok (.goto 7, 3) := by decide +kernel
theorem dX9_best_231 : decode cX9_best 231 = .ok (.aload_n 0, 1) := by decide +kernel
theorem dX9_best_232 : decode cX9_best 232 = .ok (.getfield 169, 3) := by decide +kernel
theorem dX9_best_235 : decode cX9_best 235 = .ok (.ireturn, 1) := by decide +kernel
theorem dX9_ship_0 : decode cX9_ship 0 = .ok (.iload_n 1, 1) := by decide +kernel
theorem dX9_ship_1 : decode cX9_ship 1 = .ok (.iconst 0, 1) := by decide +kernel
theorem dX9_ship_2 : decode cX9_ship 2 = .ok (.ldc 179, 2) := by decide +kernel
theorem dX9_ship_4 : decode cX9_ship 4 = .ok (.invokestatic 93, 3) := by decide +kernel
theorem dX9_ship_7 : decode cX9_ship 7 = .ok (.ifCond .eq 32, 3) := by decide +kernel
theorem dX9_ship_10 : decode cX9_ship 10 = .ok (.aload_n 0, 1) := by decide +kernel
theorem dX9_ship_11 : decode cX9_ship 11 = .ok (.iload_n 2, 1) := by decide +kernel
theorem dX9_ship_12 : decode cX9_ship 12 = .ok (.invokevirtual 110, 3) := by decide +kernel
theorem dX9_ship_15 : decode cX9_ship 15 = .ok (.ifCond .eq 24, 3) := by decide +kernel
theorem dX9_ship_18 : decode cX9_ship 18 = .ok (.iload_n 3, 1) := by decide +kernel
theorem dX9_ship_19 : decode cX9_ship 19 = .ok (.iconst 0, 1) := by decide +kernel
theorem dX9_ship_20 : decode cX9_ship 20 = .ok (.aload_n 0, 1) := by decide +kernel
theorem dX9_ship_21 : decode cX9_ship 21 = .ok (.getfield 104, 3) := by decide +kernel
theorem dX9_ship_24 : decode cX9_ship 24 = .ok (.invokestatic 93, 3) := by decide +kernel
theorem dX9_ship_27 : decode cX9_ship 27 = .ok (.ifCond .eq 12, 3) := by decide +kernel
theorem dX9_ship_30 : decode cX9_ship 30 = .ok (.aload_n 0, 1) := by decide +kernel
theorem dX9_ship_31 : decode cX9_ship 31 = .ok (.getfield 107, 3) := by decide +kernel
theorem dX9_ship_34 : decode cX9_ship 34 = .ok (.bipush 8, 2) := by decide +kernel
theorem dX9_ship_36 : decode cX9_ship 36 = .ok (.if_icmp .ne 5, 3) := by decide +kernel
theorem dX9_ship_39 : decode cX9_ship 39 = .ok (.iconst (-1), 1) := by decide +kernel
theorem dX9_ship_40 : decode cX9_ship 40 = .ok (.ireturn, 1) := by decide +kernel
theorem dX9_ship_41 : decode cX9_ship 41 = .ok (.aload_n 0, 1) := by decide +kernel
theorem dX9_ship_42 : decode cX9_ship 42 = .ok (.getfield 63, 3) := by decide +kernel
theorem dX9_ship_45 : decode cX9_ship 45 = .ok (.aload_n 0, 1) := by decide +kernel
theorem dX9_ship_46 : decode cX9_ship 46 = .ok (.getfield 107, 3) := by decide +kernel
theorem dX9_ship_49 : decode cX9_ship 49 = .ok (.iload_n 1, 1) := by decide +kernel
theorem dX9_ship_50 : decode cX9_ship 50 = .ok (.iastore, 1) := by decide +kernel
theorem dX9_ship_51 : decode cX9_ship 51 = .ok (.aload_n 0, 1) := by decide +kernel
theorem dX9_ship_52 : decode cX9_ship 52 = .ok (.getfield 66, 3) := by decide +kernel
theorem dX9_ship_55 : decode cX9_ship 55 = .ok (.aload_n 0, 1) := by decide +kernel
theorem dX9_ship_56 : decode cX9_ship 56 = .ok (.getfield 107, 3) := by decide +kernel
theorem dX9_ship_59 : decode cX9_ship 59 = .ok (.iload_n 2, 1) := by decide +kernel
theorem dX9_ship_60 : decode cX9_ship 60 = .ok (.iastore, 1) := by decide +kernel
theorem dX9_ship_61 : decode cX9_ship 61 = .ok (.aload_n 0, 1) := by decide +kernel
theorem dX9_ship_62 : decode cX9_ship 62 = .ok (.getfield 69, 3) := by decide +kernel
theorem dX9_ship_65 : decode cX9_ship 65 = .ok (.aload_n 0, 1) := by decide +kernel
theorem dX9_ship_66 : decode cX9_ship 66 = .ok (.getfield 107, 3) := by decide +kernel
theorem dX9_ship_69 : decode cX9_ship 69 = .ok (.iload_n 3, 1) := by decide +kernel
theorem dX9_ship_70 : decode cX9_ship 70 = .ok (.iastore, 1) := by decide +kernel
theorem dX9_ship_71 : decode cX9_ship 71 = .ok (.aload_n 0, 1) := by decide +kernel
theorem dX9_ship_72 : decode cX9_ship 72 = .ok (.dup, 1) := by decide +kernel
theorem dX9_ship_73 : decode cX9_ship 73 = .ok (.getfield 107, 3) := by decide +kernel
theorem dX9_ship_76 : decode cX9_ship 76 = .ok (.iconst 1, 1) := by decide +kernel
theorem dX9_ship_77 : decode cX9_ship 77 = .ok (.iadd, 1) := by decide +kernel
theorem dX9_ship_78 : decode cX9_ship 78 = .ok (.putfield 107, 3) := by decide +kernel
theorem dX9_ship_81 : decode cX9_ship 81 = .ok (.aload_n 0, 1) := by decide +kernel
theorem dX9_ship_82 : decode cX9_ship 82 = .ok (.getfield 107, 3) := by decide +kernel
theorem dX9_ship_85 : decode cX9_ship 85 = .ok (.iconst 1, 1) := by decide +kernel
theorem dX9_ship_86 : decode cX9_ship 86 = .ok (.isub, 1) := by decide +kernel
theorem dX9_ship_87 : decode cX9_ship 87 = .ok (.ireturn, 1) := by decide +kernel
theorem dX9_could_0 : decode cX9_could 0 = .ok (.iload_n 1, 1) := by decide +kernel
theorem dX9_could_1 : decode cX9_could 1 = .ok (.iconst 0, 1) := by decide +kernel
theorem dX9_could_2 : decode cX9_could 2 = .ok (.aload_n 0, 1) := by decide +kernel
theorem dX9_could_3 : decode cX9_could 3 = .ok (.getfield 107, 3) := by decide +kernel
theorem dX9_could_6 : decode cX9_could 6 = .ok (.iconst 1, 1) := by decide +kernel
theorem dX9_could_7 : decode cX9_could 7 = .ok (.isub, 1) := by decide +kernel
theorem dX9_could_8 : decode cX9_could 8 = .ok (.invokestatic 93, 3) := by decide +kernel
theorem dX9_could_11 : decode cX9_could 11 = .ok (.ifCond .eq 11, 3) := by decide +kernel
theorem dX9_could_14 : decode cX9_could 14 = .ok (.aload_n 0, 1) := by decide +kernel
theorem dX9_could_15 : decode cX9_could 15 = .ok (.iload_n 2, 1) := by decide +kernel
theorem dX9_could_16 : decode cX9_could 16 = .ok (.invokevirtual 110, 3) := by decide +kernel
theorem dX9_could_19 : decode cX9_could 19 = .ok (.ifCond .ne 5, 3) := by decide +kernel
theorem dX9_could_22 : decode cX9_could 22 = .ok (.iconst 0, 1) := by decide +kernel
theorem dX9_could_23 : decode cX9_could 23 = .ok (.ireturn, 1) := by decide +kernel
theorem dX9_could_24 : decode cX9_could 24 = .ok (.iconst 0, 1) := by decide +kernel
theorem dX9_could_25 : decode cX9_could 25 = .ok (.istore_n 3, 1) := by decide +kernel
theorem dX9_could_26 : decode cX9_could 26 = .ok (.iload_n 3, 1) := by decide +kernel
theorem dX9_could_27 : decode cX9_could 27 = .ok (.bipush 96, 2) := by decide +kernel
theorem dX9_could_29 : decode cX9_could 29 = .ok (.if_icmp .ge 30, 3) := by decide +kernel
theorem dX9_could_32 : decode cX9_could 32 = .ok (.aload_n 0, 1) := by decide +kernel
theorem dX9_could_33 : decode cX9_could 33 = .ok (.getfield 81, 3) := by decide +kernel
theorem dX9_could_36 : decode cX9_could 36 = .ok (.iload_n 3, 1) := by decide +kernel
theorem dX9_could_37 : decode cX9_could 37 = .ok (.iload_n 3, 1) := by decide +kernel
theorem dX9_could_38 : decode cX9_could 38 = .ok (.aload_n 0, 1) := by decide +kernel
theorem dX9_could_39 : decode cX9_could 39 = .ok (.getfield 66, 3) := by decide +kernel
theorem dX9_could_42 : decode cX9_could 42 = .ok (.iload_n 1, 1) := by decide +kernel
theorem dX9_could_43 : decode cX9_could 43 = .ok (.iaload, 1) := by decide +kernel
theorem dX9_could_44 : decode cX9_could 44 = .ok (.if_icmp .ne 7, 3) := by decide +kernel
theorem dX9_could_47 : decode cX9_could 47 = .ok (.iconst 1, 1) := by decide +kernel
theorem dX9_could_48 : decode cX9_could 48 = .ok (.goto 4, 3) := by decide +kernel
theorem dX9_could_51 : decode cX9_could 51 = .ok (.iconst 0, 1) := by decide +kernel
theorem dX9_could_52 : decode cX9_could 52 = .ok (.bastore, 1) := by decide +kernel
theorem dX9_could_53 : decode cX9_could 53 = .ok (.iinc 3 1, 3) := by decide +kernel
theorem dX9_could_56 : decode cX9_could 56 = .ok (.goto (-30), 3) := by decide +kernel
theorem dX9_could_59 : decode cX9_could 59 = .ok (.aload_n 0, 1) := by decide +kernel
theorem dX9_could_60 : decode cX9_could 60 = .ok (.getfield 69, 3) := by decide +kernel
theorem dX9_could_63 : decode cX9_could 63 = .ok (.iload_n 1, 1) := by decide +kernel
theorem dX9_could_64 : decode cX9_could 64 = .ok (.iaload, 1) := by decide +kernel
theorem dX9_could_65 : decode cX9_could 65 = .ok (.istore_n 3, 1) := by decide +kernel
theorem dX9_could_66 : decode cX9_could 66 = .ok (.iload_n 3, 1) := by decide +kernel
theorem dX9_could_67 : decode cX9_could 67 = .ok (.aload_n 0, 1) := by decide +kernel
theorem dX9_could_68 : decode cX9_could 68 = .ok (.getfield 104, 3) := by decide +kernel
theorem dX9_could_71 : decode cX9_could 71 = .ok (.if_icmp .ge 139, 3) := by decide +kernel
theorem dX9_could_74 : decode cX9_could 74 = .ok (.iconst 0, 1) := by decide +kernel
theorem dX9_could_75 : decode cX9_could 75 = .ok (.istore 4, 2) := by decide +kernel
theorem dX9_could_77 : decode cX9_could 77 = .ok (.iload 4, 2) := by decide +kernel
theorem dX9_could_79 : decode cX9_could 79 = .ok (.bipush 96, 2) := by decide +kernel
theorem dX9_could_81 : decode cX9_could 81 = .ok (.if_icmp .ge 23, 3) := by decide +kernel
theorem dX9_could_84 : decode cX9_could 84 = .ok (.aload_n 0, 1) := by decide +kernel
theorem dX9_could_85 : decode cX9_could 85 = .ok (.getfield 84, 3) := by decide +kernel
theorem dX9_could_88 : decode cX9_could 88 = .ok (.iload 4, 2) := by decide +kernel
theorem dX9_could_90 : decode cX9_could 90 = .ok (.aload_n 0, 1) := by decide +kernel
theorem dX9_could_91 : decode cX9_could 91 = .ok (.getfield 81, 3) := by decide +kernel
theorem dX9_could_94 : decode cX9_could 94 = .ok (.iload 4, 2) := by decide +kernel
theorem dX9_could_96 : decode cX9_could 96 = .ok (.baload, 1) := by decide +kernel
theorem dX9_could_97 : decode cX9_could 97 = .ok (.bastore, 1) := by decide +kernel
theorem dX9_could_98 : decode cX9_could 98 = .ok (.iinc 4 1, 3) := by decide +kernel
theorem dX9_could_101 : decode cX9_could 101 = .ok (.goto (-24), 3) := by decide +kernel
theorem dX9_could_104 : decode cX9_could 104 = .ok (.iconst 0, 1) := by decide +kernel
theorem dX9_could_105 : decode cX9_could 105 = .ok (.istore 4, 2) := by decide +kernel
theorem dX9_could_107 : decode cX9_could 107 = .ok (.iload 4, 2) := by decide +kernel
theorem dX9_could_109 : decode cX9_could 109 = .ok (.bipush 96, 2) := by decide +kernel
theorem dX9_could_111 : decode cX9_could 111 = .ok (.if_icmp .ge 63, 3) := by decide +kernel
theorem dX9_could_114 : decode cX9_could 114 = .ok (.aload_n 0, 1) := by decide +kernel
theorem dX9_could_115 : decode cX9_could 115 = .ok (.getfield 16, 3) := by decide +kernel
theorem dX9_could_118 : decode cX9_could 118 = .ok (.iload_n 3, 1) := by decide +kernel
theorem dX9_could_119 : decode cX9_could 119 = .ok (.iaload, 1) := by decide +kernel
theorem dX9_could_120 : decode cX9_could 120 = .ok (.ifCond .le 54, 3) := by decide +kernel
theorem dX9_could_123 : decode cX9_could 123 = .ok (.aload_n 0, 1) := by decide +kernel
theorem dX9_could_124 : decode cX9_could 124 = .ok (.getfield 81, 3) := by decide +kernel
theorem dX9_could_127 : decode cX9_could 127 = .ok (.iload 4, 2) := by decide +kernel
theorem dX9_could_129 : decode cX9_could 129 = .ok (.baload, 1) := by decide +kernel
theorem dX9_could_130 : decode cX9_could 130 = .ok (.ifCond .eq 38, 3) := by decide +kernel
theorem dX9_could_133 : decode cX9_could 133 = .ok (.aload_n 0, 1) := by decide +kernel
theorem dX9_could_134 : decode cX9_could 134 = .ok (.iload 4, 2) := by decide +kernel
theorem dX9_could_136 : decode cX9_could 136 = .ok (.aload_n 0, 1) := by decide +kernel
theorem dX9_could_137 : decode cX9_could 137 = .ok (.getfield 16, 3) := by decide +kernel
theorem dX9_could_140 : decode cX9_could 140 = .ok (.iload_n 3, 1) := by decide +kernel
theorem dX9_could_141 : decode cX9_could 141 = .ok (.iaload, 1) := by decide +kernel
theorem dX9_could_142 : decode cX9_could 142 = .ok (.invokestatic 126, 3) := by decide +kernel
theorem dX9_could_145 : decode cX9_could 145 = .ok (.invokevirtual 110, 3) := by decide +kernel
theorem dX9_could_148 : decode cX9_could 148 = .ok (.ifCond .eq 20, 3) := by decide +kernel
theorem dX9_could_151 : decode cX9_could 151 = .ok (.aload_n 0, 1) := by decide +kernel
theorem dX9_could_152 : decode cX9_could 152 = .ok (.getfield 84, 3) := by decide +kernel
theorem dX9_could_155 : decode cX9_could 155 = .ok (.iload 4, 2) := by decide +kernel
theorem dX9_could_157 : decode cX9_could 157 = .ok (.aload_n 0, 1) := by decide +kernel
theorem dX9_could_158 : decode cX9_could 158 = .ok (.getfield 16, 3) := by decide +kernel
theorem dX9_could_161 : decode cX9_could 161 = .ok (.iload_n 3, 1) := by decide +kernel
theorem dX9_could_162 : decode cX9_could 162 = .ok (.iaload, 1) := by decide +kernel
theorem dX9_could_163 : decode cX9_could 163 = .ok (.invokestatic 126, 3) := by decide +kernel
theorem dX9_could_166 : decode cX9_could 166 = .ok (.iconst 1, 1) := by decide +kernel
theorem dX9_could_167 : decode cX9_could 167 = .ok (.bastore, 1) := by decide +kernel
theorem dX9_could_168 : decode cX9_could 168 = .ok (.iinc 4 1, 3) := by decide +kernel
theorem dX9_could_171 : decode cX9_could 171 = .ok (.goto (-64), 3) := by decide +kernel
theorem dX9_could_174 : decode cX9_could 174 = .ok (.iconst 0, 1) := by decide +kernel
theorem dX9_could_175 : decode cX9_could 175 = .ok (.istore 4, 2) := by decide +kernel
theorem dX9_could_177 : decode cX9_could 177 = .ok (.iload 4, 2) := by decide +kernel
theorem dX9_could_179 : decode cX9_could 179 = .ok (.bipush 96, 2) := by decide +kernel
theorem dX9_could_181 : decode cX9_could 181 = .ok (.if_icmp .ge 23, 3) := by decide +kernel
theorem dX9_could_184 : decode cX9_could 184 = .ok (.aload_n 0, 1) := by decide +kernel
theorem dX9_could_185 : decode cX9_could 185 = .ok (.getfield 81, 3) := by decide +kernel
theorem dX9_could_188 : decode cX9_could 188 = .ok (.iload 4, 2) := by decide +kernel
theorem dX9_could_190 : decode cX9_could 190 = .ok (.aload_n 0, 1) := by decide +kernel
theorem dX9_could_191 : decode cX9_could 191 = .ok (.getfield 84, 3) := by decide +kernel
theorem dX9_could_194 : decode cX9_could 194 = .ok (.iload 4, 2) := by decide +kernel
theorem dX9_could_196 : decode cX9_could 196 = .ok (.baload, 1) := by decide +kernel
theorem dX9_could_197 : decode cX9_could 197 = .ok (.bastore, 1) := by decide +kernel
theorem dX9_could_198 : decode cX9_could 198 = .ok (.iinc 4 1, 3) := by decide +kernel
theorem dX9_could_201 : decode cX9_could 201 = .ok (.goto (-24), 3) := by decide +kernel
theorem dX9_could_204 : decode cX9_could 204 = .ok (.iinc 3 1, 3) := by decide +kernel
theorem dX9_could_207 : decode cX9_could 207 = .ok (.goto (-141), 3) := by decide +kernel
theorem dX9_could_210 : decode cX9_could 210 = .ok (.aload_n 0, 1) := by decide +kernel
theorem dX9_could_211 : decode cX9_could 211 = .ok (.getfield 81, 3) := by decide +kernel
theorem dX9_could_214 : decode cX9_could 214 = .ok (.iload_n 2, 1) := by decide +kernel
theorem dX9_could_215 : decode cX9_could 215 = .ok (.baload, 1) := by decide +kernel
theorem dX9_could_216 : decode cX9_could 216 = .ok (.ireturn, 1) := by decide +kernel
theorem dX9_apart_0 : decode cX9_apart 0 = .ok (.iconst 0, 1) := by decide +kernel
theorem dX9_apart_1 : decode cX9_apart 1 = .ok (.istore_n 2, 1) := by decide +kernel
theorem dX9_apart_2 : decode cX9_apart 2 = .ok (.iload_n 0, 1) := by decide +kernel
theorem dX9_apart_3 : decode cX9_apart 3 = .ok (.istore_n 3, 1) := by decide +kernel
theorem dX9_apart_4 : decode cX9_apart 4 = .ok (.iload_n 1, 1) := by decide +kernel
theorem dX9_apart_5 : decode cX9_apart 5 = .ok (.istore 4, 2) := by decide +kernel
theorem dX9_apart_7 : decode cX9_apart 7 = .ok (.iconst 0, 1) := by decide +kernel
theorem dX9_apart_8 : decode cX9_apart 8 = .ok (.istore 5, 2) := by decide +kernel
theorem dX9_apart_10 : decode cX9_apart 10 = .ok (.iload 5, 2) := by decide +kernel
theorem dX9_apart_12 : decode cX9_apart 12 = .ok (.bipush 6, 2) := by decide +kernel
theorem dX9_apart_14 : decode cX9_apart 14 = .ok (.if_icmp .ge 45, 3) := by decide +kernel
theorem dX9_apart_17 : decode cX9_apart 17 = .ok (.iload_n 2, 1) := by decide +kernel
theorem dX9_apart_18 : decode cX9_apart 18 = .ok (.iload_n 3, 1) := by decide +kernel
theorem dX9_apart_19 : decode cX9_apart 19 = .ok (.bipush 10, 2) := by decide +kernel
theorem dX9_apart_21 : decode cX9_apart 21 = .ok (.irem, 1) := by decide +kernel
theorem dX9_apart_22 : decode cX9_apart 22 = .ok (.iload 4, 2) := by decide +kernel
theorem dX9_apart_24 : decode cX9_apart 24 = .ok (.bipush 10, 2) := by decide +kernel
theorem dX9_apart_26 : decode cX9_apart 26 = .ok (.irem, 1) := by decide +kernel
theorem dX9_apart_27 : decode cX9_apart 27 = .ok (.isub, 1) := by decide +kernel
theorem dX9_apart_28 : decode cX9_apart 28 = .ok (.iload_n 3, 1) := by decide +kernel
theorem dX9_apart_29 : decode cX9_apart 29 = .ok (.bipush 10, 2) := by decide +kernel
theorem dX9_apart_31 : decode cX9_apart 31 = .ok (.irem, 1) := by decide +kernel
theorem dX9_apart_32 : decode cX9_apart 32 = .ok (.iload 4, 2) := by decide +kernel
theorem dX9_apart_34 : decode cX9_apart 34 = .ok (.bipush 10, 2) := by decide +kernel
theorem dX9_apart_36 : decode cX9_apart 36 = .ok (.irem, 1) := by decide +kernel
theorem dX9_apart_37 : decode cX9_apart 37 = .ok (.isub, 1) := by decide +kernel
theorem dX9_apart_38 : decode cX9_apart 38 = .ok (.imul, 1) := by decide +kernel
theorem dX9_apart_39 : decode cX9_apart 39 = .ok (.iadd, 1) := by decide +kernel
theorem dX9_apart_40 : decode cX9_apart 40 = .ok (.istore_n 2, 1) := by decide +kernel
theorem dX9_apart_41 : decode cX9_apart 41 = .ok (.iload_n 3, 1) := by decide +kernel
theorem dX9_apart_42 : decode cX9_apart 42 = .ok (.bipush 10, 2) := by decide +kernel
theorem dX9_apart_44 : decode cX9_apart 44 = .ok (.idiv, 1) := by decide +kernel
theorem dX9_apart_45 : decode cX9_apart 45 = .ok (.istore_n 3, 1) := by decide +kernel
theorem dX9_apart_46 : decode cX9_apart 46 = .ok (.iload 4, 2) := by decide +kernel
theorem dX9_apart_48 : decode cX9_apart 48 = .ok (.bipush 10, 2) := by decide +kernel
theorem dX9_apart_50 : decode cX9_apart 50 = .ok (.idiv, 1) := by decide +kernel
theorem dX9_apart_51 : decode cX9_apart 51 = .ok (.istore 4, 2) := by decide +kernel
theorem dX9_apart_53 : decode cX9_apart 53 = .ok (.iinc 5 1, 3) := by decide +kernel
theorem dX9_apart_56 : decode cX9_apart 56 = .ok (.goto (-46), 3) := by decide +kernel
theorem dX9_apart_59 : decode cX9_apart 59 = .ok (.iload_n 2, 1) := by decide +kernel
theorem dX9_apart_60 : decode cX9_apart 60 = .ok (.ireturn, 1) := by decide +kernel
theorem dX9_sample_0 : decode cX9_sample 0 = .ok (.iload_n 2, 1) := by decide +kernel
theorem dX9_sample_1 : decode cX9_sample 1 = .ok (.iconst 0, 1) := by decide +kernel
theorem dX9_sample_2 : decode cX9_sample 2 = .ok (.ldc 179, 2) := by decide +kernel
theorem dX9_sample_4 : decode cX9_sample 4 = .ok (.invokestatic 93, 3) := by decide +kernel
theorem dX9_sample_7 : decode cX9_sample 7 = .ok (.ifCond .ne 5, 3) := by decide +kernel
theorem dX9_sample_10 : decode cX9_sample 10 = .ok (.iconst (-1), 1) := by decide +kernel
theorem dX9_sample_11 : decode cX9_sample 11 = .ok (.ireturn, 1) := by decide +kernel
theorem dX9_sample_12 : decode cX9_sample 12 = .ok (.iconst (-1), 1) := by decide +kernel
theorem dX9_sample_13 : decode cX9_sample 13 = .ok (.istore_n 3, 1) := by decide +kernel
theorem dX9_sample_14 : decode cX9_sample 14 = .ok (.iconst 0, 1) := by decide +kernel
theorem dX9_sample_15 : decode cX9_sample 15 = .ok (.istore 4, 2) := by decide +kernel
theorem dX9_sample_17 : decode cX9_sample 17 = .ok (.iload 4, 2) := by decide +kernel
theorem dX9_sample_19 : decode cX9_sample 19 = .ok (.aload_n 0, 1) := by decide +kernel
theorem dX9_sample_20 : decode cX9_sample 20 = .ok (.getfield 107, 3) := by decide +kernel
theorem dX9_sample_23 : decode cX9_sample 23 = .ok (.if_icmp .ge 51, 3) := by decide +kernel
theorem dX9_sample_26 : decode cX9_sample 26 = .ok (.aload_n 0, 1) := by decide +kernel
theorem dX9_sample_27 : decode cX9_sample 27 = .ok (.iload 4, 2) := by decide +kernel
theorem dX9_sample_29 : decode cX9_sample 29 = .ok (.iload_n 1, 1) := by decide +kernel
theorem dX9_sample_30 : decode cX9_sample 30 = .ok (.invokevirtual 180, 3) := by decide +kernel
theorem dX9_sample_33 : decode cX9_sample 33 = .ok (.ifCond .eq 35, 3) := by decide +kernel
theorem dX9_sample_36 : decode cX9_sample 36 = .ok (.iload_n 3, 1) := by decide +kernel
theorem dX9_sample_37 : decode cX9_sample 37 = .ok (.iconst (-1), 1) := by decide +kernel
theorem dX9_sample_38 : decode cX9_sample 38 = .ok (.if_icmp .eq 27, 3) := by decide +kernel
theorem dX9_sample_41 : decode cX9_sample 41 = .ok (.aload_n 0, 1) := by decide +kernel
theorem dX9_sample_42 : decode cX9_sample 42 = .ok (.getfield 63, 3) := by decide +kernel
theorem dX9_sample_45 : decode cX9_sample 45 = .ok (.iload 4, 2) := by decide +kernel
theorem dX9_sample_47 : decode cX9_sample 47 = .ok (.iaload, 1) := by decide +kernel
theorem dX9_sample_48 : decode cX9_sample 48 = .ok (.iload_n 2, 1) := by decide +kernel
theorem dX9_sample_49 : decode cX9_sample 49 = .ok (.invokestatic 183, 3) := by decide +kernel
theorem dX9_sample_52 : decode cX9_sample 52 = .ok (.aload_n 0, 1) := by decide +kernel
theorem dX9_sample_53 : decode cX9_sample 53 = .ok (.getfield 63, 3) := by decide +kernel
theorem dX9_sample_56 : decode cX9_sample 56 = .ok (.iload_n 3, 1) := by decide +kernel
theorem dX9_sample_57 : decode cX9_sample 57 = .ok (.iaload, 1) := by decide +kernel
theorem dX9_sample_58 : decode cX9_sample 58 = .ok (.iload_n 2, 1) := by decide +kernel
theorem dX9_sample_59 : decode cX9_sample 59 = .ok (.invokestatic 183, 3) := by decide +kernel
theorem dX9_sample_62 : decode cX9_sample 62 = .ok (.if_icmp .ge 6, 3) := by decide +kernel
theorem dX9_sample_65 : decode cX9_sample 65 = .ok (.iload 4, 2) := by decide +kernel
theorem dX9_sample_67 : decode cX9_sample 67 = .ok (.istore_n 3, 1) := by decide +kernel
theorem dX9_sample_68 : decode cX9_sample 68 = .ok (.iinc 4 1, 3) := by decide +kernel
theorem dX9_sample_71 : decode cX9_sample 71 = .ok (.goto (-54), 3) := by decide +kernel
theorem dX9_sample_74 : decode cX9_sample 74 = .ok (.iconst 0, 1) := by decide +kernel
theorem dX9_sample_75 : decode cX9_sample 75 = .ok (.istore 4, 2) := by decide +kernel
theorem dX9_sample_77 : decode cX9_sample 77 = .ok (.iload 4, 2) := by decide +kernel
theorem dX9_sample_79 : decode cX9_sample 79 = .ok (.aload_n 0, 1) := by decide +kernel
theorem dX9_sample_80 : decode cX9_sample 80 = .ok (.getfield 107, 3) := by decide +kernel
theorem dX9_sample_83 : decode cX9_sample 83 = .ok (.if_icmp .ge 54, 3) := by decide +kernel
theorem dX9_sample_86 : decode cX9_sample 86 = .ok (.iload 4, 2) := by decide +kernel
theorem dX9_sample_88 : decode cX9_sample 88 = .ok (.iload_n 3, 1) := by decide +kernel
theorem dX9_sample_89 : decode cX9_sample 89 = .ok (.if_icmp .eq 42, 3) := by decide +kernel
theorem dX9_sample_92 : decode cX9_sample 92 = .ok (.aload_n 0, 1) := by decide +kernel
theorem dX9_sample_93 : decode cX9_sample 93 = .ok (.iload 4, 2) := by decide +kernel
theorem dX9_sample_95 : decode cX9_sample 95 = .ok (.iload_n 1, 1) := by decide +kernel
theorem dX9_sample_96 : decode cX9_sample 96 = .ok (.invokevirtual 180, 3) := by decide +kernel
theorem dX9_sample_99 : decode cX9_sample 99 = .ok (.ifCond .eq 32, 3) := by decide +kernel
theorem dX9_sample_102 : decode cX9_sample 102 = .ok (.aload_n 0, 1) := by decide +kernel
theorem dX9_sample_103 : decode cX9_sample 103 = .ok (.getfield 63, 3) := by decide +kernel
theorem dX9_sample_106 : decode cX9_sample 106 = .ok (.iload 4, 2) := by decide +kernel
theorem dX9_sample_108 : decode cX9_sample 108 = .ok (.iaload, 1) := by decide +kernel
theorem dX9_sample_109 : decode cX9_sample 109 = .ok (.iload_n 2, 1) := by decide +kernel
theorem dX9_sample_110 : decode cX9_sample 110 = .ok (.invokestatic 183, 3) := by decide +kernel
theorem dX9_sample_113 : decode cX9_sample 113 = .ok (.aload_n 0, 1) := by decide +kernel
theorem dX9_sample_114 : decode cX9_sample 114 = .ok (.getfield 63, 3) := by decide +kernel
theorem dX9_sample_117 : decode cX9_sample 117 = .ok (.iload_n 3, 1) := by decide +kernel
theorem dX9_sample_118 : decode cX9_sample 118 = .ok (.iaload, 1) := by decide +kernel
theorem dX9_sample_119 : decode cX9_sample 119 = .ok (.iload_n 2, 1) := by decide +kernel
theorem dX9_sample_120 : decode cX9_sample 120 = .ok (.invokestatic 183, 3) := by decide +kernel
theorem dX9_sample_123 : decode cX9_sample 123 = .ok (.iconst 5, 1) := by decide +kernel
theorem dX9_sample_124 : decode cX9_sample 124 = .ok (.iadd, 1) := by decide +kernel
theorem dX9_sample_125 : decode cX9_sample 125 = .ok (.if_icmp .ge 6, 3) := by decide +kernel
theorem dX9_sample_128 : decode cX9_sample 128 = .ok (.bipush (-2), 2) := by decide +kernel
theorem dX9_sample_130 : decode cX9_sample 130 = .ok (.ireturn, 1) := by decide +kernel
theorem dX9_sample_131 : decode cX9_sample 131 = .ok (.iinc 4 1, 3) := by decide +kernel
theorem dX9_sample_134 : decode cX9_sample 134 = .ok (.goto (-57), 3) := by decide +kernel
theorem dX9_sample_137 : decode cX9_sample 137 = .ok (.iload_n 3, 1) := by decide +kernel
theorem dX9_sample_138 : decode cX9_sample 138 = .ok (.ireturn, 1) := by decide +kernel
theorem dX9_part_0 : decode cX9_part 0 = .ok (.iload_n 1, 1) := by decide +kernel
theorem dX9_part_1 : decode cX9_part 1 = .ok (.iconst 0, 1) := by decide +kernel
theorem dX9_part_2 : decode cX9_part 2 = .ok (.iconst 3, 1) := by decide +kernel
theorem dX9_part_3 : decode cX9_part 3 = .ok (.invokestatic 93, 3) := by decide +kernel
theorem dX9_part_6 : decode cX9_part 6 = .ok (.ifCond .eq 13, 3) := by decide +kernel
theorem dX9_part_9 : decode cX9_part 9 = .ok (.iload_n 2, 1) := by decide +kernel
theorem dX9_part_10 : decode cX9_part 10 = .ok (.iconst 0, 1) := by decide +kernel
theorem dX9_part_11 : decode cX9_part 11 = .ok (.bipush 100, 2) := by decide +kernel
theorem dX9_part_13 : decode cX9_part 13 = .ok (.invokestatic 93, 3) := by decide +kernel
theorem dX9_part_16 : decode cX9_part 16 = .ok (.ifCond .ne 5, 3) := by decide +kernel
theorem dX9_part_19 : decode cX9_part 19 = .ok (.iconst 0, 1) := by decide +kernel
theorem dX9_part_20 : decode cX9_part 20 = .ok (.ireturn, 1) := by decide +kernel
theorem dX9_part_21 : decode cX9_part 21 = .ok (.aload_n 0, 1) := by decide +kernel
theorem dX9_part_22 : decode cX9_part 22 = .ok (.getfield 72, 3) := by decide +kernel
theorem dX9_part_25 : decode cX9_part 25 = .ok (.iload_n 1, 1) := by decide +kernel
theorem dX9_part_26 : decode cX9_part 26 = .ok (.iload_n 2, 1) := by decide +kernel
theorem dX9_part_27 : decode cX9_part 27 = .ok (.iastore, 1) := by decide +kernel
theorem dX9_part_28 : decode cX9_part 28 = .ok (.iconst 1, 1) := by decide +kernel
theorem dX9_part_29 : decode cX9_part 29 = .ok (.ireturn, 1) := by decide +kernel
theorem dX9_billAll_0 : decode cX9_billAll 0 = .ok (.iconst 2, 1) := by decide +kernel
theorem dX9_billAll_1 : decode cX9_billAll 1 = .ok (.aload_n 0, 1) := by decide +kernel
theorem dX9_billAll_2 : decode cX9_billAll 2 = .ok (.getfield 146, 3) := by decide +kernel
theorem dX9_billAll_5 : decode cX9_billAll 5 = .ok (.imul, 1) := by decide +kernel
theorem dX9_billAll_6 : decode cX9_billAll 6 = .ok (.bipush 10, 2) := by decide +kernel
theorem dX9_billAll_8 : decode cX9_billAll 8 = .ok (.aload_n 0, 1) := by decide +kernel
theorem dX9_billAll_9 : decode cX9_billAll 9 = .ok (.invokevirtual 156, 3) := by decide +kernel
theorem dX9_billAll_12 : decode cX9_billAll 12 = .ok (.imul, 1) := by decide +kernel
theorem dX9_billAll_13 : decode cX9_billAll 13 = .ok (.iadd, 1) := by decide +kernel
theorem dX9_billAll_14 : decode cX9_billAll 14 = .ok (.istore_n 1, 1) := by decide +kernel
theorem dX9_billAll_15 : decode cX9_billAll 15 = .ok (.iconst 0, 1) := by decide +kernel
theorem dX9_billAll_16 : decode cX9_billAll 16 = .ok (.istore_n 2, 1) := by decide +kernel
theorem dX9_billAll_17 : decode cX9_billAll 17 = .ok (.iload_n 2, 1) := by decide +kernel
theorem dX9_billAll_18 : decode cX9_billAll 18 = .ok (.aload_n 0, 1) := by decide +kernel
theorem dX9_billAll_19 : decode cX9_billAll 19 = .ok (.getfield 101, 3) := by decide +kernel
theorem dX9_billAll_22 : decode cX9_billAll 22 = .ok (.if_icmp .ge 26, 3) := by decide +kernel
theorem dX9_billAll_25 : decode cX9_billAll 25 = .ok (.iload_n 1, 1) := by decide +kernel
theorem dX9_billAll_26 : decode cX9_billAll 26 = .ok (.bipush 50, 2) := by decide +kernel
theorem dX9_billAll_28 : decode cX9_billAll 28 = .ok (.aload_n 0, 1) := by decide +kernel
theorem dX9_billAll_29 : decode cX9_billAll 29 = .ok (.getfield 104, 3) := by decide +kernel
theorem dX9_billAll_32 : decode cX9_billAll 32 = .ok (.aload_n 0, 1) := by decide +kernel
theorem dX9_billAll_33 : decode cX9_billAll 33 = .ok (.getfield 57, 3) := by decide +kernel
theorem dX9_billAll_36 : decode cX9_billAll 36 = .ok (.iload_n 2, 1) := by decide +kernel
theorem dX9_billAll_37 : decode cX9_billAll 37 = .ok (.iaload, 1) := by decide +kernel
theorem dX9_billAll_38 : decode cX9_billAll 38 = .ok (.isub, 1) := by decide +kernel
theorem dX9_billAll_39 : decode cX9_billAll 39 = .ok (.imul, 1) := by decide +kernel
theorem dX9_billAll_40 : decode cX9_billAll 40 = .ok (.iadd, 1) := by decide +kernel
theorem dX9_billAll_41 : decode cX9_billAll 41 = .ok (.istore_n 1, 1) := by decide +kernel
theorem dX9_billAll_42 : decode cX9_billAll 42 = .ok (.iinc 2 1, 3) := by decide +kernel
theorem dX9_billAll_45 : decode cX9_billAll 45 = .ok (.goto (-28), 3) := by decide +kernel
theorem dX9_billAll_48 : decode cX9_billAll 48 = .ok (.iload_n 1, 1) := by decide +kernel
theorem dX9_billAll_49 : decode cX9_billAll 49 = .ok (.ireturn, 1) := by decide +kernel
theorem dX9_bill_0 : decode cX9_bill 0 = .ok (.iload_n 1, 1) := by decide +kernel
theorem dX9_bill_1 : decode cX9_bill 1 = .ok (.iconst 0, 1) := by decide +kernel
theorem dX9_bill_2 : decode cX9_bill 2 = .ok (.iconst 3, 1) := by decide +kernel
theorem dX9_bill_3 : decode cX9_bill 3 = .ok (.invokestatic 93, 3) := by decide +kernel
theorem dX9_bill_6 : decode cX9_bill 6 = .ok (.ifCond .ne 5, 3) := by decide +kernel
theorem dX9_bill_9 : decode cX9_bill 9 = .ok (.iconst (-1), 1) := by decide +kernel
theorem dX9_bill_10 : decode cX9_bill 10 = .ok (.ireturn, 1) := by decide +kernel
theorem dX9_bill_11 : decode cX9_bill 11 = .ok (.iconst 0, 1) := by decide +kernel
theorem dX9_bill_12 : decode cX9_bill 12 = .ok (.istore_n 2, 1) := by decide +kernel
theorem dX9_bill_13 : decode cX9_bill 13 = .ok (.iconst 0, 1) := by decide +kernel
theorem dX9_bill_14 : decode cX9_bill 14 = .ok (.istore_n 3, 1) := by decide +kernel
theorem dX9_bill_15 : decode cX9_bill 15 = .ok (.iload_n 3, 1) := by decide +kernel
theorem dX9_bill_16 : decode cX9_bill 16 = .ok (.iconst 4, 1) := by decide +kernel
theorem dX9_bill_17 : decode cX9_bill 17 = .ok (.if_icmp .ge 18, 3) := by decide +kernel
theorem dX9_bill_20 : decode cX9_bill 20 = .ok (.iload_n 2, 1) := by decide +kernel
theorem dX9_bill_21 : decode cX9_bill 21 = .ok (.aload_n 0, 1) := by decide +kernel
theorem dX9_bill_22 : decode cX9_bill 22 = .ok (.getfield 72, 3) := by decide +kernel
theorem dX9_bill_25 : decode cX9_bill 25 = .ok (.iload_n 3, 1) := by decide +kernel
theorem dX9_bill_26 : decode cX9_bill 26 = .ok (.iaload, 1) := by decide +kernel
theorem dX9_bill_27 : decode cX9_bill 27 = .ok (.iadd, 1) := by decide +kernel
theorem dX9_bill_28 : decode cX9_bill 28 = .ok (.istore_n 2, 1) := by decide +kernel
theorem dX9_bill_29 : decode cX9_bill 29 = .ok (.iinc 3 1, 3) := by decide +kernel
theorem dX9_bill_32 : decode cX9_bill 32 = .ok (.goto (-17), 3) := by decide +kernel
theorem dX9_bill_35 : decode cX9_bill 35 = .ok (.iload_n 2, 1) := by decide +kernel
theorem dX9_bill_36 : decode cX9_bill 36 = .ok (.ifCond .ne 5, 3) := by decide +kernel
theorem dX9_bill_39 : decode cX9_bill 39 = .ok (.iconst 0, 1) := by decide +kernel
theorem dX9_bill_40 : decode cX9_bill 40 = .ok (.ireturn, 1) := by decide +kernel
theorem dX9_bill_41 : decode cX9_bill 41 = .ok (.aload_n 0, 1) := by decide +kernel
theorem dX9_bill_42 : decode cX9_bill 42 = .ok (.invokevirtual 186, 3) := by decide +kernel
theorem dX9_bill_45 : decode cX9_bill 45 = .ok (.istore_n 3, 1) := by decide +kernel
theorem dX9_bill_46 : decode cX9_bill 46 = .ok (.iload_n 3, 1) := by decide +kernel
theorem dX9_bill_47 : decode cX9_bill 47 = .ok (.i2l, 1) := by decide +kernel
theorem dX9_bill_48 : decode cX9_bill 48 = .ok (.lstore 4, 2) := by decide +kernel
theorem dX9_bill_50 : decode cX9_bill 50 = .ok (.iconst 0, 1) := by decide +kernel
theorem dX9_bill_51 : decode cX9_bill 51 = .ok (.istore 6, 2) := by decide +kernel
theorem dX9_bill_53 : decode cX9_bill 53 = .ok (.iload 6, 2) := by decide +kernel
theorem dX9_bill_55 : decode cX9_bill 55 = .ok (.iconst 4, 1) := by decide +kernel
theorem dX9_bill_56 : decode cX9_bill 56 = .ok (.if_icmp .ge 63, 3) := by decide +kernel
theorem dX9_bill_59 : decode cX9_bill 59 = .ok (.aload_n 0, 1) := by decide +kernel
theorem dX9_bill_60 : decode cX9_bill 60 = .ok (.getfield 90, 3) := by decide +kernel
theorem dX9_bill_63 : decode cX9_bill 63 = .ok (.iload 6, 2) := by decide +kernel
theorem dX9_bill_65 : decode cX9_bill 65 = .ok (.lload 4, 2) := by decide +kernel
theorem dX9_bill_67 : decode cX9_bill 67 = .ok (.aload_n 0, 1) := by decide +kernel
theorem dX9_bill_68 : decode cX9_bill 68 = .ok (.getfield 72, 3) := by decide +kernel
theorem dX9_bill_71 : decode cX9_bill 71 = .ok (.iload 6, 2) := by decide +kernel
theorem dX9_bill_73 : decode cX9_bill 73 = .ok (.iaload, 1) := by decide +kernel
theorem dX9_bill_74 : decode cX9_bill 74 = .ok (.i2l, 1) := by decide +kernel
theorem dX9_bill_75 : decode cX9_bill 75 = .ok (.lmul, 1) := by decide +kernel
theorem dX9_bill_76 : decode cX9_bill 76 = .ok (.iload_n 2, 1) := by decide +kernel
theorem dX9_bill_77 : decode cX9_bill 77 = .ok (.i2l, 1) := by decide +kernel
theorem dX9_bill_78 : decode cX9_bill 78 = .ok (.ldiv, 1) := by decide +kernel
theorem dX9_bill_79 : decode cX9_bill 79 = .ok (.l2i, 1) := by decide +kernel
theorem dX9_bill_80 : decode cX9_bill 80 = .ok (.iastore, 1) := by decide +kernel
theorem dX9_bill_81 : decode cX9_bill 81 = .ok (.aload_n 0, 1) := by decide +kernel
theorem dX9_bill_82 : decode cX9_bill 82 = .ok (.getfield 87, 3) := by decide +kernel
theorem dX9_bill_85 : decode cX9_bill 85 = .ok (.iload 6, 2) := by decide +kernel
theorem dX9_bill_87 : decode cX9_bill 87 = .ok (.lload 4, 2) := by decide +kernel
theorem dX9_bill_89 : decode cX9_bill 89 = .ok (.aload_n 0, 1) := by decide +kernel
theorem dX9_bill_90 : decode cX9_bill 90 = .ok (.getfield 72, 3) := by decide +kernel
theorem dX9_bill_93 : decode cX9_bill 93 = .ok (.iload 6, 2) := by decide +kernel
theorem dX9_bill_95 : decode cX9_bill 95 = .ok (.iaload, 1) := by decide +kernel
theorem dX9_bill_96 : decode cX9_bill 96 = .ok (.i2l, 1) := by decide +kernel
theorem dX9_bill_97 : decode cX9_bill 97 = .ok (.lmul, 1) := by decide +kernel
theorem dX9_bill_98 : decode cX9_bill 98 = .ok (.iload_n 2, 1) := by decide +kernel
theorem dX9_bill_99 : decode cX9_bill 99 = .ok (.i2l, 1) := by decide +kernel
theorem dX9_bill_100 : decode cX9_bill 100 = .ok (.lrem, 1) := by decide +kernel
theorem dX9_bill_101 : decode cX9_bill 101 = .ok (.l2i, 1) := by decide +kernel
theorem dX9_bill_102 : decode cX9_bill 102 = .ok (.iastore, 1) := by decide +kernel
theorem dX9_bill_103 : decode cX9_bill 103 = .ok (.iload_n 3, 1) := by decide +kernel
theorem dX9_bill_104 : decode cX9_bill 104 = .ok (.aload_n 0, 1) := by decide +kernel
theorem dX9_bill_105 : decode cX9_bill 105 = .ok (.getfield 90, 3) := by decide +kernel
theorem dX9_bill_108 : decode cX9_bill 108 = .ok (.iload 6, 2) := by decide +kernel
theorem dX9_bill_110 : decode cX9_bill 110 = .ok (.iaload, 1) := by decide +kernel
theorem dX9_bill_111 : decode cX9_bill 111 = .ok (.isub, 1) := by decide +kernel
theorem dX9_bill_112 : decode cX9_bill 112 = .ok (.istore_n 3, 1) := by decide +kernel
theorem dX9_bill_113 : decode cX9_bill 113 = .ok (.iinc 6 1, 3) := by decide +kernel
theorem dX9_bill_116 : decode cX9_bill 116 = .ok (.goto (-63), 3) := by decide +kernel
theorem dX9_bill_119 : decode cX9_bill 119 = .ok (.iload_n 3, 1) := by decide +kernel
theorem dX9_bill_120 : decode cX9_bill 120 = .ok (.ifCond .le 67, 3) := by decide +kernel
theorem dX9_bill_123 : decode cX9_bill 123 = .ok (.iconst 0, 1) := by decide +kernel
theorem dX9_bill_124 : decode cX9_bill 124 = .ok (.istore 6, 2) := by decide +kernel
theorem dX9_bill_126 : decode cX9_bill 126 = .ok (.iconst 1, 1) := by decide +kernel
theorem dX9_bill_127 : decode cX9_bill 127 = .ok (.istore 7, 2) := by decide +kernel
theorem dX9_bill_129 : decode cX9_bill 129 = .ok (.iload 7, 2) := by decide +kernel
theorem dX9_bill_131 : decode cX9_bill 131 = .ok (.iconst 4, 1) := by decide +kernel
theorem dX9_bill_132 : decode cX9_bill 132 = .ok (.if_icmp .ge 30, 3) := by decide +kernel
theorem dX9_bill_135 : decode cX9_bill 135 = .ok (.aload_n 0, 1) := by decide +kernel
theorem dX9_bill_136 : decode cX9_bill 136 = .ok (.getfield 87, 3) := by decide +kernel
theorem dX9_bill_139 : decode cX9_bill 139 = .ok (.iload 7, 2) := by decide +kernel
theorem dX9_bill_141 : decode cX9_bill 141 = .ok (.iaload, 1) := by decide +kernel
theorem dX9_bill_142 : decode cX9_bill 142 = .ok (.aload_n 0, 1) := by decide +kernel
theorem dX9_bill_143 : decode cX9_bill 143 = .ok (.getfield 87, 3) := by decide +kernel
theorem dX9_bill_146 : decode cX9_bill 146 = .ok (.iload 6, 2) := by decide +kernel
theorem dX9_bill_148 : decode cX9_bill 148 = .ok (.iaload, 1) := by decide +kernel
theorem dX9_bill_149 : decode cX9_bill 149 = .ok (.if_icmp .le 7, 3) := by decide +kernel
theorem dX9_bill_152 : decode cX9_bill 152 = .ok (.iload 7, 2) := by decide +kernel
theorem dX9_bill_154 : decode cX9_bill 154 = .ok (.istore 6, 2) := by decide +kernel
theorem dX9_bill_156 : decode cX9_bill 156 = .ok (.iinc 7 1, 3) := by decide +kernel
theorem dX9_bill_159 : decode cX9_bill 159 = .ok (.goto (-30), 3) := by decide +kernel
theorem dX9_bill_162 : decode cX9_bill 162 = .ok (.aload_n 0, 1) := by decide +kernel
theorem dX9_bill_163 : decode cX9_bill 163 = .ok (.getfield 90, 3) := by decide +kernel
theorem dX9_bill_166 : decode cX9_bill 166 = .ok (.iload 6, 2) := by decide +kernel
theorem dX9_bill_168 : decode cX9_bill 168 = .ok (.dup2, 1) := by decide +kernel
theorem dX9_bill_169 : decode cX9_bill 169 = .ok (.iaload, 1) := by decide +kernel
theorem dX9_bill_170 : decode cX9_bill 170 = .ok (.iconst 1, 1) := by decide +kernel
theorem dX9_bill_171 : decode cX9_bill 171 = .ok (.iadd, 1) := by decide +kernel
theorem dX9_bill_172 : decode cX9_bill 172 = .ok (.iastore, 1) := by decide +kernel
theorem dX9_bill_173 : decode cX9_bill 173 = .ok (.aload_n 0, 1) := by decide +kernel
theorem dX9_bill_174 : decode cX9_bill 174 = .ok (.getfield 87, 3) := by decide +kernel
theorem dX9_bill_177 : decode cX9_bill 177 = .ok (.iload 6, 2) := by decide +kernel
theorem dX9_bill_179 : decode cX9_bill 179 = .ok (.iconst (-1), 1) := by decide +kernel
theorem dX9_bill_180 : decode cX9_bill 180 = .ok (.iastore, 1) := by decide +kernel
theorem dX9_bill_181 : decode cX9_bill 181 = .ok (.iinc 3 (-1), 3) := by decide +kernel
theorem dX9_bill_184 : decode cX9_bill 184 = .ok (.goto (-65), 3) := by decide +kernel
theorem dX9_bill_187 : decode cX9_bill 187 = .ok (.aload_n 0, 1) := by decide +kernel
theorem dX9_bill_188 : decode cX9_bill 188 = .ok (.getfield 90, 3) := by decide +kernel
theorem dX9_bill_191 : decode cX9_bill 191 = .ok (.iload_n 1, 1) := by decide +kernel
theorem dX9_bill_192 : decode cX9_bill 192 = .ok (.iaload, 1) := by decide +kernel
theorem dX9_bill_193 : decode cX9_bill 193 = .ok (.ireturn, 1) := by decide +kernel
theorem dX9_oil_0 : decode cX9_oil 0 = .ok (.iload_n 1, 1) := by decide +kernel
theorem dX9_oil_1 : decode cX9_oil 1 = .ok (.invokestatic 97, 3) := by decide +kernel
theorem dX9_oil_4 : decode cX9_oil 4 = .ok (.ifCond .eq 12, 3) := by decide +kernel
theorem dX9_oil_7 : decode cX9_oil 7 = .ok (.aload_n 0, 1) := by decide +kernel
theorem dX9_oil_8 : decode cX9_oil 8 = .ok (.getfield 13, 3) := by decide +kernel
theorem dX9_oil_11 : decode cX9_oil 11 = .ok (.iload_n 1, 1) := by decide +kernel
theorem dX9_oil_12 : decode cX9_oil 12 = .ok (.iaload, 1) := by decide +kernel
theorem dX9_oil_13 : decode cX9_oil 13 = .ok (.goto 4, 3) := by decide +kernel
theorem dX9_oil_16 : decode cX9_oil 16 = .ok (.iconst (-1), 1) := by decide +kernel
theorem dX9_oil_17 : decode cX9_oil 17 = .ok (.ireturn, 1) := by decide +kernel
theorem dX9_told_0 : decode cX9_told 0 = .ok (.aload_n 0, 1) := by decide +kernel
theorem dX9_told_1 : decode cX9_told 1 = .ok (.iload_n 1, 1) := by decide +kernel
theorem dX9_told_2 : decode cX9_told 2 = .ok (.invokevirtual 132, 3) := by decide +kernel
theorem dX9_told_5 : decode cX9_told 5 = .ok (.ifCond .ne 5, 3) := by decide +kernel
theorem dX9_told_8 : decode cX9_told 8 = .ok (.iconst (-1), 1) := by decide +kernel
theorem dX9_told_9 : decode cX9_told 9 = .ok (.ireturn, 1) := by decide +kernel
theorem dX9_told_10 : decode cX9_told 10 = .ok (.iload_n 2, 1) := by decide +kernel
theorem dX9_told_11 : decode cX9_told 11 = .ok (.tableswitch 65 0 3 #[29, 36, 43, 50], 29) := by decide +kernel
theorem dX9_told_40 : decode cX9_told 40 = .ok (.aload_n 0, 1) := by decide +kernel
theorem dX9_told_41 : decode cX9_told 41 = .ok (.getfield 39, 3) := by decide +kernel
theorem dX9_told_44 : decode cX9_told 44 = .ok (.iload_n 1, 1) := by decide +kernel
theorem dX9_told_45 : decode cX9_told 45 = .ok (.iaload, 1) := by decide +kernel
theorem dX9_told_46 : decode cX9_told 46 = .ok (.ireturn, 1) := by decide +kernel
theorem dX9_told_47 : decode cX9_told 47 = .ok (.aload_n 0, 1) := by decide +kernel
theorem dX9_told_48 : decode cX9_told 48 = .ok (.getfield 51, 3) := by decide +kernel
theorem dX9_told_51 : decode cX9_told 51 = .ok (.iload_n 1, 1) := by decide +kernel
theorem dX9_told_52 : decode cX9_told 52 = .ok (.iaload, 1) := by decide +kernel
theorem dX9_told_53 : decode cX9_told 53 = .ok (.ireturn, 1) := by decide +kernel
theorem dX9_told_54 : decode cX9_told 54 = .ok (.aload_n 0, 1) := by decide +kernel
theorem dX9_told_55 : decode cX9_told 55 = .ok (.getfield 54, 3) := by decide +kernel
theorem dX9_told_58 : decode cX9_told 58 = .ok (.iload_n 1, 1) := by decide +kernel
theorem dX9_told_59 : decode cX9_told 59 = .ok (.iaload, 1) := by decide +kernel
theorem dX9_told_60 : decode cX9_told 60 = .ok (.ireturn, 1) := by decide +kernel
theorem dX9_told_61 : decode cX9_told 61 = .ok (.aload_n 0, 1) := by decide +kernel
theorem dX9_told_62 : decode cX9_told 62 = .ok (.getfield 60, 3) := by decide +kernel
theorem dX9_told_65 : decode cX9_told 65 = .ok (.iload_n 1, 1) := by decide +kernel
theorem dX9_told_66 : decode cX9_told 66 = .ok (.baload, 1) := by decide +kernel
theorem dX9_told_67 : decode cX9_told 67 = .ok (.ifCond .eq 7, 3) := by decide +kernel
theorem dX9_told_70 : decode cX9_told 70 = .ok (.iconst 1, 1) := by decide +kernel
theorem dX9_told_71 : decode cX9_told 71 = .ok (.goto 4, 3) := by decide +kernel
theorem dX9_told_74 : decode cX9_told 74 = .ok (.iconst 0, 1) := by decide +kernel
theorem dX9_told_75 : decode cX9_told 75 = .ok (.ireturn, 1) := by decide +kernel
theorem dX9_told_76 : decode cX9_told 76 = .ok (.iconst (-1), 1) := by decide +kernel
theorem dX9_told_77 : decode cX9_told 77 = .ok (.ireturn, 1) := by decide +kernel
theorem dX9_count_0 : decode cX9_count 0 = .ok (.iconst 0, 1) := by decide +kernel
theorem dX9_count_1 : decode cX9_count 1 = .ok (.istore_n 2, 1) := by decide +kernel
theorem dX9_count_2 : decode cX9_count 2 = .ok (.iload_n 1, 1) := by decide +kernel
theorem dX9_count_3 : decode cX9_count 3 = .ok (.tableswitch 206 0 10 #[57, 62, 67, 105, 110, 148, 153, 158, 163, 168, 201], 57) := by decide +kernel
theorem dX9_count_60 : decode cX9_count 60 = .ok (.aload_n 0, 1) := by decide +kernel
theorem dX9_count_61 : decode cX9_count 61 = .ok (.getfield 104, 3) := by decide +kernel
theorem dX9_count_64 : decode cX9_count 64 = .ok (.ireturn, 1) := by decide +kernel
theorem dX9_count_65 : decode cX9_count 65 = .ok (.aload_n 0, 1) := by decide +kernel
theorem dX9_count_66 : decode cX9_count 66 = .ok (.getfield 122, 3) := by decide +kernel
theorem dX9_count_69 : decode cX9_count 69 = .ok (.ireturn, 1) := by decide +kernel
theorem dX9_count_70 : decode cX9_count 70 = .ok (.iconst 0, 1) := by decide +kernel
theorem dX9_count_71 : decode cX9_count 71 = .ok (.istore_n 3, 1) := by decide +kernel
theorem dX9_count_72 : decode cX9_count 72 = .ok (.iload_n 3, 1) := by decide +kernel
theorem dX9_count_73 : decode cX9_count 73 = .ok (.bipush 96, 2) := by decide +kernel
theorem dX9_count_75 : decode cX9_count 75 = .ok (.if_icmp .ge 31, 3) := by decide +kernel
theorem dX9_count_78 : decode cX9_count 78 = .ok (.iload_n 2, 1) := by decide +kernel
theorem dX9_count_79 : decode cX9_count 79 = .ok (.aload_n 0, 1) := by decide +kernel
theorem dX9_count_80 : decode cX9_count 80 = .ok (.getfield 9, 3) := by decide +kernel
theorem dX9_count_83 : decode cX9_count 83 = .ok (.iload_n 3, 1) := by decide +kernel
theorem dX9_count_84 : decode cX9_count 84 = .ok (.iaload, 1) := by decide +kernel
theorem dX9_count_85 : decode cX9_count 85 = .ok (.ifCond .ne 12, 3) := by decide +kernel
theorem dX9_count_88 : decode cX9_count 88 = .ok (.aload_n 0, 1) := by decide +kernel
theorem dX9_count_89 : decode cX9_count 89 = .ok (.getfield 13, 3) := by decide +kernel
theorem dX9_count_92 : decode cX9_count 92 = .ok (.iload_n 3, 1) := by decide +kernel
theorem dX9_count_93 : decode cX9_count 93 = .ok (.iaload, 1) := by decide +kernel
theorem dX9_count_94 : decode cX9_count 94 = .ok (.goto 4, 3) := by decide +kernel
theorem dX9_count_97 : decode cX9_count 97 = .ok (.iconst 0, 1) := by decide +kernel
theorem dX9_count_98 : decode cX9_count 98 = .ok (.iadd, 1) := by decide +kernel
theorem dX9_count_99 : decode cX9_count 99 = .ok (.istore_n 2, 1) := by decide +kernel
theorem dX9_count_100 : decode cX9_count 100 = .ok (.iinc 3 1, 3) := by decide +kernel
theorem dX9_count_103 : decode cX9_count 103 = .ok (.goto (-31), 3) := by decide +kernel
theorem dX9_count_106 : decode cX9_count 106 = .ok (.iload_n 2, 1) := by decide +kernel
theorem dX9_count_107 : decode cX9_count 107 = .ok (.ireturn, 1) := by decide +kernel
theorem dX9_count_108 : decode cX9_count 108 = .ok (.aload_n 0, 1) := by decide +kernel
theorem dX9_count_109 : decode cX9_count 109 = .ok (.getfield 143, 3) := by decide +kernel
theorem dX9_count_112 : decode cX9_count 112 = .ok (.ireturn, 1) := by decide +kernel
theorem dX9_count_113 : decode cX9_count 113 = .ok (.iconst 0, 1) := by decide +kernel
theorem dX9_count_114 : decode cX9_count 114 = .ok (.istore_n 3, 1) := by decide +kernel
theorem dX9_count_115 : decode cX9_count 115 = .ok (.iload_n 3, 1) := by decide +kernel
theorem dX9_count_116 : decode cX9_count 116 = .ok (.bipush 96, 2) := by decide +kernel
theorem dX9_count_118 : decode cX9_count 118 = .ok (.if_icmp .ge 31, 3) := by decide +kernel
theorem dX9_count_121 : decode cX9_count 121 = .ok (.iload_n 2, 1) := by decide +kernel
theorem dX9_count_122 : decode cX9_count 122 = .ok (.aload_n 0, 1) := by decide +kernel
theorem dX9_count_123 : decode cX9_count 123 = .ok (.getfield 9, 3) := by decide +kernel
theorem dX9_count_126 : decode cX9_count 126 = .ok (.iload_n 3, 1) := by decide +kernel
theorem dX9_count_127 : decode cX9_count 127 = .ok (.iaload, 1) := by decide +kernel
theorem dX9_count_128 : decode cX9_count 128 = .ok (.ifCond .le 12, 3) := by decide +kernel
theorem dX9_count_131 : decode cX9_count 131 = .ok (.aload_n 0, 1) := by decide +kernel
theorem dX9_count_132 : decode cX9_count 132 = .ok (.getfield 13, 3) := by decide +kernel
theorem dX9_count_135 : decode cX9_count 135 = .ok (.iload_n 3, 1) := by decide +kernel
theorem dX9_count_136 : decode cX9_count 136 = .ok (.iaload, 1) := by decide +kernel
theorem dX9_count_137 : decode cX9_count 137 = .ok (.goto 4, 3) := by decide +kernel
theorem dX9_count_140 : decode cX9_count 140 = .ok (.iconst 0, 1) := by decide +kernel
theorem dX9_count_141 : decode cX9_count 141 = .ok (.iadd, 1) := by decide +kernel
theorem dX9_count_142 : decode cX9_count 142 = .ok (.istore_n 2, 1) := by decide +kernel
theorem dX9_count_143 : decode cX9_count 143 = .ok (.iinc 3 1, 3) := by decide +kernel
theorem dX9_count_146 : decode cX9_count 146 = .ok (.goto (-31), 3) := by decide +kernel
theorem dX9_count_149 : decode cX9_count 149 = .ok (.iload_n 2, 1) := by decide +kernel
theorem dX9_count_150 : decode cX9_count 150 = .ok (.ireturn, 1) := by decide +kernel
theorem dX9_count_151 : decode cX9_count 151 = .ok (.aload_n 0, 1) := by decide +kernel
theorem dX9_count_152 : decode cX9_count 152 = .ok (.getfield 138, 3) := by decide +kernel
theorem dX9_count_155 : decode cX9_count 155 = .ok (.ireturn, 1) := by decide +kernel
theorem dX9_count_156 : decode cX9_count 156 = .ok (.aload_n 0, 1) := by decide +kernel
theorem dX9_count_157 : decode cX9_count 157 = .ok (.getfield 146, 3) := by decide +kernel
theorem dX9_count_160 : decode cX9_count 160 = .ok (.ireturn, 1) := by decide +kernel
theorem dX9_count_161 : decode cX9_count 161 = .ok (.aload_n 0, 1) := by decide +kernel
theorem dX9_count_162 : decode cX9_count 162 = .ok (.invokevirtual 156, 3) := by decide +kernel
theorem dX9_count_165 : decode cX9_count 165 = .ok (.ireturn, 1) := by decide +kernel
theorem dX9_count_166 : decode cX9_count 166 = .ok (.aload_n 0, 1) := by decide +kernel
theorem dX9_count_167 : decode cX9_count 167 = .ok (.invokevirtual 186, 3) := by decide +kernel
theorem dX9_count_170 : decode cX9_count 170 = .ok (.ireturn, 1) := by decide +kernel
theorem dX9_count_171 : decode cX9_count 171 = .ok (.iconst 0, 1) := by decide +kernel
theorem dX9_count_172 : decode cX9_count 172 = .ok (.istore_n 3, 1) := by decide +kernel
theorem dX9_count_173 : decode cX9_count 173 = .ok (.iload_n 3, 1) := by decide +kernel
theorem dX9_count_174 : decode cX9_count 174 = .ok (.bipush 20, 2) := by decide +kernel
theorem dX9_count_176 : decode cX9_count 176 = .ok (.if_icmp .ge 26, 3) := by decide +kernel
theorem dX9_count_179 : decode cX9_count 179 = .ok (.iload_n 2, 1) := by decide +kernel
theorem dX9_count_180 : decode cX9_count 180 = .ok (.aload_n 0, 1) := by decide +kernel
theorem dX9_count_181 : decode cX9_count 181 = .ok (.getfield 22, 3) := by decide +kernel
theorem dX9_count_184 : decode cX9_count 184 = .ok (.iload_n 3, 1) := by decide +kernel
theorem dX9_count_185 : decode cX9_count 185 = .ok (.baload, 1) := by decide +kernel
theorem dX9_count_186 : decode cX9_count 186 = .ok (.ifCond .eq 7, 3) := by decide +kernel
theorem dX9_count_189 : decode cX9_count 189 = .ok (.iconst 1, 1) := by decide +kernel
theorem dX9_count_190 : decode cX9_count 190 = .ok (.goto 4, 3) := by decide +kernel
theorem dX9_count_193 : decode cX9_count 193 = .ok (.iconst 0, 1) := by decide +kernel
theorem dX9_count_194 : decode cX9_count 194 = .ok (.iadd, 1) := by decide +kernel
theorem dX9_count_195 : decode cX9_count 195 = .ok (.istore_n 2, 1) := by decide +kernel
theorem dX9_count_196 : decode cX9_count 196 = .ok (.iinc 3 1, 3) := by decide +kernel
theorem dX9_count_199 : decode cX9_count 199 = .ok (.goto (-26), 3) := by decide +kernel
theorem dX9_count_202 : decode cX9_count 202 = .ok (.iload_n 2, 1) := by decide +kernel
theorem dX9_count_203 : decode cX9_count 203 = .ok (.ireturn, 1) := by decide +kernel
theorem dX9_count_204 : decode cX9_count 204 = .ok (.aload_n 0, 1) := by decide +kernel
theorem dX9_count_205 : decode cX9_count 205 = .ok (.getfield 107, 3) := by decide +kernel
theorem dX9_count_208 : decode cX9_count 208 = .ok (.ireturn, 1) := by decide +kernel
theorem dX9_count_209 : decode cX9_count 209 = .ok (.iconst (-1), 1) := by decide +kernel
theorem dX9_count_210 : decode cX9_count 210 = .ok (.ireturn, 1) := by decide +kernel
