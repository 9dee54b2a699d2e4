theorem dX10_behind_69 : decode cX10_behind 69 = .ok (.iastore, 1) := by decide +kernel
theorem dX10_behind_70 : decode cX10_behind 70 = .ok (.return_, 1) := by decide +kernel
theorem dX10_behind_71 : decode cX10_behind 71 = .ok (.aload_n 0, 1) := by decide +kernel
theorem dX10_behind_72 : decode cX10_behind 72 = .ok (.bipush 7, 2) := by decide +kernel
theorem dX10_behind_74 : decode cX10_behind 74 = .ok (.iconst 4, 1) := by decide +kernel
theorem dX10_behind_75 : decode cX10_behind 75 = .ok (.aload_n 0, 1) := by decide +kernel
theorem dX10_behind_76 : decode cX10_behind 76 = .ok (.getfield 13, 3) := by decide +kernel
theorem dX10_behind_79 : decode cX10_behind 79 = .ok (.iconst 2, 1) := by decide +kernel
theorem dX10_behind_80 : decode cX10_behind 80 = .ok (.iaload, 1) := by decide +kernel
theorem dX10_behind_81 : decode cX10_behind 81 = .ok (.imul, 1) := by decide +kernel
theorem dX10_behind_82 : decode cX10_behind 82 = .ok (.iadd, 1) := by decide +kernel
theorem dX10_behind_83 : decode cX10_behind 83 = .ok (.invokevirtual 139, 3) := by decide +kernel
theorem dX10_behind_86 : decode cX10_behind 86 = .ok (.return_, 1) := by decide +kernel
theorem dX10_behind_87 : decode cX10_behind 87 = .ok (.aload_n 0, 1) := by decide +kernel
theorem dX10_behind_88 : decode cX10_behind 88 = .ok (.iload_n 2, 1) := by decide +kernel
theorem dX10_behind_89 : decode cX10_behind 89 = .ok (.invokevirtual 143, 3) := by decide +kernel
theorem dX10_behind_92 : decode cX10_behind 92 = .ok (.return_, 1) := by decide +kernel
theorem dX10_behind_93 : decode cX10_behind 93 = .ok (.aload_n 0, 1) := by decide +kernel
theorem dX10_behind_94 : decode cX10_behind 94 = .ok (.iload_n 2, 1) := by decide +kernel
theorem dX10_behind_95 : decode cX10_behind 95 = .ok (.invokevirtual 146, 3) := by decide +kernel
theorem dX10_behind_98 : decode cX10_behind 98 = .ok (.return_, 1) := by decide +kernel
theorem dX10_behind_99 : decode cX10_behind 99 = .ok (.aload_n 0, 1) := by decide +kernel
theorem dX10_behind_100 : decode cX10_behind 100 = .ok (.bipush 55, 2) := by decide +kernel
theorem dX10_behind_102 : decode cX10_behind 102 = .ok (.iconst 2, 1) := by decide +kernel
theorem dX10_behind_103 : decode cX10_behind 103 = .ok (.aload_n 0, 1) := by decide +kernel
theorem dX10_behind_104 : decode cX10_behind 104 = .ok (.getfield 13, 3) := by decide +kernel
theorem dX10_behind_107 : decode cX10_behind 107 = .ok (.iconst 3, 1) := by decide +kernel
theorem dX10_behind_108 : decode cX10_behind 108 = .ok (.iaload, 1) := by decide +kernel
theorem dX10_behind_109 : decode cX10_behind 109 = .ok (.imul, 1) := by decide +kernel
theorem dX10_behind_110 : decode cX10_behind 110 = .ok (.iadd, 1) := by decide +kernel
theorem dX10_behind_111 : decode cX10_behind 111 = .ok (.invokevirtual 149, 3) := by decide +kernel
theorem dX10_behind_114 : decode cX10_behind 114 = .ok (.return_, 1) := by decide +kernel
theorem dX10_behind_115 : decode cX10_behind 115 = .ok (.aload_n 0, 1) := by decide +kernel
theorem dX10_behind_116 : decode cX10_behind 116 = .ok (.getfield 13, 3) := by decide +kernel
theorem dX10_behind_119 : decode cX10_behind 119 = .ok (.bipush 75, 2) := by decide +kernel
theorem dX10_behind_121 : decode cX10_behind 121 = .ok (.iconst 2, 1) := by decide +kernel
theorem dX10_behind_122 : decode cX10_behind 122 = .ok (.aload_n 0, 1) := by decide +kernel
theorem dX10_behind_123 : decode cX10_behind 123 = .ok (.getfield 13, 3) := by decide +kernel
theorem dX10_behind_126 : decode cX10_behind 126 = .ok (.iconst 4, 1) := by decide +kernel
theorem dX10_behind_127 : decode cX10_behind 127 = .ok (.iaload, 1) := by decide +kernel
theorem dX10_behind_128 : decode cX10_behind 128 = .ok (.imul, 1) := by decide +kernel
theorem dX10_behind_129 : decode cX10_behind 129 = .ok (.iadd, 1) := by decide +kernel
theorem dX10_behind_130 : decode cX10_behind 130 = .ok (.aload_n 0, 1) := by decide +kernel
theorem dX10_behind_131 : decode cX10_behind 131 = .ok (.iconst 0, 1) := by decide +kernel
theorem dX10_behind_132 : decode cX10_behind 132 = .ok (.aload_n 0, 1) := by decide +kernel
theorem dX10_behind_133 : decode cX10_behind 133 = .ok (.getfield 13, 3) := by decide +kernel
theorem dX10_behind_136 : decode cX10_behind 136 = .ok (.iconst 0, 1) := by decide +kernel
theorem dX10_behind_137 : decode cX10_behind 137 = .ok (.iaload, 1) := by decide +kernel
theorem dX10_behind_138 : decode cX10_behind 138 = .ok (.iconst 3, 1) := by decide +kernel
theorem dX10_behind_139 : decode cX10_behind 139 = .ok (.isub, 1) := by decide +kernel
theorem dX10_behind_140 : decode cX10_behind 140 = .ok (.invokevirtual 135, 3) := by decide +kernel
theorem dX10_behind_143 : decode cX10_behind 143 = .ok (.iastore, 1) := by decide +kernel
theorem dX10_behind_144 : decode cX10_behind 144 = .ok (.aload_n 0, 1) := by decide +kernel
theorem dX10_behind_145 : decode cX10_behind 145 = .ok (.getfield 13, 3) := by decide +kernel
theorem dX10_behind_148 : decode cX10_behind 148 = .ok (.bipush 75, 2) := by decide +kernel
theorem dX10_behind_150 : decode cX10_behind 150 = .ok (.iconst 2, 1) := by decide +kernel
theorem dX10_behind_151 : decode cX10_behind 151 = .ok (.aload_n 0, 1) := by decide +kernel
theorem dX10_behind_152 : decode cX10_behind 152 = .ok (.getfield 13, 3) := by decide +kernel
theorem dX10_behind_155 : decode cX10_behind 155 = .ok (.iconst 4, 1) := by decide +kernel
theorem dX10_behind_156 : decode cX10_behind 156 = .ok (.iaload, 1) := by decide +kernel
theorem dX10_behind_157 : decode cX10_behind 157 = .ok (.imul, 1) := by decide +kernel
theorem dX10_behind_158 : decode cX10_behind 158 = .ok (.iadd, 1) := by decide +kernel
theorem dX10_behind_159 : decode cX10_behind 159 = .ok (.iconst 1, 1) := by decide +kernel
theorem dX10_behind_160 : decode cX10_behind 160 = .ok (.iadd, 1) := by decide +kernel
theorem dX10_behind_161 : decode cX10_behind 161 = .ok (.aload_n 0, 1) := by decide +kernel
theorem dX10_behind_162 : decode cX10_behind 162 = .ok (.iconst 0, 1) := by decide +kernel
theorem dX10_behind_163 : decode cX10_behind 163 = .ok (.aload_n 0, 1) := by decide +kernel
theorem dX10_behind_164 : decode cX10_behind 164 = .ok (.getfield 13, 3) := by decide +kernel
theorem dX10_behind_167 : decode cX10_behind 167 = .ok (.iconst 1, 1) := by decide +kernel
theorem dX10_behind_168 : decode cX10_behind 168 = .ok (.iaload, 1) := by decide +kernel
theorem dX10_behind_169 : decode cX10_behind 169 = .ok (.iconst 3, 1) := by decide +kernel
theorem dX10_behind_170 : decode cX10_behind 170 = .ok (.isub, 1) := by decide +kernel
theorem dX10_behind_171 : decode cX10_behind 171 = .ok (.invokevirtual 135, 3) := by decide +kernel
theorem dX10_behind_174 : decode cX10_behind 174 = .ok (.iastore, 1) := by decide +kernel
theorem dX10_behind_175 : decode cX10_behind 175 = .ok (.aload_n 0, 1) := by decide +kernel
theorem dX10_behind_176 : decode cX10_behind 176 = .ok (.getfield 13, 3) := by decide +kernel
theorem dX10_behind_179 : decode cX10_behind 179 = .ok (.iconst 4, 1) := by decide +kernel
theorem dX10_behind_180 : decode cX10_behind 180 = .ok (.dup2, 1) := by decide +kernel
theorem dX10_behind_181 : decode cX10_behind 181 = .ok (.iaload, 1) := by decide +kernel
theorem dX10_behind_182 : decode cX10_behind 182 = .ok (.iconst 1, 1) := by decide +kernel
theorem dX10_behind_183 : decode cX10_behind 183 = .ok (.iadd, 1) := by decide +kernel
theorem dX10_behind_184 : decode cX10_behind 184 = .ok (.iastore, 1) := by decide +kernel
theorem dX10_behind_185 : decode cX10_behind 185 = .ok (.return_, 1) := by decide +kernel
theorem dX10_behind_186 : decode cX10_behind 186 = .ok (.aload_n 0, 1) := by decide +kernel
theorem dX10_behind_187 : decode cX10_behind 187 = .ok (.bipush 91, 2) := by decide +kernel
theorem dX10_behind_189 : decode cX10_behind 189 = .ok (.bipush 7, 2) := by decide +kernel
theorem dX10_behind_191 : decode cX10_behind 191 = .ok (.aload_n 0, 1) := by decide +kernel
theorem dX10_behind_192 : decode cX10_behind 192 = .ok (.getfield 13, 3) := by decide +kernel
theorem dX10_behind_195 : decode cX10_behind 195 = .ok (.iconst 5, 1) := by decide +kernel
theorem dX10_behind_196 : decode cX10_behind 196 = .ok (.iaload, 1) := by decide +kernel
theorem dX10_behind_197 : decode cX10_behind 197 = .ok (.imul, 1) := by decide +kernel
theorem dX10_behind_198 : decode cX10_behind 198 = .ok (.iadd, 1) := by decide +kernel
theorem dX10_behind_199 : decode cX10_behind 199 = .ok (.invokevirtual 152, 3) := by decide +kernel
theorem dX10_behind_202 : decode cX10_behind 202 = .ok (.return_, 1) := by decide +kernel
theorem dX10_behind_203 : decode cX10_behind 203 = .ok (.aload_n 0, 1) := by decide +kernel
theorem dX10_behind_204 : decode cX10_behind 204 = .ok (.sipush 175, 3) := by decide +kernel
theorem dX10_behind_207 : decode cX10_behind 207 = .ok (.iconst 2, 1) := by decide +kernel
theorem dX10_behind_208 : decode cX10_behind 208 = .ok (.aload_n 0, 1) := by decide +kernel
theorem dX10_behind_209 : decode cX10_behind 209 = .ok (.getfield 13, 3) := by decide +kernel
theorem dX10_behind_212 : decode cX10_behind 212 = .ok (.bipush 6, 2) := by decide +kernel
theorem dX10_behind_214 : decode cX10_behind 214 = .ok (.iaload, 1) := by decide +kernel
theorem dX10_behind_215 : decode cX10_behind 215 = .ok (.imul, 1) := by decide +kernel
theorem dX10_behind_216 : decode cX10_behind 216 = .ok (.iadd, 1) := by decide +kernel
theorem dX10_behind_217 : decode cX10_behind 217 = .ok (.invokevirtual 155, 3) := by decide +kernel
theorem dX10_behind_220 : decode cX10_behind 220 = .ok (.return_, 1) := by decide +kernel
theorem dX10_stepX_0 : decode cX10_stepX 0 = .ok (.iload_n 0, 1) := by decide +kernel
theorem dX10_stepX_1 : decode cX10_stepX 1 = .ok (.iconst 1, 1) := by decide +kernel
theorem dX10_stepX_2 : decode cX10_stepX 2 = .ok (.if_icmp .ne 7, 3) := by decide +kernel
theorem dX10_stepX_5 : decode cX10_stepX 5 = .ok (.iconst 0, 1) := by decide +kernel
theorem dX10_stepX_6 : decode cX10_stepX 6 = .ok (.goto 13, 3) := by decide +kernel
theorem dX10_stepX_9 : decode cX10_stepX 9 = .ok (.iload_n 0, 1) := by decide +kernel
theorem dX10_stepX_10 : decode cX10_stepX 10 = .ok (.iconst 3, 1) := by decide +kernel
theorem dX10_stepX_11 : decode cX10_stepX 11 = .ok (.if_icmp .ne 7, 3) := by decide +kernel
theorem dX10_stepX_14 : decode cX10_stepX 14 = .ok (.iconst (-1), 1) := by decide +kernel
theorem dX10_stepX_15 : decode cX10_stepX 15 = .ok (.goto 4, 3) := by decide +kernel
theorem dX10_stepX_18 : decode cX10_stepX 18 = .ok (.iconst 1, 1) := by decide +kernel
theorem dX10_stepX_19 : decode cX10_stepX 19 = .ok (.ireturn, 1) := by decide +kernel
theorem dX10_stepY_0 : decode cX10_stepY 0 = .ok (.iload_n 0, 1) := by decide +kernel
theorem dX10_stepY_1 : decode cX10_stepY 1 = .ok (.ifCond .ne 7, 3) := by decide +kernel
theorem dX10_stepY_4 : decode cX10_stepY 4 = .ok (.iconst 0, 1) := by decide +kernel
theorem dX10_stepY_5 : decode cX10_stepY 5 = .ok (.goto 4, 3) := by decide +kernel
theorem dX10_stepY_8 : decode cX10_stepY 8 = .ok (.iconst 1, 1) := by decide +kernel
theorem dX10_stepY_9 : decode cX10_stepY 9 = .ok (.ireturn, 1) := by decide +kernel
theorem dX10_isOnPage_0 : decode cX10_isOnPage 0 = .ok (.iload_n 1, 1) := by decide +kernel
theorem dX10_isOnPage_1 : decode cX10_isOnPage 1 = .ok (.i2l, 1) := by decide +kernel
theorem dX10_isOnPage_2 : decode cX10_isOnPage 2 = .ok (.lconst 0, 1) := by decide +kernel
theorem dX10_isOnPage_3 : decode cX10_isOnPage 3 = .ok (.aload_n 0, 1) := by decide +kernel
theorem dX10_isOnPage_4 : decode cX10_isOnPage 4 = .ok (.getfield 13, 3) := by decide +kernel
theorem dX10_isOnPage_7 : decode cX10_isOnPage 7 = .ok (.iconst 0, 1) := by decide +kernel
theorem dX10_isOnPage_8 : decode cX10_isOnPage 8 = .ok (.iaload, 1) := by decide +kernel
theorem dX10_isOnPage_9 : decode cX10_isOnPage 9 = .ok (.iconst 1, 1) := by decide +kernel
theorem dX10_isOnPage_10 : decode cX10_isOnPage 10 = .ok (.isub, 1) := by decide +kernel
theorem dX10_isOnPage_11 : decode cX10_isOnPage 11 = .ok (.i2l, 1) := by decide +kernel
theorem dX10_isOnPage_12 : decode cX10_isOnPage 12 = .ok (.invokestatic 83, 3) := by decide +kernel
theorem dX10_isOnPage_15 : decode cX10_isOnPage 15 = .ok (.ifCond .eq 25, 3) := by decide +kernel
theorem dX10_isOnPage_18 : decode cX10_isOnPage 18 = .ok (.iload_n 2, 1) := by decide +kernel
theorem dX10_isOnPage_19 : decode cX10_isOnPage 19 = .ok (.i2l, 1) := by decide +kernel
theorem dX10_isOnPage_20 : decode cX10_isOnPage 20 = .ok (.lconst 0, 1) := by decide +kernel
theorem dX10_isOnPage_21 : decode cX10_isOnPage 21 = .ok (.aload_n 0, 1) := by decide +kernel
theorem dX10_isOnPage_22 : decode cX10_isOnPage 22 = .ok (.getfield 13, 3) := by decide +kernel
theorem dX10_isOnPage_25 : decode cX10_isOnPage 25 = .ok (.iconst 1, 1) := by decide +kernel
theorem dX10_isOnPage_26 : decode cX10_isOnPage 26 = .ok (.iaload, 1) := by decide +kernel
theorem dX10_isOnPage_27 : decode cX10_isOnPage 27 = .ok (.iconst 1, 1) := by decide +kernel
theorem dX10_isOnPage_28 : decode cX10_isOnPage 28 = .ok (.isub, 1) := by decide +kernel
theorem dX10_isOnPage_29 : decode cX10_isOnPage 29 = .ok (.i2l, 1) := by decide +kernel
theorem dX10_isOnPage_30 : decode cX10_isOnPage 30 = .ok (.invokestatic 83, 3) := by decide +kernel
theorem dX10_isOnPage_33 : decode cX10_isOnPage 33 = .ok (.ifCond .eq 7, 3) := by decide +kernel
theorem dX10_isOnPage_36 : decode cX10_isOnPage 36 = .ok (.iconst 1, 1) := by decide +kernel
theorem dX10_isOnPage_37 : decode cX10_isOnPage 37 = .ok (.goto 4, 3) := by decide +kernel
theorem dX10_isOnPage_40 : decode cX10_isOnPage 40 = .ok (.iconst 0, 1) := by decide +kernel
theorem dX10_isOnPage_41 : decode cX10_isOnPage 41 = .ok (.ireturn, 1) := by decide +kernel
theorem dX10_strokeRead_0 : decode cX10_strokeRead 0 = .ok (.aload_n 0, 1) := by decide +kernel
theorem dX10_strokeRead_1 : decode cX10_strokeRead 1 = .ok (.getfield 13, 3) := by decide +kernel
theorem dX10_strokeRead_4 : decode cX10_strokeRead 4 = .ok (.iload_n 1, 1) := by decide +kernel
theorem dX10_strokeRead_5 : decode cX10_strokeRead 5 = .ok (.aload_n 0, 1) := by decide +kernel
theorem dX10_strokeRead_6 : decode cX10_strokeRead 6 = .ok (.iconst 0, 1) := by decide +kernel
theorem dX10_strokeRead_7 : decode cX10_strokeRead 7 = .ok (.aload_n 0, 1) := by decide +kernel
theorem dX10_strokeRead_8 : decode cX10_strokeRead 8 = .ok (.getfield 13, 3) := by decide +kernel
theorem dX10_strokeRead_11 : decode cX10_strokeRead 11 = .ok (.iconst 0, 1) := by decide +kernel
theorem dX10_strokeRead_12 : decode cX10_strokeRead 12 = .ok (.iaload, 1) := by decide +kernel
theorem dX10_strokeRead_13 : decode cX10_strokeRead 13 = .ok (.iconst 1, 1) := by decide +kernel
theorem dX10_strokeRead_14 : decode cX10_strokeRead 14 = .ok (.isub, 1) := by decide +kernel
theorem dX10_strokeRead_15 : decode cX10_strokeRead 15 = .ok (.invokevirtual 135, 3) := by decide +kernel
theorem dX10_strokeRead_18 : decode cX10_strokeRead 18 = .ok (.iastore, 1) := by decide +kernel
theorem dX10_strokeRead_19 : decode cX10_strokeRead 19 = .ok (.aload_n 0, 1) := by decide +kernel
theorem dX10_strokeRead_20 : decode cX10_strokeRead 20 = .ok (.getfield 13, 3) := by decide +kernel
theorem dX10_strokeRead_23 : decode cX10_strokeRead 23 = .ok (.iload_n 1, 1) := by decide +kernel
theorem dX10_strokeRead_24 : decode cX10_strokeRead 24 = .ok (.iconst 1, 1) := by decide +kernel
theorem dX10_strokeRead_25 : decode cX10_strokeRead 25 = .ok (.iadd, 1) := by decide +kernel
theorem dX10_strokeRead_26 : decode cX10_strokeRead 26 = .ok (.aload_n 0, 1) := by decide +kernel
theorem dX10_strokeRead_27 : decode cX10_strokeRead 27 = .ok (.iconst 0, 1) := by decide +kernel
theorem dX10_strokeRead_28 : decode cX10_strokeRead 28 = .ok (.aload_n 0, 1) := by decide +kernel
theorem dX10_strokeRead_29 : decode cX10_strokeRead 29 = .ok (.getfield 13, 3) := by decide +kernel
theorem dX10_strokeRead_32 : decode cX10_strokeRead 32 = .ok (.iconst 1, 1) := by decide +kernel
theorem dX10_strokeRead_33 : decode cX10_strokeRead 33 = .ok (.iaload, 1) := by decide +kernel
theorem dX10_strokeRead_34 : decode cX10_strokeRead 34 = .ok (.iconst 1, 1) := by decide +kernel
theorem dX10_strokeRead_35 : decode cX10_strokeRead 35 = .ok (.isub, 1) := by decide +kernel
theorem dX10_strokeRead_36 : decode cX10_strokeRead 36 = .ok (.invokevirtual 135, 3) := by decide +kernel
theorem dX10_strokeRead_39 : decode cX10_strokeRead 39 = .ok (.iastore, 1) := by decide +kernel
theorem dX10_strokeRead_40 : decode cX10_strokeRead 40 = .ok (.aload_n 0, 1) := by decide +kernel
theorem dX10_strokeRead_41 : decode cX10_strokeRead 41 = .ok (.getfield 13, 3) := by decide +kernel
theorem dX10_strokeRead_44 : decode cX10_strokeRead 44 = .ok (.iload_n 1, 1) := by decide +kernel
theorem dX10_strokeRead_45 : decode cX10_strokeRead 45 = .ok (.iconst 2, 1) := by decide +kernel
theorem dX10_strokeRead_46 : decode cX10_strokeRead 46 = .ok (.iadd, 1) := by decide +kernel
theorem dX10_strokeRead_47 : decode cX10_strokeRead 47 = .ok (.aload_n 0, 1) := by decide +kernel
theorem dX10_strokeRead_48 : decode cX10_strokeRead 48 = .ok (.iconst 0, 1) := by decide +kernel
theorem dX10_strokeRead_49 : decode cX10_strokeRead 49 = .ok (.iconst 3, 1) := by decide +kernel
theorem dX10_strokeRead_50 : decode cX10_strokeRead 50 = .ok (.invokevirtual 135, 3) := by decide +kernel
theorem dX10_strokeRead_53 : decode cX10_strokeRead 53 = .ok (.iastore, 1) := by decide +kernel
theorem dX10_strokeRead_54 : decode cX10_strokeRead 54 = .ok (.aload_n 0, 1) := by decide +kernel
theorem dX10_strokeRead_55 : decode cX10_strokeRead 55 = .ok (.getfield 13, 3) := by decide +kernel
theorem dX10_strokeRead_58 : decode cX10_strokeRead 58 = .ok (.iload_n 1, 1) := by decide +kernel
theorem dX10_strokeRead_59 : decode cX10_strokeRead 59 = .ok (.iconst 3, 1) := by decide +kernel
theorem dX10_strokeRead_60 : decode cX10_strokeRead 60 = .ok (.iadd, 1) := by decide +kernel
theorem dX10_strokeRead_61 : decode cX10_strokeRead 61 = .ok (.aload_n 0, 1) := by decide +kernel
theorem dX10_strokeRead_62 : decode cX10_strokeRead 62 = .ok (.iconst 1, 1) := by decide +kernel
theorem dX10_strokeRead_63 : decode cX10_strokeRead 63 = .ok (.bipush 9, 2) := by decide +kernel
theorem dX10_strokeRead_65 : decode cX10_strokeRead 65 = .ok (.invokevirtual 135, 3) := by decide +kernel
theorem dX10_strokeRead_68 : decode cX10_strokeRead 68 = .ok (.iastore, 1) := by decide +kernel
theorem dX10_strokeRead_69 : decode cX10_strokeRead 69 = .ok (.aload_n 0, 1) := by decide +kernel
theorem dX10_strokeRead_70 : decode cX10_strokeRead 70 = .ok (.getfield 76, 3) := by decide +kernel
theorem dX10_strokeRead_73 : decode cX10_strokeRead 73 = .ok (.ifCond .eq 4, 3) := by decide +kernel
theorem dX10_strokeRead_76 : decode cX10_strokeRead 76 = .ok (.return_, 1) := by decide +kernel
theorem dX10_strokeRead_77 : decode cX10_strokeRead 77 = .ok (.aload_n 0, 1) := by decide +kernel
theorem dX10_strokeRead_78 : decode cX10_strokeRead 78 = .ok (.getfield 13, 3) := by decide +kernel
theorem dX10_strokeRead_81 : decode cX10_strokeRead 81 = .ok (.iload_n 1, 1) := by decide +kernel
theorem dX10_strokeRead_82 : decode cX10_strokeRead 82 = .ok (.iconst 3, 1) := by decide +kernel
theorem dX10_strokeRead_83 : decode cX10_strokeRead 83 = .ok (.iadd, 1) := by decide +kernel
theorem dX10_strokeRead_84 : decode cX10_strokeRead 84 = .ok (.iaload, 1) := by decide +kernel
theorem dX10_strokeRead_85 : decode cX10_strokeRead 85 = .ok (.iconst 1, 1) := by decide +kernel
theorem dX10_strokeRead_86 : decode cX10_strokeRead 86 = .ok (.isub, 1) := by decide +kernel
theorem dX10_strokeRead_87 : decode cX10_strokeRead 87 = .ok (.istore_n 2, 1) := by decide +kernel
theorem dX10_strokeRead_88 : decode cX10_strokeRead 88 = .ok (.aload_n 0, 1) := by decide +kernel
theorem dX10_strokeRead_89 : decode cX10_strokeRead 89 = .ok (.aload_n 0, 1) := by decide +kernel
theorem dX10_strokeRead_90 : decode cX10_strokeRead 90 = .ok (.getfield 13, 3) := by decide +kernel
theorem dX10_strokeRead_93 : decode cX10_strokeRead 93 = .ok (.iload_n 1, 1) := by decide +kernel
theorem dX10_strokeRead_94 : decode cX10_strokeRead 94 = .ok (.iaload, 1) := by decide +kernel
theorem dX10_strokeRead_95 : decode cX10_strokeRead 95 = .ok (.iload_n 2, 1) := by decide +kernel
theorem dX10_strokeRead_96 : decode cX10_strokeRead 96 = .ok (.aload_n 0, 1) := by decide +kernel
theorem dX10_strokeRead_97 : decode cX10_strokeRead 97 = .ok (.getfield 13, 3) := by decide +kernel
theorem dX10_strokeRead_100 : decode cX10_strokeRead 100 = .ok (.iload_n 1, 1) := by decide +kernel
theorem dX10_strokeRead_101 : decode cX10_strokeRead 101 = .ok (.iconst 2, 1) := by decide +kernel
theorem dX10_strokeRead_102 : decode cX10_strokeRead 102 = .ok (.iadd, 1) := by decide +kernel
theorem dX10_strokeRead_103 : decode cX10_strokeRead 103 = .ok (.iaload, 1) := by decide +kernel
theorem dX10_strokeRead_104 : decode cX10_strokeRead 104 = .ok (.invokestatic 158, 3) := by decide +kernel
theorem dX10_strokeRead_107 : decode cX10_strokeRead 107 = .ok (.imul, 1) := by decide +kernel
theorem dX10_strokeRead_108 : decode cX10_strokeRead 108 = .ok (.iadd, 1) := by decide +kernel
theorem dX10_strokeRead_109 : decode cX10_strokeRead 109 = .ok (.aload_n 0, 1) := by decide +kernel
theorem dX10_strokeRead_110 : decode cX10_strokeRead 110 = .ok (.getfield 13, 3) := by decide +kernel
theorem dX10_strokeRead_113 : decode cX10_strokeRead 113 = .ok (.iload_n 1, 1) := by decide +kernel
theorem dX10_strokeRead_114 : decode cX10_strokeRead 114 = .ok (.iconst 1, 1) := by decide +kernel
theorem dX10_strokeRead_115 : decode cX10_strokeRead 115 = .ok (.iadd, 1) := by decide +kernel
theorem dX10_strokeRead_116 : decode cX10_strokeRead 116 = .ok (.iaload, 1) := by decide +kernel
theorem dX10_strokeRead_117 : decode cX10_strokeRead 117 = .ok (.iload_n 2, 1) := by decide +kernel
theorem dX10_strokeRead_118 : decode cX10_strokeRead 118 = .ok (.aload_n 0, 1) := by decide +kernel
theorem dX10_strokeRead_119 : decode cX10_strokeRead 119 = .ok (.getfield 13, 3) := by decide +kernel
theorem dX10_strokeRead_122 : decode cX10_strokeRead 122 = .ok (.iload_n 1, 1) := by decide +kernel
theorem dX10_strokeRead_123 : decode cX10_strokeRead 123 = .ok (.iconst 2, 1) := by decide +kernel
theorem dX10_strokeRead_124 : decode cX10_strokeRead 124 = .ok (.iadd, 1) := by decide +kernel
theorem dX10_strokeRead_125 : decode cX10_strokeRead 125 = .ok (.iaload, 1) := by decide +kernel
theorem dX10_strokeRead_126 : decode cX10_strokeRead 126 = .ok (.invokestatic 162, 3) := by decide +kernel
theorem dX10_strokeRead_129 : decode cX10_strokeRead 129 = .ok (.imul, 1) := by decide +kernel
theorem dX10_strokeRead_130 : decode cX10_strokeRead 130 = .ok (.iadd, 1) := by decide +kernel
theorem dX10_strokeRead_131 : decode cX10_strokeRead 131 = .ok (.invokevirtual 165, 3) := by decide +kernel
theorem dX10_strokeRead_134 : decode cX10_strokeRead 134 = .ok (.ifCond .ne 12, 3) := by decide +kernel
theorem dX10_strokeRead_137 : decode cX10_strokeRead 137 = .ok (.aload_n 0, 1) := by decide +kernel
theorem dX10_strokeRead_138 : decode cX10_strokeRead 138 = .ok (.iconst 2, 1) := by decide +kernel
theorem dX10_strokeRead_139 : decode cX10_strokeRead 139 = .ok (.aload_n 0, 1) := by decide +kernel
theorem dX10_strokeRead_140 : decode cX10_strokeRead 140 = .ok (.getfield 120, 3) := by decide +kernel
theorem dX10_strokeRead_143 : decode cX10_strokeRead 143 = .ok (.invokevirtual 116, 3) := by decide +kernel
theorem dX10_strokeRead_146 : decode cX10_strokeRead 146 = .ok (.aload_n 0, 1) := by decide +kernel
theorem dX10_strokeRead_147 : decode cX10_strokeRead 147 = .ok (.getfield 13, 3) := by decide +kernel
theorem dX10_strokeRead_150 : decode cX10_strokeRead 150 = .ok (.sipush 183, 3) := by decide +kernel
theorem dX10_strokeRead_153 : decode cX10_strokeRead 153 = .ok (.aload_n 0, 1) := by decide +kernel
theorem dX10_strokeRead_154 : decode cX10_strokeRead 154 = .ok (.getfield 13, 3) := by decide +kernel
theorem dX10_strokeRead_157 : decode cX10_strokeRead 157 = .ok (.iconst 2, 1) := by decide +kernel
theorem dX10_strokeRead_158 : decode cX10_strokeRead 158 = .ok (.iaload, 1) := by decide +kernel
theorem dX10_strokeRead_159 : decode cX10_strokeRead 159 = .ok (.iadd, 1) := by decide +kernel
theorem dX10_strokeRead_160 : decode cX10_strokeRead 160 = .ok (.iconst 0, 1) := by decide +kernel
theorem dX10_strokeRead_161 : decode cX10_strokeRead 161 = .ok (.iastore, 1) := by decide +kernel
theorem dX10_strokeRead_162 : decode cX10_strokeRead 162 = .ok (.aload_n 0, 1) := by decide +kernel
theorem dX10_strokeRead_163 : decode cX10_strokeRead 163 = .ok (.getfield 13, 3) := by decide +kernel
theorem dX10_strokeRead_166 : decode cX10_strokeRead 166 = .ok (.sipush 195, 3) := by decide +kernel
theorem dX10_strokeRead_169 : decode cX10_strokeRead 169 = .ok (.aload_n 0, 1) := by decide +kernel
theorem dX10_strokeRead_170 : decode cX10_strokeRead 170 = .ok (.getfield 13, 3) := by decide +kernel
theorem dX10_strokeRead_173 : decode cX10_strokeRead 173 = .ok (.iconst 2, 1) := by decide +kernel
theorem dX10_strokeRead_174 : decode cX10_strokeRead 174 = .ok (.iaload, 1) := by decide +kernel
theorem dX10_strokeRead_175 : decode cX10_strokeRead 175 = .ok (.iadd, 1) := by decide +kernel
theorem dX10_strokeRead_176 : decode cX10_strokeRead 176 = .ok (.iconst 0, 1) := by decide +kernel
theorem dX10_strokeRead_177 : decode cX10_strokeRead 177 = .ok (.iastore, 1) := by decide +kernel
theorem dX10_strokeRead_178 : decode cX10_strokeRead 178 = .ok (.aload_n 0, 1) := by decide +kernel
theorem dX10_strokeRead_179 : decode cX10_strokeRead 179 = .ok (.getfield 13, 3) := by decide +kernel
theorem dX10_strokeRead_182 : decode cX10_strokeRead 182 = .ok (.iconst 2, 1) := by decide +kernel
theorem dX10_strokeRead_183 : decode cX10_strokeRead 183 = .ok (.dup2, 1) := by decide +kernel
theorem dX10_strokeRead_184 : decode cX10_strokeRead 184 = .ok (.iaload, 1) := by decide +kernel
theorem dX10_strokeRead_185 : decode cX10_strokeRead 185 = .ok (.iconst 1, 1) := by decide +kernel
theorem dX10_strokeRead_186 : decode cX10_strokeRead 186 = .ok (.iadd, 1) := by decide +kernel
theorem dX10_strokeRead_187 : decode cX10_strokeRead 187 = .ok (.iastore, 1) := by decide +kernel
theorem dX10_strokeRead_188 : decode cX10_strokeRead 188 = .ok (.return_, 1) := by decide +kernel
theorem dX10_handRead_0 : decode cX10_handRead 0 = .ok (.aload_n 0, 1) := by decide +kernel
theorem dX10_handRead_1 : decode cX10_handRead 1 = .ok (.iconst 0, 1) := by decide +kernel
theorem dX10_handRead_2 : decode cX10_handRead 2 = .ok (.aload_n 0, 1) := by decide +kernel
theorem dX10_handRead_3 : decode cX10_handRead 3 = .ok (.getfield 13, 3) := by decide +kernel
theorem dX10_handRead_6 : decode cX10_handRead 6 = .ok (.iconst 2, 1) := by decide +kernel
theorem dX10_handRead_7 : decode cX10_handRead 7 = .ok (.iaload, 1) := by decide +kernel
theorem dX10_handRead_8 : decode cX10_handRead 8 = .ok (.iconst 1, 1) := by decide +kernel
theorem dX10_handRead_9 : decode cX10_handRead 9 = .ok (.isub, 1) := by decide +kernel
theorem dX10_handRead_10 : decode cX10_handRead 10 = .ok (.invokevirtual 135, 3) := by decide +kernel
theorem dX10_handRead_13 : decode cX10_handRead 13 = .ok (.istore_n 2, 1) := by decide +kernel
theorem dX10_handRead_14 : decode cX10_handRead 14 = .ok (.aload_n 0, 1) := by decide +kernel
theorem dX10_handRead_15 : decode cX10_handRead 15 = .ok (.iconst 0, 1) := by decide +kernel
theorem dX10_handRead_16 : decode cX10_handRead 16 = .ok (.iconst 1, 1) := by decide +kernel
theorem dX10_handRead_17 : decode cX10_handRead 17 = .ok (.invokevirtual 135, 3) := by decide +kernel
theorem dX10_handRead_20 : decode cX10_handRead 20 = .ok (.istore_n 3, 1) := by decide +kernel
theorem dX10_handRead_21 : decode cX10_handRead 21 = .ok (.aload_n 0, 1) := by decide +kernel
theorem dX10_handRead_22 : decode cX10_handRead 22 = .ok (.getfield 76, 3) := by decide +kernel
theorem dX10_handRead_25 : decode cX10_handRead 25 = .ok (.ifCond .eq 4, 3) := by decide +kernel
theorem dX10_handRead_28 : decode cX10_handRead 28 = .ok (.return_, 1) := by decide +kernel
theorem dX10_handRead_29 : decode cX10_handRead 29 = .ok (.aload_n 0, 1) := by decide +kernel
theorem dX10_handRead_30 : decode cX10_handRead 30 = .ok (.getfield 13, 3) := by decide +kernel
theorem dX10_handRead_33 : decode cX10_handRead 33 = .ok (.sipush 183, 3) := by decide +kernel
theorem dX10_handRead_36 : decode cX10_handRead 36 = .ok (.iload_n 2, 1) := by decide +kernel
theorem dX10_handRead_37 : decode cX10_handRead 37 = .ok (.iadd, 1) := by decide +kernel
theorem dX10_handRead_38 : decode cX10_handRead 38 = .ok (.iload_n 3, 1) := by decide +kernel
theorem dX10_handRead_39 : decode cX10_handRead 39 = .ok (.iconst 1, 1) := by decide +kernel
theorem dX10_handRead_40 : decode cX10_handRead 40 = .ok (.iadd, 1) := by decide +kernel
theorem dX10_handRead_41 : decode cX10_handRead 41 = .ok (.iastore, 1) := by decide +kernel
theorem dX10_handRead_42 : decode cX10_handRead 42 = .ok (.aload_n 0, 1) := by decide +kernel
theorem dX10_handRead_43 : decode cX10_handRead 43 = .ok (.invokevirtual 169, 3) := by decide +kernel
theorem dX10_handRead_46 : decode cX10_handRead 46 = .ok (.aload_n 0, 1) := by decide +kernel
theorem dX10_handRead_47 : decode cX10_handRead 47 = .ok (.invokevirtual 172, 3) := by decide +kernel
theorem dX10_handRead_50 : decode cX10_handRead 50 = .ok (.ifCond .ne 10, 3) := by decide +kernel
theorem dX10_handRead_53 : decode cX10_handRead 53 = .ok (.aload_n 0, 1) := by decide +kernel
theorem dX10_handRead_54 : decode cX10_handRead 54 = .ok (.bipush 6, 2) := by decide +kernel
theorem dX10_handRead_56 : decode cX10_handRead 56 = .ok (.iload_n 1, 1) := by decide +kernel
theorem dX10_handRead_57 : decode cX10_handRead 57 = .ok (.invokevirtual 116, 3) := by decide +kernel
theorem dX10_handRead_60 : decode cX10_handRead 60 = .ok (.return_, 1) := by decide +kernel
theorem dX10_overRead_0 : decode cX10_overRead 0 = .ok (.aload_n 0, 1) := by decide +kernel
theorem dX10_overRead_1 : decode cX10_overRead 1 = .ok (.iconst 0, 1) := by decide +kernel
theorem dX10_overRead_2 : decode cX10_overRead 2 = .ok (.aload_n 0, 1) := by decide +kernel
theorem dX10_overRead_3 : decode cX10_overRead 3 = .ok (.getfield 13, 3) := by decide +kernel
theorem dX10_overRead_6 : decode cX10_overRead 6 = .ok (.iconst 2, 1) := by decide +kernel
theorem dX10_overRead_7 : decode cX10_overRead 7 = .ok (.iaload, 1) := by decide +kernel
theorem dX10_overRead_8 : decode cX10_overRead 8 = .ok (.iconst 1, 1) := by decide +kernel
theorem dX10_overRead_9 : decode cX10_overRead 9 = .ok (.isub, 1) := by decide +kernel
theorem dX10_overRead_10 : decode cX10_overRead 10 = .ok (.invokevirtual 135, 3) := by decide +kernel
theorem dX10_overRead_13 : decode cX10_overRead 13 = .ok (.istore_n 2, 1) := by decide +kernel
theorem dX10_overRead_14 : decode cX10_overRead 14 = .ok (.aload_n 0, 1) := by decide +kernel
theorem dX10_overRead_15 : decode cX10_overRead 15 = .ok (.iconst 0, 1) := by decide +kernel
theorem dX10_overRead_16 : decode cX10_overRead 16 = .ok (.aload_n 0, 1) := by decide +kernel
theorem dX10_overRead_17 : decode cX10_overRead 17 = .ok (.getfield 13, 3) := by decide +kernel
theorem dX10_overRead_20 : decode cX10_overRead 20 = .ok (.iconst 2, 1) := by decide +kernel
theorem dX10_overRead_21 : decode cX10_overRead 21 = .ok (.iaload, 1) := by decide +kernel
theorem dX10_overRead_22 : decode cX10_overRead 22 = .ok (.iconst 1, 1) := by decide +kernel
theorem dX10_overRead_23 : decode cX10_overRead 23 = .ok (.isub, 1) := by decide +kernel
theorem dX10_overRead_24 : decode cX10_overRead 24 = .ok (.invokevirtual 135, 3) := by decide +kernel
theorem dX10_overRead_27 : decode cX10_overRead 27 = .ok (.istore_n 3, 1) := by decide +kernel
theorem dX10_overRead_28 : decode cX10_overRead 28 = .ok (.aload_n 0, 1) := by decide +kernel
theorem dX10_overRead_29 : decode cX10_overRead 29 = .ok (.getfield 76, 3) := by decide +kernel
theorem dX10_overRead_32 : decode cX10_overRead 32 = .ok (.ifCond .eq 4, 3) := by decide +kernel
theorem dX10_overRead_35 : decode cX10_overRead 35 = .ok (.return_, 1) := by decide +kernel
theorem dX10_overRead_36 : decode cX10_overRead 36 = .ok (.iload_n 2, 1) := by decide +kernel
theorem dX10_overRead_37 : decode cX10_overRead 37 = .ok (.iload_n 3, 1) := by decide +kernel
theorem dX10_overRead_38 : decode cX10_overRead 38 = .ok (.if_icmp .eq 29, 3) := by decide +kernel
theorem dX10_overRead_41 : decode cX10_overRead 41 = .ok (.aload_n 0, 1) := by decide +kernel
theorem dX10_overRead_42 : decode cX10_overRead 42 = .ok (.iload_n 2, 1) := by decide +kernel
theorem dX10_overRead_43 : decode cX10_overRead 43 = .ok (.iload_n 3, 1) := by decide +kernel
theorem dX10_overRead_44 : decode cX10_overRead 44 = .ok (.invokevirtual 175, 3) := by decide +kernel
theorem dX10_overRead_47 : decode cX10_overRead 47 = .ok (.ifCond .eq 20, 3) := by decide +kernel
theorem dX10_overRead_50 : decode cX10_overRead 50 = .ok (.aload_n 0, 1) := by decide +kernel
theorem dX10_overRead_51 : decode cX10_overRead 51 = .ok (.getfield 13, 3) := by decide +kernel
theorem dX10_overRead_54 : decode cX10_overRead 54 = .ok (.sipush 195, 3) := by decide +kernel
theorem dX10_overRead_57 : decode cX10_overRead 57 = .ok (.iload_n 2, 1) := by decide +kernel
theorem dX10_overRead_58 : decode cX10_overRead 58 = .ok (.iadd, 1) := by decide +kernel
theorem dX10_overRead_59 : decode cX10_overRead 59 = .ok (.iaload, 1) := by decide +kernel
theorem dX10_overRead_60 : decode cX10_overRead 60 = .ok (.iload_n 3, 1) := by decide +kernel
theorem dX10_overRead_61 : decode cX10_overRead 61 = .ok (.invokestatic 178, 3) := by decide +kernel
theorem dX10_overRead_64 : decode cX10_overRead 64 = .ok (.ifCond .eq 13, 3) := by decide +kernel
theorem dX10_overRead_67 : decode cX10_overRead 67 = .ok (.aload_n 0, 1) := by decide +kernel
theorem dX10_overRead_68 : decode cX10_overRead 68 = .ok (.iconst 3, 1) := by decide +kernel
theorem dX10_overRead_69 : decode cX10_overRead 69 = .ok (.aload_n 0, 1) := by decide +kernel
theorem dX10_overRead_70 : decode cX10_overRead 70 = .ok (.getfield 120, 3) := by decide +kernel
theorem dX10_overRead_73 : decode cX10_overRead 73 = .ok (.invokevirtual 116, 3) := by decide +kernel
theorem dX10_overRead_76 : decode cX10_overRead 76 = .ok (.return_, 1) := by decide +kernel
theorem dX10_overRead_77 : decode cX10_overRead 77 = .ok (.aload_n 0, 1) := by decide +kernel
theorem dX10_overRead_78 : decode cX10_overRead 78 = .ok (.iload_n 2, 1) := by decide +kernel
theorem dX10_overRead_79 : decode cX10_overRead 79 = .ok (.iload_n 3, 1) := by decide +kernel
theorem dX10_overRead_80 : decode cX10_overRead 80 = .ok (.invokevirtual 181, 3) := by decide +kernel
theorem dX10_overRead_83 : decode cX10_overRead 83 = .ok (.istore 4, 2) := by decide +kernel
theorem dX10_overRead_85 : decode cX10_overRead 85 = .ok (.iload 4, 2) := by decide +kernel
theorem dX10_overRead_87 : decode cX10_overRead 87 = .ok (.bipush (-5), 2) := by decide +kernel
theorem dX10_overRead_89 : decode cX10_overRead 89 = .ok (.if_icmp .ne 12, 3) := by decide +kernel
theorem dX10_overRead_92 : decode cX10_overRead 92 = .ok (.aload_n 0, 1) := by decide +kernel
theorem dX10_overRead_93 : decode cX10_overRead 93 = .ok (.iconst 5, 1) := by decide +kernel
theorem dX10_overRead_94 : decode cX10_overRead 94 = .ok (.iload_n 1, 1) := by decide +kernel
theorem dX10_overRead_95 : decode cX10_overRead 95 = .ok (.invokevirtual 116, 3) := by decide +kernel
theorem dX10_overRead_98 : decode cX10_overRead 98 = .ok (.goto 17, 3) := by decide +kernel
theorem dX10_overRead_101 : decode cX10_overRead 101 = .ok (.iload 4, 2) := by decide +kernel
theorem dX10_overRead_103 : decode cX10_overRead 103 = .ok (.bipush (-9), 2) := by decide +kernel
theorem dX10_overRead_105 : decode cX10_overRead 105 = .ok (.if_icmp .ne 10, 3) := by decide +kernel
theorem dX10_overRead_108 : decode cX10_overRead 108 = .ok (.aload_n 0, 1) := by decide +kernel
theorem dX10_overRead_109 : decode cX10_overRead 109 = .ok (.bipush 6, 2) := by decide +kernel
theorem dX10_overRead_111 : decode cX10_overRead 111 = .ok (.iload_n 1, 1) := by decide +kernel
theorem dX10_overRead_112 : decode cX10_overRead 112 = .ok (.invokevirtual 116, 3) := by decide +kernel
theorem dX10_overRead_115 : decode cX10_overRead 115 = .ok (.aload_n 0, 1) := by decide +kernel
theorem dX10_overRead_116 : decode cX10_overRead 116 = .ok (.getfield 13, 3) := by decide +kernel
theorem dX10_overRead_119 : decode cX10_overRead 119 = .ok (.sipush 195, 3) := by decide +kernel
theorem dX10_overRead_122 : decode cX10_overRead 122 = .ok (.iload_n 2, 1) := by decide +kernel
theorem dX10_overRead_123 : decode cX10_overRead 123 = .ok (.iadd, 1) := by decide +kernel
theorem dX10_overRead_124 : decode cX10_overRead 124 = .ok (.dup2, 1) := by decide +kernel
theorem dX10_overRead_125 : decode cX10_overRead 125 = .ok (.iaload, 1) := by decide +kernel
theorem dX10_overRead_126 : decode cX10_overRead 126 = .ok (.iconst 1, 1) := by decide +kernel
theorem dX10_overRead_127 : decode cX10_overRead 127 = .ok (.iload_n 3, 1) := by decide +kernel
theorem dX10_overRead_128 : decode cX10_overRead 128 = .ok (.ishl, 1) := by decide +kernel
theorem dX10_overRead_129 : decode cX10_overRead 129 = .ok (.ior, 1) := by decide +kernel
theorem dX10_overRead_130 : decode cX10_overRead 130 = .ok (.iastore, 1) := by decide +kernel
theorem dX10_overRead_131 : decode cX10_overRead 131 = .ok (.return_, 1) := by decide +kernel
theorem dX10_letterNamed_0 : decode cX10_letterNamed 0 = .ok (.iconst 0, 1) := by decide +kernel
theorem dX10_letterNamed_1 : decode cX10_letterNamed 1 = .ok (.istore_n 2, 1) := by decide +kernel
theorem dX10_letterNamed_2 : decode cX10_letterNamed 2 = .ok (.iload_n 2, 1) := by decide +kernel
theorem dX10_letterNamed_3 : decode cX10_letterNamed 3 = .ok (.aload_n 0, 1) := by decide +kernel
theorem dX10_letterNamed_4 : decode cX10_letterNamed 4 = .ok (.getfield 13, 3) := by decide +kernel
theorem dX10_letterNamed_7 : decode cX10_letterNamed 7 = .ok (.iconst 3, 1) := by decide +kernel
theorem dX10_letterNamed_8 : decode cX10_letterNamed 8 = .ok (.iaload, 1) := by decide +kernel
theorem dX10_letterNamed_9 : decode cX10_letterNamed 9 = .ok (.if_icmp .ge 26, 3) := by decide +kernel
theorem dX10_letterNamed_12 : decode cX10_letterNamed 12 = .ok (.aload_n 0, 1) := by decide +kernel
theorem dX10_letterNamed_13 : decode cX10_letterNamed 13 = .ok (.getfield 13, 3) := by decide +kernel
theorem dX10_letterNamed_16 : decode cX10_letterNamed 16 = .ok (.bipush 55, 2) := by decide +kernel
theorem dX10_letterNamed_18 : decode cX10_letterNamed 18 = .ok (.iconst 2, 1) := by decide +kernel
theorem dX10_letterNamed_19 : decode cX10_letterNamed 19 = .ok (.iload_n 2, 1) := by decide +kernel
theorem dX10_letterNamed_20 : decode cX10_letterNamed 20 = .ok (.imul, 1) := by decide +kernel
theorem dX10_letterNamed_21 : decode cX10_letterNamed 21 = .ok (.iadd, 1) := by decide +kernel
theorem dX10_letterNamed_22 : decode cX10_letterNamed 22 = .ok (.iaload, 1) := by decide +kernel
theorem dX10_letterNamed_23 : decode cX10_letterNamed 23 = .ok (.iload_n 1, 1) := by decide +kernel
theorem dX10_letterNamed_24 : decode cX10_letterNamed 24 = .ok (.if_icmp .ne 5, 3) := by decide +kernel
theorem dX10_letterNamed_27 : decode cX10_letterNamed 27 = .ok (.iload_n 2, 1) := by decide +kernel
theorem dX10_letterNamed_28 : decode cX10_letterNamed 28 = .ok (.ireturn, 1) := by decide +kernel
theorem dX10_letterNamed_29 : decode cX10_letterNamed 29 = .ok (.iinc 2 1, 3) := by decide +kernel
theorem dX10_letterNamed_32 : decode cX10_letterNamed 32 = .ok (.goto (-30), 3) := by decide +kernel
theorem dX10_letterNamed_35 : decode cX10_letterNamed 35 = .ok (.iconst (-1), 1) := by decide +kernel
theorem dX10_letterNamed_36 : decode cX10_letterNamed 36 = .ok (.ireturn, 1) := by decide +kernel
theorem dX10_letterRead_0 : decode cX10_letterRead 0 = .ok (.aload_n 0, 1) := by decide +kernel
theorem dX10_letterRead_1 : decode cX10_letterRead 1 = .ok (.invokevirtual 95, 3) := by decide +kernel
theorem dX10_letterRead_4 : decode cX10_letterRead 4 = .ok (.istore_n 2, 1) := by decide +kernel
theorem dX10_letterRead_5 : decode cX10_letterRead 5 = .ok (.aload_n 0, 1) := by decide +kernel
theorem dX10_letterRead_6 : decode cX10_letterRead 6 = .ok (.invokevirtual 99, 3) := by decide +kernel
theorem dX10_letterRead_9 : decode cX10_letterRead 9 = .ok (.istore_n 3, 1) := by decide +kernel
theorem dX10_letterRead_10 : decode cX10_letterRead 10 = .ok (.iload_n 2, 1) := by decide +kernel
theorem dX10_letterRead_11 : decode cX10_letterRead 11 = .ok (.invokestatic 91, 3) := by decide +kernel
theorem dX10_letterRead_14 : decode cX10_letterRead 14 = .ok (.ifCond .eq 8, 3) := by decide +kernel
theorem dX10_letterRead_17 : decode cX10_letterRead 17 = .ok (.iload_n 3, 1) := by decide +kernel
theorem dX10_letterRead_18 : decode cX10_letterRead 18 = .ok (.iconst 1, 1) := by decide +kernel
theorem dX10_letterRead_19 : decode cX10_letterRead 19 = .ok (.if_icmp .le 15, 3) := by decide +kernel
theorem dX10_letterRead_22 : decode cX10_letterRead 22 = .ok (.aload_n 0, 1) := by decide +kernel
theorem dX10_letterRead_23 : decode cX10_letterRead 23 = .ok (.iconst 1, 1) := by decide +kernel
theorem dX10_letterRead_24 : decode cX10_letterRead 24 = .ok (.aload_n 0, 1) := by decide +kernel
theorem dX10_letterRead_25 : decode cX10_letterRead 25 = .ok (.getfield 70, 3) := by decide +kernel
theorem dX10_letterRead_28 : decode cX10_letterRead 28 = .ok (.invokevirtual 116, 3) := by decide +kernel
theorem dX10_letterRead_31 : decode cX10_letterRead 31 = .ok (.goto 24, 3) := by decide +kernel
theorem dX10_letterRead_34 : decode cX10_letterRead 34 = .ok (.aload_n 0, 1) := by decide +kernel
theorem dX10_letterRead_35 : decode cX10_letterRead 35 = .ok (.iload_n 2, 1) := by decide +kernel
theorem dX10_letterRead_36 : decode cX10_letterRead 36 = .ok (.bipush 96, 2) := by decide +kernel
theorem dX10_letterRead_38 : decode cX10_letterRead 38 = .ok (.isub, 1) := by decide +kernel
theorem dX10_letterRead_39 : decode cX10_letterRead 39 = .ok (.invokevirtual 184, 3) := by decide +kernel
theorem dX10_letterRead_42 : decode cX10_letterRead 42 = .ok (.iconst (-1), 1) := by decide +kernel
theorem dX10_letterRead_43 : decode cX10_letterRead 43 = .ok (.if_icmp .eq 12, 3) := by decide +kernel
theorem dX10_letterRead_46 : decode cX10_letterRead 46 = .ok (.aload_n 0, 1) := by decide +kernel
theorem dX10_letterRead_47 : decode cX10_letterRead 47 = .ok (.iconst 3, 1) := by decide +kernel
theorem dX10_letterRead_48 : decode cX10_letterRead 48 = .ok (.aload_n 0, 1) := by decide +kernel
theorem dX10_letterRead_49 : decode cX10_letterRead 49 = .ok (.getfield 70, 3) := by decide +kernel
theorem dX10_letterRead_52 : decode cX10_letterRead 52 = .ok (.invokevirtual 116, 3) := by decide +kernel
theorem dX10_letterRead_55 : decode cX10_letterRead 55 = .ok (.aload_n 0, 1) := by decide +kernel
theorem dX10_letterRead_56 : decode cX10_letterRead 56 = .ok (.getfield 76, 3) := by decide +kernel
theorem dX10_letterRead_59 : decode cX10_letterRead 59 = .ok (.ifCond .eq 4, 3) := by decide +kernel
theorem dX10_letterRead_62 : decode cX10_letterRead 62 = .ok (.return_, 1) := by decide +kernel
theorem dX10_letterRead_63 : decode cX10_letterRead 63 = .ok (.aload_n 0, 1) := by decide +kernel
theorem dX10_letterRead_64 : decode cX10_letterRead 64 = .ok (.dup, 1) := by decide +kernel
theorem dX10_letterRead_65 : decode cX10_letterRead 65 = .ok (.getfield 70, 3) := by decide +kernel
theorem dX10_letterRead_68 : decode cX10_letterRead 68 = .ok (.iconst 1, 1) := by decide +kernel
theorem dX10_letterRead_69 : decode cX10_letterRead 69 = .ok (.iadd, 1) := by decide +kernel
theorem dX10_letterRead_70 : decode cX10_letterRead 70 = .ok (.putfield 70, 3) := by decide +kernel
theorem dX10_letterRead_73 : decode cX10_letterRead 73 = .ok (.aload_n 0, 1) := by decide +kernel
theorem dX10_letterRead_74 : decode cX10_letterRead 74 = .ok (.iconst 1, 1) := by decide +kernel
theorem dX10_letterRead_75 : decode cX10_letterRead 75 = .ok (.sipush 511, 3) := by decide +kernel
theorem dX10_letterRead_78 : decode cX10_letterRead 78 = .ok (.invokevirtual 135, 3) := by decide +kernel
theorem dX10_letterRead_81 : decode cX10_letterRead 81 = .ok (.istore 4, 2) := by decide +kernel
theorem dX10_letterRead_83 : decode cX10_letterRead 83 = .ok (.aload_n 0, 1) := by decide +kernel
theorem dX10_letterRead_84 : decode cX10_letterRead 84 = .ok (.iconst 1, 1) := by decide +kernel
theorem dX10_letterRead_85 : decode cX10_letterRead 85 = .ok (.bipush 99, 2) := by decide +kernel
theorem dX10_letterRead_87 : decode cX10_letterRead 87 = .ok (.invokevirtual 135, 3) := by decide +kernel
theorem dX10_letterRead_90 : decode cX10_letterRead 90 = .ok (.istore 5, 2) := by decide +kernel
theorem dX10_letterRead_92 : decode cX10_letterRead 92 = .ok (.aload_n 0, 1) := by decide +kernel
theorem dX10_letterRead_93 : decode cX10_letterRead 93 = .ok (.getfield 76, 3) := by decide +kernel
theorem dX10_letterRead_96 : decode cX10_letterRead 96 = .ok (.ifCond .eq 4, 3) := by decide +kernel
theorem dX10_letterRead_99 : decode cX10_letterRead 99 = .ok (.return_, 1) := by decide +kernel
theorem dX10_letterRead_100 : decode cX10_letterRead 100 = .ok (.aload_n 0, 1) := by decide +kernel
theorem dX10_letterRead_101 : decode cX10_letterRead 101 = .ok (.getfield 13, 3) := by decide +kernel
theorem dX10_letterRead_104 : decode cX10_letterRead 104 = .ok (.iload_n 1, 1) := by decide +kernel
theorem dX10_letterRead_105 : decode cX10_letterRead 105 = .ok (.iload_n 2, 1) := by decide +kernel
theorem dX10_letterRead_106 : decode cX10_letterRead 106 = .ok (.bipush 96, 2) := by decide +kernel
theorem dX10_letterRead_108 : decode cX10_letterRead 108 = .ok (.isub, 1) := by decide +kernel
theorem dX10_letterRead_109 : decode cX10_letterRead 109 = .ok (.iastore, 1) := by decide +kernel
theorem dX10_letterRead_110 : decode cX10_letterRead 110 = .ok (.aload_n 0, 1) := by decide +kernel
theorem dX10_letterRead_111 : decode cX10_letterRead 111 = .ok (.getfield 13, 3) := by decide +kernel
theorem dX10_letterRead_114 : decode cX10_letterRead 114 = .ok (.iload_n 1, 1) := by decide +kernel
theorem dX10_letterRead_115 : decode cX10_letterRead 115 = .ok (.iconst 1, 1) := by decide +kernel
theorem dX10_letterRead_116 : decode cX10_letterRead 116 = .ok (.iadd, 1) := by decide +kernel
theorem dX10_letterRead_117 : decode cX10_letterRead 117 = .ok (.iload 4, 2) := by decide +kernel
theorem dX10_letterRead_119 : decode cX10_letterRead 119 = .ok (.iastore, 1) := by decide +kernel
theorem dX10_letterRead_120 : decode cX10_letterRead 120 = .ok (.aload_n 0, 1) := by decide +kernel
theorem dX10_letterRead_121 : decode cX10_letterRead 121 = .ok (.getfield 13, 3) := by decide +kernel
theorem dX10_letterRead_124 : decode cX10_letterRead 124 = .ok (.sipush 207, 3) := by decide +kernel
theorem dX10_letterRead_127 : decode cX10_letterRead 127 = .ok (.aload_n 0, 1) := by decide +kernel
theorem dX10_letterRead_128 : decode cX10_letterRead 128 = .ok (.getfield 13, 3) := by decide +kernel
theorem dX10_letterRead_131 : decode cX10_letterRead 131 = .ok (.iconst 3, 1) := by decide +kernel
theorem dX10_letterRead_132 : decode cX10_letterRead 132 = .ok (.iaload, 1) := by decide +kernel
theorem dX10_letterRead_133 : decode cX10_letterRead 133 = .ok (.iadd, 1) := by decide +kernel
theorem dX10_letterRead_134 : decode cX10_letterRead 134 = .ok (.iload 5, 2) := by decide +kernel
theorem dX10_letterRead_136 : decode cX10_letterRead 136 = .ok (.iastore, 1) := by decide +kernel
theorem dX10_letterRead_137 : decode cX10_letterRead 137 = .ok (.aload_n 0, 1) := by decide +kernel
theorem dX10_letterRead_138 : decode cX10_letterRead 138 = .ok (.getfield 13, 3) := by decide +kernel
theorem dX10_letterRead_141 : decode cX10_letterRead 141 = .ok (.iconst 3, 1) := by decide +kernel
theorem dX10_letterRead_142 : decode cX10_letterRead 142 = .ok (.dup2, 1) := by decide +kernel
theorem dX10_letterRead_143 : decode cX10_letterRead 143 = .ok (.iaload, 1) := by decide +kernel
theorem dX10_letterRead_144 : decode cX10_letterRead 144 = .ok (.iconst 1, 1) := by decide +kernel
theorem dX10_letterRead_145 : decode cX10_letterRead 145 = .ok (.iadd, 1) := by decide +kernel
theorem dX10_letterRead_146 : decode cX10_letterRead 146 = .ok (.iastore, 1) := by decide +kernel
theorem dX10_letterRead_147 : decode cX10_letterRead 147 = .ok (.return_, 1) := by decide +kernel
theorem dX10_wordRead_0 : decode cX10_wordRead 0 = .ok (.aload_n 0, 1) := by decide +kernel
theorem dX10_wordRead_1 : decode cX10_wordRead 1 = .ok (.invokevirtual 95, 3) := by decide +kernel
theorem dX10_wordRead_4 : decode cX10_wordRead 4 = .ok (.istore_n 2, 1) := by decide +kernel
theorem dX10_wordRead_5 : decode cX10_wordRead 5 = .ok (.aload_n 0, 1) := by decide +kernel
theorem dX10_wordRead_6 : decode cX10_wordRead 6 = .ok (.invokevirtual 99, 3) := by decide +kernel
theorem dX10_wordRead_9 : decode cX10_wordRead 9 = .ok (.istore_n 3, 1) := by decide +kernel
theorem dX10_wordRead_10 : decode cX10_wordRead 10 = .ok (.iload_n 2, 1) := by decide +kernel
theorem dX10_wordRead_11 : decode cX10_wordRead 11 = .ok (.invokestatic 91, 3) := by decide +kernel
theorem dX10_wordRead_14 : decode cX10_wordRead 14 = .ok (.ifCond .eq 9, 3) := by decide +kernel
theorem dX10_wordRead_17 : decode cX10_wordRead 17 = .ok (.iload_n 3, 1) := by decide +kernel
theorem dX10_wordRead_18 : decode cX10_wordRead 18 = .ok (.bipush 6, 2) := by decide +kernel
theorem dX10_wordRead_20 : decode cX10_wordRead 20 = .ok (.if_icmp .le 12, 3) := by decide +kernel
theorem dX10_wordRead_23 : decode cX10_wordRead 23 = .ok (.aload_n 0, 1) := by decide +kernel
theorem dX10_wordRead_24 : decode cX10_wordRead 24 = .ok (.iconst 1, 1) := by decide +kernel
theorem dX10_wordRead_25 : decode cX10_wordRead 25 = .ok (.aload_n 0, 1) := by decide +kernel
theorem dX10_wordRead_26 : decode cX10_wordRead 26 = .ok (.getfield 70, 3) := by decide +kernel
theorem dX10_wordRead_29 : decode cX10_wordRead 29 = .ok (.invokevirtual 116, 3) := by decide +kernel
theorem dX10_wordRead_32 : decode cX10_wordRead 32 = .ok (.iconst 0, 1) := by decide +kernel
theorem dX10_wordRead_33 : decode cX10_wordRead 33 = .ok (.istore 4, 2) := by decide +kernel
theorem dX10_wordRead_35 : decode cX10_wordRead 35 = .ok (.iload 4, 2) := by decide +kernel
theorem dX10_wordRead_37 : decode cX10_wordRead 37 = .ok (.iload_n 3, 1) := by decide +kernel
theorem dX10_wordRead_38 : decode cX10_wordRead 38 = .ok (.if_icmp .ge 70, 3) := by decide +kernel
theorem dX10_wordRead_41 : decode cX10_wordRead 41 = .ok (.aload_n 0, 1) := by decide +kernel
theorem dX10_wordRead_42 : decode cX10_wordRead 42 = .ok (.getfield 76, 3) := by decide +kernel
theorem dX10_wordRead_45 : decode cX10_wordRead 45 = .ok (.ifCond .ne 63, 3) := by decide +kernel
theorem dX10_wordRead_48 : decode cX10_wordRead 48 = .ok (.aload_n 0, 1) := by decide +kernel
theorem dX10_wordRead_49 : decode cX10_wordRead 49 = .ok (.getfield 13, 3) := by decide +kernel
theorem dX10_wordRead_52 : decode cX10_wordRead 52 = .ok (.iload_n 1, 1) := by decide +kernel
theorem dX10_wordRead_53 : decode cX10_wordRead 53 = .ok (.iconst 1, 1) := by decide +kernel
theorem dX10_wordRead_54 : decode cX10_wordRead 54 = .ok (.iadd, 1) := by decide +kernel
theorem dX10_wordRead_55 : decode cX10_wordRead 55 = .ok (.iload 4, 2) := by decide +kernel
theorem dX10_wordRead_57 : decode cX10_wordRead 57 = .ok (.iadd, 1) := by decide +kernel
theorem dX10_wordRead_58 : decode cX10_wordRead 58 = .ok (.aload_n 0, 1) := by decide +kernel
theorem dX10_wordRead_59 : decode cX10_wordRead 59 = .ok (.aload_n 0, 1) := by decide +kernel
theorem dX10_wordRead_60 : decode cX10_wordRead 60 = .ok (.getfield 23, 3) := by decide +kernel
theorem dX10_wordRead_63 : decode cX10_wordRead 63 = .ok (.aload_n 0, 1) := by decide +kernel
theorem dX10_wordRead_64 : decode cX10_wordRead 64 = .ok (.getfield 70, 3) := by decide +kernel
theorem dX10_wordRead_67 : decode cX10_wordRead 67 = .ok (.iload 4, 2) := by decide +kernel
theorem dX10_wordRead_69 : decode cX10_wordRead 69 = .ok (.iadd, 1) := by decide +kernel
theorem dX10_wordRead_70 : decode cX10_wordRead 70 = .ok (.baload, 1) := by decide +kernel
theorem dX10_wordRead_71 : decode cX10_wordRead 71 = .ok (.bipush 96, 2) := by decide +kernel
theorem dX10_wordRead_73 : decode cX10_wordRead 73 = .ok (.isub, 1) := by decide +kernel
theorem dX10_wordRead_74 : decode cX10_wordRead 74 = .ok (.invokevirtual 184, 3) := by decide +kernel
theorem dX10_wordRead_77 : decode cX10_wordRead 77 = .ok (.iastore, 1) := by decide +kernel
theorem dX10_wordRead_78 : decode cX10_wordRead 78 = .ok (.aload_n 0, 1) := by decide +kernel
theorem dX10_wordRead_79 : decode cX10_wordRead 79 = .ok (.getfield 13, 3) := by decide +kernel
theorem dX10_wordRead_82 : decode cX10_wordRead 82 = .ok (.iload_n 1, 1) := by decide +kernel
theorem dX10_wordRead_83 : decode cX10_wordRead 83 = .ok (.iconst 1, 1) := by decide +kernel
theorem dX10_wordRead_84 : decode cX10_wordRead 84 = .ok (.iadd, 1) := by decide +kernel
theorem dX10_wordRead_85 : decode cX10_wordRead 85 = .ok (.iload 4, 2) := by decide +kernel
theorem dX10_wordRead_87 : decode cX10_wordRead 87 = .ok (.iadd, 1) := by decide +kernel
theorem dX10_wordRead_88 : decode cX10_wordRead 88 = .ok (.iaload, 1) := by decide +kernel
theorem dX10_wordRead_89 : decode cX10_wordRead 89 = .ok (.iconst (-1), 1) := by decide +kernel
theorem dX10_wordRead_90 : decode cX10_wordRead 90 = .ok (.if_icmp .ne 12, 3) := by decide +kernel
theorem dX10_wordRead_93 : decode cX10_wordRead 93 = .ok (.aload_n 0, 1) := by decide +kernel
theorem dX10_wordRead_94 : decode cX10_wordRead 94 = .ok (.iconst 3, 1) := by decide +kernel
theorem dX10_wordRead_95 : decode cX10_wordRead 95 = .ok (.aload_n 0, 1) := by decide +kernel
theorem dX10_wordRead_96 : decode cX10_wordRead 96 = .ok (.getfield 70, 3) := by decide +kernel
theorem dX10_wordRead_99 : decode cX10_wordRead 99 = .ok (.invokevirtual 116, 3) := by decide +kernel
theorem dX10_wordRead_102 : decode cX10_wordRead 102 = .ok (.iinc 4 1, 3) := by decide +kernel
theorem dX10_wordRead_105 : decode cX10_wordRead 105 = .ok (.goto (-70), 3) := by decide +kernel
theorem dX10_wordRead_108 : decode cX10_wordRead 108 = .ok (.aload_n 0, 1) := by decide +kernel
theorem dX10_wordRead_109 : decode cX10_wordRead 109 = .ok (.getfield 76, 3) := by decide +kernel
theorem dX10_wordRead_112 : decode cX10_wordRead 112 = .ok (.ifCond .eq 4, 3) := by decide +kernel
theorem dX10_wordRead_115 : decode cX10_wordRead 115 = .ok (.return_, 1) := by decide +kernel
theorem dX10_wordRead_116 : decode cX10_wordRead 116 = .ok (.aload_n 0, 1) := by decide +kernel
theorem dX10_wordRead_117 : decode cX10_wordRead 117 = .ok (.getfield 13, 3) := by decide +kernel
theorem dX10_wordRead_120 : decode cX10_wordRead 120 = .ok (.iload_n 1, 1) := by decide +kernel
theorem dX10_wordRead_121 : decode cX10_wordRead 121 = .ok (.iload_n 3, 1) := by decide +kernel
theorem dX10_wordRead_122 : decode cX10_wordRead 122 = .ok (.iastore, 1) := by decide +kernel
theorem dX10_wordRead_123 : decode cX10_wordRead 123 = .ok (.aload_n 0, 1) := by decide +kernel
theorem dX10_wordRead_124 : decode cX10_wordRead 124 = .ok (.getfield 13, 3) := by decide +kernel
theorem dX10_wordRead_127 : decode cX10_wordRead 127 = .ok (.iconst 5, 1) := by decide +kernel
theorem dX10_wordRead_128 : decode cX10_wordRead 128 = .ok (.dup2, 1) := by decide +kernel
theorem dX10_wordRead_129 : decode cX10_wordRead 129 = .ok (.iaload, 1) := by decide +kernel
theorem dX10_wordRead_130 : decode cX10_wordRead 130 = .ok (.iconst 1, 1) := by decide +kernel
theorem dX10_wordRead_131 : decode cX10_wordRead 131 = .ok (.iadd, 1) := by decide +kernel
theorem dX10_wordRead_132 : decode cX10_wordRead 132 = .ok (.iastore, 1) := by decide +kernel
theorem dX10_wordRead_133 : decode cX10_wordRead 133 = .ok (.aload_n 0, 1) := by decide +kernel
theorem dX10_wordRead_134 : decode cX10_wordRead 134 = .ok (.dup, 1) := by decide +kernel
theorem dX10_wordRead_135 : decode cX10_wordRead 135 = .ok (.getfield 70, 3) := by decide +kernel
theorem dX10_wordRead_138 : decode cX10_wordRead 138 = .ok (.iload_n 3, 1) := by decide +kernel
theorem dX10_wordRead_139 : decode cX10_wordRead 139 = .ok (.iadd, 1) := by decide +kernel
theorem dX10_wordRead_140 : decode cX10_wordRead 140 = .ok (.putfield 70, 3) := by decide +kernel
theorem dX10_wordRead_143 : decode cX10_wordRead 143 = .ok (.return_, 1) := by decide +kernel
theorem dX10_runRead_0 : decode cX10_runRead 0 = .ok (.aload_n 0, 1) := by decide +kernel
theorem dX10_runRead_1 : decode cX10_runRead 1 = .ok (.iconst 0, 1) := by decide +kernel
theorem dX10_runRead_2 : decode cX10_runRead 2 = .ok (.aload_n 0, 1) := by decide +kernel
theorem dX10_runRead_3 : decode cX10_runRead 3 = .ok (.getfield 13, 3) := by decide +kernel
theorem dX10_runRead_6 : decode cX10_runRead 6 = .ok (.iconst 4, 1) := by decide +kernel
theorem dX10_runRead_7 : decode cX10_runRead 7 = .ok (.iaload, 1) := by decide +kernel
theorem dX10_runRead_8 : decode cX10_runRead 8 = .ok (.iconst 1, 1) := by decide +kernel
theorem dX10_runRead_9 : decode cX10_runRead 9 = .ok (.isub, 1) := by decide +kernel
theorem dX10_runRead_10 : decode cX10_runRead 10 = .ok (.invokevirtual 135, 3) := by decide +kernel
theorem dX10_runRead_13 : decode cX10_runRead 13 = .ok (.istore_n 2, 1) := by decide +kernel
theorem dX10_runRead_14 : decode cX10_runRead 14 = .ok (.aload_n 0, 1) := by decide +kernel
theorem dX10_runRead_15 : decode cX10_runRead 15 = .ok (.getfield 13, 3) := by decide +kernel
theorem dX10_runRead_18 : decode cX10_runRead 18 = .ok (.iconst 4, 1) := by decide +kernel
theorem dX10_runRead_19 : decode cX10_runRead 19 = .ok (.iaload, 1) := by decide +kernel
theorem dX10_runRead_20 : decode cX10_runRead 20 = .ok (.iload_n 2, 1) := by decide +kernel
theorem dX10_runRead_21 : decode cX10_runRead 21 = .ok (.isub, 1) := by decide +kernel
theorem dX10_runRead_22 : decode cX10_runRead 22 = .ok (.istore_n 3, 1) := by decide +kernel
theorem dX10_runRead_23 : decode cX10_runRead 23 = .ok (.aload_n 0, 1) := by decide +kernel
theorem dX10_runRead_24 : decode cX10_runRead 24 = .ok (.iconst 1, 1) := by decide +kernel
theorem dX10_runRead_25 : decode cX10_runRead 25 = .ok (.iload_n 3, 1) := by decide +kernel
theorem dX10_runRead_26 : decode cX10_runRead 26 = .ok (.bipush 6, 2) := by decide +kernel
theorem dX10_runRead_28 : decode cX10_runRead 28 = .ok (.if_icmp .le 8, 3) := by decide +kernel
theorem dX10_runRead_31 : decode cX10_runRead 31 = .ok (.bipush 6, 2) := by decide +kernel
theorem dX10_runRead_33 : decode cX10_runRead 33 = .ok (.goto 4, 3) := by decide +kernel
theorem dX10_runRead_36 : decode cX10_runRead 36 = .ok (.iload_n 3, 1) := by decide +kernel
theorem dX10_runRead_37 : decode cX10_runRead 37 = .ok (.invokevirtual 135, 3) := by decide +kernel
theorem dX10_runRead_40 : decode cX10_runRead 40 = .ok (.istore 4, 2) := by decide +kernel
theorem dX10_runRead_42 : decode cX10_runRead 42 = .ok (.aload_n 0, 1) := by decide +kernel
theorem dX10_runRead_43 : decode cX10_runRead 43 = .ok (.getfield 76, 3) := by decide +kernel
theorem dX10_runRead_46 : decode cX10_runRead 46 = .ok (.ifCond .eq 4, 3) := by decide +kernel
theorem dX10_runRead_49 : decode cX10_runRead 49 = .ok (.return_, 1) := by decide +kernel
theorem dX10_runRead_50 : decode cX10_runRead 50 = .ok (.iload_n 2, 1) := by decide +kernel
theorem dX10_runRead_51 : decode cX10_runRead 51 = .ok (.istore 5, 2) := by decide +kernel
theorem dX10_runRead_53 : decode cX10_runRead 53 = .ok (.iload 5, 2) := by decide +kernel
theorem dX10_runRead_55 : decode cX10_runRead 55 = .ok (.iload_n 2, 1) := by decide +kernel
theorem dX10_runRead_56 : decode cX10_runRead 56 = .ok (.iload 4, 2) := by decide +kernel
theorem dX10_runRead_58 : decode cX10_runRead 58 = .ok (.iadd, 1) := by decide +kernel
theorem dX10_runRead_59 : decode cX10_runRead 59 = .ok (.if_icmp .ge 28, 3) := by decide +kernel
theorem dX10_runRead_62 : decode cX10_runRead 62 = .ok (.aload_n 0, 1) := by decide +kernel
theorem dX10_runRead_63 : decode cX10_runRead 63 = .ok (.iload 5, 2) := by decide +kernel
theorem dX10_runRead_65 : decode cX10_runRead 65 = .ok (.invokevirtual 187, 3) := by decide +kernel
theorem dX10_runRead_68 : decode cX10_runRead 68 = .ok (.iconst (-1), 1) := by decide +kernel
theorem dX10_runRead_69 : decode cX10_runRead 69 = .ok (.if_icmp .eq 12, 3) := by decide +kernel
theorem dX10_runRead_72 : decode cX10_runRead 72 = .ok (.aload_n 0, 1) := by decide +kernel
theorem dX10_runRead_73 : decode cX10_runRead 73 = .ok (.iconst 3, 1) := by decide +kernel
theorem dX10_runRead_74 : decode cX10_runRead 74 = .ok (.aload_n 0, 1) := by decide +kernel
theorem dX10_runRead_75 : decode cX10_runRead 75 = .ok (.getfield 120, 3) := by decide +kernel
theorem dX10_runRead_78 : decode cX10_runRead 78 = .ok (.invokevirtual 116, 3) := by decide +kernel
theorem dX10_runRead_81 : decode cX10_runRead 81 = .ok (.iinc 5 1, 3) := by decide +kernel
theorem dX10_runRead_84 : decode cX10_runRead 84 = .ok (.goto (-31), 3) := by decide +kernel
theorem dX10_runRead_87 : decode cX10_runRead 87 = .ok (.aload_n 0, 1) := by decide +kernel
theorem dX10_runRead_88 : decode cX10_runRead 88 = .ok (.getfield 13, 3) := by decide +kernel
theorem dX10_runRead_91 : decode cX10_runRead 91 = .ok (.iload_n 1, 1) := by decide +kernel
theorem dX10_runRead_92 : decode cX10_runRead 92 = .ok (.iload_n 2, 1) := by decide +kernel
theorem dX10_runRead_93 : decode cX10_runRead 93 = .ok (.iastore, 1) := by decide +kernel
theorem dX10_runRead_94 : decode cX10_runRead 94 = .ok (.aload_n 0, 1) := by decide +kernel
theorem dX10_runRead_95 : decode cX10_runRead 95 = .ok (.getfield 13, 3) := by decide +kernel
theorem dX10_runRead_98 : decode cX10_runRead 98 = .ok (.iload_n 1, 1) := by decide +kernel
theorem dX10_runRead_99 : decode cX10_runRead 99 = .ok (.iconst 1, 1) := by decide +kernel
theorem dX10_runRead_100 : decode cX10_runRead 100 = .ok (.iadd, 1) := by decide +kernel
theorem dX10_runRead_101 : decode cX10_runRead 101 = .ok (.iload 4, 2) := by decide +kernel
theorem dX10_runRead_103 : decode cX10_runRead 103 = .ok (.iastore, 1) := by decide +kernel
theorem dX10_runRead_104 : decode cX10_runRead 104 = .ok (.aload_n 0, 1) := by decide +kernel
theorem dX10_runRead_105 : decode cX10_runRead 105 = .ok (.getfield 13, 3) := by decide +kernel
theorem dX10_runRead_108 : decode cX10_runRead 108 = .ok (.bipush 6, 2) := by decide +kernel
theorem dX10_runRead_110 : decode cX10_runRead 110 = .ok (.dup2, 1) := by decide +kernel
theorem dX10_runRead_111 : decode cX10_runRead 111 = .ok (.iaload, 1) := by decide +kernel
theorem dX10_runRead_112 : decode cX10_runRead 112 = .ok (.iconst 1, 1) := by decide +kernel
theorem dX10_runRead_113 : decode cX10_runRead 113 = .ok (.iadd, 1) := by decide +kernel
theorem dX10_runRead_114 : decode cX10_runRead 114 = .ok (.iastore, 1) := by decide +kernel
theorem dX10_runRead_115 : decode cX10_runRead 115 = .ok (.return_, 1) := by decide +kernel
theorem dX10_tell_0 : decode cX10_tell 0 = .ok (.aload_n 0, 1) := by decide +kernel
theorem dX10_tell_1 : decode cX10_tell 1 = .ok (.iconst 0, 1) := by decide +kernel
theorem dX10_tell_2 : decode cX10_tell 2 = .ok (.putfield 1, 3) := by decide +kernel
theorem dX10_tell_5 : decode cX10_tell 5 = .ok (.iload_n 1, 1) := by decide +kernel
theorem dX10_tell_6 : decode cX10_tell 6 = .ok (.i2l, 1) := by decide +kernel
theorem dX10_tell_7 : decode cX10_tell 7 = .ok (.lconst 0, 1) := by decide +kernel
theorem dX10_tell_8 : decode cX10_tell 8 = .ok (.aload_n 0, 1) := by decide +kernel
theorem dX10_tell_9 : decode cX10_tell 9 = .ok (.getfield 67, 3) := by decide +kernel
theorem dX10_tell_12 : decode cX10_tell 12 = .ok (.i2l, 1) := by decide +kernel
theorem dX10_tell_13 : decode cX10_tell 13 = .ok (.invokestatic 83, 3) := by decide +kernel
theorem dX10_tell_16 : decode cX10_tell 16 = .ok (.ifCond .ne 6, 3) := by decide +kernel
theorem dX10_tell_19 : decode cX10_tell 19 = .ok (.bipush (-3), 2) := by decide +kernel
theorem dX10_tell_21 : decode cX10_tell 21 = .ok (.ireturn, 1) := by decide +kernel
theorem dX10_tell_22 : decode cX10_tell 22 = .ok (.aload_n 0, 1) := by decide +kernel
theorem dX10_tell_23 : decode cX10_tell 23 = .ok (.iconst 0, 1) := by decide +kernel
theorem dX10_tell_24 : decode cX10_tell 24 = .ok (.putfield 67, 3) := by decide +kernel
theorem dX10_tell_27 : decode cX10_tell 27 = .ok (.aload_n 0, 1) := by decide +kernel
theorem dX10_tell_28 : decode cX10_tell 28 = .ok (.iload_n 1, 1) := by decide +kernel
theorem dX10_tell_29 : decode cX10_tell 29 = .ok (.putfield 73, 3) := by decide +kernel
theorem dX10_tell_32 : decode cX10_tell 32 = .ok (.aload_n 0, 1) := by decide +kernel
theorem dX10_tell_33 : decode cX10_tell 33 = .ok (.iconst 0, 1) := by decide +kernel
theorem dX10_tell_34 : decode cX10_tell 34 = .ok (.putfield 70, 3) := by decide +kernel
theorem dX10_tell_37 : decode cX10_tell 37 = .ok (.aload_n 0, 1) := by decide +kernel
theorem dX10_tell_38 : decode cX10_tell 38 = .ok (.iconst 0, 1) := by decide +kernel
theorem dX10_tell_39 : decode cX10_tell 39 = .ok (.putfield 76, 3) := by decide +kernel
theorem dX10_tell_42 : decode cX10_tell 42 = .ok (.aload_n 0, 1) := by decide +kernel
theorem dX10_tell_43 : decode cX10_tell 43 = .ok (.iconst (-1), 1) := by decide +kernel
theorem dX10_tell_44 : decode cX10_tell 44 = .ok (.putfield 27, 3) := by decide +kernel
theorem dX10_tell_47 : decode cX10_tell 47 = .ok (.aload_n 0, 1) := by decide +kernel
theorem dX10_tell_48 : decode cX10_tell 48 = .ok (.iconst 0, 1) := by decide +kernel
theorem dX10_tell_49 : decode cX10_tell 49 = .ok (.putfield 126, 3) := by decide +kernel
theorem dX10_tell_52 : decode cX10_tell 52 = .ok (.iconst 0, 1) := by decide +kernel
theorem dX10_tell_53 : decode cX10_tell 53 = .ok (.istore_n 2, 1) := by decide +kernel
theorem dX10_tell_54 : decode cX10_tell 54 = .ok (.iload_n 2, 1) := by decide +kernel
theorem dX10_tell_55 : decode cX10_tell 55 = .ok (.sipush 217, 3) := by decide +kernel
theorem dX10_tell_58 : decode cX10_tell 58 = .ok (.if_icmp .ge 21, 3) := by decide +kernel
theorem dX10_tell_61 : decode cX10_tell 61 = .ok (.aload_n 0, 1) := by decide +kernel
theorem dX10_tell_62 : decode cX10_tell 62 = .ok (.getfield 17, 3) := by decide +kernel
theorem dX10_tell_65 : decode cX10_tell 65 = .ok (.iload_n 2, 1) := by decide +kernel
theorem dX10_tell_66 : decode cX10_tell 66 = .ok (.aload_n 0, 1) := by decide +kernel
theorem dX10_tell_67 : decode cX10_tell 67 = .ok (.getfield 13, 3) := by decide +kernel
theorem dX10_tell_70 : decode cX10_tell 70 = .ok (.iload_n 2, 1) := by decide +kernel
theorem dX10_tell_71 : decode cX10_tell 71 = .ok (.iaload, 1) := by decide +kernel
theorem dX10_tell_72 : decode cX10_tell 72 = .ok (.iastore, 1) := by decide +kernel
theorem dX10_tell_73 : decode cX10_tell 73 = .ok (.iinc 2 1, 3) := by decide +kernel
theorem dX10_tell_76 : decode cX10_tell 76 = .ok (.goto (-22), 3) := by decide +kernel
theorem dX10_tell_79 : decode cX10_tell 79 = .ok (.aload_n 0, 1) := by decide +kernel
theorem dX10_tell_80 : decode cX10_tell 80 = .ok (.invokevirtual 64, 3) := by decide +kernel
theorem dX10_tell_83 : decode cX10_tell 83 = .ok (.aload_n 0, 1) := by decide +kernel
theorem dX10_tell_84 : decode cX10_tell 84 = .ok (.getfield 76, 3) := by decide +kernel
theorem dX10_tell_87 : decode cX10_tell 87 = .ok (.ifCond .ne 18, 3) := by decide +kernel
theorem dX10_tell_90 : decode cX10_tell 90 = .ok (.aload_n 0, 1) := by decide +kernel
theorem dX10_tell_91 : decode cX10_tell 91 = .ok (.invokevirtual 95, 3) := by decide +kernel
theorem dX10_tell_94 : decode cX10_tell 94 = .ok (.iconst (-1), 1) := by decide +kernel
theorem dX10_tell_95 : decode cX10_tell 95 = .ok (.if_icmp .eq 10, 3) := by decide +kernel
theorem dX10_tell_98 : decode cX10_tell 98 = .ok (.aload_n 0, 1) := by decide +kernel
theorem dX10_tell_99 : decode cX10_tell 99 = .ok (.invokevirtual 190, 3) := by decide +kernel
theorem dX10_tell_102 : decode cX10_tell 102 = .ok (.goto (-19), 3) := by decide +kernel
theorem dX10_tell_105 : decode cX10_tell 105 = .ok (.aload_n 0, 1) := by decide +kernel
theorem dX10_tell_106 : decode cX10_tell 106 = .ok (.getfield 76, 3) := by decide +kernel
theorem dX10_tell_109 : decode cX10_tell 109 = .ok (.ifCond .ne 13, 3) := by decide +kernel
theorem dX10_tell_112 : decode cX10_tell 112 = .ok (.aload_n 0, 1) := by decide +kernel
theorem dX10_tell_113 : decode cX10_tell 113 = .ok (.iconst 0, 1) := by decide +kernel
theorem dX10_tell_114 : decode cX10_tell 114 = .ok (.putfield 193, 3) := by decide +kernel
theorem dX10_tell_117 : decode cX10_tell 117 = .ok (.aload_n 0, 1) := by decide +kernel
theorem dX10_tell_118 : decode cX10_tell 118 = .ok (.getfield 126, 3) := by decide +kernel
theorem dX10_tell_121 : decode cX10_tell 121 = .ok (.ireturn, 1) := by decide +kernel
theorem dX10_tell_122 : decode cX10_tell 122 = .ok (.iconst 0, 1) := by decide +kernel
theorem dX10_tell_123 : decode cX10_tell 123 = .ok (.istore_n 2, 1) := by decide +kernel
theorem dX10_tell_124 : decode cX10_tell 124 = .ok (.iload_n 2, 1) := by decide +kernel
theorem dX10_tell_125 : decode cX10_tell 125 = .ok (.sipush 217, 3) := by decide +kernel
theorem dX10_tell_128 : decode cX10_tell 128 = .ok (.if_icmp .ge 21, 3) := by decide +kernel
theorem dX10_tell_131 : decode cX10_tell 131 = .ok (.aload_n 0, 1) := by decide +kernel
theorem dX10_tell_132 : decode cX10_tell 132 = .ok (.getfield 13, 3) := by decide +kernel
theorem dX10_tell_135 : decode cX10_tell 135 = .ok (.iload_n 2, 1) := by decide +kernel
theorem dX10_tell_136 : decode cX10_tell 136 = .ok (.aload_n 0, 1) := by decide +kernel
theorem dX10_tell_137 : decode cX10_tell 137 = .ok (.getfield 17, 3) := by decide +kernel
theorem dX10_tell_140 : decode cX10_tell 140 = .ok (.iload_n 2, 1) := by decide +kernel
theorem dX10_tell_141 : decode cX10_tell 141 = .ok (.iaload, 1) := by decide +kernel
theorem dX10_tell_142 : decode cX10_tell 142 = .ok (.iastore, 1) := by decide +kernel
theorem dX10_tell_143 : decode cX10_tell 143 = .ok (.iinc 2 1, 3) := by decide +kernel
theorem dX10_tell_146 : decode cX10_tell 146 = .ok (.goto (-22), 3) := by decide +kernel
theorem dX10_tell_149 : decode cX10_tell 149 = .ok (.bipush (-30), 2) := by decide +kernel
theorem dX10_tell_151 : decode cX10_tell 151 = .ok (.aload_n 0, 1) := by decide +kernel
theorem dX10_tell_152 : decode cX10_tell 152 = .ok (.getfield 76, 3) := by decide +kernel
theorem dX10_tell_155 : decode cX10_tell 155 = .ok (.isub, 1) := by decide +kernel
theorem dX10_tell_156 : decode cX10_tell 156 = .ok (.ireturn, 1) := by decide +kernel
theorem dX10_fault_0 : decode cX10_fault 0 = .ok (.aload_n 0, 1) := by decide +kernel
theorem dX10_fault_1 : decode cX10_fault 1 = .ok (.iconst 0, 1) := by decide +kernel
theorem dX10_fault_2 : decode cX10_fault 2 = .ok (.putfield 1, 3) := by decide +kernel
theorem dX10_fault_5 : decode cX10_fault 5 = .ok (.iload_n 1, 1) := by decide +kernel
theorem dX10_fault_6 : decode cX10_fault 6 = .ok (.ifCond .ne 10, 3) := by decide +kernel
theorem dX10_fault_9 : decode cX10_fault 9 = .ok (.aload_n 0, 1) := by decide +kernel
theorem dX10_fault_10 : decode cX10_fault 10 = .ok (.getfield 76, 3) := by decide +kernel
theorem dX10_fault_13 : decode cX10_fault 13 = .ok (.goto 16, 3) := by decide +kernel
theorem dX10_fault_16 : decode cX10_fault 16 = .ok (.iload_n 1, 1) := by decide +kernel
theorem dX10_fault_17 : decode cX10_fault 17 = .ok (.iconst 1, 1) := by decide +kernel
theorem dX10_fault_18 : decode cX10_fault 18 = .ok (.if_icmp .ne 10, 3) := by decide +kernel
theorem dX10_fault_21 : decode cX10_fault 21 = .ok (.aload_n 0, 1) := by decide +kernel
theorem dX10_fault_22 : decode cX10_fault 22 = .ok (.getfield 27, 3) := by decide +kernel
theorem dX10_fault_25 : decode cX10_fault 25 = .ok (.goto 4, 3) := by decide +kernel
theorem dX10_fault_28 : decode cX10_fault 28 = .ok (.iconst (-1), 1) := by decide +kernel
theorem dX10_fault_29 : decode cX10_fault 29 = .ok (.ireturn, 1) := by decide +kernel
theorem dX10_isStroke_0 : decode cX10_isStroke 0 = .ok (.iload_n 1, 1) := by decide +kernel
theorem dX10_isStroke_1 : decode cX10_isStroke 1 = .ok (.i2l, 1) := by decide +kernel
theorem dX10_isStroke_2 : decode cX10_isStroke 2 = .ok (.lconst 0, 1) := by decide +kernel
theorem dX10_isStroke_3 : decode cX10_isStroke 3 = .ok (.aload_n 0, 1) := by decide +kernel
theorem dX10_isStroke_4 : decode cX10_isStroke 4 = .ok (.getfield 13, 3) := by decide +kernel
theorem dX10_isStroke_7 : decode cX10_isStroke 7 = .ok (.iconst 2, 1) := by decide +kernel
theorem dX10_isStroke_8 : decode cX10_isStroke 8 = .ok (.iaload, 1) := by decide +kernel
theorem dX10_isStroke_9 : decode cX10_isStroke 9 = .ok (.iconst 1, 1) := by decide +kernel
theorem dX10_isStroke_10 : decode cX10_isStroke 10 = .ok (.isub, 1) := by decide +kernel
theorem dX10_isStroke_11 : decode cX10_isStroke 11 = .ok (.i2l, 1) := by decide +kernel
theorem dX10_isStroke_12 : decode cX10_isStroke 12 = .ok (.invokestatic 83, 3) := by decide +kernel
theorem dX10_isStroke_15 : decode cX10_isStroke 15 = .ok (.ireturn, 1) := by decide +kernel
theorem dX10_xOf_0 : decode cX10_xOf 0 = .ok (.aload_n 0, 1) := by decide +kernel
theorem dX10_xOf_1 : decode cX10_xOf 1 = .ok (.getfield 13, 3) := by decide +kernel
theorem dX10_xOf_4 : decode cX10_xOf 4 = .ok (.bipush 7, 2) := by decide +kernel
theorem dX10_xOf_6 : decode cX10_xOf 6 = .ok (.iconst 4, 1) := by decide +kernel
theorem dX10_xOf_7 : decode cX10_xOf 7 = .ok (.iload_n 1, 1) := by decide +kernel
theorem dX10_xOf_8 : decode cX10_xOf 8 = .ok (.imul, 1) := by decide +kernel
theorem dX10_xOf_9 : decode cX10_xOf 9 = .ok (.iadd, 1) := by decide +kernel
theorem dX10_xOf_10 : decode cX10_xOf 10 = .ok (.iaload, 1) := by decide +kernel
theorem dX10_xOf_11 : decode cX10_xOf 11 = .ok (.iload_n 2, 1) := by decide +kernel
theorem dX10_xOf_12 : decode cX10_xOf 12 = .ok (.aload_n 0, 1) := by decide +kernel
theorem dX10_xOf_13 : decode cX10_xOf 13 = .ok (.getfield 13, 3) := by decide +kernel
theorem dX10_xOf_16 : decode cX10_xOf 16 = .ok (.bipush 7, 2) := by decide +kernel
theorem dX10_xOf_18 : decode cX10_xOf 18 = .ok (.iconst 4, 1) := by decide +kernel
theorem dX10_xOf_19 : decode cX10_xOf 19 = .ok (.iload_n 1, 1) := by decide +kernel
theorem dX10_xOf_20 : decode cX10_xOf 20 = .ok (.imul, 1) := by decide +kernel
theorem dX10_xOf_21 : decode cX10_xOf 21 = .ok (.iadd, 1) := by decide +kernel
theorem dX10_xOf_22 : decode cX10_xOf 22 = .ok (.iconst 2, 1) := by decide +kernel
theorem dX10_xOf_23 : decode cX10_xOf 23 = .ok (.iadd, 1) := by decide +kernel
theorem dX10_xOf_24 : decode cX10_xOf 24 = .ok (.iaload, 1) := by decide +kernel
theorem dX10_xOf_25 : decode cX10_xOf 25 = .ok (.invokestatic 158, 3) := by decide +kernel
theorem dX10_xOf_28 : decode cX10_xOf 28 = .ok (.imul, 1) := by decide +kernel
theorem dX10_xOf_29 : decode cX10_xOf 29 = .ok (.iadd, 1) := by decide +kernel
theorem dX10_xOf_30 : decode cX10_xOf 30 = .ok (.ireturn, 1) := by decide +kernel
theorem dX10_yOf_0 : decode cX10_yOf 0 = .ok (.aload_n 0, 1) := by decide +kernel
theorem dX10_yOf_1 : decode cX10_yOf 1 = .ok (.getfield 13, 3) := by decide +kernel
theorem dX10_yOf_4 : decode cX10_yOf 4 = .ok (.bipush 7, 2) := by decide +kernel
theorem dX10_yOf_6 : decode cX10_yOf 6 = .ok (.iconst 4, 1) := by decide +kernel
theorem dX10_yOf_7 : decode cX10_yOf 7 = .ok (.iload_n 1, 1) := by decide +kernel
theorem dX10_yOf_8 : decode cX10_yOf 8 = .ok (.imul, 1) := by decide +kernel
theorem dX10_yOf_9 : decode cX10_yOf 9 = .ok (.iadd, 1) := by decide +kernel
theorem dX10_yOf_10 : decode cX10_yOf 10 = .ok (.iconst 1, 1) := by decide +kernel
theorem dX10_yOf_11 : decode cX10_yOf 11 = .ok (.iadd, 1) := by decide +kernel
theorem dX10_yOf_12 : decode cX10_yOf 12 = .ok (.iaload, 1) := by decide +kernel
theorem dX10_yOf_13 : decode cX10_yOf 13 = .ok (.iload_n 2, 1) := by decide +kernel
theorem dX10_yOf_14 : decode cX10_yOf 14 = .ok (.aload_n 0, 1) := by decide +kernel
theorem dX10_yOf_15 : decode cX10_yOf 15 = .ok (.getfield 13, 3) := by decide +kernel
theorem dX10_yOf_18 : decode cX10_yOf 18 = .ok (.bipush 7, 2) := by decide +kernel
theorem dX10_yOf_20 : decode cX10_yOf 20 = .ok (.iconst 4, 1) := by decide +kernel
theorem dX10_yOf_21 : decode cX10_yOf 21 = .ok (.iload_n 1, 1) := by decide +kernel
theorem dX10_yOf_22 : decode cX10_yOf 22 = .ok (.imul, 1) := by decide +kernel
theorem dX10_yOf_23 : decode cX10_yOf 23 = .ok (.iadd, 1) := by decide +kernel
theorem dX10_yOf_24 : decode cX10_yOf 24 = .ok (.iconst 2, 1) := by decide +kernel
theorem dX10_yOf_25 : decode cX10_yOf 25 = .ok (.iadd, 1) := by decide +kernel
theorem dX10_yOf_26 : decode cX10_yOf 26 = .ok (.iaload, 1) := by decide +kernel
theorem dX10_yOf_27 : decode cX10_yOf 27 = .ok (.invokestatic 162, 3) := by decide +kernel
theorem dX10_yOf_30 : decode cX10_yOf 30 = .ok (.imul, 1) := by decide +kernel
theorem dX10_yOf_31 : decode cX10_yOf 31 = .ok (.iadd, 1) := by decide +kernel
theorem dX10_yOf_32 : decode cX10_yOf 32 = .ok (.ireturn, 1) := by decide +kernel
theorem dX10_longOf_0 : decode cX10_longOf 0 = .ok (.aload_n 0, 1) := by decide +kernel
theorem dX10_longOf_1 : decode cX10_longOf 1 = .ok (.getfield 13, 3) := by decide +kernel
theorem dX10_longOf_4 : decode cX10_longOf 4 = .ok (.bipush 7, 2) := by decide +kernel
theorem dX10_longOf_6 : decode cX10_longOf 6 = .ok (.iconst 4, 1) := by decide +kernel
theorem dX10_longOf_7 : decode cX10_longOf 7 = .ok (.iload_n 1, 1) := by decide +kernel
theorem dX10_longOf_8 : decode cX10_longOf 8 = .ok (.imul, 1) := by decide +kernel
theorem dX10_longOf_9 : decode cX10_longOf 9 = .ok (.iadd, 1) := by decide +kernel
theorem dX10_longOf_10 : decode cX10_longOf 10 = .ok (.iconst 3, 1) := by decide +kernel
theorem dX10_longOf_11 : decode cX10_longOf 11 = .ok (.iadd, 1) := by decide +kernel
theorem dX10_longOf_12 : decode cX10_longOf 12 = .ok (.iaload, 1) := by decide +kernel
theorem dX10_longOf_13 : decode cX10_longOf 13 = .ok (.ireturn, 1) := by decide +kernel
theorem dX10_covers_0 : decode cX10_covers 0 = .ok (.iconst 0, 1) := by decide +kernel
theorem dX10_covers_1 : decode cX10_covers 1 = .ok (.istore 4, 2) := by decide +kernel
theorem dX10_covers_3 : decode cX10_covers 3 = .ok (.iload 4, 2) := by decide +kernel
theorem dX10_covers_5 : decode cX10_covers 5 = .ok (.aload_n 0, 1) := by decide +kernel
theorem dX10_covers_6 : decode cX10_covers 6 = .ok (.iload_n 1, 1) := by decide +kernel
theorem dX10_covers_7 : decode cX10_covers 7 = .ok (.invokevirtual 196, 3) := by decide +kernel
theorem dX10_covers_10 : decode cX10_covers 10 = .ok (.if_icmp .ge 33, 3) := by decide +kernel
theorem dX10_covers_13 : decode cX10_covers 13 = .ok (.aload_n 0, 1) := by decide +kernel
theorem dX10_covers_14 : decode cX10_covers 14 = .ok (.iload_n 1, 1) := by decide +kernel
theorem dX10_covers_15 : decode cX10_covers 15 = .ok (.iload 4, 2) := by decide +kernel
theorem dX10_covers_17 : decode cX10_covers 17 = .ok (.invokevirtual 199, 3) := by decide +kernel
theorem dX10_covers_20 : decode cX10_covers 20 = .ok (.iload_n 2, 1) := by decide +kernel
theorem dX10_covers_21 : decode cX10_covers 21 = .ok (.if_icmp .ne 16, 3) := by decide +kernel
theorem dX10_covers_24 : decode cX10_covers 24 = .ok (.aload_n 0, 1) := by decide +kernel
theorem dX10_covers_25 : decode cX10_covers 25 = .ok (.iload_n 1, 1) := by decide +kernel
theorem dX10_covers_26 : decode cX10_covers 26 = .ok (.iload 4, 2) := by decide +kernel
theorem dX10_covers_28 : decode cX10_covers 28 = .ok (.invokevirtual 202, 3) := by decide +kernel
theorem dX10_covers_31 : decode cX10_covers 31 = .ok (.iload_n 3, 1) := by decide +kernel
theorem dX10_covers_32 : decode cX10_covers 32 = .ok (.if_icmp .ne 5, 3) := by decide +kernel
theorem dX10_covers_35 : decode cX10_covers 35 = .ok (.iconst 1, 1) := by decide +kernel
theorem dX10_covers_36 : decode cX10_covers 36 = .ok (.ireturn, 1) := by decide +kernel
theorem dX10_covers_37 : decode cX10_covers 37 = .ok (.iinc 4 1, 3) := by decide +kernel
theorem dX10_covers_40 : decode cX10_covers 40 = .ok (.goto (-37), 3) := by decide +kernel
theorem dX10_covers_43 : decode cX10_covers 43 = .ok (.iconst 0, 1) := by decide +kernel
theorem dX10_covers_44 : decode cX10_covers 44 = .ok (.ireturn, 1) := by decide +kernel
theorem dX10_commonOf_0 : decode cX10_commonOf 0 = .ok (.iconst 0, 1) := by decide +kernel
theorem dX10_commonOf_1 : decode cX10_commonOf 1 = .ok (.istore_n 3, 1) := by decide +kernel
theorem dX10_commonOf_2 : decode cX10_commonOf 2 = .ok (.iload_n 3, 1) := by decide +kernel
theorem dX10_commonOf_3 : decode cX10_commonOf 3 = .ok (.aload_n 0, 1) := by decide +kernel
theorem dX10_commonOf_4 : decode cX10_commonOf 4 = .ok (.iload_n 1, 1) := by decide +kernel
theorem dX10_commonOf_5 : decode cX10_commonOf 5 = .ok (.invokevirtual 196, 3) := by decide +kernel
theorem dX10_commonOf_8 : decode cX10_commonOf 8 = .ok (.if_icmp .ge 46, 3) := by decide +kernel
theorem dX10_commonOf_11 : decode cX10_commonOf 11 = .ok (.aload_n 0, 1) := by decide +kernel
theorem dX10_commonOf_12 : decode cX10_commonOf 12 = .ok (.iload_n 2, 1) := by decide +kernel
theorem dX10_commonOf_13 : decode cX10_commonOf 13 = .ok (.aload_n 0, 1) := by decide +kernel
theorem dX10_commonOf_14 : decode cX10_commonOf 14 = .ok (.iload_n 1, 1) := by decide +kernel
theorem dX10_commonOf_15 : decode cX10_commonOf 15 = .ok (.iload_n 3, 1) := by decide +kernel
theorem dX10_commonOf_16 : decode cX10_commonOf 16 = .ok (.invokevirtual 199, 3) := by decide +kernel
theorem dX10_commonOf_19 : decode cX10_commonOf 19 = .ok (.aload_n 0, 1) := by decide +kernel
theorem dX10_commonOf_20 : decode cX10_commonOf 20 = .ok (.iload_n 1, 1) := by decide +kernel
theorem dX10_commonOf_21 : decode cX10_commonOf 21 = .ok (.iload_n 3, 1) := by decide +kernel
theorem dX10_commonOf_22 : decode cX10_commonOf 22 = .ok (.invokevirtual 202, 3) := by decide +kernel
theorem dX10_commonOf_25 : decode cX10_commonOf 25 = .ok (.invokevirtual 205, 3) := by decide +kernel
theorem dX10_commonOf_28 : decode cX10_commonOf 28 = .ok (.ifCond .eq 20, 3) := by decide +kernel
theorem dX10_commonOf_31 : decode cX10_commonOf 31 = .ok (.bipush 100, 2) := by decide +kernel
theorem dX10_commonOf_33 : decode cX10_commonOf 33 = .ok (.aload_n 0, 1) := by decide +kernel
theorem dX10_commonOf_34 : decode cX10_commonOf 34 = .ok (.iload_n 1, 1) := by decide +kernel
theorem dX10_commonOf_35 : decode cX10_commonOf 35 = .ok (.iload_n 3, 1) := by decide +kernel
theorem dX10_commonOf_36 : decode cX10_commonOf 36 = .ok (.invokevirtual 202, 3) := by decide +kernel
theorem dX10_commonOf_39 : decode cX10_commonOf 39 = .ok (.imul, 1) := by decide +kernel
theorem dX10_commonOf_40 : decode cX10_commonOf 40 = .ok (.aload_n 0, 1) := by decide +kernel
theorem dX10_commonOf_41 : decode cX10_commonOf 41 = .ok (.iload_n 1, 1) := by decide +kernel
theorem dX10_commonOf_42 : decode cX10_commonOf 42 = .ok (.iload_n 3, 1) := by decide +kernel
theorem dX10_commonOf_43 : decode cX10_commonOf 43 = .ok (.invokevirtual 199, 3) := by decide +kernel
theorem dX10_commonOf_46 : decode cX10_commonOf 46 = .ok (.iadd, 1) := by decide +kernel
theorem dX10_commonOf_47 : decode cX10_commonOf 47 = .ok (.ireturn, 1) := by decide +kernel
theorem dX10_commonOf_48 : decode cX10_commonOf 48 = .ok (.iinc 3 1, 3) := by decide +kernel
theorem dX10_commonOf_51 : decode cX10_commonOf 51 = .ok (.goto (-49), 3) := by decide +kernel
theorem dX10_commonOf_54 : decode cX10_commonOf 54 = .ok (.iconst (-1), 1) := by decide +kernel
theorem dX10_commonOf_55 : decode cX10_commonOf 55 = .ok (.ireturn, 1) := by decide +kernel
theorem dX10_cross_0 : decode cX10_cross 0 = .ok (.iload_n 1, 1) := by decide +kernel
theorem dX10_cross_1 : decode cX10_cross 1 = .ok (.iload_n 2, 1) := by decide +kernel
theorem dX10_cross_2 : decode cX10_cross 2 = .ok (.if_icmp .eq 17, 3) := by decide +kernel
theorem dX10_cross_5 : decode cX10_cross 5 = .ok (.aload_n 0, 1) := by decide +kernel
theorem dX10_cross_6 : decode cX10_cross 6 = .ok (.iload_n 1, 1) := by decide +kernel
theorem dX10_cross_7 : decode cX10_cross 7 = .ok (.iload_n 2, 1) := by decide +kernel
theorem dX10_cross_8 : decode cX10_cross 8 = .ok (.invokevirtual 209, 3) := by decide +kernel
theorem dX10_cross_11 : decode cX10_cross 11 = .ok (.iconst (-1), 1) := by decide +kernel
theorem dX10_cross_12 : decode cX10_cross 12 = .ok (.if_icmp .eq 7, 3) := by decide +kernel
theorem dX10_cross_15 : decode cX10_cross 15 = .ok (.iconst 1, 1) := by decide +kernel
theorem dX10_cross_16 : decode cX10_cross 16 = .ok (.goto 4, 3) := by decide +kernel
theorem dX10_cross_19 : decode cX10_cross 19 = .ok (.iconst 0, 1) := by decide +kernel
theorem dX10_cross_20 : decode cX10_cross 20 = .ok (.ireturn, 1) := by decide +kernel
theorem dX10_laysOver_0 : decode cX10_laysOver 0 = .ok (.iconst 0, 1) := by decide +kernel
theorem dX10_laysOver_1 : decode cX10_laysOver 1 = .ok (.istore_n 1, 1) := by decide +kernel
theorem dX10_laysOver_2 : decode cX10_laysOver 2 = .ok (.iload_n 1, 1) := by decide +kernel
theorem dX10_laysOver_3 : decode cX10_laysOver 3 = .ok (.aload_n 0, 1) := by decide +kernel
theorem dX10_laysOver_4 : decode cX10_laysOver 4 = .ok (.getfield 13, 3) := by decide +kernel
theorem dX10_laysOver_7 : decode cX10_laysOver 7 = .ok (.iconst 2, 1) := by decide +kernel
theorem dX10_laysOver_8 : decode cX10_laysOver 8 = .ok (.iaload, 1) := by decide +kernel
theorem dX10_laysOver_9 : decode cX10_laysOver 9 = .ok (.if_icmp .ge 25, 3) := by decide +kernel
theorem dX10_laysOver_12 : decode cX10_laysOver 12 = .ok (.aload_n 0, 1) := by decide +kernel
theorem dX10_laysOver_13 : decode cX10_laysOver 13 = .ok (.getfield 30, 3) := by decide +kernel
theorem dX10_laysOver_16 : decode cX10_laysOver 16 = .ok (.iload_n 1, 1) := by decide +kernel
theorem dX10_laysOver_17 : decode cX10_laysOver 17 = .ok (.aload_n 0, 1) := by decide +kernel
theorem dX10_laysOver_18 : decode cX10_laysOver 18 = .ok (.getfield 13, 3) := by decide +kernel
theorem dX10_laysOver_21 : decode cX10_laysOver 21 = .ok (.sipush 195, 3) := by decide +kernel
theorem dX10_laysOver_24 : decode cX10_laysOver 24 = .ok (.iload_n 1, 1) := by decide +kernel
theorem dX10_laysOver_25 : decode cX10_laysOver 25 = .ok (.iadd, 1) := by decide +kernel
theorem dX10_laysOver_26 : decode cX10_laysOver 26 = .ok (.iaload, 1) := by decide +kernel
theorem dX10_laysOver_27 : decode cX10_laysOver 27 = .ok (.iastore, 1) := by decide +kernel
theorem dX10_laysOver_28 : decode cX10_laysOver 28 = .ok (.iinc 1 1, 3) := by decide +kernel
theorem dX10_laysOver_31 : decode cX10_laysOver 31 = .ok (.goto (-29), 3) := by decide +kernel
theorem dX10_laysOver_34 : decode cX10_laysOver 34 = .ok (.iconst 0, 1) := by decide +kernel
theorem dX10_laysOver_35 : decode cX10_laysOver 35 = .ok (.istore_n 1, 1) := by decide +kernel
theorem dX10_laysOver_36 : decode cX10_laysOver 36 = .ok (.iload_n 1, 1) := by decide +kernel
theorem dX10_laysOver_37 : decode cX10_laysOver 37 = .ok (.aload_n 0, 1) := by decide +kernel
theorem dX10_laysOver_38 : decode cX10_laysOver 38 = .ok (.getfield 13, 3) := by decide +kernel
theorem dX10_laysOver_41 : decode cX10_laysOver 41 = .ok (.iconst 2, 1) := by decide +kernel
theorem dX10_laysOver_42 : decode cX10_laysOver 42 = .ok (.iaload, 1) := by decide +kernel
theorem dX10_laysOver_43 : decode cX10_laysOver 43 = .ok (.if_icmp .ge 55, 3) := by decide +kernel
theorem dX10_laysOver_46 : decode cX10_laysOver 46 = .ok (.iconst 0, 1) := by decide +kernel
theorem dX10_laysOver_47 : decode cX10_laysOver 47 = .ok (.istore_n 2, 1) := by decide +kernel
theorem dX10_laysOver_48 : decode cX10_laysOver 48 = .ok (.iload_n 2, 1) := by decide +kernel
theorem dX10_laysOver_49 : decode cX10_laysOver 49 = .ok (.aload_n 0, 1) := by decide +kernel
theorem dX10_laysOver_50 : decode cX10_laysOver 50 = .ok (.getfield 13, 3) := by decide +kernel
theorem dX10_laysOver_53 : decode cX10_laysOver 53 = .ok (.iconst 2, 1) := by decide +kernel
theorem dX10_laysOver_54 : decode cX10_laysOver 54 = .ok (.iaload, 1) := by decide +kernel
theorem dX10_laysOver_55 : decode cX10_laysOver 55 = .ok (.if_icmp .ge 37, 3) := by decide +kernel
theorem dX10_laysOver_58 : decode cX10_laysOver 58 = .ok (.aload_n 0, 1) := by decide +kernel
theorem dX10_laysOver_59 : decode cX10_laysOver 59 = .ok (.getfield 30, 3) := by decide +kernel
theorem dX10_laysOver_62 : decode cX10_laysOver 62 = .ok (.iload_n 2, 1) := by decide +kernel
theorem dX10_laysOver_63 : decode cX10_laysOver 63 = .ok (.iaload, 1) := by decide +kernel
theorem dX10_laysOver_64 : decode cX10_laysOver 64 = .ok (.iload_n 1, 1) := by decide +kernel
theorem dX10_laysOver_65 : decode cX10_laysOver 65 = .ok (.invokestatic 178, 3) := by decide +kernel
theorem dX10_laysOver_68 : decode cX10_laysOver 68 = .ok (.ifCond .eq 18, 3) := by decide +kernel
theorem dX10_laysOver_71 : decode cX10_laysOver 71 = .ok (.aload_n 0, 1) := by decide +kernel
theorem dX10_laysOver_72 : decode cX10_laysOver 72 = .ok (.getfield 30, 3) := by decide +kernel
theorem dX10_laysOver_75 : decode cX10_laysOver 75 = .ok (.iload_n 2, 1) := by decide +kernel
theorem dX10_laysOver_76 : decode cX10_laysOver 76 = .ok (.dup2, 1) := by decide +kernel
theorem dX10_laysOver_77 : decode cX10_laysOver 77 = .ok (.iaload, 1) := by decide +kernel
theorem dX10_laysOver_78 : decode cX10_laysOver 78 = .ok (.aload_n 0, 1) := by decide +kernel
theorem dX10_laysOver_79 : decode cX10_laysOver 79 = .ok (.getfield 30, 3) := by decide +kernel
theorem dX10_laysOver_82 : decode cX10_laysOver 82 = .ok (.iload_n 1, 1) := by decide +kernel
theorem dX10_laysOver_83 : decode cX10_laysOver 83 = .ok (.iaload, 1) := by decide +kernel
theorem dX10_laysOver_84 : decode cX10_laysOver 84 = .ok (.ior, 1) := by decide +kernel
theorem dX10_laysOver_85 : decode cX10_laysOver 85 = .ok (.iastore, 1) := by decide +kernel
theorem dX10_laysOver_86 : decode cX10_laysOver 86 = .ok (.iinc 2 1, 3) := by decide +kernel
theorem dX10_laysOver_89 : decode cX10_laysOver 89 = .ok (.goto (-41), 3) := by decide +kernel
theorem dX10_laysOver_92 : decode cX10_laysOver 92 = .ok (.iinc 1 1, 3) := by decide +kernel
theorem dX10_laysOver_95 : decode cX10_laysOver 95 = .ok (.goto (-59), 3) := by decide +kernel
theorem dX10_laysOver_98 : decode cX10_laysOver 98 = .ok (.return_, 1) := by decide +kernel
theorem dX10_laysWays_0 : decode cX10_laysWays 0 = .ok (.iconst 0, 1) := by decide +kernel
theorem dX10_laysWays_1 : decode cX10_laysWays 1 = .ok (.istore_n 1, 1) := by decide +kernel
theorem dX10_laysWays_2 : decode cX10_laysWays 2 = .ok (.iconst 0, 1) := by decide +kernel
theorem dX10_laysWays_3 : decode cX10_laysWays 3 = .ok (.istore_n 2, 1) := by decide +kernel
theorem dX10_laysWays_4 : decode cX10_laysWays 4 = .ok (.iload_n 2, 1) := by decide +kernel
theorem dX10_laysWays_5 : decode cX10_laysWays 5 = .ok (.bipush 12, 2) := by decide +kernel
theorem dX10_laysWays_7 : decode cX10_laysWays 7 = .ok (.if_icmp .ge 16, 3) := by decide +kernel
theorem dX10_laysWays_10 : decode cX10_laysWays 10 = .ok (.aload_n 0, 1) := by decide +kernel
theorem dX10_laysWays_11 : decode cX10_laysWays 11 = .ok (.getfield 33, 3) := by decide +kernel
theorem dX10_laysWays_14 : decode cX10_laysWays 14 = .ok (.iload_n 2, 1) := by decide +kernel
theorem dX10_laysWays_15 : decode cX10_laysWays 15 = .ok (.iconst 0, 1) := by decide +kernel
theorem dX10_laysWays_16 : decode cX10_laysWays 16 = .ok (.iastore, 1) := by decide +kernel
theorem dX10_laysWays_17 : decode cX10_laysWays 17 = .ok (.iinc 2 1, 3) := by decide +kernel
theorem dX10_laysWays_20 : decode cX10_laysWays 20 = .ok (.goto (-16), 3) := by decide +kernel
theorem dX10_laysWays_23 : decode cX10_laysWays 23 = .ok (.iconst 0, 1) := by decide +kernel
theorem dX10_laysWays_24 : decode cX10_laysWays 24 = .ok (.istore_n 2, 1) := by decide +kernel
theorem dX10_laysWays_25 : decode cX10_laysWays 25 = .ok (.iload_n 2, 1) := by decide +kernel
theorem dX10_laysWays_26 : decode cX10_laysWays 26 = .ok (.iconst 1, 1) := by decide +kernel
theorem dX10_laysWays_27 : decode cX10_laysWays 27 = .ok (.aload_n 0, 1) := by decide +kernel
theorem dX10_laysWays_28 : decode cX10_laysWays 28 = .ok (.getfield 13, 3) := by decide +kernel
theorem dX10_laysWays_31 : decode cX10_laysWays 31 = .ok (.iconst 2, 1) := by decide +kernel
theorem dX10_laysWays_32 : decode cX10_laysWays 32 = .ok (.iaload, 1) := by decide +kernel
theorem dX10_laysWays_33 : decode cX10_laysWays 33 = .ok (.ishl, 1) := by decide +kernel
theorem dX10_laysWays_34 : decode cX10_laysWays 34 = .ok (.if_icmp .ge 157, 3) := by decide +kernel
theorem dX10_laysWays_37 : decode cX10_laysWays 37 = .ok (.iconst 1, 1) := by decide +kernel
theorem dX10_laysWays_38 : decode cX10_laysWays 38 = .ok (.istore_n 3, 1) := by decide +kernel
theorem dX10_laysWays_39 : decode cX10_laysWays 39 = .ok (.iconst 0, 1) := by decide +kernel
theorem dX10_laysWays_40 : decode cX10_laysWays 40 = .ok (.istore 4, 2) := by decide +kernel
theorem dX10_laysWays_42 : decode cX10_laysWays 42 = .ok (.iload 4, 2) := by decide +kernel
theorem dX10_laysWays_44 : decode cX10_laysWays 44 = .ok (.aload_n 0, 1) := by decide +kernel
theorem dX10_laysWays_45 : decode cX10_laysWays 45 = .ok (.getfield 13, 3) := by decide +kernel
theorem dX10_laysWays_48 : decode cX10_laysWays 48 = .ok (.iconst 2, 1) := by decide +kernel
theorem dX10_laysWays_49 : decode cX10_laysWays 49 = .ok (.iaload, 1) := by decide +kernel
theorem dX10_laysWays_50 : decode cX10_laysWays 50 = .ok (.if_icmp .ge 81, 3) := by decide +kernel
theorem dX10_laysWays_53 : decode cX10_laysWays 53 = .ok (.iload_n 3, 1) := by decide +kernel
theorem dX10_laysWays_54 : decode cX10_laysWays 54 = .ok (.ifCond .eq 77, 3) := by decide +kernel
theorem dX10_laysWays_57 : decode cX10_laysWays 57 = .ok (.iload_n 2, 1) := by decide +kernel
theorem dX10_laysWays_58 : decode cX10_laysWays 58 = .ok (.iload 4, 2) := by decide +kernel
theorem dX10_laysWays_60 : decode cX10_laysWays 60 = .ok (.invokestatic 178, 3) := by decide +kernel
theorem dX10_laysWays_63 : decode cX10_laysWays 63 = .ok (.ifCond .eq 41, 3) := by decide +kernel
theorem dX10_laysWays_66 : decode cX10_laysWays 66 = .ok (.aload_n 0, 1) := by decide +kernel
theorem dX10_laysWays_67 : decode cX10_laysWays 67 = .ok (.getfield 13, 3) := by decide +kernel
theorem dX10_laysWays_70 : decode cX10_laysWays 70 = .ok (.sipush 183, 3) := by decide +kernel
theorem dX10_laysWays_73 : decode cX10_laysWays 73 = .ok (.iload 4, 2) := by decide +kernel
theorem dX10_laysWays_75 : decode cX10_laysWays 75 = .ok (.iadd, 1) := by decide +kernel
theorem dX10_laysWays_76 : decode cX10_laysWays 76 = .ok (.iaload, 1) := by decide +kernel
theorem dX10_laysWays_77 : decode cX10_laysWays 77 = .ok (.iconst 2, 1) := by decide +kernel
theorem dX10_laysWays_78 : decode cX10_laysWays 78 = .ok (.if_icmp .eq 21, 3) := by decide +kernel
theorem dX10_laysWays_81 : decode cX10_laysWays 81 = .ok (.aload_n 0, 1) := by decide +kernel
theorem dX10_laysWays_82 : decode cX10_laysWays 82 = .ok (.getfield 30, 3) := by decide +kernel
theorem dX10_laysWays_85 : decode cX10_laysWays 85 = .ok (.iload 4, 2) := by decide +kernel
theorem dX10_laysWays_87 : decode cX10_laysWays 87 = .ok (.iaload, 1) := by decide +kernel
theorem dX10_laysWays_88 : decode cX10_laysWays 88 = .ok (.iload_n 2, 1) := by decide +kernel
theorem dX10_laysWays_89 : decode cX10_laysWays 89 = .ok (.iconst (-1), 1) := by decide +kernel
theorem dX10_laysWays_90 : decode cX10_laysWays 90 = .ok (.ixor, 1) := by decide +kernel
theorem dX10_laysWays_91 : decode cX10_laysWays 91 = .ok (.iand, 1) := by decide +kernel
theorem dX10_laysWays_92 : decode cX10_laysWays 92 = .ok (.ifCond .ne 7, 3) := by decide +kernel
theorem dX10_laysWays_95 : decode cX10_laysWays 95 = .ok (.iconst 1, 1) := by decide +kernel
theorem dX10_laysWays_96 : decode cX10_laysWays 96 = .ok (.goto 4, 3) := by decide +kernel
theorem dX10_laysWays_99 : decode cX10_laysWays 99 = .ok (.iconst 0, 1) := by decide +kernel
theorem dX10_laysWays_100 : decode cX10_laysWays 100 = .ok (.istore_n 3, 1) := by decide +kernel
theorem dX10_laysWays_101 : decode cX10_laysWays 101 = .ok (.goto 24, 3) := by decide +kernel
theorem dX10_laysWays_104 : decode cX10_laysWays 104 = .ok (.aload_n 0, 1) := by decide +kernel
theorem dX10_laysWays_105 : decode cX10_laysWays 105 = .ok (.getfield 13, 3) := by decide +kernel
theorem dX10_laysWays_108 : decode cX10_laysWays 108 = .ok (.sipush 183, 3) := by decide +kernel
theorem dX10_laysWays_111 : decode cX10_laysWays 111 = .ok (.iload 4, 2) := by decide +kernel
theorem dX10_laysWays_113 : decode cX10_laysWays 113 = .ok (.iadd, 1) := by decide +kernel
theorem dX10_laysWays_114 : decode cX10_laysWays 114 = .ok (.iaload, 1) := by decide +kernel
theorem dX10_laysWays_115 : decode cX10_laysWays 115 = .ok (.iconst 1, 1) := by decide +kernel
theorem dX10_laysWays_116 : decode cX10_laysWays 116 = .ok (.if_icmp .eq 7, 3) := by decide +kernel
theorem dX10_laysWays_119 : decode cX10_laysWays 119 = .ok (.iconst 1, 1) := by decide +kernel
theorem dX10_laysWays_120 : decode cX10_laysWays 120 = .ok (.goto 4, 3) := by decide +kernel
theorem dX10_laysWays_123 : decode cX10_laysWays 123 = .ok (.iconst 0, 1) := by decide +kernel
theorem dX10_laysWays_124 : decode cX10_laysWays 124 = .ok (.istore_n 3, 1) := by decide +kernel
theorem dX10_laysWays_125 : decode cX10_laysWays 125 = .ok (.iinc 4 1, 3) := by decide +kernel
theorem dX10_laysWays_128 : decode cX10_laysWays 128 = .ok (.goto (-86), 3) := by decide +kernel
theorem dX10_laysWays_131 : decode cX10_laysWays 131 = .ok (.iload_n 3, 1) := by decide +kernel
theorem dX10_laysWays_132 : decode cX10_laysWays 132 = .ok (.ifCond .ne 6, 3) := by decide +kernel
theorem dX10_laysWays_135 : decode cX10_laysWays 135 = .ok (.goto 50, 3) := by decide +kernel
theorem dX10_laysWays_138 : decode cX10_laysWays 138 = .ok (.iinc 1 1, 3) := by decide +kernel
theorem dX10_laysWays_141 : decode cX10_laysWays 141 = .ok (.iconst 0, 1) := by decide +kernel
theorem dX10_laysWays_142 : decode cX10_laysWays 142 = .ok (.istore 4, 2) := by decide +kernel
theorem dX10_laysWays_144 : decode cX10_laysWays 144 = .ok (.iload 4, 2) := by decide +kernel
theorem dX10_laysWays_146 : decode cX10_laysWays 146 = .ok (.aload_n 0, 1) := by decide +kernel
theorem dX10_laysWays_147 : decode cX10_laysWays 147 = .ok (.getfield 13, 3) := by decide +kernel
theorem dX10_laysWays_150 : decode cX10_laysWays 150 = .ok (.iconst 2, 1) := by decide +kernel
theorem dX10_laysWays_151 : decode cX10_laysWays 151 = .ok (.iaload, 1) := by decide +kernel
theorem dX10_laysWays_152 : decode cX10_laysWays 152 = .ok (.if_icmp .ge 33, 3) := by decide +kernel
theorem dX10_laysWays_155 : decode cX10_laysWays 155 = .ok (.aload_n 0, 1) := by decide +kernel
theorem dX10_laysWays_156 : decode cX10_laysWays 156 = .ok (.getfield 33, 3) := by decide +kernel
theorem dX10_laysWays_159 : decode cX10_laysWays 159 = .ok (.iload 4, 2) := by decide +kernel
theorem dX10_laysWays_161 : decode cX10_laysWays 161 = .ok (.dup2, 1) := by decide +kernel
theorem dX10_laysWays_162 : decode cX10_laysWays 162 = .ok (.iaload, 1) := by decide +kernel
theorem dX10_laysWays_163 : decode cX10_laysWays 163 = .ok (.iload_n 2, 1) := by decide +kernel
theorem dX10_laysWays_164 : decode cX10_laysWays 164 = .ok (.iload 4, 2) := by decide +kernel
theorem dX10_laysWays_166 : decode cX10_laysWays 166 = .ok (.invokestatic 178, 3) := by decide +kernel
theorem dX10_laysWays_169 : decode cX10_laysWays 169 = .ok (.ifCond .eq 7, 3) := by decide +kernel
theorem dX10_laysWays_172 : decode cX10_laysWays 172 = .ok (.iconst 1, 1) := by decide +kernel
theorem dX10_laysWays_173 : decode cX10_laysWays 173 = .ok (.goto 4, 3) := by decide +kernel
theorem dX10_laysWays_176 : decode cX10_laysWays 176 = .ok (.iconst 0, 1) := by decide +kernel
theorem dX10_laysWays_177 : decode cX10_laysWays 177 = .ok (.iadd, 1) := by decide +kernel
theorem dX10_laysWays_178 : decode cX10_laysWays 178 = .ok (.iastore, 1) := by decide +kernel
theorem dX10_laysWays_179 : decode cX10_laysWays 179 = .ok (.iinc 4 1, 3) := by decide +kernel
theorem dX10_laysWays_182 : decode cX10_laysWays 182 = .ok (.goto (-38), 3) := by decide +kernel
theorem dX10_laysWays_185 : decode cX10_laysWays 185 = .ok (.iinc 2 1, 3) := by decide +kernel
theorem dX10_laysWays_188 : decode cX10_laysWays 188 = .ok (.goto (-163), 3) := by decide +kernel
theorem dX10_laysWays_191 : decode cX10_laysWays 191 = .ok (.aload_n 0, 1) := by decide +kernel
theorem dX10_laysWays_192 : decode cX10_laysWays 192 = .ok (.iload_n 1, 1) := by decide +kernel
theorem dX10_laysWays_193 : decode cX10_laysWays 193 = .ok (.putfield 212, 3) := by decide +kernel
theorem dX10_laysWays_196 : decode cX10_laysWays 196 = .ok (.iload_n 1, 1) := by decide +kernel
theorem dX10_laysWays_197 : decode cX10_laysWays 197 = .ok (.ireturn, 1) := by decide +kernel
theorem dX10_lays_0 : decode cX10_lays 0 = .ok (.aload_n 0, 1) := by decide +kernel
theorem dX10_lays_1 : decode cX10_lays 1 = .ok (.invokevirtual 169, 3) := by decide +kernel
theorem dX10_lays_4 : decode cX10_lays 4 = .ok (.aload_n 0, 1) := by decide +kernel
theorem dX10_lays_5 : decode cX10_lays 5 = .ok (.invokevirtual 172, 3) := by decide +kernel
theorem dX10_lays_8 : decode cX10_lays 8 = .ok (.pop, 1) := by decide +kernel
theorem dX10_lays_9 : decode cX10_lays 9 = .ok (.return_, 1) := by decide +kernel
theorem dX10_mustOf_0 : decode cX10_mustOf 0 = .ok (.aload_n 0, 1) := by decide +kernel
theorem dX10_mustOf_1 : decode cX10_mustOf 1 = .ok (.getfield 33, 3) := by decide +kernel
theorem dX10_mustOf_4 : decode cX10_mustOf 4 = .ok (.iload_n 1, 1) := by decide +kernel
theorem dX10_mustOf_5 : decode cX10_mustOf 5 = .ok (.iaload, 1) := by decide +kernel
theorem dX10_mustOf_6 : decode cX10_mustOf 6 = .ok (.aload_n 0, 1) := by decide +kernel
theorem dX10_mustOf_7 : decode cX10_mustOf 7 = .ok (.getfield 212, 3) := by decide +kernel
theorem dX10_mustOf_10 : decode cX10_mustOf 10 = .ok (.if_icmp .ne 7, 3) := by decide +kernel
theorem dX10_mustOf_13 : decode cX10_mustOf 13 = .ok (.iconst 0, 1) := by decide +kernel
theorem dX10_mustOf_14 : decode cX10_mustOf 14 = .ok (.goto 17, 3) := by decide +kernel
theorem dX10_mustOf_17 : decode cX10_mustOf 17 = .ok (.aload_n 0, 1) := by decide +kernel
theorem dX10_mustOf_18 : decode cX10_mustOf 18 = .ok (.getfield 33, 3) := by decide +kernel
theorem dX10_mustOf_21 : decode cX10_mustOf 21 = .ok (.iload_n 1, 1) := by decide +kernel
theorem dX10_mustOf_22 : decode cX10_mustOf 22 = .ok (.iaload, 1) := by decide +kernel
theorem dX10_mustOf_23 : decode cX10_mustOf 23 = .ok (.ifCond .ne 7, 3) := by decide +kernel
theorem dX10_mustOf_26 : decode cX10_mustOf 26 = .ok (.iconst 1, 1) := by decide +kernel
theorem dX10_mustOf_27 : decode cX10_mustOf 27 = .ok (.goto 4, 3) := by decide +kernel
theorem dX10_mustOf_30 : decode cX10_mustOf 30 = .ok (.iconst 2, 1) := by decide +kernel
theorem dX10_mustOf_31 : decode cX10_mustOf 31 = .ok (.ireturn, 1) := by decide +kernel
theorem dX10_leads_0 : decode cX10_leads 0 = .ok (.aload_n 0, 1) := by decide +kernel
theorem dX10_leads_1 : decode cX10_leads 1 = .ok (.getfield 39, 3) := by decide +kernel
theorem dX10_leads_4 : decode cX10_leads 4 = .ok (.iload_n 1, 1) := by decide +kernel
theorem dX10_leads_5 : decode cX10_leads 5 = .ok (.iconst 1, 1) := by decide +kernel
theorem dX10_leads_6 : decode cX10_leads 6 = .ok (.isub, 1) := by decide +kernel
theorem dX10_leads_7 : decode cX10_leads 7 = .ok (.iaload, 1) := by decide +kernel
theorem dX10_leads_8 : decode cX10_leads 8 = .ok (.istore 4, 2) := by decide +kernel
theorem dX10_leads_10 : decode cX10_leads 10 = .ok (.iload_n 1, 1) := by decide +kernel
theorem dX10_leads_11 : decode cX10_leads 11 = .ok (.iload_n 3, 1) := by decide +kernel
theorem dX10_leads_12 : decode cX10_leads 12 = .ok (.if_icmp .ne 19, 3) := by decide +kernel
theorem dX10_leads_15 : decode cX10_leads 15 = .ok (.aload_n 0, 1) := by decide +kernel
theorem dX10_leads_16 : decode cX10_leads 16 = .ok (.getfield 13, 3) := by decide +kernel
theorem dX10_leads_19 : decode cX10_leads 19 = .ok (.sipush 195, 3) := by decide +kernel
theorem dX10_leads_22 : decode cX10_leads 22 = .ok (.iload 4, 2) := by decide +kernel
theorem dX10_leads_24 : decode cX10_leads 24 = .ok (.iadd, 1) := by decide +kernel
theorem dX10_leads_25 : decode cX10_leads 25 = .ok (.iaload, 1) := by decide +kernel
theorem dX10_leads_26 : decode cX10_leads 26 = .ok (.iload_n 2, 1) := by decide +kernel
theorem dX10_leads_27 : decode cX10_leads 27 = .ok (.invokestatic 178, 3) := by decide +kernel
theorem dX10_leads_30 : decode cX10_leads 30 = .ok (.ireturn, 1) := by decide +kernel
theorem dX10_leads_31 : decode cX10_leads 31 = .ok (.iconst 0, 1) := by decide +kernel
theorem dX10_leads_32 : decode cX10_leads 32 = .ok (.istore 5, 2) := by decide +kernel
theorem dX10_leads_34 : decode cX10_leads 34 = .ok (.iload 5, 2) := by decide +kernel
theorem dX10_leads_36 : decode cX10_leads 36 = .ok (.aload_n 0, 1) := by decide +kernel
theorem dX10_leads_37 : decode cX10_leads 37 = .ok (.getfield 13, 3) := by decide +kernel
theorem dX10_leads_40 : decode cX10_leads 40 = .ok (.iconst 2, 1) := by decide +kernel
theorem dX10_leads_41 : decode cX10_leads 41 = .ok (.iaload, 1) := by decide +kernel
theorem dX10_leads_42 : decode cX10_leads 42 = .ok (.if_icmp .ge 110, 3) := by decide +kernel
theorem dX10_leads_45 : decode cX10_leads 45 = .ok (.aload_n 0, 1) := by decide +kernel
theorem dX10_leads_46 : decode cX10_leads 46 = .ok (.getfield 13, 3) := by decide +kernel
theorem dX10_leads_49 : decode cX10_leads 49 = .ok (.sipush 195, 3) := by decide +kernel
theorem dX10_leads_52 : decode cX10_leads 52 = .ok (.iload 4, 2) := by decide +kernel
theorem dX10_leads_54 : decode cX10_leads 54 = .ok (.iadd, 1) := by decide +kernel
theorem dX10_leads_55 : decode cX10_leads 55 = .ok (.iaload, 1) := by decide +kernel
theorem dX10_leads_56 : decode cX10_leads 56 = .ok (.iload 5, 2) := by decide +kernel
theorem dX10_leads_58 : decode cX10_leads 58 = .ok (.invokestatic 178, 3) := by decide +kernel
theorem dX10_leads_61 : decode cX10_leads 61 = .ok (.ifCond .eq 13, 3) := by decide +kernel
theorem dX10_leads_64 : decode cX10_leads 64 = .ok (.iload 5, 2) := by decide +kernel
theorem dX10_leads_66 : decode cX10_leads 66 = .ok (.iload_n 2, 1) := by decide +kernel
theorem dX10_leads_67 : decode cX10_leads 67 = .ok (.if_icmp .eq 7, 3) := by decide +kernel
theorem dX10_leads_70 : decode cX10_leads 70 = .ok (.iconst 1, 1) := by decide +kernel
theorem dX10_leads_71 : decode cX10_leads 71 = .ok (.goto 4, 3) := by decide +kernel
theorem dX10_leads_74 : decode cX10_leads 74 = .ok (.iconst 0, 1) := by decide +kernel
theorem dX10_leads_75 : decode cX10_leads 75 = .ok (.istore 6, 2) := by decide +kernel
theorem dX10_leads_77 : decode cX10_leads 77 = .ok (.iconst 0, 1) := by decide +kernel
theorem dX10_leads_78 : decode cX10_leads 78 = .ok (.istore 7, 2) := by decide +kernel
theorem dX10_leads_80 : decode cX10_leads 80 = .ok (.iload 7, 2) := by decide +kernel
theorem dX10_leads_82 : decode cX10_leads 82 = .ok (.iload_n 1, 1) := by decide +kernel
theorem dX10_leads_83 : decode cX10_leads 83 = .ok (.if_icmp .ge 33, 3) := by decide +kernel
theorem dX10_leads_86 : decode cX10_leads 86 = .ok (.iload 6, 2) := by decide +kernel
theorem dX10_leads_88 : decode cX10_leads 88 = .ok (.ifCond .eq 28, 3) := by decide +kernel
theorem dX10_leads_91 : decode cX10_leads 91 = .ok (.aload_n 0, 1) := by decide +kernel
theorem dX10_leads_92 : decode cX10_leads 92 = .ok (.getfield 39, 3) := by decide +kernel
theorem dX10_leads_95 : decode cX10_leads 95 = .ok (.iload 7, 2) := by decide +kernel
theorem dX10_leads_97 : decode cX10_leads 97 = .ok (.iaload, 1) := by decide +kernel
theorem dX10_leads_98 : decode cX10_leads 98 = .ok (.iload 5, 2) := by decide +kernel
theorem dX10_leads_100 : decode cX10_leads 100 = .ok (.if_icmp .eq 7, 3) := by decide +kernel
theorem dX10_leads_103 : decode cX10_leads 103 = .ok (.iconst 1, 1) := by decide +kernel
theorem dX10_leads_104 : decode cX10_leads 104 = .ok (.goto 4, 3) := by decide +kernel
theorem dX10_leads_107 : decode cX10_leads 107 = .ok (.iconst 0, 1) := by decide +kernel
theorem dX10_leads_108 : decode cX10_leads 108 = .ok (.istore 6, 2) := by decide +kernel
theorem dX10_leads_110 : decode cX10_leads 110 = .ok (.iinc 7 1, 3) := by decide +kernel
theorem dX10_leads_113 : decode cX10_leads 113 = .ok (.goto (-33), 3) := by decide +kernel
theorem dX10_leads_116 : decode cX10_leads 116 = .ok (.iload 6, 2) := by decide +kernel
theorem dX10_leads_118 : decode cX10_leads 118 = .ok (.ifCond .ne 6, 3) := by decide +kernel
theorem dX10_leads_121 : decode cX10_leads 121 = .ok (.goto 25, 3) := by decide +kernel
theorem dX10_leads_124 : decode cX10_leads 124 = .ok (.aload_n 0, 1) := by decide +kernel
theorem dX10_leads_125 : decode cX10_leads 125 = .ok (.getfield 39, 3) := by decide +kernel
theorem dX10_leads_128 : decode cX10_leads 128 = .ok (.iload_n 1, 1) := by decide +kernel
theorem dX10_leads_129 : decode cX10_leads 129 = .ok (.iload 5, 2) := by decide +kernel
theorem dX10_leads_131 : decode cX10_leads 131 = .ok (.iastore, 1) := by decide +kernel
theorem dX10_leads_132 : decode cX10_leads 132 = .ok (.aload_n 0, 1) := by decide +kernel
theorem dX10_leads_133 : decode cX10_leads 133 = .ok (.iload_n 1, 1) := by decide +kernel
theorem dX10_leads_134 : decode cX10_leads 134 = .ok (.iconst 1, 1) := by decide +kernel
theorem dX10_leads_135 : decode cX10_leads 135 = .ok (.iadd, 1) := by decide +kernel
theorem dX10_leads_136 : decode cX10_leads 136 = .ok (.iload_n 2, 1) := by decide +kernel
theorem dX10_leads_137 : decode cX10_leads 137 = .ok (.iload_n 3, 1) := by decide +kernel
theorem dX10_leads_138 : decode cX10_leads 138 = .ok (.invokevirtual 215, 3) := by decide +kernel
theorem dX10_leads_141 : decode cX10_leads 141 = .ok (.ifCond .eq 5, 3) := by decide +kernel
theorem dX10_leads_144 : decode cX10_leads 144 = .ok (.iconst 1, 1) := by decide +kernel
theorem dX10_leads_145 : decode cX10_leads 145 = .ok (.ireturn, 1) := by decide +kernel
theorem dX10_leads_146 : decode cX10_leads 146 = .ok (.iinc 5 1, 3) := by decide +kernel
theorem dX10_leads_149 : decode cX10_leads 149 = .ok (.goto (-115), 3) := by decide +kernel
theorem dX10_leads_152 : decode cX10_leads 152 = .ok (.iconst 0, 1) := by decide +kernel
theorem dX10_leads_153 : decode cX10_leads 153 = .ok (.ireturn, 1) := by decide +kernel
theorem dX10_whyOver_0 : decode cX10_whyOver 0 = .ok (.aload_n 0, 1) := by decide +kernel
theorem dX10_whyOver_1 : decode cX10_whyOver 1 = .ok (.invokevirtual 169, 3) := by decide +kernel
theorem dX10_whyOver_4 : decode cX10_whyOver 4 = .ok (.aload_n 0, 1) := by decide +kernel
theorem dX10_whyOver_5 : decode cX10_whyOver 5 = .ok (.getfield 30, 3) := by decide +kernel
theorem dX10_whyOver_8 : decode cX10_whyOver 8 = .ok (.iload_n 2, 1) := by decide +kernel
theorem dX10_whyOver_9 : decode cX10_whyOver 9 = .ok (.iaload, 1) := by decide +kernel
theorem dX10_whyOver_10 : decode cX10_whyOver 10 = .ok (.iload_n 1, 1) := by decide +kernel
theorem dX10_whyOver_11 : decode cX10_whyOver 11 = .ok (.invokestatic 178, 3) := by decide +kernel
theorem dX10_whyOver_14 : decode cX10_whyOver 14 = .ok (.ifCond .eq 79, 3) := by decide +kernel
theorem dX10_whyOver_17 : decode cX10_whyOver 17 = .ok (.aload_n 0, 1) := by decide +kernel
theorem dX10_whyOver_18 : decode cX10_whyOver 18 = .ok (.getfield 39, 3) := by decide +kernel
theorem dX10_whyOver_21 : decode cX10_whyOver 21 = .ok (.iconst 0, 1) := by decide +kernel
theorem dX10_whyOver_22 : decode cX10_whyOver 22 = .ok (.iload_n 1, 1) := by decide +kernel
theorem dX10_whyOver_23 : decode cX10_whyOver 23 = .ok (.iastore, 1) := by decide +kernel
theorem dX10_whyOver_24 : decode cX10_whyOver 24 = .ok (.aload_n 0, 1) := by decide +kernel
theorem dX10_whyOver_25 : decode cX10_whyOver 25 = .ok (.getfield 39, 3) := by decide +kernel
theorem dX10_whyOver_28 : decode cX10_whyOver 28 = .ok (.iconst 1, 1) := by decide +kernel
theorem dX10_whyOver_29 : decode cX10_whyOver 29 = .ok (.iload_n 2, 1) := by decide +kernel
theorem dX10_whyOver_30 : decode cX10_whyOver 30 = .ok (.iastore, 1) := by decide +kernel
theorem dX10_whyOver_31 : decode cX10_whyOver 31 = .ok (.aload_n 0, 1) := by decide +kernel
theorem dX10_whyOver_32 : decode cX10_whyOver 32 = .ok (.iconst 2, 1) := by decide +kernel
theorem dX10_whyOver_33 : decode cX10_whyOver 33 = .ok (.putfield 218, 3) := by decide +kernel
theorem dX10_whyOver_36 : decode cX10_whyOver 36 = .ok (.aload_n 0, 1) := by decide +kernel
theorem dX10_whyOver_37 : decode cX10_whyOver 37 = .ok (.iconst 2, 1) := by decide +kernel
theorem dX10_whyOver_38 : decode cX10_whyOver 38 = .ok (.iload_n 1, 1) := by decide +kernel
theorem dX10_whyOver_39 : decode cX10_whyOver 39 = .ok (.aload_n 0, 1) := by decide +kernel
theorem dX10_whyOver_40 : decode cX10_whyOver 40 = .ok (.getfield 218, 3) := by decide +kernel
theorem dX10_whyOver_43 : decode cX10_whyOver 43 = .ok (.invokevirtual 215, 3) := by decide +kernel
theorem dX10_whyOver_46 : decode cX10_whyOver 46 = .ok (.ifCond .ne 16, 3) := by decide +kernel
theorem dX10_whyOver_49 : decode cX10_whyOver 49 = .ok (.aload_n 0, 1) := by decide +kernel
theorem dX10_whyOver_50 : decode cX10_whyOver 50 = .ok (.dup, 1) := by decide +kernel
theorem dX10_whyOver_51 : decode cX10_whyOver 51 = .ok (.getfield 218, 3) := by decide +kernel
theorem dX10_whyOver_54 : decode cX10_whyOver 54 = .ok (.iconst 1, 1) := by decide +kernel
theorem dX10_whyOver_55 : decode cX10_whyOver 55 = .ok (.iadd, 1) := by decide +kernel
theorem dX10_whyOver_56 : decode cX10_whyOver 56 = .ok (.putfield 218, 3) := by decide +kernel
theorem dX10_whyOver_59 : decode cX10_whyOver 59 = .ok (.goto (-23), 3) := by decide +kernel
theorem dX10_whyOver_62 : decode cX10_whyOver 62 = .ok (.iconst 0, 1) := by decide +kernel
theorem dX10_whyOver_63 : decode cX10_whyOver 63 = .ok (.istore_n 3, 1) := by decide +kernel
theorem dX10_whyOver_64 : decode cX10_whyOver 64 = .ok (.iload_n 3, 1) := by decide +kernel
theorem dX10_whyOver_65 : decode cX10_whyOver 65 = .ok (.aload_n 0, 1) := by decide +kernel
theorem dX10_whyOver_66 : decode cX10_whyOver 66 = .ok (.getfield 218, 3) := by decide +kernel
theorem dX10_whyOver_69 : decode cX10_whyOver 69 = .ok (.if_icmp .ge 21, 3) := by decide +kernel
theorem dX10_whyOver_72 : decode cX10_whyOver 72 = .ok (.aload_n 0, 1) := by decide +kernel
theorem dX10_whyOver_73 : decode cX10_whyOver 73 = .ok (.getfield 36, 3) := by decide +kernel
theorem dX10_whyOver_76 : decode cX10_whyOver 76 = .ok (.iload_n 3, 1) := by decide +kernel
theorem dX10_whyOver_77 : decode cX10_whyOver 77 = .ok (.aload_n 0, 1) := by decide +kernel
theorem dX10_whyOver_78 : decode cX10_whyOver 78 = .ok (.getfield 39, 3) := by decide +kernel
theorem dX10_whyOver_81 : decode cX10_whyOver 81 = .ok (.iload_n 3, 1) := by decide +kernel
theorem dX10_whyOver_82 : decode cX10_whyOver 82 = .ok (.iaload, 1) := by decide +kernel
theorem dX10_whyOver_83 : decode cX10_whyOver 83 = .ok (.iastore, 1) := by decide +kernel
theorem dX10_whyOver_84 : decode cX10_whyOver 84 = .ok (.iinc 3 1, 3) := by decide +kernel
theorem dX10_whyOver_87 : decode cX10_whyOver 87 = .ok (.goto (-23), 3) := by decide +kernel
theorem dX10_whyOver_90 : decode cX10_whyOver 90 = .ok (.bipush (-5), 2) := by decide +kernel
theorem dX10_whyOver_92 : decode cX10_whyOver 92 = .ok (.ireturn, 1) := by decide +kernel
theorem dX10_whyOver_93 : decode cX10_whyOver 93 = .ok (.aload_n 0, 1) := by decide +kernel
theorem dX10_whyOver_94 : decode cX10_whyOver 94 = .ok (.getfield 13, 3) := by decide +kernel
theorem dX10_whyOver_97 : decode cX10_whyOver 97 = .ok (.sipush 195, 3) := by decide +kernel
theorem dX10_whyOver_100 : decode cX10_whyOver 100 = .ok (.iload_n 1, 1) := by decide +kernel
theorem dX10_whyOver_101 : decode cX10_whyOver 101 = .ok (.iadd, 1) := by decide +kernel
theorem dX10_whyOver_102 : decode cX10_whyOver 102 = .ok (.dup2, 1) := by decide +kernel
theorem dX10_whyOver_103 : decode cX10_whyOver 103 = .ok (.iaload, 1) := by decide +kernel
theorem dX10_whyOver_104 : decode cX10_whyOver 104 = .ok (.iconst 1, 1) := by decide +kernel
theorem dX10_whyOver_105 : decode cX10_whyOver 105 = .ok (.iload_n 2, 1) := by decide +kernel
theorem dX10_whyOver_106 : decode cX10_whyOver 106 = .ok (.ishl, 1) := by decide +kernel
theorem dX10_whyOver_107 : decode cX10_whyOver 107 = .ok (.ior, 1) := by decide +kernel
theorem dX10_whyOver_108 : decode cX10_whyOver 108 = .ok (.iastore, 1) := by decide +kernel
theorem dX10_whyOver_109 : decode cX10_whyOver 109 = .ok (.aload_n 0, 1) := by decide +kernel
theorem dX10_whyOver_110 : decode cX10_whyOver 110 = .ok (.invokevirtual 221, 3) := by decide +kernel
theorem dX10_whyOver_113 : decode cX10_whyOver 113 = .ok (.aload_n 0, 1) := by decide +kernel
theorem dX10_whyOver_114 : decode cX10_whyOver 114 = .ok (.getfield 13, 3) := by decide +kernel
theorem dX10_whyOver_117 : decode cX10_whyOver 117 = .ok (.sipush 195, 3) := by decide +kernel
theorem dX10_whyOver_120 : decode cX10_whyOver 120 = .ok (.iload_n 1, 1) := by decide +kernel
theorem dX10_whyOver_121 : decode cX10_whyOver 121 = .ok (.iadd, 1) := by decide +kernel
theorem dX10_whyOver_122 : decode cX10_whyOver 122 = .ok (.dup2, 1) := by decide +kernel
theorem dX10_whyOver_123 : decode cX10_whyOver 123 = .ok (.iaload, 1) := by decide +kernel
theorem dX10_whyOver_124 : decode cX10_whyOver 124 = .ok (.iconst 1, 1) := by decide +kernel
theorem dX10_whyOver_125 : decode cX10_whyOver 125 = .ok (.iload_n 2, 1) := by decide +kernel
theorem dX10_whyOver_126 : decode cX10_whyOver 126 = .ok (.ishl, 1) := by decide +kernel
theorem dX10_whyOver_127 : decode cX10_whyOver 127 = .ok (.iconst (-1), 1) := by decide +kernel
theorem dX10_whyOver_128 : decode cX10_whyOver 128 = .ok (.ixor, 1) := by decide +kernel
theorem dX10_whyOver_129 : decode cX10_whyOver 129 = .ok (.iand, 1) := by decide +kernel
theorem dX10_whyOver_130 : decode cX10_whyOver 130 = .ok (.iastore, 1) := by decide +kernel
theorem dX10_whyOver_131 : decode cX10_whyOver 131 = .ok (.aload_n 0, 1) := by decide +kernel
theorem dX10_whyOver_132 : decode cX10_whyOver 132 = .ok (.getfield 212, 3) := by decide +kernel
theorem dX10_whyOver_135 : decode cX10_whyOver 135 = .ok (.ifCond .ne 8, 3) := by decide +kernel
theorem dX10_whyOver_138 : decode cX10_whyOver 138 = .ok (.bipush (-9), 2) := by decide +kernel
theorem dX10_whyOver_140 : decode cX10_whyOver 140 = .ok (.goto 4, 3) := by decide +kernel
theorem dX10_whyOver_143 : decode cX10_whyOver 143 = .ok (.iconst 0, 1) := by decide +kernel
theorem dX10_whyOver_144 : decode cX10_whyOver 144 = .ok (.ireturn, 1) := by decide +kernel
theorem dX10_remembers_0 : decode cX10_remembers 0 = .ok (.aload_n 0, 1) := by decide +kernel
theorem dX10_remembers_1 : decode cX10_remembers 1 = .ok (.getfield 193, 3) := by decide +kernel
theorem dX10_remembers_4 : decode cX10_remembers 4 = .ok (.bipush 12, 2) := by decide +kernel
theorem dX10_remembers_6 : decode cX10_remembers 6 = .ok (.if_icmp .ne 43, 3) := by decide +kernel
theorem dX10_remembers_9 : decode cX10_remembers 9 = .ok (.iconst 0, 1) := by decide +kernel
theorem dX10_remembers_10 : decode cX10_remembers 10 = .ok (.istore_n 1, 1) := by decide +kernel
theorem dX10_remembers_11 : decode cX10_remembers 11 = .ok (.iload_n 1, 1) := by decide +kernel
theorem dX10_remembers_12 : decode cX10_remembers 12 = .ok (.sipush 374, 3) := by decide +kernel
theorem dX10_remembers_15 : decode cX10_remembers 15 = .ok (.if_icmp .ge 24, 3) := by decide +kernel
theorem dX10_remembers_18 : decode cX10_remembers 18 = .ok (.aload_n 0, 1) := by decide +kernel
theorem dX10_remembers_19 : decode cX10_remembers 19 = .ok (.getfield 20, 3) := by decide +kernel
theorem dX10_remembers_22 : decode cX10_remembers 22 = .ok (.iload_n 1, 1) := by decide +kernel
theorem dX10_remembers_23 : decode cX10_remembers 23 = .ok (.aload_n 0, 1) := by decide +kernel
theorem dX10_remembers_24 : decode cX10_remembers 24 = .ok (.getfield 20, 3) := by decide +kernel
theorem dX10_remembers_27 : decode cX10_remembers 27 = .ok (.iload_n 1, 1) := by decide +kernel
theorem dX10_remembers_28 : decode cX10_remembers 28 = .ok (.bipush 34, 2) := by decide +kernel
theorem dX10_remembers_30 : decode cX10_remembers 30 = .ok (.iadd, 1) := by decide +kernel
theorem dX10_remembers_31 : decode cX10_remembers 31 = .ok (.iaload, 1) := by decide +kernel
theorem dX10_remembers_32 : decode cX10_remembers 32 = .ok (.iastore, 1) := by decide +kernel
theorem dX10_remembers_33 : decode cX10_remembers 33 = .ok (.iinc 1 1, 3) := by decide +kernel
theorem dX10_remembers_36 : decode cX10_remembers 36 = .ok (.goto (-25), 3) := by decide +kernel
theorem dX10_remembers_39 : decode cX10_remembers 39 = .ok (.aload_n 0, 1) := by decide +kernel
theorem dX10_remembers_40 : decode cX10_remembers 40 = .ok (.dup, 1) := by decide +kernel
theorem dX10_remembers_41 : decode cX10_remembers 41 = .ok (.getfield 193, 3) := by decide +kernel
theorem dX10_remembers_44 : decode cX10_remembers 44 = .ok (.iconst 1, 1) := by decide +kernel
theorem dX10_remembers_45 : decode cX10_remembers 45 = .ok (.isub, 1) := by decide +kernel
theorem dX10_remembers_46 : decode cX10_remembers 46 = .ok (.putfield 193, 3) := by decide +kernel
theorem dX10_remembers_49 : decode cX10_remembers 49 = .ok (.iconst 0, 1) := by decide +kernel
theorem dX10_remembers_50 : decode cX10_remembers 50 = .ok (.istore_n 1, 1) := by decide +kernel
theorem dX10_remembers_51 : decode cX10_remembers 51 = .ok (.iload_n 1, 1) := by decide +kernel
theorem dX10_remembers_52 : decode cX10_remembers 52 = .ok (.bipush 34, 2) := by decide +kernel
theorem dX10_remembers_54 : decode cX10_remembers 54 = .ok (.if_icmp .ge 33, 3) := by decide +kernel
theorem dX10_remembers_57 : decode cX10_remembers 57 = .ok (.aload_n 0, 1) := by decide +kernel
theorem dX10_remembers_58 : decode cX10_remembers 58 = .ok (.getfield 20, 3) := by decide +kernel
theorem dX10_remembers_61 : decode cX10_remembers 61 = .ok (.bipush 34, 2) := by decide +kernel
theorem dX10_remembers_63 : decode cX10_remembers 63 = .ok (.aload_n 0, 1) := by decide +kernel
theorem dX10_remembers_64 : decode cX10_remembers 64 = .ok (.getfield 193, 3) := by decide +kernel
theorem dX10_remembers_67 : decode cX10_remembers 67 = .ok (.imul, 1) := by decide +kernel
theorem dX10_remembers_68 : decode cX10_remembers 68 = .ok (.iload_n 1, 1) := by decide +kernel
theorem dX10_remembers_69 : decode cX10_remembers 69 = .ok (.iadd, 1) := by decide +kernel
theorem dX10_remembers_70 : decode cX10_remembers 70 = .ok (.aload_n 0, 1) := by decide +kernel
theorem dX10_remembers_71 : decode cX10_remembers 71 = .ok (.getfield 13, 3) := by decide +kernel
theorem dX10_remembers_74 : decode cX10_remembers 74 = .ok (.sipush 183, 3) := by decide +kernel
theorem dX10_remembers_77 : decode cX10_remembers 77 = .ok (.iload_n 1, 1) := by decide +kernel
theorem dX10_remembers_78 : decode cX10_remembers 78 = .ok (.iadd, 1) := by decide +kernel
theorem dX10_remembers_79 : decode cX10_remembers 79 = .ok (.iaload, 1) := by decide +kernel
theorem dX10_remembers_80 : decode cX10_remembers 80 = .ok (.iastore, 1) := by decide +kernel
theorem dX10_remembers_81 : decode cX10_remembers 81 = .ok (.iinc 1 1, 3) := by decide +kernel
theorem dX10_remembers_84 : decode cX10_remembers 84 = .ok (.goto (-33), 3) := by decide +kernel
theorem dX10_remembers_87 : decode cX10_remembers 87 = .ok (.aload_n 0, 1) := by decide +kernel
theorem dX10_remembers_88 : decode cX10_remembers 88 = .ok (.dup, 1) := by decide +kernel
theorem dX10_remembers_89 : decode cX10_remembers 89 = .ok (.getfield 193, 3) := by decide +kernel
theorem dX10_remembers_92 : decode cX10_remembers 92 = .ok (.iconst 1, 1) := by decide +kernel
theorem dX10_remembers_93 : decode cX10_remembers 93 = .ok (.iadd, 1) := by decide +kernel
theorem dX10_remembers_94 : decode cX10_remembers 94 = .ok (.putfield 193, 3) := by decide +kernel
theorem dX10_remembers_97 : decode cX10_remembers 97 = .ok (.return_, 1) := by decide +kernel
theorem dX10_twos_0 : decode cX10_twos 0 = .ok (.iconst 0, 1) := by decide +kernel
theorem dX10_twos_1 : decode cX10_twos 1 = .ok (.istore_n 1, 1) := by decide +kernel
theorem dX10_twos_2 : decode cX10_twos 2 = .ok (.iconst 0, 1) := by decide +kernel
theorem dX10_twos_3 : decode cX10_twos 3 = .ok (.istore_n 2, 1) := by decide +kernel
theorem dX10_twos_4 : decode cX10_twos 4 = .ok (.iload_n 2, 1) := by decide +kernel
theorem dX10_twos_5 : decode cX10_twos 5 = .ok (.aload_n 0, 1) := by decide +kernel
theorem dX10_twos_6 : decode cX10_twos 6 = .ok (.getfield 13, 3) := by decide +kernel
theorem dX10_twos_9 : decode cX10_twos 9 = .ok (.iconst 2, 1) := by decide +kernel
theorem dX10_twos_10 : decode cX10_twos 10 = .ok (.iaload, 1) := by decide +kernel
theorem dX10_twos_11 : decode cX10_twos 11 = .ok (.if_icmp .ge 25, 3) := by decide +kernel
theorem dX10_twos_14 : decode cX10_twos 14 = .ok (.iload_n 1, 1) := by decide +kernel
theorem dX10_twos_15 : decode cX10_twos 15 = .ok (.aload_n 0, 1) := by decide +kernel
theorem dX10_twos_16 : decode cX10_twos 16 = .ok (.getfield 13, 3) := by decide +kernel
theorem dX10_twos_19 : decode cX10_twos 19 = .ok (.sipush 195, 3) := by decide +kernel
theorem dX10_twos_22 : decode cX10_twos 22 = .ok (.iload_n 2, 1) := by decide +kernel
theorem dX10_twos_23 : decode cX10_twos 23 = .ok (.iadd, 1) := by decide +kernel
theorem dX10_twos_24 : decode cX10_twos 24 = .ok (.iaload, 1) := by decide +kernel
theorem dX10_twos_25 : decode cX10_twos 25 = .ok (.invokestatic 224, 3) := by decide +kernel
theorem dX10_twos_28 : decode cX10_twos 28 = .ok (.iadd, 1) := by decide +kernel
theorem dX10_twos_29 : decode cX10_twos 29 = .ok (.istore_n 1, 1) := by decide +kernel
theorem dX10_twos_30 : decode cX10_twos 30 = .ok (.iinc 2 1, 3) := by decide +kernel
theorem dX10_twos_33 : decode cX10_twos 33 = .ok (.goto (-29), 3) := by decide +kernel
theorem dX10_twos_36 : decode cX10_twos 36 = .ok (.iload_n 1, 1) := by decide +kernel
theorem dX10_twos_37 : decode cX10_twos 37 = .ok (.ireturn, 1) := by decide +kernel
theorem dX10_over_0 : decode cX10_over 0 = .ok (.aload_n 0, 1) := by decide +kernel
theorem dX10_over_1 : decode cX10_over 1 = .ok (.iconst 0, 1) := by decide +kernel
theorem dX10_over_2 : decode cX10_over 2 = .ok (.putfield 1, 3) := by decide +kernel
theorem dX10_over_5 : decode cX10_over 5 = .ok (.aload_n 0, 1) := by decide +kernel
theorem dX10_over_6 : decode cX10_over 6 = .ok (.iload_n 1, 1) := by decide +kernel
theorem dX10_over_7 : decode cX10_over 7 = .ok (.invokevirtual 229, 3) := by decide +kernel
theorem dX10_over_10 : decode cX10_over 10 = .ok (.ifCond .eq 11, 3) := by decide +kernel
theorem dX10_over_13 : decode cX10_over 13 = .ok (.aload_n 0, 1) := by decide +kernel
theorem dX10_over_14 : decode cX10_over 14 = .ok (.iload_n 2, 1) := by decide +kernel
theorem dX10_over_15 : decode cX10_over 15 = .ok (.invokevirtual 229, 3) := by decide +kernel
theorem dX10_over_18 : decode cX10_over 18 = .ok (.ifCond .ne 6, 3) := by decide +kernel
theorem dX10_over_21 : decode cX10_over 21 = .ok (.bipush (-2), 2) := by decide +kernel
theorem dX10_over_23 : decode cX10_over 23 = .ok (.ireturn, 1) := by decide +kernel
theorem dX10_over_24 : decode cX10_over 24 = .ok (.aload_n 0, 1) := by decide +kernel
theorem dX10_over_25 : decode cX10_over 25 = .ok (.iload_n 1, 1) := by decide +kernel
theorem dX10_over_26 : decode cX10_over 26 = .ok (.iload_n 2, 1) := by decide +kernel
theorem dX10_over_27 : decode cX10_over 27 = .ok (.invokevirtual 175, 3) := by decide +kernel
theorem dX10_over_30 : decode cX10_over 30 = .ok (.ifCond .eq 20, 3) := by decide +kernel
theorem dX10_over_33 : decode cX10_over 33 = .ok (.aload_n 0, 1) := by decide +kernel
theorem dX10_over_34 : decode cX10_over 34 = .ok (.getfield 13, 3) := by decide +kernel
theorem dX10_over_37 : decode cX10_over 37 = .ok (.sipush 195, 3) := by decide +kernel
theorem dX10_over_40 : decode cX10_over 40 = .ok (.iload_n 1, 1) := by decide +kernel
theorem dX10_over_41 : decode cX10_over 41 = .ok (.iadd, 1) := by decide +kernel
theorem dX10_over_42 : decode cX10_over 42 = .ok (.iaload, 1) := by decide +kernel
theorem dX10_over_43 : decode cX10_over 43 = .ok (.iload_n 2, 1) := by decide +kernel
theorem dX10_over_44 : decode cX10_over 44 = .ok (.invokestatic 178, 3) := by decide +kernel
theorem dX10_over_47 : decode cX10_over 47 = .ok (.ifCond .eq 6, 3) := by decide +kernel
theorem dX10_over_50 : decode cX10_over 50 = .ok (.bipush (-5), 2) := by decide +kernel
theorem dX10_over_52 : decode cX10_over 52 = .ok (.ireturn, 1) := by decide +kernel
theorem dX10_over_53 : decode cX10_over 53 = .ok (.aload_n 0, 1) := by decide +kernel
theorem dX10_over_54 : decode cX10_over 54 = .ok (.iload_n 1, 1) := by decide +kernel
theorem dX10_over_55 : decode cX10_over 55 = .ok (.iload_n 2, 1) := by decide +kernel
theorem dX10_over_56 : decode cX10_over 56 = .ok (.invokevirtual 181, 3) := by decide +kernel
theorem dX10_over_59 : decode cX10_over 59 = .ok (.istore_n 3, 1) := by decide +kernel
theorem dX10_over_60 : decode cX10_over 60 = .ok (.iload_n 3, 1) := by decide +kernel
theorem dX10_over_61 : decode cX10_over 61 = .ok (.ifCond .ge 5, 3) := by decide +kernel
theorem dX10_over_64 : decode cX10_over 64 = .ok (.iload_n 3, 1) := by decide +kernel
theorem dX10_over_65 : decode cX10_over 65 = .ok (.ireturn, 1) := by decide +kernel
theorem dX10_over_66 : decode cX10_over 66 = .ok (.aload_n 0, 1) := by decide +kernel
theorem dX10_over_67 : decode cX10_over 67 = .ok (.invokevirtual 232, 3) := by decide +kernel
theorem dX10_over_70 : decode cX10_over 70 = .ok (.aload_n 0, 1) := by decide +kernel
theorem dX10_over_71 : decode cX10_over 71 = .ok (.getfield 13, 3) := by decide +kernel
theorem dX10_over_74 : decode cX10_over 74 = .ok (.sipush 195, 3) := by decide +kernel
theorem dX10_over_77 : decode cX10_over 77 = .ok (.iload_n 1, 1) := by decide +kernel
theorem dX10_over_78 : decode cX10_over 78 = .ok (.iadd, 1) := by decide +kernel
theorem dX10_over_79 : decode cX10_over 79 = .ok (.dup2, 1) := by decide +kernel
theorem dX10_over_80 : decode cX10_over 80 = .ok (.iaload, 1) := by decide +kernel
theorem dX10_over_81 : decode cX10_over 81 = .ok (.iconst 1, 1) := by decide +kernel
theorem dX10_over_82 : decode cX10_over 82 = .ok (.iload_n 2, 1) := by decide +kernel
theorem dX10_over_83 : decode cX10_over 83 = .ok (.ishl, 1) := by decide +kernel
theorem dX10_over_84 : decode cX10_over 84 = .ok (.ior, 1) := by decide +kernel
theorem dX10_over_85 : decode cX10_over 85 = .ok (.iastore, 1) := by decide +kernel
theorem dX10_over_86 : decode cX10_over 86 = .ok (.aload_n 0, 1) := by decide +kernel
theorem dX10_over_87 : decode cX10_over 87 = .ok (.invokevirtual 235, 3) := by decide +kernel
theorem dX10_over_90 : decode cX10_over 90 = .ok (.ireturn, 1) := by decide +kernel
theorem dX10_takes_0 : decode cX10_takes 0 = .ok (.aload_n 0, 1) := by decide +kernel
theorem dX10_takes_1 : decode cX10_takes 1 = .ok (.iconst 0, 1) := by decide +kernel
theorem dX10_takes_2 : decode cX10_takes 2 = .ok (.putfield 1, 3) := by decide +kernel
theorem dX10_takes_5 : decode cX10_takes 5 = .ok (.aload_n 0, 1) := by decide +kernel
theorem dX10_takes_6 : decode cX10_takes 6 = .ok (.iload_n 1, 1) := by decide +kernel
theorem dX10_takes_7 : decode cX10_takes 7 = .ok (.invokevirtual 229, 3) := by decide +kernel
theorem dX10_takes_10 : decode cX10_takes 10 = .ok (.ifCond .eq 11, 3) := by decide +kernel
theorem dX10_takes_13 : decode cX10_takes 13 = .ok (.aload_n 0, 1) := by decide +kernel
theorem dX10_takes_14 : decode cX10_takes 14 = .ok (.iload_n 2, 1) := by decide +kernel
theorem dX10_takes_15 : decode cX10_takes 15 = .ok (.invokevirtual 229, 3) := by decide +kernel
theorem dX10_takes_18 : decode cX10_takes 18 = .ok (.ifCond .ne 6, 3) := by decide +kernel
theorem dX10_takes_21 : decode cX10_takes 21 = .ok (.bipush (-2), 2) := by decide +kernel
theorem dX10_takes_23 : decode cX10_takes 23 = .ok (.ireturn, 1) := by decide +kernel
theorem dX10_takes_24 : decode cX10_takes 24 = .ok (.aload_n 0, 1) := by decide +kernel
theorem dX10_takes_25 : decode cX10_takes 25 = .ok (.getfield 13, 3) := by decide +kernel
theorem dX10_takes_28 : decode cX10_takes 28 = .ok (.sipush 195, 3) := by decide +kernel
theorem dX10_takes_31 : decode cX10_takes 31 = .ok (.iload_n 1, 1) := by decide +kernel
theorem dX10_takes_32 : decode cX10_takes 32 = .ok (.iadd, 1) := by decide +kernel
theorem dX10_takes_33 : decode cX10_takes 33 = .ok (.iaload, 1) := by decide +kernel
theorem dX10_takes_34 : decode cX10_takes 34 = .ok (.iload_n 2, 1) := by decide +kernel
theorem dX10_takes_35 : decode cX10_takes 35 = .ok (.invokestatic 178, 3) := by decide +kernel
theorem dX10_takes_38 : decode cX10_takes 38 = .ok (.ifCond .ne 6, 3) := by decide +kernel
theorem dX10_takes_41 : decode cX10_takes 41 = .ok (.bipush (-5), 2) := by decide +kernel
theorem dX10_takes_43 : decode cX10_takes 43 = .ok (.ireturn, 1) := by decide +kernel
theorem dX10_takes_44 : decode cX10_takes 44 = .ok (.aload_n 0, 1) := by decide +kernel
theorem dX10_takes_45 : decode cX10_takes 45 = .ok (.invokevirtual 232, 3) := by decide +kernel
theorem dX10_takes_48 : decode cX10_takes 48 = .ok (.aload_n 0, 1) := by decide +kernel
theorem dX10_takes_49 : decode cX10_takes 49 = .ok (.getfield 13, 3) := by decide +kernel
theorem dX10_takes_52 : decode cX10_takes 52 = .ok (.sipush 195, 3) := by decide +kernel
theorem dX10_takes_55 : decode cX10_takes 55 = .ok (.iload_n 1, 1) := by decide +kernel
theorem dX10_takes_56 : decode cX10_takes 56 = .ok (.iadd, 1) := by decide +kernel
theorem dX10_takes_57 : decode cX10_takes 57 = .ok (.dup2, 1) := by decide +kernel
theorem dX10_takes_58 : decode cX10_takes 58 = .ok (.iaload, 1) := by decide +kernel
theorem dX10_takes_59 : decode cX10_takes 59 = .ok (.iconst 1, 1) := by decide +kernel
theorem dX10_takes_60 : decode cX10_takes 60 = .ok (.iload_n 2, 1) := by decide +kernel
theorem dX10_takes_61 : decode cX10_takes 61 = .ok (.ishl, 1) := by decide +kernel
theorem dX10_takes_62 : decode cX10_takes 62 = .ok (.iconst (-1), 1) := by decide +kernel
theorem dX10_takes_63 : decode cX10_takes 63 = .ok (.ixor, 1) := by decide +kernel
theorem dX10_takes_64 : decode cX10_takes 64 = .ok (.iand, 1) := by decide +kernel
theorem dX10_takes_65 : decode cX10_takes 65 = .ok (.iastore, 1) := by decide +kernel
theorem dX10_takes_66 : decode cX10_takes 66 = .ok (.aload_n 0, 1) := by decide +kernel
theorem dX10_takes_67 : decode cX10_takes 67 = .ok (.invokevirtual 235, 3) := by decide +kernel
theorem dX10_takes_70 : decode cX10_takes 70 = .ok (.ireturn, 1) := by decide +kernel
theorem dX10_hand_0 : decode cX10_hand 0 = .ok (.aload_n 0, 1) := by decide +kernel
theorem dX10_hand_1 : decode cX10_hand 1 = .ok (.iconst 0, 1) := by decide +kernel
theorem dX10_hand_2 : decode cX10_hand 2 = .ok (.putfield 1, 3) := by decide +kernel
theorem dX10_hand_5 : decode cX10_hand 5 = .ok (.aload_n 0, 1) := by decide +kernel
theorem dX10_hand_6 : decode cX10_hand 6 = .ok (.iload_n 1, 1) := by decide +kernel
theorem dX10_hand_7 : decode cX10_hand 7 = .ok (.invokevirtual 229, 3) := by decide +kernel
theorem dX10_hand_10 : decode cX10_hand 10 = .ok (.ifCond .ne 6, 3) := by decide +kernel
theorem dX10_hand_13 : decode cX10_hand 13 = .ok (.bipush (-2), 2) := by decide +kernel
theorem dX10_hand_15 : decode cX10_hand 15 = .ok (.ireturn, 1) := by decide +kernel
theorem dX10_hand_16 : decode cX10_hand 16 = .ok (.iload_n 2, 1) := by decide +kernel
theorem dX10_hand_17 : decode cX10_hand 17 = .ok (.i2l, 1) := by decide +kernel
theorem dX10_hand_18 : decode cX10_hand 18 = .ok (.ldc2_w 238, 3) := by decide +kernel
theorem dX10_hand_21 : decode cX10_hand 21 = .ok (.lconst 1, 1) := by decide +kernel
theorem dX10_hand_22 : decode cX10_hand 22 = .ok (.invokestatic 83, 3) := by decide +kernel
theorem dX10_hand_25 : decode cX10_hand 25 = .ok (.ifCond .ne 6, 3) := by decide +kernel
theorem dX10_hand_28 : decode cX10_hand 28 = .ok (.bipush (-3), 2) := by decide +kernel
theorem dX10_hand_30 : decode cX10_hand 30 = .ok (.ireturn, 1) := by decide +kernel
theorem dX10_hand_31 : decode cX10_hand 31 = .ok (.aload_n 0, 1) := by decide +kernel
theorem dX10_hand_32 : decode cX10_hand 32 = .ok (.getfield 13, 3) := by decide +kernel
theorem dX10_hand_35 : decode cX10_hand 35 = .ok (.sipush 183, 3) := by decide +kernel
theorem dX10_hand_38 : decode cX10_hand 38 = .ok (.iload_n 1, 1) := by decide +kernel
theorem dX10_hand_39 : decode cX10_hand 39 = .ok (.iadd, 1) := by decide +kernel
theorem dX10_hand_40 : decode cX10_hand 40 = .ok (.iaload, 1) := by decide +kernel
theorem dX10_hand_41 : decode cX10_hand 41 = .ok (.istore_n 3, 1) := by decide +kernel
theorem dX10_hand_42 : decode cX10_hand 42 = .ok (.aload_n 0, 1) := by decide +kernel
theorem dX10_hand_43 : decode cX10_hand 43 = .ok (.getfield 13, 3) := by decide +kernel
theorem dX10_hand_46 : decode cX10_hand 46 = .ok (.sipush 183, 3) := by decide +kernel
theorem dX10_hand_49 : decode cX10_hand 49 = .ok (.iload_n 1, 1) := by decide +kernel
theorem dX10_hand_50 : decode cX10_hand 50 = .ok (.iadd, 1) := by decide +kernel
theorem dX10_hand_51 : decode cX10_hand 51 = .ok (.iload_n 2, 1) := by decide +kernel
theorem dX10_hand_52 : decode cX10_hand 52 = .ok (.iconst 1, 1) := by decide +kernel
theorem dX10_hand_53 : decode cX10_hand 53 = .ok (.iadd, 1) := by decide +kernel
theorem dX10_hand_54 : decode cX10_hand 54 = .ok (.iastore, 1) := by decide +kernel
theorem dX10_hand_55 : decode cX10_hand 55 = .ok (.aload_n 0, 1) := by decide +kernel
theorem dX10_hand_56 : decode cX10_hand 56 = .ok (.invokevirtual 221, 3) := by decide +kernel
theorem dX10_hand_59 : decode cX10_hand 59 = .ok (.aload_n 0, 1) := by decide +kernel
theorem dX10_hand_60 : decode cX10_hand 60 = .ok (.getfield 13, 3) := by decide +kernel
theorem dX10_hand_63 : decode cX10_hand 63 = .ok (.sipush 183, 3) := by decide +kernel
theorem dX10_hand_66 : decode cX10_hand 66 = .ok (.iload_n 1, 1) := by decide +kernel
theorem dX10_hand_67 : decode cX10_hand 67 = .ok (.iadd, 1) := by decide +kernel
theorem dX10_hand_68 : decode cX10_hand 68 = .ok (.iload_n 3, 1) := by decide +kernel
theorem dX10_hand_69 : decode cX10_hand 69 = .ok (.iastore, 1) := by decide +kernel
theorem dX10_hand_70 : decode cX10_hand 70 = .ok (.aload_n 0, 1) := by decide +kernel
theorem dX10_hand_71 : decode cX10_hand 71 = .ok (.getfield 212, 3) := by decide +kernel
theorem dX10_hand_74 : decode cX10_hand 74 = .ok (.ifCond .ne 6, 3) := by decide +kernel
theorem dX10_hand_77 : decode cX10_hand 77 = .ok (.bipush (-9), 2) := by decide +kernel
theorem dX10_hand_79 : decode cX10_hand 79 = .ok (.ireturn, 1) := by decide +kernel
theorem dX10_hand_80 : decode cX10_hand 80 = .ok (.aload_n 0, 1) := by decide +kernel
theorem dX10_hand_81 : decode cX10_hand 81 = .ok (.invokevirtual 232, 3) := by decide +kernel
theorem dX10_hand_84 : decode cX10_hand 84 = .ok (.aload_n 0, 1) := by decide +kernel
theorem dX10_hand_85 : decode cX10_hand 85 = .ok (.getfield 13, 3) := by decide +kernel
theorem dX10_hand_88 : decode cX10_hand 88 = .ok (.sipush 183, 3) := by decide +kernel
theorem dX10_hand_91 : decode cX10_hand 91 = .ok (.iload_n 1, 1) := by decide +kernel
theorem dX10_hand_92 : decode cX10_hand 92 = .ok (.iadd, 1) := by decide +kernel
theorem dX10_hand_93 : decode cX10_hand 93 = .ok (.iload_n 2, 1) := by decide +kernel
theorem dX10_hand_94 : decode cX10_hand 94 = .ok (.iconst 1, 1) := by decide +kernel
theorem dX10_hand_95 : decode cX10_hand 95 = .ok (.iadd, 1) := by decide +kernel
theorem dX10_hand_96 : decode cX10_hand 96 = .ok (.iastore, 1) := by decide +kernel
theorem dX10_hand_97 : decode cX10_hand 97 = .ok (.iload_n 3, 1) := by decide +kernel
theorem dX10_hand_98 : decode cX10_hand 98 = .ok (.ireturn, 1) := by decide +kernel
theorem dX10_weigh_0 : decode cX10_weigh 0 = .ok (.aload_n 0, 1) := by decide +kernel
theorem dX10_weigh_1 : decode cX10_weigh 1 = .ok (.iconst 0, 1) := by decide +kernel
theorem dX10_weigh_2 : decode cX10_weigh 2 = .ok (.putfield 1, 3) := by decide +kernel
theorem dX10_weigh_5 : decode cX10_weigh 5 = .ok (.aload_n 0, 1) := by decide +kernel
theorem dX10_weigh_6 : decode cX10_weigh 6 = .ok (.iload_n 1, 1) := by decide +kernel
theorem dX10_weigh_7 : decode cX10_weigh 7 = .ok (.invokevirtual 240, 3) := by decide +kernel
theorem dX10_weigh_10 : decode cX10_weigh 10 = .ok (.ifCond .ne 6, 3) := by decide +kernel
theorem dX10_weigh_13 : decode cX10_weigh 13 = .ok (.bipush (-2), 2) := by decide +kernel
theorem dX10_weigh_15 : decode cX10_weigh 15 = .ok (.ireturn, 1) := by decide +kernel
theorem dX10_weigh_16 : decode cX10_weigh 16 = .ok (.iload_n 2, 1) := by decide +kernel
theorem dX10_weigh_17 : decode cX10_weigh 17 = .ok (.i2l, 1) := by decide +kernel
theorem dX10_weigh_18 : decode cX10_weigh 18 = .ok (.lconst 1, 1) := by decide +kernel
theorem dX10_weigh_19 : decode cX10_weigh 19 = .ok (.ldc2_w 243, 3) := by decide +kernel
theorem dX10_weigh_22 : decode cX10_weigh 22 = .ok (.invokestatic 83, 3) := by decide +kernel
theorem dX10_weigh_25 : decode cX10_weigh 25 = .ok (.ifCond .ne 6, 3) := by decide +kernel
theorem dX10_weigh_28 : decode cX10_weigh 28 = .ok (.bipush (-3), 2) := by decide +kernel
theorem dX10_weigh_30 : decode cX10_weigh 30 = .ok (.ireturn, 1) := by decide +kernel
theorem dX10_weigh_31 : decode cX10_weigh 31 = .ok (.aload_n 0, 1) := by decide +kernel
theorem dX10_weigh_32 : decode cX10_weigh 32 = .ok (.invokevirtual 232, 3) := by decide +kernel
theorem dX10_weigh_35 : decode cX10_weigh 35 = .ok (.aload_n 0, 1) := by decide +kernel
theorem dX10_weigh_36 : decode cX10_weigh 36 = .ok (.getfield 13, 3) := by decide +kernel
theorem dX10_weigh_39 : decode cX10_weigh 39 = .ok (.sipush 207, 3) := by decide +kernel
theorem dX10_weigh_42 : decode cX10_weigh 42 = .ok (.iload_n 1, 1) := by decide +kernel
theorem dX10_weigh_43 : decode cX10_weigh 43 = .ok (.iadd, 1) := by decide +kernel
theorem dX10_weigh_44 : decode cX10_weigh 44 = .ok (.iaload, 1) := by decide +kernel
theorem dX10_weigh_45 : decode cX10_weigh 45 = .ok (.istore_n 3, 1) := by decide +kernel
theorem dX10_weigh_46 : decode cX10_weigh 46 = .ok (.aload_n 0, 1) := by decide +kernel
theorem dX10_weigh_47 : decode cX10_weigh 47 = .ok (.getfield 13, 3) := by decide +kernel
theorem dX10_weigh_50 : decode cX10_weigh 50 = .ok (.sipush 207, 3) := by decide +kernel
theorem dX10_weigh_53 : decode cX10_weigh 53 = .ok (.iload_n 1, 1) := by decide +kernel
theorem dX10_weigh_54 : decode cX10_weigh 54 = .ok (.iadd, 1) := by decide +kernel
theorem dX10_weigh_55 : decode cX10_weigh 55 = .ok (.iload_n 2, 1) := by decide +kernel
theorem dX10_weigh_56 : decode cX10_weigh 56 = .ok (.iastore, 1) := by decide +kernel
theorem dX10_weigh_57 : decode cX10_weigh 57 = .ok (.iload_n 3, 1) := by decide +kernel
theorem dX10_weigh_58 : decode cX10_weigh 58 = .ok (.ireturn, 1) := by decide +kernel
theorem dX10_undo_0 : decode cX10_undo 0 = .ok (.aload_n 0, 1) := by decide +kernel
theorem dX10_undo_1 : decode cX10_undo 1 = .ok (.iconst 0, 1) := by decide +kernel
theorem dX10_undo_2 : decode cX10_undo 2 = .ok (.putfield 1, 3) := by decide +kernel
theorem dX10_undo_5 : decode cX10_undo 5 = .ok (.aload_n 0, 1) := by decide +kernel
theorem dX10_undo_6 : decode cX10_undo 6 = .ok (.getfield 193, 3) := by decide +kernel
theorem dX10_undo_9 : decode cX10_undo 9 = .ok (.ifCond .ne 6, 3) := by decide +kernel
theorem dX10_undo_12 : decode cX10_undo 12 = .ok (.bipush (-5), 2) := by decide +kernel
theorem dX10_undo_14 : decode cX10_undo 14 = .ok (.ireturn, 1) := by decide +kernel
theorem dX10_undo_15 : decode cX10_undo 15 = .ok (.aload_n 0, 1) := by decide +kernel
theorem dX10_undo_16 : decode cX10_undo 16 = .ok (.dup, 1) := by decide +kernel
theorem dX10_undo_17 : decode cX10_undo 17 = .ok (.getfield 193, 3) := by decide +kernel
theorem dX10_undo_20 : decode cX10_undo 20 = .ok (.iconst 1, 1) := by decide +kernel
theorem dX10_undo_21 : decode cX10_undo 21 = .ok (.isub, 1) := by decide +kernel
theorem dX10_undo_22 : decode cX10_undo 22 = .ok (.putfield 193, 3) := by decide +kernel
theorem dX10_undo_25 : decode cX10_undo 25 = .ok (.iconst 0, 1) := by decide +kernel
theorem dX10_undo_26 : decode cX10_undo 26 = .ok (.istore_n 1, 1) := by decide +kernel
theorem dX10_undo_27 : decode cX10_undo 27 = .ok (.iload_n 1, 1) := by decide +kernel
theorem dX10_undo_28 : decode cX10_undo 28 = .ok (.bipush 34, 2) := by decide +kernel
theorem dX10_undo_30 : decode cX10_undo 30 = .ok (.if_icmp .ge 33, 3) := by decide +kernel
theorem dX10_undo_33 : decode cX10_undo 33 = .ok (.aload_n 0, 1) := by decide +kernel
theorem dX10_undo_34 : decode cX10_undo 34 = .ok (.getfield 13, 3) := by decide +kernel
theorem dX10_undo_37 : decode cX10_undo 37 = .ok (.sipush 183, 3) := by decide +kernel
theorem dX10_undo_40 : decode cX10_undo 40 = .ok (.iload_n 1, 1) := by decide +kernel
theorem dX10_undo_41 : decode cX10_undo 41 = .ok (.iadd, 1) := by decide +kernel
theorem dX10_undo_42 : decode cX10_undo 42 = .ok (.aload_n 0, 1) := by decide +kernel
theorem dX10_undo_43 : decode cX10_undo 43 = .ok (.getfield 20, 3) := by decide +kernel
theorem dX10_undo_46 : decode cX10_undo 46 = .ok (.bipush 34, 2) := by decide +kernel
theorem dX10_undo_48 : decode cX10_undo 48 = .ok (.aload_n 0, 1) := by decide +kernel
theorem dX10_undo_49 : decode cX10_undo 49 = .ok (.getfield 193, 3) := by decide +kernel
theorem dX10_undo_52 : decode cX10_undo 52 = .ok (.imul, 1) := by decide +kernel
theorem dX10_undo_53 : decode cX10_undo 53 = .ok (.iload_n 1, 1) := by decide +kernel
theorem dX10_undo_54 : decode cX10_undo 54 = .ok (.iadd, 1) := by decide +kernel
theorem dX10_undo_55 : decode cX10_undo 55 = .ok (.iaload, 1) := by decide +kernel
theorem dX10_undo_56 : decode cX10_undo 56 = .ok (.iastore, 1) := by decide +kernel
theorem dX10_undo_57 : decode cX10_undo 57 = .ok (.iinc 1 1, 3) := by decide +kernel
theorem dX10_undo_60 : decode cX10_undo 60 = .ok (.goto (-33), 3) := by decide +kernel
theorem dX10_undo_63 : decode cX10_undo 63 = .ok (.aload_n 0, 1) := by decide +kernel
theorem dX10_undo_64 : decode cX10_undo 64 = .ok (.getfield 193, 3) := by decide +kernel
theorem dX10_undo_67 : decode cX10_undo 67 = .ok (.ireturn, 1) := by decide +kernel
theorem dX10_crossings_0 : decode cX10_crossings 0 = .ok (.iconst 0, 1) := by decide +kernel
theorem dX10_crossings_1 : decode cX10_crossings 1 = .ok (.istore_n 2, 1) := by decide +kernel
theorem dX10_crossings_2 : decode cX10_crossings 2 = .ok (.iconst 0, 1) := by decide +kernel
theorem dX10_crossings_3 : decode cX10_crossings 3 = .ok (.istore_n 3, 1) := by decide +kernel
theorem dX10_crossings_4 : decode cX10_crossings 4 = .ok (.iload_n 3, 1) := by decide +kernel
theorem dX10_crossings_5 : decode cX10_crossings 5 = .ok (.aload_n 0, 1) := by decide +kernel
theorem dX10_crossings_6 : decode cX10_crossings 6 = .ok (.getfield 13, 3) := by decide +kernel
theorem dX10_crossings_9 : decode cX10_crossings 9 = .ok (.iconst 2, 1) := by decide +kernel
theorem dX10_crossings_10 : decode cX10_crossings 10 = .ok (.iaload, 1) := by decide +kernel
theorem dX10_crossings_11 : decode cX10_crossings 11 = .ok (.if_icmp .ge 28, 3) := by decide +kernel
theorem dX10_crossings_14 : decode cX10_crossings 14 = .ok (.iload_n 2, 1) := by decide +kernel
theorem dX10_crossings_15 : decode cX10_crossings 15 = .ok (.aload_n 0, 1) := by decide +kernel
theorem dX10_crossings_16 : decode cX10_crossings 16 = .ok (.iload_n 1, 1) := by decide +kernel
theorem dX10_crossings_17 : decode cX10_crossings 17 = .ok (.iload_n 3, 1) := by decide +kernel
theorem dX10_crossings_18 : decode cX10_crossings 18 = .ok (.invokevirtual 175, 3) := by decide +kernel
theorem dX10_crossings_21 : decode cX10_crossings 21 = .ok (.ifCond .eq 9, 3) := by decide +kernel
theorem dX10_crossings_24 : decode cX10_crossings 24 = .ok (.iconst 1, 1) := by decide +kernel
theorem dX10_crossings_25 : decode cX10_crossings 25 = .ok (.iload_n 3, 1) := by decide +kernel
theorem dX10_crossings_26 : decode cX10_crossings 26 = .ok (.ishl, 1) := by decide +kernel
theorem dX10_crossings_27 : decode cX10_crossings 27 = .ok (.goto 4, 3) := by decide +kernel
theorem dX10_crossings_30 : decode cX10_crossings 30 = .ok (.iconst 0, 1) := by decide +kernel
theorem dX10_crossings_31 : decode cX10_crossings 31 = .ok (.ior, 1) := by decide +kernel
theorem dX10_crossings_32 : decode cX10_crossings 32 = .ok (.istore_n 2, 1) := by decide +kernel
theorem dX10_crossings_33 : decode cX10_crossings 33 = .ok (.iinc 3 1, 3) := by decide +kernel
theorem dX10_crossings_36 : decode cX10_crossings 36 = .ok (.goto (-32), 3) := by decide +kernel
theorem dX10_crossings_39 : decode cX10_crossings 39 = .ok (.iload_n 2, 1) := by decide +kernel
theorem dX10_crossings_40 : decode cX10_crossings 40 = .ok (.ireturn, 1) := by decide +kernel
theorem dX10_underOf_0 : decode cX10_underOf 0 = .ok (.iconst 0, 1) := by decide +kernel
theorem dX10_underOf_1 : decode cX10_underOf 1 = .ok (.istore_n 2, 1) := by decide +kernel
theorem dX10_underOf_2 : decode cX10_underOf 2 = .ok (.iconst 0, 1) := by decide +kernel
theorem dX10_underOf_3 : decode cX10_underOf 3 = .ok (.istore_n 3, 1) := by decide +kernel
theorem dX10_underOf_4 : decode cX10_underOf 4 = .ok (.iload_n 3, 1) := by decide +kernel
theorem dX10_underOf_5 : decode cX10_underOf 5 = .ok (.aload_n 0, 1) := by decide +kernel
theorem dX10_underOf_6 : decode cX10_underOf 6 = .ok (.getfield 13, 3) := by decide +kernel
theorem dX10_underOf_9 : decode cX10_underOf 9 = .ok (.iconst 2, 1) := by decide +kernel
theorem dX10_underOf_10 : decode cX10_underOf 10 = .ok (.iaload, 1) := by decide +kernel
theorem dX10_underOf_11 : decode cX10_underOf 11 = .ok (.if_icmp .ge 32, 3) := by decide +kernel
theorem dX10_underOf_14 : decode cX10_underOf 14 = .ok (.iload_n 2, 1) := by decide +kernel
theorem dX10_underOf_15 : decode cX10_underOf 15 = .ok (.aload_n 0, 1) := by decide +kernel
theorem dX10_underOf_16 : decode cX10_underOf 16 = .ok (.getfield 30, 3) := by decide +kernel
theorem dX10_underOf_19 : decode cX10_underOf 19 = .ok (.iload_n 3, 1) := by decide +kernel
theorem dX10_underOf_20 : decode cX10_underOf 20 = .ok (.iaload, 1) := by decide +kernel
theorem dX10_underOf_21 : decode cX10_underOf 21 = .ok (.iload_n 1, 1) := by decide +kernel
theorem dX10_underOf_22 : decode cX10_underOf 22 = .ok (.invokestatic 178, 3) := by decide +kernel
theorem dX10_underOf_25 : decode cX10_underOf 25 = .ok (.ifCond .eq 9, 3) := by decide +kernel
theorem dX10_underOf_28 : decode cX10_underOf 28 = .ok (.iconst 1, 1) := by decide +kernel
theorem dX10_underOf_29 : decode cX10_underOf 29 = .ok (.iload_n 3, 1) := by decide +kernel
theorem dX10_underOf_30 : decode cX10_underOf 30 = .ok (.ishl, 1) := by decide +kernel
theorem dX10_underOf_31 : decode cX10_underOf 31 = .ok (.goto 4, 3) := by decide +kernel
theorem dX10_underOf_34 : decode cX10_underOf 34 = .ok (.iconst 0, 1) := by decide +kernel
theorem dX10_underOf_35 : decode cX10_underOf 35 = .ok (.ior, 1) := by decide +kernel
theorem dX10_underOf_36 : decode cX10_underOf 36 = .ok (.istore_n 2, 1) := by decide +kernel
theorem dX10_underOf_37 : decode cX10_underOf 37 = .ok (.iinc 3 1, 3) := by decide +kernel
theorem dX10_underOf_40 : decode cX10_underOf 40 = .ok (.goto (-36), 3) := by decide +kernel
theorem dX10_underOf_43 : decode cX10_underOf 43 = .ok (.iload_n 2, 1) := by decide +kernel
theorem dX10_underOf_44 : decode cX10_underOf 44 = .ok (.ireturn, 1) := by decide +kernel
theorem dX10_layerOf_0 : decode cX10_layerOf 0 = .ok (.iconst 0, 1) := by decide +kernel
theorem dX10_layerOf_1 : decode cX10_layerOf 1 = .ok (.istore_n 2, 1) := by decide +kernel
theorem dX10_layerOf_2 : decode cX10_layerOf 2 = .ok (.iconst 0, 1) := by decide +kernel
theorem dX10_layerOf_3 : decode cX10_layerOf 3 = .ok (.istore_n 3, 1) := by decide +kernel
theorem dX10_layerOf_4 : decode cX10_layerOf 4 = .ok (.iload_n 3, 1) := by decide +kernel
theorem dX10_layerOf_5 : decode cX10_layerOf 5 = .ok (.aload_n 0, 1) := by decide +kernel
theorem dX10_layerOf_6 : decode cX10_layerOf 6 = .ok (.getfield 13, 3) := by decide +kernel
theorem dX10_layerOf_9 : decode cX10_layerOf 9 = .ok (.iconst 2, 1) := by decide +kernel
theorem dX10_layerOf_10 : decode cX10_layerOf 10 = .ok (.iaload, 1) := by decide +kernel
theorem dX10_layerOf_11 : decode cX10_layerOf 11 = .ok (.if_icmp .ge 51, 3) := by decide +kernel
theorem dX10_layerOf_14 : decode cX10_layerOf 14 = .ok (.aload_n 0, 1) := by decide +kernel
theorem dX10_layerOf_15 : decode cX10_layerOf 15 = .ok (.getfield 13, 3) := by decide +kernel
theorem dX10_layerOf_18 : decode cX10_layerOf 18 = .ok (.sipush 195, 3) := by decide +kernel
theorem dX10_layerOf_21 : decode cX10_layerOf 21 = .ok (.iload_n 1, 1) := by decide +kernel
theorem dX10_layerOf_22 : decode cX10_layerOf 22 = .ok (.iadd, 1) := by decide +kernel
theorem dX10_layerOf_23 : decode cX10_layerOf 23 = .ok (.iaload, 1) := by decide +kernel
theorem dX10_layerOf_24 : decode cX10_layerOf 24 = .ok (.iload_n 3, 1) := by decide +kernel
theorem dX10_layerOf_25 : decode cX10_layerOf 25 = .ok (.invokestatic 178, 3) := by decide +kernel
theorem dX10_layerOf_28 : decode cX10_layerOf 28 = .ok (.ifCond .ne 6, 3) := by decide +kernel
theorem dX10_layerOf_31 : decode cX10_layerOf 31 = .ok (.goto 25, 3) := by decide +kernel
theorem dX10_layerOf_34 : decode cX10_layerOf 34 = .ok (.aload_n 0, 1) := by decide +kernel
theorem dX10_layerOf_35 : decode cX10_layerOf 35 = .ok (.iload_n 3, 1) := by decide +kernel
theorem dX10_layerOf_36 : decode cX10_layerOf 36 = .ok (.invokevirtual 245, 3) := by decide +kernel
theorem dX10_layerOf_39 : decode cX10_layerOf 39 = .ok (.iconst 1, 1) := by decide +kernel
theorem dX10_layerOf_40 : decode cX10_layerOf 40 = .ok (.iadd, 1) := by decide +kernel
theorem dX10_layerOf_41 : decode cX10_layerOf 41 = .ok (.istore 4, 2) := by decide +kernel
theorem dX10_layerOf_43 : decode cX10_layerOf 43 = .ok (.iload 4, 2) := by decide +kernel
theorem dX10_layerOf_45 : decode cX10_layerOf 45 = .ok (.iload_n 2, 1) := by decide +kernel
theorem dX10_layerOf_46 : decode cX10_layerOf 46 = .ok (.if_icmp .le 8, 3) := by decide +kernel
theorem dX10_layerOf_49 : decode cX10_layerOf 49 = .ok (.iload 4, 2) := by decide +kernel
theorem dX10_layerOf_51 : decode cX10_layerOf 51 = .ok (.goto 4, 3) := by decide +kernel
theorem dX10_layerOf_54 : decode cX10_layerOf 54 = .ok (.iload_n 2, 1) := by decide +kernel
theorem dX10_layerOf_55 : decode cX10_layerOf 55 = .ok (.istore_n 2, 1) := by decide +kernel
theorem dX10_layerOf_56 : decode cX10_layerOf 56 = .ok (.iinc 3 1, 3) := by decide +kernel
theorem dX10_layerOf_59 : decode cX10_layerOf 59 = .ok (.goto (-55), 3) := by decide +kernel
theorem dX10_layerOf_62 : decode cX10_layerOf 62 = .ok (.iload_n 2, 1) := by decide +kernel
theorem dX10_layerOf_63 : decode cX10_layerOf 63 = .ok (.ireturn, 1) := by decide +kernel
theorem dX10_stroke_0 : decode cX10_stroke 0 = .ok (.aload_n 0, 1) := by decide +kernel
theorem dX10_stroke_1 : decode cX10_stroke 1 = .ok (.iconst 0, 1) := by decide +kernel
theorem dX10_stroke_2 : decode cX10_stroke 2 = .ok (.putfield 1, 3) := by decide +kernel
theorem dX10_stroke_5 : decode cX10_stroke 5 = .ok (.aload_n 0, 1) := by decide +kernel
theorem dX10_stroke_6 : decode cX10_stroke 6 = .ok (.iload_n 1, 1) := by decide +kernel
theorem dX10_stroke_7 : decode cX10_stroke 7 = .ok (.invokevirtual 229, 3) := by decide +kernel
theorem dX10_stroke_10 : decode cX10_stroke 10 = .ok (.ifCond .eq 15, 3) := by decide +kernel
theorem dX10_stroke_13 : decode cX10_stroke 13 = .ok (.iload_n 2, 1) := by decide +kernel
theorem dX10_stroke_14 : decode cX10_stroke 14 = .ok (.i2l, 1) := by decide +kernel
theorem dX10_stroke_15 : decode cX10_stroke 15 = .ok (.lconst 0, 1) := by decide +kernel
theorem dX10_stroke_16 : decode cX10_stroke 16 = .ok (.ldc2_w 248, 3) := by decide +kernel
theorem dX10_stroke_19 : decode cX10_stroke 19 = .ok (.invokestatic 83, 3) := by decide +kernel
theorem dX10_stroke_22 : decode cX10_stroke 22 = .ok (.ifCond .ne 6, 3) := by decide +kernel
theorem dX10_stroke_25 : decode cX10_stroke 25 = .ok (.bipush (-2), 2) := by decide +kernel
theorem dX10_stroke_27 : decode cX10_stroke 27 = .ok (.ireturn, 1) := by decide +kernel
theorem dX10_stroke_28 : decode cX10_stroke 28 = .ok (.aload_n 0, 1) := by decide +kernel
theorem dX10_stroke_29 : decode cX10_stroke 29 = .ok (.invokevirtual 221, 3) := by decide +kernel
theorem dX10_stroke_32 : decode cX10_stroke 32 = .ok (.iload_n 2, 1) := by decide +kernel
theorem dX10_stroke_33 : decode cX10_stroke 33 = .ok (.tableswitch 81 4 9 #[39, 50, 56, 62, 68, 75], 39) := by decide +kernel
theorem dX10_stroke_72 : decode cX10_stroke 72 = .ok (.aload_n 0, 1) := by decide +kernel
theorem dX10_stroke_73 : decode cX10_stroke 73 = .ok (.getfield 13, 3) := by decide +kernel
theorem dX10_stroke_76 : decode cX10_stroke 76 = .ok (.sipush 183, 3) := by decide +kernel
theorem dX10_stroke_79 : decode cX10_stroke 79 = .ok (.iload_n 1, 1) := by decide +kernel
theorem dX10_stroke_80 : decode cX10_stroke 80 = .ok (.iadd, 1) := by decide +kernel
theorem dX10_stroke_81 : decode cX10_stroke 81 = .ok (.iaload, 1) := by decide +kernel
theorem dX10_stroke_82 : decode cX10_stroke 82 = .ok (.ireturn, 1) := by decide +kernel
theorem dX10_stroke_83 : decode cX10_stroke 83 = .ok (.aload_n 0, 1) := by decide +kernel
theorem dX10_stroke_84 : decode cX10_stroke 84 = .ok (.iload_n 1, 1) := by decide +kernel
theorem dX10_stroke_85 : decode cX10_stroke 85 = .ok (.invokevirtual 250, 3) := by decide +kernel
theorem dX10_stroke_88 : decode cX10_stroke 88 = .ok (.ireturn, 1) := by decide +kernel
theorem dX10_stroke_89 : decode cX10_stroke 89 = .ok (.aload_n 0, 1) := by decide +kernel
theorem dX10_stroke_90 : decode cX10_stroke 90 = .ok (.iload_n 1, 1) := by decide +kernel
theorem dX10_stroke_91 : decode cX10_stroke 91 = .ok (.invokevirtual 245, 3) := by decide +kernel
theorem dX10_stroke_94 : decode cX10_stroke 94 = .ok (.ireturn, 1) := by decide +kernel
theorem dX10_stroke_95 : decode cX10_stroke 95 = .ok (.aload_n 0, 1) := by decide +kernel
theorem dX10_stroke_96 : decode cX10_stroke 96 = .ok (.iload_n 1, 1) := by decide +kernel
theorem dX10_stroke_97 : decode cX10_stroke 97 = .ok (.invokevirtual 253, 3) := by decide +kernel
theorem dX10_stroke_100 : decode cX10_stroke 100 = .ok (.ireturn, 1) := by decide +kernel
theorem dX10_stroke_101 : decode cX10_stroke 101 = .ok (.aload_n 0, 1) := by decide +kernel
theorem dX10_stroke_102 : decode cX10_stroke 102 = .ok (.getfield 30, 3) := by decide +kernel
theorem dX10_stroke_105 : decode cX10_stroke 105 = .ok (.iload_n 1, 1) := by decide +kernel
theorem dX10_stroke_106 : decode cX10_stroke 106 = .ok (.iaload, 1) := by decide +kernel
theorem dX10_stroke_107 : decode cX10_stroke 107 = .ok (.ireturn, 1) := by decide +kernel
theorem dX10_stroke_108 : decode cX10_stroke 108 = .ok (.aload_n 0, 1) := by decide +kernel
theorem dX10_stroke_109 : decode cX10_stroke 109 = .ok (.iload_n 1, 1) := by decide +kernel
theorem dX10_stroke_110 : decode cX10_stroke 110 = .ok (.invokevirtual 256, 3) := by decide +kernel
theorem dX10_stroke_113 : decode cX10_stroke 113 = .ok (.ireturn, 1) := by decide +kernel
theorem dX10_stroke_114 : decode cX10_stroke 114 = .ok (.aload_n 0, 1) := by decide +kernel
theorem dX10_stroke_115 : decode cX10_stroke 115 = .ok (.getfield 13, 3) := by decide +kernel
theorem dX10_stroke_118 : decode cX10_stroke 118 = .ok (.bipush 7, 2) := by decide +kernel
theorem dX10_stroke_120 : decode cX10_stroke 120 = .ok (.iconst 4, 1) := by decide +kernel
theorem dX10_stroke_121 : decode cX10_stroke 121 = .ok (.iload_n 1, 1) := by decide +kernel
theorem dX10_stroke_122 : decode cX10_stroke 122 = .ok (.imul, 1) := by decide +kernel
theorem dX10_stroke_123 : decode cX10_stroke 123 = .ok (.iadd, 1) := by decide +kernel
theorem dX10_stroke_124 : decode cX10_stroke 124 = .ok (.iload_n 2, 1) := by decide +kernel
theorem dX10_stroke_125 : decode cX10_stroke 125 = .ok (.iadd, 1) := by decide +kernel
theorem dX10_stroke_126 : decode cX10_stroke 126 = .ok (.iaload, 1) := by decide +kernel
theorem dX10_stroke_127 : decode cX10_stroke 127 = .ok (.ireturn, 1) := by decide +kernel
theorem dX10_crossing_0 : decode cX10_crossing 0 = .ok (.aload_n 0, 1) := by decide +kernel
theorem dX10_crossing_1 : decode cX10_crossing 1 = .ok (.iconst 0, 1) := by decide +kernel
theorem dX10_crossing_2 : decode cX10_crossing 2 = .ok (.putfield 1, 3) := by decide +kernel
theorem dX10_crossing_5 : decode cX10_crossing 5 = .ok (.aload_n 0, 1) := by decide +kernel
theorem dX10_crossing_6 : decode cX10_crossing 6 = .ok (.iload_n 1, 1) := by decide +kernel
theorem dX10_crossing_7 : decode cX10_crossing 7 = .ok (.invokevirtual 229, 3) := by decide +kernel
theorem dX10_crossing_10 : decode cX10_crossing 10 = .ok (.ifCond .eq 25, 3) := by decide +kernel
theorem dX10_crossing_13 : decode cX10_crossing 13 = .ok (.aload_n 0, 1) := by decide +kernel
theorem dX10_crossing_14 : decode cX10_crossing 14 = .ok (.iload_n 2, 1) := by decide +kernel
theorem dX10_crossing_15 : decode cX10_crossing 15 = .ok (.invokevirtual 229, 3) := by decide +kernel
theorem dX10_crossing_18 : decode cX10_crossing 18 = .ok (.ifCond .eq 17, 3) := by decide +kernel
theorem dX10_crossing_21 : decode cX10_crossing 21 = .ok (.iload_n 1, 1) := by decide +kernel
theorem dX10_crossing_22 : decode cX10_crossing 22 = .ok (.iload_n 2, 1) := by decide +kernel
theorem dX10_crossing_23 : decode cX10_crossing 23 = .ok (.if_icmp .eq 12, 3) := by decide +kernel
theorem dX10_crossing_26 : decode cX10_crossing 26 = .ok (.aload_n 0, 1) := by decide +kernel
theorem dX10_crossing_27 : decode cX10_crossing 27 = .ok (.iload_n 1, 1) := by decide +kernel
theorem dX10_crossing_28 : decode cX10_crossing 28 = .ok (.iload_n 2, 1) := by decide +kernel
theorem dX10_crossing_29 : decode cX10_crossing 29 = .ok (.invokevirtual 209, 3) := by decide +kernel
theorem dX10_crossing_32 : decode cX10_crossing 32 = .ok (.goto 5, 3) := by decide +kernel
theorem dX10_crossing_35 : decode cX10_crossing 35 = .ok (.bipush (-2), 2) := by decide +kernel
theorem dX10_crossing_37 : decode cX10_crossing 37 = .ok (.ireturn, 1) := by decide +kernel
theorem dX10_ring_0 : decode cX10_ring 0 = .ok (.aload_n 0, 1) := by decide +kernel
theorem dX10_ring_1 : decode cX10_ring 1 = .ok (.iconst 0, 1) := by decide +kernel
theorem dX10_ring_2 : decode cX10_ring 2 = .ok (.putfield 1, 3) := by decide +kernel
theorem dX10_ring_5 : decode cX10_ring 5 = .ok (.iload_n 1, 1) := by decide +kernel
theorem dX10_ring_6 : decode cX10_ring 6 = .ok (.ifCond .ge 8, 3) := by decide +kernel
theorem dX10_ring_9 : decode cX10_ring 9 = .ok (.bipush (-3), 2) := by decide +kernel
theorem dX10_ring_11 : decode cX10_ring 11 = .ok (.goto 21, 3) := by decide +kernel
theorem dX10_ring_14 : decode cX10_ring 14 = .ok (.iload_n 1, 1) := by decide +kernel
theorem dX10_ring_15 : decode cX10_ring 15 = .ok (.aload_n 0, 1) := by decide +kernel
theorem dX10_ring_16 : decode cX10_ring 16 = .ok (.getfield 218, 3) := by decide +kernel
theorem dX10_ring_19 : decode cX10_ring 19 = .ok (.if_icmp .ge 12, 3) := by decide +kernel
theorem dX10_ring_22 : decode cX10_ring 22 = .ok (.aload_n 0, 1) := by decide +kernel
theorem dX10_ring_23 : decode cX10_ring 23 = .ok (.getfield 36, 3) := by decide +kernel
theorem dX10_ring_26 : decode cX10_ring 26 = .ok (.iload_n 1, 1) := by decide +kernel
theorem dX10_ring_27 : decode cX10_ring 27 = .ok (.iaload, 1) := by decide +kernel
theorem dX10_ring_28 : decode cX10_ring 28 = .ok (.goto 4, 3) := by decide +kernel
theorem dX10_ring_31 : decode cX10_ring 31 = .ok (.iconst (-1), 1) := by decide +kernel
theorem dX10_ring_32 : decode cX10_ring 32 = .ok (.ireturn, 1) := by decide +kernel
theorem dX10_order_0 : decode cX10_order 0 = .ok (.aload_n 0, 1) := by decide +kernel
theorem dX10_order_1 : decode cX10_order 1 = .ok (.iconst 0, 1) := by decide +kernel
theorem dX10_order_2 : decode cX10_order 2 = .ok (.putfield 1, 3) := by decide +kernel
theorem dX10_order_5 : decode cX10_order 5 = .ok (.iload_n 1, 1) := by decide +kernel
theorem dX10_order_6 : decode cX10_order 6 = .ok (.ifCond .ge 6, 3) := by decide +kernel
theorem dX10_order_9 : decode cX10_order 9 = .ok (.bipush (-3), 2) := by decide +kernel
theorem dX10_order_11 : decode cX10_order 11 = .ok (.ireturn, 1) := by decide +kernel
theorem dX10_order_12 : decode cX10_order 12 = .ok (.aload_n 0, 1) := by decide +kernel
theorem dX10_order_13 : decode cX10_order 13 = .ok (.invokevirtual 169, 3) := by decide +kernel
theorem dX10_order_16 : decode cX10_order 16 = .ok (.iconst 0, 1) := by decide +kernel
theorem dX10_order_17 : decode cX10_order 17 = .ok (.istore_n 2, 1) := by decide +kernel
theorem dX10_order_18 : decode cX10_order 18 = .ok (.iconst 0, 1) := by decide +kernel
theorem dX10_order_19 : decode cX10_order 19 = .ok (.istore_n 3, 1) := by decide +kernel
theorem dX10_order_20 : decode cX10_order 20 = .ok (.iload_n 3, 1) := by decide +kernel
theorem dX10_order_21 : decode cX10_order 21 = .ok (.aload_n 0, 1) := by decide +kernel
theorem dX10_order_22 : decode cX10_order 22 = .ok (.getfield 13, 3) := by decide +kernel
theorem dX10_order_25 : decode cX10_order 25 = .ok (.iconst 2, 1) := by decide +kernel
theorem dX10_order_26 : decode cX10_order 26 = .ok (.iaload, 1) := by decide +kernel
theorem dX10_order_27 : decode cX10_order 27 = .ok (.if_icmp .ge 56, 3) := by decide +kernel
theorem dX10_order_30 : decode cX10_order 30 = .ok (.iconst 0, 1) := by decide +kernel
theorem dX10_order_31 : decode cX10_order 31 = .ok (.istore 4, 2) := by decide +kernel
theorem dX10_order_33 : decode cX10_order 33 = .ok (.iload_n 2, 1) := by decide +kernel
theorem dX10_order_34 : decode cX10_order 34 = .ok (.iload 4, 2) := by decide +kernel
theorem dX10_order_36 : decode cX10_order 36 = .ok (.invokestatic 178, 3) := by decide +kernel
theorem dX10_order_39 : decode cX10_order 39 = .ok (.ifCond .ne 17, 3) := by decide +kernel
theorem dX10_order_42 : decode cX10_order 42 = .ok (.aload_n 0, 1) := by decide +kernel
theorem dX10_order_43 : decode cX10_order 43 = .ok (.getfield 30, 3) := by decide +kernel
theorem dX10_order_46 : decode cX10_order 46 = .ok (.iload 4, 2) := by decide +kernel
theorem dX10_order_48 : decode cX10_order 48 = .ok (.iaload, 1) := by decide +kernel
theorem dX10_order_49 : decode cX10_order 49 = .ok (.iload_n 2, 1) := by decide +kernel
theorem dX10_order_50 : decode cX10_order 50 = .ok (.iconst (-1), 1) := by decide +kernel
theorem dX10_order_51 : decode cX10_order 51 = .ok (.ixor, 1) := by decide +kernel
theorem dX10_order_52 : decode cX10_order 52 = .ok (.iand, 1) := by decide +kernel
theorem dX10_order_53 : decode cX10_order 53 = .ok (.ifCond .eq 9, 3) := by decide +kernel
theorem dX10_order_56 : decode cX10_order 56 = .ok (.iinc 4 1, 3) := by decide +kernel
theorem dX10_order_59 : decode cX10_order 59 = .ok (.goto (-26), 3) := by decide +kernel
theorem dX10_order_62 : decode cX10_order 62 = .ok (.iload_n 3, 1) := by decide +kernel
theorem dX10_order_63 : decode cX10_order 63 = .ok (.iload_n 1, 1) := by decide +kernel
theorem dX10_order_64 : decode cX10_order 64 = .ok (.if_icmp .ne 6, 3) := by decide +kernel
theorem dX10_order_67 : decode cX10_order 67 = .ok (.iload 4, 2) := by decide +kernel
theorem dX10_order_69 : decode cX10_order 69 = .ok (.ireturn, 1) := by decide +kernel
theorem dX10_order_70 : decode cX10_order 70 = .ok (.iload_n 2, 1) := by decide +kernel
theorem dX10_order_71 : decode cX10_order 71 = .ok (.iconst 1, 1) := by decide +kernel
theorem dX10_order_72 : decode cX10_order 72 = .ok (.iload 4, 2) := by decide +kernel
theorem dX10_order_74 : decode cX10_order 74 = .ok (.ishl, 1) := by decide +kernel
theorem dX10_order_75 : decode cX10_order 75 = .ok (.ior, 1) := by decide +kernel
theorem dX10_order_76 : decode cX10_order 76 = .ok (.istore_n 2, 1) := by decide +kernel
theorem dX10_order_77 : decode cX10_order 77 = .ok (.iinc 3 1, 3) := by decide +kernel
theorem dX10_order_80 : decode cX10_order 80 = .ok (.goto (-60), 3) := by decide +kernel
theorem dX10_order_83 : decode cX10_order 83 = .ok (.iconst (-1), 1) := by decide +kernel
theorem dX10_order_84 : decode cX10_order 84 = .ok (.ireturn, 1) := by decide +kernel
theorem dX10_ordersNow_0 : decode cX10_ordersNow 0 = .ok (.iconst 1, 1) := by decide +kernel
theorem dX10_ordersNow_1 : decode cX10_ordersNow 1 = .ok (.aload_n 0, 1) := by decide +kernel
theorem dX10_ordersNow_2 : decode cX10_ordersNow 2 = .ok (.getfield 13, 3) := by decide +kernel
theorem dX10_ordersNow_5 : decode cX10_ordersNow 5 = .ok (.iconst 2, 1) := by decide +kernel
theorem dX10_ordersNow_6 : decode cX10_ordersNow 6 = .ok (.iaload, 1) := by decide +kernel
theorem dX10_ordersNow_7 : decode cX10_ordersNow 7 = .ok (.ishl, 1) := by decide +kernel
theorem dX10_ordersNow_8 : decode cX10_ordersNow 8 = .ok (.iconst 1, 1) := by decide +kernel
theorem dX10_ordersNow_9 : decode cX10_ordersNow 9 = .ok (.isub, 1) := by decide +kernel
theorem dX10_ordersNow_10 : decode cX10_ordersNow 10 = .ok (.istore_n 1, 1) := by decide +kernel
theorem dX10_ordersNow_11 : decode cX10_ordersNow 11 = .ok (.iconst 0, 1) := by decide +kernel
theorem dX10_ordersNow_12 : decode cX10_ordersNow 12 = .ok (.istore_n 2, 1) := by decide +kernel
theorem dX10_ordersNow_13 : decode cX10_ordersNow 13 = .ok (.iload_n 2, 1) := by decide +kernel
theorem dX10_ordersNow_14 : decode cX10_ordersNow 14 = .ok (.iload_n 1, 1) := by decide +kernel
theorem dX10_ordersNow_15 : decode cX10_ordersNow 15 = .ok (.if_icmp .gt 90, 3) := by decide +kernel
theorem dX10_ordersNow_18 : decode cX10_ordersNow 18 = .ok (.aload_n 0, 1) := by decide +kernel
theorem dX10_ordersNow_19 : decode cX10_ordersNow 19 = .ok (.getfield 42, 3) := by decide +kernel
theorem dX10_ordersNow_22 : decode cX10_ordersNow 22 = .ok (.iload_n 2, 1) := by decide +kernel
theorem dX10_ordersNow_23 : decode cX10_ordersNow 23 = .ok (.iload_n 2, 1) := by decide +kernel
theorem dX10_ordersNow_24 : decode cX10_ordersNow 24 = .ok (.ifCond .ne 7, 3) := by decide +kernel
theorem dX10_ordersNow_27 : decode cX10_ordersNow 27 = .ok (.lconst 1, 1) := by decide +kernel
theorem dX10_ordersNow_28 : decode cX10_ordersNow 28 = .ok (.goto 4, 3) := by decide +kernel
theorem dX10_ordersNow_31 : decode cX10_ordersNow 31 = .ok (.lconst 0, 1) := by decide +kernel
theorem dX10_ordersNow_32 : decode cX10_ordersNow 32 = .ok (.lastore, 1) := by decide +kernel
theorem dX10_ordersNow_33 : decode cX10_ordersNow 33 = .ok (.iconst 0, 1) := by decide +kernel
theorem dX10_ordersNow_34 : decode cX10_ordersNow 34 = .ok (.istore_n 3, 1) := by decide +kernel
theorem dX10_ordersNow_35 : decode cX10_ordersNow 35 = .ok (.iload_n 3, 1) := by decide +kernel
theorem dX10_ordersNow_36 : decode cX10_ordersNow 36 = .ok (.aload_n 0, 1) := by decide +kernel
theorem dX10_ordersNow_37 : decode cX10_ordersNow 37 = .ok (.getfield 13, 3) := by decide +kernel
theorem dX10_ordersNow_40 : decode cX10_ordersNow 40 = .ok (.iconst 2, 1) := by decide +kernel
theorem dX10_ordersNow_41 : decode cX10_ordersNow 41 = .ok (.iaload, 1) := by decide +kernel
theorem dX10_ordersNow_42 : decode cX10_ordersNow 42 = .ok (.if_icmp .ge 57, 3) := by decide +kernel
theorem dX10_ordersNow_45 : decode cX10_ordersNow 45 = .ok (.iload_n 2, 1) := by decide +kernel
theorem dX10_ordersNow_46 : decode cX10_ordersNow 46 = .ok (.iload_n 3, 1) := by decide +kernel
theorem dX10_ordersNow_47 : decode cX10_ordersNow 47 = .ok (.invokestatic 178, 3) := by decide +kernel
theorem dX10_ordersNow_50 : decode cX10_ordersNow 50 = .ok (.ifCond .eq 43, 3) := by decide +kernel
theorem dX10_ordersNow_53 : decode cX10_ordersNow 53 = .ok (.aload_n 0, 1) := by decide +kernel
theorem dX10_ordersNow_54 : decode cX10_ordersNow 54 = .ok (.getfield 30, 3) := by decide +kernel
theorem dX10_ordersNow_57 : decode cX10_ordersNow 57 = .ok (.iload_n 3, 1) := by decide +kernel
theorem dX10_ordersNow_58 : decode cX10_ordersNow 58 = .ok (.iaload, 1) := by decide +kernel
theorem dX10_ordersNow_59 : decode cX10_ordersNow 59 = .ok (.iload_n 2, 1) := by decide +kernel
theorem dX10_ordersNow_60 : decode cX10_ordersNow 60 = .ok (.iconst 1, 1) := by decide +kernel
theorem dX10_ordersNow_61 : decode cX10_ordersNow 61 = .ok (.iload_n 3, 1) := by decide +kernel
theorem dX10_ordersNow_62 : decode cX10_ordersNow 62 = .ok (.ishl, 1) := by decide +kernel
theorem dX10_ordersNow_63 : decode cX10_ordersNow 63 = .ok (.iconst (-1), 1) := by decide +kernel
theorem dX10_ordersNow_64 : decode cX10_ordersNow 64 = .ok (.ixor, 1) := by decide +kernel
theorem dX10_ordersNow_65 : decode cX10_ordersNow 65 = .ok (.iand, 1) := by decide +kernel
theorem dX10_ordersNow_66 : decode cX10_ordersNow 66 = .ok (.iconst (-1), 1) := by decide +kernel
theorem dX10_ordersNow_67 : decode cX10_ordersNow 67 = .ok (.ixor, 1) := by decide +kernel
theorem dX10_ordersNow_68 : decode cX10_ordersNow 68 = .ok (.iand, 1) := by decide +kernel
theorem dX10_ordersNow_69 : decode cX10_ordersNow 69 = .ok (.ifCond .ne 24, 3) := by decide +kernel
theorem dX10_ordersNow_72 : decode cX10_ordersNow 72 = .ok (.aload_n 0, 1) := by decide +kernel
theorem dX10_ordersNow_73 : decode cX10_ordersNow 73 = .ok (.getfield 42, 3) := by decide +kernel
theorem dX10_ordersNow_76 : decode cX10_ordersNow 76 = .ok (.iload_n 2, 1) := by decide +kernel
theorem dX10_ordersNow_77 : decode cX10_ordersNow 77 = .ok (.dup2, 1) := by decide +kernel
theorem dX10_ordersNow_78 : decode cX10_ordersNow 78 = .ok (.laload, 1) := by decide +kernel
theorem dX10_ordersNow_79 : decode cX10_ordersNow 79 = .ok (.aload_n 0, 1) := by decide +kernel
theorem dX10_ordersNow_80 : decode cX10_ordersNow 80 = .ok (.getfield 42, 3) := by decide +kernel
theorem dX10_ordersNow_83 : decode cX10_ordersNow 83 = .ok (.iload_n 2, 1) := by decide +kernel
theorem dX10_ordersNow_84 : decode cX10_ordersNow 84 = .ok (.iconst 1, 1) := by decide +kernel
theorem dX10_ordersNow_85 : decode cX10_ordersNow 85 = .ok (.iload_n 3, 1) := by decide +kernel
theorem dX10_ordersNow_86 : decode cX10_ordersNow 86 = .ok (.ishl, 1) := by decide +kernel
theorem dX10_ordersNow_87 : decode cX10_ordersNow 87 = .ok (.iconst (-1), 1) := by decide +kernel
theorem dX10_ordersNow_88 : decode cX10_ordersNow 88 = .ok (.ixor, 1) := by decide +kernel
theorem dX10_ordersNow_89 : decode cX10_ordersNow 89 = .ok (.iand, 1) := by decide +kernel
theorem dX10_ordersNow_90 : decode cX10_ordersNow 90 = .ok (.laload, 1) := by decide +kernel
theorem dX10_ordersNow_91 : decode cX10_ordersNow 91 = .ok (.ladd, 1) := by decide +kernel
theorem dX10_ordersNow_92 : decode cX10_ordersNow 92 = .ok (.lastore, 1) := by decide +kernel
theorem dX10_ordersNow_93 : decode cX10_ordersNow 93 = .ok (.iinc 3 1, 3) := by decide +kernel
theorem dX10_ordersNow_96 : decode cX10_ordersNow 96 = .ok (.goto (-61), 3) := by decide +kernel
