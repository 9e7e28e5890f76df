theorem dX5_init_0 : decode cX5_init 0 = .ok (.aload_n 0, 1) := by decide +kernel
theorem dX5_init_1 : decode cX5_init 1 = .ok (.invokespecial 1, 3) := by decide +kernel
theorem dX5_init_4 : decode cX5_init 4 = .ok (.aload_n 0, 1) := by decide +kernel
theorem dX5_init_5 : decode cX5_init 5 = .ok (.iconst 1, 1) := by decide +kernel
theorem dX5_init_6 : decode cX5_init 6 = .ok (.putfield 7, 3) := by decide +kernel
theorem dX5_init_9 : decode cX5_init 9 = .ok (.aload_n 0, 1) := by decide +kernel
theorem dX5_init_10 : decode cX5_init 10 = .ok (.sipush 320, 3) := by decide +kernel
theorem dX5_init_13 : decode cX5_init 13 = .ok (.newarray .int, 2) := by decide +kernel
theorem dX5_init_15 : decode cX5_init 15 = .ok (.putfield 13, 3) := by decide +kernel
theorem dX5_init_18 : decode cX5_init 18 = .ok (.aload_n 0, 1) := by decide +kernel
theorem dX5_init_19 : decode cX5_init 19 = .ok (.bipush 6, 2) := by decide +kernel
theorem dX5_init_21 : decode cX5_init 21 = .ok (.newarray .int, 2) := by decide +kernel
theorem dX5_init_23 : decode cX5_init 23 = .ok (.putfield 17, 3) := by decide +kernel
theorem dX5_init_26 : decode cX5_init 26 = .ok (.aload_n 0, 1) := by decide +kernel
theorem dX5_init_27 : decode cX5_init 27 = .ok (.bipush 6, 2) := by decide +kernel
theorem dX5_init_29 : decode cX5_init 29 = .ok (.newarray .int, 2) := by decide +kernel
theorem dX5_init_31 : decode cX5_init 31 = .ok (.putfield 20, 3) := by decide +kernel
theorem dX5_init_34 : decode cX5_init 34 = .ok (.aload_n 0, 1) := by decide +kernel
theorem dX5_init_35 : decode cX5_init 35 = .ok (.bipush 72, 2) := by decide +kernel
theorem dX5_init_37 : decode cX5_init 37 = .ok (.newarray .int, 2) := by decide +kernel
theorem dX5_init_39 : decode cX5_init 39 = .ok (.putfield 23, 3) := by decide +kernel
theorem dX5_init_42 : decode cX5_init 42 = .ok (.aload_n 0, 1) := by decide +kernel
theorem dX5_init_43 : decode cX5_init 43 = .ok (.bipush 72, 2) := by decide +kernel
theorem dX5_init_45 : decode cX5_init 45 = .ok (.newarray .int, 2) := by decide +kernel
theorem dX5_init_47 : decode cX5_init 47 = .ok (.putfield 26, 3) := by decide +kernel
theorem dX5_init_50 : decode cX5_init 50 = .ok (.aload_n 0, 1) := by decide +kernel
theorem dX5_init_51 : decode cX5_init 51 = .ok (.bipush 72, 2) := by decide +kernel
theorem dX5_init_53 : decode cX5_init 53 = .ok (.newarray .int, 2) := by decide +kernel
theorem dX5_init_55 : decode cX5_init 55 = .ok (.putfield 29, 3) := by decide +kernel
theorem dX5_init_58 : decode cX5_init 58 = .ok (.aload_n 0, 1) := by decide +kernel
theorem dX5_init_59 : decode cX5_init 59 = .ok (.bipush 72, 2) := by decide +kernel
theorem dX5_init_61 : decode cX5_init 61 = .ok (.newarray .int, 2) := by decide +kernel
theorem dX5_init_63 : decode cX5_init 63 = .ok (.putfield 32, 3) := by decide +kernel
theorem dX5_init_66 : decode cX5_init 66 = .ok (.aload_n 0, 1) := by decide +kernel
theorem dX5_init_67 : decode cX5_init 67 = .ok (.bipush 72, 2) := by decide +kernel
theorem dX5_init_69 : decode cX5_init 69 = .ok (.newarray .int, 2) := by decide +kernel
theorem dX5_init_71 : decode cX5_init 71 = .ok (.putfield 35, 3) := by decide +kernel
theorem dX5_init_74 : decode cX5_init 74 = .ok (.aload_n 0, 1) := by decide +kernel
theorem dX5_init_75 : decode cX5_init 75 = .ok (.sipush 1920, 3) := by decide +kernel
theorem dX5_init_78 : decode cX5_init 78 = .ok (.newarray .int, 2) := by decide +kernel
theorem dX5_init_80 : decode cX5_init 80 = .ok (.putfield 38, 3) := by decide +kernel
theorem dX5_init_83 : decode cX5_init 83 = .ok (.aload_n 0, 1) := by decide +kernel
theorem dX5_init_84 : decode cX5_init 84 = .ok (.sipush 600, 3) := by decide +kernel
theorem dX5_init_87 : decode cX5_init 87 = .ok (.newarray .boolean, 2) := by decide +kernel
theorem dX5_init_89 : decode cX5_init 89 = .ok (.putfield 41, 3) := by decide +kernel
theorem dX5_init_92 : decode cX5_init 92 = .ok (.aload_n 0, 1) := by decide +kernel
theorem dX5_init_93 : decode cX5_init 93 = .ok (.bipush 6, 2) := by decide +kernel
theorem dX5_init_95 : decode cX5_init 95 = .ok (.newarray .boolean, 2) := by decide +kernel
theorem dX5_init_97 : decode cX5_init 97 = .ok (.putfield 45, 3) := by decide +kernel
theorem dX5_init_100 : decode cX5_init 100 = .ok (.aload_n 0, 1) := by decide +kernel
theorem dX5_init_101 : decode cX5_init 101 = .ok (.bipush 100, 2) := by decide +kernel
theorem dX5_init_103 : decode cX5_init 103 = .ok (.putfield 48, 3) := by decide +kernel
theorem dX5_init_106 : decode cX5_init 106 = .ok (.aload_n 0, 1) := by decide +kernel
theorem dX5_init_107 : decode cX5_init 107 = .ok (.bipush 12, 2) := by decide +kernel
theorem dX5_init_109 : decode cX5_init 109 = .ok (.newarray .int, 2) := by decide +kernel
theorem dX5_init_111 : decode cX5_init 111 = .ok (.putfield 51, 3) := by decide +kernel
theorem dX5_init_114 : decode cX5_init 114 = .ok (.aload_n 0, 1) := by decide +kernel
theorem dX5_init_115 : decode cX5_init 115 = .ok (.bipush 12, 2) := by decide +kernel
theorem dX5_init_117 : decode cX5_init 117 = .ok (.newarray .int, 2) := by decide +kernel
theorem dX5_init_119 : decode cX5_init 119 = .ok (.putfield 54, 3) := by decide +kernel
theorem dX5_init_122 : decode cX5_init 122 = .ok (.aload_n 0, 1) := by decide +kernel
theorem dX5_init_123 : decode cX5_init 123 = .ok (.bipush 12, 2) := by decide +kernel
theorem dX5_init_125 : decode cX5_init 125 = .ok (.newarray .int, 2) := by decide +kernel
theorem dX5_init_127 : decode cX5_init 127 = .ok (.putfield 57, 3) := by decide +kernel
theorem dX5_init_130 : decode cX5_init 130 = .ok (.aload_n 0, 1) := by decide +kernel
theorem dX5_init_131 : decode cX5_init 131 = .ok (.bipush 12, 2) := by decide +kernel
theorem dX5_init_133 : decode cX5_init 133 = .ok (.newarray .int, 2) := by decide +kernel
theorem dX5_init_135 : decode cX5_init 135 = .ok (.putfield 60, 3) := by decide +kernel
theorem dX5_init_138 : decode cX5_init 138 = .ok (.aload_n 0, 1) := by decide +kernel
theorem dX5_init_139 : decode cX5_init 139 = .ok (.bipush 48, 2) := by decide +kernel
theorem dX5_init_141 : decode cX5_init 141 = .ok (.newarray .int, 2) := by decide +kernel
theorem dX5_init_143 : decode cX5_init 143 = .ok (.putfield 63, 3) := by decide +kernel
theorem dX5_init_146 : decode cX5_init 146 = .ok (.aload_n 0, 1) := by decide +kernel
theorem dX5_init_147 : decode cX5_init 147 = .ok (.bipush 8, 2) := by decide +kernel
theorem dX5_init_149 : decode cX5_init 149 = .ok (.newarray .int, 2) := by decide +kernel
theorem dX5_init_151 : decode cX5_init 151 = .ok (.dup, 1) := by decide +kernel
theorem dX5_init_152 : decode cX5_init 152 = .ok (.iconst 0, 1) := by decide +kernel
theorem dX5_init_153 : decode cX5_init 153 = .ok (.bipush (-9), 2) := by decide +kernel
theorem dX5_init_155 : decode cX5_init 155 = .ok (.iastore, 1) := by decide +kernel
theorem dX5_init_156 : decode cX5_init 156 = .ok (.dup, 1) := by decide +kernel
theorem dX5_init_157 : decode cX5_init 157 = .ok (.iconst 1, 1) := by decide +kernel
theorem dX5_init_158 : decode cX5_init 158 = .ok (.bipush (-9), 2) := by decide +kernel
theorem dX5_init_160 : decode cX5_init 160 = .ok (.iastore, 1) := by decide +kernel
theorem dX5_init_161 : decode cX5_init 161 = .ok (.dup, 1) := by decide +kernel
theorem dX5_init_162 : decode cX5_init 162 = .ok (.iconst 2, 1) := by decide +kernel
theorem dX5_init_163 : decode cX5_init 163 = .ok (.bipush (-9), 2) := by decide +kernel
theorem dX5_init_165 : decode cX5_init 165 = .ok (.iastore, 1) := by decide +kernel
theorem dX5_init_166 : decode cX5_init 166 = .ok (.dup, 1) := by decide +kernel
theorem dX5_init_167 : decode cX5_init 167 = .ok (.iconst 3, 1) := by decide +kernel
theorem dX5_init_168 : decode cX5_init 168 = .ok (.bipush (-9), 2) := by decide +kernel
theorem dX5_init_170 : decode cX5_init 170 = .ok (.iastore, 1) := by decide +kernel
theorem dX5_init_171 : decode cX5_init 171 = .ok (.dup, 1) := by decide +kernel
theorem dX5_init_172 : decode cX5_init 172 = .ok (.iconst 4, 1) := by decide +kernel
theorem dX5_init_173 : decode cX5_init 173 = .ok (.bipush (-9), 2) := by decide +kernel
theorem dX5_init_175 : decode cX5_init 175 = .ok (.iastore, 1) := by decide +kernel
theorem dX5_init_176 : decode cX5_init 176 = .ok (.dup, 1) := by decide +kernel
theorem dX5_init_177 : decode cX5_init 177 = .ok (.iconst 5, 1) := by decide +kernel
theorem dX5_init_178 : decode cX5_init 178 = .ok (.bipush (-9), 2) := by decide +kernel
theorem dX5_init_180 : decode cX5_init 180 = .ok (.iastore, 1) := by decide +kernel
theorem dX5_init_181 : decode cX5_init 181 = .ok (.dup, 1) := by decide +kernel
theorem dX5_init_182 : decode cX5_init 182 = .ok (.bipush 6, 2) := by decide +kernel
theorem dX5_init_184 : decode cX5_init 184 = .ok (.bipush (-9), 2) := by decide +kernel
theorem dX5_init_186 : decode cX5_init 186 = .ok (.iastore, 1) := by decide +kernel
theorem dX5_init_187 : decode cX5_init 187 = .ok (.dup, 1) := by decide +kernel
theorem dX5_init_188 : decode cX5_init 188 = .ok (.bipush 7, 2) := by decide +kernel
theorem dX5_init_190 : decode cX5_init 190 = .ok (.bipush (-9), 2) := by decide +kernel
theorem dX5_init_192 : decode cX5_init 192 = .ok (.iastore, 1) := by decide +kernel
theorem dX5_init_193 : decode cX5_init 193 = .ok (.putfield 66, 3) := by decide +kernel
theorem dX5_init_196 : decode cX5_init 196 = .ok (.aload_n 0, 1) := by decide +kernel
theorem dX5_init_197 : decode cX5_init 197 = .ok (.bipush 8, 2) := by decide +kernel
theorem dX5_init_199 : decode cX5_init 199 = .ok (.newarray .int, 2) := by decide +kernel
theorem dX5_init_201 : decode cX5_init 201 = .ok (.putfield 69, 3) := by decide +kernel
theorem dX5_init_204 : decode cX5_init 204 = .ok (.aload_n 0, 1) := by decide +kernel
theorem dX5_init_205 : decode cX5_init 205 = .ok (.bipush 8, 2) := by decide +kernel
theorem dX5_init_207 : decode cX5_init 207 = .ok (.newarray .int, 2) := by decide +kernel
theorem dX5_init_209 : decode cX5_init 209 = .ok (.putfield 72, 3) := by decide +kernel
theorem dX5_init_212 : decode cX5_init 212 = .ok (.aload_n 0, 1) := by decide +kernel
theorem dX5_init_213 : decode cX5_init 213 = .ok (.bipush 6, 2) := by decide +kernel
theorem dX5_init_215 : decode cX5_init 215 = .ok (.newarray .int, 2) := by decide +kernel
theorem dX5_init_217 : decode cX5_init 217 = .ok (.putfield 75, 3) := by decide +kernel
theorem dX5_init_220 : decode cX5_init 220 = .ok (.aload_n 0, 1) := by decide +kernel
theorem dX5_init_221 : decode cX5_init 221 = .ok (.bipush 64, 2) := by decide +kernel
theorem dX5_init_223 : decode cX5_init 223 = .ok (.newarray .int, 2) := by decide +kernel
theorem dX5_init_225 : decode cX5_init 225 = .ok (.putfield 78, 3) := by decide +kernel
theorem dX5_init_228 : decode cX5_init 228 = .ok (.aload_n 0, 1) := by decide +kernel
theorem dX5_init_229 : decode cX5_init 229 = .ok (.bipush 64, 2) := by decide +kernel
theorem dX5_init_231 : decode cX5_init 231 = .ok (.newarray .int, 2) := by decide +kernel
theorem dX5_init_233 : decode cX5_init 233 = .ok (.putfield 81, 3) := by decide +kernel
theorem dX5_init_236 : decode cX5_init 236 = .ok (.aload_n 0, 1) := by decide +kernel
theorem dX5_init_237 : decode cX5_init 237 = .ok (.bipush 8, 2) := by decide +kernel
theorem dX5_init_239 : decode cX5_init 239 = .ok (.newarray .int, 2) := by decide +kernel
theorem dX5_init_241 : decode cX5_init 241 = .ok (.putfield 84, 3) := by decide +kernel
theorem dX5_init_244 : decode cX5_init 244 = .ok (.aload_n 0, 1) := by decide +kernel
theorem dX5_init_245 : decode cX5_init 245 = .ok (.bipush 8, 2) := by decide +kernel
theorem dX5_init_247 : decode cX5_init 247 = .ok (.newarray .int, 2) := by decide +kernel
theorem dX5_init_249 : decode cX5_init 249 = .ok (.putfield 87, 3) := by decide +kernel
theorem dX5_init_252 : decode cX5_init 252 = .ok (.aload_n 0, 1) := by decide +kernel
theorem dX5_init_253 : decode cX5_init 253 = .ok (.iconst 0, 1) := by decide +kernel
theorem dX5_init_254 : decode cX5_init 254 = .ok (.putfield 90, 3) := by decide +kernel
theorem dX5_init_257 : decode cX5_init 257 = .ok (.return_, 1) := by decide +kernel
theorem dX5_in_0 : decode cX5_in 0 = .ok (.iload_n 0, 1) := by decide +kernel
theorem dX5_in_1 : decode cX5_in 1 = .ok (.iload_n 1, 1) := by decide +kernel
theorem dX5_in_2 : decode cX5_in 2 = .ok (.if_icmp .lt 12, 3) := by decide +kernel
theorem dX5_in_5 : decode cX5_in 5 = .ok (.iload_n 0, 1) := by decide +kernel
theorem dX5_in_6 : decode cX5_in 6 = .ok (.iload_n 2, 1) := by decide +kernel
theorem dX5_in_7 : decode cX5_in 7 = .ok (.if_icmp .gt 7, 3) := by decide +kernel
theorem dX5_in_10 : decode cX5_in 10 = .ok (.iconst 1, 1) := by decide +kernel
theorem dX5_in_11 : decode cX5_in 11 = .ok (.goto 4, 3) := by decide +kernel
theorem dX5_in_14 : decode cX5_in 14 = .ok (.iconst 0, 1) := by decide +kernel
theorem dX5_in_15 : decode cX5_in 15 = .ok (.ireturn, 1) := by decide +kernel
theorem dX5_isFace_0 : decode cX5_isFace 0 = .ok (.iload_n 0, 1) := by decide +kernel
theorem dX5_isFace_1 : decode cX5_isFace 1 = .ok (.iconst 0, 1) := by decide +kernel
theorem dX5_isFace_2 : decode cX5_isFace 2 = .ok (.bipush 7, 2) := by decide +kernel
theorem dX5_isFace_4 : decode cX5_isFace 4 = .ok (.invokestatic 93, 3) := by decide +kernel
theorem dX5_isFace_7 : decode cX5_isFace 7 = .ok (.ireturn, 1) := by decide +kernel
theorem dX5_isHouse_0 : decode cX5_isHouse 0 = .ok (.iload_n 0, 1) := by decide +kernel
theorem dX5_isHouse_1 : decode cX5_isHouse 1 = .ok (.iconst 0, 1) := by decide +kernel
theorem dX5_isHouse_2 : decode cX5_isHouse 2 = .ok (.iconst 5, 1) := by decide +kernel
theorem dX5_isHouse_3 : decode cX5_isHouse 3 = .ok (.invokestatic 93, 3) := by decide +kernel
theorem dX5_isHouse_6 : decode cX5_isHouse 6 = .ok (.ireturn, 1) := by decide +kernel
theorem dX5_isVersion_0 : decode cX5_isVersion 0 = .ok (.iload_n 1, 1) := by decide +kernel
theorem dX5_isVersion_1 : decode cX5_isVersion 1 = .ok (.iconst 0, 1) := by decide +kernel
theorem dX5_isVersion_2 : decode cX5_isVersion 2 = .ok (.aload_n 0, 1) := by decide +kernel
theorem dX5_isVersion_3 : decode cX5_isVersion 3 = .ok (.getfield 7, 3) := by decide +kernel
theorem dX5_isVersion_6 : decode cX5_isVersion 6 = .ok (.iconst 1, 1) := by decide +kernel
theorem dX5_isVersion_7 : decode cX5_isVersion 7 = .ok (.isub, 1) := by decide +kernel
theorem dX5_isVersion_8 : decode cX5_isVersion 8 = .ok (.invokestatic 93, 3) := by decide +kernel
theorem dX5_isVersion_11 : decode cX5_isVersion 11 = .ok (.ireturn, 1) := by decide +kernel
theorem dX5_version_0 : decode cX5_version 0 = .ok (.aload_n 0, 1) := by decide +kernel
theorem dX5_version_1 : decode cX5_version 1 = .ok (.getfield 7, 3) := by decide +kernel
theorem dX5_version_4 : decode cX5_version 4 = .ok (.iconst 5, 1) := by decide +kernel
theorem dX5_version_5 : decode cX5_version 5 = .ok (.if_icmp .ne 6, 3) := by decide +kernel
theorem dX5_version_8 : decode cX5_version 8 = .ok (.bipush (-3), 2) := by decide +kernel
theorem dX5_version_10 : decode cX5_version 10 = .ok (.ireturn, 1) := by decide +kernel
theorem dX5_version_11 : decode cX5_version 11 = .ok (.iconst 0, 1) := by decide +kernel
theorem dX5_version_12 : decode cX5_version 12 = .ok (.istore_n 1, 1) := by decide +kernel
theorem dX5_version_13 : decode cX5_version 13 = .ok (.iload_n 1, 1) := by decide +kernel
theorem dX5_version_14 : decode cX5_version 14 = .ok (.bipush 8, 2) := by decide +kernel
theorem dX5_version_16 : decode cX5_version 16 = .ok (.if_icmp .ge 64, 3) := by decide +kernel
theorem dX5_version_19 : decode cX5_version 19 = .ok (.iconst 0, 1) := by decide +kernel
theorem dX5_version_20 : decode cX5_version 20 = .ok (.istore_n 2, 1) := by decide +kernel
theorem dX5_version_21 : decode cX5_version 21 = .ok (.iload_n 2, 1) := by decide +kernel
theorem dX5_version_22 : decode cX5_version 22 = .ok (.bipush 8, 2) := by decide +kernel
theorem dX5_version_24 : decode cX5_version 24 = .ok (.if_icmp .ge 50, 3) := by decide +kernel
theorem dX5_version_27 : decode cX5_version 27 = .ok (.aload_n 0, 1) := by decide +kernel
theorem dX5_version_28 : decode cX5_version 28 = .ok (.getfield 13, 3) := by decide +kernel
theorem dX5_version_31 : decode cX5_version 31 = .ok (.bipush 40, 2) := by decide +kernel
theorem dX5_version_33 : decode cX5_version 33 = .ok (.iload_n 1, 1) := by decide +kernel
theorem dX5_version_34 : decode cX5_version 34 = .ok (.imul, 1) := by decide +kernel
theorem dX5_version_35 : decode cX5_version 35 = .ok (.bipush 8, 2) := by decide +kernel
theorem dX5_version_37 : decode cX5_version 37 = .ok (.aload_n 0, 1) := by decide +kernel
theorem dX5_version_38 : decode cX5_version 38 = .ok (.getfield 7, 3) := by decide +kernel
theorem dX5_version_41 : decode cX5_version 41 = .ok (.imul, 1) := by decide +kernel
theorem dX5_version_42 : decode cX5_version 42 = .ok (.iadd, 1) := by decide +kernel
theorem dX5_version_43 : decode cX5_version 43 = .ok (.iload_n 2, 1) := by decide +kernel
theorem dX5_version_44 : decode cX5_version 44 = .ok (.iadd, 1) := by decide +kernel
theorem dX5_version_45 : decode cX5_version 45 = .ok (.aload_n 0, 1) := by decide +kernel
theorem dX5_version_46 : decode cX5_version 46 = .ok (.getfield 13, 3) := by decide +kernel
theorem dX5_version_49 : decode cX5_version 49 = .ok (.bipush 40, 2) := by decide +kernel
theorem dX5_version_51 : decode cX5_version 51 = .ok (.iload_n 1, 1) := by decide +kernel
theorem dX5_version_52 : decode cX5_version 52 = .ok (.imul, 1) := by decide +kernel
theorem dX5_version_53 : decode cX5_version 53 = .ok (.bipush 8, 2) := by decide +kernel
theorem dX5_version_55 : decode cX5_version 55 = .ok (.aload_n 0, 1) := by decide +kernel
theorem dX5_version_56 : decode cX5_version 56 = .ok (.getfield 7, 3) := by decide +kernel
theorem dX5_version_59 : decode cX5_version 59 = .ok (.imul, 1) := by decide +kernel
theorem dX5_version_60 : decode cX5_version 60 = .ok (.iadd, 1) := by decide +kernel
theorem dX5_version_61 : decode cX5_version 61 = .ok (.bipush 8, 2) := by decide +kernel
theorem dX5_version_63 : decode cX5_version 63 = .ok (.isub, 1) := by decide +kernel
theorem dX5_version_64 : decode cX5_version 64 = .ok (.iload_n 2, 1) := by decide +kernel
theorem dX5_version_65 : decode cX5_version 65 = .ok (.iadd, 1) := by decide +kernel
theorem dX5_version_66 : decode cX5_version 66 = .ok (.iaload, 1) := by decide +kernel
theorem dX5_version_67 : decode cX5_version 67 = .ok (.iastore, 1) := by decide +kernel
theorem dX5_version_68 : decode cX5_version 68 = .ok (.iinc 2 1, 3) := by decide +kernel
theorem dX5_version_71 : decode cX5_version 71 = .ok (.goto (-50), 3) := by decide +kernel
theorem dX5_version_74 : decode cX5_version 74 = .ok (.iinc 1 1, 3) := by decide +kernel
theorem dX5_version_77 : decode cX5_version 77 = .ok (.goto (-64), 3) := by decide +kernel
theorem dX5_version_80 : decode cX5_version 80 = .ok (.aload_n 0, 1) := by decide +kernel
theorem dX5_version_81 : decode cX5_version 81 = .ok (.dup, 1) := by decide +kernel
theorem dX5_version_82 : decode cX5_version 82 = .ok (.getfield 7, 3) := by decide +kernel
theorem dX5_version_85 : decode cX5_version 85 = .ok (.iconst 1, 1) := by decide +kernel
theorem dX5_version_86 : decode cX5_version 86 = .ok (.iadd, 1) := by decide +kernel
theorem dX5_version_87 : decode cX5_version 87 = .ok (.putfield 7, 3) := by decide +kernel
theorem dX5_version_90 : decode cX5_version 90 = .ok (.aload_n 0, 1) := by decide +kernel
theorem dX5_version_91 : decode cX5_version 91 = .ok (.getfield 7, 3) := by decide +kernel
theorem dX5_version_94 : decode cX5_version 94 = .ok (.iconst 1, 1) := by decide +kernel
theorem dX5_version_95 : decode cX5_version 95 = .ok (.isub, 1) := by decide +kernel
theorem dX5_version_96 : decode cX5_version 96 = .ok (.ireturn, 1) := by decide +kernel
theorem dX5_shown_0 : decode cX5_shown 0 = .ok (.iload_n 0, 1) := by decide +kernel
theorem dX5_shown_1 : decode cX5_shown 1 = .ok (.ifCond .ne 8, 3) := by decide +kernel
theorem dX5_shown_4 : decode cX5_shown 4 = .ok (.bipush (-9), 2) := by decide +kernel
theorem dX5_shown_6 : decode cX5_shown 6 = .ok (.goto 6, 3) := by decide +kernel
theorem dX5_shown_9 : decode cX5_shown 9 = .ok (.iload_n 0, 1) := by decide +kernel
theorem dX5_shown_10 : decode cX5_shown 10 = .ok (.iconst 1, 1) := by decide +kernel
theorem dX5_shown_11 : decode cX5_shown 11 = .ok (.isub, 1) := by decide +kernel
theorem dX5_shown_12 : decode cX5_shown 12 = .ok (.ireturn, 1) := by decide +kernel
theorem dX5_answer_0 : decode cX5_answer 0 = .ok (.iload_n 1, 1) := by decide +kernel
theorem dX5_answer_1 : decode cX5_answer 1 = .ok (.invokestatic 97, 3) := by decide +kernel
theorem dX5_answer_4 : decode cX5_answer 4 = .ok (.ifCond .eq 39, 3) := by decide +kernel
theorem dX5_answer_7 : decode cX5_answer 7 = .ok (.aload_n 0, 1) := by decide +kernel
theorem dX5_answer_8 : decode cX5_answer 8 = .ok (.iload_n 2, 1) := by decide +kernel
theorem dX5_answer_9 : decode cX5_answer 9 = .ok (.invokevirtual 101, 3) := by decide +kernel
theorem dX5_answer_12 : decode cX5_answer 12 = .ok (.ifCond .eq 31, 3) := by decide +kernel
theorem dX5_answer_15 : decode cX5_answer 15 = .ok (.iload_n 3, 1) := by decide +kernel
theorem dX5_answer_16 : decode cX5_answer 16 = .ok (.iconst 0, 1) := by decide +kernel
theorem dX5_answer_17 : decode cX5_answer 17 = .ok (.bipush 7, 2) := by decide +kernel
theorem dX5_answer_19 : decode cX5_answer 19 = .ok (.invokestatic 93, 3) := by decide +kernel
theorem dX5_answer_22 : decode cX5_answer 22 = .ok (.ifCond .eq 21, 3) := by decide +kernel
theorem dX5_answer_25 : decode cX5_answer 25 = .ok (.iload 4, 2) := by decide +kernel
theorem dX5_answer_27 : decode cX5_answer 27 = .ok (.bipush (-9), 2) := by decide +kernel
theorem dX5_answer_29 : decode cX5_answer 29 = .ok (.if_icmp .eq 17, 3) := by decide +kernel
theorem dX5_answer_32 : decode cX5_answer 32 = .ok (.iload 4, 2) := by decide +kernel
theorem dX5_answer_34 : decode cX5_answer 34 = .ok (.iconst 0, 1) := by decide +kernel
theorem dX5_answer_35 : decode cX5_answer 35 = .ok (.bipush 9, 2) := by decide +kernel
theorem dX5_answer_37 : decode cX5_answer 37 = .ok (.invokestatic 93, 3) := by decide +kernel
theorem dX5_answer_40 : decode cX5_answer 40 = .ok (.ifCond .ne 6, 3) := by decide +kernel
theorem dX5_answer_43 : decode cX5_answer 43 = .ok (.bipush (-2), 2) := by decide +kernel
theorem dX5_answer_45 : decode cX5_answer 45 = .ok (.ireturn, 1) := by decide +kernel
theorem dX5_answer_46 : decode cX5_answer 46 = .ok (.bipush 40, 2) := by decide +kernel
theorem dX5_answer_48 : decode cX5_answer 48 = .ok (.iload_n 1, 1) := by decide +kernel
theorem dX5_answer_49 : decode cX5_answer 49 = .ok (.imul, 1) := by decide +kernel
theorem dX5_answer_50 : decode cX5_answer 50 = .ok (.bipush 8, 2) := by decide +kernel
theorem dX5_answer_52 : decode cX5_answer 52 = .ok (.iload_n 2, 1) := by decide +kernel
theorem dX5_answer_53 : decode cX5_answer 53 = .ok (.imul, 1) := by decide +kernel
theorem dX5_answer_54 : decode cX5_answer 54 = .ok (.iadd, 1) := by decide +kernel
theorem dX5_answer_55 : decode cX5_answer 55 = .ok (.iload_n 3, 1) := by decide +kernel
theorem dX5_answer_56 : decode cX5_answer 56 = .ok (.iadd, 1) := by decide +kernel
theorem dX5_answer_57 : decode cX5_answer 57 = .ok (.istore 5, 2) := by decide +kernel
theorem dX5_answer_59 : decode cX5_answer 59 = .ok (.aload_n 0, 1) := by decide +kernel
theorem dX5_answer_60 : decode cX5_answer 60 = .ok (.getfield 13, 3) := by decide +kernel
theorem dX5_answer_63 : decode cX5_answer 63 = .ok (.iload 5, 2) := by decide +kernel
theorem dX5_answer_65 : decode cX5_answer 65 = .ok (.iaload, 1) := by decide +kernel
theorem dX5_answer_66 : decode cX5_answer 66 = .ok (.istore 6, 2) := by decide +kernel
theorem dX5_answer_68 : decode cX5_answer 68 = .ok (.aload_n 0, 1) := by decide +kernel
theorem dX5_answer_69 : decode cX5_answer 69 = .ok (.getfield 13, 3) := by decide +kernel
theorem dX5_answer_72 : decode cX5_answer 72 = .ok (.iload 5, 2) := by decide +kernel
theorem dX5_answer_74 : decode cX5_answer 74 = .ok (.iload 4, 2) := by decide +kernel
theorem dX5_answer_76 : decode cX5_answer 76 = .ok (.bipush (-9), 2) := by decide +kernel
theorem dX5_answer_78 : decode cX5_answer 78 = .ok (.if_icmp .ne 7, 3) := by decide +kernel
theorem dX5_answer_81 : decode cX5_answer 81 = .ok (.iconst 0, 1) := by decide +kernel
theorem dX5_answer_82 : decode cX5_answer 82 = .ok (.goto 7, 3) := by decide +kernel
theorem dX5_answer_85 : decode cX5_answer 85 = .ok (.iload 4, 2) := by decide +kernel
theorem dX5_answer_87 : decode cX5_answer 87 = .ok (.iconst 1, 1) := by decide +kernel
theorem dX5_answer_88 : decode cX5_answer 88 = .ok (.iadd, 1) := by decide +kernel
theorem dX5_answer_89 : decode cX5_answer 89 = .ok (.iastore, 1) := by decide +kernel
theorem dX5_answer_90 : decode cX5_answer 90 = .ok (.iload 6, 2) := by decide +kernel
theorem dX5_answer_92 : decode cX5_answer 92 = .ok (.ifCond .ne 8, 3) := by decide +kernel
theorem dX5_answer_95 : decode cX5_answer 95 = .ok (.bipush (-9), 2) := by decide +kernel
theorem dX5_answer_97 : decode cX5_answer 97 = .ok (.goto 7, 3) := by decide +kernel
theorem dX5_answer_100 : decode cX5_answer 100 = .ok (.iload 6, 2) := by decide +kernel
theorem dX5_answer_102 : decode cX5_answer 102 = .ok (.iconst 1, 1) := by decide +kernel
theorem dX5_answer_103 : decode cX5_answer 103 = .ok (.isub, 1) := by decide +kernel
theorem dX5_answer_104 : decode cX5_answer 104 = .ok (.ireturn, 1) := by decide +kernel
theorem dX5_differs_0 : decode cX5_differs 0 = .ok (.iconst 0, 1) := by decide +kernel
theorem dX5_differs_1 : decode cX5_differs 1 = .ok (.istore 4, 2) := by decide +kernel
theorem dX5_differs_3 : decode cX5_differs 3 = .ok (.iconst 0, 1) := by decide +kernel
theorem dX5_differs_4 : decode cX5_differs 4 = .ok (.istore 5, 2) := by decide +kernel
theorem dX5_differs_6 : decode cX5_differs 6 = .ok (.iload 5, 2) := by decide +kernel
theorem dX5_differs_8 : decode cX5_differs 8 = .ok (.bipush 8, 2) := by decide +kernel
theorem dX5_differs_10 : decode cX5_differs 10 = .ok (.if_icmp .ge 59, 3) := by decide +kernel
theorem dX5_differs_13 : decode cX5_differs 13 = .ok (.iload 4, 2) := by decide +kernel
theorem dX5_differs_15 : decode cX5_differs 15 = .ok (.aload_n 0, 1) := by decide +kernel
theorem dX5_differs_16 : decode cX5_differs 16 = .ok (.getfield 13, 3) := by decide +kernel
theorem dX5_differs_19 : decode cX5_differs 19 = .ok (.bipush 40, 2) := by decide +kernel
theorem dX5_differs_21 : decode cX5_differs 21 = .ok (.iload_n 1, 1) := by decide +kernel
theorem dX5_differs_22 : decode cX5_differs 22 = .ok (.imul, 1) := by decide +kernel
theorem dX5_differs_23 : decode cX5_differs 23 = .ok (.bipush 8, 2) := by decide +kernel
theorem dX5_differs_25 : decode cX5_differs 25 = .ok (.iload_n 2, 1) := by decide +kernel
theorem dX5_differs_26 : decode cX5_differs 26 = .ok (.imul, 1) := by decide +kernel
theorem dX5_differs_27 : decode cX5_differs 27 = .ok (.iadd, 1) := by decide +kernel
theorem dX5_differs_28 : decode cX5_differs 28 = .ok (.iload 5, 2) := by decide +kernel
theorem dX5_differs_30 : decode cX5_differs 30 = .ok (.iadd, 1) := by decide +kernel
theorem dX5_differs_31 : decode cX5_differs 31 = .ok (.iaload, 1) := by decide +kernel
theorem dX5_differs_32 : decode cX5_differs 32 = .ok (.aload_n 0, 1) := by decide +kernel
theorem dX5_differs_33 : decode cX5_differs 33 = .ok (.getfield 13, 3) := by decide +kernel
theorem dX5_differs_36 : decode cX5_differs 36 = .ok (.bipush 40, 2) := by decide +kernel
theorem dX5_differs_38 : decode cX5_differs 38 = .ok (.iload_n 1, 1) := by decide +kernel
theorem dX5_differs_39 : decode cX5_differs 39 = .ok (.imul, 1) := by decide +kernel
theorem dX5_differs_40 : decode cX5_differs 40 = .ok (.bipush 8, 2) := by decide +kernel
theorem dX5_differs_42 : decode cX5_differs 42 = .ok (.iload_n 3, 1) := by decide +kernel
theorem dX5_differs_43 : decode cX5_differs 43 = .ok (.imul, 1) := by decide +kernel
theorem dX5_differs_44 : decode cX5_differs 44 = .ok (.iadd, 1) := by decide +kernel
theorem dX5_differs_45 : decode cX5_differs 45 = .ok (.iload 5, 2) := by decide +kernel
theorem dX5_differs_47 : decode cX5_differs 47 = .ok (.iadd, 1) := by decide +kernel
theorem dX5_differs_48 : decode cX5_differs 48 = .ok (.iaload, 1) := by decide +kernel
theorem dX5_differs_49 : decode cX5_differs 49 = .ok (.if_icmp .eq 10, 3) := by decide +kernel
theorem dX5_differs_52 : decode cX5_differs 52 = .ok (.iconst 1, 1) := by decide +kernel
theorem dX5_differs_53 : decode cX5_differs 53 = .ok (.iload 5, 2) := by decide +kernel
theorem dX5_differs_55 : decode cX5_differs 55 = .ok (.ishl, 1) := by decide +kernel
theorem dX5_differs_56 : decode cX5_differs 56 = .ok (.goto 4, 3) := by decide +kernel
theorem dX5_differs_59 : decode cX5_differs 59 = .ok (.iconst 0, 1) := by decide +kernel
theorem dX5_differs_60 : decode cX5_differs 60 = .ok (.ior, 1) := by decide +kernel
theorem dX5_differs_61 : decode cX5_differs 61 = .ok (.istore 4, 2) := by decide +kernel
theorem dX5_differs_63 : decode cX5_differs 63 = .ok (.iinc 5 1, 3) := by decide +kernel
theorem dX5_differs_66 : decode cX5_differs 66 = .ok (.goto (-60), 3) := by decide +kernel
theorem dX5_differs_69 : decode cX5_differs 69 = .ok (.iload 4, 2) := by decide +kernel
theorem dX5_differs_71 : decode cX5_differs 71 = .ok (.ireturn, 1) := by decide +kernel
theorem dX5_differ_0 : decode cX5_differ 0 = .ok (.iload_n 1, 1) := by decide +kernel
theorem dX5_differ_1 : decode cX5_differ 1 = .ok (.invokestatic 97, 3) := by decide +kernel
theorem dX5_differ_4 : decode cX5_differ 4 = .ok (.ifCond .eq 29, 3) := by decide +kernel
theorem dX5_differ_7 : decode cX5_differ 7 = .ok (.aload_n 0, 1) := by decide +kernel
theorem dX5_differ_8 : decode cX5_differ 8 = .ok (.iload_n 2, 1) := by decide +kernel
theorem dX5_differ_9 : decode cX5_differ 9 = .ok (.invokevirtual 101, 3) := by decide +kernel
theorem dX5_differ_12 : decode cX5_differ 12 = .ok (.ifCond .eq 21, 3) := by decide +kernel
theorem dX5_differ_15 : decode cX5_differ 15 = .ok (.aload_n 0, 1) := by decide +kernel
theorem dX5_differ_16 : decode cX5_differ 16 = .ok (.iload_n 3, 1) := by decide +kernel
theorem dX5_differ_17 : decode cX5_differ 17 = .ok (.invokevirtual 101, 3) := by decide +kernel
theorem dX5_differ_20 : decode cX5_differ 20 = .ok (.ifCond .eq 13, 3) := by decide +kernel
theorem dX5_differ_23 : decode cX5_differ 23 = .ok (.aload_n 0, 1) := by decide +kernel
theorem dX5_differ_24 : decode cX5_differ 24 = .ok (.iload_n 1, 1) := by decide +kernel
theorem dX5_differ_25 : decode cX5_differ 25 = .ok (.iload_n 2, 1) := by decide +kernel
theorem dX5_differ_26 : decode cX5_differ 26 = .ok (.iload_n 3, 1) := by decide +kernel
theorem dX5_differ_27 : decode cX5_differ 27 = .ok (.invokevirtual 104, 3) := by decide +kernel
theorem dX5_differ_30 : decode cX5_differ 30 = .ok (.goto 4, 3) := by decide +kernel
theorem dX5_differ_33 : decode cX5_differ 33 = .ok (.iconst (-1), 1) := by decide +kernel
theorem dX5_differ_34 : decode cX5_differ 34 = .ok (.ireturn, 1) := by decide +kernel
theorem dX5_goes_0 : decode cX5_goes 0 = .ok (.iload_n 1, 1) := by decide +kernel
theorem dX5_goes_1 : decode cX5_goes 1 = .ok (.invokestatic 108, 3) := by decide +kernel
theorem dX5_goes_4 : decode cX5_goes 4 = .ok (.ifCond .eq 11, 3) := by decide +kernel
theorem dX5_goes_7 : decode cX5_goes 7 = .ok (.aload_n 0, 1) := by decide +kernel
theorem dX5_goes_8 : decode cX5_goes 8 = .ok (.iload_n 2, 1) := by decide +kernel
theorem dX5_goes_9 : decode cX5_goes 9 = .ok (.invokevirtual 101, 3) := by decide +kernel
theorem dX5_goes_12 : decode cX5_goes 12 = .ok (.ifCond .ne 5, 3) := by decide +kernel
theorem dX5_goes_15 : decode cX5_goes 15 = .ok (.iconst (-1), 1) := by decide +kernel
theorem dX5_goes_16 : decode cX5_goes 16 = .ok (.ireturn, 1) := by decide +kernel
theorem dX5_goes_17 : decode cX5_goes 17 = .ok (.aload_n 0, 1) := by decide +kernel
theorem dX5_goes_18 : decode cX5_goes 18 = .ok (.getfield 17, 3) := by decide +kernel
theorem dX5_goes_21 : decode cX5_goes 21 = .ok (.iload_n 1, 1) := by decide +kernel
theorem dX5_goes_22 : decode cX5_goes 22 = .ok (.iaload, 1) := by decide +kernel
theorem dX5_goes_23 : decode cX5_goes 23 = .ok (.istore_n 3, 1) := by decide +kernel
theorem dX5_goes_24 : decode cX5_goes 24 = .ok (.aload_n 0, 1) := by decide +kernel
theorem dX5_goes_25 : decode cX5_goes 25 = .ok (.getfield 17, 3) := by decide +kernel
theorem dX5_goes_28 : decode cX5_goes 28 = .ok (.iload_n 1, 1) := by decide +kernel
theorem dX5_goes_29 : decode cX5_goes 29 = .ok (.iload_n 2, 1) := by decide +kernel
theorem dX5_goes_30 : decode cX5_goes 30 = .ok (.iastore, 1) := by decide +kernel
theorem dX5_goes_31 : decode cX5_goes 31 = .ok (.iload_n 3, 1) := by decide +kernel
theorem dX5_goes_32 : decode cX5_goes 32 = .ok (.ireturn, 1) := by decide +kernel
theorem dX5_isSet_0 : decode cX5_isSet 0 = .ok (.iload_n 0, 1) := by decide +kernel
theorem dX5_isSet_1 : decode cX5_isSet 1 = .ok (.iconst 0, 1) := by decide +kernel
theorem dX5_isSet_2 : decode cX5_isSet 2 = .ok (.sipush 255, 3) := by decide +kernel
theorem dX5_isSet_5 : decode cX5_isSet 5 = .ok (.invokestatic 93, 3) := by decide +kernel
theorem dX5_isSet_8 : decode cX5_isSet 8 = .ok (.ireturn, 1) := by decide +kernel
theorem dX5_isLine_0 : decode cX5_isLine 0 = .ok (.iload_n 2, 1) := by decide +kernel
theorem dX5_isLine_1 : decode cX5_isLine 1 = .ok (.iconst 0, 1) := by decide +kernel
theorem dX5_isLine_2 : decode cX5_isLine 2 = .ok (.aload_n 0, 1) := by decide +kernel
theorem dX5_isLine_3 : decode cX5_isLine 3 = .ok (.getfield 20, 3) := by decide +kernel
theorem dX5_isLine_6 : decode cX5_isLine 6 = .ok (.iload_n 1, 1) := by decide +kernel
theorem dX5_isLine_7 : decode cX5_isLine 7 = .ok (.iaload, 1) := by decide +kernel
theorem dX5_isLine_8 : decode cX5_isLine 8 = .ok (.iconst 1, 1) := by decide +kernel
theorem dX5_isLine_9 : decode cX5_isLine 9 = .ok (.isub, 1) := by decide +kernel
theorem dX5_isLine_10 : decode cX5_isLine 10 = .ok (.invokestatic 93, 3) := by decide +kernel
theorem dX5_isLine_13 : decode cX5_isLine 13 = .ok (.ireturn, 1) := by decide +kernel
theorem dX5_comes_0 : decode cX5_comes 0 = .ok (.aload_n 0, 1) := by decide +kernel
theorem dX5_comes_1 : decode cX5_comes 1 = .ok (.getfield 20, 3) := by decide +kernel
theorem dX5_comes_4 : decode cX5_comes 4 = .ok (.iload_n 1, 1) := by decide +kernel
theorem dX5_comes_5 : decode cX5_comes 5 = .ok (.iaload, 1) := by decide +kernel
theorem dX5_comes_6 : decode cX5_comes 6 = .ok (.bipush 12, 2) := by decide +kernel
theorem dX5_comes_8 : decode cX5_comes 8 = .ok (.if_icmp .ne 6, 3) := by decide +kernel
theorem dX5_comes_11 : decode cX5_comes 11 = .ok (.bipush (-3), 2) := by decide +kernel
theorem dX5_comes_13 : decode cX5_comes 13 = .ok (.ireturn, 1) := by decide +kernel
theorem dX5_comes_14 : decode cX5_comes 14 = .ok (.bipush 12, 2) := by decide +kernel
theorem dX5_comes_16 : decode cX5_comes 16 = .ok (.iload_n 1, 1) := by decide +kernel
theorem dX5_comes_17 : decode cX5_comes 17 = .ok (.imul, 1) := by decide +kernel
theorem dX5_comes_18 : decode cX5_comes 18 = .ok (.aload_n 0, 1) := by decide +kernel
theorem dX5_comes_19 : decode cX5_comes 19 = .ok (.getfield 20, 3) := by decide +kernel
theorem dX5_comes_22 : decode cX5_comes 22 = .ok (.iload_n 1, 1) := by decide +kernel
theorem dX5_comes_23 : decode cX5_comes 23 = .ok (.iaload, 1) := by decide +kernel
theorem dX5_comes_24 : decode cX5_comes 24 = .ok (.iadd, 1) := by decide +kernel
theorem dX5_comes_25 : decode cX5_comes 25 = .ok (.istore 7, 2) := by decide +kernel
theorem dX5_comes_27 : decode cX5_comes 27 = .ok (.aload_n 0, 1) := by decide +kernel
theorem dX5_comes_28 : decode cX5_comes 28 = .ok (.getfield 23, 3) := by decide +kernel
theorem dX5_comes_31 : decode cX5_comes 31 = .ok (.iload 7, 2) := by decide +kernel
theorem dX5_comes_33 : decode cX5_comes 33 = .ok (.iload_n 2, 1) := by decide +kernel
theorem dX5_comes_34 : decode cX5_comes 34 = .ok (.iastore, 1) := by decide +kernel
theorem dX5_comes_35 : decode cX5_comes 35 = .ok (.aload_n 0, 1) := by decide +kernel
theorem dX5_comes_36 : decode cX5_comes 36 = .ok (.getfield 26, 3) := by decide +kernel
theorem dX5_comes_39 : decode cX5_comes 39 = .ok (.iload 7, 2) := by decide +kernel
theorem dX5_comes_41 : decode cX5_comes 41 = .ok (.iload_n 3, 1) := by decide +kernel
theorem dX5_comes_42 : decode cX5_comes 42 = .ok (.iastore, 1) := by decide +kernel
theorem dX5_comes_43 : decode cX5_comes 43 = .ok (.aload_n 0, 1) := by decide +kernel
theorem dX5_comes_44 : decode cX5_comes 44 = .ok (.getfield 29, 3) := by decide +kernel
theorem dX5_comes_47 : decode cX5_comes 47 = .ok (.iload 7, 2) := by decide +kernel
theorem dX5_comes_49 : decode cX5_comes 49 = .ok (.iload 4, 2) := by decide +kernel
theorem dX5_comes_51 : decode cX5_comes 51 = .ok (.iastore, 1) := by decide +kernel
theorem dX5_comes_52 : decode cX5_comes 52 = .ok (.aload_n 0, 1) := by decide +kernel
theorem dX5_comes_53 : decode cX5_comes 53 = .ok (.getfield 32, 3) := by decide +kernel
theorem dX5_comes_56 : decode cX5_comes 56 = .ok (.iload 7, 2) := by decide +kernel
theorem dX5_comes_58 : decode cX5_comes 58 = .ok (.iload 5, 2) := by decide +kernel
theorem dX5_comes_60 : decode cX5_comes 60 = .ok (.iastore, 1) := by decide +kernel
theorem dX5_comes_61 : decode cX5_comes 61 = .ok (.aload_n 0, 1) := by decide +kernel
theorem dX5_comes_62 : decode cX5_comes 62 = .ok (.getfield 35, 3) := by decide +kernel
theorem dX5_comes_65 : decode cX5_comes 65 = .ok (.iload 7, 2) := by decide +kernel
theorem dX5_comes_67 : decode cX5_comes 67 = .ok (.iload 6, 2) := by decide +kernel
theorem dX5_comes_69 : decode cX5_comes 69 = .ok (.iastore, 1) := by decide +kernel
theorem dX5_comes_70 : decode cX5_comes 70 = .ok (.aload_n 0, 1) := by decide +kernel
theorem dX5_comes_71 : decode cX5_comes 71 = .ok (.getfield 20, 3) := by decide +kernel
theorem dX5_comes_74 : decode cX5_comes 74 = .ok (.iload_n 1, 1) := by decide +kernel
theorem dX5_comes_75 : decode cX5_comes 75 = .ok (.dup2, 1) := by decide +kernel
theorem dX5_comes_76 : decode cX5_comes 76 = .ok (.iaload, 1) := by decide +kernel
theorem dX5_comes_77 : decode cX5_comes 77 = .ok (.iconst 1, 1) := by decide +kernel
theorem dX5_comes_78 : decode cX5_comes 78 = .ok (.iadd, 1) := by decide +kernel
theorem dX5_comes_79 : decode cX5_comes 79 = .ok (.iastore, 1) := by decide +kernel
theorem dX5_comes_80 : decode cX5_comes 80 = .ok (.aload_n 0, 1) := by decide +kernel
theorem dX5_comes_81 : decode cX5_comes 81 = .ok (.getfield 20, 3) := by decide +kernel
theorem dX5_comes_84 : decode cX5_comes 84 = .ok (.iload_n 1, 1) := by decide +kernel
theorem dX5_comes_85 : decode cX5_comes 85 = .ok (.iaload, 1) := by decide +kernel
theorem dX5_comes_86 : decode cX5_comes 86 = .ok (.iconst 1, 1) := by decide +kernel
theorem dX5_comes_87 : decode cX5_comes 87 = .ok (.isub, 1) := by decide +kernel
theorem dX5_comes_88 : decode cX5_comes 88 = .ok (.ireturn, 1) := by decide +kernel
theorem dX5_call_0 : decode cX5_call 0 = .ok (.iload_n 1, 1) := by decide +kernel
theorem dX5_call_1 : decode cX5_call 1 = .ok (.invokestatic 108, 3) := by decide +kernel
theorem dX5_call_4 : decode cX5_call 4 = .ok (.ifCond .eq 30, 3) := by decide +kernel
theorem dX5_call_7 : decode cX5_call 7 = .ok (.iload_n 2, 1) := by decide +kernel
theorem dX5_call_8 : decode cX5_call 8 = .ok (.invokestatic 97, 3) := by decide +kernel
theorem dX5_call_11 : decode cX5_call 11 = .ok (.ifCond .eq 23, 3) := by decide +kernel
theorem dX5_call_14 : decode cX5_call 14 = .ok (.iload_n 3, 1) := by decide +kernel
theorem dX5_call_15 : decode cX5_call 15 = .ok (.invokestatic 111, 3) := by decide +kernel
theorem dX5_call_18 : decode cX5_call 18 = .ok (.ifCond .eq 16, 3) := by decide +kernel
theorem dX5_call_21 : decode cX5_call 21 = .ok (.aload_n 0, 1) := by decide +kernel
theorem dX5_call_22 : decode cX5_call 22 = .ok (.iload_n 1, 1) := by decide +kernel
theorem dX5_call_23 : decode cX5_call 23 = .ok (.iconst 0, 1) := by decide +kernel
theorem dX5_call_24 : decode cX5_call 24 = .ok (.iload_n 2, 1) := by decide +kernel
theorem dX5_call_25 : decode cX5_call 25 = .ok (.iconst 0, 1) := by decide +kernel
theorem dX5_call_26 : decode cX5_call 26 = .ok (.iconst 0, 1) := by decide +kernel
theorem dX5_call_27 : decode cX5_call 27 = .ok (.iload_n 3, 1) := by decide +kernel
theorem dX5_call_28 : decode cX5_call 28 = .ok (.invokevirtual 114, 3) := by decide +kernel
theorem dX5_call_31 : decode cX5_call 31 = .ok (.goto 4, 3) := by decide +kernel
theorem dX5_call_34 : decode cX5_call 34 = .ok (.iconst (-1), 1) := by decide +kernel
theorem dX5_call_35 : decode cX5_call 35 = .ok (.ireturn, 1) := by decide +kernel
theorem dX5_wrap_0 : decode cX5_wrap 0 = .ok (.iload_n 1, 1) := by decide +kernel
theorem dX5_wrap_1 : decode cX5_wrap 1 = .ok (.invokestatic 108, 3) := by decide +kernel
theorem dX5_wrap_4 : decode cX5_wrap 4 = .ok (.ifCond .eq 44, 3) := by decide +kernel
theorem dX5_wrap_7 : decode cX5_wrap 7 = .ok (.aload_n 0, 1) := by decide +kernel
theorem dX5_wrap_8 : decode cX5_wrap 8 = .ok (.iload_n 1, 1) := by decide +kernel
theorem dX5_wrap_9 : decode cX5_wrap 9 = .ok (.iload_n 2, 1) := by decide +kernel
theorem dX5_wrap_10 : decode cX5_wrap 10 = .ok (.invokevirtual 118, 3) := by decide +kernel
theorem dX5_wrap_13 : decode cX5_wrap 13 = .ok (.ifCond .eq 35, 3) := by decide +kernel
theorem dX5_wrap_16 : decode cX5_wrap 16 = .ok (.iload_n 3, 1) := by decide +kernel
theorem dX5_wrap_17 : decode cX5_wrap 17 = .ok (.iconst 0, 1) := by decide +kernel
theorem dX5_wrap_18 : decode cX5_wrap 18 = .ok (.bipush 7, 2) := by decide +kernel
theorem dX5_wrap_20 : decode cX5_wrap 20 = .ok (.invokestatic 93, 3) := by decide +kernel
theorem dX5_wrap_23 : decode cX5_wrap 23 = .ok (.ifCond .eq 25, 3) := by decide +kernel
theorem dX5_wrap_26 : decode cX5_wrap 26 = .ok (.iload 4, 2) := by decide +kernel
theorem dX5_wrap_28 : decode cX5_wrap 28 = .ok (.invokestatic 111, 3) := by decide +kernel
theorem dX5_wrap_31 : decode cX5_wrap 31 = .ok (.ifCond .eq 17, 3) := by decide +kernel
theorem dX5_wrap_34 : decode cX5_wrap 34 = .ok (.aload_n 0, 1) := by decide +kernel
theorem dX5_wrap_35 : decode cX5_wrap 35 = .ok (.iload_n 1, 1) := by decide +kernel
theorem dX5_wrap_36 : decode cX5_wrap 36 = .ok (.iconst 1, 1) := by decide +kernel
theorem dX5_wrap_37 : decode cX5_wrap 37 = .ok (.iload_n 2, 1) := by decide +kernel
theorem dX5_wrap_38 : decode cX5_wrap 38 = .ok (.iconst 0, 1) := by decide +kernel
theorem dX5_wrap_39 : decode cX5_wrap 39 = .ok (.iload_n 3, 1) := by decide +kernel
theorem dX5_wrap_40 : decode cX5_wrap 40 = .ok (.iload 4, 2) := by decide +kernel
theorem dX5_wrap_42 : decode cX5_wrap 42 = .ok (.invokevirtual 114, 3) := by decide +kernel
theorem dX5_wrap_45 : decode cX5_wrap 45 = .ok (.goto 4, 3) := by decide +kernel
theorem dX5_wrap_48 : decode cX5_wrap 48 = .ok (.iconst (-1), 1) := by decide +kernel
theorem dX5_wrap_49 : decode cX5_wrap 49 = .ok (.ireturn, 1) := by decide +kernel
theorem dX5_split_0 : decode cX5_split 0 = .ok (.iload_n 1, 1) := by decide +kernel
theorem dX5_split_1 : decode cX5_split 1 = .ok (.invokestatic 108, 3) := by decide +kernel
theorem dX5_split_4 : decode cX5_split 4 = .ok (.ifCond .eq 55, 3) := by decide +kernel
theorem dX5_split_7 : decode cX5_split 7 = .ok (.aload_n 0, 1) := by decide +kernel
theorem dX5_split_8 : decode cX5_split 8 = .ok (.iload_n 1, 1) := by decide +kernel
theorem dX5_split_9 : decode cX5_split 9 = .ok (.iload_n 2, 1) := by decide +kernel
theorem dX5_split_10 : decode cX5_split 10 = .ok (.invokevirtual 118, 3) := by decide +kernel
theorem dX5_split_13 : decode cX5_split 13 = .ok (.ifCond .eq 46, 3) := by decide +kernel
theorem dX5_split_16 : decode cX5_split 16 = .ok (.aload_n 0, 1) := by decide +kernel
theorem dX5_split_17 : decode cX5_split 17 = .ok (.iload_n 1, 1) := by decide +kernel
theorem dX5_split_18 : decode cX5_split 18 = .ok (.iload_n 3, 1) := by decide +kernel
theorem dX5_split_19 : decode cX5_split 19 = .ok (.invokevirtual 118, 3) := by decide +kernel
theorem dX5_split_22 : decode cX5_split 22 = .ok (.ifCond .eq 37, 3) := by decide +kernel
theorem dX5_split_25 : decode cX5_split 25 = .ok (.iload 4, 2) := by decide +kernel
theorem dX5_split_27 : decode cX5_split 27 = .ok (.iconst 1, 1) := by decide +kernel
theorem dX5_split_28 : decode cX5_split 28 = .ok (.bipush 7, 2) := by decide +kernel
theorem dX5_split_30 : decode cX5_split 30 = .ok (.invokestatic 93, 3) := by decide +kernel
theorem dX5_split_33 : decode cX5_split 33 = .ok (.ifCond .eq 26, 3) := by decide +kernel
theorem dX5_split_36 : decode cX5_split 36 = .ok (.iload 5, 2) := by decide +kernel
theorem dX5_split_38 : decode cX5_split 38 = .ok (.invokestatic 111, 3) := by decide +kernel
theorem dX5_split_41 : decode cX5_split 41 = .ok (.ifCond .eq 18, 3) := by decide +kernel
theorem dX5_split_44 : decode cX5_split 44 = .ok (.aload_n 0, 1) := by decide +kernel
theorem dX5_split_45 : decode cX5_split 45 = .ok (.iload_n 1, 1) := by decide +kernel
theorem dX5_split_46 : decode cX5_split 46 = .ok (.iconst 2, 1) := by decide +kernel
theorem dX5_split_47 : decode cX5_split 47 = .ok (.iload_n 2, 1) := by decide +kernel
theorem dX5_split_48 : decode cX5_split 48 = .ok (.iload_n 3, 1) := by decide +kernel
theorem dX5_split_49 : decode cX5_split 49 = .ok (.iload 4, 2) := by decide +kernel
theorem dX5_split_51 : decode cX5_split 51 = .ok (.iload 5, 2) := by decide +kernel
theorem dX5_split_53 : decode cX5_split 53 = .ok (.invokevirtual 114, 3) := by decide +kernel
theorem dX5_split_56 : decode cX5_split 56 = .ok (.goto 4, 3) := by decide +kernel
theorem dX5_split_59 : decode cX5_split 59 = .ok (.iconst (-1), 1) := by decide +kernel
theorem dX5_split_60 : decode cX5_split 60 = .ok (.ireturn, 1) := by decide +kernel
theorem dX5_clear_0 : decode cX5_clear 0 = .ok (.iload_n 1, 1) := by decide +kernel
theorem dX5_clear_1 : decode cX5_clear 1 = .ok (.invokestatic 108, 3) := by decide +kernel
theorem dX5_clear_4 : decode cX5_clear 4 = .ok (.ifCond .ne 5, 3) := by decide +kernel
theorem dX5_clear_7 : decode cX5_clear 7 = .ok (.iconst (-1), 1) := by decide +kernel
theorem dX5_clear_8 : decode cX5_clear 8 = .ok (.ireturn, 1) := by decide +kernel
theorem dX5_clear_9 : decode cX5_clear 9 = .ok (.aload_n 0, 1) := by decide +kernel
theorem dX5_clear_10 : decode cX5_clear 10 = .ok (.getfield 20, 3) := by decide +kernel
theorem dX5_clear_13 : decode cX5_clear 13 = .ok (.iload_n 1, 1) := by decide +kernel
theorem dX5_clear_14 : decode cX5_clear 14 = .ok (.iaload, 1) := by decide +kernel
theorem dX5_clear_15 : decode cX5_clear 15 = .ok (.istore_n 2, 1) := by decide +kernel
theorem dX5_clear_16 : decode cX5_clear 16 = .ok (.aload_n 0, 1) := by decide +kernel
theorem dX5_clear_17 : decode cX5_clear 17 = .ok (.getfield 20, 3) := by decide +kernel
theorem dX5_clear_20 : decode cX5_clear 20 = .ok (.iload_n 1, 1) := by decide +kernel
theorem dX5_clear_21 : decode cX5_clear 21 = .ok (.iconst 0, 1) := by decide +kernel
theorem dX5_clear_22 : decode cX5_clear 22 = .ok (.iastore, 1) := by decide +kernel
theorem dX5_clear_23 : decode cX5_clear 23 = .ok (.iload_n 2, 1) := by decide +kernel
theorem dX5_clear_24 : decode cX5_clear 24 = .ok (.ireturn, 1) := by decide +kernel
theorem dX5_turned_0 : decode cX5_turned 0 = .ok (.iload_n 0, 1) := by decide +kernel
theorem dX5_turned_1 : decode cX5_turned 1 = .ok (.iload_n 1, 1) := by decide +kernel
theorem dX5_turned_2 : decode cX5_turned 2 = .ok (.ishl, 1) := by decide +kernel
theorem dX5_turned_3 : decode cX5_turned 3 = .ok (.iload_n 0, 1) := by decide +kernel
theorem dX5_turned_4 : decode cX5_turned 4 = .ok (.bipush 8, 2) := by decide +kernel
theorem dX5_turned_6 : decode cX5_turned 6 = .ok (.iload_n 1, 1) := by decide +kernel
theorem dX5_turned_7 : decode cX5_turned 7 = .ok (.isub, 1) := by decide +kernel
theorem dX5_turned_8 : decode cX5_turned 8 = .ok (.ishr, 1) := by decide +kernel
theorem dX5_turned_9 : decode cX5_turned 9 = .ok (.ior, 1) := by decide +kernel
theorem dX5_turned_10 : decode cX5_turned 10 = .ok (.sipush 255, 3) := by decide +kernel
theorem dX5_turned_13 : decode cX5_turned 13 = .ok (.iand, 1) := by decide +kernel
theorem dX5_turned_14 : decode cX5_turned 14 = .ok (.ireturn, 1) := by decide +kernel
theorem dX5_piles_0 : decode cX5_piles 0 = .ok (.iload_n 2, 1) := by decide +kernel
theorem dX5_piles_1 : decode cX5_piles 1 = .ok (.ifCond .eq 33, 3) := by decide +kernel
theorem dX5_piles_4 : decode cX5_piles 4 = .ok (.aload_n 0, 1) := by decide +kernel
theorem dX5_piles_5 : decode cX5_piles 5 = .ok (.getfield 78, 3) := by decide +kernel
theorem dX5_piles_8 : decode cX5_piles 8 = .ok (.aload_n 0, 1) := by decide +kernel
theorem dX5_piles_9 : decode cX5_piles 9 = .ok (.getfield 122, 3) := by decide +kernel
theorem dX5_piles_12 : decode cX5_piles 12 = .ok (.iload_n 1, 1) := by decide +kernel
theorem dX5_piles_13 : decode cX5_piles 13 = .ok (.iastore, 1) := by decide +kernel
theorem dX5_piles_14 : decode cX5_piles 14 = .ok (.aload_n 0, 1) := by decide +kernel
theorem dX5_piles_15 : decode cX5_piles 15 = .ok (.getfield 81, 3) := by decide +kernel
theorem dX5_piles_18 : decode cX5_piles 18 = .ok (.aload_n 0, 1) := by decide +kernel
theorem dX5_piles_19 : decode cX5_piles 19 = .ok (.getfield 122, 3) := by decide +kernel
theorem dX5_piles_22 : decode cX5_piles 22 = .ok (.iload_n 2, 1) := by decide +kernel
theorem dX5_piles_23 : decode cX5_piles 23 = .ok (.iastore, 1) := by decide +kernel
theorem dX5_piles_24 : decode cX5_piles 24 = .ok (.aload_n 0, 1) := by decide +kernel
theorem dX5_piles_25 : decode cX5_piles 25 = .ok (.dup, 1) := by decide +kernel
theorem dX5_piles_26 : decode cX5_piles 26 = .ok (.getfield 122, 3) := by decide +kernel
theorem dX5_piles_29 : decode cX5_piles 29 = .ok (.iconst 1, 1) := by decide +kernel
theorem dX5_piles_30 : decode cX5_piles 30 = .ok (.iadd, 1) := by decide +kernel
theorem dX5_piles_31 : decode cX5_piles 31 = .ok (.putfield 122, 3) := by decide +kernel
theorem dX5_piles_34 : decode cX5_piles 34 = .ok (.return_, 1) := by decide +kernel
theorem dX5_follow_0 : decode cX5_follow 0 = .ok (.iconst 0, 1) := by decide +kernel
theorem dX5_follow_1 : decode cX5_follow 1 = .ok (.istore_n 3, 1) := by decide +kernel
theorem dX5_follow_2 : decode cX5_follow 2 = .ok (.iload_n 3, 1) := by decide +kernel
theorem dX5_follow_3 : decode cX5_follow 3 = .ok (.bipush 8, 2) := by decide +kernel
theorem dX5_follow_5 : decode cX5_follow 5 = .ok (.if_icmp .ge 16, 3) := by decide +kernel
theorem dX5_follow_8 : decode cX5_follow 8 = .ok (.aload_n 0, 1) := by decide +kernel
theorem dX5_follow_9 : decode cX5_follow 9 = .ok (.getfield 84, 3) := by decide +kernel
theorem dX5_follow_12 : decode cX5_follow 12 = .ok (.iload_n 3, 1) := by decide +kernel
theorem dX5_follow_13 : decode cX5_follow 13 = .ok (.iconst 0, 1) := by decide +kernel
theorem dX5_follow_14 : decode cX5_follow 14 = .ok (.iastore, 1) := by decide +kernel
theorem dX5_follow_15 : decode cX5_follow 15 = .ok (.iinc 3 1, 3) := by decide +kernel
theorem dX5_follow_18 : decode cX5_follow 18 = .ok (.goto (-16), 3) := by decide +kernel
theorem dX5_follow_21 : decode cX5_follow 21 = .ok (.aload_n 0, 1) := by decide +kernel
theorem dX5_follow_22 : decode cX5_follow 22 = .ok (.lconst 0, 1) := by decide +kernel
theorem dX5_follow_23 : decode cX5_follow 23 = .ok (.putfield 125, 3) := by decide +kernel
theorem dX5_follow_26 : decode cX5_follow 26 = .ok (.aload_n 0, 1) := by decide +kernel
theorem dX5_follow_27 : decode cX5_follow 27 = .ok (.iconst 0, 1) := by decide +kernel
theorem dX5_follow_28 : decode cX5_follow 28 = .ok (.putfield 122, 3) := by decide +kernel
theorem dX5_follow_31 : decode cX5_follow 31 = .ok (.aload_n 0, 1) := by decide +kernel
theorem dX5_follow_32 : decode cX5_follow 32 = .ok (.iload_n 2, 1) := by decide +kernel
theorem dX5_follow_33 : decode cX5_follow 33 = .ok (.aload_n 0, 1) := by decide +kernel
theorem dX5_follow_34 : decode cX5_follow 34 = .ok (.getfield 35, 3) := by decide +kernel
theorem dX5_follow_37 : decode cX5_follow 37 = .ok (.bipush 12, 2) := by decide +kernel
theorem dX5_follow_39 : decode cX5_follow 39 = .ok (.iload_n 1, 1) := by decide +kernel
theorem dX5_follow_40 : decode cX5_follow 40 = .ok (.imul, 1) := by decide +kernel
theorem dX5_follow_41 : decode cX5_follow 41 = .ok (.iload_n 2, 1) := by decide +kernel
theorem dX5_follow_42 : decode cX5_follow 42 = .ok (.iadd, 1) := by decide +kernel
theorem dX5_follow_43 : decode cX5_follow 43 = .ok (.iaload, 1) := by decide +kernel
theorem dX5_follow_44 : decode cX5_follow 44 = .ok (.invokevirtual 129, 3) := by decide +kernel
theorem dX5_follow_47 : decode cX5_follow 47 = .ok (.aload_n 0, 1) := by decide +kernel
theorem dX5_follow_48 : decode cX5_follow 48 = .ok (.getfield 122, 3) := by decide +kernel
theorem dX5_follow_51 : decode cX5_follow 51 = .ok (.ifCond .le 182, 3) := by decide +kernel
theorem dX5_follow_54 : decode cX5_follow 54 = .ok (.aload_n 0, 1) := by decide +kernel
theorem dX5_follow_55 : decode cX5_follow 55 = .ok (.dup, 1) := by decide +kernel
theorem dX5_follow_56 : decode cX5_follow 56 = .ok (.getfield 122, 3) := by decide +kernel
theorem dX5_follow_59 : decode cX5_follow 59 = .ok (.iconst 1, 1) := by decide +kernel
theorem dX5_follow_60 : decode cX5_follow 60 = .ok (.isub, 1) := by decide +kernel
theorem dX5_follow_61 : decode cX5_follow 61 = .ok (.putfield 122, 3) := by decide +kernel
theorem dX5_follow_64 : decode cX5_follow 64 = .ok (.bipush 12, 2) := by decide +kernel
theorem dX5_follow_66 : decode cX5_follow 66 = .ok (.iload_n 1, 1) := by decide +kernel
theorem dX5_follow_67 : decode cX5_follow 67 = .ok (.imul, 1) := by decide +kernel
theorem dX5_follow_68 : decode cX5_follow 68 = .ok (.aload_n 0, 1) := by decide +kernel
theorem dX5_follow_69 : decode cX5_follow 69 = .ok (.getfield 78, 3) := by decide +kernel
theorem dX5_follow_72 : decode cX5_follow 72 = .ok (.aload_n 0, 1) := by decide +kernel
theorem dX5_follow_73 : decode cX5_follow 73 = .ok (.getfield 122, 3) := by decide +kernel
theorem dX5_follow_76 : decode cX5_follow 76 = .ok (.iaload, 1) := by decide +kernel
theorem dX5_follow_77 : decode cX5_follow 77 = .ok (.iadd, 1) := by decide +kernel
theorem dX5_follow_78 : decode cX5_follow 78 = .ok (.istore_n 3, 1) := by decide +kernel
theorem dX5_follow_79 : decode cX5_follow 79 = .ok (.aload_n 0, 1) := by decide +kernel
theorem dX5_follow_80 : decode cX5_follow 80 = .ok (.getfield 81, 3) := by decide +kernel
theorem dX5_follow_83 : decode cX5_follow 83 = .ok (.aload_n 0, 1) := by decide +kernel
theorem dX5_follow_84 : decode cX5_follow 84 = .ok (.getfield 122, 3) := by decide +kernel
theorem dX5_follow_87 : decode cX5_follow 87 = .ok (.iaload, 1) := by decide +kernel
theorem dX5_follow_88 : decode cX5_follow 88 = .ok (.istore 4, 2) := by decide +kernel
theorem dX5_follow_90 : decode cX5_follow 90 = .ok (.aload_n 0, 1) := by decide +kernel
theorem dX5_follow_91 : decode cX5_follow 91 = .ok (.getfield 23, 3) := by decide +kernel
theorem dX5_follow_94 : decode cX5_follow 94 = .ok (.iload_n 3, 1) := by decide +kernel
theorem dX5_follow_95 : decode cX5_follow 95 = .ok (.iaload, 1) := by decide +kernel
theorem dX5_follow_96 : decode cX5_follow 96 = .ok (.ifCond .ne 32, 3) := by decide +kernel
theorem dX5_follow_99 : decode cX5_follow 99 = .ok (.aload_n 0, 1) := by decide +kernel
theorem dX5_follow_100 : decode cX5_follow 100 = .ok (.dup, 1) := by decide +kernel
theorem dX5_follow_101 : decode cX5_follow 101 = .ok (.getfield 125, 3) := by decide +kernel
theorem dX5_follow_104 : decode cX5_follow 104 = .ok (.lconst 1, 1) := by decide +kernel
theorem dX5_follow_105 : decode cX5_follow 105 = .ok (.ladd, 1) := by decide +kernel
theorem dX5_follow_106 : decode cX5_follow 106 = .ok (.putfield 125, 3) := by decide +kernel
theorem dX5_follow_109 : decode cX5_follow 109 = .ok (.aload_n 0, 1) := by decide +kernel
theorem dX5_follow_110 : decode cX5_follow 110 = .ok (.getfield 84, 3) := by decide +kernel
theorem dX5_follow_113 : decode cX5_follow 113 = .ok (.aload_n 0, 1) := by decide +kernel
theorem dX5_follow_114 : decode cX5_follow 114 = .ok (.getfield 26, 3) := by decide +kernel
theorem dX5_follow_117 : decode cX5_follow 117 = .ok (.iload_n 3, 1) := by decide +kernel
theorem dX5_follow_118 : decode cX5_follow 118 = .ok (.iaload, 1) := by decide +kernel
theorem dX5_follow_119 : decode cX5_follow 119 = .ok (.dup2, 1) := by decide +kernel
theorem dX5_follow_120 : decode cX5_follow 120 = .ok (.iaload, 1) := by decide +kernel
theorem dX5_follow_121 : decode cX5_follow 121 = .ok (.iload 4, 2) := by decide +kernel
theorem dX5_follow_123 : decode cX5_follow 123 = .ok (.ior, 1) := by decide +kernel
theorem dX5_follow_124 : decode cX5_follow 124 = .ok (.iastore, 1) := by decide +kernel
theorem dX5_follow_125 : decode cX5_follow 125 = .ok (.goto 105, 3) := by decide +kernel
theorem dX5_follow_128 : decode cX5_follow 128 = .ok (.aload_n 0, 1) := by decide +kernel
theorem dX5_follow_129 : decode cX5_follow 129 = .ok (.getfield 23, 3) := by decide +kernel
theorem dX5_follow_132 : decode cX5_follow 132 = .ok (.iload_n 3, 1) := by decide +kernel
theorem dX5_follow_133 : decode cX5_follow 133 = .ok (.iaload, 1) := by decide +kernel
theorem dX5_follow_134 : decode cX5_follow 134 = .ok (.iconst 1, 1) := by decide +kernel
theorem dX5_follow_135 : decode cX5_follow 135 = .ok (.if_icmp .ne 39, 3) := by decide +kernel
theorem dX5_follow_138 : decode cX5_follow 138 = .ok (.aload_n 0, 1) := by decide +kernel
theorem dX5_follow_139 : decode cX5_follow 139 = .ok (.dup, 1) := by decide +kernel
theorem dX5_follow_140 : decode cX5_follow 140 = .ok (.getfield 125, 3) := by decide +kernel
theorem dX5_follow_143 : decode cX5_follow 143 = .ok (.ldc2_w 133, 3) := by decide +kernel
theorem dX5_follow_146 : decode cX5_follow 146 = .ok (.ladd, 1) := by decide +kernel
theorem dX5_follow_147 : decode cX5_follow 147 = .ok (.putfield 125, 3) := by decide +kernel
theorem dX5_follow_150 : decode cX5_follow 150 = .ok (.aload_n 0, 1) := by decide +kernel
theorem dX5_follow_151 : decode cX5_follow 151 = .ok (.aload_n 0, 1) := by decide +kernel
theorem dX5_follow_152 : decode cX5_follow 152 = .ok (.getfield 26, 3) := by decide +kernel
theorem dX5_follow_155 : decode cX5_follow 155 = .ok (.iload_n 3, 1) := by decide +kernel
theorem dX5_follow_156 : decode cX5_follow 156 = .ok (.iaload, 1) := by decide +kernel
theorem dX5_follow_157 : decode cX5_follow 157 = .ok (.iload 4, 2) := by decide +kernel
theorem dX5_follow_159 : decode cX5_follow 159 = .ok (.aload_n 0, 1) := by decide +kernel
theorem dX5_follow_160 : decode cX5_follow 160 = .ok (.getfield 32, 3) := by decide +kernel
theorem dX5_follow_163 : decode cX5_follow 163 = .ok (.iload_n 3, 1) := by decide +kernel
theorem dX5_follow_164 : decode cX5_follow 164 = .ok (.iaload, 1) := by decide +kernel
theorem dX5_follow_165 : decode cX5_follow 165 = .ok (.invokestatic 135, 3) := by decide +kernel
theorem dX5_follow_168 : decode cX5_follow 168 = .ok (.invokevirtual 129, 3) := by decide +kernel
theorem dX5_follow_171 : decode cX5_follow 171 = .ok (.goto 59, 3) := by decide +kernel
theorem dX5_follow_174 : decode cX5_follow 174 = .ok (.aload_n 0, 1) := by decide +kernel
theorem dX5_follow_175 : decode cX5_follow 175 = .ok (.dup, 1) := by decide +kernel
theorem dX5_follow_176 : decode cX5_follow 176 = .ok (.getfield 125, 3) := by decide +kernel
theorem dX5_follow_179 : decode cX5_follow 179 = .ok (.ldc2_w 139, 3) := by decide +kernel
theorem dX5_follow_182 : decode cX5_follow 182 = .ok (.ladd, 1) := by decide +kernel
theorem dX5_follow_183 : decode cX5_follow 183 = .ok (.putfield 125, 3) := by decide +kernel
theorem dX5_follow_186 : decode cX5_follow 186 = .ok (.iconst 1, 1) := by decide +kernel
theorem dX5_follow_187 : decode cX5_follow 187 = .ok (.aload_n 0, 1) := by decide +kernel
theorem dX5_follow_188 : decode cX5_follow 188 = .ok (.getfield 32, 3) := by decide +kernel
theorem dX5_follow_191 : decode cX5_follow 191 = .ok (.iload_n 3, 1) := by decide +kernel
theorem dX5_follow_192 : decode cX5_follow 192 = .ok (.iaload, 1) := by decide +kernel
theorem dX5_follow_193 : decode cX5_follow 193 = .ok (.ishl, 1) := by decide +kernel
theorem dX5_follow_194 : decode cX5_follow 194 = .ok (.iconst 1, 1) := by decide +kernel
theorem dX5_follow_195 : decode cX5_follow 195 = .ok (.isub, 1) := by decide +kernel
theorem dX5_follow_196 : decode cX5_follow 196 = .ok (.istore 5, 2) := by decide +kernel
theorem dX5_follow_198 : decode cX5_follow 198 = .ok (.aload_n 0, 1) := by decide +kernel
theorem dX5_follow_199 : decode cX5_follow 199 = .ok (.aload_n 0, 1) := by decide +kernel
theorem dX5_follow_200 : decode cX5_follow 200 = .ok (.getfield 29, 3) := by decide +kernel
theorem dX5_follow_203 : decode cX5_follow 203 = .ok (.iload_n 3, 1) := by decide +kernel
theorem dX5_follow_204 : decode cX5_follow 204 = .ok (.iaload, 1) := by decide +kernel
theorem dX5_follow_205 : decode cX5_follow 205 = .ok (.iload 4, 2) := by decide +kernel
theorem dX5_follow_207 : decode cX5_follow 207 = .ok (.iload 5, 2) := by decide +kernel
theorem dX5_follow_209 : decode cX5_follow 209 = .ok (.iconst (-1), 1) := by decide +kernel
theorem dX5_follow_210 : decode cX5_follow 210 = .ok (.ixor, 1) := by decide +kernel
theorem dX5_follow_211 : decode cX5_follow 211 = .ok (.iand, 1) := by decide +kernel
theorem dX5_follow_212 : decode cX5_follow 212 = .ok (.invokevirtual 129, 3) := by decide +kernel
theorem dX5_follow_215 : decode cX5_follow 215 = .ok (.aload_n 0, 1) := by decide +kernel
theorem dX5_follow_216 : decode cX5_follow 216 = .ok (.aload_n 0, 1) := by decide +kernel
theorem dX5_follow_217 : decode cX5_follow 217 = .ok (.getfield 26, 3) := by decide +kernel
theorem dX5_follow_220 : decode cX5_follow 220 = .ok (.iload_n 3, 1) := by decide +kernel
theorem dX5_follow_221 : decode cX5_follow 221 = .ok (.iaload, 1) := by decide +kernel
theorem dX5_follow_222 : decode cX5_follow 222 = .ok (.iload 4, 2) := by decide +kernel
theorem dX5_follow_224 : decode cX5_follow 224 = .ok (.iload 5, 2) := by decide +kernel
theorem dX5_follow_226 : decode cX5_follow 226 = .ok (.iand, 1) := by decide +kernel
theorem dX5_follow_227 : decode cX5_follow 227 = .ok (.invokevirtual 129, 3) := by decide +kernel
theorem dX5_follow_230 : decode cX5_follow 230 = .ok (.goto (-183), 3) := by decide +kernel
theorem dX5_follow_233 : decode cX5_follow 233 = .ok (.return_, 1) := by decide +kernel
theorem dX5_sees_0 : decode cX5_sees 0 = .ok (.iload_n 1, 1) := by decide +kernel
theorem dX5_sees_1 : decode cX5_sees 1 = .ok (.invokestatic 108, 3) := by decide +kernel
theorem dX5_sees_4 : decode cX5_sees 4 = .ok (.ifCond .eq 19, 3) := by decide +kernel
theorem dX5_sees_7 : decode cX5_sees 7 = .ok (.aload_n 0, 1) := by decide +kernel
theorem dX5_sees_8 : decode cX5_sees 8 = .ok (.iload_n 1, 1) := by decide +kernel
theorem dX5_sees_9 : decode cX5_sees 9 = .ok (.iload_n 2, 1) := by decide +kernel
theorem dX5_sees_10 : decode cX5_sees 10 = .ok (.invokevirtual 118, 3) := by decide +kernel
theorem dX5_sees_13 : decode cX5_sees 13 = .ok (.ifCond .eq 10, 3) := by decide +kernel
theorem dX5_sees_16 : decode cX5_sees 16 = .ok (.iload_n 3, 1) := by decide +kernel
theorem dX5_sees_17 : decode cX5_sees 17 = .ok (.invokestatic 97, 3) := by decide +kernel
theorem dX5_sees_20 : decode cX5_sees 20 = .ok (.ifCond .ne 5, 3) := by decide +kernel
theorem dX5_sees_23 : decode cX5_sees 23 = .ok (.iconst (-1), 1) := by decide +kernel
theorem dX5_sees_24 : decode cX5_sees 24 = .ok (.ireturn, 1) := by decide +kernel
theorem dX5_sees_25 : decode cX5_sees 25 = .ok (.aload_n 0, 1) := by decide +kernel
theorem dX5_sees_26 : decode cX5_sees 26 = .ok (.iload_n 1, 1) := by decide +kernel
theorem dX5_sees_27 : decode cX5_sees 27 = .ok (.iload_n 2, 1) := by decide +kernel
theorem dX5_sees_28 : decode cX5_sees 28 = .ok (.invokevirtual 141, 3) := by decide +kernel
theorem dX5_sees_31 : decode cX5_sees 31 = .ok (.aload_n 0, 1) := by decide +kernel
theorem dX5_sees_32 : decode cX5_sees 32 = .ok (.dup, 1) := by decide +kernel
theorem dX5_sees_33 : decode cX5_sees 33 = .ok (.getfield 144, 3) := by decide +kernel
theorem dX5_sees_36 : decode cX5_sees 36 = .ok (.aload_n 0, 1) := by decide +kernel
theorem dX5_sees_37 : decode cX5_sees 37 = .ok (.getfield 125, 3) := by decide +kernel
theorem dX5_sees_40 : decode cX5_sees 40 = .ok (.ladd, 1) := by decide +kernel
theorem dX5_sees_41 : decode cX5_sees 41 = .ok (.putfield 144, 3) := by decide +kernel
theorem dX5_sees_44 : decode cX5_sees 44 = .ok (.aload_n 0, 1) := by decide +kernel
theorem dX5_sees_45 : decode cX5_sees 45 = .ok (.getfield 84, 3) := by decide +kernel
theorem dX5_sees_48 : decode cX5_sees 48 = .ok (.iload_n 3, 1) := by decide +kernel
theorem dX5_sees_49 : decode cX5_sees 49 = .ok (.iaload, 1) := by decide +kernel
theorem dX5_sees_50 : decode cX5_sees 50 = .ok (.ireturn, 1) := by decide +kernel
theorem dX5_usesOf_0 : decode cX5_usesOf 0 = .ok (.iconst 0, 1) := by decide +kernel
theorem dX5_usesOf_1 : decode cX5_usesOf 1 = .ok (.istore_n 3, 1) := by decide +kernel
theorem dX5_usesOf_2 : decode cX5_usesOf 2 = .ok (.iconst 0, 1) := by decide +kernel
theorem dX5_usesOf_3 : decode cX5_usesOf 3 = .ok (.istore 4, 2) := by decide +kernel
theorem dX5_usesOf_5 : decode cX5_usesOf 5 = .ok (.iload 4, 2) := by decide +kernel
theorem dX5_usesOf_7 : decode cX5_usesOf 7 = .ok (.aload_n 0, 1) := by decide +kernel
theorem dX5_usesOf_8 : decode cX5_usesOf 8 = .ok (.getfield 20, 3) := by decide +kernel
theorem dX5_usesOf_11 : decode cX5_usesOf 11 = .ok (.iload_n 1, 1) := by decide +kernel
theorem dX5_usesOf_12 : decode cX5_usesOf 12 = .ok (.iaload, 1) := by decide +kernel
theorem dX5_usesOf_13 : decode cX5_usesOf 13 = .ok (.if_icmp .ge 25, 3) := by decide +kernel
theorem dX5_usesOf_16 : decode cX5_usesOf 16 = .ok (.aload_n 0, 1) := by decide +kernel
theorem dX5_usesOf_17 : decode cX5_usesOf 17 = .ok (.iload_n 1, 1) := by decide +kernel
theorem dX5_usesOf_18 : decode cX5_usesOf 18 = .ok (.iload 4, 2) := by decide +kernel
theorem dX5_usesOf_20 : decode cX5_usesOf 20 = .ok (.invokevirtual 141, 3) := by decide +kernel
theorem dX5_usesOf_23 : decode cX5_usesOf 23 = .ok (.iload_n 3, 1) := by decide +kernel
theorem dX5_usesOf_24 : decode cX5_usesOf 24 = .ok (.aload_n 0, 1) := by decide +kernel
theorem dX5_usesOf_25 : decode cX5_usesOf 25 = .ok (.getfield 84, 3) := by decide +kernel
theorem dX5_usesOf_28 : decode cX5_usesOf 28 = .ok (.iload_n 2, 1) := by decide +kernel
theorem dX5_usesOf_29 : decode cX5_usesOf 29 = .ok (.iaload, 1) := by decide +kernel
theorem dX5_usesOf_30 : decode cX5_usesOf 30 = .ok (.ior, 1) := by decide +kernel
theorem dX5_usesOf_31 : decode cX5_usesOf 31 = .ok (.istore_n 3, 1) := by decide +kernel
theorem dX5_usesOf_32 : decode cX5_usesOf 32 = .ok (.iinc 4 1, 3) := by decide +kernel
theorem dX5_usesOf_35 : decode cX5_usesOf 35 = .ok (.goto (-30), 3) := by decide +kernel
theorem dX5_usesOf_38 : decode cX5_usesOf 38 = .ok (.iload_n 3, 1) := by decide +kernel
theorem dX5_usesOf_39 : decode cX5_usesOf 39 = .ok (.ireturn, 1) := by decide +kernel
theorem dX5_uses_0 : decode cX5_uses 0 = .ok (.iload_n 1, 1) := by decide +kernel
theorem dX5_uses_1 : decode cX5_uses 1 = .ok (.invokestatic 108, 3) := by decide +kernel
theorem dX5_uses_4 : decode cX5_uses 4 = .ok (.ifCond .eq 19, 3) := by decide +kernel
theorem dX5_uses_7 : decode cX5_uses 7 = .ok (.iload_n 2, 1) := by decide +kernel
theorem dX5_uses_8 : decode cX5_uses 8 = .ok (.invokestatic 97, 3) := by decide +kernel
theorem dX5_uses_11 : decode cX5_uses 11 = .ok (.ifCond .eq 12, 3) := by decide +kernel
theorem dX5_uses_14 : decode cX5_uses 14 = .ok (.aload_n 0, 1) := by decide +kernel
theorem dX5_uses_15 : decode cX5_uses 15 = .ok (.iload_n 1, 1) := by decide +kernel
theorem dX5_uses_16 : decode cX5_uses 16 = .ok (.iload_n 2, 1) := by decide +kernel
theorem dX5_uses_17 : decode cX5_uses 17 = .ok (.invokevirtual 147, 3) := by decide +kernel
theorem dX5_uses_20 : decode cX5_uses 20 = .ok (.goto 4, 3) := by decide +kernel
theorem dX5_uses_23 : decode cX5_uses 23 = .ok (.iconst (-1), 1) := by decide +kernel
theorem dX5_uses_24 : decode cX5_uses 24 = .ok (.ireturn, 1) := by decide +kernel
theorem dX5_shape_0 : decode cX5_shape 0 = .ok (.iload_n 1, 1) := by decide +kernel
theorem dX5_shape_1 : decode cX5_shape 1 = .ok (.invokestatic 108, 3) := by decide +kernel
theorem dX5_shape_4 : decode cX5_shape 4 = .ok (.ifCond .eq 10, 3) := by decide +kernel
theorem dX5_shape_7 : decode cX5_shape 7 = .ok (.iload_n 2, 1) := by decide +kernel
theorem dX5_shape_8 : decode cX5_shape 8 = .ok (.invokestatic 97, 3) := by decide +kernel
theorem dX5_shape_11 : decode cX5_shape 11 = .ok (.ifCond .ne 5, 3) := by decide +kernel
theorem dX5_shape_14 : decode cX5_shape 14 = .ok (.iconst (-1), 1) := by decide +kernel
theorem dX5_shape_15 : decode cX5_shape 15 = .ok (.ireturn, 1) := by decide +kernel
theorem dX5_shape_16 : decode cX5_shape 16 = .ok (.aload_n 0, 1) := by decide +kernel
theorem dX5_shape_17 : decode cX5_shape 17 = .ok (.iload_n 1, 1) := by decide +kernel
theorem dX5_shape_18 : decode cX5_shape 18 = .ok (.iload_n 2, 1) := by decide +kernel
theorem dX5_shape_19 : decode cX5_shape 19 = .ok (.invokevirtual 147, 3) := by decide +kernel
theorem dX5_shape_22 : decode cX5_shape 22 = .ok (.istore_n 3, 1) := by decide +kernel
theorem dX5_shape_23 : decode cX5_shape 23 = .ok (.iload_n 3, 1) := by decide +kernel
theorem dX5_shape_24 : decode cX5_shape 24 = .ok (.ifCond .ne 7, 3) := by decide +kernel
theorem dX5_shape_27 : decode cX5_shape 27 = .ok (.iconst 0, 1) := by decide +kernel
theorem dX5_shape_28 : decode cX5_shape 28 = .ok (.goto 27, 3) := by decide +kernel
theorem dX5_shape_31 : decode cX5_shape 31 = .ok (.iload_n 3, 1) := by decide +kernel
theorem dX5_shape_32 : decode cX5_shape 32 = .ok (.sipush 255, 3) := by decide +kernel
theorem dX5_shape_35 : decode cX5_shape 35 = .ok (.if_icmp .ne 7, 3) := by decide +kernel
theorem dX5_shape_38 : decode cX5_shape 38 = .ok (.iconst 3, 1) := by decide +kernel
theorem dX5_shape_39 : decode cX5_shape 39 = .ok (.goto 16, 3) := by decide +kernel
theorem dX5_shape_42 : decode cX5_shape 42 = .ok (.iload_n 3, 1) := by decide +kernel
theorem dX5_shape_43 : decode cX5_shape 43 = .ok (.iload_n 3, 1) := by decide +kernel
theorem dX5_shape_44 : decode cX5_shape 44 = .ok (.iconst 1, 1) := by decide +kernel
theorem dX5_shape_45 : decode cX5_shape 45 = .ok (.isub, 1) := by decide +kernel
theorem dX5_shape_46 : decode cX5_shape 46 = .ok (.iand, 1) := by decide +kernel
theorem dX5_shape_47 : decode cX5_shape 47 = .ok (.ifCond .ne 7, 3) := by decide +kernel
theorem dX5_shape_50 : decode cX5_shape 50 = .ok (.iconst 1, 1) := by decide +kernel
theorem dX5_shape_51 : decode cX5_shape 51 = .ok (.goto 4, 3) := by decide +kernel
theorem dX5_shape_54 : decode cX5_shape 54 = .ok (.iconst 2, 1) := by decide +kernel
theorem dX5_shape_55 : decode cX5_shape 55 = .ok (.ireturn, 1) := by decide +kernel
theorem dX5_isShut_0 : decode cX5_isShut 0 = .ok (.aload_n 0, 1) := by decide +kernel
theorem dX5_isShut_1 : decode cX5_isShut 1 = .ok (.getfield 66, 3) := by decide +kernel
theorem dX5_isShut_4 : decode cX5_isShut 4 = .ok (.iload_n 1, 1) := by decide +kernel
theorem dX5_isShut_5 : decode cX5_isShut 5 = .ok (.iaload, 1) := by decide +kernel
theorem dX5_isShut_6 : decode cX5_isShut 6 = .ok (.bipush (-9), 2) := by decide +kernel
theorem dX5_isShut_8 : decode cX5_isShut 8 = .ok (.if_icmp .eq 20, 3) := by decide +kernel
theorem dX5_isShut_11 : decode cX5_isShut 11 = .ok (.aload_n 0, 1) := by decide +kernel
theorem dX5_isShut_12 : decode cX5_isShut 12 = .ok (.getfield 66, 3) := by decide +kernel
theorem dX5_isShut_15 : decode cX5_isShut 15 = .ok (.iload_n 1, 1) := by decide +kernel
theorem dX5_isShut_16 : decode cX5_isShut 16 = .ok (.iaload, 1) := by decide +kernel
theorem dX5_isShut_17 : decode cX5_isShut 17 = .ok (.aload_n 0, 1) := by decide +kernel
theorem dX5_isShut_18 : decode cX5_isShut 18 = .ok (.getfield 90, 3) := by decide +kernel
theorem dX5_isShut_21 : decode cX5_isShut 21 = .ok (.if_icmp .gt 7, 3) := by decide +kernel
theorem dX5_isShut_24 : decode cX5_isShut 24 = .ok (.iconst 1, 1) := by decide +kernel
theorem dX5_isShut_25 : decode cX5_isShut 25 = .ok (.goto 4, 3) := by decide +kernel
theorem dX5_isShut_28 : decode cX5_isShut 28 = .ok (.iconst 0, 1) := by decide +kernel
theorem dX5_isShut_29 : decode cX5_isShut 29 = .ok (.ireturn, 1) := by decide +kernel
theorem dX5_count_0 : decode cX5_count 0 = .ok (.iload_n 1, 1) := by decide +kernel
theorem dX5_count_1 : decode cX5_count 1 = .ok (.invokestatic 108, 3) := by decide +kernel
theorem dX5_count_4 : decode cX5_count 4 = .ok (.ifCond .eq 45, 3) := by decide +kernel
theorem dX5_count_7 : decode cX5_count 7 = .ok (.iload_n 2, 1) := by decide +kernel
theorem dX5_count_8 : decode cX5_count 8 = .ok (.invokestatic 97, 3) := by decide +kernel
theorem dX5_count_11 : decode cX5_count 11 = .ok (.ifCond .eq 38, 3) := by decide +kernel
theorem dX5_count_14 : decode cX5_count 14 = .ok (.iload_n 3, 1) := by decide +kernel
theorem dX5_count_15 : decode cX5_count 15 = .ok (.iconst 0, 1) := by decide +kernel
theorem dX5_count_16 : decode cX5_count 16 = .ok (.aload_n 0, 1) := by decide +kernel
theorem dX5_count_17 : decode cX5_count 17 = .ok (.getfield 90, 3) := by decide +kernel
theorem dX5_count_20 : decode cX5_count 20 = .ok (.invokestatic 93, 3) := by decide +kernel
theorem dX5_count_23 : decode cX5_count 23 = .ok (.ifCond .eq 26, 3) := by decide +kernel
theorem dX5_count_26 : decode cX5_count 26 = .ok (.iload 4, 2) := by decide +kernel
theorem dX5_count_28 : decode cX5_count 28 = .ok (.iconst 0, 1) := by decide +kernel
theorem dX5_count_29 : decode cX5_count 29 = .ok (.sipush 1000, 3) := by decide +kernel
theorem dX5_count_32 : decode cX5_count 32 = .ok (.invokestatic 93, 3) := by decide +kernel
theorem dX5_count_35 : decode cX5_count 35 = .ok (.ifCond .eq 14, 3) := by decide +kernel
theorem dX5_count_38 : decode cX5_count 38 = .ok (.iload 5, 2) := by decide +kernel
theorem dX5_count_40 : decode cX5_count 40 = .ok (.iconst 0, 1) := by decide +kernel
theorem dX5_count_41 : decode cX5_count 41 = .ok (.bipush 99, 2) := by decide +kernel
theorem dX5_count_43 : decode cX5_count 43 = .ok (.invokestatic 93, 3) := by decide +kernel
theorem dX5_count_46 : decode cX5_count 46 = .ok (.ifCond .ne 5, 3) := by decide +kernel
theorem dX5_count_49 : decode cX5_count 49 = .ok (.iconst (-1), 1) := by decide +kernel
theorem dX5_count_50 : decode cX5_count 50 = .ok (.ireturn, 1) := by decide +kernel
theorem dX5_count_51 : decode cX5_count 51 = .ok (.aload_n 0, 1) := by decide +kernel
theorem dX5_count_52 : decode cX5_count 52 = .ok (.getfield 41, 3) := by decide +kernel
theorem dX5_count_55 : decode cX5_count 55 = .ok (.bipush 100, 2) := by decide +kernel
theorem dX5_count_57 : decode cX5_count 57 = .ok (.iload_n 1, 1) := by decide +kernel
theorem dX5_count_58 : decode cX5_count 58 = .ok (.imul, 1) := by decide +kernel
theorem dX5_count_59 : decode cX5_count 59 = .ok (.iload 5, 2) := by decide +kernel
theorem dX5_count_61 : decode cX5_count 61 = .ok (.iadd, 1) := by decide +kernel
theorem dX5_count_62 : decode cX5_count 62 = .ok (.baload, 1) := by decide +kernel
theorem dX5_count_63 : decode cX5_count 63 = .ok (.ifCond .eq 5, 3) := by decide +kernel
theorem dX5_count_66 : decode cX5_count 66 = .ok (.iconst 0, 1) := by decide +kernel
theorem dX5_count_67 : decode cX5_count 67 = .ok (.ireturn, 1) := by decide +kernel
theorem dX5_count_68 : decode cX5_count 68 = .ok (.aload_n 0, 1) := by decide +kernel
theorem dX5_count_69 : decode cX5_count 69 = .ok (.getfield 41, 3) := by decide +kernel
theorem dX5_count_72 : decode cX5_count 72 = .ok (.bipush 100, 2) := by decide +kernel
theorem dX5_count_74 : decode cX5_count 74 = .ok (.iload_n 1, 1) := by decide +kernel
theorem dX5_count_75 : decode cX5_count 75 = .ok (.imul, 1) := by decide +kernel
theorem dX5_count_76 : decode cX5_count 76 = .ok (.iload 5, 2) := by decide +kernel
theorem dX5_count_78 : decode cX5_count 78 = .ok (.iadd, 1) := by decide +kernel
theorem dX5_count_79 : decode cX5_count 79 = .ok (.iconst 1, 1) := by decide +kernel
theorem dX5_count_80 : decode cX5_count 80 = .ok (.bastore, 1) := by decide +kernel
theorem dX5_count_81 : decode cX5_count 81 = .ok (.aload_n 0, 1) := by decide +kernel
theorem dX5_count_82 : decode cX5_count 82 = .ok (.getfield 45, 3) := by decide +kernel
theorem dX5_count_85 : decode cX5_count 85 = .ok (.iload_n 1, 1) := by decide +kernel
theorem dX5_count_86 : decode cX5_count 86 = .ok (.iconst 1, 1) := by decide +kernel
theorem dX5_count_87 : decode cX5_count 87 = .ok (.bastore, 1) := by decide +kernel
theorem dX5_count_88 : decode cX5_count 88 = .ok (.aload_n 0, 1) := by decide +kernel
theorem dX5_count_89 : decode cX5_count 89 = .ok (.getfield 38, 3) := by decide +kernel
theorem dX5_count_92 : decode cX5_count 92 = .ok (.sipush 320, 3) := by decide +kernel
theorem dX5_count_95 : decode cX5_count 95 = .ok (.iload_n 1, 1) := by decide +kernel
theorem dX5_count_96 : decode cX5_count 96 = .ok (.imul, 1) := by decide +kernel
theorem dX5_count_97 : decode cX5_count 97 = .ok (.bipush 40, 2) := by decide +kernel
theorem dX5_count_99 : decode cX5_count 99 = .ok (.iload_n 2, 1) := by decide +kernel
theorem dX5_count_100 : decode cX5_count 100 = .ok (.imul, 1) := by decide +kernel
theorem dX5_count_101 : decode cX5_count 101 = .ok (.iadd, 1) := by decide +kernel
theorem dX5_count_102 : decode cX5_count 102 = .ok (.iload_n 3, 1) := by decide +kernel
theorem dX5_count_103 : decode cX5_count 103 = .ok (.iadd, 1) := by decide +kernel
theorem dX5_count_104 : decode cX5_count 104 = .ok (.dup2, 1) := by decide +kernel
theorem dX5_count_105 : decode cX5_count 105 = .ok (.iaload, 1) := by decide +kernel
theorem dX5_count_106 : decode cX5_count 106 = .ok (.iload 4, 2) := by decide +kernel
theorem dX5_count_108 : decode cX5_count 108 = .ok (.iadd, 1) := by decide +kernel
theorem dX5_count_109 : decode cX5_count 109 = .ok (.iastore, 1) := by decide +kernel
theorem dX5_count_110 : decode cX5_count 110 = .ok (.iload 4, 2) := by decide +kernel
theorem dX5_count_112 : decode cX5_count 112 = .ok (.ifCond .le 39, 3) := by decide +kernel
theorem dX5_count_115 : decode cX5_count 115 = .ok (.aload_n 0, 1) := by decide +kernel
theorem dX5_count_116 : decode cX5_count 116 = .ok (.iload_n 2, 1) := by decide +kernel
theorem dX5_count_117 : decode cX5_count 117 = .ok (.invokevirtual 150, 3) := by decide +kernel
theorem dX5_count_120 : decode cX5_count 120 = .ok (.ifCond .eq 31, 3) := by decide +kernel
theorem dX5_count_123 : decode cX5_count 123 = .ok (.iload_n 3, 1) := by decide +kernel
theorem dX5_count_124 : decode cX5_count 124 = .ok (.aload_n 0, 1) := by decide +kernel
theorem dX5_count_125 : decode cX5_count 125 = .ok (.getfield 66, 3) := by decide +kernel
theorem dX5_count_128 : decode cX5_count 128 = .ok (.iload_n 2, 1) := by decide +kernel
theorem dX5_count_129 : decode cX5_count 129 = .ok (.iaload, 1) := by decide +kernel
theorem dX5_count_130 : decode cX5_count 130 = .ok (.if_icmp .lt 21, 3) := by decide +kernel
theorem dX5_count_133 : decode cX5_count 133 = .ok (.aload_n 0, 1) := by decide +kernel
theorem dX5_count_134 : decode cX5_count 134 = .ok (.getfield 66, 3) := by decide +kernel
theorem dX5_count_137 : decode cX5_count 137 = .ok (.iload_n 2, 1) := by decide +kernel
theorem dX5_count_138 : decode cX5_count 138 = .ok (.bipush (-9), 2) := by decide +kernel
theorem dX5_count_140 : decode cX5_count 140 = .ok (.iastore, 1) := by decide +kernel
theorem dX5_count_141 : decode cX5_count 141 = .ok (.aload_n 0, 1) := by decide +kernel
theorem dX5_count_142 : decode cX5_count 142 = .ok (.getfield 69, 3) := by decide +kernel
theorem dX5_count_145 : decode cX5_count 145 = .ok (.iload_n 2, 1) := by decide +kernel
theorem dX5_count_146 : decode cX5_count 146 = .ok (.dup2, 1) := by decide +kernel
theorem dX5_count_147 : decode cX5_count 147 = .ok (.iaload, 1) := by decide +kernel
theorem dX5_count_148 : decode cX5_count 148 = .ok (.iconst 1, 1) := by decide +kernel
theorem dX5_count_149 : decode cX5_count 149 = .ok (.iadd, 1) := by decide +kernel
theorem dX5_count_150 : decode cX5_count 150 = .ok (.iastore, 1) := by decide +kernel
theorem dX5_count_151 : decode cX5_count 151 = .ok (.iconst 1, 1) := by decide +kernel
theorem dX5_count_152 : decode cX5_count 152 = .ok (.ireturn, 1) := by decide +kernel
theorem dX5_isSpan_0 : decode cX5_isSpan 0 = .ok (.iload_n 0, 1) := by decide +kernel
theorem dX5_isSpan_1 : decode cX5_isSpan 1 = .ok (.ifCond .lt 18, 3) := by decide +kernel
theorem dX5_isSpan_4 : decode cX5_isSpan 4 = .ok (.iload_n 1, 1) := by decide +kernel
theorem dX5_isSpan_5 : decode cX5_isSpan 5 = .ok (.bipush 40, 2) := by decide +kernel
theorem dX5_isSpan_7 : decode cX5_isSpan 7 = .ok (.if_icmp .ge 12, 3) := by decide +kernel
theorem dX5_isSpan_10 : decode cX5_isSpan 10 = .ok (.iload_n 0, 1) := by decide +kernel
theorem dX5_isSpan_11 : decode cX5_isSpan 11 = .ok (.iload_n 1, 1) := by decide +kernel
theorem dX5_isSpan_12 : decode cX5_isSpan 12 = .ok (.if_icmp .gt 7, 3) := by decide +kernel
theorem dX5_isSpan_15 : decode cX5_isSpan 15 = .ok (.iconst 1, 1) := by decide +kernel
theorem dX5_isSpan_16 : decode cX5_isSpan 16 = .ok (.goto 4, 3) := by decide +kernel
theorem dX5_isSpan_19 : decode cX5_isSpan 19 = .ok (.iconst 0, 1) := by decide +kernel
theorem dX5_isSpan_20 : decode cX5_isSpan 20 = .ok (.ireturn, 1) := by decide +kernel
theorem dX5_sumOf_0 : decode cX5_sumOf 0 = .ok (.iconst 0, 1) := by decide +kernel
theorem dX5_sumOf_1 : decode cX5_sumOf 1 = .ok (.istore 5, 2) := by decide +kernel
theorem dX5_sumOf_3 : decode cX5_sumOf 3 = .ok (.iload_n 3, 1) := by decide +kernel
theorem dX5_sumOf_4 : decode cX5_sumOf 4 = .ok (.istore 6, 2) := by decide +kernel
theorem dX5_sumOf_6 : decode cX5_sumOf 6 = .ok (.iload 6, 2) := by decide +kernel
theorem dX5_sumOf_8 : decode cX5_sumOf 8 = .ok (.iload 4, 2) := by decide +kernel
theorem dX5_sumOf_10 : decode cX5_sumOf 10 = .ok (.if_icmp .gt 32, 3) := by decide +kernel
theorem dX5_sumOf_13 : decode cX5_sumOf 13 = .ok (.iload 5, 2) := by decide +kernel
theorem dX5_sumOf_15 : decode cX5_sumOf 15 = .ok (.aload_n 0, 1) := by decide +kernel
theorem dX5_sumOf_16 : decode cX5_sumOf 16 = .ok (.getfield 38, 3) := by decide +kernel
theorem dX5_sumOf_19 : decode cX5_sumOf 19 = .ok (.sipush 320, 3) := by decide +kernel
theorem dX5_sumOf_22 : decode cX5_sumOf 22 = .ok (.iload_n 1, 1) := by decide +kernel
theorem dX5_sumOf_23 : decode cX5_sumOf 23 = .ok (.imul, 1) := by decide +kernel
theorem dX5_sumOf_24 : decode cX5_sumOf 24 = .ok (.bipush 40, 2) := by decide +kernel
theorem dX5_sumOf_26 : decode cX5_sumOf 26 = .ok (.iload_n 2, 1) := by decide +kernel
theorem dX5_sumOf_27 : decode cX5_sumOf 27 = .ok (.imul, 1) := by decide +kernel
theorem dX5_sumOf_28 : decode cX5_sumOf 28 = .ok (.iadd, 1) := by decide +kernel
theorem dX5_sumOf_29 : decode cX5_sumOf 29 = .ok (.iload 6, 2) := by decide +kernel
theorem dX5_sumOf_31 : decode cX5_sumOf 31 = .ok (.iadd, 1) := by decide +kernel
theorem dX5_sumOf_32 : decode cX5_sumOf 32 = .ok (.iaload, 1) := by decide +kernel
theorem dX5_sumOf_33 : decode cX5_sumOf 33 = .ok (.iadd, 1) := by decide +kernel
theorem dX5_sumOf_34 : decode cX5_sumOf 34 = .ok (.istore 5, 2) := by decide +kernel
theorem dX5_sumOf_36 : decode cX5_sumOf 36 = .ok (.iinc 6 1, 3) := by decide +kernel
theorem dX5_sumOf_39 : decode cX5_sumOf 39 = .ok (.goto (-33), 3) := by decide +kernel
theorem dX5_sumOf_42 : decode cX5_sumOf 42 = .ok (.iload 5, 2) := by decide +kernel
theorem dX5_sumOf_44 : decode cX5_sumOf 44 = .ok (.ireturn, 1) := by decide +kernel
theorem dX5_sum_0 : decode cX5_sum 0 = .ok (.iload_n 1, 1) := by decide +kernel
theorem dX5_sum_1 : decode cX5_sum 1 = .ok (.invokestatic 108, 3) := by decide +kernel
theorem dX5_sum_4 : decode cX5_sum 4 = .ok (.ifCond .eq 31, 3) := by decide +kernel
theorem dX5_sum_7 : decode cX5_sum 7 = .ok (.iload_n 2, 1) := by decide +kernel
theorem dX5_sum_8 : decode cX5_sum 8 = .ok (.invokestatic 97, 3) := by decide +kernel
theorem dX5_sum_11 : decode cX5_sum 11 = .ok (.ifCond .eq 24, 3) := by decide +kernel
theorem dX5_sum_14 : decode cX5_sum 14 = .ok (.iload_n 3, 1) := by decide +kernel
theorem dX5_sum_15 : decode cX5_sum 15 = .ok (.iload 4, 2) := by decide +kernel
theorem dX5_sum_17 : decode cX5_sum 17 = .ok (.invokestatic 153, 3) := by decide +kernel
theorem dX5_sum_20 : decode cX5_sum 20 = .ok (.ifCond .eq 15, 3) := by decide +kernel
theorem dX5_sum_23 : decode cX5_sum 23 = .ok (.aload_n 0, 1) := by decide +kernel
theorem dX5_sum_24 : decode cX5_sum 24 = .ok (.iload_n 1, 1) := by decide +kernel
theorem dX5_sum_25 : decode cX5_sum 25 = .ok (.iload_n 2, 1) := by decide +kernel
theorem dX5_sum_26 : decode cX5_sum 26 = .ok (.iload_n 3, 1) := by decide +kernel
theorem dX5_sum_27 : decode cX5_sum 27 = .ok (.iload 4, 2) := by decide +kernel
theorem dX5_sum_29 : decode cX5_sum 29 = .ok (.invokevirtual 156, 3) := by decide +kernel
theorem dX5_sum_32 : decode cX5_sum 32 = .ok (.goto 4, 3) := by decide +kernel
theorem dX5_sum_35 : decode cX5_sum 35 = .ok (.iconst (-1), 1) := by decide +kernel
theorem dX5_sum_36 : decode cX5_sum 36 = .ok (.ireturn, 1) := by decide +kernel
theorem dX5_isSilent_0 : decode cX5_isSilent 0 = .ok (.aload_n 0, 1) := by decide +kernel
theorem dX5_isSilent_1 : decode cX5_isSilent 1 = .ok (.getfield 20, 3) := by decide +kernel
theorem dX5_isSilent_4 : decode cX5_isSilent 4 = .ok (.iload_n 1, 1) := by decide +kernel
theorem dX5_isSilent_5 : decode cX5_isSilent 5 = .ok (.iaload, 1) := by decide +kernel
theorem dX5_isSilent_6 : decode cX5_isSilent 6 = .ok (.ifCond .ne 16, 3) := by decide +kernel
theorem dX5_isSilent_9 : decode cX5_isSilent 9 = .ok (.aload_n 0, 1) := by decide +kernel
theorem dX5_isSilent_10 : decode cX5_isSilent 10 = .ok (.getfield 45, 3) := by decide +kernel
theorem dX5_isSilent_13 : decode cX5_isSilent 13 = .ok (.iload_n 1, 1) := by decide +kernel
theorem dX5_isSilent_14 : decode cX5_isSilent 14 = .ok (.baload, 1) := by decide +kernel
theorem dX5_isSilent_15 : decode cX5_isSilent 15 = .ok (.ifCond .ne 7, 3) := by decide +kernel
theorem dX5_isSilent_18 : decode cX5_isSilent 18 = .ok (.iconst 1, 1) := by decide +kernel
theorem dX5_isSilent_19 : decode cX5_isSilent 19 = .ok (.goto 4, 3) := by decide +kernel
theorem dX5_isSilent_22 : decode cX5_isSilent 22 = .ok (.iconst 0, 1) := by decide +kernel
theorem dX5_isSilent_23 : decode cX5_isSilent 23 = .ok (.ireturn, 1) := by decide +kernel
theorem dX5_silent_0 : decode cX5_silent 0 = .ok (.iload_n 1, 1) := by decide +kernel
theorem dX5_silent_1 : decode cX5_silent 1 = .ok (.invokestatic 108, 3) := by decide +kernel
theorem dX5_silent_4 : decode cX5_silent 4 = .ok (.ifCond .ne 7, 3) := by decide +kernel
theorem dX5_silent_7 : decode cX5_silent 7 = .ok (.iconst (-1), 1) := by decide +kernel
theorem dX5_silent_8 : decode cX5_silent 8 = .ok (.goto 16, 3) := by decide +kernel
theorem dX5_silent_11 : decode cX5_silent 11 = .ok (.aload_n 0, 1) := by decide +kernel
theorem dX5_silent_12 : decode cX5_silent 12 = .ok (.iload_n 1, 1) := by decide +kernel
theorem dX5_silent_13 : decode cX5_silent 13 = .ok (.invokevirtual 160, 3) := by decide +kernel
theorem dX5_silent_16 : decode cX5_silent 16 = .ok (.ifCond .eq 7, 3) := by decide +kernel
theorem dX5_silent_19 : decode cX5_silent 19 = .ok (.iconst 1, 1) := by decide +kernel
theorem dX5_silent_20 : decode cX5_silent 20 = .ok (.goto 4, 3) := by decide +kernel
theorem dX5_silent_23 : decode cX5_silent 23 = .ok (.iconst 0, 1) := by decide +kernel
theorem dX5_silent_24 : decode cX5_silent 24 = .ok (.ireturn, 1) := by decide +kernel
theorem dX5_most_0 : decode cX5_most 0 = .ok (.iload_n 1, 1) := by decide +kernel
theorem dX5_most_1 : decode cX5_most 1 = .ok (.invokestatic 97, 3) := by decide +kernel
theorem dX5_most_4 : decode cX5_most 4 = .ok (.ifCond .eq 11, 3) := by decide +kernel
theorem dX5_most_7 : decode cX5_most 7 = .ok (.iload_n 2, 1) := by decide +kernel
theorem dX5_most_8 : decode cX5_most 8 = .ok (.iload_n 3, 1) := by decide +kernel
theorem dX5_most_9 : decode cX5_most 9 = .ok (.invokestatic 153, 3) := by decide +kernel
theorem dX5_most_12 : decode cX5_most 12 = .ok (.ifCond .ne 5, 3) := by decide +kernel
theorem dX5_most_15 : decode cX5_most 15 = .ok (.iconst (-1), 1) := by decide +kernel
theorem dX5_most_16 : decode cX5_most 16 = .ok (.ireturn, 1) := by decide +kernel
theorem dX5_most_17 : decode cX5_most 17 = .ok (.iconst 0, 1) := by decide +kernel
theorem dX5_most_18 : decode cX5_most 18 = .ok (.istore 4, 2) := by decide +kernel
theorem dX5_most_20 : decode cX5_most 20 = .ok (.iconst 0, 1) := by decide +kernel
theorem dX5_most_21 : decode cX5_most 21 = .ok (.istore 5, 2) := by decide +kernel
theorem dX5_most_23 : decode cX5_most 23 = .ok (.iload 5, 2) := by decide +kernel
theorem dX5_most_25 : decode cX5_most 25 = .ok (.bipush 6, 2) := by decide +kernel
theorem dX5_most_27 : decode cX5_most 27 = .ok (.if_icmp .ge 45, 3) := by decide +kernel
theorem dX5_most_30 : decode cX5_most 30 = .ok (.iload 4, 2) := by decide +kernel
theorem dX5_most_32 : decode cX5_most 32 = .ok (.aload_n 0, 1) := by decide +kernel
theorem dX5_most_33 : decode cX5_most 33 = .ok (.iload 5, 2) := by decide +kernel
theorem dX5_most_35 : decode cX5_most 35 = .ok (.invokevirtual 160, 3) := by decide +kernel
theorem dX5_most_38 : decode cX5_most 38 = .ok (.ifCond .eq 16, 3) := by decide +kernel
theorem dX5_most_41 : decode cX5_most 41 = .ok (.aload_n 0, 1) := by decide +kernel
theorem dX5_most_42 : decode cX5_most 42 = .ok (.getfield 48, 3) := by decide +kernel
theorem dX5_most_45 : decode cX5_most 45 = .ok (.iload_n 3, 1) := by decide +kernel
theorem dX5_most_46 : decode cX5_most 46 = .ok (.iload_n 2, 1) := by decide +kernel
theorem dX5_most_47 : decode cX5_most 47 = .ok (.isub, 1) := by decide +kernel
theorem dX5_most_48 : decode cX5_most 48 = .ok (.iconst 1, 1) := by decide +kernel
theorem dX5_most_49 : decode cX5_most 49 = .ok (.iadd, 1) := by decide +kernel
theorem dX5_most_50 : decode cX5_most 50 = .ok (.imul, 1) := by decide +kernel
theorem dX5_most_51 : decode cX5_most 51 = .ok (.goto 12, 3) := by decide +kernel
theorem dX5_most_54 : decode cX5_most 54 = .ok (.aload_n 0, 1) := by decide +kernel
theorem dX5_most_55 : decode cX5_most 55 = .ok (.iload 5, 2) := by decide +kernel
theorem dX5_most_57 : decode cX5_most 57 = .ok (.iload_n 1, 1) := by decide +kernel
theorem dX5_most_58 : decode cX5_most 58 = .ok (.iload_n 2, 1) := by decide +kernel
theorem dX5_most_59 : decode cX5_most 59 = .ok (.iload_n 3, 1) := by decide +kernel
theorem dX5_most_60 : decode cX5_most 60 = .ok (.invokevirtual 156, 3) := by decide +kernel
theorem dX5_most_63 : decode cX5_most 63 = .ok (.iadd, 1) := by decide +kernel
theorem dX5_most_64 : decode cX5_most 64 = .ok (.istore 4, 2) := by decide +kernel
theorem dX5_most_66 : decode cX5_most 66 = .ok (.iinc 5 1, 3) := by decide +kernel
theorem dX5_most_69 : decode cX5_most 69 = .ok (.goto (-46), 3) := by decide +kernel
theorem dX5_most_72 : decode cX5_most 72 = .ok (.iload 4, 2) := by decide +kernel
theorem dX5_most_74 : decode cX5_most 74 = .ok (.ireturn, 1) := by decide +kernel
theorem dX5_harm_0 : decode cX5_harm 0 = .ok (.iload_n 1, 1) := by decide +kernel
theorem dX5_harm_1 : decode cX5_harm 1 = .ok (.invokestatic 108, 3) := by decide +kernel
theorem dX5_harm_4 : decode cX5_harm 4 = .ok (.ifCond .eq 18, 3) := by decide +kernel
theorem dX5_harm_7 : decode cX5_harm 7 = .ok (.iload_n 2, 1) := by decide +kernel
theorem dX5_harm_8 : decode cX5_harm 8 = .ok (.invokestatic 97, 3) := by decide +kernel
theorem dX5_harm_11 : decode cX5_harm 11 = .ok (.ifCond .eq 11, 3) := by decide +kernel
theorem dX5_harm_14 : decode cX5_harm 14 = .ok (.aload_n 0, 1) := by decide +kernel
theorem dX5_harm_15 : decode cX5_harm 15 = .ok (.iload_n 3, 1) := by decide +kernel
theorem dX5_harm_16 : decode cX5_harm 16 = .ok (.invokevirtual 101, 3) := by decide +kernel
theorem dX5_harm_19 : decode cX5_harm 19 = .ok (.ifCond .ne 5, 3) := by decide +kernel
theorem dX5_harm_22 : decode cX5_harm 22 = .ok (.iconst (-1), 1) := by decide +kernel
theorem dX5_harm_23 : decode cX5_harm 23 = .ok (.ireturn, 1) := by decide +kernel
theorem dX5_harm_24 : decode cX5_harm 24 = .ok (.aload_n 0, 1) := by decide +kernel
theorem dX5_harm_25 : decode cX5_harm 25 = .ok (.iload_n 1, 1) := by decide +kernel
theorem dX5_harm_26 : decode cX5_harm 26 = .ok (.invokevirtual 160, 3) := by decide +kernel
theorem dX5_harm_29 : decode cX5_harm 29 = .ok (.ifCond .eq 5, 3) := by decide +kernel
theorem dX5_harm_32 : decode cX5_harm 32 = .ok (.iconst 3, 1) := by decide +kernel
theorem dX5_harm_33 : decode cX5_harm 33 = .ok (.ireturn, 1) := by decide +kernel
theorem dX5_harm_34 : decode cX5_harm 34 = .ok (.aload_n 0, 1) := by decide +kernel
theorem dX5_harm_35 : decode cX5_harm 35 = .ok (.iload_n 2, 1) := by decide +kernel
theorem dX5_harm_36 : decode cX5_harm 36 = .ok (.aload_n 0, 1) := by decide +kernel
theorem dX5_harm_37 : decode cX5_harm 37 = .ok (.getfield 17, 3) := by decide +kernel
theorem dX5_harm_40 : decode cX5_harm 40 = .ok (.iload_n 1, 1) := by decide +kernel
theorem dX5_harm_41 : decode cX5_harm 41 = .ok (.iaload, 1) := by decide +kernel
theorem dX5_harm_42 : decode cX5_harm 42 = .ok (.iload_n 3, 1) := by decide +kernel
theorem dX5_harm_43 : decode cX5_harm 43 = .ok (.invokevirtual 104, 3) := by decide +kernel
theorem dX5_harm_46 : decode cX5_harm 46 = .ok (.istore 4, 2) := by decide +kernel
theorem dX5_harm_48 : decode cX5_harm 48 = .ok (.iconst 0, 1) := by decide +kernel
theorem dX5_harm_49 : decode cX5_harm 49 = .ok (.istore 5, 2) := by decide +kernel
theorem dX5_harm_51 : decode cX5_harm 51 = .ok (.iconst 0, 1) := by decide +kernel
theorem dX5_harm_52 : decode cX5_harm 52 = .ok (.istore 6, 2) := by decide +kernel
theorem dX5_harm_54 : decode cX5_harm 54 = .ok (.iload 6, 2) := by decide +kernel
theorem dX5_harm_56 : decode cX5_harm 56 = .ok (.aload_n 0, 1) := by decide +kernel
theorem dX5_harm_57 : decode cX5_harm 57 = .ok (.getfield 20, 3) := by decide +kernel
theorem dX5_harm_60 : decode cX5_harm 60 = .ok (.iload_n 1, 1) := by decide +kernel
theorem dX5_harm_61 : decode cX5_harm 61 = .ok (.iaload, 1) := by decide +kernel
theorem dX5_harm_62 : decode cX5_harm 62 = .ok (.if_icmp .ge 78, 3) := by decide +kernel
theorem dX5_harm_65 : decode cX5_harm 65 = .ok (.aload_n 0, 1) := by decide +kernel
theorem dX5_harm_66 : decode cX5_harm 66 = .ok (.iload_n 1, 1) := by decide +kernel
theorem dX5_harm_67 : decode cX5_harm 67 = .ok (.iload 6, 2) := by decide +kernel
theorem dX5_harm_69 : decode cX5_harm 69 = .ok (.invokevirtual 141, 3) := by decide +kernel
theorem dX5_harm_72 : decode cX5_harm 72 = .ok (.aload_n 0, 1) := by decide +kernel
theorem dX5_harm_73 : decode cX5_harm 73 = .ok (.getfield 84, 3) := by decide +kernel
theorem dX5_harm_76 : decode cX5_harm 76 = .ok (.iload_n 2, 1) := by decide +kernel
theorem dX5_harm_77 : decode cX5_harm 77 = .ok (.iaload, 1) := by decide +kernel
theorem dX5_harm_78 : decode cX5_harm 78 = .ok (.ifCond .eq 15, 3) := by decide +kernel
theorem dX5_harm_81 : decode cX5_harm 81 = .ok (.aload_n 0, 1) := by decide +kernel
theorem dX5_harm_82 : decode cX5_harm 82 = .ok (.getfield 84, 3) := by decide +kernel
theorem dX5_harm_85 : decode cX5_harm 85 = .ok (.iload_n 2, 1) := by decide +kernel
theorem dX5_harm_86 : decode cX5_harm 86 = .ok (.iaload, 1) := by decide +kernel
theorem dX5_harm_87 : decode cX5_harm 87 = .ok (.iload 4, 2) := by decide +kernel
theorem dX5_harm_89 : decode cX5_harm 89 = .ok (.iand, 1) := by decide +kernel
theorem dX5_harm_90 : decode cX5_harm 90 = .ok (.ifCond .ne 7, 3) := by decide +kernel
theorem dX5_harm_93 : decode cX5_harm 93 = .ok (.iconst 0, 1) := by decide +kernel
theorem dX5_harm_94 : decode cX5_harm 94 = .ok (.goto 22, 3) := by decide +kernel
theorem dX5_harm_97 : decode cX5_harm 97 = .ok (.aload_n 0, 1) := by decide +kernel
theorem dX5_harm_98 : decode cX5_harm 98 = .ok (.getfield 84, 3) := by decide +kernel
theorem dX5_harm_101 : decode cX5_harm 101 = .ok (.iload_n 2, 1) := by decide +kernel
theorem dX5_harm_102 : decode cX5_harm 102 = .ok (.iaload, 1) := by decide +kernel
theorem dX5_harm_103 : decode cX5_harm 103 = .ok (.iload 4, 2) := by decide +kernel
theorem dX5_harm_105 : decode cX5_harm 105 = .ok (.iconst (-1), 1) := by decide +kernel
theorem dX5_harm_106 : decode cX5_harm 106 = .ok (.ixor, 1) := by decide +kernel
theorem dX5_harm_107 : decode cX5_harm 107 = .ok (.iand, 1) := by decide +kernel
theorem dX5_harm_108 : decode cX5_harm 108 = .ok (.ifCond .ne 7, 3) := by decide +kernel
theorem dX5_harm_111 : decode cX5_harm 111 = .ok (.iconst 2, 1) := by decide +kernel
theorem dX5_harm_112 : decode cX5_harm 112 = .ok (.goto 4, 3) := by decide +kernel
theorem dX5_harm_115 : decode cX5_harm 115 = .ok (.iconst 1, 1) := by decide +kernel
theorem dX5_harm_116 : decode cX5_harm 116 = .ok (.istore 7, 2) := by decide +kernel
theorem dX5_harm_118 : decode cX5_harm 118 = .ok (.iload 7, 2) := by decide +kernel
theorem dX5_harm_120 : decode cX5_harm 120 = .ok (.iload 5, 2) := by decide +kernel
theorem dX5_harm_122 : decode cX5_harm 122 = .ok (.if_icmp .le 8, 3) := by decide +kernel
theorem dX5_harm_125 : decode cX5_harm 125 = .ok (.iload 7, 2) := by decide +kernel
theorem dX5_harm_127 : decode cX5_harm 127 = .ok (.goto 5, 3) := by decide +kernel
theorem dX5_harm_130 : decode cX5_harm 130 = .ok (.iload 5, 2) := by decide +kernel
theorem dX5_harm_132 : decode cX5_harm 132 = .ok (.istore 5, 2) := by decide +kernel
theorem dX5_harm_134 : decode cX5_harm 134 = .ok (.iinc 6 1, 3) := by decide +kernel
theorem dX5_harm_137 : decode cX5_harm 137 = .ok (.goto (-83), 3) := by decide +kernel
theorem dX5_harm_140 : decode cX5_harm 140 = .ok (.iload 5, 2) := by decide +kernel
theorem dX5_harm_142 : decode cX5_harm 142 = .ok (.ireturn, 1) := by decide +kernel
theorem dX5_rule_0 : decode cX5_rule 0 = .ok (.iload_n 1, 1) := by decide +kernel
theorem dX5_rule_1 : decode cX5_rule 1 = .ok (.invokestatic 97, 3) := by decide +kernel
theorem dX5_rule_4 : decode cX5_rule 4 = .ok (.ifCond .eq 32, 3) := by decide +kernel
theorem dX5_rule_7 : decode cX5_rule 7 = .ok (.iload_n 2, 1) := by decide +kernel
theorem dX5_rule_8 : decode cX5_rule 8 = .ok (.iconst 1, 1) := by decide +kernel
theorem dX5_rule_9 : decode cX5_rule 9 = .ok (.sipush 255, 3) := by decide +kernel
theorem dX5_rule_12 : decode cX5_rule 12 = .ok (.invokestatic 93, 3) := by decide +kernel
theorem dX5_rule_15 : decode cX5_rule 15 = .ok (.ifCond .eq 21, 3) := by decide +kernel
theorem dX5_rule_18 : decode cX5_rule 18 = .ok (.iload_n 3, 1) := by decide +kernel
theorem dX5_rule_19 : decode cX5_rule 19 = .ok (.invokestatic 97, 3) := by decide +kernel
theorem dX5_rule_22 : decode cX5_rule 22 = .ok (.ifCond .eq 14, 3) := by decide +kernel
theorem dX5_rule_25 : decode cX5_rule 25 = .ok (.iload 4, 2) := by decide +kernel
theorem dX5_rule_27 : decode cX5_rule 27 = .ok (.iconst 0, 1) := by decide +kernel
theorem dX5_rule_28 : decode cX5_rule 28 = .ok (.bipush 7, 2) := by decide +kernel
theorem dX5_rule_30 : decode cX5_rule 30 = .ok (.invokestatic 93, 3) := by decide +kernel
theorem dX5_rule_33 : decode cX5_rule 33 = .ok (.ifCond .ne 5, 3) := by decide +kernel
theorem dX5_rule_36 : decode cX5_rule 36 = .ok (.iconst (-1), 1) := by decide +kernel
theorem dX5_rule_37 : decode cX5_rule 37 = .ok (.ireturn, 1) := by decide +kernel
theorem dX5_rule_38 : decode cX5_rule 38 = .ok (.aload_n 0, 1) := by decide +kernel
theorem dX5_rule_39 : decode cX5_rule 39 = .ok (.getfield 163, 3) := by decide +kernel
theorem dX5_rule_42 : decode cX5_rule 42 = .ok (.bipush 12, 2) := by decide +kernel
theorem dX5_rule_44 : decode cX5_rule 44 = .ok (.if_icmp .ne 6, 3) := by decide +kernel
theorem dX5_rule_47 : decode cX5_rule 47 = .ok (.bipush (-3), 2) := by decide +kernel
theorem dX5_rule_49 : decode cX5_rule 49 = .ok (.ireturn, 1) := by decide +kernel
theorem dX5_rule_50 : decode cX5_rule 50 = .ok (.aload_n 0, 1) := by decide +kernel
theorem dX5_rule_51 : decode cX5_rule 51 = .ok (.getfield 51, 3) := by decide +kernel
theorem dX5_rule_54 : decode cX5_rule 54 = .ok (.aload_n 0, 1) := by decide +kernel
theorem dX5_rule_55 : decode cX5_rule 55 = .ok (.getfield 163, 3) := by decide +kernel
theorem dX5_rule_58 : decode cX5_rule 58 = .ok (.iload_n 1, 1) := by decide +kernel
theorem dX5_rule_59 : decode cX5_rule 59 = .ok (.iastore, 1) := by decide +kernel
theorem dX5_rule_60 : decode cX5_rule 60 = .ok (.aload_n 0, 1) := by decide +kernel
theorem dX5_rule_61 : decode cX5_rule 61 = .ok (.getfield 54, 3) := by decide +kernel
theorem dX5_rule_64 : decode cX5_rule 64 = .ok (.aload_n 0, 1) := by decide +kernel
theorem dX5_rule_65 : decode cX5_rule 65 = .ok (.getfield 163, 3) := by decide +kernel
theorem dX5_rule_68 : decode cX5_rule 68 = .ok (.iload_n 2, 1) := by decide +kernel
theorem dX5_rule_69 : decode cX5_rule 69 = .ok (.iastore, 1) := by decide +kernel
theorem dX5_rule_70 : decode cX5_rule 70 = .ok (.aload_n 0, 1) := by decide +kernel
theorem dX5_rule_71 : decode cX5_rule 71 = .ok (.getfield 57, 3) := by decide +kernel
theorem dX5_rule_74 : decode cX5_rule 74 = .ok (.aload_n 0, 1) := by decide +kernel
theorem dX5_rule_75 : decode cX5_rule 75 = .ok (.getfield 163, 3) := by decide +kernel
theorem dX5_rule_78 : decode cX5_rule 78 = .ok (.iload_n 3, 1) := by decide +kernel
theorem dX5_rule_79 : decode cX5_rule 79 = .ok (.iastore, 1) := by decide +kernel
theorem dX5_rule_80 : decode cX5_rule 80 = .ok (.aload_n 0, 1) := by decide +kernel
theorem dX5_rule_81 : decode cX5_rule 81 = .ok (.getfield 60, 3) := by decide +kernel
theorem dX5_rule_84 : decode cX5_rule 84 = .ok (.aload_n 0, 1) := by decide +kernel
theorem dX5_rule_85 : decode cX5_rule 85 = .ok (.getfield 163, 3) := by decide +kernel
theorem dX5_rule_88 : decode cX5_rule 88 = .ok (.iload 4, 2) := by decide +kernel
theorem dX5_rule_90 : decode cX5_rule 90 = .ok (.iastore, 1) := by decide +kernel
theorem dX5_rule_91 : decode cX5_rule 91 = .ok (.aload_n 0, 1) := by decide +kernel
theorem dX5_rule_92 : decode cX5_rule 92 = .ok (.dup, 1) := by decide +kernel
theorem dX5_rule_93 : decode cX5_rule 93 = .ok (.getfield 163, 3) := by decide +kernel
theorem dX5_rule_96 : decode cX5_rule 96 = .ok (.iconst 1, 1) := by decide +kernel
theorem dX5_rule_97 : decode cX5_rule 97 = .ok (.iadd, 1) := by decide +kernel
theorem dX5_rule_98 : decode cX5_rule 98 = .ok (.putfield 163, 3) := by decide +kernel
theorem dX5_rule_101 : decode cX5_rule 101 = .ok (.aload_n 0, 1) := by decide +kernel
theorem dX5_rule_102 : decode cX5_rule 102 = .ok (.getfield 163, 3) := by decide +kernel
theorem dX5_rule_105 : decode cX5_rule 105 = .ok (.iconst 1, 1) := by decide +kernel
theorem dX5_rule_106 : decode cX5_rule 106 = .ok (.isub, 1) := by decide +kernel
theorem dX5_rule_107 : decode cX5_rule 107 = .ok (.ireturn, 1) := by decide +kernel
theorem dX5_isRule_0 : decode cX5_isRule 0 = .ok (.iload_n 1, 1) := by decide +kernel
theorem dX5_isRule_1 : decode cX5_isRule 1 = .ok (.iconst 0, 1) := by decide +kernel
theorem dX5_isRule_2 : decode cX5_isRule 2 = .ok (.aload_n 0, 1) := by decide +kernel
theorem dX5_isRule_3 : decode cX5_isRule 3 = .ok (.getfield 163, 3) := by decide +kernel
theorem dX5_isRule_6 : decode cX5_isRule 6 = .ok (.iconst 1, 1) := by decide +kernel
theorem dX5_isRule_7 : decode cX5_isRule 7 = .ok (.isub, 1) := by decide +kernel
theorem dX5_isRule_8 : decode cX5_isRule 8 = .ok (.invokestatic 93, 3) := by decide +kernel
theorem dX5_isRule_11 : decode cX5_isRule 11 = .ok (.ireturn, 1) := by decide +kernel
theorem dX5_holdsFrom_0 : decode cX5_holdsFrom 0 = .ok (.iconst 1, 1) := by decide +kernel
theorem dX5_holdsFrom_1 : decode cX5_holdsFrom 1 = .ok (.istore 4, 2) := by decide +kernel
theorem dX5_holdsFrom_3 : decode cX5_holdsFrom 3 = .ok (.iconst 0, 1) := by decide +kernel
theorem dX5_holdsFrom_4 : decode cX5_holdsFrom 4 = .ok (.istore 5, 2) := by decide +kernel
theorem dX5_holdsFrom_6 : decode cX5_holdsFrom 6 = .ok (.iload 5, 2) := by decide +kernel
theorem dX5_holdsFrom_8 : decode cX5_holdsFrom 8 = .ok (.bipush 8, 2) := by decide +kernel
theorem dX5_holdsFrom_10 : decode cX5_holdsFrom 10 = .ok (.if_icmp .ge 93, 3) := by decide +kernel
theorem dX5_holdsFrom_13 : decode cX5_holdsFrom 13 = .ok (.aload_n 0, 1) := by decide +kernel
theorem dX5_holdsFrom_14 : decode cX5_holdsFrom 14 = .ok (.getfield 54, 3) := by decide +kernel
theorem dX5_holdsFrom_17 : decode cX5_holdsFrom 17 = .ok (.iload_n 1, 1) := by decide +kernel
theorem dX5_holdsFrom_18 : decode cX5_holdsFrom 18 = .ok (.iaload, 1) := by decide +kernel
theorem dX5_holdsFrom_19 : decode cX5_holdsFrom 19 = .ok (.iload 5, 2) := by decide +kernel
theorem dX5_holdsFrom_21 : decode cX5_holdsFrom 21 = .ok (.ishr, 1) := by decide +kernel
theorem dX5_holdsFrom_22 : decode cX5_holdsFrom 22 = .ok (.iconst 1, 1) := by decide +kernel
theorem dX5_holdsFrom_23 : decode cX5_holdsFrom 23 = .ok (.iand, 1) := by decide +kernel
theorem dX5_holdsFrom_24 : decode cX5_holdsFrom 24 = .ok (.iconst 1, 1) := by decide +kernel
theorem dX5_holdsFrom_25 : decode cX5_holdsFrom 25 = .ok (.if_icmp .ne 72, 3) := by decide +kernel
theorem dX5_holdsFrom_28 : decode cX5_holdsFrom 28 = .ok (.iload 4, 2) := by decide +kernel
theorem dX5_holdsFrom_30 : decode cX5_holdsFrom 30 = .ok (.ifCond .eq 64, 3) := by decide +kernel
theorem dX5_holdsFrom_33 : decode cX5_holdsFrom 33 = .ok (.aload_n 0, 1) := by decide +kernel
theorem dX5_holdsFrom_34 : decode cX5_holdsFrom 34 = .ok (.getfield 13, 3) := by decide +kernel
theorem dX5_holdsFrom_37 : decode cX5_holdsFrom 37 = .ok (.bipush 40, 2) := by decide +kernel
theorem dX5_holdsFrom_39 : decode cX5_holdsFrom 39 = .ok (.aload_n 0, 1) := by decide +kernel
theorem dX5_holdsFrom_40 : decode cX5_holdsFrom 40 = .ok (.getfield 51, 3) := by decide +kernel
theorem dX5_holdsFrom_43 : decode cX5_holdsFrom 43 = .ok (.iload_n 1, 1) := by decide +kernel
theorem dX5_holdsFrom_44 : decode cX5_holdsFrom 44 = .ok (.iaload, 1) := by decide +kernel
theorem dX5_holdsFrom_45 : decode cX5_holdsFrom 45 = .ok (.imul, 1) := by decide +kernel
theorem dX5_holdsFrom_46 : decode cX5_holdsFrom 46 = .ok (.bipush 8, 2) := by decide +kernel
theorem dX5_holdsFrom_48 : decode cX5_holdsFrom 48 = .ok (.iload_n 2, 1) := by decide +kernel
theorem dX5_holdsFrom_49 : decode cX5_holdsFrom 49 = .ok (.imul, 1) := by decide +kernel
theorem dX5_holdsFrom_50 : decode cX5_holdsFrom 50 = .ok (.iadd, 1) := by decide +kernel
theorem dX5_holdsFrom_51 : decode cX5_holdsFrom 51 = .ok (.iload 5, 2) := by decide +kernel
theorem dX5_holdsFrom_53 : decode cX5_holdsFrom 53 = .ok (.iadd, 1) := by decide +kernel
theorem dX5_holdsFrom_54 : decode cX5_holdsFrom 54 = .ok (.iaload, 1) := by decide +kernel
theorem dX5_holdsFrom_55 : decode cX5_holdsFrom 55 = .ok (.aload_n 0, 1) := by decide +kernel
theorem dX5_holdsFrom_56 : decode cX5_holdsFrom 56 = .ok (.getfield 13, 3) := by decide +kernel
theorem dX5_holdsFrom_59 : decode cX5_holdsFrom 59 = .ok (.bipush 40, 2) := by decide +kernel
theorem dX5_holdsFrom_61 : decode cX5_holdsFrom 61 = .ok (.aload_n 0, 1) := by decide +kernel
theorem dX5_holdsFrom_62 : decode cX5_holdsFrom 62 = .ok (.getfield 57, 3) := by decide +kernel
theorem dX5_holdsFrom_65 : decode cX5_holdsFrom 65 = .ok (.iload_n 1, 1) := by decide +kernel
theorem dX5_holdsFrom_66 : decode cX5_holdsFrom 66 = .ok (.iaload, 1) := by decide +kernel
theorem dX5_holdsFrom_67 : decode cX5_holdsFrom 67 = .ok (.imul, 1) := by decide +kernel
theorem dX5_holdsFrom_68 : decode cX5_holdsFrom 68 = .ok (.bipush 8, 2) := by decide +kernel
theorem dX5_holdsFrom_70 : decode cX5_holdsFrom 70 = .ok (.iload_n 3, 1) := by decide +kernel
theorem dX5_holdsFrom_71 : decode cX5_holdsFrom 71 = .ok (.imul, 1) := by decide +kernel
theorem dX5_holdsFrom_72 : decode cX5_holdsFrom 72 = .ok (.iadd, 1) := by decide +kernel
theorem dX5_holdsFrom_73 : decode cX5_holdsFrom 73 = .ok (.iload 5, 2) := by decide +kernel
theorem dX5_holdsFrom_75 : decode cX5_holdsFrom 75 = .ok (.aload_n 0, 1) := by decide +kernel
theorem dX5_holdsFrom_76 : decode cX5_holdsFrom 76 = .ok (.getfield 60, 3) := by decide +kernel
theorem dX5_holdsFrom_79 : decode cX5_holdsFrom 79 = .ok (.iload_n 1, 1) := by decide +kernel
theorem dX5_holdsFrom_80 : decode cX5_holdsFrom 80 = .ok (.iaload, 1) := by decide +kernel
theorem dX5_holdsFrom_81 : decode cX5_holdsFrom 81 = .ok (.iadd, 1) := by decide +kernel
theorem dX5_holdsFrom_82 : decode cX5_holdsFrom 82 = .ok (.bipush 8, 2) := by decide +kernel
theorem dX5_holdsFrom_84 : decode cX5_holdsFrom 84 = .ok (.irem, 1) := by decide +kernel
theorem dX5_holdsFrom_85 : decode cX5_holdsFrom 85 = .ok (.iadd, 1) := by decide +kernel
theorem dX5_holdsFrom_86 : decode cX5_holdsFrom 86 = .ok (.iaload, 1) := by decide +kernel
theorem dX5_holdsFrom_87 : decode cX5_holdsFrom 87 = .ok (.if_icmp .ne 7, 3) := by decide +kernel
theorem dX5_holdsFrom_90 : decode cX5_holdsFrom 90 = .ok (.iconst 1, 1) := by decide +kernel
theorem dX5_holdsFrom_91 : decode cX5_holdsFrom 91 = .ok (.goto 4, 3) := by decide +kernel
theorem dX5_holdsFrom_94 : decode cX5_holdsFrom 94 = .ok (.iconst 0, 1) := by decide +kernel
theorem dX5_holdsFrom_95 : decode cX5_holdsFrom 95 = .ok (.istore 4, 2) := by decide +kernel
theorem dX5_holdsFrom_97 : decode cX5_holdsFrom 97 = .ok (.iinc 5 1, 3) := by decide +kernel
theorem dX5_holdsFrom_100 : decode cX5_holdsFrom 100 = .ok (.goto (-94), 3) := by decide +kernel
theorem dX5_holdsFrom_103 : decode cX5_holdsFrom 103 = .ok (.iload 4, 2) := by decide +kernel
theorem dX5_holdsFrom_105 : decode cX5_holdsFrom 105 = .ok (.ireturn, 1) := by decide +kernel
theorem dX5_holds_0 : decode cX5_holds 0 = .ok (.aload_n 0, 1) := by decide +kernel
theorem dX5_holds_1 : decode cX5_holds 1 = .ok (.iload_n 1, 1) := by decide +kernel
theorem dX5_holds_2 : decode cX5_holds 2 = .ok (.invokevirtual 166, 3) := by decide +kernel
theorem dX5_holds_5 : decode cX5_holds 5 = .ok (.ifCond .eq 19, 3) := by decide +kernel
theorem dX5_holds_8 : decode cX5_holds 8 = .ok (.aload_n 0, 1) := by decide +kernel
theorem dX5_holds_9 : decode cX5_holds 9 = .ok (.iload_n 2, 1) := by decide +kernel
theorem dX5_holds_10 : decode cX5_holds 10 = .ok (.invokevirtual 101, 3) := by decide +kernel
theorem dX5_holds_13 : decode cX5_holds 13 = .ok (.ifCond .eq 11, 3) := by decide +kernel
theorem dX5_holds_16 : decode cX5_holds 16 = .ok (.aload_n 0, 1) := by decide +kernel
theorem dX5_holds_17 : decode cX5_holds 17 = .ok (.iload_n 3, 1) := by decide +kernel
theorem dX5_holds_18 : decode cX5_holds 18 = .ok (.invokevirtual 101, 3) := by decide +kernel
theorem dX5_holds_21 : decode cX5_holds 21 = .ok (.ifCond .ne 7, 3) := by decide +kernel
theorem dX5_holds_24 : decode cX5_holds 24 = .ok (.iconst (-1), 1) := by decide +kernel
theorem dX5_holds_25 : decode cX5_holds 25 = .ok (.goto 18, 3) := by decide +kernel
theorem dX5_holds_28 : decode cX5_holds 28 = .ok (.aload_n 0, 1) := by decide +kernel
theorem dX5_holds_29 : decode cX5_holds 29 = .ok (.iload_n 1, 1) := by decide +kernel
theorem dX5_holds_30 : decode cX5_holds 30 = .ok (.iload_n 2, 1) := by decide +kernel
theorem dX5_holds_31 : decode cX5_holds 31 = .ok (.iload_n 3, 1) := by decide +kernel
theorem dX5_holds_32 : decode cX5_holds 32 = .ok (.invokevirtual 169, 3) := by decide +kernel
theorem dX5_holds_35 : decode cX5_holds 35 = .ok (.ifCond .eq 7, 3) := by decide +kernel
theorem dX5_holds_38 : decode cX5_holds 38 = .ok (.iconst 1, 1) := by decide +kernel
theorem dX5_holds_39 : decode cX5_holds 39 = .ok (.goto 4, 3) := by decide +kernel
theorem dX5_holds_42 : decode cX5_holds 42 = .ok (.iconst 0, 1) := by decide +kernel
theorem dX5_holds_43 : decode cX5_holds 43 = .ok (.ireturn, 1) := by decide +kernel
theorem dX5_clash_0 : decode cX5_clash 0 = .ok (.aload_n 0, 1) := by decide +kernel
theorem dX5_clash_1 : decode cX5_clash 1 = .ok (.iload_n 1, 1) := by decide +kernel
theorem dX5_clash_2 : decode cX5_clash 2 = .ok (.invokevirtual 166, 3) := by decide +kernel
theorem dX5_clash_5 : decode cX5_clash 5 = .ok (.ifCond .eq 11, 3) := by decide +kernel
theorem dX5_clash_8 : decode cX5_clash 8 = .ok (.aload_n 0, 1) := by decide +kernel
theorem dX5_clash_9 : decode cX5_clash 9 = .ok (.iload_n 2, 1) := by decide +kernel
theorem dX5_clash_10 : decode cX5_clash 10 = .ok (.invokevirtual 166, 3) := by decide +kernel
theorem dX5_clash_13 : decode cX5_clash 13 = .ok (.ifCond .ne 5, 3) := by decide +kernel
theorem dX5_clash_16 : decode cX5_clash 16 = .ok (.iconst (-1), 1) := by decide +kernel
theorem dX5_clash_17 : decode cX5_clash 17 = .ok (.ireturn, 1) := by decide +kernel
theorem dX5_clash_18 : decode cX5_clash 18 = .ok (.aload_n 0, 1) := by decide +kernel
theorem dX5_clash_19 : decode cX5_clash 19 = .ok (.getfield 51, 3) := by decide +kernel
theorem dX5_clash_22 : decode cX5_clash 22 = .ok (.iload_n 1, 1) := by decide +kernel
theorem dX5_clash_23 : decode cX5_clash 23 = .ok (.iaload, 1) := by decide +kernel
theorem dX5_clash_24 : decode cX5_clash 24 = .ok (.aload_n 0, 1) := by decide +kernel
theorem dX5_clash_25 : decode cX5_clash 25 = .ok (.getfield 51, 3) := by decide +kernel
theorem dX5_clash_28 : decode cX5_clash 28 = .ok (.iload_n 2, 1) := by decide +kernel
theorem dX5_clash_29 : decode cX5_clash 29 = .ok (.iaload, 1) := by decide +kernel
theorem dX5_clash_30 : decode cX5_clash 30 = .ok (.if_icmp .ne 23, 3) := by decide +kernel
theorem dX5_clash_33 : decode cX5_clash 33 = .ok (.aload_n 0, 1) := by decide +kernel
theorem dX5_clash_34 : decode cX5_clash 34 = .ok (.getfield 54, 3) := by decide +kernel
theorem dX5_clash_37 : decode cX5_clash 37 = .ok (.iload_n 1, 1) := by decide +kernel
theorem dX5_clash_38 : decode cX5_clash 38 = .ok (.iaload, 1) := by decide +kernel
theorem dX5_clash_39 : decode cX5_clash 39 = .ok (.aload_n 0, 1) := by decide +kernel
theorem dX5_clash_40 : decode cX5_clash 40 = .ok (.getfield 54, 3) := by decide +kernel
theorem dX5_clash_43 : decode cX5_clash 43 = .ok (.iload_n 2, 1) := by decide +kernel
theorem dX5_clash_44 : decode cX5_clash 44 = .ok (.iaload, 1) := by decide +kernel
theorem dX5_clash_45 : decode cX5_clash 45 = .ok (.iand, 1) := by decide +kernel
theorem dX5_clash_46 : decode cX5_clash 46 = .ok (.ifCond .eq 7, 3) := by decide +kernel
theorem dX5_clash_49 : decode cX5_clash 49 = .ok (.iconst 1, 1) := by decide +kernel
theorem dX5_clash_50 : decode cX5_clash 50 = .ok (.goto 4, 3) := by decide +kernel
theorem dX5_clash_53 : decode cX5_clash 53 = .ok (.iconst 0, 1) := by decide +kernel
theorem dX5_clash_54 : decode cX5_clash 54 = .ok (.istore_n 3, 1) := by decide +kernel
theorem dX5_clash_55 : decode cX5_clash 55 = .ok (.iload_n 3, 1) := by decide +kernel
theorem dX5_clash_56 : decode cX5_clash 56 = .ok (.ifCond .eq 37, 3) := by decide +kernel
theorem dX5_clash_59 : decode cX5_clash 59 = .ok (.aload_n 0, 1) := by decide +kernel
theorem dX5_clash_60 : decode cX5_clash 60 = .ok (.getfield 57, 3) := by decide +kernel
theorem dX5_clash_63 : decode cX5_clash 63 = .ok (.iload_n 1, 1) := by decide +kernel
theorem dX5_clash_64 : decode cX5_clash 64 = .ok (.iaload, 1) := by decide +kernel
theorem dX5_clash_65 : decode cX5_clash 65 = .ok (.aload_n 0, 1) := by decide +kernel
theorem dX5_clash_66 : decode cX5_clash 66 = .ok (.getfield 57, 3) := by decide +kernel
theorem dX5_clash_69 : decode cX5_clash 69 = .ok (.iload_n 2, 1) := by decide +kernel
theorem dX5_clash_70 : decode cX5_clash 70 = .ok (.iaload, 1) := by decide +kernel
theorem dX5_clash_71 : decode cX5_clash 71 = .ok (.if_icmp .ne 18, 3) := by decide +kernel
theorem dX5_clash_74 : decode cX5_clash 74 = .ok (.aload_n 0, 1) := by decide +kernel
theorem dX5_clash_75 : decode cX5_clash 75 = .ok (.getfield 60, 3) := by decide +kernel
theorem dX5_clash_78 : decode cX5_clash 78 = .ok (.iload_n 1, 1) := by decide +kernel
theorem dX5_clash_79 : decode cX5_clash 79 = .ok (.iaload, 1) := by decide +kernel
theorem dX5_clash_80 : decode cX5_clash 80 = .ok (.aload_n 0, 1) := by decide +kernel
theorem dX5_clash_81 : decode cX5_clash 81 = .ok (.getfield 60, 3) := by decide +kernel
theorem dX5_clash_84 : decode cX5_clash 84 = .ok (.iload_n 2, 1) := by decide +kernel
theorem dX5_clash_85 : decode cX5_clash 85 = .ok (.iaload, 1) := by decide +kernel
theorem dX5_clash_86 : decode cX5_clash 86 = .ok (.if_icmp .eq 7, 3) := by decide +kernel
theorem dX5_clash_89 : decode cX5_clash 89 = .ok (.iconst 1, 1) := by decide +kernel
theorem dX5_clash_90 : decode cX5_clash 90 = .ok (.goto 4, 3) := by decide +kernel
theorem dX5_clash_93 : decode cX5_clash 93 = .ok (.iconst 0, 1) := by decide +kernel
theorem dX5_clash_94 : decode cX5_clash 94 = .ok (.ireturn, 1) := by decide +kernel
theorem dX5_left_0 : decode cX5_left 0 = .ok (.iload_n 1, 1) := by decide +kernel
theorem dX5_left_1 : decode cX5_left 1 = .ok (.invokestatic 108, 3) := by decide +kernel
theorem dX5_left_4 : decode cX5_left 4 = .ok (.ifCond .eq 18, 3) := by decide +kernel
theorem dX5_left_7 : decode cX5_left 7 = .ok (.iload_n 2, 1) := by decide +kernel
theorem dX5_left_8 : decode cX5_left 8 = .ok (.invokestatic 97, 3) := by decide +kernel
theorem dX5_left_11 : decode cX5_left 11 = .ok (.ifCond .eq 11, 3) := by decide +kernel
theorem dX5_left_14 : decode cX5_left 14 = .ok (.aload_n 0, 1) := by decide +kernel
theorem dX5_left_15 : decode cX5_left 15 = .ok (.iload_n 3, 1) := by decide +kernel
theorem dX5_left_16 : decode cX5_left 16 = .ok (.invokevirtual 101, 3) := by decide +kernel
theorem dX5_left_19 : decode cX5_left 19 = .ok (.ifCond .ne 5, 3) := by decide +kernel
theorem dX5_left_22 : decode cX5_left 22 = .ok (.iconst (-1), 1) := by decide +kernel
theorem dX5_left_23 : decode cX5_left 23 = .ok (.ireturn, 1) := by decide +kernel
theorem dX5_left_24 : decode cX5_left 24 = .ok (.aload_n 0, 1) := by decide +kernel
theorem dX5_left_25 : decode cX5_left 25 = .ok (.iload_n 1, 1) := by decide +kernel
theorem dX5_left_26 : decode cX5_left 26 = .ok (.iload_n 2, 1) := by decide +kernel
theorem dX5_left_27 : decode cX5_left 27 = .ok (.invokevirtual 147, 3) := by decide +kernel
theorem dX5_left_30 : decode cX5_left 30 = .ok (.aload_n 0, 1) := by decide +kernel
theorem dX5_left_31 : decode cX5_left 31 = .ok (.iload_n 2, 1) := by decide +kernel
theorem dX5_left_32 : decode cX5_left 32 = .ok (.aload_n 0, 1) := by decide +kernel
theorem dX5_left_33 : decode cX5_left 33 = .ok (.getfield 17, 3) := by decide +kernel
theorem dX5_left_36 : decode cX5_left 36 = .ok (.iload_n 1, 1) := by decide +kernel
theorem dX5_left_37 : decode cX5_left 37 = .ok (.iaload, 1) := by decide +kernel
theorem dX5_left_38 : decode cX5_left 38 = .ok (.iload_n 3, 1) := by decide +kernel
theorem dX5_left_39 : decode cX5_left 39 = .ok (.invokevirtual 104, 3) := by decide +kernel
theorem dX5_left_42 : decode cX5_left 42 = .ok (.iand, 1) := by decide +kernel
theorem dX5_left_43 : decode cX5_left 43 = .ok (.istore 4, 2) := by decide +kernel
theorem dX5_left_45 : decode cX5_left 45 = .ok (.iconst 0, 1) := by decide +kernel
theorem dX5_left_46 : decode cX5_left 46 = .ok (.istore 5, 2) := by decide +kernel
theorem dX5_left_48 : decode cX5_left 48 = .ok (.iload 5, 2) := by decide +kernel
theorem dX5_left_50 : decode cX5_left 50 = .ok (.aload_n 0, 1) := by decide +kernel
theorem dX5_left_51 : decode cX5_left 51 = .ok (.getfield 163, 3) := by decide +kernel
theorem dX5_left_54 : decode cX5_left 54 = .ok (.if_icmp .ge 56, 3) := by decide +kernel
theorem dX5_left_57 : decode cX5_left 57 = .ok (.iload 4, 2) := by decide +kernel
theorem dX5_left_59 : decode cX5_left 59 = .ok (.aload_n 0, 1) := by decide +kernel
theorem dX5_left_60 : decode cX5_left 60 = .ok (.getfield 51, 3) := by decide +kernel
theorem dX5_left_63 : decode cX5_left 63 = .ok (.iload 5, 2) := by decide +kernel
theorem dX5_left_65 : decode cX5_left 65 = .ok (.iaload, 1) := by decide +kernel
theorem dX5_left_66 : decode cX5_left 66 = .ok (.iload_n 2, 1) := by decide +kernel
theorem dX5_left_67 : decode cX5_left 67 = .ok (.if_icmp .ne 31, 3) := by decide +kernel
theorem dX5_left_70 : decode cX5_left 70 = .ok (.aload_n 0, 1) := by decide +kernel
theorem dX5_left_71 : decode cX5_left 71 = .ok (.iload 5, 2) := by decide +kernel
theorem dX5_left_73 : decode cX5_left 73 = .ok (.aload_n 0, 1) := by decide +kernel
theorem dX5_left_74 : decode cX5_left 74 = .ok (.getfield 17, 3) := by decide +kernel
theorem dX5_left_77 : decode cX5_left 77 = .ok (.iload_n 1, 1) := by decide +kernel
theorem dX5_left_78 : decode cX5_left 78 = .ok (.iaload, 1) := by decide +kernel
theorem dX5_left_79 : decode cX5_left 79 = .ok (.iload_n 3, 1) := by decide +kernel
theorem dX5_left_80 : decode cX5_left 80 = .ok (.invokevirtual 169, 3) := by decide +kernel
theorem dX5_left_83 : decode cX5_left 83 = .ok (.ifCond .eq 15, 3) := by decide +kernel
theorem dX5_left_86 : decode cX5_left 86 = .ok (.aload_n 0, 1) := by decide +kernel
theorem dX5_left_87 : decode cX5_left 87 = .ok (.getfield 54, 3) := by decide +kernel
theorem dX5_left_90 : decode cX5_left 90 = .ok (.iload 5, 2) := by decide +kernel
theorem dX5_left_92 : decode cX5_left 92 = .ok (.iaload, 1) := by decide +kernel
theorem dX5_left_93 : decode cX5_left 93 = .ok (.iconst (-1), 1) := by decide +kernel
theorem dX5_left_94 : decode cX5_left 94 = .ok (.ixor, 1) := by decide +kernel
theorem dX5_left_95 : decode cX5_left 95 = .ok (.goto 6, 3) := by decide +kernel
theorem dX5_left_98 : decode cX5_left 98 = .ok (.sipush 255, 3) := by decide +kernel
theorem dX5_left_101 : decode cX5_left 101 = .ok (.iand, 1) := by decide +kernel
theorem dX5_left_102 : decode cX5_left 102 = .ok (.istore 4, 2) := by decide +kernel
theorem dX5_left_104 : decode cX5_left 104 = .ok (.iinc 5 1, 3) := by decide +kernel
theorem dX5_left_107 : decode cX5_left 107 = .ok (.goto (-59), 3) := by decide +kernel
theorem dX5_left_110 : decode cX5_left 110 = .ok (.iload 4, 2) := by decide +kernel
theorem dX5_left_112 : decode cX5_left 112 = .ok (.ireturn, 1) := by decide +kernel
theorem dX5_days_0 : decode cX5_days 0 = .ok (.iload_n 1, 1) := by decide +kernel
theorem dX5_days_1 : decode cX5_days 1 = .ok (.iconst 1, 1) := by decide +kernel
theorem dX5_days_2 : decode cX5_days 2 = .ok (.bipush 20, 2) := by decide +kernel
theorem dX5_days_4 : decode cX5_days 4 = .ok (.invokestatic 93, 3) := by decide +kernel
theorem dX5_days_7 : decode cX5_days 7 = .ok (.ifCond .ne 5, 3) := by decide +kernel
theorem dX5_days_10 : decode cX5_days 10 = .ok (.iconst (-1), 1) := by decide +kernel
theorem dX5_days_11 : decode cX5_days 11 = .ok (.ireturn, 1) := by decide +kernel
theorem dX5_days_12 : decode cX5_days 12 = .ok (.aload_n 0, 1) := by decide +kernel
theorem dX5_days_13 : decode cX5_days 13 = .ok (.getfield 90, 3) := by decide +kernel
theorem dX5_days_16 : decode cX5_days 16 = .ok (.iload_n 1, 1) := by decide +kernel
theorem dX5_days_17 : decode cX5_days 17 = .ok (.iadd, 1) := by decide +kernel
theorem dX5_days_18 : decode cX5_days 18 = .ok (.bipush 40, 2) := by decide +kernel
theorem dX5_days_20 : decode cX5_days 20 = .ok (.if_icmp .lt 6, 3) := by decide +kernel
theorem dX5_days_23 : decode cX5_days 23 = .ok (.bipush (-2), 2) := by decide +kernel
theorem dX5_days_25 : decode cX5_days 25 = .ok (.ireturn, 1) := by decide +kernel
theorem dX5_days_26 : decode cX5_days 26 = .ok (.aload_n 0, 1) := by decide +kernel
theorem dX5_days_27 : decode cX5_days 27 = .ok (.dup, 1) := by decide +kernel
theorem dX5_days_28 : decode cX5_days 28 = .ok (.getfield 90, 3) := by decide +kernel
theorem dX5_days_31 : decode cX5_days 31 = .ok (.iload_n 1, 1) := by decide +kernel
theorem dX5_days_32 : decode cX5_days 32 = .ok (.iadd, 1) := by decide +kernel
theorem dX5_days_33 : decode cX5_days 33 = .ok (.putfield 90, 3) := by decide +kernel
theorem dX5_days_36 : decode cX5_days 36 = .ok (.aload_n 0, 1) := by decide +kernel
theorem dX5_days_37 : decode cX5_days 37 = .ok (.getfield 90, 3) := by decide +kernel
theorem dX5_days_40 : decode cX5_days 40 = .ok (.ireturn, 1) := by decide +kernel
theorem dX5_latest_0 : decode cX5_latest 0 = .ok (.iconst 0, 1) := by decide +kernel
theorem dX5_latest_1 : decode cX5_latest 1 = .ok (.istore_n 2, 1) := by decide +kernel
theorem dX5_latest_2 : decode cX5_latest 2 = .ok (.iconst 0, 1) := by decide +kernel
theorem dX5_latest_3 : decode cX5_latest 3 = .ok (.istore_n 3, 1) := by decide +kernel
theorem dX5_latest_4 : decode cX5_latest 4 = .ok (.iload_n 3, 1) := by decide +kernel
theorem dX5_latest_5 : decode cX5_latest 5 = .ok (.bipush 6, 2) := by decide +kernel
theorem dX5_latest_7 : decode cX5_latest 7 = .ok (.if_icmp .ge 40, 3) := by decide +kernel
theorem dX5_latest_10 : decode cX5_latest 10 = .ok (.aload_n 0, 1) := by decide +kernel
theorem dX5_latest_11 : decode cX5_latest 11 = .ok (.getfield 63, 3) := by decide +kernel
theorem dX5_latest_14 : decode cX5_latest 14 = .ok (.bipush 6, 2) := by decide +kernel
theorem dX5_latest_16 : decode cX5_latest 16 = .ok (.iload_n 1, 1) := by decide +kernel
theorem dX5_latest_17 : decode cX5_latest 17 = .ok (.imul, 1) := by decide +kernel
theorem dX5_latest_18 : decode cX5_latest 18 = .ok (.iload_n 3, 1) := by decide +kernel
theorem dX5_latest_19 : decode cX5_latest 19 = .ok (.iadd, 1) := by decide +kernel
theorem dX5_latest_20 : decode cX5_latest 20 = .ok (.iaload, 1) := by decide +kernel
theorem dX5_latest_21 : decode cX5_latest 21 = .ok (.iload_n 2, 1) := by decide +kernel
theorem dX5_latest_22 : decode cX5_latest 22 = .ok (.if_icmp .le 17, 3) := by decide +kernel
theorem dX5_latest_25 : decode cX5_latest 25 = .ok (.aload_n 0, 1) := by decide +kernel
theorem dX5_latest_26 : decode cX5_latest 26 = .ok (.getfield 63, 3) := by decide +kernel
theorem dX5_latest_29 : decode cX5_latest 29 = .ok (.bipush 6, 2) := by decide +kernel
theorem dX5_latest_31 : decode cX5_latest 31 = .ok (.iload_n 1, 1) := by decide +kernel
theorem dX5_latest_32 : decode cX5_latest 32 = .ok (.imul, 1) := by decide +kernel
theorem dX5_latest_33 : decode cX5_latest 33 = .ok (.iload_n 3, 1) := by decide +kernel
theorem dX5_latest_34 : decode cX5_latest 34 = .ok (.iadd, 1) := by decide +kernel
theorem dX5_latest_35 : decode cX5_latest 35 = .ok (.iaload, 1) := by decide +kernel
theorem dX5_latest_36 : decode cX5_latest 36 = .ok (.goto 4, 3) := by decide +kernel
theorem dX5_latest_39 : decode cX5_latest 39 = .ok (.iload_n 2, 1) := by decide +kernel
theorem dX5_latest_40 : decode cX5_latest 40 = .ok (.istore_n 2, 1) := by decide +kernel
theorem dX5_latest_41 : decode cX5_latest 41 = .ok (.iinc 3 1, 3) := by decide +kernel
theorem dX5_latest_44 : decode cX5_latest 44 = .ok (.goto (-40), 3) := by decide +kernel
theorem dX5_latest_47 : decode cX5_latest 47 = .ok (.iload_n 2, 1) := by decide +kernel
theorem dX5_latest_48 : decode cX5_latest 48 = .ok (.invokestatic 172, 3) := by decide +kernel
theorem dX5_latest_51 : decode cX5_latest 51 = .ok (.ireturn, 1) := by decide +kernel
theorem dX5_promise_0 : decode cX5_promise 0 = .ok (.iload_n 1, 1) := by decide +kernel
theorem dX5_promise_1 : decode cX5_promise 1 = .ok (.invokestatic 97, 3) := by decide +kernel
theorem dX5_promise_4 : decode cX5_promise 4 = .ok (.ifCond .eq 26, 3) := by decide +kernel
theorem dX5_promise_7 : decode cX5_promise 7 = .ok (.iload_n 2, 1) := by decide +kernel
theorem dX5_promise_8 : decode cX5_promise 8 = .ok (.invokestatic 108, 3) := by decide +kernel
theorem dX5_promise_11 : decode cX5_promise 11 = .ok (.ifCond .eq 19, 3) := by decide +kernel
theorem dX5_promise_14 : decode cX5_promise 14 = .ok (.iload_n 3, 1) := by decide +kernel
theorem dX5_promise_15 : decode cX5_promise 15 = .ok (.bipush (-9), 2) := by decide +kernel
theorem dX5_promise_17 : decode cX5_promise 17 = .ok (.if_icmp .eq 16, 3) := by decide +kernel
theorem dX5_promise_20 : decode cX5_promise 20 = .ok (.iload_n 3, 1) := by decide +kernel
theorem dX5_promise_21 : decode cX5_promise 21 = .ok (.iconst 0, 1) := by decide +kernel
theorem dX5_promise_22 : decode cX5_promise 22 = .ok (.bipush 39, 2) := by decide +kernel
theorem dX5_promise_24 : decode cX5_promise 24 = .ok (.invokestatic 93, 3) := by decide +kernel
theorem dX5_promise_27 : decode cX5_promise 27 = .ok (.ifCond .ne 6, 3) := by decide +kernel
theorem dX5_promise_30 : decode cX5_promise 30 = .ok (.bipush (-2), 2) := by decide +kernel
theorem dX5_promise_32 : decode cX5_promise 32 = .ok (.ireturn, 1) := by decide +kernel
theorem dX5_promise_33 : decode cX5_promise 33 = .ok (.aload_n 0, 1) := by decide +kernel
theorem dX5_promise_34 : decode cX5_promise 34 = .ok (.iload_n 1, 1) := by decide +kernel
theorem dX5_promise_35 : decode cX5_promise 35 = .ok (.invokevirtual 150, 3) := by decide +kernel
theorem dX5_promise_38 : decode cX5_promise 38 = .ok (.ifCond .eq 6, 3) := by decide +kernel
theorem dX5_promise_41 : decode cX5_promise 41 = .ok (.bipush (-3), 2) := by decide +kernel
theorem dX5_promise_43 : decode cX5_promise 43 = .ok (.ireturn, 1) := by decide +kernel
theorem dX5_promise_44 : decode cX5_promise 44 = .ok (.aload_n 0, 1) := by decide +kernel
theorem dX5_promise_45 : decode cX5_promise 45 = .ok (.getfield 63, 3) := by decide +kernel
theorem dX5_promise_48 : decode cX5_promise 48 = .ok (.bipush 6, 2) := by decide +kernel
theorem dX5_promise_50 : decode cX5_promise 50 = .ok (.iload_n 1, 1) := by decide +kernel
theorem dX5_promise_51 : decode cX5_promise 51 = .ok (.imul, 1) := by decide +kernel
theorem dX5_promise_52 : decode cX5_promise 52 = .ok (.iload_n 2, 1) := by decide +kernel
theorem dX5_promise_53 : decode cX5_promise 53 = .ok (.iadd, 1) := by decide +kernel
theorem dX5_promise_54 : decode cX5_promise 54 = .ok (.iaload, 1) := by decide +kernel
theorem dX5_promise_55 : decode cX5_promise 55 = .ok (.invokestatic 172, 3) := by decide +kernel
theorem dX5_promise_58 : decode cX5_promise 58 = .ok (.istore 4, 2) := by decide +kernel
theorem dX5_promise_60 : decode cX5_promise 60 = .ok (.aload_n 0, 1) := by decide +kernel
theorem dX5_promise_61 : decode cX5_promise 61 = .ok (.getfield 63, 3) := by decide +kernel
theorem dX5_promise_64 : decode cX5_promise 64 = .ok (.bipush 6, 2) := by decide +kernel
theorem dX5_promise_66 : decode cX5_promise 66 = .ok (.iload_n 1, 1) := by decide +kernel
theorem dX5_promise_67 : decode cX5_promise 67 = .ok (.imul, 1) := by decide +kernel
theorem dX5_promise_68 : decode cX5_promise 68 = .ok (.iload_n 2, 1) := by decide +kernel
theorem dX5_promise_69 : decode cX5_promise 69 = .ok (.iadd, 1) := by decide +kernel
theorem dX5_promise_70 : decode cX5_promise 70 = .ok (.iload_n 3, 1) := by decide +kernel
theorem dX5_promise_71 : decode cX5_promise 71 = .ok (.bipush (-9), 2) := by decide +kernel
theorem dX5_promise_73 : decode cX5_promise 73 = .ok (.if_icmp .ne 7, 3) := by decide +kernel
theorem dX5_promise_76 : decode cX5_promise 76 = .ok (.iconst 0, 1) := by decide +kernel
theorem dX5_promise_77 : decode cX5_promise 77 = .ok (.goto 6, 3) := by decide +kernel
theorem dX5_promise_80 : decode cX5_promise 80 = .ok (.iload_n 3, 1) := by decide +kernel
theorem dX5_promise_81 : decode cX5_promise 81 = .ok (.iconst 1, 1) := by decide +kernel
theorem dX5_promise_82 : decode cX5_promise 82 = .ok (.iadd, 1) := by decide +kernel
theorem dX5_promise_83 : decode cX5_promise 83 = .ok (.iastore, 1) := by decide +kernel
theorem dX5_promise_84 : decode cX5_promise 84 = .ok (.iload_n 3, 1) := by decide +kernel
theorem dX5_promise_85 : decode cX5_promise 85 = .ok (.bipush (-9), 2) := by decide +kernel
theorem dX5_promise_87 : decode cX5_promise 87 = .ok (.if_icmp .eq 33, 3) := by decide +kernel
theorem dX5_promise_90 : decode cX5_promise 90 = .ok (.aload_n 0, 1) := by decide +kernel
theorem dX5_promise_91 : decode cX5_promise 91 = .ok (.getfield 66, 3) := by decide +kernel
theorem dX5_promise_94 : decode cX5_promise 94 = .ok (.iload_n 1, 1) := by decide +kernel
theorem dX5_promise_95 : decode cX5_promise 95 = .ok (.iaload, 1) := by decide +kernel
theorem dX5_promise_96 : decode cX5_promise 96 = .ok (.bipush (-9), 2) := by decide +kernel
theorem dX5_promise_98 : decode cX5_promise 98 = .ok (.if_icmp .eq 22, 3) := by decide +kernel
theorem dX5_promise_101 : decode cX5_promise 101 = .ok (.aload_n 0, 1) := by decide +kernel
theorem dX5_promise_102 : decode cX5_promise 102 = .ok (.getfield 66, 3) := by decide +kernel
theorem dX5_promise_105 : decode cX5_promise 105 = .ok (.iload_n 1, 1) := by decide +kernel
theorem dX5_promise_106 : decode cX5_promise 106 = .ok (.iaload, 1) := by decide +kernel
theorem dX5_promise_107 : decode cX5_promise 107 = .ok (.iload_n 3, 1) := by decide +kernel
theorem dX5_promise_108 : decode cX5_promise 108 = .ok (.if_icmp .gt 12, 3) := by decide +kernel
theorem dX5_promise_111 : decode cX5_promise 111 = .ok (.aload_n 0, 1) := by decide +kernel
theorem dX5_promise_112 : decode cX5_promise 112 = .ok (.getfield 66, 3) := by decide +kernel
theorem dX5_promise_115 : decode cX5_promise 115 = .ok (.iload_n 1, 1) := by decide +kernel
theorem dX5_promise_116 : decode cX5_promise 116 = .ok (.iload_n 3, 1) := by decide +kernel
theorem dX5_promise_117 : decode cX5_promise 117 = .ok (.iconst 1, 1) := by decide +kernel
theorem dX5_promise_118 : decode cX5_promise 118 = .ok (.iadd, 1) := by decide +kernel
theorem dX5_promise_119 : decode cX5_promise 119 = .ok (.iastore, 1) := by decide +kernel
theorem dX5_promise_120 : decode cX5_promise 120 = .ok (.iload 4, 2) := by decide +kernel
theorem dX5_promise_122 : decode cX5_promise 122 = .ok (.ireturn, 1) := by decide +kernel
theorem dX5_shut_0 : decode cX5_shut 0 = .ok (.iload_n 1, 1) := by decide +kernel
theorem dX5_shut_1 : decode cX5_shut 1 = .ok (.invokestatic 97, 3) := by decide +kernel
theorem dX5_shut_4 : decode cX5_shut 4 = .ok (.ifCond .eq 16, 3) := by decide +kernel
theorem dX5_shut_7 : decode cX5_shut 7 = .ok (.iload_n 2, 1) := by decide +kernel
theorem dX5_shut_8 : decode cX5_shut 8 = .ok (.aload_n 0, 1) := by decide +kernel
theorem dX5_shut_9 : decode cX5_shut 9 = .ok (.getfield 90, 3) := by decide +kernel
theorem dX5_shut_12 : decode cX5_shut 12 = .ok (.bipush 40, 2) := by decide +kernel
theorem dX5_shut_14 : decode cX5_shut 14 = .ok (.invokestatic 93, 3) := by decide +kernel
theorem dX5_shut_17 : decode cX5_shut 17 = .ok (.ifCond .ne 5, 3) := by decide +kernel
theorem dX5_shut_20 : decode cX5_shut 20 = .ok (.iconst (-1), 1) := by decide +kernel
theorem dX5_shut_21 : decode cX5_shut 21 = .ok (.ireturn, 1) := by decide +kernel
theorem dX5_shut_22 : decode cX5_shut 22 = .ok (.aload_n 0, 1) := by decide +kernel
theorem dX5_shut_23 : decode cX5_shut 23 = .ok (.iload_n 1, 1) := by decide +kernel
theorem dX5_shut_24 : decode cX5_shut 24 = .ok (.invokevirtual 150, 3) := by decide +kernel
theorem dX5_shut_27 : decode cX5_shut 27 = .ok (.ifCond .ne 12, 3) := by decide +kernel
theorem dX5_shut_30 : decode cX5_shut 30 = .ok (.aload_n 0, 1) := by decide +kernel
theorem dX5_shut_31 : decode cX5_shut 31 = .ok (.iload_n 1, 1) := by decide +kernel
theorem dX5_shut_32 : decode cX5_shut 32 = .ok (.invokevirtual 176, 3) := by decide +kernel
theorem dX5_shut_35 : decode cX5_shut 35 = .ok (.iload_n 2, 1) := by decide +kernel
theorem dX5_shut_36 : decode cX5_shut 36 = .ok (.if_icmp .lt 6, 3) := by decide +kernel
theorem dX5_shut_39 : decode cX5_shut 39 = .ok (.bipush (-2), 2) := by decide +kernel
theorem dX5_shut_41 : decode cX5_shut 41 = .ok (.ireturn, 1) := by decide +kernel
theorem dX5_shut_42 : decode cX5_shut 42 = .ok (.aload_n 0, 1) := by decide +kernel
theorem dX5_shut_43 : decode cX5_shut 43 = .ok (.getfield 66, 3) := by decide +kernel
theorem dX5_shut_46 : decode cX5_shut 46 = .ok (.iload_n 1, 1) := by decide +kernel
theorem dX5_shut_47 : decode cX5_shut 47 = .ok (.iload_n 2, 1) := by decide +kernel
theorem dX5_shut_48 : decode cX5_shut 48 = .ok (.iastore, 1) := by decide +kernel
theorem dX5_shut_49 : decode cX5_shut 49 = .ok (.iload_n 2, 1) := by decide +kernel
theorem dX5_shut_50 : decode cX5_shut 50 = .ok (.ireturn, 1) := by decide +kernel
theorem dX5_open_0 : decode cX5_open 0 = .ok (.iload_n 1, 1) := by decide +kernel
theorem dX5_open_1 : decode cX5_open 1 = .ok (.invokestatic 97, 3) := by decide +kernel
theorem dX5_open_4 : decode cX5_open 4 = .ok (.ifCond .ne 5, 3) := by decide +kernel
theorem dX5_open_7 : decode cX5_open 7 = .ok (.iconst (-1), 1) := by decide +kernel
theorem dX5_open_8 : decode cX5_open 8 = .ok (.ireturn, 1) := by decide +kernel
theorem dX5_open_9 : decode cX5_open 9 = .ok (.aload_n 0, 1) := by decide +kernel
theorem dX5_open_10 : decode cX5_open 10 = .ok (.getfield 66, 3) := by decide +kernel
theorem dX5_open_13 : decode cX5_open 13 = .ok (.iload_n 1, 1) := by decide +kernel
theorem dX5_open_14 : decode cX5_open 14 = .ok (.iaload, 1) := by decide +kernel
theorem dX5_open_15 : decode cX5_open 15 = .ok (.bipush (-9), 2) := by decide +kernel
theorem dX5_open_17 : decode cX5_open 17 = .ok (.if_icmp .ne 6, 3) := by decide +kernel
theorem dX5_open_20 : decode cX5_open 20 = .ok (.bipush (-2), 2) := by decide +kernel
theorem dX5_open_22 : decode cX5_open 22 = .ok (.ireturn, 1) := by decide +kernel
theorem dX5_open_23 : decode cX5_open 23 = .ok (.aload_n 0, 1) := by decide +kernel
theorem dX5_open_24 : decode cX5_open 24 = .ok (.getfield 66, 3) := by decide +kernel
theorem dX5_open_27 : decode cX5_open 27 = .ok (.iload_n 1, 1) := by decide +kernel
theorem dX5_open_28 : decode cX5_open 28 = .ok (.iaload, 1) := by decide +kernel
theorem dX5_open_29 : decode cX5_open 29 = .ok (.istore_n 2, 1) := by decide +kernel
theorem dX5_open_30 : decode cX5_open 30 = .ok (.aload_n 0, 1) := by decide +kernel
theorem dX5_open_31 : decode cX5_open 31 = .ok (.getfield 66, 3) := by decide +kernel
theorem dX5_open_34 : decode cX5_open 34 = .ok (.iload_n 1, 1) := by decide +kernel
theorem dX5_open_35 : decode cX5_open 35 = .ok (.bipush (-9), 2) := by decide +kernel
theorem dX5_open_37 : decode cX5_open 37 = .ok (.iastore, 1) := by decide +kernel
theorem dX5_open_38 : decode cX5_open 38 = .ok (.iload_n 2, 1) := by decide +kernel
theorem dX5_open_39 : decode cX5_open 39 = .ok (.ireturn, 1) := by decide +kernel
theorem dX5_about_0 : decode cX5_about 0 = .ok (.iload_n 1, 1) := by decide +kernel
theorem dX5_about_1 : decode cX5_about 1 = .ok (.invokestatic 97, 3) := by decide +kernel
theorem dX5_about_4 : decode cX5_about 4 = .ok (.ifCond .ne 5, 3) := by decide +kernel
theorem dX5_about_7 : decode cX5_about 7 = .ok (.iconst (-1), 1) := by decide +kernel
theorem dX5_about_8 : decode cX5_about 8 = .ok (.ireturn, 1) := by decide +kernel
theorem dX5_about_9 : decode cX5_about 9 = .ok (.iload_n 2, 1) := by decide +kernel
theorem dX5_about_10 : decode cX5_about 10 = .ok (.tableswitch 64 0 3 #[30, 37, 51, 57], 30) := by decide +kernel
theorem dX5_about_40 : decode cX5_about 40 = .ok (.aload_n 0, 1) := by decide +kernel
theorem dX5_about_41 : decode cX5_about 41 = .ok (.getfield 66, 3) := by decide +kernel
theorem dX5_about_44 : decode cX5_about 44 = .ok (.iload_n 1, 1) := by decide +kernel
theorem dX5_about_45 : decode cX5_about 45 = .ok (.iaload, 1) := by decide +kernel
theorem dX5_about_46 : decode cX5_about 46 = .ok (.ireturn, 1) := by decide +kernel
theorem dX5_about_47 : decode cX5_about 47 = .ok (.aload_n 0, 1) := by decide +kernel
theorem dX5_about_48 : decode cX5_about 48 = .ok (.iload_n 1, 1) := by decide +kernel
theorem dX5_about_49 : decode cX5_about 49 = .ok (.invokevirtual 150, 3) := by decide +kernel
theorem dX5_about_52 : decode cX5_about 52 = .ok (.ifCond .eq 7, 3) := by decide +kernel
theorem dX5_about_55 : decode cX5_about 55 = .ok (.iconst 1, 1) := by decide +kernel
theorem dX5_about_56 : decode cX5_about 56 = .ok (.goto 4, 3) := by decide +kernel
theorem dX5_about_59 : decode cX5_about 59 = .ok (.iconst 0, 1) := by decide +kernel
theorem dX5_about_60 : decode cX5_about 60 = .ok (.ireturn, 1) := by decide +kernel
theorem dX5_about_61 : decode cX5_about 61 = .ok (.aload_n 0, 1) := by decide +kernel
theorem dX5_about_62 : decode cX5_about 62 = .ok (.iload_n 1, 1) := by decide +kernel
theorem dX5_about_63 : decode cX5_about 63 = .ok (.invokevirtual 176, 3) := by decide +kernel
theorem dX5_about_66 : decode cX5_about 66 = .ok (.ireturn, 1) := by decide +kernel
theorem dX5_about_67 : decode cX5_about 67 = .ok (.aload_n 0, 1) := by decide +kernel
theorem dX5_about_68 : decode cX5_about 68 = .ok (.getfield 69, 3) := by decide +kernel
theorem dX5_about_71 : decode cX5_about 71 = .ok (.iload_n 1, 1) := by decide +kernel
theorem dX5_about_72 : decode cX5_about 72 = .ok (.iaload, 1) := by decide +kernel
theorem dX5_about_73 : decode cX5_about 73 = .ok (.ireturn, 1) := by decide +kernel
theorem dX5_about_74 : decode cX5_about 74 = .ok (.iconst (-1), 1) := by decide +kernel
theorem dX5_about_75 : decode cX5_about 75 = .ok (.ireturn, 1) := by decide +kernel
theorem dX5_harmOn_0 : decode cX5_harmOn 0 = .ok (.iconst 0, 1) := by decide +kernel
theorem dX5_harmOn_1 : decode cX5_harmOn 1 = .ok (.istore_n 3, 1) := by decide +kernel
theorem dX5_harmOn_2 : decode cX5_harmOn 2 = .ok (.iconst 0, 1) := by decide +kernel
theorem dX5_harmOn_3 : decode cX5_harmOn 3 = .ok (.istore 4, 2) := by decide +kernel
theorem dX5_harmOn_5 : decode cX5_harmOn 5 = .ok (.iload 4, 2) := by decide +kernel
theorem dX5_harmOn_7 : decode cX5_harmOn 7 = .ok (.bipush 6, 2) := by decide +kernel
theorem dX5_harmOn_9 : decode cX5_harmOn 9 = .ok (.if_icmp .ge 71, 3) := by decide +kernel
theorem dX5_harmOn_12 : decode cX5_harmOn 12 = .ok (.iload_n 2, 1) := by decide +kernel
theorem dX5_harmOn_13 : decode cX5_harmOn 13 = .ok (.bipush 7, 2) := by decide +kernel
theorem dX5_harmOn_15 : decode cX5_harmOn 15 = .ok (.if_icmp .le 10, 3) := by decide +kernel
theorem dX5_harmOn_18 : decode cX5_harmOn 18 = .ok (.iload_n 2, 1) := by decide +kernel
theorem dX5_harmOn_19 : decode cX5_harmOn 19 = .ok (.bipush 7, 2) := by decide +kernel
theorem dX5_harmOn_21 : decode cX5_harmOn 21 = .ok (.isub, 1) := by decide +kernel
theorem dX5_harmOn_22 : decode cX5_harmOn 22 = .ok (.goto 4, 3) := by decide +kernel
theorem dX5_harmOn_25 : decode cX5_harmOn 25 = .ok (.iconst 0, 1) := by decide +kernel
theorem dX5_harmOn_26 : decode cX5_harmOn 26 = .ok (.istore 5, 2) := by decide +kernel
theorem dX5_harmOn_28 : decode cX5_harmOn 28 = .ok (.iload_n 2, 1) := by decide +kernel
theorem dX5_harmOn_29 : decode cX5_harmOn 29 = .ok (.bipush 40, 2) := by decide +kernel
theorem dX5_harmOn_31 : decode cX5_harmOn 31 = .ok (.if_icmp .ge 7, 3) := by decide +kernel
theorem dX5_harmOn_34 : decode cX5_harmOn 34 = .ok (.iload_n 2, 1) := by decide +kernel
theorem dX5_harmOn_35 : decode cX5_harmOn 35 = .ok (.goto 5, 3) := by decide +kernel
theorem dX5_harmOn_38 : decode cX5_harmOn 38 = .ok (.bipush 39, 2) := by decide +kernel
theorem dX5_harmOn_40 : decode cX5_harmOn 40 = .ok (.istore 6, 2) := by decide +kernel
theorem dX5_harmOn_42 : decode cX5_harmOn 42 = .ok (.iload_n 3, 1) := by decide +kernel
theorem dX5_harmOn_43 : decode cX5_harmOn 43 = .ok (.aload_n 0, 1) := by decide +kernel
theorem dX5_harmOn_44 : decode cX5_harmOn 44 = .ok (.iload 4, 2) := by decide +kernel
theorem dX5_harmOn_46 : decode cX5_harmOn 46 = .ok (.iload_n 1, 1) := by decide +kernel
theorem dX5_harmOn_47 : decode cX5_harmOn 47 = .ok (.invokevirtual 147, 3) := by decide +kernel
theorem dX5_harmOn_50 : decode cX5_harmOn 50 = .ok (.ifCond .ne 17, 3) := by decide +kernel
theorem dX5_harmOn_53 : decode cX5_harmOn 53 = .ok (.aload_n 0, 1) := by decide +kernel
theorem dX5_harmOn_54 : decode cX5_harmOn 54 = .ok (.iload 4, 2) := by decide +kernel
theorem dX5_harmOn_56 : decode cX5_harmOn 56 = .ok (.iload_n 1, 1) := by decide +kernel
theorem dX5_harmOn_57 : decode cX5_harmOn 57 = .ok (.iload 5, 2) := by decide +kernel
theorem dX5_harmOn_59 : decode cX5_harmOn 59 = .ok (.iload 6, 2) := by decide +kernel
theorem dX5_harmOn_61 : decode cX5_harmOn 61 = .ok (.invokevirtual 156, 3) := by decide +kernel
theorem dX5_harmOn_64 : decode cX5_harmOn 64 = .ok (.ifCond .le 7, 3) := by decide +kernel
theorem dX5_harmOn_67 : decode cX5_harmOn 67 = .ok (.iconst 1, 1) := by decide +kernel
theorem dX5_harmOn_68 : decode cX5_harmOn 68 = .ok (.goto 4, 3) := by decide +kernel
theorem dX5_harmOn_71 : decode cX5_harmOn 71 = .ok (.iconst 0, 1) := by decide +kernel
theorem dX5_harmOn_72 : decode cX5_harmOn 72 = .ok (.iadd, 1) := by decide +kernel
theorem dX5_harmOn_73 : decode cX5_harmOn 73 = .ok (.istore_n 3, 1) := by decide +kernel
theorem dX5_harmOn_74 : decode cX5_harmOn 74 = .ok (.iinc 4 1, 3) := by decide +kernel
theorem dX5_harmOn_77 : decode cX5_harmOn 77 = .ok (.goto (-72), 3) := by decide +kernel
theorem dX5_harmOn_80 : decode cX5_harmOn 80 = .ok (.iload_n 3, 1) := by decide +kernel
theorem dX5_harmOn_81 : decode cX5_harmOn 81 = .ok (.ireturn, 1) := by decide +kernel
theorem dX5_harmed_0 : decode cX5_harmed 0 = .ok (.iload_n 1, 1) := by decide +kernel
theorem dX5_harmed_1 : decode cX5_harmed 1 = .ok (.invokestatic 97, 3) := by decide +kernel
theorem dX5_harmed_4 : decode cX5_harmed 4 = .ok (.ifCond .eq 22, 3) := by decide +kernel
theorem dX5_harmed_7 : decode cX5_harmed 7 = .ok (.iload_n 2, 1) := by decide +kernel
theorem dX5_harmed_8 : decode cX5_harmed 8 = .ok (.iconst 0, 1) := by decide +kernel
theorem dX5_harmed_9 : decode cX5_harmed 9 = .ok (.bipush 40, 2) := by decide +kernel
theorem dX5_harmed_11 : decode cX5_harmed 11 = .ok (.invokestatic 93, 3) := by decide +kernel
theorem dX5_harmed_14 : decode cX5_harmed 14 = .ok (.ifCond .eq 12, 3) := by decide +kernel
theorem dX5_harmed_17 : decode cX5_harmed 17 = .ok (.aload_n 0, 1) := by decide +kernel
theorem dX5_harmed_18 : decode cX5_harmed 18 = .ok (.iload_n 1, 1) := by decide +kernel
theorem dX5_harmed_19 : decode cX5_harmed 19 = .ok (.iload_n 2, 1) := by decide +kernel
theorem dX5_harmed_20 : decode cX5_harmed 20 = .ok (.invokevirtual 179, 3) := by decide +kernel
theorem dX5_harmed_23 : decode cX5_harmed 23 = .ok (.goto 4, 3) := by decide +kernel
theorem dX5_harmed_26 : decode cX5_harmed 26 = .ok (.iconst (-1), 1) := by decide +kernel
theorem dX5_harmed_27 : decode cX5_harmed 27 = .ok (.ireturn, 1) := by decide +kernel
theorem dX5_ready_0 : decode cX5_ready 0 = .ok (.iload_n 1, 1) := by decide +kernel
theorem dX5_ready_1 : decode cX5_ready 1 = .ok (.invokestatic 97, 3) := by decide +kernel
theorem dX5_ready_4 : decode cX5_ready 4 = .ok (.ifCond .ne 5, 3) := by decide +kernel
theorem dX5_ready_7 : decode cX5_ready 7 = .ok (.iconst (-1), 1) := by decide +kernel
theorem dX5_ready_8 : decode cX5_ready 8 = .ok (.ireturn, 1) := by decide +kernel
theorem dX5_ready_9 : decode cX5_ready 9 = .ok (.aload_n 0, 1) := by decide +kernel
theorem dX5_ready_10 : decode cX5_ready 10 = .ok (.getfield 90, 3) := by decide +kernel
theorem dX5_ready_13 : decode cX5_ready 13 = .ok (.istore_n 2, 1) := by decide +kernel
theorem dX5_ready_14 : decode cX5_ready 14 = .ok (.iload_n 2, 1) := by decide +kernel
theorem dX5_ready_15 : decode cX5_ready 15 = .ok (.bipush 40, 2) := by decide +kernel
theorem dX5_ready_17 : decode cX5_ready 17 = .ok (.if_icmp .gt 29, 3) := by decide +kernel
theorem dX5_ready_20 : decode cX5_ready 20 = .ok (.aload_n 0, 1) := by decide +kernel
theorem dX5_ready_21 : decode cX5_ready 21 = .ok (.iload_n 1, 1) := by decide +kernel
theorem dX5_ready_22 : decode cX5_ready 22 = .ok (.invokevirtual 176, 3) := by decide +kernel
theorem dX5_ready_25 : decode cX5_ready 25 = .ok (.iload_n 2, 1) := by decide +kernel
theorem dX5_ready_26 : decode cX5_ready 26 = .ok (.if_icmp .ge 14, 3) := by decide +kernel
theorem dX5_ready_29 : decode cX5_ready 29 = .ok (.aload_n 0, 1) := by decide +kernel
theorem dX5_ready_30 : decode cX5_ready 30 = .ok (.iload_n 1, 1) := by decide +kernel
theorem dX5_ready_31 : decode cX5_ready 31 = .ok (.iload_n 2, 1) := by decide +kernel
theorem dX5_ready_32 : decode cX5_ready 32 = .ok (.invokevirtual 179, 3) := by decide +kernel
theorem dX5_ready_35 : decode cX5_ready 35 = .ok (.ifCond .ne 5, 3) := by decide +kernel
theorem dX5_ready_38 : decode cX5_ready 38 = .ok (.iload_n 2, 1) := by decide +kernel
theorem dX5_ready_39 : decode cX5_ready 39 = .ok (.ireturn, 1) := by decide +kernel
theorem dX5_ready_40 : decode cX5_ready 40 = .ok (.iinc 2 1, 3) := by decide +kernel
theorem dX5_ready_43 : decode cX5_ready 43 = .ok (.goto (-29), 3) := by decide +kernel
theorem dX5_ready_46 : decode cX5_ready 46 = .ok (.bipush (-9), 2) := by decide +kernel
theorem dX5_ready_48 : decode cX5_ready 48 = .ok (.ireturn, 1) := by decide +kernel
theorem dX5_set_0 : decode cX5_set 0 = .ok (.iconst (-1), 1) := by decide +kernel
theorem dX5_set_1 : decode cX5_set 1 = .ok (.istore 4, 2) := by decide +kernel
theorem dX5_set_3 : decode cX5_set 3 = .ok (.iload_n 3, 1) := by decide +kernel
theorem dX5_set_4 : decode cX5_set 4 = .ok (.iconst 0, 1) := by decide +kernel
theorem dX5_set_5 : decode cX5_set 5 = .ok (.sipush 1000, 3) := by decide +kernel
theorem dX5_set_8 : decode cX5_set 8 = .ok (.invokestatic 93, 3) := by decide +kernel
theorem dX5_set_11 : decode cX5_set 11 = .ok (.ifCond .ne 5, 3) := by decide +kernel
theorem dX5_set_14 : decode cX5_set 14 = .ok (.iconst (-1), 1) := by decide +kernel
theorem dX5_set_15 : decode cX5_set 15 = .ok (.ireturn, 1) := by decide +kernel
theorem dX5_set_16 : decode cX5_set 16 = .ok (.iload_n 1, 1) := by decide +kernel
theorem dX5_set_17 : decode cX5_set 17 = .ok (.ifCond .ne 28, 3) := by decide +kernel
theorem dX5_set_20 : decode cX5_set 20 = .ok (.iload_n 2, 1) := by decide +kernel
theorem dX5_set_21 : decode cX5_set 21 = .ok (.invokestatic 97, 3) := by decide +kernel
theorem dX5_set_24 : decode cX5_set 24 = .ok (.ifCond .eq 21, 3) := by decide +kernel
theorem dX5_set_27 : decode cX5_set 27 = .ok (.aload_n 0, 1) := by decide +kernel
theorem dX5_set_28 : decode cX5_set 28 = .ok (.getfield 72, 3) := by decide +kernel
theorem dX5_set_31 : decode cX5_set 31 = .ok (.iload_n 2, 1) := by decide +kernel
theorem dX5_set_32 : decode cX5_set 32 = .ok (.iaload, 1) := by decide +kernel
theorem dX5_set_33 : decode cX5_set 33 = .ok (.istore 4, 2) := by decide +kernel
theorem dX5_set_35 : decode cX5_set 35 = .ok (.aload_n 0, 1) := by decide +kernel
theorem dX5_set_36 : decode cX5_set 36 = .ok (.getfield 72, 3) := by decide +kernel
theorem dX5_set_39 : decode cX5_set 39 = .ok (.iload_n 2, 1) := by decide +kernel
theorem dX5_set_40 : decode cX5_set 40 = .ok (.iload_n 3, 1) := by decide +kernel
theorem dX5_set_41 : decode cX5_set 41 = .ok (.iastore, 1) := by decide +kernel
theorem dX5_set_42 : decode cX5_set 42 = .ok (.goto 49, 3) := by decide +kernel
theorem dX5_set_45 : decode cX5_set 45 = .ok (.iload_n 1, 1) := by decide +kernel
theorem dX5_set_46 : decode cX5_set 46 = .ok (.iconst 1, 1) := by decide +kernel
theorem dX5_set_47 : decode cX5_set 47 = .ok (.if_icmp .ne 28, 3) := by decide +kernel
theorem dX5_set_50 : decode cX5_set 50 = .ok (.iload_n 2, 1) := by decide +kernel
theorem dX5_set_51 : decode cX5_set 51 = .ok (.invokestatic 108, 3) := by decide +kernel
theorem dX5_set_54 : decode cX5_set 54 = .ok (.ifCond .eq 21, 3) := by decide +kernel
theorem dX5_set_57 : decode cX5_set 57 = .ok (.aload_n 0, 1) := by decide +kernel
theorem dX5_set_58 : decode cX5_set 58 = .ok (.getfield 75, 3) := by decide +kernel
theorem dX5_set_61 : decode cX5_set 61 = .ok (.iload_n 2, 1) := by decide +kernel
theorem dX5_set_62 : decode cX5_set 62 = .ok (.iaload, 1) := by decide +kernel
theorem dX5_set_63 : decode cX5_set 63 = .ok (.istore 4, 2) := by decide +kernel
theorem dX5_set_65 : decode cX5_set 65 = .ok (.aload_n 0, 1) := by decide +kernel
theorem dX5_set_66 : decode cX5_set 66 = .ok (.getfield 75, 3) := by decide +kernel
theorem dX5_set_69 : decode cX5_set 69 = .ok (.iload_n 2, 1) := by decide +kernel
theorem dX5_set_70 : decode cX5_set 70 = .ok (.iload_n 3, 1) := by decide +kernel
theorem dX5_set_71 : decode cX5_set 71 = .ok (.iastore, 1) := by decide +kernel
theorem dX5_set_72 : decode cX5_set 72 = .ok (.goto 19, 3) := by decide +kernel
theorem dX5_set_75 : decode cX5_set 75 = .ok (.iload_n 1, 1) := by decide +kernel
theorem dX5_set_76 : decode cX5_set 76 = .ok (.iconst 2, 1) := by decide +kernel
theorem dX5_set_77 : decode cX5_set 77 = .ok (.if_icmp .ne 14, 3) := by decide +kernel
theorem dX5_set_80 : decode cX5_set 80 = .ok (.aload_n 0, 1) := by decide +kernel
theorem dX5_set_81 : decode cX5_set 81 = .ok (.getfield 48, 3) := by decide +kernel
theorem dX5_set_84 : decode cX5_set 84 = .ok (.istore 4, 2) := by decide +kernel
theorem dX5_set_86 : decode cX5_set 86 = .ok (.aload_n 0, 1) := by decide +kernel
theorem dX5_set_87 : decode cX5_set 87 = .ok (.iload_n 3, 1) := by decide +kernel
theorem dX5_set_88 : decode cX5_set 88 = .ok (.putfield 48, 3) := by decide +kernel
theorem dX5_set_91 : decode cX5_set 91 = .ok (.iload 4, 2) := by decide +kernel
theorem dX5_set_93 : decode cX5_set 93 = .ok (.ireturn, 1) := by decide +kernel
theorem dX5_costOf_0 : decode cX5_costOf 0 = .ok (.iconst 0, 1) := by decide +kernel
theorem dX5_costOf_1 : decode cX5_costOf 1 = .ok (.istore_n 2, 1) := by decide +kernel
theorem dX5_costOf_2 : decode cX5_costOf 2 = .ok (.iconst 0, 1) := by decide +kernel
theorem dX5_costOf_3 : decode cX5_costOf 3 = .ok (.istore_n 3, 1) := by decide +kernel
theorem dX5_costOf_4 : decode cX5_costOf 4 = .ok (.iload_n 3, 1) := by decide +kernel
theorem dX5_costOf_5 : decode cX5_costOf 5 = .ok (.bipush 8, 2) := by decide +kernel
theorem dX5_costOf_7 : decode cX5_costOf 7 = .ok (.if_icmp .ge 36, 3) := by decide +kernel
theorem dX5_costOf_10 : decode cX5_costOf 10 = .ok (.iload_n 2, 1) := by decide +kernel
theorem dX5_costOf_11 : decode cX5_costOf 11 = .ok (.iload_n 1, 1) := by decide +kernel
theorem dX5_costOf_12 : decode cX5_costOf 12 = .ok (.iload_n 3, 1) := by decide +kernel
theorem dX5_costOf_13 : decode cX5_costOf 13 = .ok (.ishr, 1) := by decide +kernel
theorem dX5_costOf_14 : decode cX5_costOf 14 = .ok (.iconst 1, 1) := by decide +kernel
theorem dX5_costOf_15 : decode cX5_costOf 15 = .ok (.iand, 1) := by decide +kernel
theorem dX5_costOf_16 : decode cX5_costOf 16 = .ok (.iconst 1, 1) := by decide +kernel
theorem dX5_costOf_17 : decode cX5_costOf 17 = .ok (.if_icmp .ne 12, 3) := by decide +kernel
theorem dX5_costOf_20 : decode cX5_costOf 20 = .ok (.aload_n 0, 1) := by decide +kernel
theorem dX5_costOf_21 : decode cX5_costOf 21 = .ok (.getfield 72, 3) := by decide +kernel
theorem dX5_costOf_24 : decode cX5_costOf 24 = .ok (.iload_n 3, 1) := by decide +kernel
theorem dX5_costOf_25 : decode cX5_costOf 25 = .ok (.iaload, 1) := by decide +kernel
theorem dX5_costOf_26 : decode cX5_costOf 26 = .ok (.goto 9, 3) := by decide +kernel
theorem dX5_costOf_29 : decode cX5_costOf 29 = .ok (.aload_n 0, 1) := by decide +kernel
theorem dX5_costOf_30 : decode cX5_costOf 30 = .ok (.getfield 87, 3) := by decide +kernel
theorem dX5_costOf_33 : decode cX5_costOf 33 = .ok (.iload_n 3, 1) := by decide +kernel
theorem dX5_costOf_34 : decode cX5_costOf 34 = .ok (.iaload, 1) := by decide +kernel
theorem dX5_costOf_35 : decode cX5_costOf 35 = .ok (.iadd, 1) := by decide +kernel
theorem dX5_costOf_36 : decode cX5_costOf 36 = .ok (.istore_n 2, 1) := by decide +kernel
theorem dX5_costOf_37 : decode cX5_costOf 37 = .ok (.iinc 3 1, 3) := by decide +kernel
theorem dX5_costOf_40 : decode cX5_costOf 40 = .ok (.goto (-36), 3) := by decide +kernel
theorem dX5_costOf_43 : decode cX5_costOf 43 = .ok (.iload_n 2, 1) := by decide +kernel
theorem dX5_costOf_44 : decode cX5_costOf 44 = .ok (.ireturn, 1) := by decide +kernel
theorem dX5_plan_0 : decode cX5_plan 0 = .ok (.iload_n 1, 1) := by decide +kernel
theorem dX5_plan_1 : decode cX5_plan 1 = .ok (.iconst 0, 1) := by decide +kernel
theorem dX5_plan_2 : decode cX5_plan 2 = .ok (.iconst 1, 1) := by decide +kernel
theorem dX5_plan_3 : decode cX5_plan 3 = .ok (.invokestatic 93, 3) := by decide +kernel
theorem dX5_plan_6 : decode cX5_plan 6 = .ok (.ifCond .ne 5, 3) := by decide +kernel
theorem dX5_plan_9 : decode cX5_plan 9 = .ok (.iconst (-1), 1) := by decide +kernel
theorem dX5_plan_10 : decode cX5_plan 10 = .ok (.ireturn, 1) := by decide +kernel
theorem dX5_plan_11 : decode cX5_plan 11 = .ok (.iconst 0, 1) := by decide +kernel
theorem dX5_plan_12 : decode cX5_plan 12 = .ok (.istore_n 2, 1) := by decide +kernel
theorem dX5_plan_13 : decode cX5_plan 13 = .ok (.iconst 0, 1) := by decide +kernel
theorem dX5_plan_14 : decode cX5_plan 14 = .ok (.istore_n 3, 1) := by decide +kernel
theorem dX5_plan_15 : decode cX5_plan 15 = .ok (.iload_n 3, 1) := by decide +kernel
theorem dX5_plan_16 : decode cX5_plan 16 = .ok (.bipush 8, 2) := by decide +kernel
theorem dX5_plan_18 : decode cX5_plan 18 = .ok (.if_icmp .ge 84, 3) := by decide +kernel
theorem dX5_plan_21 : decode cX5_plan 21 = .ok (.iload_n 2, 1) := by decide +kernel
theorem dX5_plan_22 : decode cX5_plan 22 = .ok (.aload_n 0, 1) := by decide +kernel
theorem dX5_plan_23 : decode cX5_plan 23 = .ok (.iload_n 3, 1) := by decide +kernel
theorem dX5_plan_24 : decode cX5_plan 24 = .ok (.invokevirtual 176, 3) := by decide +kernel
theorem dX5_plan_27 : decode cX5_plan 27 = .ok (.aload_n 0, 1) := by decide +kernel
theorem dX5_plan_28 : decode cX5_plan 28 = .ok (.getfield 90, 3) := by decide +kernel
theorem dX5_plan_31 : decode cX5_plan 31 = .ok (.if_icmp .le 9, 3) := by decide +kernel
theorem dX5_plan_34 : decode cX5_plan 34 = .ok (.iconst 1, 1) := by decide +kernel
theorem dX5_plan_35 : decode cX5_plan 35 = .ok (.iload_n 3, 1) := by decide +kernel
theorem dX5_plan_36 : decode cX5_plan 36 = .ok (.ishl, 1) := by decide +kernel
theorem dX5_plan_37 : decode cX5_plan 37 = .ok (.goto 4, 3) := by decide +kernel
theorem dX5_plan_40 : decode cX5_plan 40 = .ok (.iconst 0, 1) := by decide +kernel
theorem dX5_plan_41 : decode cX5_plan 41 = .ok (.ior, 1) := by decide +kernel
theorem dX5_plan_42 : decode cX5_plan 42 = .ok (.istore_n 2, 1) := by decide +kernel
theorem dX5_plan_43 : decode cX5_plan 43 = .ok (.aload_n 0, 1) := by decide +kernel
theorem dX5_plan_44 : decode cX5_plan 44 = .ok (.getfield 87, 3) := by decide +kernel
theorem dX5_plan_47 : decode cX5_plan 47 = .ok (.iload_n 3, 1) := by decide +kernel
theorem dX5_plan_48 : decode cX5_plan 48 = .ok (.iconst 0, 1) := by decide +kernel
theorem dX5_plan_49 : decode cX5_plan 49 = .ok (.iastore, 1) := by decide +kernel
theorem dX5_plan_50 : decode cX5_plan 50 = .ok (.iconst 0, 1) := by decide +kernel
theorem dX5_plan_51 : decode cX5_plan 51 = .ok (.istore 4, 2) := by decide +kernel
theorem dX5_plan_53 : decode cX5_plan 53 = .ok (.iload 4, 2) := by decide +kernel
theorem dX5_plan_55 : decode cX5_plan 55 = .ok (.bipush 6, 2) := by decide +kernel
theorem dX5_plan_57 : decode cX5_plan 57 = .ok (.if_icmp .ge 39, 3) := by decide +kernel
theorem dX5_plan_60 : decode cX5_plan 60 = .ok (.aload_n 0, 1) := by decide +kernel
theorem dX5_plan_61 : decode cX5_plan 61 = .ok (.getfield 87, 3) := by decide +kernel
theorem dX5_plan_64 : decode cX5_plan 64 = .ok (.iload_n 3, 1) := by decide +kernel
theorem dX5_plan_65 : decode cX5_plan 65 = .ok (.dup2, 1) := by decide +kernel
theorem dX5_plan_66 : decode cX5_plan 66 = .ok (.iaload, 1) := by decide +kernel
theorem dX5_plan_67 : decode cX5_plan 67 = .ok (.aload_n 0, 1) := by decide +kernel
theorem dX5_plan_68 : decode cX5_plan 68 = .ok (.iload 4, 2) := by decide +kernel
theorem dX5_plan_70 : decode cX5_plan 70 = .ok (.iload_n 3, 1) := by decide +kernel
theorem dX5_plan_71 : decode cX5_plan 71 = .ok (.invokevirtual 147, 3) := by decide +kernel
theorem dX5_plan_74 : decode cX5_plan 74 = .ok (.ifCond .eq 13, 3) := by decide +kernel
theorem dX5_plan_77 : decode cX5_plan 77 = .ok (.aload_n 0, 1) := by decide +kernel
theorem dX5_plan_78 : decode cX5_plan 78 = .ok (.getfield 75, 3) := by decide +kernel
theorem dX5_plan_81 : decode cX5_plan 81 = .ok (.iload 4, 2) := by decide +kernel
theorem dX5_plan_83 : decode cX5_plan 83 = .ok (.iaload, 1) := by decide +kernel
theorem dX5_plan_84 : decode cX5_plan 84 = .ok (.goto 4, 3) := by decide +kernel
theorem dX5_plan_87 : decode cX5_plan 87 = .ok (.iconst 0, 1) := by decide +kernel
theorem dX5_plan_88 : decode cX5_plan 88 = .ok (.iadd, 1) := by decide +kernel
theorem dX5_plan_89 : decode cX5_plan 89 = .ok (.iastore, 1) := by decide +kernel
theorem dX5_plan_90 : decode cX5_plan 90 = .ok (.iinc 4 1, 3) := by decide +kernel
theorem dX5_plan_93 : decode cX5_plan 93 = .ok (.goto (-40), 3) := by decide +kernel
theorem dX5_plan_96 : decode cX5_plan 96 = .ok (.iinc 3 1, 3) := by decide +kernel
theorem dX5_plan_99 : decode cX5_plan 99 = .ok (.goto (-84), 3) := by decide +kernel
theorem dX5_plan_102 : decode cX5_plan 102 = .ok (.iconst (-1), 1) := by decide +kernel
theorem dX5_plan_103 : decode cX5_plan 103 = .ok (.istore_n 3, 1) := by decide +kernel
theorem dX5_plan_104 : decode cX5_plan 104 = .ok (.iconst 0, 1) := by decide +kernel
theorem dX5_plan_105 : decode cX5_plan 105 = .ok (.istore 4, 2) := by decide +kernel
theorem dX5_plan_107 : decode cX5_plan 107 = .ok (.iload 4, 2) := by decide +kernel
theorem dX5_plan_109 : decode cX5_plan 109 = .ok (.sipush 256, 3) := by decide +kernel
theorem dX5_plan_112 : decode cX5_plan 112 = .ok (.if_icmp .ge 38, 3) := by decide +kernel
theorem dX5_plan_115 : decode cX5_plan 115 = .ok (.iload 4, 2) := by decide +kernel
theorem dX5_plan_117 : decode cX5_plan 117 = .ok (.iload_n 2, 1) := by decide +kernel
theorem dX5_plan_118 : decode cX5_plan 118 = .ok (.iand, 1) := by decide +kernel
theorem dX5_plan_119 : decode cX5_plan 119 = .ok (.iload_n 2, 1) := by decide +kernel
theorem dX5_plan_120 : decode cX5_plan 120 = .ok (.if_icmp .ne 24, 3) := by decide +kernel
theorem dX5_plan_123 : decode cX5_plan 123 = .ok (.iload_n 3, 1) := by decide +kernel
theorem dX5_plan_124 : decode cX5_plan 124 = .ok (.ifCond .lt 17, 3) := by decide +kernel
theorem dX5_plan_127 : decode cX5_plan 127 = .ok (.aload_n 0, 1) := by decide +kernel
theorem dX5_plan_128 : decode cX5_plan 128 = .ok (.iload 4, 2) := by decide +kernel
theorem dX5_plan_130 : decode cX5_plan 130 = .ok (.invokevirtual 182, 3) := by decide +kernel
theorem dX5_plan_133 : decode cX5_plan 133 = .ok (.aload_n 0, 1) := by decide +kernel
theorem dX5_plan_134 : decode cX5_plan 134 = .ok (.iload_n 3, 1) := by decide +kernel
theorem dX5_plan_135 : decode cX5_plan 135 = .ok (.invokevirtual 182, 3) := by decide +kernel
theorem dX5_plan_138 : decode cX5_plan 138 = .ok (.if_icmp .ge 6, 3) := by decide +kernel
theorem dX5_plan_141 : decode cX5_plan 141 = .ok (.iload 4, 2) := by decide +kernel
theorem dX5_plan_143 : decode cX5_plan 143 = .ok (.istore_n 3, 1) := by decide +kernel
theorem dX5_plan_144 : decode cX5_plan 144 = .ok (.iinc 4 1, 3) := by decide +kernel
theorem dX5_plan_147 : decode cX5_plan 147 = .ok (.goto (-40), 3) := by decide +kernel
theorem dX5_plan_150 : decode cX5_plan 150 = .ok (.iload_n 1, 1) := by decide +kernel
theorem dX5_plan_151 : decode cX5_plan 151 = .ok (.ifCond .ne 7, 3) := by decide +kernel
theorem dX5_plan_154 : decode cX5_plan 154 = .ok (.iload_n 3, 1) := by decide +kernel
theorem dX5_plan_155 : decode cX5_plan 155 = .ok (.goto 8, 3) := by decide +kernel
theorem dX5_plan_158 : decode cX5_plan 158 = .ok (.aload_n 0, 1) := by decide +kernel
theorem dX5_plan_159 : decode cX5_plan 159 = .ok (.iload_n 3, 1) := by decide +kernel
theorem dX5_plan_160 : decode cX5_plan 160 = .ok (.invokevirtual 182, 3) := by decide +kernel
theorem dX5_plan_163 : decode cX5_plan 163 = .ok (.ireturn, 1) := by decide +kernel
theorem dX5_told_0 : decode cX5_told 0 = .ok (.iconst 0, 1) := by decide +kernel
theorem dX5_told_1 : decode cX5_told 1 = .ok (.istore_n 2, 1) := by decide +kernel
theorem dX5_told_2 : decode cX5_told 2 = .ok (.iload_n 1, 1) := by decide +kernel
theorem dX5_told_3 : decode cX5_told 3 = .ok (.tableswitch 112 0 4 #[33, 38, 43, 48, 80], 33) := by decide +kernel
theorem dX5_told_36 : decode cX5_told 36 = .ok (.aload_n 0, 1) := by decide +kernel
theorem dX5_told_37 : decode cX5_told 37 = .ok (.getfield 7, 3) := by decide +kernel
theorem dX5_told_40 : decode cX5_told 40 = .ok (.ireturn, 1) := by decide +kernel
theorem dX5_told_41 : decode cX5_told 41 = .ok (.aload_n 0, 1) := by decide +kernel
theorem dX5_told_42 : decode cX5_told 42 = .ok (.getfield 90, 3) := by decide +kernel
theorem dX5_told_45 : decode cX5_told 45 = .ok (.ireturn, 1) := by decide +kernel
theorem dX5_told_46 : decode cX5_told 46 = .ok (.aload_n 0, 1) := by decide +kernel
theorem dX5_told_47 : decode cX5_told 47 = .ok (.getfield 163, 3) := by decide +kernel
theorem dX5_told_50 : decode cX5_told 50 = .ok (.ireturn, 1) := by decide +kernel
theorem dX5_told_51 : decode cX5_told 51 = .ok (.iconst 0, 1) := by decide +kernel
theorem dX5_told_52 : decode cX5_told 52 = .ok (.istore_n 3, 1) := by decide +kernel
theorem dX5_told_53 : decode cX5_told 53 = .ok (.iload_n 3, 1) := by decide +kernel
theorem dX5_told_54 : decode cX5_told 54 = .ok (.bipush 6, 2) := by decide +kernel
theorem dX5_told_56 : decode cX5_told 56 = .ok (.if_icmp .ge 25, 3) := by decide +kernel
theorem dX5_told_59 : decode cX5_told 59 = .ok (.iload_n 2, 1) := by decide +kernel
theorem dX5_told_60 : decode cX5_told 60 = .ok (.aload_n 0, 1) := by decide +kernel
theorem dX5_told_61 : decode cX5_told 61 = .ok (.iload_n 3, 1) := by decide +kernel
theorem dX5_told_62 : decode cX5_told 62 = .ok (.invokevirtual 160, 3) := by decide +kernel
theorem dX5_told_65 : decode cX5_told 65 = .ok (.ifCond .eq 7, 3) := by decide +kernel
theorem dX5_told_68 : decode cX5_told 68 = .ok (.iconst 1, 1) := by decide +kernel
theorem dX5_told_69 : decode cX5_told 69 = .ok (.goto 4, 3) := by decide +kernel
theorem dX5_told_72 : decode cX5_told 72 = .ok (.iconst 0, 1) := by decide +kernel
theorem dX5_told_73 : decode cX5_told 73 = .ok (.iadd, 1) := by decide +kernel
theorem dX5_told_74 : decode cX5_told 74 = .ok (.istore_n 2, 1) := by decide +kernel
theorem dX5_told_75 : decode cX5_told 75 = .ok (.iinc 3 1, 3) := by decide +kernel
theorem dX5_told_78 : decode cX5_told 78 = .ok (.goto (-25), 3) := by decide +kernel
theorem dX5_told_81 : decode cX5_told 81 = .ok (.iload_n 2, 1) := by decide +kernel
theorem dX5_told_82 : decode cX5_told 82 = .ok (.ireturn, 1) := by decide +kernel
theorem dX5_told_83 : decode cX5_told 83 = .ok (.iconst 0, 1) := by decide +kernel
theorem dX5_told_84 : decode cX5_told 84 = .ok (.istore_n 3, 1) := by decide +kernel
theorem dX5_told_85 : decode cX5_told 85 = .ok (.iload_n 3, 1) := by decide +kernel
theorem dX5_told_86 : decode cX5_told 86 = .ok (.bipush 8, 2) := by decide +kernel
theorem dX5_told_88 : decode cX5_told 88 = .ok (.if_icmp .ge 25, 3) := by decide +kernel
theorem dX5_told_91 : decode cX5_told 91 = .ok (.iload_n 2, 1) := by decide +kernel
theorem dX5_told_92 : decode cX5_told 92 = .ok (.aload_n 0, 1) := by decide +kernel
theorem dX5_told_93 : decode cX5_told 93 = .ok (.iload_n 3, 1) := by decide +kernel
theorem dX5_told_94 : decode cX5_told 94 = .ok (.invokevirtual 150, 3) := by decide +kernel
theorem dX5_told_97 : decode cX5_told 97 = .ok (.ifCond .eq 7, 3) := by decide +kernel
theorem dX5_told_100 : decode cX5_told 100 = .ok (.iconst 1, 1) := by decide +kernel
theorem dX5_told_101 : decode cX5_told 101 = .ok (.goto 4, 3) := by decide +kernel
theorem dX5_told_104 : decode cX5_told 104 = .ok (.iconst 0, 1) := by decide +kernel
theorem dX5_told_105 : decode cX5_told 105 = .ok (.iadd, 1) := by decide +kernel
theorem dX5_told_106 : decode cX5_told 106 = .ok (.istore_n 2, 1) := by decide +kernel
theorem dX5_told_107 : decode cX5_told 107 = .ok (.iinc 3 1, 3) := by decide +kernel
theorem dX5_told_110 : decode cX5_told 110 = .ok (.goto (-25), 3) := by decide +kernel
theorem dX5_told_113 : decode cX5_told 113 = .ok (.iload_n 2, 1) := by decide +kernel
theorem dX5_told_114 : decode cX5_told 114 = .ok (.ireturn, 1) := by decide +kernel
theorem dX5_told_115 : decode cX5_told 115 = .ok (.iconst (-1), 1) := by decide +kernel
theorem dX5_told_116 : decode cX5_told 116 = .ok (.ireturn, 1) := by decide +kernel
theorem dX5_trace_0 : decode cX5_trace 0 = .ok (.aload_n 0, 1) := by decide +kernel
theorem dX5_trace_1 : decode cX5_trace 1 = .ok (.getfield 144, 3) := by decide +kernel
theorem dX5_trace_4 : decode cX5_trace 4 = .ok (.lreturn, 1) := by decide +kernel
