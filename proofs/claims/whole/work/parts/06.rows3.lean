theorem dX8_init_0 : decode cX8_init 0 = .ok (.aload_n 0, 1) := by decide +kernel
theorem dX8_init_1 : decode cX8_init 1 = .ok (.invokespecial 1, 3) := by decide +kernel
theorem dX8_init_4 : decode cX8_init 4 = .ok (.aload_n 0, 1) := by decide +kernel
theorem dX8_init_5 : decode cX8_init 5 = .ok (.bipush 50, 2) := by decide +kernel
theorem dX8_init_7 : decode cX8_init 7 = .ok (.newarray .char, 2) := by decide +kernel
theorem dX8_init_9 : decode cX8_init 9 = .ok (.putfield 7, 3) := by decide +kernel
theorem dX8_init_12 : decode cX8_init 12 = .ok (.aload_n 0, 1) := by decide +kernel
theorem dX8_init_13 : decode cX8_init 13 = .ok (.bipush 26, 2) := by decide +kernel
theorem dX8_init_15 : decode cX8_init 15 = .ok (.newarray .int, 2) := by decide +kernel
theorem dX8_init_17 : decode cX8_init 17 = .ok (.putfield 13, 3) := by decide +kernel
theorem dX8_init_20 : decode cX8_init 20 = .ok (.aload_n 0, 1) := by decide +kernel
theorem dX8_init_21 : decode cX8_init 21 = .ok (.bipush 26, 2) := by decide +kernel
theorem dX8_init_23 : decode cX8_init 23 = .ok (.newarray .int, 2) := by decide +kernel
theorem dX8_init_25 : decode cX8_init 25 = .ok (.putfield 17, 3) := by decide +kernel
theorem dX8_init_28 : decode cX8_init 28 = .ok (.aload_n 0, 1) := by decide +kernel
theorem dX8_init_29 : decode cX8_init 29 = .ok (.iconst 1, 1) := by decide +kernel
theorem dX8_init_30 : decode cX8_init 30 = .ok (.putfield 20, 3) := by decide +kernel
theorem dX8_init_33 : decode cX8_init 33 = .ok (.aload_n 0, 1) := by decide +kernel
theorem dX8_init_34 : decode cX8_init 34 = .ok (.bipush 56, 2) := by decide +kernel
theorem dX8_init_36 : decode cX8_init 36 = .ok (.newarray .char, 2) := by decide +kernel
theorem dX8_init_38 : decode cX8_init 38 = .ok (.putfield 24, 3) := by decide +kernel
theorem dX8_init_41 : decode cX8_init 41 = .ok (.aload_n 0, 1) := by decide +kernel
theorem dX8_init_42 : decode cX8_init 42 = .ok (.sipush 168, 3) := by decide +kernel
theorem dX8_init_45 : decode cX8_init 45 = .ok (.newarray .char, 2) := by decide +kernel
theorem dX8_init_47 : decode cX8_init 47 = .ok (.putfield 27, 3) := by decide +kernel
theorem dX8_init_50 : decode cX8_init 50 = .ok (.aload_n 0, 1) := by decide +kernel
theorem dX8_init_51 : decode cX8_init 51 = .ok (.bipush 14, 2) := by decide +kernel
theorem dX8_init_53 : decode cX8_init 53 = .ok (.newarray .int, 2) := by decide +kernel
theorem dX8_init_55 : decode cX8_init 55 = .ok (.putfield 30, 3) := by decide +kernel
theorem dX8_init_58 : decode cX8_init 58 = .ok (.aload_n 0, 1) := by decide +kernel
theorem dX8_init_59 : decode cX8_init 59 = .ok (.bipush 14, 2) := by decide +kernel
theorem dX8_init_61 : decode cX8_init 61 = .ok (.newarray .int, 2) := by decide +kernel
theorem dX8_init_63 : decode cX8_init 63 = .ok (.putfield 33, 3) := by decide +kernel
theorem dX8_init_66 : decode cX8_init 66 = .ok (.aload_n 0, 1) := by decide +kernel
theorem dX8_init_67 : decode cX8_init 67 = .ok (.bipush 28, 2) := by decide +kernel
theorem dX8_init_69 : decode cX8_init 69 = .ok (.newarray .int, 2) := by decide +kernel
theorem dX8_init_71 : decode cX8_init 71 = .ok (.putfield 36, 3) := by decide +kernel
theorem dX8_init_74 : decode cX8_init 74 = .ok (.aload_n 0, 1) := by decide +kernel
theorem dX8_init_75 : decode cX8_init 75 = .ok (.bipush 14, 2) := by decide +kernel
theorem dX8_init_77 : decode cX8_init 77 = .ok (.newarray .boolean, 2) := by decide +kernel
theorem dX8_init_79 : decode cX8_init 79 = .ok (.putfield 39, 3) := by decide +kernel
theorem dX8_init_82 : decode cX8_init 82 = .ok (.aload_n 0, 1) := by decide +kernel
theorem dX8_init_83 : decode cX8_init 83 = .ok (.bipush 14, 2) := by decide +kernel
theorem dX8_init_85 : decode cX8_init 85 = .ok (.newarray .boolean, 2) := by decide +kernel
theorem dX8_init_87 : decode cX8_init 87 = .ok (.putfield 43, 3) := by decide +kernel
theorem dX8_init_90 : decode cX8_init 90 = .ok (.aload_n 0, 1) := by decide +kernel
theorem dX8_init_91 : decode cX8_init 91 = .ok (.bipush 24, 2) := by decide +kernel
theorem dX8_init_93 : decode cX8_init 93 = .ok (.newarray .char, 2) := by decide +kernel
theorem dX8_init_95 : decode cX8_init 95 = .ok (.putfield 46, 3) := by decide +kernel
theorem dX8_init_98 : decode cX8_init 98 = .ok (.aload_n 0, 1) := by decide +kernel
theorem dX8_init_99 : decode cX8_init 99 = .ok (.bipush 60, 2) := by decide +kernel
theorem dX8_init_101 : decode cX8_init 101 = .ok (.newarray .char, 2) := by decide +kernel
theorem dX8_init_103 : decode cX8_init 103 = .ok (.putfield 49, 3) := by decide +kernel
theorem dX8_init_106 : decode cX8_init 106 = .ok (.aload_n 0, 1) := by decide +kernel
theorem dX8_init_107 : decode cX8_init 107 = .ok (.bipush 20, 2) := by decide +kernel
theorem dX8_init_109 : decode cX8_init 109 = .ok (.newarray .int, 2) := by decide +kernel
theorem dX8_init_111 : decode cX8_init 111 = .ok (.putfield 52, 3) := by decide +kernel
theorem dX8_init_114 : decode cX8_init 114 = .ok (.aload_n 0, 1) := by decide +kernel
theorem dX8_init_115 : decode cX8_init 115 = .ok (.bipush 20, 2) := by decide +kernel
theorem dX8_init_117 : decode cX8_init 117 = .ok (.newarray .int, 2) := by decide +kernel
theorem dX8_init_119 : decode cX8_init 119 = .ok (.putfield 55, 3) := by decide +kernel
theorem dX8_init_122 : decode cX8_init 122 = .ok (.aload_n 0, 1) := by decide +kernel
theorem dX8_init_123 : decode cX8_init 123 = .ok (.bipush 20, 2) := by decide +kernel
theorem dX8_init_125 : decode cX8_init 125 = .ok (.newarray .int, 2) := by decide +kernel
theorem dX8_init_127 : decode cX8_init 127 = .ok (.putfield 58, 3) := by decide +kernel
theorem dX8_init_130 : decode cX8_init 130 = .ok (.aload_n 0, 1) := by decide +kernel
theorem dX8_init_131 : decode cX8_init 131 = .ok (.bipush 20, 2) := by decide +kernel
theorem dX8_init_133 : decode cX8_init 133 = .ok (.newarray .int, 2) := by decide +kernel
theorem dX8_init_135 : decode cX8_init 135 = .ok (.putfield 61, 3) := by decide +kernel
theorem dX8_init_138 : decode cX8_init 138 = .ok (.aload_n 0, 1) := by decide +kernel
theorem dX8_init_139 : decode cX8_init 139 = .ok (.bipush 20, 2) := by decide +kernel
theorem dX8_init_141 : decode cX8_init 141 = .ok (.newarray .int, 2) := by decide +kernel
theorem dX8_init_143 : decode cX8_init 143 = .ok (.putfield 64, 3) := by decide +kernel
theorem dX8_init_146 : decode cX8_init 146 = .ok (.aload_n 0, 1) := by decide +kernel
theorem dX8_init_147 : decode cX8_init 147 = .ok (.bipush 20, 2) := by decide +kernel
theorem dX8_init_149 : decode cX8_init 149 = .ok (.newarray .int, 2) := by decide +kernel
theorem dX8_init_151 : decode cX8_init 151 = .ok (.putfield 67, 3) := by decide +kernel
theorem dX8_init_154 : decode cX8_init 154 = .ok (.aload_n 0, 1) := by decide +kernel
theorem dX8_init_155 : decode cX8_init 155 = .ok (.bipush 14, 2) := by decide +kernel
theorem dX8_init_157 : decode cX8_init 157 = .ok (.newarray .int, 2) := by decide +kernel
theorem dX8_init_159 : decode cX8_init 159 = .ok (.putfield 70, 3) := by decide +kernel
theorem dX8_init_162 : decode cX8_init 162 = .ok (.aload_n 0, 1) := by decide +kernel
theorem dX8_init_163 : decode cX8_init 163 = .ok (.bipush 40, 2) := by decide +kernel
theorem dX8_init_165 : decode cX8_init 165 = .ok (.newarray .char, 2) := by decide +kernel
theorem dX8_init_167 : decode cX8_init 167 = .ok (.putfield 73, 3) := by decide +kernel
theorem dX8_init_170 : decode cX8_init 170 = .ok (.aload_n 0, 1) := by decide +kernel
theorem dX8_init_171 : decode cX8_init 171 = .ok (.sipush 420, 3) := by decide +kernel
theorem dX8_init_174 : decode cX8_init 174 = .ok (.newarray .int, 2) := by decide +kernel
theorem dX8_init_176 : decode cX8_init 176 = .ok (.putfield 76, 3) := by decide +kernel
theorem dX8_init_179 : decode cX8_init 179 = .ok (.aload_n 0, 1) := by decide +kernel
theorem dX8_init_180 : decode cX8_init 180 = .ok (.sipush 180, 3) := by decide +kernel
theorem dX8_init_183 : decode cX8_init 183 = .ok (.newarray .int, 2) := by decide +kernel
theorem dX8_init_185 : decode cX8_init 185 = .ok (.putfield 79, 3) := by decide +kernel
theorem dX8_init_188 : decode cX8_init 188 = .ok (.aload_n 0, 1) := by decide +kernel
theorem dX8_init_189 : decode cX8_init 189 = .ok (.sipush 181, 3) := by decide +kernel
theorem dX8_init_192 : decode cX8_init 192 = .ok (.newarray .int, 2) := by decide +kernel
theorem dX8_init_194 : decode cX8_init 194 = .ok (.putfield 82, 3) := by decide +kernel
theorem dX8_init_197 : decode cX8_init 197 = .ok (.aload_n 0, 1) := by decide +kernel
theorem dX8_init_198 : decode cX8_init 198 = .ok (.sipush 7240, 3) := by decide +kernel
theorem dX8_init_201 : decode cX8_init 201 = .ok (.newarray .char, 2) := by decide +kernel
theorem dX8_init_203 : decode cX8_init 203 = .ok (.putfield 85, 3) := by decide +kernel
theorem dX8_init_206 : decode cX8_init 206 = .ok (.aload_n 0, 1) := by decide +kernel
theorem dX8_init_207 : decode cX8_init 207 = .ok (.bipush 20, 2) := by decide +kernel
theorem dX8_init_209 : decode cX8_init 209 = .ok (.newarray .int, 2) := by decide +kernel
theorem dX8_init_211 : decode cX8_init 211 = .ok (.putfield 88, 3) := by decide +kernel
theorem dX8_init_214 : decode cX8_init 214 = .ok (.aload_n 0, 1) := by decide +kernel
theorem dX8_init_215 : decode cX8_init 215 = .ok (.bipush 20, 2) := by decide +kernel
theorem dX8_init_217 : decode cX8_init 217 = .ok (.newarray .int, 2) := by decide +kernel
theorem dX8_init_219 : decode cX8_init 219 = .ok (.putfield 91, 3) := by decide +kernel
theorem dX8_init_222 : decode cX8_init 222 = .ok (.aload_n 0, 1) := by decide +kernel
theorem dX8_init_223 : decode cX8_init 223 = .ok (.bipush 10, 2) := by decide +kernel
theorem dX8_init_225 : decode cX8_init 225 = .ok (.newarray .int, 2) := by decide +kernel
theorem dX8_init_227 : decode cX8_init 227 = .ok (.putfield 94, 3) := by decide +kernel
theorem dX8_init_230 : decode cX8_init 230 = .ok (.aload_n 0, 1) := by decide +kernel
theorem dX8_init_231 : decode cX8_init 231 = .ok (.bipush 10, 2) := by decide +kernel
theorem dX8_init_233 : decode cX8_init 233 = .ok (.newarray .int, 2) := by decide +kernel
theorem dX8_init_235 : decode cX8_init 235 = .ok (.putfield 97, 3) := by decide +kernel
theorem dX8_init_238 : decode cX8_init 238 = .ok (.aload_n 0, 1) := by decide +kernel
theorem dX8_init_239 : decode cX8_init 239 = .ok (.bipush 10, 2) := by decide +kernel
theorem dX8_init_241 : decode cX8_init 241 = .ok (.newarray .int, 2) := by decide +kernel
theorem dX8_init_243 : decode cX8_init 243 = .ok (.putfield 100, 3) := by decide +kernel
theorem dX8_init_246 : decode cX8_init 246 = .ok (.aload_n 0, 1) := by decide +kernel
theorem dX8_init_247 : decode cX8_init 247 = .ok (.getfield 30, 3) := by decide +kernel
theorem dX8_init_250 : decode cX8_init 250 = .ok (.iconst 0, 1) := by decide +kernel
theorem dX8_init_251 : decode cX8_init 251 = .ok (.iconst (-1), 1) := by decide +kernel
theorem dX8_init_252 : decode cX8_init 252 = .ok (.iastore, 1) := by decide +kernel
theorem dX8_init_253 : decode cX8_init 253 = .ok (.aload_n 0, 1) := by decide +kernel
theorem dX8_init_254 : decode cX8_init 254 = .ok (.getfield 24, 3) := by decide +kernel
theorem dX8_init_257 : decode cX8_init 257 = .ok (.iconst 0, 1) := by decide +kernel
theorem dX8_init_258 : decode cX8_init 258 = .ok (.bipush 116, 2) := by decide +kernel
theorem dX8_init_260 : decode cX8_init 260 = .ok (.castore, 1) := by decide +kernel
theorem dX8_init_261 : decode cX8_init 261 = .ok (.aload_n 0, 1) := by decide +kernel
theorem dX8_init_262 : decode cX8_init 262 = .ok (.getfield 24, 3) := by decide +kernel
theorem dX8_init_265 : decode cX8_init 265 = .ok (.iconst 1, 1) := by decide +kernel
theorem dX8_init_266 : decode cX8_init 266 = .ok (.bipush 111, 2) := by decide +kernel
theorem dX8_init_268 : decode cX8_init 268 = .ok (.castore, 1) := by decide +kernel
theorem dX8_init_269 : decode cX8_init 269 = .ok (.aload_n 0, 1) := by decide +kernel
theorem dX8_init_270 : decode cX8_init 270 = .ok (.getfield 24, 3) := by decide +kernel
theorem dX8_init_273 : decode cX8_init 273 = .ok (.iconst 2, 1) := by decide +kernel
theorem dX8_init_274 : decode cX8_init 274 = .ok (.bipush 112, 2) := by decide +kernel
theorem dX8_init_276 : decode cX8_init 276 = .ok (.castore, 1) := by decide +kernel
theorem dX8_init_277 : decode cX8_init 277 = .ok (.return_, 1) := by decide +kernel
theorem dX8_thrown_0 : decode cX8_thrown 0 = .ok (.aload_n 0, 1) := by decide +kernel
theorem dX8_thrown_1 : decode cX8_thrown 1 = .ok (.getfield 103, 3) := by decide +kernel
theorem dX8_thrown_4 : decode cX8_thrown 4 = .ok (.ireturn, 1) := by decide +kernel
theorem dX8_fails_0 : decode cX8_fails 0 = .ok (.aload_n 0, 1) := by decide +kernel
theorem dX8_fails_1 : decode cX8_fails 1 = .ok (.iload_n 1, 1) := by decide +kernel
theorem dX8_fails_2 : decode cX8_fails 2 = .ok (.putfield 103, 3) := by decide +kernel
theorem dX8_fails_5 : decode cX8_fails 5 = .ok (.iconst 0, 1) := by decide +kernel
theorem dX8_fails_6 : decode cX8_fails 6 = .ok (.ireturn, 1) := by decide +kernel
theorem dX8_write_0 : decode cX8_write 0 = .ok (.aload_n 0, 1) := by decide +kernel
theorem dX8_write_1 : decode cX8_write 1 = .ok (.iconst 0, 1) := by decide +kernel
theorem dX8_write_2 : decode cX8_write 2 = .ok (.putfield 103, 3) := by decide +kernel
theorem dX8_write_5 : decode cX8_write 5 = .ok (.iload_n 1, 1) := by decide +kernel
theorem dX8_write_6 : decode cX8_write 6 = .ok (.bipush 32, 2) := by decide +kernel
theorem dX8_write_8 : decode cX8_write 8 = .ok (.if_icmp .lt 18, 3) := by decide +kernel
theorem dX8_write_11 : decode cX8_write 11 = .ok (.iload_n 1, 1) := by decide +kernel
theorem dX8_write_12 : decode cX8_write 12 = .ok (.bipush 126, 2) := by decide +kernel
theorem dX8_write_14 : decode cX8_write 14 = .ok (.if_icmp .gt 12, 3) := by decide +kernel
theorem dX8_write_17 : decode cX8_write 17 = .ok (.aload_n 0, 1) := by decide +kernel
theorem dX8_write_18 : decode cX8_write 18 = .ok (.getfield 106, 3) := by decide +kernel
theorem dX8_write_21 : decode cX8_write 21 = .ok (.bipush 50, 2) := by decide +kernel
theorem dX8_write_23 : decode cX8_write 23 = .ok (.if_icmp .lt 5, 3) := by decide +kernel
theorem dX8_write_26 : decode cX8_write 26 = .ok (.iconst 0, 1) := by decide +kernel
theorem dX8_write_27 : decode cX8_write 27 = .ok (.ireturn, 1) := by decide +kernel
theorem dX8_write_28 : decode cX8_write 28 = .ok (.aload_n 0, 1) := by decide +kernel
theorem dX8_write_29 : decode cX8_write 29 = .ok (.getfield 7, 3) := by decide +kernel
theorem dX8_write_32 : decode cX8_write 32 = .ok (.aload_n 0, 1) := by decide +kernel
theorem dX8_write_33 : decode cX8_write 33 = .ok (.getfield 106, 3) := by decide +kernel
theorem dX8_write_36 : decode cX8_write 36 = .ok (.iload_n 1, 1) := by decide +kernel
theorem dX8_write_37 : decode cX8_write 37 = .ok (.castore, 1) := by decide +kernel
theorem dX8_write_38 : decode cX8_write 38 = .ok (.aload_n 0, 1) := by decide +kernel
theorem dX8_write_39 : decode cX8_write 39 = .ok (.dup, 1) := by decide +kernel
theorem dX8_write_40 : decode cX8_write 40 = .ok (.getfield 106, 3) := by decide +kernel
theorem dX8_write_43 : decode cX8_write 43 = .ok (.iconst 1, 1) := by decide +kernel
theorem dX8_write_44 : decode cX8_write 44 = .ok (.iadd, 1) := by decide +kernel
theorem dX8_write_45 : decode cX8_write 45 = .ok (.putfield 106, 3) := by decide +kernel
theorem dX8_write_48 : decode cX8_write 48 = .ok (.iconst 1, 1) := by decide +kernel
theorem dX8_write_49 : decode cX8_write 49 = .ok (.ireturn, 1) := by decide +kernel
theorem dX8_split_0 : decode cX8_split 0 = .ok (.aload_n 0, 1) := by decide +kernel
theorem dX8_split_1 : decode cX8_split 1 = .ok (.iconst 0, 1) := by decide +kernel
theorem dX8_split_2 : decode cX8_split 2 = .ok (.putfield 109, 3) := by decide +kernel
theorem dX8_split_5 : decode cX8_split 5 = .ok (.iconst 0, 1) := by decide +kernel
theorem dX8_split_6 : decode cX8_split 6 = .ok (.istore_n 1, 1) := by decide +kernel
theorem dX8_split_7 : decode cX8_split 7 = .ok (.iload_n 1, 1) := by decide +kernel
theorem dX8_split_8 : decode cX8_split 8 = .ok (.aload_n 0, 1) := by decide +kernel
theorem dX8_split_9 : decode cX8_split 9 = .ok (.getfield 106, 3) := by decide +kernel
theorem dX8_split_12 : decode cX8_split 12 = .ok (.if_icmp .ge 94, 3) := by decide +kernel
theorem dX8_split_15 : decode cX8_split 15 = .ok (.iload_n 1, 1) := by decide +kernel
theorem dX8_split_16 : decode cX8_split 16 = .ok (.aload_n 0, 1) := by decide +kernel
theorem dX8_split_17 : decode cX8_split 17 = .ok (.getfield 106, 3) := by decide +kernel
theorem dX8_split_20 : decode cX8_split 20 = .ok (.if_icmp .ge 20, 3) := by decide +kernel
theorem dX8_split_23 : decode cX8_split 23 = .ok (.aload_n 0, 1) := by decide +kernel
theorem dX8_split_24 : decode cX8_split 24 = .ok (.getfield 7, 3) := by decide +kernel
theorem dX8_split_27 : decode cX8_split 27 = .ok (.iload_n 1, 1) := by decide +kernel
theorem dX8_split_28 : decode cX8_split 28 = .ok (.caload, 1) := by decide +kernel
theorem dX8_split_29 : decode cX8_split 29 = .ok (.bipush 32, 2) := by decide +kernel
theorem dX8_split_31 : decode cX8_split 31 = .ok (.if_icmp .ne 9, 3) := by decide +kernel
theorem dX8_split_34 : decode cX8_split 34 = .ok (.iinc 1 1, 3) := by decide +kernel
theorem dX8_split_37 : decode cX8_split 37 = .ok (.goto (-22), 3) := by decide +kernel
theorem dX8_split_40 : decode cX8_split 40 = .ok (.iload_n 1, 1) := by decide +kernel
theorem dX8_split_41 : decode cX8_split 41 = .ok (.aload_n 0, 1) := by decide +kernel
theorem dX8_split_42 : decode cX8_split 42 = .ok (.getfield 106, 3) := by decide +kernel
theorem dX8_split_45 : decode cX8_split 45 = .ok (.if_icmp .ge (-38), 3) := by decide +kernel
theorem dX8_split_48 : decode cX8_split 48 = .ok (.aload_n 0, 1) := by decide +kernel
theorem dX8_split_49 : decode cX8_split 49 = .ok (.getfield 13, 3) := by decide +kernel
theorem dX8_split_52 : decode cX8_split 52 = .ok (.aload_n 0, 1) := by decide +kernel
theorem dX8_split_53 : decode cX8_split 53 = .ok (.getfield 109, 3) := by decide +kernel
theorem dX8_split_56 : decode cX8_split 56 = .ok (.iload_n 1, 1) := by decide +kernel
theorem dX8_split_57 : decode cX8_split 57 = .ok (.iastore, 1) := by decide +kernel
theorem dX8_split_58 : decode cX8_split 58 = .ok (.iload_n 1, 1) := by decide +kernel
theorem dX8_split_59 : decode cX8_split 59 = .ok (.aload_n 0, 1) := by decide +kernel
theorem dX8_split_60 : decode cX8_split 60 = .ok (.getfield 106, 3) := by decide +kernel
theorem dX8_split_63 : decode cX8_split 63 = .ok (.if_icmp .ge 20, 3) := by decide +kernel
theorem dX8_split_66 : decode cX8_split 66 = .ok (.aload_n 0, 1) := by decide +kernel
theorem dX8_split_67 : decode cX8_split 67 = .ok (.getfield 7, 3) := by decide +kernel
theorem dX8_split_70 : decode cX8_split 70 = .ok (.iload_n 1, 1) := by decide +kernel
theorem dX8_split_71 : decode cX8_split 71 = .ok (.caload, 1) := by decide +kernel
theorem dX8_split_72 : decode cX8_split 72 = .ok (.bipush 32, 2) := by decide +kernel
theorem dX8_split_74 : decode cX8_split 74 = .ok (.if_icmp .eq 9, 3) := by decide +kernel
theorem dX8_split_77 : decode cX8_split 77 = .ok (.iinc 1 1, 3) := by decide +kernel
theorem dX8_split_80 : decode cX8_split 80 = .ok (.goto (-22), 3) := by decide +kernel
theorem dX8_split_83 : decode cX8_split 83 = .ok (.aload_n 0, 1) := by decide +kernel
theorem dX8_split_84 : decode cX8_split 84 = .ok (.getfield 17, 3) := by decide +kernel
theorem dX8_split_87 : decode cX8_split 87 = .ok (.aload_n 0, 1) := by decide +kernel
theorem dX8_split_88 : decode cX8_split 88 = .ok (.getfield 109, 3) := by decide +kernel
theorem dX8_split_91 : decode cX8_split 91 = .ok (.iload_n 1, 1) := by decide +kernel
theorem dX8_split_92 : decode cX8_split 92 = .ok (.iastore, 1) := by decide +kernel
theorem dX8_split_93 : decode cX8_split 93 = .ok (.aload_n 0, 1) := by decide +kernel
theorem dX8_split_94 : decode cX8_split 94 = .ok (.dup, 1) := by decide +kernel
theorem dX8_split_95 : decode cX8_split 95 = .ok (.getfield 109, 3) := by decide +kernel
theorem dX8_split_98 : decode cX8_split 98 = .ok (.iconst 1, 1) := by decide +kernel
theorem dX8_split_99 : decode cX8_split 99 = .ok (.iadd, 1) := by decide +kernel
theorem dX8_split_100 : decode cX8_split 100 = .ok (.putfield 109, 3) := by decide +kernel
theorem dX8_split_103 : decode cX8_split 103 = .ok (.goto (-96), 3) := by decide +kernel
theorem dX8_split_106 : decode cX8_split 106 = .ok (.return_, 1) := by decide +kernel
theorem dX8_letter_0 : decode cX8_letter 0 = .ok (.aload_n 0, 1) := by decide +kernel
theorem dX8_letter_1 : decode cX8_letter 1 = .ok (.getfield 13, 3) := by decide +kernel
theorem dX8_letter_4 : decode cX8_letter 4 = .ok (.iload_n 1, 1) := by decide +kernel
theorem dX8_letter_5 : decode cX8_letter 5 = .ok (.iaload, 1) := by decide +kernel
theorem dX8_letter_6 : decode cX8_letter 6 = .ok (.iload_n 2, 1) := by decide +kernel
theorem dX8_letter_7 : decode cX8_letter 7 = .ok (.iadd, 1) := by decide +kernel
theorem dX8_letter_8 : decode cX8_letter 8 = .ok (.aload_n 0, 1) := by decide +kernel
theorem dX8_letter_9 : decode cX8_letter 9 = .ok (.getfield 17, 3) := by decide +kernel
theorem dX8_letter_12 : decode cX8_letter 12 = .ok (.iload_n 1, 1) := by decide +kernel
theorem dX8_letter_13 : decode cX8_letter 13 = .ok (.iaload, 1) := by decide +kernel
theorem dX8_letter_14 : decode cX8_letter 14 = .ok (.if_icmp .ge 19, 3) := by decide +kernel
theorem dX8_letter_17 : decode cX8_letter 17 = .ok (.aload_n 0, 1) := by decide +kernel
theorem dX8_letter_18 : decode cX8_letter 18 = .ok (.getfield 7, 3) := by decide +kernel
theorem dX8_letter_21 : decode cX8_letter 21 = .ok (.aload_n 0, 1) := by decide +kernel
theorem dX8_letter_22 : decode cX8_letter 22 = .ok (.getfield 13, 3) := by decide +kernel
theorem dX8_letter_25 : decode cX8_letter 25 = .ok (.iload_n 1, 1) := by decide +kernel
theorem dX8_letter_26 : decode cX8_letter 26 = .ok (.iaload, 1) := by decide +kernel
theorem dX8_letter_27 : decode cX8_letter 27 = .ok (.iload_n 2, 1) := by decide +kernel
theorem dX8_letter_28 : decode cX8_letter 28 = .ok (.iadd, 1) := by decide +kernel
theorem dX8_letter_29 : decode cX8_letter 29 = .ok (.caload, 1) := by decide +kernel
theorem dX8_letter_30 : decode cX8_letter 30 = .ok (.goto 4, 3) := by decide +kernel
theorem dX8_letter_33 : decode cX8_letter 33 = .ok (.iconst 0, 1) := by decide +kernel
theorem dX8_letter_34 : decode cX8_letter 34 = .ok (.ireturn, 1) := by decide +kernel
theorem dX8_length_0 : decode cX8_length 0 = .ok (.aload_n 0, 1) := by decide +kernel
theorem dX8_length_1 : decode cX8_length 1 = .ok (.getfield 17, 3) := by decide +kernel
theorem dX8_length_4 : decode cX8_length 4 = .ok (.iload_n 1, 1) := by decide +kernel
theorem dX8_length_5 : decode cX8_length 5 = .ok (.iaload, 1) := by decide +kernel
theorem dX8_length_6 : decode cX8_length 6 = .ok (.aload_n 0, 1) := by decide +kernel
theorem dX8_length_7 : decode cX8_length 7 = .ok (.getfield 13, 3) := by decide +kernel
theorem dX8_length_10 : decode cX8_length 10 = .ok (.iload_n 1, 1) := by decide +kernel
theorem dX8_length_11 : decode cX8_length 11 = .ok (.iaload, 1) := by decide +kernel
theorem dX8_length_12 : decode cX8_length 12 = .ok (.isub, 1) := by decide +kernel
theorem dX8_length_13 : decode cX8_length 13 = .ok (.ireturn, 1) := by decide +kernel
set_option maxRecDepth 20000 in
theorem ggX8_isWord_X8_length : GoodIn wsX8_isWord wsX8_length := goodIn_r _ [5, 6, 7, 13, 14, 15, 16, 17, 18, 19, 20, 21, 22, 23, 24, 25, 26, 27, 28, 29, 30, 31, 32, 33, 34, 35, 36, 37, 38, 39, 40, 41, 42, 43, 44, 45, 46, 47, 48, 49, 50, 51] (by decide +kernel) (by decide +kernel)
set_option maxRecDepth 20000 in
theorem gX8_isWord_X8_length : GoodIn wsX8_isWord (wsV RX8 112 RX8 yX8_length wsX8_length) := goodIn_app (goodIn_of _ (by decide +kernel)) ggX8_isWord_X8_length
set_option maxRecDepth 20000 in
theorem ggX8_isWord_X8_letter : GoodIn wsX8_isWord wsX8_letter := goodIn_r _ [11, 7, 6, 12, 13, 14, 15, 16, 17, 18, 19, 20, 21, 22, 23, 24, 25, 26, 27, 28, 29, 30, 31, 32, 33, 34, 35, 36, 37, 38, 39, 40, 41, 42, 43, 44, 45, 46, 47, 48, 49, 50, 51] (by decide +kernel) (by decide +kernel)
set_option maxRecDepth 20000 in
theorem gX8_isWord_X8_letter : GoodIn wsX8_isWord (wsV RX8 116 RX8 yX8_letter wsX8_letter) := goodIn_app (goodIn_of _ (by decide +kernel)) ggX8_isWord_X8_letter
theorem dX8_isWord_0 : decode cX8_isWord 0 = .ok (.aload_n 0, 1) := by decide +kernel
theorem dX8_isWord_1 : decode cX8_isWord 1 = .ok (.iload_n 1, 1) := by decide +kernel
theorem dX8_isWord_2 : decode cX8_isWord 2 = .ok (.invokevirtual 112, 3) := by decide +kernel
theorem dX8_isWord_5 : decode cX8_isWord 5 = .ok (.iload_n 2, 1) := by decide +kernel
theorem dX8_isWord_6 : decode cX8_isWord 6 = .ok (.if_icmp .gt 7, 3) := by decide +kernel
theorem dX8_isWord_9 : decode cX8_isWord 9 = .ok (.iconst 1, 1) := by decide +kernel
theorem dX8_isWord_10 : decode cX8_isWord 10 = .ok (.goto 4, 3) := by decide +kernel
theorem dX8_isWord_13 : decode cX8_isWord 13 = .ok (.iconst 0, 1) := by decide +kernel
theorem dX8_isWord_14 : decode cX8_isWord 14 = .ok (.istore_n 3, 1) := by decide +kernel
theorem dX8_isWord_15 : decode cX8_isWord 15 = .ok (.iconst 0, 1) := by decide +kernel
theorem dX8_isWord_16 : decode cX8_isWord 16 = .ok (.istore 4, 2) := by decide +kernel
theorem dX8_isWord_18 : decode cX8_isWord 18 = .ok (.iload 4, 2) := by decide +kernel
theorem dX8_isWord_20 : decode cX8_isWord 20 = .ok (.aload_n 0, 1) := by decide +kernel
theorem dX8_isWord_21 : decode cX8_isWord 21 = .ok (.iload_n 1, 1) := by decide +kernel
theorem dX8_isWord_22 : decode cX8_isWord 22 = .ok (.invokevirtual 112, 3) := by decide +kernel
theorem dX8_isWord_25 : decode cX8_isWord 25 = .ok (.if_icmp .ge 43, 3) := by decide +kernel
theorem dX8_isWord_28 : decode cX8_isWord 28 = .ok (.iload_n 3, 1) := by decide +kernel
theorem dX8_isWord_29 : decode cX8_isWord 29 = .ok (.ifCond .eq 39, 3) := by decide +kernel
theorem dX8_isWord_32 : decode cX8_isWord 32 = .ok (.aload_n 0, 1) := by decide +kernel
theorem dX8_isWord_33 : decode cX8_isWord 33 = .ok (.iload_n 1, 1) := by decide +kernel
theorem dX8_isWord_34 : decode cX8_isWord 34 = .ok (.iload 4, 2) := by decide +kernel
theorem dX8_isWord_36 : decode cX8_isWord 36 = .ok (.invokevirtual 116, 3) := by decide +kernel
theorem dX8_isWord_39 : decode cX8_isWord 39 = .ok (.bipush 97, 2) := by decide +kernel
theorem dX8_isWord_41 : decode cX8_isWord 41 = .ok (.if_icmp .lt 19, 3) := by decide +kernel
theorem dX8_isWord_44 : decode cX8_isWord 44 = .ok (.aload_n 0, 1) := by decide +kernel
theorem dX8_isWord_45 : decode cX8_isWord 45 = .ok (.iload_n 1, 1) := by decide +kernel
theorem dX8_isWord_46 : decode cX8_isWord 46 = .ok (.iload 4, 2) := by decide +kernel
theorem dX8_isWord_48 : decode cX8_isWord 48 = .ok (.invokevirtual 116, 3) := by decide +kernel
theorem dX8_isWord_51 : decode cX8_isWord 51 = .ok (.bipush 122, 2) := by decide +kernel
theorem dX8_isWord_53 : decode cX8_isWord 53 = .ok (.if_icmp .gt 7, 3) := by decide +kernel
theorem dX8_isWord_56 : decode cX8_isWord 56 = .ok (.iconst 1, 1) := by decide +kernel
theorem dX8_isWord_57 : decode cX8_isWord 57 = .ok (.goto 4, 3) := by decide +kernel
theorem dX8_isWord_60 : decode cX8_isWord 60 = .ok (.iconst 0, 1) := by decide +kernel
theorem dX8_isWord_61 : decode cX8_isWord 61 = .ok (.istore_n 3, 1) := by decide +kernel
theorem dX8_isWord_62 : decode cX8_isWord 62 = .ok (.iinc 4 1, 3) := by decide +kernel
theorem dX8_isWord_65 : decode cX8_isWord 65 = .ok (.goto (-47), 3) := by decide +kernel
theorem dX8_isWord_68 : decode cX8_isWord 68 = .ok (.iload_n 3, 1) := by decide +kernel
theorem dX8_isWord_69 : decode cX8_isWord 69 = .ok (.ireturn, 1) := by decide +kernel
set_option maxRecDepth 20000 in
theorem ggX8_says_X8_letter : GoodIn wsX8_says wsX8_letter := goodIn_r _ [5, 6, 7, 8, 13, 14, 15, 16, 17, 18, 19, 20, 21, 22, 23, 24, 25, 26, 27, 28, 29, 30, 31, 32, 33, 34, 35, 36, 37, 38, 39, 40, 41, 42, 43, 44, 45, 46, 47, 48, 49, 50, 51] (by decide +kernel) (by decide +kernel)
set_option maxRecDepth 20000 in
theorem gX8_says_X8_letter : GoodIn wsX8_says (wsV RX8 116 RX8 yX8_letter wsX8_letter) := goodIn_app (goodIn_of _ (by decide +kernel)) ggX8_says_X8_letter
set_option maxRecDepth 20000 in
theorem ggX8_says_X8_length : GoodIn wsX8_says wsX8_length := goodIn_r _ [12, 7, 6, 13, 14, 15, 16, 17, 18, 19, 20, 21, 22, 23, 24, 25, 26, 27, 28, 29, 30, 31, 32, 33, 34, 35, 36, 37, 38, 39, 40, 41, 42, 43, 44, 45, 46, 47, 48, 49, 50, 51] (by decide +kernel) (by decide +kernel)
set_option maxRecDepth 20000 in
theorem gX8_says_X8_length : GoodIn wsX8_says (wsV RX8 112 RX8 yX8_length wsX8_length) := goodIn_app (goodIn_of _ (by decide +kernel)) ggX8_says_X8_length
theorem dX8_says_0 : decode cX8_says 0 = .ok (.aload_n 0, 1) := by decide +kernel
theorem dX8_says_1 : decode cX8_says 1 = .ok (.iload_n 1, 1) := by decide +kernel
theorem dX8_says_2 : decode cX8_says 2 = .ok (.iconst 0, 1) := by decide +kernel
theorem dX8_says_3 : decode cX8_says 3 = .ok (.invokevirtual 116, 3) := by decide +kernel
theorem dX8_says_6 : decode cX8_says 6 = .ok (.iload_n 2, 1) := by decide +kernel
theorem dX8_says_7 : decode cX8_says 7 = .ok (.if_icmp .ne 71, 3) := by decide +kernel
theorem dX8_says_10 : decode cX8_says 10 = .ok (.aload_n 0, 1) := by decide +kernel
theorem dX8_says_11 : decode cX8_says 11 = .ok (.iload_n 1, 1) := by decide +kernel
theorem dX8_says_12 : decode cX8_says 12 = .ok (.iconst 1, 1) := by decide +kernel
theorem dX8_says_13 : decode cX8_says 13 = .ok (.invokevirtual 116, 3) := by decide +kernel
theorem dX8_says_16 : decode cX8_says 16 = .ok (.iload_n 3, 1) := by decide +kernel
theorem dX8_says_17 : decode cX8_says 17 = .ok (.if_icmp .ne 61, 3) := by decide +kernel
theorem dX8_says_20 : decode cX8_says 20 = .ok (.aload_n 0, 1) := by decide +kernel
theorem dX8_says_21 : decode cX8_says 21 = .ok (.iload_n 1, 1) := by decide +kernel
theorem dX8_says_22 : decode cX8_says 22 = .ok (.iconst 2, 1) := by decide +kernel
theorem dX8_says_23 : decode cX8_says 23 = .ok (.invokevirtual 116, 3) := by decide +kernel
theorem dX8_says_26 : decode cX8_says 26 = .ok (.iload 4, 2) := by decide +kernel
theorem dX8_says_28 : decode cX8_says 28 = .ok (.if_icmp .ne 50, 3) := by decide +kernel
theorem dX8_says_31 : decode cX8_says 31 = .ok (.aload_n 0, 1) := by decide +kernel
theorem dX8_says_32 : decode cX8_says 32 = .ok (.iload_n 1, 1) := by decide +kernel
theorem dX8_says_33 : decode cX8_says 33 = .ok (.iconst 3, 1) := by decide +kernel
theorem dX8_says_34 : decode cX8_says 34 = .ok (.invokevirtual 116, 3) := by decide +kernel
theorem dX8_says_37 : decode cX8_says 37 = .ok (.iload 5, 2) := by decide +kernel
theorem dX8_says_39 : decode cX8_says 39 = .ok (.if_icmp .ne 39, 3) := by decide +kernel
theorem dX8_says_42 : decode cX8_says 42 = .ok (.aload_n 0, 1) := by decide +kernel
theorem dX8_says_43 : decode cX8_says 43 = .ok (.iload_n 1, 1) := by decide +kernel
theorem dX8_says_44 : decode cX8_says 44 = .ok (.iconst 4, 1) := by decide +kernel
theorem dX8_says_45 : decode cX8_says 45 = .ok (.invokevirtual 116, 3) := by decide +kernel
theorem dX8_says_48 : decode cX8_says 48 = .ok (.iload 6, 2) := by decide +kernel
theorem dX8_says_50 : decode cX8_says 50 = .ok (.if_icmp .ne 28, 3) := by decide +kernel
theorem dX8_says_53 : decode cX8_says 53 = .ok (.aload_n 0, 1) := by decide +kernel
theorem dX8_says_54 : decode cX8_says 54 = .ok (.iload_n 1, 1) := by decide +kernel
theorem dX8_says_55 : decode cX8_says 55 = .ok (.iconst 5, 1) := by decide +kernel
theorem dX8_says_56 : decode cX8_says 56 = .ok (.invokevirtual 116, 3) := by decide +kernel
theorem dX8_says_59 : decode cX8_says 59 = .ok (.iload 7, 2) := by decide +kernel
theorem dX8_says_61 : decode cX8_says 61 = .ok (.if_icmp .ne 17, 3) := by decide +kernel
theorem dX8_says_64 : decode cX8_says 64 = .ok (.aload_n 0, 1) := by decide +kernel
theorem dX8_says_65 : decode cX8_says 65 = .ok (.iload_n 1, 1) := by decide +kernel
theorem dX8_says_66 : decode cX8_says 66 = .ok (.invokevirtual 112, 3) := by decide +kernel
theorem dX8_says_69 : decode cX8_says 69 = .ok (.bipush 8, 2) := by decide +kernel
theorem dX8_says_71 : decode cX8_says 71 = .ok (.if_icmp .gt 7, 3) := by decide +kernel
theorem dX8_says_74 : decode cX8_says 74 = .ok (.iconst 1, 1) := by decide +kernel
theorem dX8_says_75 : decode cX8_says 75 = .ok (.goto 4, 3) := by decide +kernel
theorem dX8_says_78 : decode cX8_says 78 = .ok (.iconst 0, 1) := by decide +kernel
theorem dX8_says_79 : decode cX8_says 79 = .ok (.ireturn, 1) := by decide +kernel
set_option maxRecDepth 20000 in
theorem ggX8_stateOf_X8_length : GoodIn wsX8_stateOf wsX8_length := goodIn_r _ [7, 8, 9, 15, 16, 17, 18, 19, 20, 21, 22, 23, 24, 25, 26, 27, 28, 29, 30, 31, 32, 33, 34, 35, 36, 37, 38, 39, 40, 41, 42, 43, 44, 45, 46, 47, 48, 49, 50, 51, 52, 53] (by decide +kernel) (by decide +kernel)
set_option maxRecDepth 20000 in
theorem gX8_stateOf_X8_length : GoodIn wsX8_stateOf (wsV RX8 112 RX8 yX8_length wsX8_length) := goodIn_app (goodIn_of _ (by decide +kernel)) ggX8_stateOf_X8_length
set_option maxRecDepth 20000 in
theorem ggX8_stateOf_X8_letter : GoodIn wsX8_stateOf wsX8_letter := goodIn_r _ [13, 9, 8, 14, 15, 16, 17, 18, 19, 20, 21, 22, 23, 24, 25, 26, 27, 28, 29, 30, 31, 32, 33, 34, 35, 36, 37, 38, 39, 40, 41, 42, 43, 44, 45, 46, 47, 48, 49, 50, 51, 52, 53] (by decide +kernel) (by decide +kernel)
set_option maxRecDepth 20000 in
theorem gX8_stateOf_X8_letter : GoodIn wsX8_stateOf (wsV RX8 116 RX8 yX8_letter wsX8_letter) := goodIn_app (goodIn_of _ (by decide +kernel)) ggX8_stateOf_X8_letter
theorem dX8_stateOf_0 : decode cX8_stateOf 0 = .ok (.iconst 0, 1) := by decide +kernel
theorem dX8_stateOf_1 : decode cX8_stateOf 1 = .ok (.istore_n 2, 1) := by decide +kernel
theorem dX8_stateOf_2 : decode cX8_stateOf 2 = .ok (.iload_n 2, 1) := by decide +kernel
theorem dX8_stateOf_3 : decode cX8_stateOf 3 = .ok (.aload_n 0, 1) := by decide +kernel
theorem dX8_stateOf_4 : decode cX8_stateOf 4 = .ok (.getfield 20, 3) := by decide +kernel
theorem dX8_stateOf_7 : decode cX8_stateOf 7 = .ok (.if_icmp .ge 72, 3) := by decide +kernel
theorem dX8_stateOf_10 : decode cX8_stateOf 10 = .ok (.aload_n 0, 1) := by decide +kernel
theorem dX8_stateOf_11 : decode cX8_stateOf 11 = .ok (.iload_n 1, 1) := by decide +kernel
theorem dX8_stateOf_12 : decode cX8_stateOf 12 = .ok (.invokevirtual 112, 3) := by decide +kernel
theorem dX8_stateOf_15 : decode cX8_stateOf 15 = .ok (.iconst 4, 1) := by decide +kernel
theorem dX8_stateOf_16 : decode cX8_stateOf 16 = .ok (.if_icmp .gt 63, 3) := by decide +kernel
theorem dX8_stateOf_19 : decode cX8_stateOf 19 = .ok (.iconst 1, 1) := by decide +kernel
theorem dX8_stateOf_20 : decode cX8_stateOf 20 = .ok (.istore_n 3, 1) := by decide +kernel
theorem dX8_stateOf_21 : decode cX8_stateOf 21 = .ok (.iconst 0, 1) := by decide +kernel
theorem dX8_stateOf_22 : decode cX8_stateOf 22 = .ok (.istore 4, 2) := by decide +kernel
theorem dX8_stateOf_24 : decode cX8_stateOf 24 = .ok (.iload 4, 2) := by decide +kernel
theorem dX8_stateOf_26 : decode cX8_stateOf 26 = .ok (.iconst 4, 1) := by decide +kernel
theorem dX8_stateOf_27 : decode cX8_stateOf 27 = .ok (.if_icmp .ge 40, 3) := by decide +kernel
theorem dX8_stateOf_30 : decode cX8_stateOf 30 = .ok (.iload_n 3, 1) := by decide +kernel
theorem dX8_stateOf_31 : decode cX8_stateOf 31 = .ok (.ifCond .eq 28, 3) := by decide +kernel
theorem dX8_stateOf_34 : decode cX8_stateOf 34 = .ok (.aload_n 0, 1) := by decide +kernel
theorem dX8_stateOf_35 : decode cX8_stateOf 35 = .ok (.getfield 24, 3) := by decide +kernel
theorem dX8_stateOf_38 : decode cX8_stateOf 38 = .ok (.iconst 4, 1) := by decide +kernel
theorem dX8_stateOf_39 : decode cX8_stateOf 39 = .ok (.iload_n 2, 1) := by decide +kernel
theorem dX8_stateOf_40 : decode cX8_stateOf 40 = .ok (.imul, 1) := by decide +kernel
theorem dX8_stateOf_41 : decode cX8_stateOf 41 = .ok (.iload 4, 2) := by decide +kernel
theorem dX8_stateOf_43 : decode cX8_stateOf 43 = .ok (.iadd, 1) := by decide +kernel
theorem dX8_stateOf_44 : decode cX8_stateOf 44 = .ok (.caload, 1) := by decide +kernel
theorem dX8_stateOf_45 : decode cX8_stateOf 45 = .ok (.aload_n 0, 1) := by decide +kernel
theorem dX8_stateOf_46 : decode cX8_stateOf 46 = .ok (.iload_n 1, 1) := by decide +kernel
theorem dX8_stateOf_47 : decode cX8_stateOf 47 = .ok (.iload 4, 2) := by decide +kernel
theorem dX8_stateOf_49 : decode cX8_stateOf 49 = .ok (.invokevirtual 116, 3) := by decide +kernel
theorem dX8_stateOf_52 : decode cX8_stateOf 52 = .ok (.if_icmp .ne 7, 3) := by decide +kernel
theorem dX8_stateOf_55 : decode cX8_stateOf 55 = .ok (.iconst 1, 1) := by decide +kernel
theorem dX8_stateOf_56 : decode cX8_stateOf 56 = .ok (.goto 4, 3) := by decide +kernel
theorem dX8_stateOf_59 : decode cX8_stateOf 59 = .ok (.iconst 0, 1) := by decide +kernel
theorem dX8_stateOf_60 : decode cX8_stateOf 60 = .ok (.istore_n 3, 1) := by decide +kernel
theorem dX8_stateOf_61 : decode cX8_stateOf 61 = .ok (.iinc 4 1, 3) := by decide +kernel
theorem dX8_stateOf_64 : decode cX8_stateOf 64 = .ok (.goto (-40), 3) := by decide +kernel
theorem dX8_stateOf_67 : decode cX8_stateOf 67 = .ok (.iload_n 3, 1) := by decide +kernel
theorem dX8_stateOf_68 : decode cX8_stateOf 68 = .ok (.ifCond .eq 5, 3) := by decide +kernel
theorem dX8_stateOf_71 : decode cX8_stateOf 71 = .ok (.iload_n 2, 1) := by decide +kernel
theorem dX8_stateOf_72 : decode cX8_stateOf 72 = .ok (.ireturn, 1) := by decide +kernel
theorem dX8_stateOf_73 : decode cX8_stateOf 73 = .ok (.iinc 2 1, 3) := by decide +kernel
theorem dX8_stateOf_76 : decode cX8_stateOf 76 = .ok (.goto (-74), 3) := by decide +kernel
theorem dX8_stateOf_79 : decode cX8_stateOf 79 = .ok (.iconst (-1), 1) := by decide +kernel
theorem dX8_stateOf_80 : decode cX8_stateOf 80 = .ok (.ireturn, 1) := by decide +kernel
set_option maxRecDepth 20000 in
theorem ggX8_eventOf_X8_letter : GoodIn wsX8_eventOf wsX8_letter := goodIn_r _ [7, 8, 9, 10, 11, 12, 13, 14, 15, 16, 17, 18, 19, 20, 21, 22, 23, 24, 25, 26, 27, 28, 29, 30, 31, 32, 33, 34, 35, 36, 37, 38, 39, 40, 41, 42, 43, 44, 45, 46, 47, 48, 49] (by decide +kernel) (by decide +kernel)
set_option maxRecDepth 20000 in
theorem gX8_eventOf_X8_letter : GoodIn wsX8_eventOf (wsV RX8 116 RX8 yX8_letter wsX8_letter) := goodIn_app (goodIn_of _ (by decide +kernel)) ggX8_eventOf_X8_letter
theorem dX8_eventOf_0 : decode cX8_eventOf 0 = .ok (.iconst 0, 1) := by decide +kernel
theorem dX8_eventOf_1 : decode cX8_eventOf 1 = .ok (.istore_n 2, 1) := by decide +kernel
theorem dX8_eventOf_2 : decode cX8_eventOf 2 = .ok (.iload_n 2, 1) := by decide +kernel
theorem dX8_eventOf_3 : decode cX8_eventOf 3 = .ok (.aload_n 0, 1) := by decide +kernel
theorem dX8_eventOf_4 : decode cX8_eventOf 4 = .ok (.getfield 120, 3) := by decide +kernel
theorem dX8_eventOf_7 : decode cX8_eventOf 7 = .ok (.if_icmp .ge 63, 3) := by decide +kernel
theorem dX8_eventOf_10 : decode cX8_eventOf 10 = .ok (.iconst 1, 1) := by decide +kernel
theorem dX8_eventOf_11 : decode cX8_eventOf 11 = .ok (.istore_n 3, 1) := by decide +kernel
theorem dX8_eventOf_12 : decode cX8_eventOf 12 = .ok (.iconst 0, 1) := by decide +kernel
theorem dX8_eventOf_13 : decode cX8_eventOf 13 = .ok (.istore 4, 2) := by decide +kernel
theorem dX8_eventOf_15 : decode cX8_eventOf 15 = .ok (.iload 4, 2) := by decide +kernel
theorem dX8_eventOf_17 : decode cX8_eventOf 17 = .ok (.iconst 4, 1) := by decide +kernel
theorem dX8_eventOf_18 : decode cX8_eventOf 18 = .ok (.if_icmp .ge 40, 3) := by decide +kernel
theorem dX8_eventOf_21 : decode cX8_eventOf 21 = .ok (.iload_n 3, 1) := by decide +kernel
theorem dX8_eventOf_22 : decode cX8_eventOf 22 = .ok (.ifCond .eq 28, 3) := by decide +kernel
theorem dX8_eventOf_25 : decode cX8_eventOf 25 = .ok (.aload_n 0, 1) := by decide +kernel
theorem dX8_eventOf_26 : decode cX8_eventOf 26 = .ok (.getfield 46, 3) := by decide +kernel
theorem dX8_eventOf_29 : decode cX8_eventOf 29 = .ok (.iconst 4, 1) := by decide +kernel
theorem dX8_eventOf_30 : decode cX8_eventOf 30 = .ok (.iload_n 2, 1) := by decide +kernel
theorem dX8_eventOf_31 : decode cX8_eventOf 31 = .ok (.imul, 1) := by decide +kernel
theorem dX8_eventOf_32 : decode cX8_eventOf 32 = .ok (.iload 4, 2) := by decide +kernel
theorem dX8_eventOf_34 : decode cX8_eventOf 34 = .ok (.iadd, 1) := by decide +kernel
theorem dX8_eventOf_35 : decode cX8_eventOf 35 = .ok (.caload, 1) := by decide +kernel
theorem dX8_eventOf_36 : decode cX8_eventOf 36 = .ok (.aload_n 0, 1) := by decide +kernel
theorem dX8_eventOf_37 : decode cX8_eventOf 37 = .ok (.iload_n 1, 1) := by decide +kernel
theorem dX8_eventOf_38 : decode cX8_eventOf 38 = .ok (.iload 4, 2) := by decide +kernel
theorem dX8_eventOf_40 : decode cX8_eventOf 40 = .ok (.invokevirtual 116, 3) := by decide +kernel
theorem dX8_eventOf_43 : decode cX8_eventOf 43 = .ok (.if_icmp .ne 7, 3) := by decide +kernel
theorem dX8_eventOf_46 : decode cX8_eventOf 46 = .ok (.iconst 1, 1) := by decide +kernel
theorem dX8_eventOf_47 : decode cX8_eventOf 47 = .ok (.goto 4, 3) := by decide +kernel
theorem dX8_eventOf_50 : decode cX8_eventOf 50 = .ok (.iconst 0, 1) := by decide +kernel
theorem dX8_eventOf_51 : decode cX8_eventOf 51 = .ok (.istore_n 3, 1) := by decide +kernel
theorem dX8_eventOf_52 : decode cX8_eventOf 52 = .ok (.iinc 4 1, 3) := by decide +kernel
theorem dX8_eventOf_55 : decode cX8_eventOf 55 = .ok (.goto (-40), 3) := by decide +kernel
theorem dX8_eventOf_58 : decode cX8_eventOf 58 = .ok (.iload_n 3, 1) := by decide +kernel
theorem dX8_eventOf_59 : decode cX8_eventOf 59 = .ok (.ifCond .eq 5, 3) := by decide +kernel
theorem dX8_eventOf_62 : decode cX8_eventOf 62 = .ok (.iload_n 2, 1) := by decide +kernel
theorem dX8_eventOf_63 : decode cX8_eventOf 63 = .ok (.ireturn, 1) := by decide +kernel
theorem dX8_eventOf_64 : decode cX8_eventOf 64 = .ok (.iinc 2 1, 3) := by decide +kernel
theorem dX8_eventOf_67 : decode cX8_eventOf 67 = .ok (.goto (-65), 3) := by decide +kernel
theorem dX8_eventOf_70 : decode cX8_eventOf 70 = .ok (.iconst (-1), 1) := by decide +kernel
theorem dX8_eventOf_71 : decode cX8_eventOf 71 = .ok (.ireturn, 1) := by decide +kernel
set_option maxRecDepth 20000 in
theorem ggX8_line_X8_split : GoodIn wsX8_line wsX8_split := goodIn_r _ [9, 3, 2, 10, 11, 12, 71, 72, 73, 74, 75, 76, 77, 78, 79, 80, 81, 82, 83, 84, 85, 86, 87, 88, 89, 90, 91, 92, 93, 94, 95, 96, 97, 98, 99, 100, 101, 102, 103, 104, 105, 106, 107, 108, 109] (by decide +kernel) (by decide +kernel)
set_option maxRecDepth 20000 in
theorem gX8_line_X8_split : GoodIn wsX8_line (wsV RX8 123 RX8 yX8_split wsX8_split) := goodIn_app (goodIn_of _ (by decide +kernel)) ggX8_line_X8_split
set_option maxRecDepth 20000 in
theorem ggX8_line_X8_says : GoodIn wsX8_line wsX8_says := goodIn_r _ [16, 17, 18, 19, 8, 20, 11, 12, 10, 21, 22, 23, 24, 71, 72, 73, 74, 75, 76, 77, 78, 79, 80, 81, 82, 83, 84, 85, 86, 87, 88, 89, 90, 91, 92, 93, 94, 95, 96, 97, 98, 99, 100, 101, 102, 103, 104, 105, 106, 107, 108, 109] (by decide +kernel) (by decide +kernel)
set_option maxRecDepth 20000 in
theorem gX8_line_X8_says : GoodIn wsX8_line (wsV RX8 126 RX8 yX8_says wsX8_says) := goodIn_app (goodIn_of _ (by decide +kernel)) ggX8_line_X8_says
set_option maxRecDepth 20000 in
theorem ggX8_line_X8_length : GoodIn wsX8_line wsX8_length := goodIn_r _ [24, 12, 11, 71, 72, 73, 74, 75, 76, 77, 78, 79, 80, 81, 82, 83, 84, 85, 86, 87, 88, 89, 90, 91, 92, 93, 94, 95, 96, 97, 98, 99, 100, 101, 102, 103, 104, 105, 106, 107, 108, 109] (by decide +kernel) (by decide +kernel)
set_option maxRecDepth 20000 in
theorem gX8_line_X8_length : GoodIn wsX8_line (wsV RX8 112 RX8 yX8_length wsX8_length) := goodIn_app (goodIn_of _ (by decide +kernel)) ggX8_line_X8_length
set_option maxRecDepth 20000 in
theorem ggX8_line_X8_newState : GoodIn wsX8_line wsX8_newState := goodIn_r _ [28, 3, 29, 30, 31, 32, 33, 34, 35, 36, 37, 8, 38, 21, 22, 23, 24, 12, 11, 17, 18, 19, 20, 10, 39, 40, 41, 42, 13, 14, 15, 16, 71, 72, 73, 74, 75, 76, 77, 78, 79, 80, 81, 82, 83, 84, 85, 86, 87, 88, 89, 90, 91, 92, 93, 94, 95, 96, 97, 98, 99, 100, 101, 102, 103, 104, 105, 106, 107, 108, 109] (by decide +kernel) (by decide +kernel)
set_option maxRecDepth 20000 in
theorem gX8_line_X8_newState : GoodIn wsX8_line (wsV RX8 130 RX8 yX8_newState wsX8_newState) := goodIn_app (goodIn_of _ (by decide +kernel)) ggX8_line_X8_newState
set_option maxRecDepth 20000 in
theorem ggX8_line_X8_newMarks : GoodIn wsX8_line wsX8_newMarks := goodIn_r _ [46, 3, 47, 48, 35, 36, 37, 8, 38, 21, 22, 23, 24, 12, 11, 17, 18, 19, 20, 10, 39, 40, 41, 42, 30, 31, 71, 72, 73, 74, 75, 76, 77, 78, 79, 80, 81, 82, 83, 84, 85, 86, 87, 88, 89, 90, 91, 92, 93, 94, 95, 96, 97, 98, 99, 100, 101, 102, 103, 104, 105, 106, 107, 108, 109] (by decide +kernel) (by decide +kernel)
set_option maxRecDepth 20000 in
theorem gX8_line_X8_newMarks : GoodIn wsX8_line (wsV RX8 134 RX8 yX8_newMarks wsX8_newMarks) := goodIn_app (goodIn_of _ (by decide +kernel)) ggX8_line_X8_newMarks
set_option maxRecDepth 20000 in
theorem ggX8_line_X8_newRule : GoodIn wsX8_line wsX8_newRule := goodIn_r _ [52, 3, 53, 54, 55, 56, 57, 58, 59, 60, 61, 62, 35, 36, 37, 8, 38, 21, 22, 23, 24, 12, 11, 17, 18, 19, 20, 10, 13, 14, 15, 16, 39, 40, 41, 42, 30, 31, 63, 64, 65, 66, 71, 72, 73, 74, 75, 76, 77, 78, 79, 80, 81, 82, 83, 84, 85, 86, 87, 88, 89, 90, 91, 92, 93, 94, 95, 96, 97, 98, 99, 100, 101, 102, 103, 104, 105, 106, 107, 108, 109] (by decide +kernel) (by decide +kernel)
set_option maxRecDepth 20000 in
theorem gX8_line_X8_newRule : GoodIn wsX8_line (wsV RX8 137 RX8 yX8_newRule wsX8_newRule) := goodIn_app (goodIn_of _ (by decide +kernel)) ggX8_line_X8_newRule
set_option maxRecDepth 20000 in
theorem ggX8_line_X8_fails : GoodIn wsX8_line wsX8_fails := goodIn_r _ [70, 1, 71, 72, 73, 74, 75, 76, 77, 78, 79, 80, 81, 82, 83, 84, 85, 86, 87, 88, 89, 90, 91, 92, 93, 94, 95, 96, 97, 98, 99, 100, 101, 102, 103, 104, 105, 106, 107, 108, 109] (by decide +kernel) (by decide +kernel)
set_option maxRecDepth 20000 in
theorem gX8_line_X8_fails : GoodIn wsX8_line (wsV RX8 140 RX8 yX8_fails wsX8_fails) := goodIn_app (goodIn_of _ (by decide +kernel)) ggX8_line_X8_fails
theorem dX8_line_0 : decode cX8_line 0 = .ok (.aload_n 0, 1) := by decide +kernel
theorem dX8_line_1 : decode cX8_line 1 = .ok (.iconst 0, 1) := by decide +kernel
theorem dX8_line_2 : decode cX8_line 2 = .ok (.putfield 103, 3) := by decide +kernel
theorem dX8_line_5 : decode cX8_line 5 = .ok (.aload_n 0, 1) := by decide +kernel
theorem dX8_line_6 : decode cX8_line 6 = .ok (.invokevirtual 123, 3) := by decide +kernel
theorem dX8_line_9 : decode cX8_line 9 = .ok (.aload_n 0, 1) := by decide +kernel
theorem dX8_line_10 : decode cX8_line 10 = .ok (.iconst 0, 1) := by decide +kernel
theorem dX8_line_11 : decode cX8_line 11 = .ok (.putfield 106, 3) := by decide +kernel
theorem dX8_line_14 : decode cX8_line 14 = .ok (.aload_n 0, 1) := by decide +kernel
theorem dX8_line_15 : decode cX8_line 15 = .ok (.getfield 109, 3) := by decide +kernel
theorem dX8_line_18 : decode cX8_line 18 = .ok (.ifCond .ne 5, 3) := by decide +kernel
theorem dX8_line_21 : decode cX8_line 21 = .ok (.iconst 0, 1) := by decide +kernel
theorem dX8_line_22 : decode cX8_line 22 = .ok (.ireturn, 1) := by decide +kernel
theorem dX8_line_23 : decode cX8_line 23 = .ok (.iconst (-1), 1) := by decide +kernel
theorem dX8_line_24 : decode cX8_line 24 = .ok (.istore_n 1, 1) := by decide +kernel
theorem dX8_line_25 : decode cX8_line 25 = .ok (.aload_n 0, 1) := by decide +kernel
theorem dX8_line_26 : decode cX8_line 26 = .ok (.iconst 0, 1) := by decide +kernel
theorem dX8_line_27 : decode cX8_line 27 = .ok (.bipush 115, 2) := by decide +kernel
theorem dX8_line_29 : decode cX8_line 29 = .ok (.bipush 116, 2) := by decide +kernel
theorem dX8_line_31 : decode cX8_line 31 = .ok (.bipush 97, 2) := by decide +kernel
theorem dX8_line_33 : decode cX8_line 33 = .ok (.bipush 116, 2) := by decide +kernel
theorem dX8_line_35 : decode cX8_line 35 = .ok (.bipush 101, 2) := by decide +kernel
theorem dX8_line_37 : decode cX8_line 37 = .ok (.iconst 0, 1) := by decide +kernel
theorem dX8_line_38 : decode cX8_line 38 = .ok (.invokevirtual 126, 3) := by decide +kernel
theorem dX8_line_41 : decode cX8_line 41 = .ok (.ifCond .eq 20, 3) := by decide +kernel
theorem dX8_line_44 : decode cX8_line 44 = .ok (.aload_n 0, 1) := by decide +kernel
theorem dX8_line_45 : decode cX8_line 45 = .ok (.iconst 0, 1) := by decide +kernel
theorem dX8_line_46 : decode cX8_line 46 = .ok (.invokevirtual 112, 3) := by decide +kernel
theorem dX8_line_49 : decode cX8_line 49 = .ok (.iconst 5, 1) := by decide +kernel
theorem dX8_line_50 : decode cX8_line 50 = .ok (.if_icmp .ne 11, 3) := by decide +kernel
theorem dX8_line_53 : decode cX8_line 53 = .ok (.aload_n 0, 1) := by decide +kernel
theorem dX8_line_54 : decode cX8_line 54 = .ok (.invokevirtual 130, 3) := by decide +kernel
theorem dX8_line_57 : decode cX8_line 57 = .ok (.istore_n 1, 1) := by decide +kernel
theorem dX8_line_58 : decode cX8_line 58 = .ok (.goto 97, 3) := by decide +kernel
theorem dX8_line_61 : decode cX8_line 61 = .ok (.aload_n 0, 1) := by decide +kernel
theorem dX8_line_62 : decode cX8_line 62 = .ok (.iconst 0, 1) := by decide +kernel
theorem dX8_line_63 : decode cX8_line 63 = .ok (.bipush 101, 2) := by decide +kernel
theorem dX8_line_65 : decode cX8_line 65 = .ok (.bipush 110, 2) := by decide +kernel
theorem dX8_line_67 : decode cX8_line 67 = .ok (.bipush 116, 2) := by decide +kernel
theorem dX8_line_69 : decode cX8_line 69 = .ok (.bipush 101, 2) := by decide +kernel
theorem dX8_line_71 : decode cX8_line 71 = .ok (.bipush 114, 2) := by decide +kernel
theorem dX8_line_73 : decode cX8_line 73 = .ok (.iconst 0, 1) := by decide +kernel
theorem dX8_line_74 : decode cX8_line 74 = .ok (.invokevirtual 126, 3) := by decide +kernel
theorem dX8_line_77 : decode cX8_line 77 = .ok (.ifCond .eq 21, 3) := by decide +kernel
theorem dX8_line_80 : decode cX8_line 80 = .ok (.aload_n 0, 1) := by decide +kernel
theorem dX8_line_81 : decode cX8_line 81 = .ok (.iconst 0, 1) := by decide +kernel
theorem dX8_line_82 : decode cX8_line 82 = .ok (.invokevirtual 112, 3) := by decide +kernel
theorem dX8_line_85 : decode cX8_line 85 = .ok (.iconst 5, 1) := by decide +kernel
theorem dX8_line_86 : decode cX8_line 86 = .ok (.if_icmp .ne 12, 3) := by decide +kernel
theorem dX8_line_89 : decode cX8_line 89 = .ok (.aload_n 0, 1) := by decide +kernel
theorem dX8_line_90 : decode cX8_line 90 = .ok (.iconst 0, 1) := by decide +kernel
theorem dX8_line_91 : decode cX8_line 91 = .ok (.invokevirtual 134, 3) := by decide +kernel
theorem dX8_line_94 : decode cX8_line 94 = .ok (.istore_n 1, 1) := by decide +kernel
theorem dX8_line_95 : decode cX8_line 95 = .ok (.goto 60, 3) := by decide +kernel
theorem dX8_line_98 : decode cX8_line 98 = .ok (.aload_n 0, 1) := by decide +kernel
theorem dX8_line_99 : decode cX8_line 99 = .ok (.iconst 0, 1) := by decide +kernel
theorem dX8_line_100 : decode cX8_line 100 = .ok (.bipush 101, 2) := by decide +kernel
theorem dX8_line_102 : decode cX8_line 102 = .ok (.bipush 120, 2) := by decide +kernel
theorem dX8_line_104 : decode cX8_line 104 = .ok (.bipush 105, 2) := by decide +kernel
theorem dX8_line_106 : decode cX8_line 106 = .ok (.bipush 116, 2) := by decide +kernel
theorem dX8_line_108 : decode cX8_line 108 = .ok (.iconst 0, 1) := by decide +kernel
theorem dX8_line_109 : decode cX8_line 109 = .ok (.iconst 0, 1) := by decide +kernel
theorem dX8_line_110 : decode cX8_line 110 = .ok (.invokevirtual 126, 3) := by decide +kernel
theorem dX8_line_113 : decode cX8_line 113 = .ok (.ifCond .eq 21, 3) := by decide +kernel
theorem dX8_line_116 : decode cX8_line 116 = .ok (.aload_n 0, 1) := by decide +kernel
theorem dX8_line_117 : decode cX8_line 117 = .ok (.iconst 0, 1) := by decide +kernel
theorem dX8_line_118 : decode cX8_line 118 = .ok (.invokevirtual 112, 3) := by decide +kernel
theorem dX8_line_121 : decode cX8_line 121 = .ok (.iconst 4, 1) := by decide +kernel
theorem dX8_line_122 : decode cX8_line 122 = .ok (.if_icmp .ne 12, 3) := by decide +kernel
theorem dX8_line_125 : decode cX8_line 125 = .ok (.aload_n 0, 1) := by decide +kernel
theorem dX8_line_126 : decode cX8_line 126 = .ok (.iconst 1, 1) := by decide +kernel
theorem dX8_line_127 : decode cX8_line 127 = .ok (.invokevirtual 134, 3) := by decide +kernel
theorem dX8_line_130 : decode cX8_line 130 = .ok (.istore_n 1, 1) := by decide +kernel
theorem dX8_line_131 : decode cX8_line 131 = .ok (.goto 24, 3) := by decide +kernel
theorem dX8_line_134 : decode cX8_line 134 = .ok (.aload_n 0, 1) := by decide +kernel
theorem dX8_line_135 : decode cX8_line 135 = .ok (.iconst 0, 1) := by decide +kernel
theorem dX8_line_136 : decode cX8_line 136 = .ok (.bipush 111, 2) := by decide +kernel
theorem dX8_line_138 : decode cX8_line 138 = .ok (.bipush 110, 2) := by decide +kernel
theorem dX8_line_140 : decode cX8_line 140 = .ok (.iconst 0, 1) := by decide +kernel
theorem dX8_line_141 : decode cX8_line 141 = .ok (.iconst 0, 1) := by decide +kernel
theorem dX8_line_142 : decode cX8_line 142 = .ok (.iconst 0, 1) := by decide +kernel
theorem dX8_line_143 : decode cX8_line 143 = .ok (.iconst 0, 1) := by decide +kernel
theorem dX8_line_144 : decode cX8_line 144 = .ok (.invokevirtual 126, 3) := by decide +kernel
theorem dX8_line_147 : decode cX8_line 147 = .ok (.ifCond .eq 8, 3) := by decide +kernel
theorem dX8_line_150 : decode cX8_line 150 = .ok (.aload_n 0, 1) := by decide +kernel
theorem dX8_line_151 : decode cX8_line 151 = .ok (.invokevirtual 137, 3) := by decide +kernel
theorem dX8_line_154 : decode cX8_line 154 = .ok (.istore_n 1, 1) := by decide +kernel
theorem dX8_line_155 : decode cX8_line 155 = .ok (.iload_n 1, 1) := by decide +kernel
theorem dX8_line_156 : decode cX8_line 156 = .ok (.ifCond .ge 19, 3) := by decide +kernel
theorem dX8_line_159 : decode cX8_line 159 = .ok (.aload_n 0, 1) := by decide +kernel
theorem dX8_line_160 : decode cX8_line 160 = .ok (.iload_n 1, 1) := by decide +kernel
theorem dX8_line_161 : decode cX8_line 161 = .ok (.bipush (-2), 2) := by decide +kernel
theorem dX8_line_163 : decode cX8_line 163 = .ok (.if_icmp .ne 7, 3) := by decide +kernel
theorem dX8_line_166 : decode cX8_line 166 = .ok (.iconst 2, 1) := by decide +kernel
theorem dX8_line_167 : decode cX8_line 167 = .ok (.goto 4, 3) := by decide +kernel
theorem dX8_line_170 : decode cX8_line 170 = .ok (.iconst 1, 1) := by decide +kernel
theorem dX8_line_171 : decode cX8_line 171 = .ok (.invokevirtual 140, 3) := by decide +kernel
theorem dX8_line_174 : decode cX8_line 174 = .ok (.ireturn, 1) := by decide +kernel
theorem dX8_line_175 : decode cX8_line 175 = .ok (.aload_n 0, 1) := by decide +kernel
theorem dX8_line_176 : decode cX8_line 176 = .ok (.iconst 0, 1) := by decide +kernel
theorem dX8_line_177 : decode cX8_line 177 = .ok (.putfield 143, 3) := by decide +kernel
theorem dX8_line_180 : decode cX8_line 180 = .ok (.iload_n 1, 1) := by decide +kernel
theorem dX8_line_181 : decode cX8_line 181 = .ok (.ireturn, 1) := by decide +kernel
set_option maxRecDepth 20000 in
theorem ggX8_newState_X8_isWord : GoodIn wsX8_newState wsX8_isWord := goodIn_r _ [12, 13, 14, 15, 11, 16, 17, 18, 19, 20, 21, 22, 23, 32, 33, 34, 35, 36, 37, 38, 39, 40, 41, 42, 43, 44, 45, 46, 47, 48, 49, 50, 51, 52, 53, 54, 55, 56, 57, 58, 59, 60, 61, 62, 63, 64, 65, 66, 67, 68, 69, 70] (by decide +kernel) (by decide +kernel)
set_option maxRecDepth 20000 in
theorem gX8_newState_X8_isWord : GoodIn wsX8_newState (wsV RX8 146 RX8 yX8_isWord wsX8_isWord) := goodIn_app (goodIn_of _ (by decide +kernel)) ggX8_newState_X8_isWord
set_option maxRecDepth 20000 in
theorem ggX8_newState_X8_stateOf : GoodIn wsX8_newState wsX8_stateOf := goodIn_r _ [27, 3, 4, 13, 14, 15, 11, 16, 17, 18, 19, 20, 21, 22, 23, 32, 33, 34, 35, 36, 37, 38, 39, 40, 41, 42, 43, 44, 45, 46, 47, 48, 49, 50, 51, 52, 53, 54, 55, 56, 57, 58, 59, 60, 61, 62, 63, 64, 65, 66, 67, 68, 69, 70] (by decide +kernel) (by decide +kernel)
set_option maxRecDepth 20000 in
theorem gX8_newState_X8_stateOf : GoodIn wsX8_newState (wsV RX8 150 RX8 yX8_stateOf wsX8_stateOf) := goodIn_app (goodIn_of _ (by decide +kernel)) ggX8_newState_X8_stateOf
set_option maxRecDepth 20000 in
theorem ggX8_newState_X8_says : GoodIn wsX8_newState wsX8_says := goodIn_r _ [31, 19, 20, 21, 11, 22, 18, 17, 23, 13, 14, 15, 16, 32, 33, 34, 35, 36, 37, 38, 39, 40, 41, 42, 43, 44, 45, 46, 47, 48, 49, 50, 51, 52, 53, 54, 55, 56, 57, 58, 59, 60, 61, 62, 63, 64, 65, 66, 67, 68, 69, 70] (by decide +kernel) (by decide +kernel)
set_option maxRecDepth 20000 in
theorem gX8_newState_X8_says : GoodIn wsX8_newState (wsV RX8 126 RX8 yX8_says wsX8_says) := goodIn_app (goodIn_of _ (by decide +kernel)) ggX8_newState_X8_says
set_option maxRecDepth 20000 in
theorem ggX8_newState_X8_length : GoodIn wsX8_newState wsX8_length := goodIn_r _ [16, 17, 18, 32, 33, 34, 35, 36, 37, 38, 39, 40, 41, 42, 43, 44, 45, 46, 47, 48, 49, 50, 51, 52, 53, 54, 55, 56, 57, 58, 59, 60, 61, 62, 63, 64, 65, 66, 67, 68, 69, 70] (by decide +kernel) (by decide +kernel)
set_option maxRecDepth 20000 in
theorem gX8_newState_X8_length : GoodIn wsX8_newState (wsV RX8 112 RX8 yX8_length wsX8_length) := goodIn_app (goodIn_of _ (by decide +kernel)) ggX8_newState_X8_length
set_option maxRecDepth 20000 in
theorem ggX8_newState_X8_letter : GoodIn wsX8_newState wsX8_letter := goodIn_r _ [22, 18, 17, 23, 32, 33, 34, 35, 36, 37, 38, 39, 40, 41, 42, 43, 44, 45, 46, 47, 48, 49, 50, 51, 52, 53, 54, 55, 56, 57, 58, 59, 60, 61, 62, 63, 64, 65, 66, 67, 68, 69, 70] (by decide +kernel) (by decide +kernel)
set_option maxRecDepth 20000 in
theorem gX8_newState_X8_letter : GoodIn wsX8_newState (wsV RX8 116 RX8 yX8_letter wsX8_letter) := goodIn_app (goodIn_of _ (by decide +kernel)) ggX8_newState_X8_letter
theorem dX8_newState_0 : decode cX8_newState 0 = .ok (.aload_n 0, 1) := by decide +kernel
theorem dX8_newState_1 : decode cX8_newState 1 = .ok (.getfield 109, 3) := by decide +kernel
theorem dX8_newState_4 : decode cX8_newState 4 = .ok (.iconst 4, 1) := by decide +kernel
theorem dX8_newState_5 : decode cX8_newState 5 = .ok (.if_icmp .lt 44, 3) := by decide +kernel
theorem dX8_newState_8 : decode cX8_newState 8 = .ok (.aload_n 0, 1) := by decide +kernel
theorem dX8_newState_9 : decode cX8_newState 9 = .ok (.getfield 109, 3) := by decide +kernel
theorem dX8_newState_12 : decode cX8_newState 12 = .ok (.iconst 5, 1) := by decide +kernel
theorem dX8_newState_13 : decode cX8_newState 13 = .ok (.if_icmp .gt 36, 3) := by decide +kernel
theorem dX8_newState_16 : decode cX8_newState 16 = .ok (.aload_n 0, 1) := by decide +kernel
theorem dX8_newState_17 : decode cX8_newState 17 = .ok (.iconst 1, 1) := by decide +kernel
theorem dX8_newState_18 : decode cX8_newState 18 = .ok (.iconst 4, 1) := by decide +kernel
theorem dX8_newState_19 : decode cX8_newState 19 = .ok (.invokevirtual 146, 3) := by decide +kernel
theorem dX8_newState_22 : decode cX8_newState 22 = .ok (.ifCond .eq 27, 3) := by decide +kernel
theorem dX8_newState_25 : decode cX8_newState 25 = .ok (.aload_n 0, 1) := by decide +kernel
theorem dX8_newState_26 : decode cX8_newState 26 = .ok (.iconst 1, 1) := by decide +kernel
theorem dX8_newState_27 : decode cX8_newState 27 = .ok (.invokevirtual 150, 3) := by decide +kernel
theorem dX8_newState_30 : decode cX8_newState 30 = .ok (.ifCond .ge 19, 3) := by decide +kernel
theorem dX8_newState_33 : decode cX8_newState 33 = .ok (.aload_n 0, 1) := by decide +kernel
theorem dX8_newState_34 : decode cX8_newState 34 = .ok (.iconst 2, 1) := by decide +kernel
theorem dX8_newState_35 : decode cX8_newState 35 = .ok (.bipush 105, 2) := by decide +kernel
theorem dX8_newState_37 : decode cX8_newState 37 = .ok (.bipush 110, 2) := by decide +kernel
theorem dX8_newState_39 : decode cX8_newState 39 = .ok (.iconst 0, 1) := by decide +kernel
theorem dX8_newState_40 : decode cX8_newState 40 = .ok (.iconst 0, 1) := by decide +kernel
theorem dX8_newState_41 : decode cX8_newState 41 = .ok (.iconst 0, 1) := by decide +kernel
theorem dX8_newState_42 : decode cX8_newState 42 = .ok (.iconst 0, 1) := by decide +kernel
theorem dX8_newState_43 : decode cX8_newState 43 = .ok (.invokevirtual 126, 3) := by decide +kernel
theorem dX8_newState_46 : decode cX8_newState 46 = .ok (.ifCond .ne 5, 3) := by decide +kernel
theorem dX8_newState_49 : decode cX8_newState 49 = .ok (.iconst (-1), 1) := by decide +kernel
theorem dX8_newState_50 : decode cX8_newState 50 = .ok (.ireturn, 1) := by decide +kernel
theorem dX8_newState_51 : decode cX8_newState 51 = .ok (.aload_n 0, 1) := by decide +kernel
theorem dX8_newState_52 : decode cX8_newState 52 = .ok (.iconst 3, 1) := by decide +kernel
theorem dX8_newState_53 : decode cX8_newState 53 = .ok (.invokevirtual 150, 3) := by decide +kernel
theorem dX8_newState_56 : decode cX8_newState 56 = .ok (.istore_n 1, 1) := by decide +kernel
theorem dX8_newState_57 : decode cX8_newState 57 = .ok (.aload_n 0, 1) := by decide +kernel
theorem dX8_newState_58 : decode cX8_newState 58 = .ok (.getfield 109, 3) := by decide +kernel
theorem dX8_newState_61 : decode cX8_newState 61 = .ok (.iconst 5, 1) := by decide +kernel
theorem dX8_newState_62 : decode cX8_newState 62 = .ok (.if_icmp .ne 35, 3) := by decide +kernel
theorem dX8_newState_65 : decode cX8_newState 65 = .ok (.aload_n 0, 1) := by decide +kernel
theorem dX8_newState_66 : decode cX8_newState 66 = .ok (.iconst 4, 1) := by decide +kernel
theorem dX8_newState_67 : decode cX8_newState 67 = .ok (.bipush 119, 2) := by decide +kernel
theorem dX8_newState_69 : decode cX8_newState 69 = .ok (.bipush 104, 2) := by decide +kernel
theorem dX8_newState_71 : decode cX8_newState 71 = .ok (.bipush 111, 2) := by decide +kernel
theorem dX8_newState_73 : decode cX8_newState 73 = .ok (.bipush 108, 2) := by decide +kernel
theorem dX8_newState_75 : decode cX8_newState 75 = .ok (.bipush 101, 2) := by decide +kernel
theorem dX8_newState_77 : decode cX8_newState 77 = .ok (.iconst 0, 1) := by decide +kernel
theorem dX8_newState_78 : decode cX8_newState 78 = .ok (.invokevirtual 126, 3) := by decide +kernel
theorem dX8_newState_81 : decode cX8_newState 81 = .ok (.ifCond .eq 16, 3) := by decide +kernel
theorem dX8_newState_84 : decode cX8_newState 84 = .ok (.aload_n 0, 1) := by decide +kernel
theorem dX8_newState_85 : decode cX8_newState 85 = .ok (.iconst 4, 1) := by decide +kernel
theorem dX8_newState_86 : decode cX8_newState 86 = .ok (.invokevirtual 112, 3) := by decide +kernel
theorem dX8_newState_89 : decode cX8_newState 89 = .ok (.iconst 5, 1) := by decide +kernel
theorem dX8_newState_90 : decode cX8_newState 90 = .ok (.if_icmp .ne 7, 3) := by decide +kernel
theorem dX8_newState_93 : decode cX8_newState 93 = .ok (.iconst 1, 1) := by decide +kernel
theorem dX8_newState_94 : decode cX8_newState 94 = .ok (.goto 4, 3) := by decide +kernel
theorem dX8_newState_97 : decode cX8_newState 97 = .ok (.iconst 0, 1) := by decide +kernel
theorem dX8_newState_98 : decode cX8_newState 98 = .ok (.istore_n 2, 1) := by decide +kernel
theorem dX8_newState_99 : decode cX8_newState 99 = .ok (.aload_n 0, 1) := by decide +kernel
theorem dX8_newState_100 : decode cX8_newState 100 = .ok (.getfield 109, 3) := by decide +kernel
theorem dX8_newState_103 : decode cX8_newState 103 = .ok (.iconst 5, 1) := by decide +kernel
theorem dX8_newState_104 : decode cX8_newState 104 = .ok (.if_icmp .ne 61, 3) := by decide +kernel
theorem dX8_newState_107 : decode cX8_newState 107 = .ok (.aload_n 0, 1) := by decide +kernel
theorem dX8_newState_108 : decode cX8_newState 108 = .ok (.iconst 4, 1) := by decide +kernel
theorem dX8_newState_109 : decode cX8_newState 109 = .ok (.bipush 114, 2) := by decide +kernel
theorem dX8_newState_111 : decode cX8_newState 111 = .ok (.bipush 101, 2) := by decide +kernel
theorem dX8_newState_113 : decode cX8_newState 113 = .ok (.bipush 109, 2) := by decide +kernel
theorem dX8_newState_115 : decode cX8_newState 115 = .ok (.bipush 101, 2) := by decide +kernel
theorem dX8_newState_117 : decode cX8_newState 117 = .ok (.bipush 109, 2) := by decide +kernel
theorem dX8_newState_119 : decode cX8_newState 119 = .ok (.bipush 98, 2) := by decide +kernel
theorem dX8_newState_121 : decode cX8_newState 121 = .ok (.invokevirtual 126, 3) := by decide +kernel
theorem dX8_newState_124 : decode cX8_newState 124 = .ok (.ifCond .eq 41, 3) := by decide +kernel
theorem dX8_newState_127 : decode cX8_newState 127 = .ok (.aload_n 0, 1) := by decide +kernel
theorem dX8_newState_128 : decode cX8_newState 128 = .ok (.iconst 4, 1) := by decide +kernel
theorem dX8_newState_129 : decode cX8_newState 129 = .ok (.invokevirtual 112, 3) := by decide +kernel
theorem dX8_newState_132 : decode cX8_newState 132 = .ok (.bipush 8, 2) := by decide +kernel
theorem dX8_newState_134 : decode cX8_newState 134 = .ok (.if_icmp .ne 31, 3) := by decide +kernel
theorem dX8_newState_137 : decode cX8_newState 137 = .ok (.aload_n 0, 1) := by decide +kernel
theorem dX8_newState_138 : decode cX8_newState 138 = .ok (.iconst 4, 1) := by decide +kernel
theorem dX8_newState_139 : decode cX8_newState 139 = .ok (.bipush 6, 2) := by decide +kernel
theorem dX8_newState_141 : decode cX8_newState 141 = .ok (.invokevirtual 116, 3) := by decide +kernel
theorem dX8_newState_144 : decode cX8_newState 144 = .ok (.bipush 101, 2) := by decide +kernel
theorem dX8_newState_146 : decode cX8_newState 146 = .ok (.if_icmp .ne 19, 3) := by decide +kernel
theorem dX8_newState_149 : decode cX8_newState 149 = .ok (.aload_n 0, 1) := by decide +kernel
theorem dX8_newState_150 : decode cX8_newState 150 = .ok (.iconst 4, 1) := by decide +kernel
theorem dX8_newState_151 : decode cX8_newState 151 = .ok (.bipush 7, 2) := by decide +kernel
theorem dX8_newState_153 : decode cX8_newState 153 = .ok (.invokevirtual 116, 3) := by decide +kernel
theorem dX8_newState_156 : decode cX8_newState 156 = .ok (.bipush 114, 2) := by decide +kernel
theorem dX8_newState_158 : decode cX8_newState 158 = .ok (.if_icmp .ne 7, 3) := by decide +kernel
theorem dX8_newState_161 : decode cX8_newState 161 = .ok (.iconst 1, 1) := by decide +kernel
theorem dX8_newState_162 : decode cX8_newState 162 = .ok (.goto 4, 3) := by decide +kernel
theorem dX8_newState_165 : decode cX8_newState 165 = .ok (.iconst 0, 1) := by decide +kernel
theorem dX8_newState_166 : decode cX8_newState 166 = .ok (.istore_n 3, 1) := by decide +kernel
theorem dX8_newState_167 : decode cX8_newState 167 = .ok (.iload_n 1, 1) := by decide +kernel
theorem dX8_newState_168 : decode cX8_newState 168 = .ok (.ifCond .lt 30, 3) := by decide +kernel
theorem dX8_newState_171 : decode cX8_newState 171 = .ok (.aload_n 0, 1) := by decide +kernel
theorem dX8_newState_172 : decode cX8_newState 172 = .ok (.getfield 33, 3) := by decide +kernel
theorem dX8_newState_175 : decode cX8_newState 175 = .ok (.iload_n 1, 1) := by decide +kernel
theorem dX8_newState_176 : decode cX8_newState 176 = .ok (.iaload, 1) := by decide +kernel
theorem dX8_newState_177 : decode cX8_newState 177 = .ok (.bipush 6, 2) := by decide +kernel
theorem dX8_newState_179 : decode cX8_newState 179 = .ok (.if_icmp .eq 19, 3) := by decide +kernel
theorem dX8_newState_182 : decode cX8_newState 182 = .ok (.aload_n 0, 1) := by decide +kernel
theorem dX8_newState_183 : decode cX8_newState 183 = .ok (.getfield 109, 3) := by decide +kernel
theorem dX8_newState_186 : decode cX8_newState 186 = .ok (.iconst 5, 1) := by decide +kernel
theorem dX8_newState_187 : decode cX8_newState 187 = .ok (.if_icmp .ne 13, 3) := by decide +kernel
theorem dX8_newState_190 : decode cX8_newState 190 = .ok (.iload_n 2, 1) := by decide +kernel
theorem dX8_newState_191 : decode cX8_newState 191 = .ok (.ifCond .ne 9, 3) := by decide +kernel
theorem dX8_newState_194 : decode cX8_newState 194 = .ok (.iload_n 3, 1) := by decide +kernel
theorem dX8_newState_195 : decode cX8_newState 195 = .ok (.ifCond .ne 5, 3) := by decide +kernel
theorem dX8_newState_198 : decode cX8_newState 198 = .ok (.iconst (-1), 1) := by decide +kernel
theorem dX8_newState_199 : decode cX8_newState 199 = .ok (.ireturn, 1) := by decide +kernel
theorem dX8_newState_200 : decode cX8_newState 200 = .ok (.aload_n 0, 1) := by decide +kernel
theorem dX8_newState_201 : decode cX8_newState 201 = .ok (.getfield 20, 3) := by decide +kernel
theorem dX8_newState_204 : decode cX8_newState 204 = .ok (.bipush 14, 2) := by decide +kernel
theorem dX8_newState_206 : decode cX8_newState 206 = .ok (.if_icmp .ne 6, 3) := by decide +kernel
theorem dX8_newState_209 : decode cX8_newState 209 = .ok (.bipush (-2), 2) := by decide +kernel
theorem dX8_newState_211 : decode cX8_newState 211 = .ok (.ireturn, 1) := by decide +kernel
theorem dX8_newState_212 : decode cX8_newState 212 = .ok (.iconst 0, 1) := by decide +kernel
theorem dX8_newState_213 : decode cX8_newState 213 = .ok (.istore 4, 2) := by decide +kernel
theorem dX8_newState_215 : decode cX8_newState 215 = .ok (.iload 4, 2) := by decide +kernel
theorem dX8_newState_217 : decode cX8_newState 217 = .ok (.iconst 4, 1) := by decide +kernel
theorem dX8_newState_218 : decode cX8_newState 218 = .ok (.if_icmp .ge 30, 3) := by decide +kernel
theorem dX8_newState_221 : decode cX8_newState 221 = .ok (.aload_n 0, 1) := by decide +kernel
theorem dX8_newState_222 : decode cX8_newState 222 = .ok (.getfield 24, 3) := by decide +kernel
theorem dX8_newState_225 : decode cX8_newState 225 = .ok (.iconst 4, 1) := by decide +kernel
theorem dX8_newState_226 : decode cX8_newState 226 = .ok (.aload_n 0, 1) := by decide +kernel
theorem dX8_newState_227 : decode cX8_newState 227 = .ok (.getfield 20, 3) := by decide +kernel
theorem dX8_newState_230 : decode cX8_newState 230 = .ok (.imul, 1) := by decide +kernel
theorem dX8_newState_231 : decode cX8_newState 231 = .ok (.iload 4, 2) := by decide +kernel
theorem dX8_newState_233 : decode cX8_newState 233 = .ok (.iadd, 1) := by decide +kernel
theorem dX8_newState_234 : decode cX8_newState 234 = .ok (.aload_n 0, 1) := by decide +kernel
theorem dX8_newState_235 : decode cX8_newState 235 = .ok (.iconst 1, 1) := by decide +kernel
theorem dX8_newState_236 : decode cX8_newState 236 = .ok (.iload 4, 2) := by decide +kernel
theorem dX8_newState_238 : decode cX8_newState 238 = .ok (.invokevirtual 116, 3) := by decide +kernel
theorem dX8_newState_241 : decode cX8_newState 241 = .ok (.castore, 1) := by decide +kernel
theorem dX8_newState_242 : decode cX8_newState 242 = .ok (.iinc 4 1, 3) := by decide +kernel
theorem dX8_newState_245 : decode cX8_newState 245 = .ok (.goto (-30), 3) := by decide +kernel
theorem dX8_newState_248 : decode cX8_newState 248 = .ok (.aload_n 0, 1) := by decide +kernel
theorem dX8_newState_249 : decode cX8_newState 249 = .ok (.getfield 30, 3) := by decide +kernel
theorem dX8_newState_252 : decode cX8_newState 252 = .ok (.aload_n 0, 1) := by decide +kernel
theorem dX8_newState_253 : decode cX8_newState 253 = .ok (.getfield 20, 3) := by decide +kernel
theorem dX8_newState_256 : decode cX8_newState 256 = .ok (.iload_n 1, 1) := by decide +kernel
theorem dX8_newState_257 : decode cX8_newState 257 = .ok (.iastore, 1) := by decide +kernel
theorem dX8_newState_258 : decode cX8_newState 258 = .ok (.aload_n 0, 1) := by decide +kernel
theorem dX8_newState_259 : decode cX8_newState 259 = .ok (.getfield 33, 3) := by decide +kernel
theorem dX8_newState_262 : decode cX8_newState 262 = .ok (.aload_n 0, 1) := by decide +kernel
theorem dX8_newState_263 : decode cX8_newState 263 = .ok (.getfield 20, 3) := by decide +kernel
theorem dX8_newState_266 : decode cX8_newState 266 = .ok (.aload_n 0, 1) := by decide +kernel
theorem dX8_newState_267 : decode cX8_newState 267 = .ok (.getfield 33, 3) := by decide +kernel
theorem dX8_newState_270 : decode cX8_newState 270 = .ok (.iload_n 1, 1) := by decide +kernel
theorem dX8_newState_271 : decode cX8_newState 271 = .ok (.iaload, 1) := by decide +kernel
theorem dX8_newState_272 : decode cX8_newState 272 = .ok (.iconst 1, 1) := by decide +kernel
theorem dX8_newState_273 : decode cX8_newState 273 = .ok (.iadd, 1) := by decide +kernel
theorem dX8_newState_274 : decode cX8_newState 274 = .ok (.iastore, 1) := by decide +kernel
theorem dX8_newState_275 : decode cX8_newState 275 = .ok (.aload_n 0, 1) := by decide +kernel
theorem dX8_newState_276 : decode cX8_newState 276 = .ok (.getfield 39, 3) := by decide +kernel
theorem dX8_newState_279 : decode cX8_newState 279 = .ok (.aload_n 0, 1) := by decide +kernel
theorem dX8_newState_280 : decode cX8_newState 280 = .ok (.getfield 20, 3) := by decide +kernel
theorem dX8_newState_283 : decode cX8_newState 283 = .ok (.iload_n 2, 1) := by decide +kernel
theorem dX8_newState_284 : decode cX8_newState 284 = .ok (.bastore, 1) := by decide +kernel
theorem dX8_newState_285 : decode cX8_newState 285 = .ok (.aload_n 0, 1) := by decide +kernel
theorem dX8_newState_286 : decode cX8_newState 286 = .ok (.getfield 43, 3) := by decide +kernel
theorem dX8_newState_289 : decode cX8_newState 289 = .ok (.aload_n 0, 1) := by decide +kernel
theorem dX8_newState_290 : decode cX8_newState 290 = .ok (.getfield 20, 3) := by decide +kernel
theorem dX8_newState_293 : decode cX8_newState 293 = .ok (.iload_n 3, 1) := by decide +kernel
theorem dX8_newState_294 : decode cX8_newState 294 = .ok (.bastore, 1) := by decide +kernel
theorem dX8_newState_295 : decode cX8_newState 295 = .ok (.aload_n 0, 1) := by decide +kernel
theorem dX8_newState_296 : decode cX8_newState 296 = .ok (.dup, 1) := by decide +kernel
theorem dX8_newState_297 : decode cX8_newState 297 = .ok (.getfield 20, 3) := by decide +kernel
theorem dX8_newState_300 : decode cX8_newState 300 = .ok (.iconst 1, 1) := by decide +kernel
theorem dX8_newState_301 : decode cX8_newState 301 = .ok (.iadd, 1) := by decide +kernel
theorem dX8_newState_302 : decode cX8_newState 302 = .ok (.putfield 20, 3) := by decide +kernel
theorem dX8_newState_305 : decode cX8_newState 305 = .ok (.iconst 1, 1) := by decide +kernel
theorem dX8_newState_306 : decode cX8_newState 306 = .ok (.ireturn, 1) := by decide +kernel
set_option maxRecDepth 20000 in
theorem ggX8_newMarks_X8_isWord : GoodIn wsX8_newMarks wsX8_isWord := goodIn_r _ [8, 9, 10, 11, 7, 12, 13, 14, 15, 16, 17, 18, 19, 26, 27, 28, 29, 30, 31, 32, 33, 34, 35, 36, 37, 38, 39, 40, 41, 42, 43, 44, 45, 46, 47, 48, 49, 50, 51, 52, 53, 54, 55, 56, 57, 58, 59, 60, 61, 62, 63, 64] (by decide +kernel) (by decide +kernel)
set_option maxRecDepth 20000 in
theorem gX8_newMarks_X8_isWord : GoodIn wsX8_newMarks (wsV RX8 146 RX8 yX8_isWord wsX8_isWord) := goodIn_app (goodIn_of _ (by decide +kernel)) ggX8_newMarks_X8_isWord
set_option maxRecDepth 20000 in
theorem ggX8_newMarks_X8_stateOf : GoodIn wsX8_newMarks wsX8_stateOf := goodIn_r _ [23, 24, 25, 9, 10, 11, 7, 12, 13, 14, 15, 16, 17, 18, 19, 26, 27, 28, 29, 30, 31, 32, 33, 34, 35, 36, 37, 38, 39, 40, 41, 42, 43, 44, 45, 46, 47, 48, 49, 50, 51, 52, 53, 54, 55, 56, 57, 58, 59, 60, 61, 62, 63, 64] (by decide +kernel) (by decide +kernel)
set_option maxRecDepth 20000 in
theorem gX8_newMarks_X8_stateOf : GoodIn wsX8_newMarks (wsV RX8 150 RX8 yX8_stateOf wsX8_stateOf) := goodIn_app (goodIn_of _ (by decide +kernel)) ggX8_newMarks_X8_stateOf
set_option maxRecDepth 20000 in
theorem ggX8_newMarks_X8_length : GoodIn wsX8_newMarks wsX8_length := goodIn_r _ [12, 13, 14, 26, 27, 28, 29, 30, 31, 32, 33, 34, 35, 36, 37, 38, 39, 40, 41, 42, 43, 44, 45, 46, 47, 48, 49, 50, 51, 52, 53, 54, 55, 56, 57, 58, 59, 60, 61, 62, 63, 64] (by decide +kernel) (by decide +kernel)
set_option maxRecDepth 20000 in
theorem gX8_newMarks_X8_length : GoodIn wsX8_newMarks (wsV RX8 112 RX8 yX8_length wsX8_length) := goodIn_app (goodIn_of _ (by decide +kernel)) ggX8_newMarks_X8_length
set_option maxRecDepth 20000 in
theorem ggX8_newMarks_X8_letter : GoodIn wsX8_newMarks wsX8_letter := goodIn_r _ [18, 14, 13, 19, 26, 27, 28, 29, 30, 31, 32, 33, 34, 35, 36, 37, 38, 39, 40, 41, 42, 43, 44, 45, 46, 47, 48, 49, 50, 51, 52, 53, 54, 55, 56, 57, 58, 59, 60, 61, 62, 63, 64] (by decide +kernel) (by decide +kernel)
set_option maxRecDepth 20000 in
theorem gX8_newMarks_X8_letter : GoodIn wsX8_newMarks (wsV RX8 116 RX8 yX8_letter wsX8_letter) := goodIn_app (goodIn_of _ (by decide +kernel)) ggX8_newMarks_X8_letter
theorem dX8_newMarks_0 : decode cX8_newMarks 0 = .ok (.aload_n 0, 1) := by decide +kernel
theorem dX8_newMarks_1 : decode cX8_newMarks 1 = .ok (.getfield 109, 3) := by decide +kernel
theorem dX8_newMarks_4 : decode cX8_newMarks 4 = .ok (.iconst 3, 1) := by decide +kernel
theorem dX8_newMarks_5 : decode cX8_newMarks 5 = .ok (.if_icmp .ne 12, 3) := by decide +kernel
theorem dX8_newMarks_8 : decode cX8_newMarks 8 = .ok (.aload_n 0, 1) := by decide +kernel
theorem dX8_newMarks_9 : decode cX8_newMarks 9 = .ok (.iconst 2, 1) := by decide +kernel
theorem dX8_newMarks_10 : decode cX8_newMarks 10 = .ok (.iconst 3, 1) := by decide +kernel
theorem dX8_newMarks_11 : decode cX8_newMarks 11 = .ok (.invokevirtual 146, 3) := by decide +kernel
theorem dX8_newMarks_14 : decode cX8_newMarks 14 = .ok (.ifCond .ne 5, 3) := by decide +kernel
theorem dX8_newMarks_17 : decode cX8_newMarks 17 = .ok (.iconst (-1), 1) := by decide +kernel
theorem dX8_newMarks_18 : decode cX8_newMarks 18 = .ok (.ireturn, 1) := by decide +kernel
theorem dX8_newMarks_19 : decode cX8_newMarks 19 = .ok (.aload_n 0, 1) := by decide +kernel
theorem dX8_newMarks_20 : decode cX8_newMarks 20 = .ok (.iconst 1, 1) := by decide +kernel
theorem dX8_newMarks_21 : decode cX8_newMarks 21 = .ok (.invokevirtual 150, 3) := by decide +kernel
theorem dX8_newMarks_24 : decode cX8_newMarks 24 = .ok (.istore_n 2, 1) := by decide +kernel
theorem dX8_newMarks_25 : decode cX8_newMarks 25 = .ok (.iload_n 2, 1) := by decide +kernel
theorem dX8_newMarks_26 : decode cX8_newMarks 26 = .ok (.ifCond .ge 5, 3) := by decide +kernel
theorem dX8_newMarks_29 : decode cX8_newMarks 29 = .ok (.iconst (-1), 1) := by decide +kernel
theorem dX8_newMarks_30 : decode cX8_newMarks 30 = .ok (.ireturn, 1) := by decide +kernel
theorem dX8_newMarks_31 : decode cX8_newMarks 31 = .ok (.iconst 2, 1) := by decide +kernel
theorem dX8_newMarks_32 : decode cX8_newMarks 32 = .ok (.iload_n 2, 1) := by decide +kernel
theorem dX8_newMarks_33 : decode cX8_newMarks 33 = .ok (.imul, 1) := by decide +kernel
theorem dX8_newMarks_34 : decode cX8_newMarks 34 = .ok (.iload_n 1, 1) := by decide +kernel
theorem dX8_newMarks_35 : decode cX8_newMarks 35 = .ok (.iadd, 1) := by decide +kernel
theorem dX8_newMarks_36 : decode cX8_newMarks 36 = .ok (.istore_n 3, 1) := by decide +kernel
theorem dX8_newMarks_37 : decode cX8_newMarks 37 = .ok (.aload_n 0, 1) := by decide +kernel
theorem dX8_newMarks_38 : decode cX8_newMarks 38 = .ok (.getfield 36, 3) := by decide +kernel
theorem dX8_newMarks_41 : decode cX8_newMarks 41 = .ok (.iload_n 3, 1) := by decide +kernel
theorem dX8_newMarks_42 : decode cX8_newMarks 42 = .ok (.iaload, 1) := by decide +kernel
theorem dX8_newMarks_43 : decode cX8_newMarks 43 = .ok (.aload_n 0, 1) := by decide +kernel
theorem dX8_newMarks_44 : decode cX8_newMarks 44 = .ok (.iconst 2, 1) := by decide +kernel
theorem dX8_newMarks_45 : decode cX8_newMarks 45 = .ok (.invokevirtual 112, 3) := by decide +kernel
theorem dX8_newMarks_48 : decode cX8_newMarks 48 = .ok (.iadd, 1) := by decide +kernel
theorem dX8_newMarks_49 : decode cX8_newMarks 49 = .ok (.bipush 6, 2) := by decide +kernel
theorem dX8_newMarks_51 : decode cX8_newMarks 51 = .ok (.if_icmp .le 6, 3) := by decide +kernel
theorem dX8_newMarks_54 : decode cX8_newMarks 54 = .ok (.bipush (-2), 2) := by decide +kernel
theorem dX8_newMarks_56 : decode cX8_newMarks 56 = .ok (.ireturn, 1) := by decide +kernel
theorem dX8_newMarks_57 : decode cX8_newMarks 57 = .ok (.iconst 0, 1) := by decide +kernel
theorem dX8_newMarks_58 : decode cX8_newMarks 58 = .ok (.istore 4, 2) := by decide +kernel
theorem dX8_newMarks_60 : decode cX8_newMarks 60 = .ok (.iload 4, 2) := by decide +kernel
theorem dX8_newMarks_62 : decode cX8_newMarks 62 = .ok (.aload_n 0, 1) := by decide +kernel
theorem dX8_newMarks_63 : decode cX8_newMarks 63 = .ok (.iconst 2, 1) := by decide +kernel
theorem dX8_newMarks_64 : decode cX8_newMarks 64 = .ok (.invokevirtual 112, 3) := by decide +kernel
theorem dX8_newMarks_67 : decode cX8_newMarks 67 = .ok (.if_icmp .ge 35, 3) := by decide +kernel
theorem dX8_newMarks_70 : decode cX8_newMarks 70 = .ok (.aload_n 0, 1) := by decide +kernel
theorem dX8_newMarks_71 : decode cX8_newMarks 71 = .ok (.getfield 27, 3) := by decide +kernel
theorem dX8_newMarks_74 : decode cX8_newMarks 74 = .ok (.bipush 6, 2) := by decide +kernel
theorem dX8_newMarks_76 : decode cX8_newMarks 76 = .ok (.iload_n 3, 1) := by decide +kernel
theorem dX8_newMarks_77 : decode cX8_newMarks 77 = .ok (.imul, 1) := by decide +kernel
theorem dX8_newMarks_78 : decode cX8_newMarks 78 = .ok (.aload_n 0, 1) := by decide +kernel
theorem dX8_newMarks_79 : decode cX8_newMarks 79 = .ok (.getfield 36, 3) := by decide +kernel
theorem dX8_newMarks_82 : decode cX8_newMarks 82 = .ok (.iload_n 3, 1) := by decide +kernel
theorem dX8_newMarks_83 : decode cX8_newMarks 83 = .ok (.iaload, 1) := by decide +kernel
theorem dX8_newMarks_84 : decode cX8_newMarks 84 = .ok (.iadd, 1) := by decide +kernel
theorem dX8_newMarks_85 : decode cX8_newMarks 85 = .ok (.iload 4, 2) := by decide +kernel
theorem dX8_newMarks_87 : decode cX8_newMarks 87 = .ok (.iadd, 1) := by decide +kernel
theorem dX8_newMarks_88 : decode cX8_newMarks 88 = .ok (.aload_n 0, 1) := by decide +kernel
theorem dX8_newMarks_89 : decode cX8_newMarks 89 = .ok (.iconst 2, 1) := by decide +kernel
theorem dX8_newMarks_90 : decode cX8_newMarks 90 = .ok (.iload 4, 2) := by decide +kernel
theorem dX8_newMarks_92 : decode cX8_newMarks 92 = .ok (.invokevirtual 116, 3) := by decide +kernel
theorem dX8_newMarks_95 : decode cX8_newMarks 95 = .ok (.castore, 1) := by decide +kernel
theorem dX8_newMarks_96 : decode cX8_newMarks 96 = .ok (.iinc 4 1, 3) := by decide +kernel
theorem dX8_newMarks_99 : decode cX8_newMarks 99 = .ok (.goto (-39), 3) := by decide +kernel
theorem dX8_newMarks_102 : decode cX8_newMarks 102 = .ok (.aload_n 0, 1) := by decide +kernel
theorem dX8_newMarks_103 : decode cX8_newMarks 103 = .ok (.getfield 36, 3) := by decide +kernel
theorem dX8_newMarks_106 : decode cX8_newMarks 106 = .ok (.iload_n 3, 1) := by decide +kernel
theorem dX8_newMarks_107 : decode cX8_newMarks 107 = .ok (.aload_n 0, 1) := by decide +kernel
theorem dX8_newMarks_108 : decode cX8_newMarks 108 = .ok (.getfield 36, 3) := by decide +kernel
theorem dX8_newMarks_111 : decode cX8_newMarks 111 = .ok (.iload_n 3, 1) := by decide +kernel
theorem dX8_newMarks_112 : decode cX8_newMarks 112 = .ok (.iaload, 1) := by decide +kernel
theorem dX8_newMarks_113 : decode cX8_newMarks 113 = .ok (.aload_n 0, 1) := by decide +kernel
theorem dX8_newMarks_114 : decode cX8_newMarks 114 = .ok (.iconst 2, 1) := by decide +kernel
theorem dX8_newMarks_115 : decode cX8_newMarks 115 = .ok (.invokevirtual 112, 3) := by decide +kernel
theorem dX8_newMarks_118 : decode cX8_newMarks 118 = .ok (.iadd, 1) := by decide +kernel
theorem dX8_newMarks_119 : decode cX8_newMarks 119 = .ok (.iastore, 1) := by decide +kernel
theorem dX8_newMarks_120 : decode cX8_newMarks 120 = .ok (.iconst 2, 1) := by decide +kernel
theorem dX8_newMarks_121 : decode cX8_newMarks 121 = .ok (.ireturn, 1) := by decide +kernel
set_option maxRecDepth 20000 in
theorem ggX8_newRule_X8_isWord : GoodIn wsX8_newRule wsX8_isWord := goodIn_r _ [16, 17, 18, 19, 15, 20, 21, 22, 23, 24, 25, 26, 27, 42, 43, 44, 45, 46, 47, 48, 49, 50, 51, 52, 53, 54, 55, 56, 57, 58, 59, 60, 61, 62, 63, 64, 65, 66, 67, 68, 69, 70, 71, 72, 73, 74, 75, 76, 77, 78, 79, 80] (by decide +kernel) (by decide +kernel)
set_option maxRecDepth 20000 in
theorem gX8_newRule_X8_isWord : GoodIn wsX8_newRule (wsV RX8 146 RX8 yX8_isWord wsX8_isWord) := goodIn_app (goodIn_of _ (by decide +kernel)) ggX8_newRule_X8_isWord
set_option maxRecDepth 20000 in
theorem ggX8_newRule_X8_says : GoodIn wsX8_newRule wsX8_says := goodIn_r _ [31, 23, 24, 25, 15, 26, 22, 21, 27, 17, 18, 19, 20, 42, 43, 44, 45, 46, 47, 48, 49, 50, 51, 52, 53, 54, 55, 56, 57, 58, 59, 60, 61, 62, 63, 64, 65, 66, 67, 68, 69, 70, 71, 72, 73, 74, 75, 76, 77, 78, 79, 80] (by decide +kernel) (by decide +kernel)
set_option maxRecDepth 20000 in
theorem gX8_newRule_X8_says : GoodIn wsX8_newRule (wsV RX8 126 RX8 yX8_says wsX8_says) := goodIn_app (goodIn_of _ (by decide +kernel)) ggX8_newRule_X8_says
set_option maxRecDepth 20000 in
theorem ggX8_newRule_X8_stateOf : GoodIn wsX8_newRule wsX8_stateOf := goodIn_r _ [35, 36, 37, 17, 18, 19, 15, 20, 21, 22, 23, 24, 25, 26, 27, 42, 43, 44, 45, 46, 47, 48, 49, 50, 51, 52, 53, 54, 55, 56, 57, 58, 59, 60, 61, 62, 63, 64, 65, 66, 67, 68, 69, 70, 71, 72, 73, 74, 75, 76, 77, 78, 79, 80] (by decide +kernel) (by decide +kernel)
set_option maxRecDepth 20000 in
theorem gX8_newRule_X8_stateOf : GoodIn wsX8_newRule (wsV RX8 150 RX8 yX8_stateOf wsX8_stateOf) := goodIn_app (goodIn_of _ (by decide +kernel)) ggX8_newRule_X8_stateOf
set_option maxRecDepth 20000 in
theorem ggX8_newRule_X8_length : GoodIn wsX8_newRule wsX8_length := goodIn_r _ [20, 21, 22, 42, 43, 44, 45, 46, 47, 48, 49, 50, 51, 52, 53, 54, 55, 56, 57, 58, 59, 60, 61, 62, 63, 64, 65, 66, 67, 68, 69, 70, 71, 72, 73, 74, 75, 76, 77, 78, 79, 80] (by decide +kernel) (by decide +kernel)
set_option maxRecDepth 20000 in
theorem gX8_newRule_X8_length : GoodIn wsX8_newRule (wsV RX8 112 RX8 yX8_length wsX8_length) := goodIn_app (goodIn_of _ (by decide +kernel)) ggX8_newRule_X8_length
set_option maxRecDepth 20000 in
theorem ggX8_newRule_X8_eventOf : GoodIn wsX8_newRule wsX8_eventOf := goodIn_r _ [41, 3, 4, 23, 24, 25, 15, 26, 22, 21, 27, 42, 43, 44, 45, 46, 47, 48, 49, 50, 51, 52, 53, 54, 55, 56, 57, 58, 59, 60, 61, 62, 63, 64, 65, 66, 67, 68, 69, 70, 71, 72, 73, 74, 75, 76, 77, 78, 79, 80] (by decide +kernel) (by decide +kernel)
set_option maxRecDepth 20000 in
theorem gX8_newRule_X8_eventOf : GoodIn wsX8_newRule (wsV RX8 153 RX8 yX8_eventOf wsX8_eventOf) := goodIn_app (goodIn_of _ (by decide +kernel)) ggX8_newRule_X8_eventOf
set_option maxRecDepth 20000 in
theorem ggX8_newRule_X8_letter : GoodIn wsX8_newRule wsX8_letter := goodIn_r _ [26, 22, 21, 27, 42, 43, 44, 45, 46, 47, 48, 49, 50, 51, 52, 53, 54, 55, 56, 57, 58, 59, 60, 61, 62, 63, 64, 65, 66, 67, 68, 69, 70, 71, 72, 73, 74, 75, 76, 77, 78, 79, 80] (by decide +kernel) (by decide +kernel)
set_option maxRecDepth 20000 in
theorem gX8_newRule_X8_letter : GoodIn wsX8_newRule (wsV RX8 116 RX8 yX8_letter wsX8_letter) := goodIn_app (goodIn_of _ (by decide +kernel)) ggX8_newRule_X8_letter
theorem dX8_newRule_0 : decode cX8_newRule 0 = .ok (.aload_n 0, 1) := by decide +kernel
theorem dX8_newRule_1 : decode cX8_newRule 1 = .ok (.getfield 109, 3) := by decide +kernel
theorem dX8_newRule_4 : decode cX8_newRule 4 = .ok (.istore_n 1, 1) := by decide +kernel
theorem dX8_newRule_5 : decode cX8_newRule 5 = .ok (.iload_n 1, 1) := by decide +kernel
theorem dX8_newRule_6 : decode cX8_newRule 6 = .ok (.bipush 6, 2) := by decide +kernel
theorem dX8_newRule_8 : decode cX8_newRule 8 = .ok (.if_icmp .eq 15, 3) := by decide +kernel
theorem dX8_newRule_11 : decode cX8_newRule 11 = .ok (.iload_n 1, 1) := by decide +kernel
theorem dX8_newRule_12 : decode cX8_newRule 12 = .ok (.bipush 8, 2) := by decide +kernel
theorem dX8_newRule_14 : decode cX8_newRule 14 = .ok (.if_icmp .eq 9, 3) := by decide +kernel
theorem dX8_newRule_17 : decode cX8_newRule 17 = .ok (.iload_n 1, 1) := by decide +kernel
theorem dX8_newRule_18 : decode cX8_newRule 18 = .ok (.bipush 10, 2) := by decide +kernel
theorem dX8_newRule_20 : decode cX8_newRule 20 = .ok (.if_icmp .ne 46, 3) := by decide +kernel
theorem dX8_newRule_23 : decode cX8_newRule 23 = .ok (.aload_n 0, 1) := by decide +kernel
theorem dX8_newRule_24 : decode cX8_newRule 24 = .ok (.iconst 1, 1) := by decide +kernel
theorem dX8_newRule_25 : decode cX8_newRule 25 = .ok (.iconst 4, 1) := by decide +kernel
theorem dX8_newRule_26 : decode cX8_newRule 26 = .ok (.invokevirtual 146, 3) := by decide +kernel
theorem dX8_newRule_29 : decode cX8_newRule 29 = .ok (.ifCond .eq 37, 3) := by decide +kernel
theorem dX8_newRule_32 : decode cX8_newRule 32 = .ok (.aload_n 0, 1) := by decide +kernel
theorem dX8_newRule_33 : decode cX8_newRule 33 = .ok (.iconst 2, 1) := by decide +kernel
theorem dX8_newRule_34 : decode cX8_newRule 34 = .ok (.bipush 102, 2) := by decide +kernel
theorem dX8_newRule_36 : decode cX8_newRule 36 = .ok (.bipush 114, 2) := by decide +kernel
theorem dX8_newRule_38 : decode cX8_newRule 38 = .ok (.bipush 111, 2) := by decide +kernel
theorem dX8_newRule_40 : decode cX8_newRule 40 = .ok (.bipush 109, 2) := by decide +kernel
theorem dX8_newRule_42 : decode cX8_newRule 42 = .ok (.iconst 0, 1) := by decide +kernel
theorem dX8_newRule_43 : decode cX8_newRule 43 = .ok (.iconst 0, 1) := by decide +kernel
theorem dX8_newRule_44 : decode cX8_newRule 44 = .ok (.invokevirtual 126, 3) := by decide +kernel
theorem dX8_newRule_47 : decode cX8_newRule 47 = .ok (.ifCond .eq 19, 3) := by decide +kernel
theorem dX8_newRule_50 : decode cX8_newRule 50 = .ok (.aload_n 0, 1) := by decide +kernel
theorem dX8_newRule_51 : decode cX8_newRule 51 = .ok (.iconst 4, 1) := by decide +kernel
theorem dX8_newRule_52 : decode cX8_newRule 52 = .ok (.bipush 116, 2) := by decide +kernel
theorem dX8_newRule_54 : decode cX8_newRule 54 = .ok (.bipush 111, 2) := by decide +kernel
theorem dX8_newRule_56 : decode cX8_newRule 56 = .ok (.iconst 0, 1) := by decide +kernel
theorem dX8_newRule_57 : decode cX8_newRule 57 = .ok (.iconst 0, 1) := by decide +kernel
theorem dX8_newRule_58 : decode cX8_newRule 58 = .ok (.iconst 0, 1) := by decide +kernel
theorem dX8_newRule_59 : decode cX8_newRule 59 = .ok (.iconst 0, 1) := by decide +kernel
theorem dX8_newRule_60 : decode cX8_newRule 60 = .ok (.invokevirtual 126, 3) := by decide +kernel
theorem dX8_newRule_63 : decode cX8_newRule 63 = .ok (.ifCond .ne 5, 3) := by decide +kernel
theorem dX8_newRule_66 : decode cX8_newRule 66 = .ok (.iconst (-1), 1) := by decide +kernel
theorem dX8_newRule_67 : decode cX8_newRule 67 = .ok (.ireturn, 1) := by decide +kernel
theorem dX8_newRule_68 : decode cX8_newRule 68 = .ok (.aload_n 0, 1) := by decide +kernel
theorem dX8_newRule_69 : decode cX8_newRule 69 = .ok (.iconst 3, 1) := by decide +kernel
theorem dX8_newRule_70 : decode cX8_newRule 70 = .ok (.invokevirtual 150, 3) := by decide +kernel
theorem dX8_newRule_73 : decode cX8_newRule 73 = .ok (.istore_n 2, 1) := by decide +kernel
theorem dX8_newRule_74 : decode cX8_newRule 74 = .ok (.aload_n 0, 1) := by decide +kernel
theorem dX8_newRule_75 : decode cX8_newRule 75 = .ok (.iconst 5, 1) := by decide +kernel
theorem dX8_newRule_76 : decode cX8_newRule 76 = .ok (.invokevirtual 150, 3) := by decide +kernel
theorem dX8_newRule_79 : decode cX8_newRule 79 = .ok (.istore_n 3, 1) := by decide +kernel
theorem dX8_newRule_80 : decode cX8_newRule 80 = .ok (.iconst 0, 1) := by decide +kernel
theorem dX8_newRule_81 : decode cX8_newRule 81 = .ok (.istore 4, 2) := by decide +kernel
theorem dX8_newRule_83 : decode cX8_newRule 83 = .ok (.iconst 0, 1) := by decide +kernel
theorem dX8_newRule_84 : decode cX8_newRule 84 = .ok (.istore 5, 2) := by decide +kernel
theorem dX8_newRule_86 : decode cX8_newRule 86 = .ok (.iload_n 1, 1) := by decide +kernel
theorem dX8_newRule_87 : decode cX8_newRule 87 = .ok (.bipush 6, 2) := by decide +kernel
theorem dX8_newRule_89 : decode cX8_newRule 89 = .ok (.if_icmp .le 80, 3) := by decide +kernel
theorem dX8_newRule_92 : decode cX8_newRule 92 = .ok (.aload_n 0, 1) := by decide +kernel
theorem dX8_newRule_93 : decode cX8_newRule 93 = .ok (.bipush 6, 2) := by decide +kernel
theorem dX8_newRule_95 : decode cX8_newRule 95 = .ok (.bipush 105, 2) := by decide +kernel
theorem dX8_newRule_97 : decode cX8_newRule 97 = .ok (.bipush 102, 2) := by decide +kernel
theorem dX8_newRule_99 : decode cX8_newRule 99 = .ok (.iconst 0, 1) := by decide +kernel
theorem dX8_newRule_100 : decode cX8_newRule 100 = .ok (.iconst 0, 1) := by decide +kernel
theorem dX8_newRule_101 : decode cX8_newRule 101 = .ok (.iconst 0, 1) := by decide +kernel
theorem dX8_newRule_102 : decode cX8_newRule 102 = .ok (.iconst 0, 1) := by decide +kernel
theorem dX8_newRule_103 : decode cX8_newRule 103 = .ok (.invokevirtual 126, 3) := by decide +kernel
theorem dX8_newRule_106 : decode cX8_newRule 106 = .ok (.ifCond .eq 7, 3) := by decide +kernel
theorem dX8_newRule_109 : decode cX8_newRule 109 = .ok (.iconst 1, 1) := by decide +kernel
theorem dX8_newRule_110 : decode cX8_newRule 110 = .ok (.goto 40, 3) := by decide +kernel
theorem dX8_newRule_113 : decode cX8_newRule 113 = .ok (.aload_n 0, 1) := by decide +kernel
theorem dX8_newRule_114 : decode cX8_newRule 114 = .ok (.bipush 6, 2) := by decide +kernel
theorem dX8_newRule_116 : decode cX8_newRule 116 = .ok (.bipush 117, 2) := by decide +kernel
theorem dX8_newRule_118 : decode cX8_newRule 118 = .ok (.bipush 110, 2) := by decide +kernel
theorem dX8_newRule_120 : decode cX8_newRule 120 = .ok (.bipush 108, 2) := by decide +kernel
theorem dX8_newRule_122 : decode cX8_newRule 122 = .ok (.bipush 101, 2) := by decide +kernel
theorem dX8_newRule_124 : decode cX8_newRule 124 = .ok (.bipush 115, 2) := by decide +kernel
theorem dX8_newRule_126 : decode cX8_newRule 126 = .ok (.bipush 115, 2) := by decide +kernel
theorem dX8_newRule_128 : decode cX8_newRule 128 = .ok (.invokevirtual 126, 3) := by decide +kernel
theorem dX8_newRule_131 : decode cX8_newRule 131 = .ok (.ifCond .eq 18, 3) := by decide +kernel
theorem dX8_newRule_134 : decode cX8_newRule 134 = .ok (.aload_n 0, 1) := by decide +kernel
theorem dX8_newRule_135 : decode cX8_newRule 135 = .ok (.bipush 6, 2) := by decide +kernel
theorem dX8_newRule_137 : decode cX8_newRule 137 = .ok (.invokevirtual 112, 3) := by decide +kernel
theorem dX8_newRule_140 : decode cX8_newRule 140 = .ok (.bipush 6, 2) := by decide +kernel
theorem dX8_newRule_142 : decode cX8_newRule 142 = .ok (.if_icmp .ne 7, 3) := by decide +kernel
theorem dX8_newRule_145 : decode cX8_newRule 145 = .ok (.iconst 2, 1) := by decide +kernel
theorem dX8_newRule_146 : decode cX8_newRule 146 = .ok (.goto 4, 3) := by decide +kernel
theorem dX8_newRule_149 : decode cX8_newRule 149 = .ok (.iconst 0, 1) := by decide +kernel
theorem dX8_newRule_150 : decode cX8_newRule 150 = .ok (.istore 4, 2) := by decide +kernel
theorem dX8_newRule_152 : decode cX8_newRule 152 = .ok (.iload 4, 2) := by decide +kernel
theorem dX8_newRule_154 : decode cX8_newRule 154 = .ok (.ifCond .le 12, 3) := by decide +kernel
theorem dX8_newRule_157 : decode cX8_newRule 157 = .ok (.aload_n 0, 1) := by decide +kernel
theorem dX8_newRule_158 : decode cX8_newRule 158 = .ok (.bipush 7, 2) := by decide +kernel
theorem dX8_newRule_160 : decode cX8_newRule 160 = .ok (.invokevirtual 150, 3) := by decide +kernel
theorem dX8_newRule_163 : decode cX8_newRule 163 = .ok (.goto 4, 3) := by decide +kernel
theorem dX8_newRule_166 : decode cX8_newRule 166 = .ok (.iconst 0, 1) := by decide +kernel
theorem dX8_newRule_167 : decode cX8_newRule 167 = .ok (.istore 5, 2) := by decide +kernel
theorem dX8_newRule_169 : decode cX8_newRule 169 = .ok (.iload 4, 2) := by decide +kernel
theorem dX8_newRule_171 : decode cX8_newRule 171 = .ok (.ifCond .le 8, 3) := by decide +kernel
theorem dX8_newRule_174 : decode cX8_newRule 174 = .ok (.bipush 8, 2) := by decide +kernel
theorem dX8_newRule_176 : decode cX8_newRule 176 = .ok (.goto 5, 3) := by decide +kernel
theorem dX8_newRule_179 : decode cX8_newRule 179 = .ok (.bipush 6, 2) := by decide +kernel
theorem dX8_newRule_181 : decode cX8_newRule 181 = .ok (.istore 6, 2) := by decide +kernel
theorem dX8_newRule_183 : decode cX8_newRule 183 = .ok (.iload_n 1, 1) := by decide +kernel
theorem dX8_newRule_184 : decode cX8_newRule 184 = .ok (.iload 6, 2) := by decide +kernel
theorem dX8_newRule_186 : decode cX8_newRule 186 = .ok (.if_icmp .le 36, 3) := by decide +kernel
theorem dX8_newRule_189 : decode cX8_newRule 189 = .ok (.aload_n 0, 1) := by decide +kernel
theorem dX8_newRule_190 : decode cX8_newRule 190 = .ok (.iload 6, 2) := by decide +kernel
theorem dX8_newRule_192 : decode cX8_newRule 192 = .ok (.bipush 100, 2) := by decide +kernel
theorem dX8_newRule_194 : decode cX8_newRule 194 = .ok (.bipush 111, 2) := by decide +kernel
theorem dX8_newRule_196 : decode cX8_newRule 196 = .ok (.iconst 0, 1) := by decide +kernel
theorem dX8_newRule_197 : decode cX8_newRule 197 = .ok (.iconst 0, 1) := by decide +kernel
theorem dX8_newRule_198 : decode cX8_newRule 198 = .ok (.iconst 0, 1) := by decide +kernel
theorem dX8_newRule_199 : decode cX8_newRule 199 = .ok (.iconst 0, 1) := by decide +kernel
theorem dX8_newRule_200 : decode cX8_newRule 200 = .ok (.invokevirtual 126, 3) := by decide +kernel
theorem dX8_newRule_203 : decode cX8_newRule 203 = .ok (.ifCond .eq 19, 3) := by decide +kernel
theorem dX8_newRule_206 : decode cX8_newRule 206 = .ok (.aload_n 0, 1) := by decide +kernel
theorem dX8_newRule_207 : decode cX8_newRule 207 = .ok (.iload 6, 2) := by decide +kernel
theorem dX8_newRule_209 : decode cX8_newRule 209 = .ok (.iconst 1, 1) := by decide +kernel
theorem dX8_newRule_210 : decode cX8_newRule 210 = .ok (.iadd, 1) := by decide +kernel
theorem dX8_newRule_211 : decode cX8_newRule 211 = .ok (.iconst 3, 1) := by decide +kernel
theorem dX8_newRule_212 : decode cX8_newRule 212 = .ok (.invokevirtual 146, 3) := by decide +kernel
theorem dX8_newRule_215 : decode cX8_newRule 215 = .ok (.ifCond .eq 7, 3) := by decide +kernel
theorem dX8_newRule_218 : decode cX8_newRule 218 = .ok (.iconst 1, 1) := by decide +kernel
theorem dX8_newRule_219 : decode cX8_newRule 219 = .ok (.goto 4, 3) := by decide +kernel
theorem dX8_newRule_222 : decode cX8_newRule 222 = .ok (.iconst 0, 1) := by decide +kernel
theorem dX8_newRule_223 : decode cX8_newRule 223 = .ok (.istore 7, 2) := by decide +kernel
theorem dX8_newRule_225 : decode cX8_newRule 225 = .ok (.iload_n 2, 1) := by decide +kernel
theorem dX8_newRule_226 : decode cX8_newRule 226 = .ok (.iconst 1, 1) := by decide +kernel
theorem dX8_newRule_227 : decode cX8_newRule 227 = .ok (.if_icmp .lt 32, 3) := by decide +kernel
theorem dX8_newRule_230 : decode cX8_newRule 230 = .ok (.iload_n 3, 1) := by decide +kernel
theorem dX8_newRule_231 : decode cX8_newRule 231 = .ok (.iconst 1, 1) := by decide +kernel
theorem dX8_newRule_232 : decode cX8_newRule 232 = .ok (.if_icmp .lt 27, 3) := by decide +kernel
theorem dX8_newRule_235 : decode cX8_newRule 235 = .ok (.iload 5, 2) := by decide +kernel
theorem dX8_newRule_237 : decode cX8_newRule 237 = .ok (.ifCond .lt 22, 3) := by decide +kernel
theorem dX8_newRule_240 : decode cX8_newRule 240 = .ok (.iload_n 1, 1) := by decide +kernel
theorem dX8_newRule_241 : decode cX8_newRule 241 = .ok (.iload 6, 2) := by decide +kernel
theorem dX8_newRule_243 : decode cX8_newRule 243 = .ok (.if_icmp .le 8, 3) := by decide +kernel
theorem dX8_newRule_246 : decode cX8_newRule 246 = .ok (.iload 7, 2) := by decide +kernel
theorem dX8_newRule_248 : decode cX8_newRule 248 = .ok (.ifCond .eq 11, 3) := by decide +kernel
theorem dX8_newRule_251 : decode cX8_newRule 251 = .ok (.iload_n 1, 1) := by decide +kernel
theorem dX8_newRule_252 : decode cX8_newRule 252 = .ok (.iload 6, 2) := by decide +kernel
theorem dX8_newRule_254 : decode cX8_newRule 254 = .ok (.iconst 2, 1) := by decide +kernel
theorem dX8_newRule_255 : decode cX8_newRule 255 = .ok (.iadd, 1) := by decide +kernel
theorem dX8_newRule_256 : decode cX8_newRule 256 = .ok (.if_icmp .le 5, 3) := by decide +kernel
theorem dX8_newRule_259 : decode cX8_newRule 259 = .ok (.iconst (-1), 1) := by decide +kernel
theorem dX8_newRule_260 : decode cX8_newRule 260 = .ok (.ireturn, 1) := by decide +kernel
theorem dX8_newRule_261 : decode cX8_newRule 261 = .ok (.aload_n 0, 1) := by decide +kernel
theorem dX8_newRule_262 : decode cX8_newRule 262 = .ok (.iconst 1, 1) := by decide +kernel
theorem dX8_newRule_263 : decode cX8_newRule 263 = .ok (.invokevirtual 153, 3) := by decide +kernel
theorem dX8_newRule_266 : decode cX8_newRule 266 = .ok (.istore 8, 2) := by decide +kernel
theorem dX8_newRule_268 : decode cX8_newRule 268 = .ok (.aload_n 0, 1) := by decide +kernel
theorem dX8_newRule_269 : decode cX8_newRule 269 = .ok (.getfield 156, 3) := by decide +kernel
theorem dX8_newRule_272 : decode cX8_newRule 272 = .ok (.bipush 20, 2) := by decide +kernel
theorem dX8_newRule_274 : decode cX8_newRule 274 = .ok (.if_icmp .eq 17, 3) := by decide +kernel
theorem dX8_newRule_277 : decode cX8_newRule 277 = .ok (.iload 8, 2) := by decide +kernel
theorem dX8_newRule_279 : decode cX8_newRule 279 = .ok (.ifCond .ge 15, 3) := by decide +kernel
theorem dX8_newRule_282 : decode cX8_newRule 282 = .ok (.aload_n 0, 1) := by decide +kernel
theorem dX8_newRule_283 : decode cX8_newRule 283 = .ok (.getfield 120, 3) := by decide +kernel
theorem dX8_newRule_286 : decode cX8_newRule 286 = .ok (.bipush 6, 2) := by decide +kernel
theorem dX8_newRule_288 : decode cX8_newRule 288 = .ok (.if_icmp .ne 6, 3) := by decide +kernel
theorem dX8_newRule_291 : decode cX8_newRule 291 = .ok (.bipush (-2), 2) := by decide +kernel
theorem dX8_newRule_293 : decode cX8_newRule 293 = .ok (.ireturn, 1) := by decide +kernel
theorem dX8_newRule_294 : decode cX8_newRule 294 = .ok (.iload 8, 2) := by decide +kernel
theorem dX8_newRule_296 : decode cX8_newRule 296 = .ok (.ifCond .ge 53, 3) := by decide +kernel
theorem dX8_newRule_299 : decode cX8_newRule 299 = .ok (.aload_n 0, 1) := by decide +kernel
theorem dX8_newRule_300 : decode cX8_newRule 300 = .ok (.getfield 120, 3) := by decide +kernel
theorem dX8_newRule_303 : decode cX8_newRule 303 = .ok (.istore 8, 2) := by decide +kernel
theorem dX8_newRule_305 : decode cX8_newRule 305 = .ok (.aload_n 0, 1) := by decide +kernel
theorem dX8_newRule_306 : decode cX8_newRule 306 = .ok (.dup, 1) := by decide +kernel
theorem dX8_newRule_307 : decode cX8_newRule 307 = .ok (.getfield 120, 3) := by decide +kernel
theorem dX8_newRule_310 : decode cX8_newRule 310 = .ok (.iconst 1, 1) := by decide +kernel
theorem dX8_newRule_311 : decode cX8_newRule 311 = .ok (.iadd, 1) := by decide +kernel
theorem dX8_newRule_312 : decode cX8_newRule 312 = .ok (.putfield 120, 3) := by decide +kernel
theorem dX8_newRule_315 : decode cX8_newRule 315 = .ok (.iconst 0, 1) := by decide +kernel
theorem dX8_newRule_316 : decode cX8_newRule 316 = .ok (.istore 9, 2) := by decide +kernel
theorem dX8_newRule_318 : decode cX8_newRule 318 = .ok (.iload 9, 2) := by decide +kernel
theorem dX8_newRule_320 : decode cX8_newRule 320 = .ok (.iconst 4, 1) := by decide +kernel
theorem dX8_newRule_321 : decode cX8_newRule 321 = .ok (.if_icmp .ge 28, 3) := by decide +kernel
theorem dX8_newRule_324 : decode cX8_newRule 324 = .ok (.aload_n 0, 1) := by decide +kernel
theorem dX8_newRule_325 : decode cX8_newRule 325 = .ok (.getfield 46, 3) := by decide +kernel
theorem dX8_newRule_328 : decode cX8_newRule 328 = .ok (.iconst 4, 1) := by decide +kernel
theorem dX8_newRule_329 : decode cX8_newRule 329 = .ok (.iload 8, 2) := by decide +kernel
theorem dX8_newRule_331 : decode cX8_newRule 331 = .ok (.imul, 1) := by decide +kernel
theorem dX8_newRule_332 : decode cX8_newRule 332 = .ok (.iload 9, 2) := by decide +kernel
theorem dX8_newRule_334 : decode cX8_newRule 334 = .ok (.iadd, 1) := by decide +kernel
theorem dX8_newRule_335 : decode cX8_newRule 335 = .ok (.aload_n 0, 1) := by decide +kernel
theorem dX8_newRule_336 : decode cX8_newRule 336 = .ok (.iconst 1, 1) := by decide +kernel
theorem dX8_newRule_337 : decode cX8_newRule 337 = .ok (.iload 9, 2) := by decide +kernel
theorem dX8_newRule_339 : decode cX8_newRule 339 = .ok (.invokevirtual 116, 3) := by decide +kernel
theorem dX8_newRule_342 : decode cX8_newRule 342 = .ok (.castore, 1) := by decide +kernel
theorem dX8_newRule_343 : decode cX8_newRule 343 = .ok (.iinc 9 1, 3) := by decide +kernel
theorem dX8_newRule_346 : decode cX8_newRule 346 = .ok (.goto (-28), 3) := by decide +kernel
theorem dX8_newRule_349 : decode cX8_newRule 349 = .ok (.aload_n 0, 1) := by decide +kernel
theorem dX8_newRule_350 : decode cX8_newRule 350 = .ok (.getfield 52, 3) := by decide +kernel
theorem dX8_newRule_353 : decode cX8_newRule 353 = .ok (.aload_n 0, 1) := by decide +kernel
theorem dX8_newRule_354 : decode cX8_newRule 354 = .ok (.getfield 156, 3) := by decide +kernel
theorem dX8_newRule_357 : decode cX8_newRule 357 = .ok (.iload 8, 2) := by decide +kernel
theorem dX8_newRule_359 : decode cX8_newRule 359 = .ok (.iastore, 1) := by decide +kernel
theorem dX8_newRule_360 : decode cX8_newRule 360 = .ok (.aload_n 0, 1) := by decide +kernel
theorem dX8_newRule_361 : decode cX8_newRule 361 = .ok (.getfield 55, 3) := by decide +kernel
theorem dX8_newRule_364 : decode cX8_newRule 364 = .ok (.aload_n 0, 1) := by decide +kernel
theorem dX8_newRule_365 : decode cX8_newRule 365 = .ok (.getfield 156, 3) := by decide +kernel
theorem dX8_newRule_368 : decode cX8_newRule 368 = .ok (.iload_n 2, 1) := by decide +kernel
theorem dX8_newRule_369 : decode cX8_newRule 369 = .ok (.iastore, 1) := by decide +kernel
theorem dX8_newRule_370 : decode cX8_newRule 370 = .ok (.aload_n 0, 1) := by decide +kernel
theorem dX8_newRule_371 : decode cX8_newRule 371 = .ok (.getfield 58, 3) := by decide +kernel
theorem dX8_newRule_374 : decode cX8_newRule 374 = .ok (.aload_n 0, 1) := by decide +kernel
theorem dX8_newRule_375 : decode cX8_newRule 375 = .ok (.getfield 156, 3) := by decide +kernel
theorem dX8_newRule_378 : decode cX8_newRule 378 = .ok (.iload_n 3, 1) := by decide +kernel
theorem dX8_newRule_379 : decode cX8_newRule 379 = .ok (.iastore, 1) := by decide +kernel
theorem dX8_newRule_380 : decode cX8_newRule 380 = .ok (.aload_n 0, 1) := by decide +kernel
theorem dX8_newRule_381 : decode cX8_newRule 381 = .ok (.getfield 61, 3) := by decide +kernel
theorem dX8_newRule_384 : decode cX8_newRule 384 = .ok (.aload_n 0, 1) := by decide +kernel
theorem dX8_newRule_385 : decode cX8_newRule 385 = .ok (.getfield 156, 3) := by decide +kernel
theorem dX8_newRule_388 : decode cX8_newRule 388 = .ok (.iload 4, 2) := by decide +kernel
theorem dX8_newRule_390 : decode cX8_newRule 390 = .ok (.iastore, 1) := by decide +kernel
theorem dX8_newRule_391 : decode cX8_newRule 391 = .ok (.aload_n 0, 1) := by decide +kernel
theorem dX8_newRule_392 : decode cX8_newRule 392 = .ok (.getfield 64, 3) := by decide +kernel
theorem dX8_newRule_395 : decode cX8_newRule 395 = .ok (.aload_n 0, 1) := by decide +kernel
theorem dX8_newRule_396 : decode cX8_newRule 396 = .ok (.getfield 156, 3) := by decide +kernel
theorem dX8_newRule_399 : decode cX8_newRule 399 = .ok (.iload 5, 2) := by decide +kernel
theorem dX8_newRule_401 : decode cX8_newRule 401 = .ok (.iastore, 1) := by decide +kernel
theorem dX8_newRule_402 : decode cX8_newRule 402 = .ok (.aload_n 0, 1) := by decide +kernel
theorem dX8_newRule_403 : decode cX8_newRule 403 = .ok (.getfield 67, 3) := by decide +kernel
theorem dX8_newRule_406 : decode cX8_newRule 406 = .ok (.aload_n 0, 1) := by decide +kernel
theorem dX8_newRule_407 : decode cX8_newRule 407 = .ok (.getfield 156, 3) := by decide +kernel
theorem dX8_newRule_410 : decode cX8_newRule 410 = .ok (.iload 7, 2) := by decide +kernel
theorem dX8_newRule_412 : decode cX8_newRule 412 = .ok (.ifCond .eq 14, 3) := by decide +kernel
theorem dX8_newRule_415 : decode cX8_newRule 415 = .ok (.aload_n 0, 1) := by decide +kernel
theorem dX8_newRule_416 : decode cX8_newRule 416 = .ok (.iload 6, 2) := by decide +kernel
theorem dX8_newRule_418 : decode cX8_newRule 418 = .ok (.iconst 1, 1) := by decide +kernel
theorem dX8_newRule_419 : decode cX8_newRule 419 = .ok (.iadd, 1) := by decide +kernel
theorem dX8_newRule_420 : decode cX8_newRule 420 = .ok (.invokevirtual 112, 3) := by decide +kernel
theorem dX8_newRule_423 : decode cX8_newRule 423 = .ok (.goto 4, 3) := by decide +kernel
theorem dX8_newRule_426 : decode cX8_newRule 426 = .ok (.iconst 0, 1) := by decide +kernel
theorem dX8_newRule_427 : decode cX8_newRule 427 = .ok (.iastore, 1) := by decide +kernel
theorem dX8_newRule_428 : decode cX8_newRule 428 = .ok (.iconst 0, 1) := by decide +kernel
theorem dX8_newRule_429 : decode cX8_newRule 429 = .ok (.istore 9, 2) := by decide +kernel
theorem dX8_newRule_431 : decode cX8_newRule 431 = .ok (.iload 9, 2) := by decide +kernel
theorem dX8_newRule_433 : decode cX8_newRule 433 = .ok (.aload_n 0, 1) := by decide +kernel
theorem dX8_newRule_434 : decode cX8_newRule 434 = .ok (.getfield 67, 3) := by decide +kernel
theorem dX8_newRule_437 : decode cX8_newRule 437 = .ok (.aload_n 0, 1) := by decide +kernel
theorem dX8_newRule_438 : decode cX8_newRule 438 = .ok (.getfield 156, 3) := by decide +kernel
theorem dX8_newRule_441 : decode cX8_newRule 441 = .ok (.iaload, 1) := by decide +kernel
theorem dX8_newRule_442 : decode cX8_newRule 442 = .ok (.if_icmp .ge 33, 3) := by decide +kernel
theorem dX8_newRule_445 : decode cX8_newRule 445 = .ok (.aload_n 0, 1) := by decide +kernel
theorem dX8_newRule_446 : decode cX8_newRule 446 = .ok (.getfield 49, 3) := by decide +kernel
theorem dX8_newRule_449 : decode cX8_newRule 449 = .ok (.iconst 3, 1) := by decide +kernel
theorem dX8_newRule_450 : decode cX8_newRule 450 = .ok (.aload_n 0, 1) := by decide +kernel
theorem dX8_newRule_451 : decode cX8_newRule 451 = .ok (.getfield 156, 3) := by decide +kernel
theorem dX8_newRule_454 : decode cX8_newRule 454 = .ok (.imul, 1) := by decide +kernel
theorem dX8_newRule_455 : decode cX8_newRule 455 = .ok (.iload 9, 2) := by decide +kernel
theorem dX8_newRule_457 : decode cX8_newRule 457 = .ok (.iadd, 1) := by decide +kernel
theorem dX8_newRule_458 : decode cX8_newRule 458 = .ok (.aload_n 0, 1) := by decide +kernel
theorem dX8_newRule_459 : decode cX8_newRule 459 = .ok (.iload 6, 2) := by decide +kernel
theorem dX8_newRule_461 : decode cX8_newRule 461 = .ok (.iconst 1, 1) := by decide +kernel
theorem dX8_newRule_462 : decode cX8_newRule 462 = .ok (.iadd, 1) := by decide +kernel
theorem dX8_newRule_463 : decode cX8_newRule 463 = .ok (.iload 9, 2) := by decide +kernel
theorem dX8_newRule_465 : decode cX8_newRule 465 = .ok (.invokevirtual 116, 3) := by decide +kernel
theorem dX8_newRule_468 : decode cX8_newRule 468 = .ok (.castore, 1) := by decide +kernel
theorem dX8_newRule_469 : decode cX8_newRule 469 = .ok (.iinc 9 1, 3) := by decide +kernel
theorem dX8_newRule_472 : decode cX8_newRule 472 = .ok (.goto (-41), 3) := by decide +kernel
theorem dX8_newRule_475 : decode cX8_newRule 475 = .ok (.aload_n 0, 1) := by decide +kernel
theorem dX8_newRule_476 : decode cX8_newRule 476 = .ok (.dup, 1) := by decide +kernel
theorem dX8_newRule_477 : decode cX8_newRule 477 = .ok (.getfield 156, 3) := by decide +kernel
theorem dX8_newRule_480 : decode cX8_newRule 480 = .ok (.iconst 1, 1) := by decide +kernel
theorem dX8_newRule_481 : decode cX8_newRule 481 = .ok (.iadd, 1) := by decide +kernel
theorem dX8_newRule_482 : decode cX8_newRule 482 = .ok (.putfield 156, 3) := by decide +kernel
theorem dX8_newRule_485 : decode cX8_newRule 485 = .ok (.iconst 3, 1) := by decide +kernel
theorem dX8_newRule_486 : decode cX8_newRule 486 = .ok (.ireturn, 1) := by decide +kernel
set_option maxRecDepth 20000 in
theorem ggX8_named_X8_split : GoodIn wsX8_named wsX8_split := goodIn_r _ [8, 3, 2, 9, 10, 11, 30, 31, 32, 33, 34, 35, 36, 37, 38, 39, 40, 41, 42, 43, 44, 45, 46, 47, 48, 49, 50, 51, 52, 53, 54, 55, 56, 57, 58, 59, 60, 61, 62, 63, 64, 65, 66, 67, 68] (by decide +kernel) (by decide +kernel)
set_option maxRecDepth 20000 in
theorem gX8_named_X8_split : GoodIn wsX8_named (wsV RX8 123 RX8 yX8_split wsX8_split) := goodIn_app (goodIn_of _ (by decide +kernel)) ggX8_named_X8_split
set_option maxRecDepth 20000 in
theorem ggX8_named_X8_stateOf : GoodIn wsX8_named wsX8_stateOf := goodIn_r _ [15, 16, 17, 18, 19, 20, 7, 21, 11, 10, 22, 23, 24, 25, 9, 30, 31, 32, 33, 34, 35, 36, 37, 38, 39, 40, 41, 42, 43, 44, 45, 46, 47, 48, 49, 50, 51, 52, 53, 54, 55, 56, 57, 58, 59, 60, 61, 62, 63, 64, 65, 66, 67, 68] (by decide +kernel) (by decide +kernel)
set_option maxRecDepth 20000 in
theorem gX8_named_X8_stateOf : GoodIn wsX8_named (wsV RX8 150 RX8 yX8_stateOf wsX8_stateOf) := goodIn_app (goodIn_of _ (by decide +kernel)) ggX8_named_X8_stateOf
set_option maxRecDepth 20000 in
theorem ggX8_named_X8_fails : GoodIn wsX8_named wsX8_fails := goodIn_r _ [29, 1, 30, 31, 32, 33, 34, 35, 36, 37, 38, 39, 40, 41, 42, 43, 44, 45, 46, 47, 48, 49, 50, 51, 52, 53, 54, 55, 56, 57, 58, 59, 60, 61, 62, 63, 64, 65, 66, 67, 68] (by decide +kernel) (by decide +kernel)
set_option maxRecDepth 20000 in
theorem gX8_named_X8_fails : GoodIn wsX8_named (wsV RX8 140 RX8 yX8_fails wsX8_fails) := goodIn_app (goodIn_of _ (by decide +kernel)) ggX8_named_X8_fails
theorem dX8_named_0 : decode cX8_named 0 = .ok (.aload_n 0, 1) := by decide +kernel
theorem dX8_named_1 : decode cX8_named 1 = .ok (.iconst 0, 1) := by decide +kernel
theorem dX8_named_2 : decode cX8_named 2 = .ok (.putfield 103, 3) := by decide +kernel
theorem dX8_named_5 : decode cX8_named 5 = .ok (.aload_n 0, 1) := by decide +kernel
theorem dX8_named_6 : decode cX8_named 6 = .ok (.invokevirtual 123, 3) := by decide +kernel
theorem dX8_named_9 : decode cX8_named 9 = .ok (.aload_n 0, 1) := by decide +kernel
theorem dX8_named_10 : decode cX8_named 10 = .ok (.iconst 0, 1) := by decide +kernel
theorem dX8_named_11 : decode cX8_named 11 = .ok (.putfield 106, 3) := by decide +kernel
theorem dX8_named_14 : decode cX8_named 14 = .ok (.aload_n 0, 1) := by decide +kernel
theorem dX8_named_15 : decode cX8_named 15 = .ok (.getfield 109, 3) := by decide +kernel
theorem dX8_named_18 : decode cX8_named 18 = .ok (.iconst 1, 1) := by decide +kernel
theorem dX8_named_19 : decode cX8_named 19 = .ok (.if_icmp .ne 11, 3) := by decide +kernel
theorem dX8_named_22 : decode cX8_named 22 = .ok (.aload_n 0, 1) := by decide +kernel
theorem dX8_named_23 : decode cX8_named 23 = .ok (.iconst 0, 1) := by decide +kernel
theorem dX8_named_24 : decode cX8_named 24 = .ok (.invokevirtual 150, 3) := by decide +kernel
theorem dX8_named_27 : decode cX8_named 27 = .ok (.goto 4, 3) := by decide +kernel
theorem dX8_named_30 : decode cX8_named 30 = .ok (.iconst (-1), 1) := by decide +kernel
theorem dX8_named_31 : decode cX8_named 31 = .ok (.istore_n 1, 1) := by decide +kernel
theorem dX8_named_32 : decode cX8_named 32 = .ok (.iload_n 1, 1) := by decide +kernel
theorem dX8_named_33 : decode cX8_named 33 = .ok (.ifCond .ge 11, 3) := by decide +kernel
theorem dX8_named_36 : decode cX8_named 36 = .ok (.aload_n 0, 1) := by decide +kernel
theorem dX8_named_37 : decode cX8_named 37 = .ok (.iconst 1, 1) := by decide +kernel
theorem dX8_named_38 : decode cX8_named 38 = .ok (.invokevirtual 140, 3) := by decide +kernel
theorem dX8_named_41 : decode cX8_named 41 = .ok (.goto 4, 3) := by decide +kernel
theorem dX8_named_44 : decode cX8_named 44 = .ok (.iload_n 1, 1) := by decide +kernel
theorem dX8_named_45 : decode cX8_named 45 = .ok (.ireturn, 1) := by decide +kernel
theorem dX8_firstChild_0 : decode cX8_firstChild 0 = .ok (.iload_n 1, 1) := by decide +kernel
theorem dX8_firstChild_1 : decode cX8_firstChild 1 = .ok (.iconst 1, 1) := by decide +kernel
theorem dX8_firstChild_2 : decode cX8_firstChild 2 = .ok (.iadd, 1) := by decide +kernel
theorem dX8_firstChild_3 : decode cX8_firstChild 3 = .ok (.istore_n 2, 1) := by decide +kernel
theorem dX8_firstChild_4 : decode cX8_firstChild 4 = .ok (.iload_n 2, 1) := by decide +kernel
theorem dX8_firstChild_5 : decode cX8_firstChild 5 = .ok (.aload_n 0, 1) := by decide +kernel
theorem dX8_firstChild_6 : decode cX8_firstChild 6 = .ok (.getfield 20, 3) := by decide +kernel
theorem dX8_firstChild_9 : decode cX8_firstChild 9 = .ok (.if_icmp .ge 21, 3) := by decide +kernel
theorem dX8_firstChild_12 : decode cX8_firstChild 12 = .ok (.aload_n 0, 1) := by decide +kernel
theorem dX8_firstChild_13 : decode cX8_firstChild 13 = .ok (.getfield 30, 3) := by decide +kernel
theorem dX8_firstChild_16 : decode cX8_firstChild 16 = .ok (.iload_n 2, 1) := by decide +kernel
theorem dX8_firstChild_17 : decode cX8_firstChild 17 = .ok (.iaload, 1) := by decide +kernel
theorem dX8_firstChild_18 : decode cX8_firstChild 18 = .ok (.iload_n 1, 1) := by decide +kernel
theorem dX8_firstChild_19 : decode cX8_firstChild 19 = .ok (.if_icmp .ne 5, 3) := by decide +kernel
theorem dX8_firstChild_22 : decode cX8_firstChild 22 = .ok (.iload_n 2, 1) := by decide +kernel
theorem dX8_firstChild_23 : decode cX8_firstChild 23 = .ok (.ireturn, 1) := by decide +kernel
theorem dX8_firstChild_24 : decode cX8_firstChild 24 = .ok (.iinc 2 1, 3) := by decide +kernel
theorem dX8_firstChild_27 : decode cX8_firstChild 27 = .ok (.goto (-23), 3) := by decide +kernel
theorem dX8_firstChild_30 : decode cX8_firstChild 30 = .ok (.iconst (-1), 1) := by decide +kernel
theorem dX8_firstChild_31 : decode cX8_firstChild 31 = .ok (.ireturn, 1) := by decide +kernel
theorem dX8_within_0 : decode cX8_within 0 = .ok (.iload_n 1, 1) := by decide +kernel
theorem dX8_within_1 : decode cX8_within 1 = .ok (.istore_n 3, 1) := by decide +kernel
theorem dX8_within_2 : decode cX8_within 2 = .ok (.iload_n 3, 1) := by decide +kernel
theorem dX8_within_3 : decode cX8_within 3 = .ok (.iload_n 2, 1) := by decide +kernel
theorem dX8_within_4 : decode cX8_within 4 = .ok (.if_icmp .le 13, 3) := by decide +kernel
theorem dX8_within_7 : decode cX8_within 7 = .ok (.aload_n 0, 1) := by decide +kernel
theorem dX8_within_8 : decode cX8_within 8 = .ok (.getfield 30, 3) := by decide +kernel
theorem dX8_within_11 : decode cX8_within 11 = .ok (.iload_n 3, 1) := by decide +kernel
theorem dX8_within_12 : decode cX8_within 12 = .ok (.iaload, 1) := by decide +kernel
theorem dX8_within_13 : decode cX8_within 13 = .ok (.istore_n 3, 1) := by decide +kernel
theorem dX8_within_14 : decode cX8_within 14 = .ok (.goto (-12), 3) := by decide +kernel
theorem dX8_within_17 : decode cX8_within 17 = .ok (.iload_n 3, 1) := by decide +kernel
theorem dX8_within_18 : decode cX8_within 18 = .ok (.iload_n 2, 1) := by decide +kernel
theorem dX8_within_19 : decode cX8_within 19 = .ok (.if_icmp .ne 7, 3) := by decide +kernel
theorem dX8_within_22 : decode cX8_within 22 = .ok (.iconst 1, 1) := by decide +kernel
theorem dX8_within_23 : decode cX8_within 23 = .ok (.goto 4, 3) := by decide +kernel
theorem dX8_within_26 : decode cX8_within 26 = .ok (.iconst 0, 1) := by decide +kernel
theorem dX8_within_27 : decode cX8_within 27 = .ok (.ireturn, 1) := by decide +kernel
theorem dX8_isActive_0 : decode cX8_isActive 0 = .ok (.iconst 1, 1) := by decide +kernel
theorem dX8_isActive_1 : decode cX8_isActive 1 = .ok (.istore_n 2, 1) := by decide +kernel
theorem dX8_isActive_2 : decode cX8_isActive 2 = .ok (.iload_n 1, 1) := by decide +kernel
theorem dX8_isActive_3 : decode cX8_isActive 3 = .ok (.istore_n 3, 1) := by decide +kernel
theorem dX8_isActive_4 : decode cX8_isActive 4 = .ok (.iload_n 3, 1) := by decide +kernel
theorem dX8_isActive_5 : decode cX8_isActive 5 = .ok (.ifCond .le 52, 3) := by decide +kernel
theorem dX8_isActive_8 : decode cX8_isActive 8 = .ok (.iload_n 2, 1) := by decide +kernel
theorem dX8_isActive_9 : decode cX8_isActive 9 = .ok (.ifCond .eq 36, 3) := by decide +kernel
theorem dX8_isActive_12 : decode cX8_isActive 12 = .ok (.aload_n 0, 1) := by decide +kernel
theorem dX8_isActive_13 : decode cX8_isActive 13 = .ok (.getfield 39, 3) := by decide +kernel
theorem dX8_isActive_16 : decode cX8_isActive 16 = .ok (.aload_n 0, 1) := by decide +kernel
theorem dX8_isActive_17 : decode cX8_isActive 17 = .ok (.getfield 30, 3) := by decide +kernel
theorem dX8_isActive_20 : decode cX8_isActive 20 = .ok (.iload_n 3, 1) := by decide +kernel
theorem dX8_isActive_21 : decode cX8_isActive 21 = .ok (.iaload, 1) := by decide +kernel
theorem dX8_isActive_22 : decode cX8_isActive 22 = .ok (.baload, 1) := by decide +kernel
theorem dX8_isActive_23 : decode cX8_isActive 23 = .ok (.ifCond .ne 18, 3) := by decide +kernel
theorem dX8_isActive_26 : decode cX8_isActive 26 = .ok (.aload_n 0, 1) := by decide +kernel
theorem dX8_isActive_27 : decode cX8_isActive 27 = .ok (.getfield 70, 3) := by decide +kernel
theorem dX8_isActive_30 : decode cX8_isActive 30 = .ok (.aload_n 0, 1) := by decide +kernel
theorem dX8_isActive_31 : decode cX8_isActive 31 = .ok (.getfield 30, 3) := by decide +kernel
theorem dX8_isActive_34 : decode cX8_isActive 34 = .ok (.iload_n 3, 1) := by decide +kernel
theorem dX8_isActive_35 : decode cX8_isActive 35 = .ok (.iaload, 1) := by decide +kernel
theorem dX8_isActive_36 : decode cX8_isActive 36 = .ok (.iaload, 1) := by decide +kernel
theorem dX8_isActive_37 : decode cX8_isActive 37 = .ok (.iload_n 3, 1) := by decide +kernel
theorem dX8_isActive_38 : decode cX8_isActive 38 = .ok (.if_icmp .ne 7, 3) := by decide +kernel
theorem dX8_isActive_41 : decode cX8_isActive 41 = .ok (.iconst 1, 1) := by decide +kernel
theorem dX8_isActive_42 : decode cX8_isActive 42 = .ok (.goto 4, 3) := by decide +kernel
theorem dX8_isActive_45 : decode cX8_isActive 45 = .ok (.iconst 0, 1) := by decide +kernel
theorem dX8_isActive_46 : decode cX8_isActive 46 = .ok (.istore_n 2, 1) := by decide +kernel
theorem dX8_isActive_47 : decode cX8_isActive 47 = .ok (.aload_n 0, 1) := by decide +kernel
theorem dX8_isActive_48 : decode cX8_isActive 48 = .ok (.getfield 30, 3) := by decide +kernel
theorem dX8_isActive_51 : decode cX8_isActive 51 = .ok (.iload_n 3, 1) := by decide +kernel
theorem dX8_isActive_52 : decode cX8_isActive 52 = .ok (.iaload, 1) := by decide +kernel
theorem dX8_isActive_53 : decode cX8_isActive 53 = .ok (.istore_n 3, 1) := by decide +kernel
theorem dX8_isActive_54 : decode cX8_isActive 54 = .ok (.goto (-50), 3) := by decide +kernel
theorem dX8_isActive_57 : decode cX8_isActive 57 = .ok (.iload_n 2, 1) := by decide +kernel
theorem dX8_isActive_58 : decode cX8_isActive 58 = .ok (.ireturn, 1) := by decide +kernel
set_option maxRecDepth 20000 in
theorem ggX8_notes_X8_put : GoodIn wsX8_notes wsX8_put := goodIn_r _ [7, 8, 9, 10, 11, 12, 13, 14, 15, 16, 17, 18, 19, 20, 21, 22, 23, 24, 25, 26, 27, 28, 29, 30, 31, 32, 33, 34, 35, 36, 37, 38, 39, 40, 41, 42, 43, 44, 45, 46, 47, 48] (by decide +kernel) (by decide +kernel)
set_option maxRecDepth 20000 in
theorem gX8_notes_X8_put : GoodIn wsX8_notes (wsV RX8 159 RX8 yX8_put wsX8_put) := goodIn_app (goodIn_of _ (by decide +kernel)) ggX8_notes_X8_put
theorem dX8_notes_0 : decode cX8_notes 0 = .ok (.iconst 0, 1) := by decide +kernel
theorem dX8_notes_1 : decode cX8_notes 1 = .ok (.istore_n 2, 1) := by decide +kernel
theorem dX8_notes_2 : decode cX8_notes 2 = .ok (.iload_n 2, 1) := by decide +kernel
theorem dX8_notes_3 : decode cX8_notes 3 = .ok (.aload_n 0, 1) := by decide +kernel
theorem dX8_notes_4 : decode cX8_notes 4 = .ok (.getfield 36, 3) := by decide +kernel
theorem dX8_notes_7 : decode cX8_notes 7 = .ok (.iload_n 1, 1) := by decide +kernel
theorem dX8_notes_8 : decode cX8_notes 8 = .ok (.iaload, 1) := by decide +kernel
theorem dX8_notes_9 : decode cX8_notes 9 = .ok (.if_icmp .ge 24, 3) := by decide +kernel
theorem dX8_notes_12 : decode cX8_notes 12 = .ok (.aload_n 0, 1) := by decide +kernel
theorem dX8_notes_13 : decode cX8_notes 13 = .ok (.aload_n 0, 1) := by decide +kernel
theorem dX8_notes_14 : decode cX8_notes 14 = .ok (.getfield 27, 3) := by decide +kernel
theorem dX8_notes_17 : decode cX8_notes 17 = .ok (.bipush 6, 2) := by decide +kernel
theorem dX8_notes_19 : decode cX8_notes 19 = .ok (.iload_n 1, 1) := by decide +kernel
theorem dX8_notes_20 : decode cX8_notes 20 = .ok (.imul, 1) := by decide +kernel
theorem dX8_notes_21 : decode cX8_notes 21 = .ok (.iload_n 2, 1) := by decide +kernel
theorem dX8_notes_22 : decode cX8_notes 22 = .ok (.iadd, 1) := by decide +kernel
theorem dX8_notes_23 : decode cX8_notes 23 = .ok (.caload, 1) := by decide +kernel
theorem dX8_notes_24 : decode cX8_notes 24 = .ok (.invokevirtual 159, 3) := by decide +kernel
theorem dX8_notes_27 : decode cX8_notes 27 = .ok (.iinc 2 1, 3) := by decide +kernel
theorem dX8_notes_30 : decode cX8_notes 30 = .ok (.goto (-28), 3) := by decide +kernel
theorem dX8_notes_33 : decode cX8_notes 33 = .ok (.return_, 1) := by decide +kernel
theorem dX8_put_0 : decode cX8_put 0 = .ok (.aload_n 0, 1) := by decide +kernel
theorem dX8_put_1 : decode cX8_put 1 = .ok (.getfield 163, 3) := by decide +kernel
theorem dX8_put_4 : decode cX8_put 4 = .ok (.bipush 40, 2) := by decide +kernel
theorem dX8_put_6 : decode cX8_put 6 = .ok (.if_icmp .ge 13, 3) := by decide +kernel
theorem dX8_put_9 : decode cX8_put 9 = .ok (.aload_n 0, 1) := by decide +kernel
theorem dX8_put_10 : decode cX8_put 10 = .ok (.getfield 73, 3) := by decide +kernel
theorem dX8_put_13 : decode cX8_put 13 = .ok (.aload_n 0, 1) := by decide +kernel
theorem dX8_put_14 : decode cX8_put 14 = .ok (.getfield 163, 3) := by decide +kernel
theorem dX8_put_17 : decode cX8_put 17 = .ok (.iload_n 1, 1) := by decide +kernel
theorem dX8_put_18 : decode cX8_put 18 = .ok (.castore, 1) := by decide +kernel
theorem dX8_put_19 : decode cX8_put 19 = .ok (.aload_n 0, 1) := by decide +kernel
theorem dX8_put_20 : decode cX8_put 20 = .ok (.aload_n 0, 1) := by decide +kernel
theorem dX8_put_21 : decode cX8_put 21 = .ok (.getfield 163, 3) := by decide +kernel
theorem dX8_put_24 : decode cX8_put 24 = .ok (.bipush 40, 2) := by decide +kernel
theorem dX8_put_26 : decode cX8_put 26 = .ok (.if_icmp .ge 12, 3) := by decide +kernel
theorem dX8_put_29 : decode cX8_put 29 = .ok (.aload_n 0, 1) := by decide +kernel
theorem dX8_put_30 : decode cX8_put 30 = .ok (.getfield 163, 3) := by decide +kernel
theorem dX8_put_33 : decode cX8_put 33 = .ok (.iconst 1, 1) := by decide +kernel
theorem dX8_put_34 : decode cX8_put 34 = .ok (.iadd, 1) := by decide +kernel
theorem dX8_put_35 : decode cX8_put 35 = .ok (.goto 5, 3) := by decide +kernel
theorem dX8_put_38 : decode cX8_put 38 = .ok (.bipush 40, 2) := by decide +kernel
theorem dX8_put_40 : decode cX8_put 40 = .ok (.putfield 163, 3) := by decide +kernel
theorem dX8_put_43 : decode cX8_put 43 = .ok (.return_, 1) := by decide +kernel
set_option maxRecDepth 20000 in
theorem ggX8_enter_X8_notes : GoodIn wsX8_enter wsX8_notes := goodIn_r _ [10, 11, 12, 13, 14, 15, 9, 16, 17, 18, 23, 24, 25, 26, 27, 28, 29, 30, 31, 32, 33, 34, 35, 36, 37, 38, 39, 40, 41, 42, 43, 44, 45, 46, 47, 48, 49, 50, 51, 52, 53, 54, 55, 56, 57, 58, 59, 60, 61] (by decide +kernel) (by decide +kernel)
set_option maxRecDepth 20000 in
theorem gX8_enter_X8_notes : GoodIn wsX8_enter (wsV RX8 166 RX8 yX8_notes wsX8_notes) := goodIn_app (goodIn_of _ (by decide +kernel)) ggX8_enter_X8_notes
set_option maxRecDepth 20000 in
theorem ggX8_enter_X8_within : GoodIn wsX8_enter wsX8_within := goodIn_r _ [22, 3, 23, 24, 25, 26, 27, 28, 29, 30, 31, 32, 33, 34, 35, 36, 37, 38, 39, 40, 41, 42, 43, 44, 45, 46, 47, 48, 49, 50, 51, 52, 53, 54, 55, 56, 57, 58, 59, 60, 61] (by decide +kernel) (by decide +kernel)
set_option maxRecDepth 20000 in
theorem gX8_enter_X8_within : GoodIn wsX8_enter (wsV RX8 169 RX8 yX8_within wsX8_within) := goodIn_app (goodIn_of _ (by decide +kernel)) ggX8_enter_X8_within
theorem dX8_enter_0 : decode cX8_enter 0 = .ok (.iconst 1, 1) := by decide +kernel
theorem dX8_enter_1 : decode cX8_enter 1 = .ok (.istore_n 3, 1) := by decide +kernel
theorem dX8_enter_2 : decode cX8_enter 2 = .ok (.aload_n 0, 1) := by decide +kernel
theorem dX8_enter_3 : decode cX8_enter 3 = .ok (.getfield 88, 3) := by decide +kernel
theorem dX8_enter_6 : decode cX8_enter 6 = .ok (.iconst 0, 1) := by decide +kernel
theorem dX8_enter_7 : decode cX8_enter 7 = .ok (.iload_n 1, 1) := by decide +kernel
theorem dX8_enter_8 : decode cX8_enter 8 = .ok (.iastore, 1) := by decide +kernel
theorem dX8_enter_9 : decode cX8_enter 9 = .ok (.iload_n 3, 1) := by decide +kernel
theorem dX8_enter_10 : decode cX8_enter 10 = .ok (.ifCond .le 197, 3) := by decide +kernel
theorem dX8_enter_13 : decode cX8_enter 13 = .ok (.iinc 3 (-1), 3) := by decide +kernel
theorem dX8_enter_16 : decode cX8_enter 16 = .ok (.aload_n 0, 1) := by decide +kernel
theorem dX8_enter_17 : decode cX8_enter 17 = .ok (.getfield 88, 3) := by decide +kernel
theorem dX8_enter_20 : decode cX8_enter 20 = .ok (.iload_n 3, 1) := by decide +kernel
theorem dX8_enter_21 : decode cX8_enter 21 = .ok (.iaload, 1) := by decide +kernel
theorem dX8_enter_22 : decode cX8_enter 22 = .ok (.istore 4, 2) := by decide +kernel
theorem dX8_enter_24 : decode cX8_enter 24 = .ok (.aload_n 0, 1) := by decide +kernel
theorem dX8_enter_25 : decode cX8_enter 25 = .ok (.iconst 2, 1) := by decide +kernel
theorem dX8_enter_26 : decode cX8_enter 26 = .ok (.iload 4, 2) := by decide +kernel
theorem dX8_enter_28 : decode cX8_enter 28 = .ok (.imul, 1) := by decide +kernel
theorem dX8_enter_29 : decode cX8_enter 29 = .ok (.invokevirtual 166, 3) := by decide +kernel
theorem dX8_enter_32 : decode cX8_enter 32 = .ok (.iload_n 2, 1) := by decide +kernel
theorem dX8_enter_33 : decode cX8_enter 33 = .ok (.ifCond .lt 23, 3) := by decide +kernel
theorem dX8_enter_36 : decode cX8_enter 36 = .ok (.iload_n 2, 1) := by decide +kernel
theorem dX8_enter_37 : decode cX8_enter 37 = .ok (.iload 4, 2) := by decide +kernel
theorem dX8_enter_39 : decode cX8_enter 39 = .ok (.if_icmp .eq 17, 3) := by decide +kernel
theorem dX8_enter_42 : decode cX8_enter 42 = .ok (.aload_n 0, 1) := by decide +kernel
theorem dX8_enter_43 : decode cX8_enter 43 = .ok (.iload_n 2, 1) := by decide +kernel
theorem dX8_enter_44 : decode cX8_enter 44 = .ok (.iload 4, 2) := by decide +kernel
theorem dX8_enter_46 : decode cX8_enter 46 = .ok (.invokevirtual 169, 3) := by decide +kernel
theorem dX8_enter_49 : decode cX8_enter 49 = .ok (.ifCond .eq 7, 3) := by decide +kernel
theorem dX8_enter_52 : decode cX8_enter 52 = .ok (.iconst 1, 1) := by decide +kernel
theorem dX8_enter_53 : decode cX8_enter 53 = .ok (.goto 4, 3) := by decide +kernel
theorem dX8_enter_56 : decode cX8_enter 56 = .ok (.iconst 0, 1) := by decide +kernel
theorem dX8_enter_57 : decode cX8_enter 57 = .ok (.istore 5, 2) := by decide +kernel
theorem dX8_enter_59 : decode cX8_enter 59 = .ok (.aload_n 0, 1) := by decide +kernel
theorem dX8_enter_60 : decode cX8_enter 60 = .ok (.getfield 20, 3) := by decide +kernel
theorem dX8_enter_63 : decode cX8_enter 63 = .ok (.iconst 1, 1) := by decide +kernel
theorem dX8_enter_64 : decode cX8_enter 64 = .ok (.isub, 1) := by decide +kernel
theorem dX8_enter_65 : decode cX8_enter 65 = .ok (.istore 6, 2) := by decide +kernel
theorem dX8_enter_67 : decode cX8_enter 67 = .ok (.iload 6, 2) := by decide +kernel
theorem dX8_enter_69 : decode cX8_enter 69 = .ok (.iload 4, 2) := by decide +kernel
theorem dX8_enter_71 : decode cX8_enter 71 = .ok (.if_icmp .le 67, 3) := by decide +kernel
theorem dX8_enter_74 : decode cX8_enter 74 = .ok (.iload 5, 2) := by decide +kernel
theorem dX8_enter_76 : decode cX8_enter 76 = .ok (.ifCond .eq 17, 3) := by decide +kernel
theorem dX8_enter_79 : decode cX8_enter 79 = .ok (.aload_n 0, 1) := by decide +kernel
theorem dX8_enter_80 : decode cX8_enter 80 = .ok (.iload_n 2, 1) := by decide +kernel
theorem dX8_enter_81 : decode cX8_enter 81 = .ok (.iload 6, 2) := by decide +kernel
theorem dX8_enter_83 : decode cX8_enter 83 = .ok (.invokevirtual 169, 3) := by decide +kernel
theorem dX8_enter_86 : decode cX8_enter 86 = .ok (.ifCond .eq 7, 3) := by decide +kernel
theorem dX8_enter_89 : decode cX8_enter 89 = .ok (.iconst 1, 1) := by decide +kernel
theorem dX8_enter_90 : decode cX8_enter 90 = .ok (.goto 4, 3) := by decide +kernel
theorem dX8_enter_93 : decode cX8_enter 93 = .ok (.iconst 0, 1) := by decide +kernel
theorem dX8_enter_94 : decode cX8_enter 94 = .ok (.istore 7, 2) := by decide +kernel
theorem dX8_enter_96 : decode cX8_enter 96 = .ok (.aload_n 0, 1) := by decide +kernel
theorem dX8_enter_97 : decode cX8_enter 97 = .ok (.getfield 30, 3) := by decide +kernel
theorem dX8_enter_100 : decode cX8_enter 100 = .ok (.iload 6, 2) := by decide +kernel
theorem dX8_enter_102 : decode cX8_enter 102 = .ok (.iaload, 1) := by decide +kernel
theorem dX8_enter_103 : decode cX8_enter 103 = .ok (.iload 4, 2) := by decide +kernel
theorem dX8_enter_105 : decode cX8_enter 105 = .ok (.if_icmp .ne 27, 3) := by decide +kernel
theorem dX8_enter_108 : decode cX8_enter 108 = .ok (.aload_n 0, 1) := by decide +kernel
theorem dX8_enter_109 : decode cX8_enter 109 = .ok (.getfield 39, 3) := by decide +kernel
theorem dX8_enter_112 : decode cX8_enter 112 = .ok (.iload 4, 2) := by decide +kernel
theorem dX8_enter_114 : decode cX8_enter 114 = .ok (.baload, 1) := by decide +kernel
theorem dX8_enter_115 : decode cX8_enter 115 = .ok (.ifCond .ne 17, 3) := by decide +kernel
theorem dX8_enter_118 : decode cX8_enter 118 = .ok (.iload 7, 2) := by decide +kernel
theorem dX8_enter_120 : decode cX8_enter 120 = .ok (.ifCond .eq 12, 3) := by decide +kernel
theorem dX8_enter_123 : decode cX8_enter 123 = .ok (.aload_n 0, 1) := by decide +kernel
theorem dX8_enter_124 : decode cX8_enter 124 = .ok (.getfield 70, 3) := by decide +kernel
theorem dX8_enter_127 : decode cX8_enter 127 = .ok (.iload 4, 2) := by decide +kernel
theorem dX8_enter_129 : decode cX8_enter 129 = .ok (.iload 6, 2) := by decide +kernel
theorem dX8_enter_131 : decode cX8_enter 131 = .ok (.iastore, 1) := by decide +kernel
theorem dX8_enter_132 : decode cX8_enter 132 = .ok (.iinc 6 (-1), 3) := by decide +kernel
theorem dX8_enter_135 : decode cX8_enter 135 = .ok (.goto (-68), 3) := by decide +kernel
theorem dX8_enter_138 : decode cX8_enter 138 = .ok (.aload_n 0, 1) := by decide +kernel
theorem dX8_enter_139 : decode cX8_enter 139 = .ok (.getfield 20, 3) := by decide +kernel
theorem dX8_enter_142 : decode cX8_enter 142 = .ok (.iconst 1, 1) := by decide +kernel
theorem dX8_enter_143 : decode cX8_enter 143 = .ok (.isub, 1) := by decide +kernel
theorem dX8_enter_144 : decode cX8_enter 144 = .ok (.istore 6, 2) := by decide +kernel
theorem dX8_enter_146 : decode cX8_enter 146 = .ok (.iload 6, 2) := by decide +kernel
theorem dX8_enter_148 : decode cX8_enter 148 = .ok (.iload 4, 2) := by decide +kernel
theorem dX8_enter_150 : decode cX8_enter 150 = .ok (.if_icmp .le 54, 3) := by decide +kernel
theorem dX8_enter_153 : decode cX8_enter 153 = .ok (.aload_n 0, 1) := by decide +kernel
theorem dX8_enter_154 : decode cX8_enter 154 = .ok (.getfield 30, 3) := by decide +kernel
theorem dX8_enter_157 : decode cX8_enter 157 = .ok (.iload 6, 2) := by decide +kernel
theorem dX8_enter_159 : decode cX8_enter 159 = .ok (.iaload, 1) := by decide +kernel
theorem dX8_enter_160 : decode cX8_enter 160 = .ok (.iload 4, 2) := by decide +kernel
theorem dX8_enter_162 : decode cX8_enter 162 = .ok (.if_icmp .ne 36, 3) := by decide +kernel
theorem dX8_enter_165 : decode cX8_enter 165 = .ok (.aload_n 0, 1) := by decide +kernel
theorem dX8_enter_166 : decode cX8_enter 166 = .ok (.getfield 39, 3) := by decide +kernel
theorem dX8_enter_169 : decode cX8_enter 169 = .ok (.iload 4, 2) := by decide +kernel
theorem dX8_enter_171 : decode cX8_enter 171 = .ok (.baload, 1) := by decide +kernel
theorem dX8_enter_172 : decode cX8_enter 172 = .ok (.ifCond .ne 15, 3) := by decide +kernel
theorem dX8_enter_175 : decode cX8_enter 175 = .ok (.aload_n 0, 1) := by decide +kernel
theorem dX8_enter_176 : decode cX8_enter 176 = .ok (.getfield 70, 3) := by decide +kernel
theorem dX8_enter_179 : decode cX8_enter 179 = .ok (.iload 4, 2) := by decide +kernel
theorem dX8_enter_181 : decode cX8_enter 181 = .ok (.iaload, 1) := by decide +kernel
theorem dX8_enter_182 : decode cX8_enter 182 = .ok (.iload 6, 2) := by decide +kernel
theorem dX8_enter_184 : decode cX8_enter 184 = .ok (.if_icmp .ne 14, 3) := by decide +kernel
theorem dX8_enter_187 : decode cX8_enter 187 = .ok (.aload_n 0, 1) := by decide +kernel
theorem dX8_enter_188 : decode cX8_enter 188 = .ok (.getfield 88, 3) := by decide +kernel
theorem dX8_enter_191 : decode cX8_enter 191 = .ok (.iload_n 3, 1) := by decide +kernel
theorem dX8_enter_192 : decode cX8_enter 192 = .ok (.iload 6, 2) := by decide +kernel
theorem dX8_enter_194 : decode cX8_enter 194 = .ok (.iastore, 1) := by decide +kernel
theorem dX8_enter_195 : decode cX8_enter 195 = .ok (.iinc 3 1, 3) := by decide +kernel
theorem dX8_enter_198 : decode cX8_enter 198 = .ok (.iinc 6 (-1), 3) := by decide +kernel
theorem dX8_enter_201 : decode cX8_enter 201 = .ok (.goto (-55), 3) := by decide +kernel
theorem dX8_enter_204 : decode cX8_enter 204 = .ok (.goto (-195), 3) := by decide +kernel
theorem dX8_enter_207 : decode cX8_enter 207 = .ok (.return_, 1) := by decide +kernel
set_option maxRecDepth 20000 in
theorem ggX8_leave_X8_notes : GoodIn wsX8_leave wsX8_notes := goodIn_r _ [12, 13, 14, 15, 16, 17, 11, 18, 19, 20, 29, 30, 31, 32, 33, 34, 35, 36, 37, 38, 39, 40, 41, 42, 43, 44, 45, 46, 47, 48, 49, 50, 51, 52, 53, 54, 55, 56, 57, 58, 59, 60, 61, 62, 63, 64, 65, 66, 67] (by decide +kernel) (by decide +kernel)
set_option maxRecDepth 20000 in
theorem gX8_leave_X8_notes : GoodIn wsX8_leave (wsV RX8 166 RX8 yX8_notes wsX8_notes) := goodIn_app (goodIn_of _ (by decide +kernel)) ggX8_leave_X8_notes
set_option maxRecDepth 20000 in
theorem ggX8_leave_X8_firstOf : GoodIn wsX8_leave wsX8_firstOf := goodIn_r _ [24, 5, 25, 26, 27, 11, 28, 3, 4, 29, 30, 31, 32, 33, 34, 35, 36, 37, 38, 39, 40, 41, 42, 43, 44, 45, 46, 47, 48, 49, 50, 51, 52, 53, 54, 55, 56, 57, 58, 59, 60, 61, 62, 63, 64, 65, 66, 67] (by decide +kernel) (by decide +kernel)
set_option maxRecDepth 20000 in
theorem gX8_leave_X8_firstOf : GoodIn wsX8_leave (wsV RX8 172 RX8 yX8_firstOf wsX8_firstOf) := goodIn_app (goodIn_of _ (by decide +kernel)) ggX8_leave_X8_firstOf
theorem dX8_leave_0 : decode cX8_leave 0 = .ok (.iconst 0, 1) := by decide +kernel
theorem dX8_leave_1 : decode cX8_leave 1 = .ok (.istore_n 2, 1) := by decide +kernel
theorem dX8_leave_2 : decode cX8_leave 2 = .ok (.iconst 1, 1) := by decide +kernel
theorem dX8_leave_3 : decode cX8_leave 3 = .ok (.istore_n 3, 1) := by decide +kernel
theorem dX8_leave_4 : decode cX8_leave 4 = .ok (.aload_n 0, 1) := by decide +kernel
theorem dX8_leave_5 : decode cX8_leave 5 = .ok (.getfield 88, 3) := by decide +kernel
theorem dX8_leave_8 : decode cX8_leave 8 = .ok (.iconst 0, 1) := by decide +kernel
theorem dX8_leave_9 : decode cX8_leave 9 = .ok (.iload_n 1, 1) := by decide +kernel
theorem dX8_leave_10 : decode cX8_leave 10 = .ok (.iastore, 1) := by decide +kernel
theorem dX8_leave_11 : decode cX8_leave 11 = .ok (.iload_n 3, 1) := by decide +kernel
theorem dX8_leave_12 : decode cX8_leave 12 = .ok (.ifCond .le 94, 3) := by decide +kernel
theorem dX8_leave_15 : decode cX8_leave 15 = .ok (.iinc 3 (-1), 3) := by decide +kernel
theorem dX8_leave_18 : decode cX8_leave 18 = .ok (.aload_n 0, 1) := by decide +kernel
theorem dX8_leave_19 : decode cX8_leave 19 = .ok (.getfield 88, 3) := by decide +kernel
theorem dX8_leave_22 : decode cX8_leave 22 = .ok (.iload_n 3, 1) := by decide +kernel
theorem dX8_leave_23 : decode cX8_leave 23 = .ok (.iaload, 1) := by decide +kernel
theorem dX8_leave_24 : decode cX8_leave 24 = .ok (.istore 4, 2) := by decide +kernel
theorem dX8_leave_26 : decode cX8_leave 26 = .ok (.aload_n 0, 1) := by decide +kernel
theorem dX8_leave_27 : decode cX8_leave 27 = .ok (.getfield 91, 3) := by decide +kernel
theorem dX8_leave_30 : decode cX8_leave 30 = .ok (.iload_n 2, 1) := by decide +kernel
theorem dX8_leave_31 : decode cX8_leave 31 = .ok (.iload 4, 2) := by decide +kernel
theorem dX8_leave_33 : decode cX8_leave 33 = .ok (.iastore, 1) := by decide +kernel
theorem dX8_leave_34 : decode cX8_leave 34 = .ok (.iinc 2 1, 3) := by decide +kernel
theorem dX8_leave_37 : decode cX8_leave 37 = .ok (.aload_n 0, 1) := by decide +kernel
theorem dX8_leave_38 : decode cX8_leave 38 = .ok (.getfield 20, 3) := by decide +kernel
theorem dX8_leave_41 : decode cX8_leave 41 = .ok (.iconst 1, 1) := by decide +kernel
theorem dX8_leave_42 : decode cX8_leave 42 = .ok (.isub, 1) := by decide +kernel
theorem dX8_leave_43 : decode cX8_leave 43 = .ok (.istore 5, 2) := by decide +kernel
theorem dX8_leave_45 : decode cX8_leave 45 = .ok (.iload 5, 2) := by decide +kernel
theorem dX8_leave_47 : decode cX8_leave 47 = .ok (.iload 4, 2) := by decide +kernel
theorem dX8_leave_49 : decode cX8_leave 49 = .ok (.if_icmp .le 54, 3) := by decide +kernel
theorem dX8_leave_52 : decode cX8_leave 52 = .ok (.aload_n 0, 1) := by decide +kernel
theorem dX8_leave_53 : decode cX8_leave 53 = .ok (.getfield 30, 3) := by decide +kernel
theorem dX8_leave_56 : decode cX8_leave 56 = .ok (.iload 5, 2) := by decide +kernel
theorem dX8_leave_58 : decode cX8_leave 58 = .ok (.iaload, 1) := by decide +kernel
theorem dX8_leave_59 : decode cX8_leave 59 = .ok (.iload 4, 2) := by decide +kernel
theorem dX8_leave_61 : decode cX8_leave 61 = .ok (.if_icmp .ne 36, 3) := by decide +kernel
theorem dX8_leave_64 : decode cX8_leave 64 = .ok (.aload_n 0, 1) := by decide +kernel
theorem dX8_leave_65 : decode cX8_leave 65 = .ok (.getfield 39, 3) := by decide +kernel
theorem dX8_leave_68 : decode cX8_leave 68 = .ok (.iload 4, 2) := by decide +kernel
theorem dX8_leave_70 : decode cX8_leave 70 = .ok (.baload, 1) := by decide +kernel
theorem dX8_leave_71 : decode cX8_leave 71 = .ok (.ifCond .ne 15, 3) := by decide +kernel
theorem dX8_leave_74 : decode cX8_leave 74 = .ok (.aload_n 0, 1) := by decide +kernel
theorem dX8_leave_75 : decode cX8_leave 75 = .ok (.getfield 70, 3) := by decide +kernel
theorem dX8_leave_78 : decode cX8_leave 78 = .ok (.iload 4, 2) := by decide +kernel
theorem dX8_leave_80 : decode cX8_leave 80 = .ok (.iaload, 1) := by decide +kernel
theorem dX8_leave_81 : decode cX8_leave 81 = .ok (.iload 5, 2) := by decide +kernel
theorem dX8_leave_83 : decode cX8_leave 83 = .ok (.if_icmp .ne 14, 3) := by decide +kernel
theorem dX8_leave_86 : decode cX8_leave 86 = .ok (.aload_n 0, 1) := by decide +kernel
theorem dX8_leave_87 : decode cX8_leave 87 = .ok (.getfield 88, 3) := by decide +kernel
theorem dX8_leave_90 : decode cX8_leave 90 = .ok (.iload_n 3, 1) := by decide +kernel
theorem dX8_leave_91 : decode cX8_leave 91 = .ok (.iload 5, 2) := by decide +kernel
theorem dX8_leave_93 : decode cX8_leave 93 = .ok (.iastore, 1) := by decide +kernel
theorem dX8_leave_94 : decode cX8_leave 94 = .ok (.iinc 3 1, 3) := by decide +kernel
theorem dX8_leave_97 : decode cX8_leave 97 = .ok (.iinc 5 (-1), 3) := by decide +kernel
theorem dX8_leave_100 : decode cX8_leave 100 = .ok (.goto (-55), 3) := by decide +kernel
theorem dX8_leave_103 : decode cX8_leave 103 = .ok (.goto (-92), 3) := by decide +kernel
theorem dX8_leave_106 : decode cX8_leave 106 = .ok (.iload_n 2, 1) := by decide +kernel
theorem dX8_leave_107 : decode cX8_leave 107 = .ok (.iconst 1, 1) := by decide +kernel
theorem dX8_leave_108 : decode cX8_leave 108 = .ok (.isub, 1) := by decide +kernel
theorem dX8_leave_109 : decode cX8_leave 109 = .ok (.istore 4, 2) := by decide +kernel
theorem dX8_leave_111 : decode cX8_leave 111 = .ok (.iload 4, 2) := by decide +kernel
theorem dX8_leave_113 : decode cX8_leave 113 = .ok (.ifCond .lt 62, 3) := by decide +kernel
theorem dX8_leave_116 : decode cX8_leave 116 = .ok (.aload_n 0, 1) := by decide +kernel
theorem dX8_leave_117 : decode cX8_leave 117 = .ok (.iconst 2, 1) := by decide +kernel
theorem dX8_leave_118 : decode cX8_leave 118 = .ok (.aload_n 0, 1) := by decide +kernel
theorem dX8_leave_119 : decode cX8_leave 119 = .ok (.getfield 91, 3) := by decide +kernel
theorem dX8_leave_122 : decode cX8_leave 122 = .ok (.iload 4, 2) := by decide +kernel
theorem dX8_leave_124 : decode cX8_leave 124 = .ok (.iaload, 1) := by decide +kernel
theorem dX8_leave_125 : decode cX8_leave 125 = .ok (.imul, 1) := by decide +kernel
theorem dX8_leave_126 : decode cX8_leave 126 = .ok (.iconst 1, 1) := by decide +kernel
theorem dX8_leave_127 : decode cX8_leave 127 = .ok (.iadd, 1) := by decide +kernel
theorem dX8_leave_128 : decode cX8_leave 128 = .ok (.invokevirtual 166, 3) := by decide +kernel
theorem dX8_leave_131 : decode cX8_leave 131 = .ok (.aload_n 0, 1) := by decide +kernel
theorem dX8_leave_132 : decode cX8_leave 132 = .ok (.getfield 43, 3) := by decide +kernel
theorem dX8_leave_135 : decode cX8_leave 135 = .ok (.aload_n 0, 1) := by decide +kernel
theorem dX8_leave_136 : decode cX8_leave 136 = .ok (.getfield 91, 3) := by decide +kernel
theorem dX8_leave_139 : decode cX8_leave 139 = .ok (.iload 4, 2) := by decide +kernel
theorem dX8_leave_141 : decode cX8_leave 141 = .ok (.iaload, 1) := by decide +kernel
theorem dX8_leave_142 : decode cX8_leave 142 = .ok (.baload, 1) := by decide +kernel
theorem dX8_leave_143 : decode cX8_leave 143 = .ok (.ifCond .ne 26, 3) := by decide +kernel
theorem dX8_leave_146 : decode cX8_leave 146 = .ok (.aload_n 0, 1) := by decide +kernel
theorem dX8_leave_147 : decode cX8_leave 147 = .ok (.getfield 70, 3) := by decide +kernel
theorem dX8_leave_150 : decode cX8_leave 150 = .ok (.aload_n 0, 1) := by decide +kernel
theorem dX8_leave_151 : decode cX8_leave 151 = .ok (.getfield 91, 3) := by decide +kernel
theorem dX8_leave_154 : decode cX8_leave 154 = .ok (.iload 4, 2) := by decide +kernel
theorem dX8_leave_156 : decode cX8_leave 156 = .ok (.iaload, 1) := by decide +kernel
theorem dX8_leave_157 : decode cX8_leave 157 = .ok (.aload_n 0, 1) := by decide +kernel
theorem dX8_leave_158 : decode cX8_leave 158 = .ok (.aload_n 0, 1) := by decide +kernel
theorem dX8_leave_159 : decode cX8_leave 159 = .ok (.getfield 91, 3) := by decide +kernel
theorem dX8_leave_162 : decode cX8_leave 162 = .ok (.iload 4, 2) := by decide +kernel
theorem dX8_leave_164 : decode cX8_leave 164 = .ok (.iaload, 1) := by decide +kernel
theorem dX8_leave_165 : decode cX8_leave 165 = .ok (.invokevirtual 172, 3) := by decide +kernel
theorem dX8_leave_168 : decode cX8_leave 168 = .ok (.iastore, 1) := by decide +kernel
theorem dX8_leave_169 : decode cX8_leave 169 = .ok (.iinc 4 (-1), 3) := by decide +kernel
theorem dX8_leave_172 : decode cX8_leave 172 = .ok (.goto (-61), 3) := by decide +kernel
theorem dX8_leave_175 : decode cX8_leave 175 = .ok (.return_, 1) := by decide +kernel
set_option maxRecDepth 20000 in
theorem ggX8_firstOf_X8_firstChild : GoodIn wsX8_firstOf wsX8_firstChild := goodIn_r _ [6, 7, 8, 9, 10, 11, 12, 13, 14, 15, 16, 17, 18, 19, 20, 21, 22, 23, 24, 25, 26, 27, 28, 29, 30, 31, 32, 33, 34, 35, 36, 37, 38, 39, 40, 41, 42, 43, 44, 45, 46, 47] (by decide +kernel) (by decide +kernel)
set_option maxRecDepth 20000 in
theorem gX8_firstOf_X8_firstChild : GoodIn wsX8_firstOf (wsV RX8 175 RX8 yX8_firstChild wsX8_firstChild) := goodIn_app (goodIn_of _ (by decide +kernel)) ggX8_firstOf_X8_firstChild
theorem dX8_firstOf_0 : decode cX8_firstOf 0 = .ok (.aload_n 0, 1) := by decide +kernel
theorem dX8_firstOf_1 : decode cX8_firstOf 1 = .ok (.getfield 39, 3) := by decide +kernel
theorem dX8_firstOf_4 : decode cX8_firstOf 4 = .ok (.iload_n 1, 1) := by decide +kernel
theorem dX8_firstOf_5 : decode cX8_firstOf 5 = .ok (.baload, 1) := by decide +kernel
theorem dX8_firstOf_6 : decode cX8_firstOf 6 = .ok (.ifCond .eq 7, 3) := by decide +kernel
theorem dX8_firstOf_9 : decode cX8_firstOf 9 = .ok (.iconst (-1), 1) := by decide +kernel
theorem dX8_firstOf_10 : decode cX8_firstOf 10 = .ok (.goto 8, 3) := by decide +kernel
theorem dX8_firstOf_13 : decode cX8_firstOf 13 = .ok (.aload_n 0, 1) := by decide +kernel
theorem dX8_firstOf_14 : decode cX8_firstOf 14 = .ok (.iload_n 1, 1) := by decide +kernel
theorem dX8_firstOf_15 : decode cX8_firstOf 15 = .ok (.invokevirtual 175, 3) := by decide +kernel
theorem dX8_firstOf_18 : decode cX8_firstOf 18 = .ok (.ireturn, 1) := by decide +kernel
set_option maxRecDepth 20000 in
theorem ggX8_own_X8_isActive : GoodIn wsX8_own wsX8_isActive := goodIn_r _ [10, 11, 12, 13, 58, 59, 60, 61, 62, 63, 64, 65, 66, 67, 68, 69, 70, 71, 72, 73, 74, 75, 76, 77, 78, 79, 80, 81, 82, 83, 84, 85, 86, 87, 88, 89, 90, 91, 92, 93, 94, 95, 96] (by decide +kernel) (by decide +kernel)
set_option maxRecDepth 20000 in
theorem gX8_own_X8_isActive : GoodIn wsX8_own (wsV RX8 178 RX8 yX8_isActive wsX8_isActive) := goodIn_app (goodIn_of _ (by decide +kernel)) ggX8_own_X8_isActive
set_option maxRecDepth 20000 in
theorem ggX8_own_X8_take : GoodIn wsX8_own wsX8_take := goodIn_r _ [17, 18, 12, 4, 11, 13, 19, 20, 21, 22, 23, 24, 9, 25, 26, 27, 28, 29, 30, 31, 32, 33, 34, 35, 36, 37, 38, 39, 40, 41, 42, 43, 44, 45, 46, 47, 48, 49, 50, 51, 52, 53, 54, 55, 56, 57, 58, 59, 60, 61, 62, 63, 64, 65, 66, 67, 68, 69, 70, 71, 72, 73, 74, 75, 76, 77, 78, 79, 80, 81, 82, 83, 84, 85, 86, 87, 88, 89, 90, 91, 92, 93, 94, 95, 96] (by decide +kernel) (by decide +kernel)
set_option maxRecDepth 20000 in
theorem gX8_own_X8_take : GoodIn wsX8_own (wsV RX8 182 RX8 yX8_take wsX8_take) := goodIn_app (goodIn_of _ (by decide +kernel)) ggX8_own_X8_take
theorem dX8_own_0 : decode cX8_own 0 = .ok (.iconst 0, 1) := by decide +kernel
theorem dX8_own_1 : decode cX8_own 1 = .ok (.istore_n 3, 1) := by decide +kernel
theorem dX8_own_2 : decode cX8_own 2 = .ok (.iload_n 3, 1) := by decide +kernel
theorem dX8_own_3 : decode cX8_own 3 = .ok (.aload_n 0, 1) := by decide +kernel
theorem dX8_own_4 : decode cX8_own 4 = .ok (.getfield 156, 3) := by decide +kernel
theorem dX8_own_7 : decode cX8_own 7 = .ok (.if_icmp .ge 84, 3) := by decide +kernel
theorem dX8_own_10 : decode cX8_own 10 = .ok (.aload_n 0, 1) := by decide +kernel
theorem dX8_own_11 : decode cX8_own 11 = .ok (.getfield 61, 3) := by decide +kernel
theorem dX8_own_14 : decode cX8_own 14 = .ok (.iload_n 3, 1) := by decide +kernel
theorem dX8_own_15 : decode cX8_own 15 = .ok (.iaload, 1) := by decide +kernel
theorem dX8_own_16 : decode cX8_own 16 = .ok (.ifCond .eq 31, 3) := by decide +kernel
theorem dX8_own_19 : decode cX8_own 19 = .ok (.aload_n 0, 1) := by decide +kernel
theorem dX8_own_20 : decode cX8_own 20 = .ok (.aload_n 0, 1) := by decide +kernel
theorem dX8_own_21 : decode cX8_own 21 = .ok (.getfield 64, 3) := by decide +kernel
theorem dX8_own_24 : decode cX8_own 24 = .ok (.iload_n 3, 1) := by decide +kernel
theorem dX8_own_25 : decode cX8_own 25 = .ok (.iaload, 1) := by decide +kernel
theorem dX8_own_26 : decode cX8_own 26 = .ok (.invokevirtual 178, 3) := by decide +kernel
theorem dX8_own_29 : decode cX8_own 29 = .ok (.aload_n 0, 1) := by decide +kernel
theorem dX8_own_30 : decode cX8_own 30 = .ok (.getfield 61, 3) := by decide +kernel
theorem dX8_own_33 : decode cX8_own 33 = .ok (.iload_n 3, 1) := by decide +kernel
theorem dX8_own_34 : decode cX8_own 34 = .ok (.iaload, 1) := by decide +kernel
theorem dX8_own_35 : decode cX8_own 35 = .ok (.iconst 1, 1) := by decide +kernel
theorem dX8_own_36 : decode cX8_own 36 = .ok (.if_icmp .ne 7, 3) := by decide +kernel
theorem dX8_own_39 : decode cX8_own 39 = .ok (.iconst 1, 1) := by decide +kernel
theorem dX8_own_40 : decode cX8_own 40 = .ok (.goto 4, 3) := by decide +kernel
theorem dX8_own_43 : decode cX8_own 43 = .ok (.iconst 0, 1) := by decide +kernel
theorem dX8_own_44 : decode cX8_own 44 = .ok (.if_icmp .ne 7, 3) := by decide +kernel
theorem dX8_own_47 : decode cX8_own 47 = .ok (.iconst 1, 1) := by decide +kernel
theorem dX8_own_48 : decode cX8_own 48 = .ok (.goto 4, 3) := by decide +kernel
theorem dX8_own_51 : decode cX8_own 51 = .ok (.iconst 0, 1) := by decide +kernel
theorem dX8_own_52 : decode cX8_own 52 = .ok (.istore 4, 2) := by decide +kernel
theorem dX8_own_54 : decode cX8_own 54 = .ok (.aload_n 0, 1) := by decide +kernel
theorem dX8_own_55 : decode cX8_own 55 = .ok (.getfield 55, 3) := by decide +kernel
theorem dX8_own_58 : decode cX8_own 58 = .ok (.iload_n 3, 1) := by decide +kernel
theorem dX8_own_59 : decode cX8_own 59 = .ok (.iaload, 1) := by decide +kernel
theorem dX8_own_60 : decode cX8_own 60 = .ok (.iload_n 1, 1) := by decide +kernel
theorem dX8_own_61 : decode cX8_own 61 = .ok (.if_icmp .ne 24, 3) := by decide +kernel
theorem dX8_own_64 : decode cX8_own 64 = .ok (.aload_n 0, 1) := by decide +kernel
theorem dX8_own_65 : decode cX8_own 65 = .ok (.getfield 52, 3) := by decide +kernel
theorem dX8_own_68 : decode cX8_own 68 = .ok (.iload_n 3, 1) := by decide +kernel
theorem dX8_own_69 : decode cX8_own 69 = .ok (.iaload, 1) := by decide +kernel
theorem dX8_own_70 : decode cX8_own 70 = .ok (.iload_n 2, 1) := by decide +kernel
theorem dX8_own_71 : decode cX8_own 71 = .ok (.if_icmp .ne 14, 3) := by decide +kernel
theorem dX8_own_74 : decode cX8_own 74 = .ok (.iload 4, 2) := by decide +kernel
theorem dX8_own_76 : decode cX8_own 76 = .ok (.ifCond .eq 9, 3) := by decide +kernel
theorem dX8_own_79 : decode cX8_own 79 = .ok (.aload_n 0, 1) := by decide +kernel
theorem dX8_own_80 : decode cX8_own 80 = .ok (.iload_n 3, 1) := by decide +kernel
theorem dX8_own_81 : decode cX8_own 81 = .ok (.invokevirtual 182, 3) := by decide +kernel
theorem dX8_own_84 : decode cX8_own 84 = .ok (.ireturn, 1) := by decide +kernel
theorem dX8_own_85 : decode cX8_own 85 = .ok (.iinc 3 1, 3) := by decide +kernel
theorem dX8_own_88 : decode cX8_own 88 = .ok (.goto (-86), 3) := by decide +kernel
theorem dX8_own_91 : decode cX8_own 91 = .ok (.bipush 99, 2) := by decide +kernel
theorem dX8_own_93 : decode cX8_own 93 = .ok (.ireturn, 1) := by decide +kernel
set_option maxRecDepth 20000 in
theorem ggX8_take_X8_within : GoodIn wsX8_take wsX8_within := goodIn_r _ [13, 2, 46, 47, 48, 49, 50, 51, 52, 53, 54, 55, 56, 57, 58, 59, 60, 61, 62, 63, 64, 65, 66, 67, 68, 69, 70, 71, 72, 73, 74, 75, 76, 77, 78, 79, 80, 81, 82, 83, 84] (by decide +kernel) (by decide +kernel)
set_option maxRecDepth 20000 in
theorem gX8_take_X8_within : GoodIn wsX8_take (wsV RX8 169 RX8 yX8_within wsX8_within) := goodIn_app (goodIn_of _ (by decide +kernel)) ggX8_take_X8_within
set_option maxRecDepth 20000 in
theorem ggX8_take_X8_leave : GoodIn wsX8_take wsX8_leave := goodIn_r _ [17, 18, 19, 20, 2, 4, 5, 21, 22, 23, 24, 12, 25, 26, 27, 28, 29, 30, 31, 32, 33, 34, 35, 36, 37, 38, 39, 40, 41, 46, 47, 48, 49, 50, 51, 52, 53, 54, 55, 56, 57, 58, 59, 60, 61, 62, 63, 64, 65, 66, 67, 68, 69, 70, 71, 72, 73, 74, 75, 76, 77, 78, 79, 80, 81, 82, 83, 84] (by decide +kernel) (by decide +kernel)
set_option maxRecDepth 20000 in
theorem gX8_take_X8_leave : GoodIn wsX8_take (wsV RX8 185 RX8 yX8_leave wsX8_leave) := goodIn_app (goodIn_of _ (by decide +kernel)) ggX8_take_X8_leave
set_option maxRecDepth 20000 in
theorem ggX8_take_X8_put : GoodIn wsX8_take wsX8_put := goodIn_r _ [31, 32, 33, 46, 47, 48, 49, 50, 51, 52, 53, 54, 55, 56, 57, 58, 59, 60, 61, 62, 63, 64, 65, 66, 67, 68, 69, 70, 71, 72, 73, 74, 75, 76, 77, 78, 79, 80, 81, 82, 83, 84] (by decide +kernel) (by decide +kernel)
set_option maxRecDepth 20000 in
theorem gX8_take_X8_put : GoodIn wsX8_take (wsV RX8 159 RX8 yX8_put wsX8_put) := goodIn_app (goodIn_of _ (by decide +kernel)) ggX8_take_X8_put
set_option maxRecDepth 20000 in
theorem ggX8_take_X8_enter : GoodIn wsX8_take wsX8_enter := goodIn_r _ [45, 18, 20, 2, 4, 5, 22, 23, 24, 12, 25, 26, 27, 28, 29, 30, 31, 32, 33, 9, 10, 11, 13, 46, 47, 48, 49, 50, 51, 52, 53, 54, 55, 56, 57, 58, 59, 60, 61, 62, 63, 64, 65, 66, 67, 68, 69, 70, 71, 72, 73, 74, 75, 76, 77, 78, 79, 80, 81, 82, 83, 84] (by decide +kernel) (by decide +kernel)
set_option maxRecDepth 20000 in
theorem gX8_take_X8_enter : GoodIn wsX8_take (wsV RX8 188 RX8 yX8_enter wsX8_enter) := goodIn_app (goodIn_of _ (by decide +kernel)) ggX8_take_X8_enter
theorem dX8_take_0 : decode cX8_take 0 = .ok (.aload_n 0, 1) := by decide +kernel
theorem dX8_take_1 : decode cX8_take 1 = .ok (.getfield 58, 3) := by decide +kernel
theorem dX8_take_4 : decode cX8_take 4 = .ok (.iload_n 1, 1) := by decide +kernel
theorem dX8_take_5 : decode cX8_take 5 = .ok (.iaload, 1) := by decide +kernel
theorem dX8_take_6 : decode cX8_take 6 = .ok (.istore_n 2, 1) := by decide +kernel
theorem dX8_take_7 : decode cX8_take 7 = .ok (.aload_n 0, 1) := by decide +kernel
theorem dX8_take_8 : decode cX8_take 8 = .ok (.getfield 30, 3) := by decide +kernel
theorem dX8_take_11 : decode cX8_take 11 = .ok (.aload_n 0, 1) := by decide +kernel
theorem dX8_take_12 : decode cX8_take 12 = .ok (.getfield 55, 3) := by decide +kernel
theorem dX8_take_15 : decode cX8_take 15 = .ok (.iload_n 1, 1) := by decide +kernel
theorem dX8_take_16 : decode cX8_take 16 = .ok (.iaload, 1) := by decide +kernel
theorem dX8_take_17 : decode cX8_take 17 = .ok (.iaload, 1) := by decide +kernel
theorem dX8_take_18 : decode cX8_take 18 = .ok (.istore_n 3, 1) := by decide +kernel
theorem dX8_take_19 : decode cX8_take 19 = .ok (.aload_n 0, 1) := by decide +kernel
theorem dX8_take_20 : decode cX8_take 20 = .ok (.getfield 39, 3) := by decide +kernel
theorem dX8_take_23 : decode cX8_take 23 = .ok (.iload_n 3, 1) := by decide +kernel
theorem dX8_take_24 : decode cX8_take 24 = .ok (.baload, 1) := by decide +kernel
theorem dX8_take_25 : decode cX8_take 25 = .ok (.ifCond .ne 17, 3) := by decide +kernel
theorem dX8_take_28 : decode cX8_take 28 = .ok (.iload_n 3, 1) := by decide +kernel
theorem dX8_take_29 : decode cX8_take 29 = .ok (.iload_n 2, 1) := by decide +kernel
theorem dX8_take_30 : decode cX8_take 30 = .ok (.if_icmp .eq 12, 3) := by decide +kernel
theorem dX8_take_33 : decode cX8_take 33 = .ok (.aload_n 0, 1) := by decide +kernel
theorem dX8_take_34 : decode cX8_take 34 = .ok (.iload_n 2, 1) := by decide +kernel
theorem dX8_take_35 : decode cX8_take 35 = .ok (.iload_n 3, 1) := by decide +kernel
theorem dX8_take_36 : decode cX8_take 36 = .ok (.invokevirtual 169, 3) := by decide +kernel
theorem dX8_take_39 : decode cX8_take 39 = .ok (.ifCond .ne 13, 3) := by decide +kernel
theorem dX8_take_42 : decode cX8_take 42 = .ok (.aload_n 0, 1) := by decide +kernel
theorem dX8_take_43 : decode cX8_take 43 = .ok (.getfield 30, 3) := by decide +kernel
theorem dX8_take_46 : decode cX8_take 46 = .ok (.iload_n 3, 1) := by decide +kernel
theorem dX8_take_47 : decode cX8_take 47 = .ok (.iaload, 1) := by decide +kernel
theorem dX8_take_48 : decode cX8_take 48 = .ok (.istore_n 3, 1) := by decide +kernel
theorem dX8_take_49 : decode cX8_take 49 = .ok (.goto (-30), 3) := by decide +kernel
theorem dX8_take_52 : decode cX8_take 52 = .ok (.aload_n 0, 1) := by decide +kernel
theorem dX8_take_53 : decode cX8_take 53 = .ok (.aload_n 0, 1) := by decide +kernel
theorem dX8_take_54 : decode cX8_take 54 = .ok (.getfield 70, 3) := by decide +kernel
theorem dX8_take_57 : decode cX8_take 57 = .ok (.iload_n 3, 1) := by decide +kernel
theorem dX8_take_58 : decode cX8_take 58 = .ok (.iaload, 1) := by decide +kernel
theorem dX8_take_59 : decode cX8_take 59 = .ok (.invokevirtual 185, 3) := by decide +kernel
theorem dX8_take_62 : decode cX8_take 62 = .ok (.iconst 0, 1) := by decide +kernel
theorem dX8_take_63 : decode cX8_take 63 = .ok (.istore 4, 2) := by decide +kernel
theorem dX8_take_65 : decode cX8_take 65 = .ok (.iload 4, 2) := by decide +kernel
theorem dX8_take_67 : decode cX8_take 67 = .ok (.aload_n 0, 1) := by decide +kernel
theorem dX8_take_68 : decode cX8_take 68 = .ok (.getfield 67, 3) := by decide +kernel
theorem dX8_take_71 : decode cX8_take 71 = .ok (.iload_n 1, 1) := by decide +kernel
theorem dX8_take_72 : decode cX8_take 72 = .ok (.iaload, 1) := by decide +kernel
theorem dX8_take_73 : decode cX8_take 73 = .ok (.if_icmp .ge 24, 3) := by decide +kernel
theorem dX8_take_76 : decode cX8_take 76 = .ok (.aload_n 0, 1) := by decide +kernel
theorem dX8_take_77 : decode cX8_take 77 = .ok (.aload_n 0, 1) := by decide +kernel
theorem dX8_take_78 : decode cX8_take 78 = .ok (.getfield 49, 3) := by decide +kernel
theorem dX8_take_81 : decode cX8_take 81 = .ok (.iconst 3, 1) := by decide +kernel
theorem dX8_take_82 : decode cX8_take 82 = .ok (.iload_n 1, 1) := by decide +kernel
theorem dX8_take_83 : decode cX8_take 83 = .ok (.imul, 1) := by decide +kernel
theorem dX8_take_84 : decode cX8_take 84 = .ok (.iload 4, 2) := by decide +kernel
theorem dX8_take_86 : decode cX8_take 86 = .ok (.iadd, 1) := by decide +kernel
theorem dX8_take_87 : decode cX8_take 87 = .ok (.caload, 1) := by decide +kernel
theorem dX8_take_88 : decode cX8_take 88 = .ok (.invokevirtual 159, 3) := by decide +kernel
theorem dX8_take_91 : decode cX8_take 91 = .ok (.iinc 4 1, 3) := by decide +kernel
theorem dX8_take_94 : decode cX8_take 94 = .ok (.goto (-29), 3) := by decide +kernel
theorem dX8_take_97 : decode cX8_take 97 = .ok (.iload_n 2, 1) := by decide +kernel
theorem dX8_take_98 : decode cX8_take 98 = .ok (.istore 4, 2) := by decide +kernel
theorem dX8_take_100 : decode cX8_take 100 = .ok (.aload_n 0, 1) := by decide +kernel
theorem dX8_take_101 : decode cX8_take 101 = .ok (.getfield 30, 3) := by decide +kernel
theorem dX8_take_104 : decode cX8_take 104 = .ok (.iload 4, 2) := by decide +kernel
theorem dX8_take_106 : decode cX8_take 106 = .ok (.iaload, 1) := by decide +kernel
theorem dX8_take_107 : decode cX8_take 107 = .ok (.iload_n 3, 1) := by decide +kernel
theorem dX8_take_108 : decode cX8_take 108 = .ok (.if_icmp .eq 15, 3) := by decide +kernel
theorem dX8_take_111 : decode cX8_take 111 = .ok (.aload_n 0, 1) := by decide +kernel
theorem dX8_take_112 : decode cX8_take 112 = .ok (.getfield 30, 3) := by decide +kernel
theorem dX8_take_115 : decode cX8_take 115 = .ok (.iload 4, 2) := by decide +kernel
theorem dX8_take_117 : decode cX8_take 117 = .ok (.iaload, 1) := by decide +kernel
theorem dX8_take_118 : decode cX8_take 118 = .ok (.istore 4, 2) := by decide +kernel
theorem dX8_take_120 : decode cX8_take 120 = .ok (.goto (-20), 3) := by decide +kernel
theorem dX8_take_123 : decode cX8_take 123 = .ok (.aload_n 0, 1) := by decide +kernel
theorem dX8_take_124 : decode cX8_take 124 = .ok (.getfield 70, 3) := by decide +kernel
theorem dX8_take_127 : decode cX8_take 127 = .ok (.iload_n 3, 1) := by decide +kernel
theorem dX8_take_128 : decode cX8_take 128 = .ok (.iload 4, 2) := by decide +kernel
theorem dX8_take_130 : decode cX8_take 130 = .ok (.iastore, 1) := by decide +kernel
theorem dX8_take_131 : decode cX8_take 131 = .ok (.aload_n 0, 1) := by decide +kernel
theorem dX8_take_132 : decode cX8_take 132 = .ok (.iload 4, 2) := by decide +kernel
theorem dX8_take_134 : decode cX8_take 134 = .ok (.iload_n 2, 1) := by decide +kernel
theorem dX8_take_135 : decode cX8_take 135 = .ok (.invokevirtual 188, 3) := by decide +kernel
theorem dX8_take_138 : decode cX8_take 138 = .ok (.aload_n 0, 1) := by decide +kernel
theorem dX8_take_139 : decode cX8_take 139 = .ok (.getfield 33, 3) := by decide +kernel
theorem dX8_take_142 : decode cX8_take 142 = .ok (.iload_n 3, 1) := by decide +kernel
theorem dX8_take_143 : decode cX8_take 143 = .ok (.iaload, 1) := by decide +kernel
theorem dX8_take_144 : decode cX8_take 144 = .ok (.ireturn, 1) := by decide +kernel
theorem dX8_following_0 : decode cX8_following 0 = .ok (.aload_n 0, 1) := by decide +kernel
theorem dX8_following_1 : decode cX8_following 1 = .ok (.getfield 39, 3) := by decide +kernel
theorem dX8_following_4 : decode cX8_following 4 = .ok (.iload_n 1, 1) := by decide +kernel
theorem dX8_following_5 : decode cX8_following 5 = .ok (.baload, 1) := by decide +kernel
theorem dX8_following_6 : decode cX8_following 6 = .ok (.ifCond .ne 18, 3) := by decide +kernel
theorem dX8_following_9 : decode cX8_following 9 = .ok (.iload_n 2, 1) := by decide +kernel
theorem dX8_following_10 : decode cX8_following 10 = .ok (.ifCond .ge 12, 3) := by decide +kernel
theorem dX8_following_13 : decode cX8_following 13 = .ok (.aload_n 0, 1) := by decide +kernel
theorem dX8_following_14 : decode cX8_following 14 = .ok (.getfield 70, 3) := by decide +kernel
theorem dX8_following_17 : decode cX8_following 17 = .ok (.iload_n 1, 1) := by decide +kernel
theorem dX8_following_18 : decode cX8_following 18 = .ok (.iaload, 1) := by decide +kernel
theorem dX8_following_19 : decode cX8_following 19 = .ok (.goto 4, 3) := by decide +kernel
theorem dX8_following_22 : decode cX8_following 22 = .ok (.iconst (-1), 1) := by decide +kernel
theorem dX8_following_23 : decode cX8_following 23 = .ok (.ireturn, 1) := by decide +kernel
theorem dX8_following_24 : decode cX8_following 24 = .ok (.iload_n 2, 1) := by decide +kernel
theorem dX8_following_25 : decode cX8_following 25 = .ok (.ifCond .ge 9, 3) := by decide +kernel
theorem dX8_following_28 : decode cX8_following 28 = .ok (.iload_n 1, 1) := by decide +kernel
theorem dX8_following_29 : decode cX8_following 29 = .ok (.iconst 1, 1) := by decide +kernel
theorem dX8_following_30 : decode cX8_following 30 = .ok (.iadd, 1) := by decide +kernel
theorem dX8_following_31 : decode cX8_following 31 = .ok (.goto 6, 3) := by decide +kernel
theorem dX8_following_34 : decode cX8_following 34 = .ok (.iload_n 2, 1) := by decide +kernel
theorem dX8_following_35 : decode cX8_following 35 = .ok (.iconst 1, 1) := by decide +kernel
theorem dX8_following_36 : decode cX8_following 36 = .ok (.iadd, 1) := by decide +kernel
theorem dX8_following_37 : decode cX8_following 37 = .ok (.istore_n 3, 1) := by decide +kernel
theorem dX8_following_38 : decode cX8_following 38 = .ok (.iload_n 3, 1) := by decide +kernel
theorem dX8_following_39 : decode cX8_following 39 = .ok (.aload_n 0, 1) := by decide +kernel
theorem dX8_following_40 : decode cX8_following 40 = .ok (.getfield 20, 3) := by decide +kernel
theorem dX8_following_43 : decode cX8_following 43 = .ok (.if_icmp .ge 21, 3) := by decide +kernel
theorem dX8_following_46 : decode cX8_following 46 = .ok (.aload_n 0, 1) := by decide +kernel
theorem dX8_following_47 : decode cX8_following 47 = .ok (.getfield 30, 3) := by decide +kernel
theorem dX8_following_50 : decode cX8_following 50 = .ok (.iload_n 3, 1) := by decide +kernel
theorem dX8_following_51 : decode cX8_following 51 = .ok (.iaload, 1) := by decide +kernel
theorem dX8_following_52 : decode cX8_following 52 = .ok (.iload_n 1, 1) := by decide +kernel
theorem dX8_following_53 : decode cX8_following 53 = .ok (.if_icmp .ne 5, 3) := by decide +kernel
theorem dX8_following_56 : decode cX8_following 56 = .ok (.iload_n 3, 1) := by decide +kernel
theorem dX8_following_57 : decode cX8_following 57 = .ok (.ireturn, 1) := by decide +kernel
theorem dX8_following_58 : decode cX8_following 58 = .ok (.iinc 3 1, 3) := by decide +kernel
theorem dX8_following_61 : decode cX8_following 61 = .ok (.goto (-23), 3) := by decide +kernel
theorem dX8_following_64 : decode cX8_following 64 = .ok (.iconst (-1), 1) := by decide +kernel
theorem dX8_following_65 : decode cX8_following 65 = .ok (.ireturn, 1) := by decide +kernel
set_option maxRecDepth 20000 in
theorem ggX8_offer_X8_following : GoodIn wsX8_offer wsX8_following := goodIn_r _ [9, 10, 11, 12, 13, 69, 70, 71, 72, 73, 74, 75, 76, 77, 78, 79, 80, 81, 82, 83, 84, 85, 86, 87, 88, 89, 90, 91, 92, 93, 94, 95, 96, 97, 98, 99, 100, 101, 102, 103, 104, 105, 106, 107] (by decide +kernel) (by decide +kernel)
set_option maxRecDepth 20000 in
theorem gX8_offer_X8_following : GoodIn wsX8_offer (wsV RX8 192 RX8 yX8_following wsX8_following) := goodIn_app (goodIn_of _ (by decide +kernel)) ggX8_offer_X8_following
set_option maxRecDepth 20000 in
theorem ggX8_offer_X8_own : GoodIn wsX8_offer wsX8_own := goodIn_r _ [17, 18, 19, 20, 21, 22, 23, 24, 25, 8, 26, 10, 13, 11, 27, 28, 29, 30, 31, 32, 33, 4, 34, 35, 36, 37, 38, 39, 40, 41, 42, 43, 12, 44, 45, 46, 47, 48, 49, 50, 51, 52, 53, 54, 55, 56, 57, 58, 59, 60, 61, 62, 63, 64, 65, 66, 67, 68, 69, 70, 71, 72, 73, 74, 75, 76, 77, 78, 79, 80, 81, 82, 83, 84, 85, 86, 87, 88, 89, 90, 91, 92, 93, 94, 95, 96, 97, 98, 99, 100, 101, 102, 103, 104, 105, 106, 107] (by decide +kernel) (by decide +kernel)
set_option maxRecDepth 20000 in
theorem gX8_offer_X8_own : GoodIn wsX8_offer (wsV RX8 196 RX8 yX8_own wsX8_own) := goodIn_app (goodIn_of _ (by decide +kernel)) ggX8_offer_X8_own
theorem dX8_offer_0 : decode cX8_offer 0 = .ok (.iconst 1, 1) := by decide +kernel
theorem dX8_offer_1 : decode cX8_offer 1 = .ok (.istore_n 2, 1) := by decide +kernel
theorem dX8_offer_2 : decode cX8_offer 2 = .ok (.aload_n 0, 1) := by decide +kernel
theorem dX8_offer_3 : decode cX8_offer 3 = .ok (.getfield 94, 3) := by decide +kernel
theorem dX8_offer_6 : decode cX8_offer 6 = .ok (.iconst 0, 1) := by decide +kernel
theorem dX8_offer_7 : decode cX8_offer 7 = .ok (.iconst 0, 1) := by decide +kernel
theorem dX8_offer_8 : decode cX8_offer 8 = .ok (.iastore, 1) := by decide +kernel
theorem dX8_offer_9 : decode cX8_offer 9 = .ok (.aload_n 0, 1) := by decide +kernel
theorem dX8_offer_10 : decode cX8_offer 10 = .ok (.getfield 97, 3) := by decide +kernel
theorem dX8_offer_13 : decode cX8_offer 13 = .ok (.iconst 0, 1) := by decide +kernel
theorem dX8_offer_14 : decode cX8_offer 14 = .ok (.iconst (-1), 1) := by decide +kernel
theorem dX8_offer_15 : decode cX8_offer 15 = .ok (.iastore, 1) := by decide +kernel
theorem dX8_offer_16 : decode cX8_offer 16 = .ok (.aload_n 0, 1) := by decide +kernel
theorem dX8_offer_17 : decode cX8_offer 17 = .ok (.getfield 100, 3) := by decide +kernel
theorem dX8_offer_20 : decode cX8_offer 20 = .ok (.iconst 0, 1) := by decide +kernel
theorem dX8_offer_21 : decode cX8_offer 21 = .ok (.bipush 99, 2) := by decide +kernel
theorem dX8_offer_23 : decode cX8_offer 23 = .ok (.iastore, 1) := by decide +kernel
theorem dX8_offer_24 : decode cX8_offer 24 = .ok (.iload_n 2, 1) := by decide +kernel
theorem dX8_offer_25 : decode cX8_offer 25 = .ok (.ifCond .le 182, 3) := by decide +kernel
theorem dX8_offer_28 : decode cX8_offer 28 = .ok (.aload_n 0, 1) := by decide +kernel
theorem dX8_offer_29 : decode cX8_offer 29 = .ok (.getfield 94, 3) := by decide +kernel
theorem dX8_offer_32 : decode cX8_offer 32 = .ok (.iload_n 2, 1) := by decide +kernel
theorem dX8_offer_33 : decode cX8_offer 33 = .ok (.iconst 1, 1) := by decide +kernel
theorem dX8_offer_34 : decode cX8_offer 34 = .ok (.isub, 1) := by decide +kernel
theorem dX8_offer_35 : decode cX8_offer 35 = .ok (.iaload, 1) := by decide +kernel
theorem dX8_offer_36 : decode cX8_offer 36 = .ok (.istore_n 3, 1) := by decide +kernel
theorem dX8_offer_37 : decode cX8_offer 37 = .ok (.aload_n 0, 1) := by decide +kernel
theorem dX8_offer_38 : decode cX8_offer 38 = .ok (.getfield 97, 3) := by decide +kernel
theorem dX8_offer_41 : decode cX8_offer 41 = .ok (.iload_n 2, 1) := by decide +kernel
theorem dX8_offer_42 : decode cX8_offer 42 = .ok (.iconst 1, 1) := by decide +kernel
theorem dX8_offer_43 : decode cX8_offer 43 = .ok (.isub, 1) := by decide +kernel
theorem dX8_offer_44 : decode cX8_offer 44 = .ok (.iaload, 1) := by decide +kernel
theorem dX8_offer_45 : decode cX8_offer 45 = .ok (.istore 4, 2) := by decide +kernel
theorem dX8_offer_47 : decode cX8_offer 47 = .ok (.iload 4, 2) := by decide +kernel
theorem dX8_offer_49 : decode cX8_offer 49 = .ok (.ifCond .lt 25, 3) := by decide +kernel
theorem dX8_offer_52 : decode cX8_offer 52 = .ok (.aload_n 0, 1) := by decide +kernel
theorem dX8_offer_53 : decode cX8_offer 53 = .ok (.getfield 100, 3) := by decide +kernel
theorem dX8_offer_56 : decode cX8_offer 56 = .ok (.iload_n 2, 1) := by decide +kernel
theorem dX8_offer_57 : decode cX8_offer 57 = .ok (.iconst 1, 1) := by decide +kernel
theorem dX8_offer_58 : decode cX8_offer 58 = .ok (.isub, 1) := by decide +kernel
theorem dX8_offer_59 : decode cX8_offer 59 = .ok (.iaload, 1) := by decide +kernel
theorem dX8_offer_60 : decode cX8_offer 60 = .ok (.aload_n 0, 1) := by decide +kernel
theorem dX8_offer_61 : decode cX8_offer 61 = .ok (.getfield 33, 3) := by decide +kernel
theorem dX8_offer_64 : decode cX8_offer 64 = .ok (.iload 4, 2) := by decide +kernel
theorem dX8_offer_66 : decode cX8_offer 66 = .ok (.iaload, 1) := by decide +kernel
theorem dX8_offer_67 : decode cX8_offer 67 = .ok (.if_icmp .ge 7, 3) := by decide +kernel
theorem dX8_offer_70 : decode cX8_offer 70 = .ok (.iconst 1, 1) := by decide +kernel
theorem dX8_offer_71 : decode cX8_offer 71 = .ok (.goto 4, 3) := by decide +kernel
theorem dX8_offer_74 : decode cX8_offer 74 = .ok (.iconst 0, 1) := by decide +kernel
theorem dX8_offer_75 : decode cX8_offer 75 = .ok (.istore 5, 2) := by decide +kernel
theorem dX8_offer_77 : decode cX8_offer 77 = .ok (.iload 5, 2) := by decide +kernel
theorem dX8_offer_79 : decode cX8_offer 79 = .ok (.ifCond .eq 7, 3) := by decide +kernel
theorem dX8_offer_82 : decode cX8_offer 82 = .ok (.iconst (-1), 1) := by decide +kernel
theorem dX8_offer_83 : decode cX8_offer 83 = .ok (.goto 10, 3) := by decide +kernel
theorem dX8_offer_86 : decode cX8_offer 86 = .ok (.aload_n 0, 1) := by decide +kernel
theorem dX8_offer_87 : decode cX8_offer 87 = .ok (.iload_n 3, 1) := by decide +kernel
theorem dX8_offer_88 : decode cX8_offer 88 = .ok (.iload 4, 2) := by decide +kernel
theorem dX8_offer_90 : decode cX8_offer 90 = .ok (.invokevirtual 192, 3) := by decide +kernel
theorem dX8_offer_93 : decode cX8_offer 93 = .ok (.istore 6, 2) := by decide +kernel
theorem dX8_offer_95 : decode cX8_offer 95 = .ok (.iload 6, 2) := by decide +kernel
theorem dX8_offer_97 : decode cX8_offer 97 = .ok (.ifCond .lt 42, 3) := by decide +kernel
theorem dX8_offer_100 : decode cX8_offer 100 = .ok (.aload_n 0, 1) := by decide +kernel
theorem dX8_offer_101 : decode cX8_offer 101 = .ok (.getfield 97, 3) := by decide +kernel
theorem dX8_offer_104 : decode cX8_offer 104 = .ok (.iload_n 2, 1) := by decide +kernel
theorem dX8_offer_105 : decode cX8_offer 105 = .ok (.iconst 1, 1) := by decide +kernel
theorem dX8_offer_106 : decode cX8_offer 106 = .ok (.isub, 1) := by decide +kernel
theorem dX8_offer_107 : decode cX8_offer 107 = .ok (.iload 6, 2) := by decide +kernel
theorem dX8_offer_109 : decode cX8_offer 109 = .ok (.iastore, 1) := by decide +kernel
theorem dX8_offer_110 : decode cX8_offer 110 = .ok (.aload_n 0, 1) := by decide +kernel
theorem dX8_offer_111 : decode cX8_offer 111 = .ok (.getfield 94, 3) := by decide +kernel
theorem dX8_offer_114 : decode cX8_offer 114 = .ok (.iload_n 2, 1) := by decide +kernel
theorem dX8_offer_115 : decode cX8_offer 115 = .ok (.iload 6, 2) := by decide +kernel
theorem dX8_offer_117 : decode cX8_offer 117 = .ok (.iastore, 1) := by decide +kernel
theorem dX8_offer_118 : decode cX8_offer 118 = .ok (.aload_n 0, 1) := by decide +kernel
theorem dX8_offer_119 : decode cX8_offer 119 = .ok (.getfield 97, 3) := by decide +kernel
theorem dX8_offer_122 : decode cX8_offer 122 = .ok (.iload_n 2, 1) := by decide +kernel
theorem dX8_offer_123 : decode cX8_offer 123 = .ok (.iconst (-1), 1) := by decide +kernel
theorem dX8_offer_124 : decode cX8_offer 124 = .ok (.iastore, 1) := by decide +kernel
theorem dX8_offer_125 : decode cX8_offer 125 = .ok (.aload_n 0, 1) := by decide +kernel
theorem dX8_offer_126 : decode cX8_offer 126 = .ok (.getfield 100, 3) := by decide +kernel
theorem dX8_offer_129 : decode cX8_offer 129 = .ok (.iload_n 2, 1) := by decide +kernel
theorem dX8_offer_130 : decode cX8_offer 130 = .ok (.bipush 99, 2) := by decide +kernel
theorem dX8_offer_132 : decode cX8_offer 132 = .ok (.iastore, 1) := by decide +kernel
theorem dX8_offer_133 : decode cX8_offer 133 = .ok (.iinc 2 1, 3) := by decide +kernel
theorem dX8_offer_136 : decode cX8_offer 136 = .ok (.goto 68, 3) := by decide +kernel
theorem dX8_offer_139 : decode cX8_offer 139 = .ok (.aload_n 0, 1) := by decide +kernel
theorem dX8_offer_140 : decode cX8_offer 140 = .ok (.getfield 100, 3) := by decide +kernel
theorem dX8_offer_143 : decode cX8_offer 143 = .ok (.iload_n 2, 1) := by decide +kernel
theorem dX8_offer_144 : decode cX8_offer 144 = .ok (.iconst 1, 1) := by decide +kernel
theorem dX8_offer_145 : decode cX8_offer 145 = .ok (.isub, 1) := by decide +kernel
theorem dX8_offer_146 : decode cX8_offer 146 = .ok (.iaload, 1) := by decide +kernel
theorem dX8_offer_147 : decode cX8_offer 147 = .ok (.bipush 99, 2) := by decide +kernel
theorem dX8_offer_149 : decode cX8_offer 149 = .ok (.if_icmp .ne 17, 3) := by decide +kernel
theorem dX8_offer_152 : decode cX8_offer 152 = .ok (.aload_n 0, 1) := by decide +kernel
theorem dX8_offer_153 : decode cX8_offer 153 = .ok (.getfield 100, 3) := by decide +kernel
theorem dX8_offer_156 : decode cX8_offer 156 = .ok (.iload_n 2, 1) := by decide +kernel
theorem dX8_offer_157 : decode cX8_offer 157 = .ok (.iconst 1, 1) := by decide +kernel
theorem dX8_offer_158 : decode cX8_offer 158 = .ok (.isub, 1) := by decide +kernel
theorem dX8_offer_159 : decode cX8_offer 159 = .ok (.aload_n 0, 1) := by decide +kernel
theorem dX8_offer_160 : decode cX8_offer 160 = .ok (.iload_n 3, 1) := by decide +kernel
theorem dX8_offer_161 : decode cX8_offer 161 = .ok (.iload_n 1, 1) := by decide +kernel
theorem dX8_offer_162 : decode cX8_offer 162 = .ok (.invokevirtual 196, 3) := by decide +kernel
theorem dX8_offer_165 : decode cX8_offer 165 = .ok (.iastore, 1) := by decide +kernel
theorem dX8_offer_166 : decode cX8_offer 166 = .ok (.iinc 2 (-1), 3) := by decide +kernel
theorem dX8_offer_169 : decode cX8_offer 169 = .ok (.iload_n 2, 1) := by decide +kernel
theorem dX8_offer_170 : decode cX8_offer 170 = .ok (.ifCond .le 34, 3) := by decide +kernel
theorem dX8_offer_173 : decode cX8_offer 173 = .ok (.aload_n 0, 1) := by decide +kernel
theorem dX8_offer_174 : decode cX8_offer 174 = .ok (.getfield 100, 3) := by decide +kernel
theorem dX8_offer_177 : decode cX8_offer 177 = .ok (.iload_n 2, 1) := by decide +kernel
theorem dX8_offer_178 : decode cX8_offer 178 = .ok (.iaload, 1) := by decide +kernel
theorem dX8_offer_179 : decode cX8_offer 179 = .ok (.aload_n 0, 1) := by decide +kernel
theorem dX8_offer_180 : decode cX8_offer 180 = .ok (.getfield 100, 3) := by decide +kernel
theorem dX8_offer_183 : decode cX8_offer 183 = .ok (.iload_n 2, 1) := by decide +kernel
theorem dX8_offer_184 : decode cX8_offer 184 = .ok (.iconst 1, 1) := by decide +kernel
theorem dX8_offer_185 : decode cX8_offer 185 = .ok (.isub, 1) := by decide +kernel
theorem dX8_offer_186 : decode cX8_offer 186 = .ok (.iaload, 1) := by decide +kernel
theorem dX8_offer_187 : decode cX8_offer 187 = .ok (.if_icmp .ge 17, 3) := by decide +kernel
theorem dX8_offer_190 : decode cX8_offer 190 = .ok (.aload_n 0, 1) := by decide +kernel
theorem dX8_offer_191 : decode cX8_offer 191 = .ok (.getfield 100, 3) := by decide +kernel
theorem dX8_offer_194 : decode cX8_offer 194 = .ok (.iload_n 2, 1) := by decide +kernel
theorem dX8_offer_195 : decode cX8_offer 195 = .ok (.iconst 1, 1) := by decide +kernel
theorem dX8_offer_196 : decode cX8_offer 196 = .ok (.isub, 1) := by decide +kernel
theorem dX8_offer_197 : decode cX8_offer 197 = .ok (.aload_n 0, 1) := by decide +kernel
theorem dX8_offer_198 : decode cX8_offer 198 = .ok (.getfield 100, 3) := by decide +kernel
theorem dX8_offer_201 : decode cX8_offer 201 = .ok (.iload_n 2, 1) := by decide +kernel
theorem dX8_offer_202 : decode cX8_offer 202 = .ok (.iaload, 1) := by decide +kernel
theorem dX8_offer_203 : decode cX8_offer 203 = .ok (.iastore, 1) := by decide +kernel
theorem dX8_offer_204 : decode cX8_offer 204 = .ok (.goto (-180), 3) := by decide +kernel
theorem dX8_offer_207 : decode cX8_offer 207 = .ok (.return_, 1) := by decide +kernel
theorem dX8_configuration_0 : decode cX8_configuration 0 = .ok (.iconst 0, 1) := by decide +kernel
theorem dX8_configuration_1 : decode cX8_configuration 1 = .ok (.istore_n 1, 1) := by decide +kernel
theorem dX8_configuration_2 : decode cX8_configuration 2 = .ok (.iload_n 1, 1) := by decide +kernel
theorem dX8_configuration_3 : decode cX8_configuration 3 = .ok (.aload_n 0, 1) := by decide +kernel
theorem dX8_configuration_4 : decode cX8_configuration 4 = .ok (.getfield 143, 3) := by decide +kernel
theorem dX8_configuration_7 : decode cX8_configuration 7 = .ok (.if_icmp .ge 63, 3) := by decide +kernel
theorem dX8_configuration_10 : decode cX8_configuration 10 = .ok (.iconst 1, 1) := by decide +kernel
theorem dX8_configuration_11 : decode cX8_configuration 11 = .ok (.istore_n 2, 1) := by decide +kernel
theorem dX8_configuration_12 : decode cX8_configuration 12 = .ok (.iconst 0, 1) := by decide +kernel
theorem dX8_configuration_13 : decode cX8_configuration 13 = .ok (.istore_n 3, 1) := by decide +kernel
theorem dX8_configuration_14 : decode cX8_configuration 14 = .ok (.iload_n 3, 1) := by decide +kernel
theorem dX8_configuration_15 : decode cX8_configuration 15 = .ok (.aload_n 0, 1) := by decide +kernel
theorem dX8_configuration_16 : decode cX8_configuration 16 = .ok (.getfield 20, 3) := by decide +kernel
theorem dX8_configuration_19 : decode cX8_configuration 19 = .ok (.if_icmp .ge 39, 3) := by decide +kernel
theorem dX8_configuration_22 : decode cX8_configuration 22 = .ok (.iload_n 2, 1) := by decide +kernel
theorem dX8_configuration_23 : decode cX8_configuration 23 = .ok (.ifCond .eq 27, 3) := by decide +kernel
theorem dX8_configuration_26 : decode cX8_configuration 26 = .ok (.aload_n 0, 1) := by decide +kernel
theorem dX8_configuration_27 : decode cX8_configuration 27 = .ok (.getfield 76, 3) := by decide +kernel
theorem dX8_configuration_30 : decode cX8_configuration 30 = .ok (.bipush 14, 2) := by decide +kernel
theorem dX8_configuration_32 : decode cX8_configuration 32 = .ok (.iload_n 1, 1) := by decide +kernel
theorem dX8_configuration_33 : decode cX8_configuration 33 = .ok (.imul, 1) := by decide +kernel
theorem dX8_configuration_34 : decode cX8_configuration 34 = .ok (.iload_n 3, 1) := by decide +kernel
theorem dX8_configuration_35 : decode cX8_configuration 35 = .ok (.iadd, 1) := by decide +kernel
theorem dX8_configuration_36 : decode cX8_configuration 36 = .ok (.iaload, 1) := by decide +kernel
theorem dX8_configuration_37 : decode cX8_configuration 37 = .ok (.aload_n 0, 1) := by decide +kernel
theorem dX8_configuration_38 : decode cX8_configuration 38 = .ok (.getfield 70, 3) := by decide +kernel
theorem dX8_configuration_41 : decode cX8_configuration 41 = .ok (.iload_n 3, 1) := by decide +kernel
theorem dX8_configuration_42 : decode cX8_configuration 42 = .ok (.iaload, 1) := by decide +kernel
theorem dX8_configuration_43 : decode cX8_configuration 43 = .ok (.if_icmp .ne 7, 3) := by decide +kernel
theorem dX8_configuration_46 : decode cX8_configuration 46 = .ok (.iconst 1, 1) := by decide +kernel
theorem dX8_configuration_47 : decode cX8_configuration 47 = .ok (.goto 4, 3) := by decide +kernel
theorem dX8_configuration_50 : decode cX8_configuration 50 = .ok (.iconst 0, 1) := by decide +kernel
theorem dX8_configuration_51 : decode cX8_configuration 51 = .ok (.istore_n 2, 1) := by decide +kernel
theorem dX8_configuration_52 : decode cX8_configuration 52 = .ok (.iinc 3 1, 3) := by decide +kernel
theorem dX8_configuration_55 : decode cX8_configuration 55 = .ok (.goto (-41), 3) := by decide +kernel
theorem dX8_configuration_58 : decode cX8_configuration 58 = .ok (.iload_n 2, 1) := by decide +kernel
theorem dX8_configuration_59 : decode cX8_configuration 59 = .ok (.ifCond .eq 5, 3) := by decide +kernel
theorem dX8_configuration_62 : decode cX8_configuration 62 = .ok (.iload_n 1, 1) := by decide +kernel
theorem dX8_configuration_63 : decode cX8_configuration 63 = .ok (.ireturn, 1) := by decide +kernel
theorem dX8_configuration_64 : decode cX8_configuration 64 = .ok (.iinc 1 1, 3) := by decide +kernel
theorem dX8_configuration_67 : decode cX8_configuration 67 = .ok (.goto (-65), 3) := by decide +kernel
theorem dX8_configuration_70 : decode cX8_configuration 70 = .ok (.aload_n 0, 1) := by decide +kernel
theorem dX8_configuration_71 : decode cX8_configuration 71 = .ok (.getfield 143, 3) := by decide +kernel
theorem dX8_configuration_74 : decode cX8_configuration 74 = .ok (.bipush 30, 2) := by decide +kernel
theorem dX8_configuration_76 : decode cX8_configuration 76 = .ok (.if_icmp .ne 5, 3) := by decide +kernel
theorem dX8_configuration_79 : decode cX8_configuration 79 = .ok (.iconst (-1), 1) := by decide +kernel
theorem dX8_configuration_80 : decode cX8_configuration 80 = .ok (.ireturn, 1) := by decide +kernel
theorem dX8_configuration_81 : decode cX8_configuration 81 = .ok (.iconst 0, 1) := by decide +kernel
theorem dX8_configuration_82 : decode cX8_configuration 82 = .ok (.istore_n 1, 1) := by decide +kernel
theorem dX8_configuration_83 : decode cX8_configuration 83 = .ok (.iload_n 1, 1) := by decide +kernel
theorem dX8_configuration_84 : decode cX8_configuration 84 = .ok (.aload_n 0, 1) := by decide +kernel
theorem dX8_configuration_85 : decode cX8_configuration 85 = .ok (.getfield 20, 3) := by decide +kernel
theorem dX8_configuration_88 : decode cX8_configuration 88 = .ok (.if_icmp .ge 29, 3) := by decide +kernel
theorem dX8_configuration_91 : decode cX8_configuration 91 = .ok (.aload_n 0, 1) := by decide +kernel
theorem dX8_configuration_92 : decode cX8_configuration 92 = .ok (.getfield 76, 3) := by decide +kernel
theorem dX8_configuration_95 : decode cX8_configuration 95 = .ok (.bipush 14, 2) := by decide +kernel
theorem dX8_configuration_97 : decode cX8_configuration 97 = .ok (.aload_n 0, 1) := by decide +kernel
theorem dX8_configuration_98 : decode cX8_configuration 98 = .ok (.getfield 143, 3) := by decide +kernel
theorem dX8_configuration_101 : decode cX8_configuration 101 = .ok (.imul, 1) := by decide +kernel
theorem dX8_configuration_102 : decode cX8_configuration 102 = .ok (.iload_n 1, 1) := by decide +kernel
theorem dX8_configuration_103 : decode cX8_configuration 103 = .ok (.iadd, 1) := by decide +kernel
theorem dX8_configuration_104 : decode cX8_configuration 104 = .ok (.aload_n 0, 1) := by decide +kernel
theorem dX8_configuration_105 : decode cX8_configuration 105 = .ok (.getfield 70, 3) := by decide +kernel
theorem dX8_configuration_108 : decode cX8_configuration 108 = .ok (.iload_n 1, 1) := by decide +kernel
theorem dX8_configuration_109 : decode cX8_configuration 109 = .ok (.iaload, 1) := by decide +kernel
theorem dX8_configuration_110 : decode cX8_configuration 110 = .ok (.iastore, 1) := by decide +kernel
theorem dX8_configuration_111 : decode cX8_configuration 111 = .ok (.iinc 1 1, 3) := by decide +kernel
theorem dX8_configuration_114 : decode cX8_configuration 114 = .ok (.goto (-31), 3) := by decide +kernel
theorem dX8_configuration_117 : decode cX8_configuration 117 = .ok (.aload_n 0, 1) := by decide +kernel
theorem dX8_configuration_118 : decode cX8_configuration 118 = .ok (.dup, 1) := by decide +kernel
theorem dX8_configuration_119 : decode cX8_configuration 119 = .ok (.getfield 143, 3) := by decide +kernel
theorem dX8_configuration_122 : decode cX8_configuration 122 = .ok (.iconst 1, 1) := by decide +kernel
theorem dX8_configuration_123 : decode cX8_configuration 123 = .ok (.iadd, 1) := by decide +kernel
theorem dX8_configuration_124 : decode cX8_configuration 124 = .ok (.putfield 143, 3) := by decide +kernel
theorem dX8_configuration_127 : decode cX8_configuration 127 = .ok (.aload_n 0, 1) := by decide +kernel
theorem dX8_configuration_128 : decode cX8_configuration 128 = .ok (.getfield 143, 3) := by decide +kernel
theorem dX8_configuration_131 : decode cX8_configuration 131 = .ok (.iconst 1, 1) := by decide +kernel
theorem dX8_configuration_132 : decode cX8_configuration 132 = .ok (.isub, 1) := by decide +kernel
theorem dX8_configuration_133 : decode cX8_configuration 133 = .ok (.ireturn, 1) := by decide +kernel
theorem dX8_keep_0 : decode cX8_keep 0 = .ok (.aload_n 0, 1) := by decide +kernel
theorem dX8_keep_1 : decode cX8_keep 1 = .ok (.getfield 82, 3) := by decide +kernel
theorem dX8_keep_4 : decode cX8_keep 4 = .ok (.iload_n 1, 1) := by decide +kernel
theorem dX8_keep_5 : decode cX8_keep 5 = .ok (.aload_n 0, 1) := by decide +kernel
theorem dX8_keep_6 : decode cX8_keep 6 = .ok (.getfield 163, 3) := by decide +kernel
theorem dX8_keep_9 : decode cX8_keep 9 = .ok (.iastore, 1) := by decide +kernel
theorem dX8_keep_10 : decode cX8_keep 10 = .ok (.iconst 0, 1) := by decide +kernel
theorem dX8_keep_11 : decode cX8_keep 11 = .ok (.istore_n 2, 1) := by decide +kernel
theorem dX8_keep_12 : decode cX8_keep 12 = .ok (.iload_n 2, 1) := by decide +kernel
theorem dX8_keep_13 : decode cX8_keep 13 = .ok (.aload_n 0, 1) := by decide +kernel
theorem dX8_keep_14 : decode cX8_keep 14 = .ok (.getfield 163, 3) := by decide +kernel
theorem dX8_keep_17 : decode cX8_keep 17 = .ok (.if_icmp .ge 26, 3) := by decide +kernel
theorem dX8_keep_20 : decode cX8_keep 20 = .ok (.aload_n 0, 1) := by decide +kernel
theorem dX8_keep_21 : decode cX8_keep 21 = .ok (.getfield 85, 3) := by decide +kernel
theorem dX8_keep_24 : decode cX8_keep 24 = .ok (.bipush 40, 2) := by decide +kernel
theorem dX8_keep_26 : decode cX8_keep 26 = .ok (.iload_n 1, 1) := by decide +kernel
theorem dX8_keep_27 : decode cX8_keep 27 = .ok (.imul, 1) := by decide +kernel
theorem dX8_keep_28 : decode cX8_keep 28 = .ok (.iload_n 2, 1) := by decide +kernel
theorem dX8_keep_29 : decode cX8_keep 29 = .ok (.iadd, 1) := by decide +kernel
theorem dX8_keep_30 : decode cX8_keep 30 = .ok (.aload_n 0, 1) := by decide +kernel
theorem dX8_keep_31 : decode cX8_keep 31 = .ok (.getfield 73, 3) := by decide +kernel
theorem dX8_keep_34 : decode cX8_keep 34 = .ok (.iload_n 2, 1) := by decide +kernel
theorem dX8_keep_35 : decode cX8_keep 35 = .ok (.caload, 1) := by decide +kernel
theorem dX8_keep_36 : decode cX8_keep 36 = .ok (.castore, 1) := by decide +kernel
theorem dX8_keep_37 : decode cX8_keep 37 = .ok (.iinc 2 1, 3) := by decide +kernel
theorem dX8_keep_40 : decode cX8_keep 40 = .ok (.goto (-28), 3) := by decide +kernel
theorem dX8_keep_43 : decode cX8_keep 43 = .ok (.return_, 1) := by decide +kernel
set_option maxRecDepth 20000 in
theorem ggX8_offered_X8_offer : GoodIn wsX8_offered wsX8_offer := goodIn_r _ [9, 10, 11, 12, 13, 14, 15, 16, 8, 17, 18, 2, 1, 19, 20, 21, 22, 23, 24, 25, 26, 27, 28, 29, 30, 31, 32, 33, 34, 35, 36, 37, 38, 39, 40, 41, 42, 43, 44, 45, 46, 47, 48, 49, 50, 51, 52, 53, 54, 55, 56, 57, 58, 59, 60, 4, 61, 62, 63, 64, 65, 66, 67, 68, 69, 70, 71, 72, 73, 74, 75, 76, 77, 78, 79, 80, 81, 82, 83, 84, 85, 86, 87, 88, 89, 90, 91, 92, 93, 94, 95, 96, 97, 98, 99, 100, 101, 102, 103, 104, 105, 106, 107, 108, 109, 110, 111, 112] (by decide +kernel) (by decide +kernel)
set_option maxRecDepth 20000 in
theorem gX8_offered_X8_offer : GoodIn wsX8_offered (wsV RX8 199 RX8 yX8_offer wsX8_offer) := goodIn_app (goodIn_of _ (by decide +kernel)) ggX8_offered_X8_offer
theorem dX8_offered_0 : decode cX8_offered 0 = .ok (.iconst 0, 1) := by decide +kernel
theorem dX8_offered_1 : decode cX8_offered 1 = .ok (.istore_n 3, 1) := by decide +kernel
theorem dX8_offered_2 : decode cX8_offered 2 = .ok (.iload_n 3, 1) := by decide +kernel
theorem dX8_offered_3 : decode cX8_offered 3 = .ok (.aload_n 0, 1) := by decide +kernel
theorem dX8_offered_4 : decode cX8_offered 4 = .ok (.getfield 20, 3) := by decide +kernel
theorem dX8_offered_7 : decode cX8_offered 7 = .ok (.if_icmp .ge 26, 3) := by decide +kernel
theorem dX8_offered_10 : decode cX8_offered 10 = .ok (.aload_n 0, 1) := by decide +kernel
theorem dX8_offered_11 : decode cX8_offered 11 = .ok (.getfield 70, 3) := by decide +kernel
theorem dX8_offered_14 : decode cX8_offered 14 = .ok (.iload_n 3, 1) := by decide +kernel
theorem dX8_offered_15 : decode cX8_offered 15 = .ok (.aload_n 0, 1) := by decide +kernel
theorem dX8_offered_16 : decode cX8_offered 16 = .ok (.getfield 76, 3) := by decide +kernel
theorem dX8_offered_19 : decode cX8_offered 19 = .ok (.bipush 14, 2) := by decide +kernel
theorem dX8_offered_21 : decode cX8_offered 21 = .ok (.iload_n 1, 1) := by decide +kernel
theorem dX8_offered_22 : decode cX8_offered 22 = .ok (.imul, 1) := by decide +kernel
theorem dX8_offered_23 : decode cX8_offered 23 = .ok (.iload_n 3, 1) := by decide +kernel
theorem dX8_offered_24 : decode cX8_offered 24 = .ok (.iadd, 1) := by decide +kernel
theorem dX8_offered_25 : decode cX8_offered 25 = .ok (.iaload, 1) := by decide +kernel
theorem dX8_offered_26 : decode cX8_offered 26 = .ok (.iastore, 1) := by decide +kernel
theorem dX8_offered_27 : decode cX8_offered 27 = .ok (.iinc 3 1, 3) := by decide +kernel
theorem dX8_offered_30 : decode cX8_offered 30 = .ok (.goto (-28), 3) := by decide +kernel
theorem dX8_offered_33 : decode cX8_offered 33 = .ok (.aload_n 0, 1) := by decide +kernel
theorem dX8_offered_34 : decode cX8_offered 34 = .ok (.iconst 0, 1) := by decide +kernel
theorem dX8_offered_35 : decode cX8_offered 35 = .ok (.putfield 163, 3) := by decide +kernel
theorem dX8_offered_38 : decode cX8_offered 38 = .ok (.aload_n 0, 1) := by decide +kernel
theorem dX8_offered_39 : decode cX8_offered 39 = .ok (.iload_n 2, 1) := by decide +kernel
theorem dX8_offered_40 : decode cX8_offered 40 = .ok (.invokevirtual 199, 3) := by decide +kernel
theorem dX8_offered_43 : decode cX8_offered 43 = .ok (.return_, 1) := by decide +kernel
set_option maxRecDepth 20000 in
theorem ggX8_compile_X8_firstOf : GoodIn wsX8_compile wsX8_firstOf := goodIn_r _ [15, 16, 17, 18, 19, 14, 20, 4, 21, 98, 99, 100, 101, 102, 103, 104, 105, 106, 107, 108, 109, 110, 111, 112, 113, 114, 115, 116, 117, 118, 119, 120, 121, 122, 123, 124, 125, 126, 127, 128, 129, 130, 131, 132, 133, 134, 135, 136] (by decide +kernel) (by decide +kernel)
set_option maxRecDepth 20000 in
theorem gX8_compile_X8_firstOf : GoodIn wsX8_compile (wsV RX8 172 RX8 yX8_firstOf wsX8_firstOf) := goodIn_app (goodIn_of _ (by decide +kernel)) ggX8_compile_X8_firstOf
set_option maxRecDepth 20000 in
theorem ggX8_compile_X8_enter : GoodIn wsX8_compile wsX8_enter := goodIn_r _ [25, 26, 4, 21, 16, 5, 27, 28, 29, 14, 30, 31, 32, 33, 34, 35, 36, 3, 37, 38, 39, 40, 41, 98, 99, 100, 101, 102, 103, 104, 105, 106, 107, 108, 109, 110, 111, 112, 113, 114, 115, 116, 117, 118, 119, 120, 121, 122, 123, 124, 125, 126, 127, 128, 129, 130, 131, 132, 133, 134, 135, 136] (by decide +kernel) (by decide +kernel)
set_option maxRecDepth 20000 in
theorem gX8_compile_X8_enter : GoodIn wsX8_compile (wsV RX8 188 RX8 yX8_enter wsX8_enter) := goodIn_app (goodIn_of _ (by decide +kernel)) ggX8_compile_X8_enter
set_option maxRecDepth 20000 in
theorem ggX8_compile_X8_keep : GoodIn wsX8_compile wsX8_keep := goodIn_r _ [45, 9, 3, 46, 37, 98, 99, 100, 101, 102, 103, 104, 105, 106, 107, 108, 109, 110, 111, 112, 113, 114, 115, 116, 117, 118, 119, 120, 121, 122, 123, 124, 125, 126, 127, 128, 129, 130, 131, 132, 133, 134, 135, 136] (by decide +kernel) (by decide +kernel)
set_option maxRecDepth 20000 in
theorem gX8_compile_X8_keep : GoodIn wsX8_compile (wsV RX8 202 RX8 yX8_keep wsX8_keep) := goodIn_app (goodIn_of _ (by decide +kernel)) ggX8_compile_X8_keep
set_option maxRecDepth 20000 in
theorem ggX8_compile_X8_configuration : GoodIn wsX8_compile wsX8_configuration := goodIn_r _ [50, 2, 4, 51, 5, 98, 99, 100, 101, 102, 103, 104, 105, 106, 107, 108, 109, 110, 111, 112, 113, 114, 115, 116, 117, 118, 119, 120, 121, 122, 123, 124, 125, 126, 127, 128, 129, 130, 131, 132, 133, 134, 135, 136] (by decide +kernel) (by decide +kernel)
set_option maxRecDepth 20000 in
theorem gX8_compile_X8_configuration : GoodIn wsX8_compile (wsV RX8 205 RX8 yX8_configuration wsX8_configuration) := goodIn_app (goodIn_of _ (by decide +kernel)) ggX8_compile_X8_configuration
set_option maxRecDepth 20000 in
theorem ggX8_compile_X8_offered : GoodIn wsX8_compile wsX8_offered := goodIn_r _ [55, 4, 5, 51, 3, 56, 57, 58, 14, 59, 60, 61, 62, 63, 64, 65, 66, 67, 16, 21, 68, 69, 70, 71, 72, 73, 74, 75, 76, 77, 78, 79, 80, 81, 82, 83, 84, 85, 86, 87, 38, 39, 40, 41, 88, 89, 90, 91, 26, 92, 93, 27, 28, 29, 30, 31, 32, 33, 34, 35, 36, 37, 11, 12, 13, 15, 17, 18, 19, 20, 22, 23, 24, 25, 98, 99, 100, 101, 102, 103, 104, 105, 106, 107, 108, 109, 110, 111, 112, 113, 114, 115, 116, 117, 118, 119, 120, 121, 122, 123, 124, 125, 126, 127, 128, 129, 130, 131, 132, 133, 134, 135, 136] (by decide +kernel) (by decide +kernel)
set_option maxRecDepth 20000 in
theorem gX8_compile_X8_offered : GoodIn wsX8_compile (wsV RX8 208 RX8 yX8_offered wsX8_offered) := goodIn_app (goodIn_of _ (by decide +kernel)) ggX8_compile_X8_offered
set_option maxRecDepth 20000 in
theorem ggX8_compile_X8_fails : GoodIn wsX8_compile wsX8_fails := goodIn_r _ [97, 1, 98, 99, 100, 101, 102, 103, 104, 105, 106, 107, 108, 109, 110, 111, 112, 113, 114, 115, 116, 117, 118, 119, 120, 121, 122, 123, 124, 125, 126, 127, 128, 129, 130, 131, 132, 133, 134, 135, 136] (by decide +kernel) (by decide +kernel)
set_option maxRecDepth 20000 in
theorem gX8_compile_X8_fails : GoodIn wsX8_compile (wsV RX8 140 RX8 yX8_fails wsX8_fails) := goodIn_app (goodIn_of _ (by decide +kernel)) ggX8_compile_X8_fails
theorem dX8_compile_0 : decode cX8_compile 0 = .ok (.aload_n 0, 1) := by decide +kernel
theorem dX8_compile_1 : decode cX8_compile 1 = .ok (.iconst 0, 1) := by decide +kernel
theorem dX8_compile_2 : decode cX8_compile 2 = .ok (.putfield 103, 3) := by decide +kernel
theorem dX8_compile_5 : decode cX8_compile 5 = .ok (.aload_n 0, 1) := by decide +kernel
theorem dX8_compile_6 : decode cX8_compile 6 = .ok (.iconst 0, 1) := by decide +kernel
theorem dX8_compile_7 : decode cX8_compile 7 = .ok (.putfield 143, 3) := by decide +kernel
theorem dX8_compile_10 : decode cX8_compile 10 = .ok (.aload_n 0, 1) := by decide +kernel
theorem dX8_compile_11 : decode cX8_compile 11 = .ok (.iconst 0, 1) := by decide +kernel
theorem dX8_compile_12 : decode cX8_compile 12 = .ok (.putfield 163, 3) := by decide +kernel
theorem dX8_compile_15 : decode cX8_compile 15 = .ok (.iconst 0, 1) := by decide +kernel
theorem dX8_compile_16 : decode cX8_compile 16 = .ok (.istore_n 1, 1) := by decide +kernel
theorem dX8_compile_17 : decode cX8_compile 17 = .ok (.iload_n 1, 1) := by decide +kernel
theorem dX8_compile_18 : decode cX8_compile 18 = .ok (.aload_n 0, 1) := by decide +kernel
theorem dX8_compile_19 : decode cX8_compile 19 = .ok (.getfield 20, 3) := by decide +kernel
theorem dX8_compile_22 : decode cX8_compile 22 = .ok (.if_icmp .ge 20, 3) := by decide +kernel
theorem dX8_compile_25 : decode cX8_compile 25 = .ok (.aload_n 0, 1) := by decide +kernel
theorem dX8_compile_26 : decode cX8_compile 26 = .ok (.getfield 70, 3) := by decide +kernel
theorem dX8_compile_29 : decode cX8_compile 29 = .ok (.iload_n 1, 1) := by decide +kernel
theorem dX8_compile_30 : decode cX8_compile 30 = .ok (.aload_n 0, 1) := by decide +kernel
theorem dX8_compile_31 : decode cX8_compile 31 = .ok (.iload_n 1, 1) := by decide +kernel
theorem dX8_compile_32 : decode cX8_compile 32 = .ok (.invokevirtual 172, 3) := by decide +kernel
theorem dX8_compile_35 : decode cX8_compile 35 = .ok (.iastore, 1) := by decide +kernel
theorem dX8_compile_36 : decode cX8_compile 36 = .ok (.iinc 1 1, 3) := by decide +kernel
theorem dX8_compile_39 : decode cX8_compile 39 = .ok (.goto (-22), 3) := by decide +kernel
theorem dX8_compile_42 : decode cX8_compile 42 = .ok (.aload_n 0, 1) := by decide +kernel
theorem dX8_compile_43 : decode cX8_compile 43 = .ok (.iconst 0, 1) := by decide +kernel
theorem dX8_compile_44 : decode cX8_compile 44 = .ok (.iconst (-1), 1) := by decide +kernel
theorem dX8_compile_45 : decode cX8_compile 45 = .ok (.invokevirtual 188, 3) := by decide +kernel
theorem dX8_compile_48 : decode cX8_compile 48 = .ok (.aload_n 0, 1) := by decide +kernel
theorem dX8_compile_49 : decode cX8_compile 49 = .ok (.sipush 180, 3) := by decide +kernel
theorem dX8_compile_52 : decode cX8_compile 52 = .ok (.invokevirtual 202, 3) := by decide +kernel
theorem dX8_compile_55 : decode cX8_compile 55 = .ok (.aload_n 0, 1) := by decide +kernel
theorem dX8_compile_56 : decode cX8_compile 56 = .ok (.invokevirtual 205, 3) := by decide +kernel
theorem dX8_compile_59 : decode cX8_compile 59 = .ok (.istore_n 1, 1) := by decide +kernel
theorem dX8_compile_60 : decode cX8_compile 60 = .ok (.iconst 0, 1) := by decide +kernel
theorem dX8_compile_61 : decode cX8_compile 61 = .ok (.istore_n 2, 1) := by decide +kernel
theorem dX8_compile_62 : decode cX8_compile 62 = .ok (.iload_n 2, 1) := by decide +kernel
theorem dX8_compile_63 : decode cX8_compile 63 = .ok (.aload_n 0, 1) := by decide +kernel
theorem dX8_compile_64 : decode cX8_compile 64 = .ok (.getfield 143, 3) := by decide +kernel
theorem dX8_compile_67 : decode cX8_compile 67 = .ok (.if_icmp .ge 66, 3) := by decide +kernel
theorem dX8_compile_70 : decode cX8_compile 70 = .ok (.iload_n 1, 1) := by decide +kernel
theorem dX8_compile_71 : decode cX8_compile 71 = .ok (.ifCond .lt 62, 3) := by decide +kernel
theorem dX8_compile_74 : decode cX8_compile 74 = .ok (.iconst 0, 1) := by decide +kernel
theorem dX8_compile_75 : decode cX8_compile 75 = .ok (.istore_n 3, 1) := by decide +kernel
theorem dX8_compile_76 : decode cX8_compile 76 = .ok (.iload_n 3, 1) := by decide +kernel
theorem dX8_compile_77 : decode cX8_compile 77 = .ok (.aload_n 0, 1) := by decide +kernel
theorem dX8_compile_78 : decode cX8_compile 78 = .ok (.getfield 120, 3) := by decide +kernel
theorem dX8_compile_81 : decode cX8_compile 81 = .ok (.if_icmp .ge 46, 3) := by decide +kernel
theorem dX8_compile_84 : decode cX8_compile 84 = .ok (.iload_n 1, 1) := by decide +kernel
theorem dX8_compile_85 : decode cX8_compile 85 = .ok (.ifCond .lt 42, 3) := by decide +kernel
theorem dX8_compile_88 : decode cX8_compile 88 = .ok (.aload_n 0, 1) := by decide +kernel
theorem dX8_compile_89 : decode cX8_compile 89 = .ok (.iload_n 2, 1) := by decide +kernel
theorem dX8_compile_90 : decode cX8_compile 90 = .ok (.iload_n 3, 1) := by decide +kernel
theorem dX8_compile_91 : decode cX8_compile 91 = .ok (.invokevirtual 208, 3) := by decide +kernel
theorem dX8_compile_94 : decode cX8_compile 94 = .ok (.aload_n 0, 1) := by decide +kernel
theorem dX8_compile_95 : decode cX8_compile 95 = .ok (.bipush 6, 2) := by decide +kernel
theorem dX8_compile_97 : decode cX8_compile 97 = .ok (.iload_n 2, 1) := by decide +kernel
theorem dX8_compile_98 : decode cX8_compile 98 = .ok (.imul, 1) := by decide +kernel
theorem dX8_compile_99 : decode cX8_compile 99 = .ok (.iload_n 3, 1) := by decide +kernel
theorem dX8_compile_100 : decode cX8_compile 100 = .ok (.iadd, 1) := by decide +kernel
theorem dX8_compile_101 : decode cX8_compile 101 = .ok (.invokevirtual 202, 3) := by decide +kernel
theorem dX8_compile_104 : decode cX8_compile 104 = .ok (.aload_n 0, 1) := by decide +kernel
theorem dX8_compile_105 : decode cX8_compile 105 = .ok (.invokevirtual 205, 3) := by decide +kernel
theorem dX8_compile_108 : decode cX8_compile 108 = .ok (.istore_n 1, 1) := by decide +kernel
theorem dX8_compile_109 : decode cX8_compile 109 = .ok (.aload_n 0, 1) := by decide +kernel
theorem dX8_compile_110 : decode cX8_compile 110 = .ok (.getfield 79, 3) := by decide +kernel
theorem dX8_compile_113 : decode cX8_compile 113 = .ok (.bipush 6, 2) := by decide +kernel
theorem dX8_compile_115 : decode cX8_compile 115 = .ok (.iload_n 2, 1) := by decide +kernel
theorem dX8_compile_116 : decode cX8_compile 116 = .ok (.imul, 1) := by decide +kernel
theorem dX8_compile_117 : decode cX8_compile 117 = .ok (.iload_n 3, 1) := by decide +kernel
theorem dX8_compile_118 : decode cX8_compile 118 = .ok (.iadd, 1) := by decide +kernel
theorem dX8_compile_119 : decode cX8_compile 119 = .ok (.iload_n 1, 1) := by decide +kernel
theorem dX8_compile_120 : decode cX8_compile 120 = .ok (.iastore, 1) := by decide +kernel
theorem dX8_compile_121 : decode cX8_compile 121 = .ok (.iinc 3 1, 3) := by decide +kernel
theorem dX8_compile_124 : decode cX8_compile 124 = .ok (.goto (-48), 3) := by decide +kernel
theorem dX8_compile_127 : decode cX8_compile 127 = .ok (.iinc 2 1, 3) := by decide +kernel
theorem dX8_compile_130 : decode cX8_compile 130 = .ok (.goto (-68), 3) := by decide +kernel
theorem dX8_compile_133 : decode cX8_compile 133 = .ok (.aload_n 0, 1) := by decide +kernel
theorem dX8_compile_134 : decode cX8_compile 134 = .ok (.iload_n 1, 1) := by decide +kernel
theorem dX8_compile_135 : decode cX8_compile 135 = .ok (.ifCond .ge 7, 3) := by decide +kernel
theorem dX8_compile_138 : decode cX8_compile 138 = .ok (.iconst 0, 1) := by decide +kernel
theorem dX8_compile_139 : decode cX8_compile 139 = .ok (.goto 7, 3) := by decide +kernel
theorem dX8_compile_142 : decode cX8_compile 142 = .ok (.aload_n 0, 1) := by decide +kernel
theorem dX8_compile_143 : decode cX8_compile 143 = .ok (.getfield 143, 3) := by decide +kernel
theorem dX8_compile_146 : decode cX8_compile 146 = .ok (.putfield 143, 3) := by decide +kernel
theorem dX8_compile_149 : decode cX8_compile 149 = .ok (.aload_n 0, 1) := by decide +kernel
theorem dX8_compile_150 : decode cX8_compile 150 = .ok (.iconst 0, 1) := by decide +kernel
theorem dX8_compile_151 : decode cX8_compile 151 = .ok (.putfield 211, 3) := by decide +kernel
theorem dX8_compile_154 : decode cX8_compile 154 = .ok (.aload_n 0, 1) := by decide +kernel
theorem dX8_compile_155 : decode cX8_compile 155 = .ok (.aload_n 0, 1) := by decide +kernel
theorem dX8_compile_156 : decode cX8_compile 156 = .ok (.getfield 82, 3) := by decide +kernel
theorem dX8_compile_159 : decode cX8_compile 159 = .ok (.sipush 180, 3) := by decide +kernel
theorem dX8_compile_162 : decode cX8_compile 162 = .ok (.iaload, 1) := by decide +kernel
theorem dX8_compile_163 : decode cX8_compile 163 = .ok (.putfield 214, 3) := by decide +kernel
theorem dX8_compile_166 : decode cX8_compile 166 = .ok (.aload_n 0, 1) := by decide +kernel
theorem dX8_compile_167 : decode cX8_compile 167 = .ok (.getfield 143, 3) := by decide +kernel
theorem dX8_compile_170 : decode cX8_compile 170 = .ok (.ifCond .le 10, 3) := by decide +kernel
theorem dX8_compile_173 : decode cX8_compile 173 = .ok (.aload_n 0, 1) := by decide +kernel
theorem dX8_compile_174 : decode cX8_compile 174 = .ok (.getfield 143, 3) := by decide +kernel
theorem dX8_compile_177 : decode cX8_compile 177 = .ok (.goto 8, 3) := by decide +kernel
theorem dX8_compile_180 : decode cX8_compile 180 = .ok (.aload_n 0, 1) := by decide +kernel
theorem dX8_compile_181 : decode cX8_compile 181 = .ok (.iconst 1, 1) := by decide +kernel
theorem dX8_compile_182 : decode cX8_compile 182 = .ok (.invokevirtual 140, 3) := by decide +kernel
theorem dX8_compile_185 : decode cX8_compile 185 = .ok (.ireturn, 1) := by decide +kernel
theorem dX8_configurations_0 : decode cX8_configurations 0 = .ok (.aload_n 0, 1) := by decide +kernel
theorem dX8_configurations_1 : decode cX8_configurations 1 = .ok (.iconst 0, 1) := by decide +kernel
theorem dX8_configurations_2 : decode cX8_configurations 2 = .ok (.putfield 103, 3) := by decide +kernel
theorem dX8_configurations_5 : decode cX8_configurations 5 = .ok (.aload_n 0, 1) := by decide +kernel
theorem dX8_configurations_6 : decode cX8_configurations 6 = .ok (.getfield 143, 3) := by decide +kernel
theorem dX8_configurations_9 : decode cX8_configurations 9 = .ok (.ireturn, 1) := by decide +kernel
theorem dX8_count_0 : decode cX8_count 0 = .ok (.aload_n 0, 1) := by decide +kernel
theorem dX8_count_1 : decode cX8_count 1 = .ok (.iconst 0, 1) := by decide +kernel
theorem dX8_count_2 : decode cX8_count 2 = .ok (.putfield 103, 3) := by decide +kernel
theorem dX8_count_5 : decode cX8_count 5 = .ok (.iload_n 1, 1) := by decide +kernel
theorem dX8_count_6 : decode cX8_count 6 = .ok (.iconst 3, 1) := by decide +kernel
theorem dX8_count_7 : decode cX8_count 7 = .ok (.if_icmp .ne 19, 3) := by decide +kernel
theorem dX8_count_10 : decode cX8_count 10 = .ok (.aload_n 0, 1) := by decide +kernel
theorem dX8_count_11 : decode cX8_count 11 = .ok (.getfield 143, 3) := by decide +kernel
theorem dX8_count_14 : decode cX8_count 14 = .ok (.ifCond .le 10, 3) := by decide +kernel
theorem dX8_count_17 : decode cX8_count 17 = .ok (.aload_n 0, 1) := by decide +kernel
theorem dX8_count_18 : decode cX8_count 18 = .ok (.getfield 211, 3) := by decide +kernel
theorem dX8_count_21 : decode cX8_count 21 = .ok (.goto 4, 3) := by decide +kernel
theorem dX8_count_24 : decode cX8_count 24 = .ok (.iconst (-1), 1) := by decide +kernel
theorem dX8_count_25 : decode cX8_count 25 = .ok (.ireturn, 1) := by decide +kernel
theorem dX8_count_26 : decode cX8_count 26 = .ok (.iload_n 1, 1) := by decide +kernel
theorem dX8_count_27 : decode cX8_count 27 = .ok (.ifCond .ne 10, 3) := by decide +kernel
theorem dX8_count_30 : decode cX8_count 30 = .ok (.aload_n 0, 1) := by decide +kernel
theorem dX8_count_31 : decode cX8_count 31 = .ok (.getfield 20, 3) := by decide +kernel
theorem dX8_count_34 : decode cX8_count 34 = .ok (.goto 28, 3) := by decide +kernel
theorem dX8_count_37 : decode cX8_count 37 = .ok (.iload_n 1, 1) := by decide +kernel
theorem dX8_count_38 : decode cX8_count 38 = .ok (.iconst 1, 1) := by decide +kernel
theorem dX8_count_39 : decode cX8_count 39 = .ok (.if_icmp .ne 10, 3) := by decide +kernel
theorem dX8_count_42 : decode cX8_count 42 = .ok (.aload_n 0, 1) := by decide +kernel
theorem dX8_count_43 : decode cX8_count 43 = .ok (.getfield 156, 3) := by decide +kernel
theorem dX8_count_46 : decode cX8_count 46 = .ok (.goto 16, 3) := by decide +kernel
theorem dX8_count_49 : decode cX8_count 49 = .ok (.iload_n 1, 1) := by decide +kernel
theorem dX8_count_50 : decode cX8_count 50 = .ok (.iconst 2, 1) := by decide +kernel
theorem dX8_count_51 : decode cX8_count 51 = .ok (.if_icmp .ne 10, 3) := by decide +kernel
theorem dX8_count_54 : decode cX8_count 54 = .ok (.aload_n 0, 1) := by decide +kernel
theorem dX8_count_55 : decode cX8_count 55 = .ok (.getfield 120, 3) := by decide +kernel
theorem dX8_count_58 : decode cX8_count 58 = .ok (.goto 4, 3) := by decide +kernel
theorem dX8_count_61 : decode cX8_count 61 = .ok (.iconst (-1), 1) := by decide +kernel
theorem dX8_count_62 : decode cX8_count 62 = .ok (.ireturn, 1) := by decide +kernel
theorem dX8_isIn_0 : decode cX8_isIn 0 = .ok (.iload_n 1, 1) := by decide +kernel
theorem dX8_isIn_1 : decode cX8_isIn 1 = .ok (.ifCond .lt 27, 3) := by decide +kernel
theorem dX8_isIn_4 : decode cX8_isIn 4 = .ok (.iload_n 1, 1) := by decide +kernel
theorem dX8_isIn_5 : decode cX8_isIn 5 = .ok (.aload_n 0, 1) := by decide +kernel
theorem dX8_isIn_6 : decode cX8_isIn 6 = .ok (.getfield 143, 3) := by decide +kernel
theorem dX8_isIn_9 : decode cX8_isIn 9 = .ok (.if_icmp .ge 19, 3) := by decide +kernel
theorem dX8_isIn_12 : decode cX8_isIn 12 = .ok (.iload_n 2, 1) := by decide +kernel
theorem dX8_isIn_13 : decode cX8_isIn 13 = .ok (.ifCond .lt 15, 3) := by decide +kernel
theorem dX8_isIn_16 : decode cX8_isIn 16 = .ok (.iload_n 2, 1) := by decide +kernel
theorem dX8_isIn_17 : decode cX8_isIn 17 = .ok (.aload_n 0, 1) := by decide +kernel
theorem dX8_isIn_18 : decode cX8_isIn 18 = .ok (.getfield 120, 3) := by decide +kernel
theorem dX8_isIn_21 : decode cX8_isIn 21 = .ok (.if_icmp .ge 7, 3) := by decide +kernel
theorem dX8_isIn_24 : decode cX8_isIn 24 = .ok (.iconst 1, 1) := by decide +kernel
theorem dX8_isIn_25 : decode cX8_isIn 25 = .ok (.goto 4, 3) := by decide +kernel
theorem dX8_isIn_28 : decode cX8_isIn 28 = .ok (.iconst 0, 1) := by decide +kernel
theorem dX8_isIn_29 : decode cX8_isIn 29 = .ok (.ireturn, 1) := by decide +kernel
set_option maxRecDepth 20000 in
theorem ggX8_next_X8_isIn : GoodIn wsX8_next wsX8_isIn := goodIn_r _ [7, 8, 9, 14, 15, 16, 17, 18, 19, 20, 21, 22, 23, 24, 25, 26, 27, 28, 29, 30, 31, 32, 33, 34, 35, 36, 37, 38, 39, 40, 41, 42, 43, 44, 45, 46, 47, 48, 49, 50, 51, 52] (by decide +kernel) (by decide +kernel)
set_option maxRecDepth 20000 in
theorem gX8_next_X8_isIn : GoodIn wsX8_next (wsV RX8 217 RX8 yX8_isIn wsX8_isIn) := goodIn_app (goodIn_of _ (by decide +kernel)) ggX8_next_X8_isIn
set_option maxRecDepth 20000 in
theorem ggX8_next_X8_fails : GoodIn wsX8_next wsX8_fails := goodIn_r _ [13, 1, 14, 15, 16, 17, 18, 19, 20, 21, 22, 23, 24, 25, 26, 27, 28, 29, 30, 31, 32, 33, 34, 35, 36, 37, 38, 39, 40, 41, 42, 43, 44, 45, 46, 47, 48, 49, 50, 51, 52] (by decide +kernel) (by decide +kernel)
set_option maxRecDepth 20000 in
theorem gX8_next_X8_fails : GoodIn wsX8_next (wsV RX8 140 RX8 yX8_fails wsX8_fails) := goodIn_app (goodIn_of _ (by decide +kernel)) ggX8_next_X8_fails
theorem dX8_next_0 : decode cX8_next 0 = .ok (.aload_n 0, 1) := by decide +kernel
theorem dX8_next_1 : decode cX8_next 1 = .ok (.iconst 0, 1) := by decide +kernel
theorem dX8_next_2 : decode cX8_next 2 = .ok (.putfield 103, 3) := by decide +kernel
theorem dX8_next_5 : decode cX8_next 5 = .ok (.aload_n 0, 1) := by decide +kernel
theorem dX8_next_6 : decode cX8_next 6 = .ok (.iload_n 1, 1) := by decide +kernel
theorem dX8_next_7 : decode cX8_next 7 = .ok (.iload_n 2, 1) := by decide +kernel
theorem dX8_next_8 : decode cX8_next 8 = .ok (.invokevirtual 217, 3) := by decide +kernel
theorem dX8_next_11 : decode cX8_next 11 = .ok (.ifCond .eq 17, 3) := by decide +kernel
theorem dX8_next_14 : decode cX8_next 14 = .ok (.aload_n 0, 1) := by decide +kernel
theorem dX8_next_15 : decode cX8_next 15 = .ok (.getfield 79, 3) := by decide +kernel
theorem dX8_next_18 : decode cX8_next 18 = .ok (.bipush 6, 2) := by decide +kernel
theorem dX8_next_20 : decode cX8_next 20 = .ok (.iload_n 1, 1) := by decide +kernel
theorem dX8_next_21 : decode cX8_next 21 = .ok (.imul, 1) := by decide +kernel
theorem dX8_next_22 : decode cX8_next 22 = .ok (.iload_n 2, 1) := by decide +kernel
theorem dX8_next_23 : decode cX8_next 23 = .ok (.iadd, 1) := by decide +kernel
theorem dX8_next_24 : decode cX8_next 24 = .ok (.iaload, 1) := by decide +kernel
theorem dX8_next_25 : decode cX8_next 25 = .ok (.goto 8, 3) := by decide +kernel
theorem dX8_next_28 : decode cX8_next 28 = .ok (.aload_n 0, 1) := by decide +kernel
theorem dX8_next_29 : decode cX8_next 29 = .ok (.iconst 1, 1) := by decide +kernel
theorem dX8_next_30 : decode cX8_next 30 = .ok (.invokevirtual 140, 3) := by decide +kernel
theorem dX8_next_33 : decode cX8_next 33 = .ok (.ireturn, 1) := by decide +kernel
set_option maxRecDepth 20000 in
theorem ggX8_trace_X8_isIn : GoodIn wsX8_trace wsX8_isIn := goodIn_r _ [9, 2, 10, 11, 12, 13, 14, 15, 16, 17, 18, 19, 20, 21, 22, 23, 24, 25, 26, 27, 28, 29, 30, 31, 32, 33, 34, 35, 36, 37, 38, 39, 40, 41, 42, 43, 44, 45, 46, 47, 48, 49] (by decide +kernel) (by decide +kernel)
set_option maxRecDepth 20000 in
theorem gX8_trace_X8_isIn : GoodIn wsX8_trace (wsV RX8 217 RX8 yX8_isIn wsX8_isIn) := goodIn_app (goodIn_of _ (by decide +kernel)) ggX8_trace_X8_isIn
theorem dX8_trace_0 : decode cX8_trace 0 = .ok (.aload_n 0, 1) := by decide +kernel
theorem dX8_trace_1 : decode cX8_trace 1 = .ok (.iconst 0, 1) := by decide +kernel
theorem dX8_trace_2 : decode cX8_trace 2 = .ok (.putfield 103, 3) := by decide +kernel
theorem dX8_trace_5 : decode cX8_trace 5 = .ok (.aload_n 0, 1) := by decide +kernel
theorem dX8_trace_6 : decode cX8_trace 6 = .ok (.getfield 143, 3) := by decide +kernel
theorem dX8_trace_9 : decode cX8_trace 9 = .ok (.ifCond .le 16, 3) := by decide +kernel
theorem dX8_trace_12 : decode cX8_trace 12 = .ok (.iload_n 1, 1) := by decide +kernel
theorem dX8_trace_13 : decode cX8_trace 13 = .ok (.ifCond .ne 12, 3) := by decide +kernel
theorem dX8_trace_16 : decode cX8_trace 16 = .ok (.iload_n 2, 1) := by decide +kernel
theorem dX8_trace_17 : decode cX8_trace 17 = .ok (.iconst (-1), 1) := by decide +kernel
theorem dX8_trace_18 : decode cX8_trace 18 = .ok (.if_icmp .ne 7, 3) := by decide +kernel
theorem dX8_trace_21 : decode cX8_trace 21 = .ok (.iconst 1, 1) := by decide +kernel
theorem dX8_trace_22 : decode cX8_trace 22 = .ok (.goto 4, 3) := by decide +kernel
theorem dX8_trace_25 : decode cX8_trace 25 = .ok (.iconst 0, 1) := by decide +kernel
theorem dX8_trace_26 : decode cX8_trace 26 = .ok (.istore 4, 2) := by decide +kernel
theorem dX8_trace_28 : decode cX8_trace 28 = .ok (.iload 4, 2) := by decide +kernel
theorem dX8_trace_30 : decode cX8_trace 30 = .ok (.ifCond .ne 14, 3) := by decide +kernel
theorem dX8_trace_33 : decode cX8_trace 33 = .ok (.aload_n 0, 1) := by decide +kernel
theorem dX8_trace_34 : decode cX8_trace 34 = .ok (.iload_n 1, 1) := by decide +kernel
theorem dX8_trace_35 : decode cX8_trace 35 = .ok (.iload_n 2, 1) := by decide +kernel
theorem dX8_trace_36 : decode cX8_trace 36 = .ok (.invokevirtual 217, 3) := by decide +kernel
theorem dX8_trace_39 : decode cX8_trace 39 = .ok (.ifCond .ne 5, 3) := by decide +kernel
theorem dX8_trace_42 : decode cX8_trace 42 = .ok (.iconst (-1), 1) := by decide +kernel
theorem dX8_trace_43 : decode cX8_trace 43 = .ok (.ireturn, 1) := by decide +kernel
theorem dX8_trace_44 : decode cX8_trace 44 = .ok (.iload 4, 2) := by decide +kernel
theorem dX8_trace_46 : decode cX8_trace 46 = .ok (.ifCond .eq 9, 3) := by decide +kernel
theorem dX8_trace_49 : decode cX8_trace 49 = .ok (.sipush 180, 3) := by decide +kernel
theorem dX8_trace_52 : decode cX8_trace 52 = .ok (.goto 9, 3) := by decide +kernel
theorem dX8_trace_55 : decode cX8_trace 55 = .ok (.bipush 6, 2) := by decide +kernel
theorem dX8_trace_57 : decode cX8_trace 57 = .ok (.iload_n 1, 1) := by decide +kernel
theorem dX8_trace_58 : decode cX8_trace 58 = .ok (.imul, 1) := by decide +kernel
theorem dX8_trace_59 : decode cX8_trace 59 = .ok (.iload_n 2, 1) := by decide +kernel
theorem dX8_trace_60 : decode cX8_trace 60 = .ok (.iadd, 1) := by decide +kernel
theorem dX8_trace_61 : decode cX8_trace 61 = .ok (.istore 5, 2) := by decide +kernel
theorem dX8_trace_63 : decode cX8_trace 63 = .ok (.iload_n 3, 1) := by decide +kernel
theorem dX8_trace_64 : decode cX8_trace 64 = .ok (.ifCond .lt 29, 3) := by decide +kernel
theorem dX8_trace_67 : decode cX8_trace 67 = .ok (.iload_n 3, 1) := by decide +kernel
theorem dX8_trace_68 : decode cX8_trace 68 = .ok (.aload_n 0, 1) := by decide +kernel
theorem dX8_trace_69 : decode cX8_trace 69 = .ok (.getfield 82, 3) := by decide +kernel
theorem dX8_trace_72 : decode cX8_trace 72 = .ok (.iload 5, 2) := by decide +kernel
theorem dX8_trace_74 : decode cX8_trace 74 = .ok (.iaload, 1) := by decide +kernel
theorem dX8_trace_75 : decode cX8_trace 75 = .ok (.if_icmp .ge 18, 3) := by decide +kernel
theorem dX8_trace_78 : decode cX8_trace 78 = .ok (.aload_n 0, 1) := by decide +kernel
theorem dX8_trace_79 : decode cX8_trace 79 = .ok (.getfield 85, 3) := by decide +kernel
theorem dX8_trace_82 : decode cX8_trace 82 = .ok (.bipush 40, 2) := by decide +kernel
theorem dX8_trace_84 : decode cX8_trace 84 = .ok (.iload 5, 2) := by decide +kernel
theorem dX8_trace_86 : decode cX8_trace 86 = .ok (.imul, 1) := by decide +kernel
theorem dX8_trace_87 : decode cX8_trace 87 = .ok (.iload_n 3, 1) := by decide +kernel
theorem dX8_trace_88 : decode cX8_trace 88 = .ok (.iadd, 1) := by decide +kernel
theorem dX8_trace_89 : decode cX8_trace 89 = .ok (.caload, 1) := by decide +kernel
theorem dX8_trace_90 : decode cX8_trace 90 = .ok (.goto 4, 3) := by decide +kernel
theorem dX8_trace_93 : decode cX8_trace 93 = .ok (.iconst (-1), 1) := by decide +kernel
theorem dX8_trace_94 : decode cX8_trace 94 = .ok (.ireturn, 1) := by decide +kernel
set_option maxRecDepth 20000 in
theorem ggX8_active_X8_isActive : GoodIn wsX8_active wsX8_isActive := goodIn_r _ [10, 11, 12, 4, 13, 14, 15, 16, 17, 18, 19, 20, 21, 22, 23, 24, 25, 26, 27, 28, 29, 30, 31, 32, 33, 34, 35, 36, 37, 38, 39, 40, 41, 42, 43, 44, 45, 46, 47, 48, 49, 50, 51] (by decide +kernel) (by decide +kernel)
set_option maxRecDepth 20000 in
theorem gX8_active_X8_isActive : GoodIn wsX8_active (wsV RX8 178 RX8 yX8_isActive wsX8_isActive) := goodIn_app (goodIn_of _ (by decide +kernel)) ggX8_active_X8_isActive
theorem dX8_active_0 : decode cX8_active 0 = .ok (.aload_n 0, 1) := by decide +kernel
theorem dX8_active_1 : decode cX8_active 1 = .ok (.iconst 0, 1) := by decide +kernel
theorem dX8_active_2 : decode cX8_active 2 = .ok (.putfield 103, 3) := by decide +kernel
theorem dX8_active_5 : decode cX8_active 5 = .ok (.iload_n 1, 1) := by decide +kernel
theorem dX8_active_6 : decode cX8_active 6 = .ok (.ifCond .lt 23, 3) := by decide +kernel
theorem dX8_active_9 : decode cX8_active 9 = .ok (.iload_n 1, 1) := by decide +kernel
theorem dX8_active_10 : decode cX8_active 10 = .ok (.aload_n 0, 1) := by decide +kernel
theorem dX8_active_11 : decode cX8_active 11 = .ok (.getfield 143, 3) := by decide +kernel
theorem dX8_active_14 : decode cX8_active 14 = .ok (.if_icmp .ge 15, 3) := by decide +kernel
theorem dX8_active_17 : decode cX8_active 17 = .ok (.iload_n 2, 1) := by decide +kernel
theorem dX8_active_18 : decode cX8_active 18 = .ok (.ifCond .lt 11, 3) := by decide +kernel
theorem dX8_active_21 : decode cX8_active 21 = .ok (.iload_n 2, 1) := by decide +kernel
theorem dX8_active_22 : decode cX8_active 22 = .ok (.aload_n 0, 1) := by decide +kernel
theorem dX8_active_23 : decode cX8_active 23 = .ok (.getfield 20, 3) := by decide +kernel
theorem dX8_active_26 : decode cX8_active 26 = .ok (.if_icmp .lt 5, 3) := by decide +kernel
theorem dX8_active_29 : decode cX8_active 29 = .ok (.iconst 0, 1) := by decide +kernel
theorem dX8_active_30 : decode cX8_active 30 = .ok (.ireturn, 1) := by decide +kernel
theorem dX8_active_31 : decode cX8_active 31 = .ok (.iconst 0, 1) := by decide +kernel
theorem dX8_active_32 : decode cX8_active 32 = .ok (.istore_n 3, 1) := by decide +kernel
theorem dX8_active_33 : decode cX8_active 33 = .ok (.iload_n 3, 1) := by decide +kernel
theorem dX8_active_34 : decode cX8_active 34 = .ok (.aload_n 0, 1) := by decide +kernel
theorem dX8_active_35 : decode cX8_active 35 = .ok (.getfield 20, 3) := by decide +kernel
theorem dX8_active_38 : decode cX8_active 38 = .ok (.if_icmp .ge 26, 3) := by decide +kernel
theorem dX8_active_41 : decode cX8_active 41 = .ok (.aload_n 0, 1) := by decide +kernel
theorem dX8_active_42 : decode cX8_active 42 = .ok (.getfield 70, 3) := by decide +kernel
theorem dX8_active_45 : decode cX8_active 45 = .ok (.iload_n 3, 1) := by decide +kernel
theorem dX8_active_46 : decode cX8_active 46 = .ok (.aload_n 0, 1) := by decide +kernel
theorem dX8_active_47 : decode cX8_active 47 = .ok (.getfield 76, 3) := by decide +kernel
theorem dX8_active_50 : decode cX8_active 50 = .ok (.bipush 14, 2) := by decide +kernel
theorem dX8_active_52 : decode cX8_active 52 = .ok (.iload_n 1, 1) := by decide +kernel
theorem dX8_active_53 : decode cX8_active 53 = .ok (.imul, 1) := by decide +kernel
theorem dX8_active_54 : decode cX8_active 54 = .ok (.iload_n 3, 1) := by decide +kernel
theorem dX8_active_55 : decode cX8_active 55 = .ok (.iadd, 1) := by decide +kernel
theorem dX8_active_56 : decode cX8_active 56 = .ok (.iaload, 1) := by decide +kernel
theorem dX8_active_57 : decode cX8_active 57 = .ok (.iastore, 1) := by decide +kernel
theorem dX8_active_58 : decode cX8_active 58 = .ok (.iinc 3 1, 3) := by decide +kernel
theorem dX8_active_61 : decode cX8_active 61 = .ok (.goto (-28), 3) := by decide +kernel
theorem dX8_active_64 : decode cX8_active 64 = .ok (.aload_n 0, 1) := by decide +kernel
theorem dX8_active_65 : decode cX8_active 65 = .ok (.iload_n 2, 1) := by decide +kernel
theorem dX8_active_66 : decode cX8_active 66 = .ok (.invokevirtual 178, 3) := by decide +kernel
theorem dX8_active_69 : decode cX8_active 69 = .ok (.ireturn, 1) := by decide +kernel
theorem dX8_current_0 : decode cX8_current 0 = .ok (.aload_n 0, 1) := by decide +kernel
theorem dX8_current_1 : decode cX8_current 1 = .ok (.iconst 0, 1) := by decide +kernel
theorem dX8_current_2 : decode cX8_current 2 = .ok (.putfield 103, 3) := by decide +kernel
theorem dX8_current_5 : decode cX8_current 5 = .ok (.iload_n 1, 1) := by decide +kernel
theorem dX8_current_6 : decode cX8_current 6 = .ok (.ifCond .lt 37, 3) := by decide +kernel
theorem dX8_current_9 : decode cX8_current 9 = .ok (.iload_n 1, 1) := by decide +kernel
theorem dX8_current_10 : decode cX8_current 10 = .ok (.aload_n 0, 1) := by decide +kernel
theorem dX8_current_11 : decode cX8_current 11 = .ok (.getfield 143, 3) := by decide +kernel
theorem dX8_current_14 : decode cX8_current 14 = .ok (.if_icmp .ge 29, 3) := by decide +kernel
theorem dX8_current_17 : decode cX8_current 17 = .ok (.iload_n 2, 1) := by decide +kernel
theorem dX8_current_18 : decode cX8_current 18 = .ok (.ifCond .lt 25, 3) := by decide +kernel
theorem dX8_current_21 : decode cX8_current 21 = .ok (.iload_n 2, 1) := by decide +kernel
theorem dX8_current_22 : decode cX8_current 22 = .ok (.aload_n 0, 1) := by decide +kernel
theorem dX8_current_23 : decode cX8_current 23 = .ok (.getfield 20, 3) := by decide +kernel
theorem dX8_current_26 : decode cX8_current 26 = .ok (.if_icmp .ge 17, 3) := by decide +kernel
theorem dX8_current_29 : decode cX8_current 29 = .ok (.aload_n 0, 1) := by decide +kernel
theorem dX8_current_30 : decode cX8_current 30 = .ok (.getfield 76, 3) := by decide +kernel
theorem dX8_current_33 : decode cX8_current 33 = .ok (.bipush 14, 2) := by decide +kernel
theorem dX8_current_35 : decode cX8_current 35 = .ok (.iload_n 1, 1) := by decide +kernel
theorem dX8_current_36 : decode cX8_current 36 = .ok (.imul, 1) := by decide +kernel
theorem dX8_current_37 : decode cX8_current 37 = .ok (.iload_n 2, 1) := by decide +kernel
theorem dX8_current_38 : decode cX8_current 38 = .ok (.iadd, 1) := by decide +kernel
theorem dX8_current_39 : decode cX8_current 39 = .ok (.iaload, 1) := by decide +kernel
theorem dX8_current_40 : decode cX8_current 40 = .ok (.goto 4, 3) := by decide +kernel
theorem dX8_current_43 : decode cX8_current 43 = .ok (.iconst (-1), 1) := by decide +kernel
theorem dX8_current_44 : decode cX8_current 44 = .ok (.ireturn, 1) := by decide +kernel
set_option maxRecDepth 20000 in
theorem ggX8_event_X8_fails : GoodIn wsX8_event wsX8_fails := goodIn_r _ [12, 1, 13, 14, 15, 16, 17, 18, 19, 20, 21, 22, 23, 24, 25, 26, 27, 28, 29, 30, 31, 32, 33, 34, 35, 36, 37, 38, 39, 40, 41, 42, 43, 44, 45, 46, 47, 48, 49, 50, 51] (by decide +kernel) (by decide +kernel)
set_option maxRecDepth 20000 in
theorem gX8_event_X8_fails : GoodIn wsX8_event (wsV RX8 140 RX8 yX8_fails wsX8_fails) := goodIn_app (goodIn_of _ (by decide +kernel)) ggX8_event_X8_fails
theorem dX8_event_0 : decode cX8_event 0 = .ok (.aload_n 0, 1) := by decide +kernel
theorem dX8_event_1 : decode cX8_event 1 = .ok (.iconst 0, 1) := by decide +kernel
theorem dX8_event_2 : decode cX8_event 2 = .ok (.putfield 103, 3) := by decide +kernel
theorem dX8_event_5 : decode cX8_event 5 = .ok (.aload_n 0, 1) := by decide +kernel
theorem dX8_event_6 : decode cX8_event 6 = .ok (.getfield 143, 3) := by decide +kernel
theorem dX8_event_9 : decode cX8_event 9 = .ok (.ifCond .ne 9, 3) := by decide +kernel
theorem dX8_event_12 : decode cX8_event 12 = .ok (.aload_n 0, 1) := by decide +kernel
theorem dX8_event_13 : decode cX8_event 13 = .ok (.iconst 1, 1) := by decide +kernel
theorem dX8_event_14 : decode cX8_event 14 = .ok (.invokevirtual 140, 3) := by decide +kernel
theorem dX8_event_17 : decode cX8_event 17 = .ok (.ireturn, 1) := by decide +kernel
theorem dX8_event_18 : decode cX8_event 18 = .ok (.iload_n 1, 1) := by decide +kernel
theorem dX8_event_19 : decode cX8_event 19 = .ok (.ifCond .lt 11, 3) := by decide +kernel
theorem dX8_event_22 : decode cX8_event 22 = .ok (.iload_n 1, 1) := by decide +kernel
theorem dX8_event_23 : decode cX8_event 23 = .ok (.aload_n 0, 1) := by decide +kernel
theorem dX8_event_24 : decode cX8_event 24 = .ok (.getfield 120, 3) := by decide +kernel
theorem dX8_event_27 : decode cX8_event 27 = .ok (.if_icmp .lt 9, 3) := by decide +kernel
theorem dX8_event_30 : decode cX8_event 30 = .ok (.aload_n 0, 1) := by decide +kernel
theorem dX8_event_31 : decode cX8_event 31 = .ok (.iconst 2, 1) := by decide +kernel
theorem dX8_event_32 : decode cX8_event 32 = .ok (.invokevirtual 140, 3) := by decide +kernel
theorem dX8_event_35 : decode cX8_event 35 = .ok (.ireturn, 1) := by decide +kernel
theorem dX8_event_36 : decode cX8_event 36 = .ok (.aload_n 0, 1) := by decide +kernel
theorem dX8_event_37 : decode cX8_event 37 = .ok (.aload_n 0, 1) := by decide +kernel
theorem dX8_event_38 : decode cX8_event 38 = .ok (.getfield 214, 3) := by decide +kernel
theorem dX8_event_41 : decode cX8_event 41 = .ok (.aload_n 0, 1) := by decide +kernel
theorem dX8_event_42 : decode cX8_event 42 = .ok (.getfield 82, 3) := by decide +kernel
theorem dX8_event_45 : decode cX8_event 45 = .ok (.bipush 6, 2) := by decide +kernel
theorem dX8_event_47 : decode cX8_event 47 = .ok (.aload_n 0, 1) := by decide +kernel
theorem dX8_event_48 : decode cX8_event 48 = .ok (.getfield 211, 3) := by decide +kernel
theorem dX8_event_51 : decode cX8_event 51 = .ok (.imul, 1) := by decide +kernel
theorem dX8_event_52 : decode cX8_event 52 = .ok (.iload_n 1, 1) := by decide +kernel
theorem dX8_event_53 : decode cX8_event 53 = .ok (.iadd, 1) := by decide +kernel
theorem dX8_event_54 : decode cX8_event 54 = .ok (.iaload, 1) := by decide +kernel
theorem dX8_event_55 : decode cX8_event 55 = .ok (.iadd, 1) := by decide +kernel
theorem dX8_event_56 : decode cX8_event 56 = .ok (.putfield 214, 3) := by decide +kernel
theorem dX8_event_59 : decode cX8_event 59 = .ok (.aload_n 0, 1) := by decide +kernel
theorem dX8_event_60 : decode cX8_event 60 = .ok (.aload_n 0, 1) := by decide +kernel
theorem dX8_event_61 : decode cX8_event 61 = .ok (.getfield 79, 3) := by decide +kernel
theorem dX8_event_64 : decode cX8_event 64 = .ok (.bipush 6, 2) := by decide +kernel
theorem dX8_event_66 : decode cX8_event 66 = .ok (.aload_n 0, 1) := by decide +kernel
theorem dX8_event_67 : decode cX8_event 67 = .ok (.getfield 211, 3) := by decide +kernel
theorem dX8_event_70 : decode cX8_event 70 = .ok (.imul, 1) := by decide +kernel
theorem dX8_event_71 : decode cX8_event 71 = .ok (.iload_n 1, 1) := by decide +kernel
theorem dX8_event_72 : decode cX8_event 72 = .ok (.iadd, 1) := by decide +kernel
theorem dX8_event_73 : decode cX8_event 73 = .ok (.iaload, 1) := by decide +kernel
theorem dX8_event_74 : decode cX8_event 74 = .ok (.putfield 211, 3) := by decide +kernel
theorem dX8_event_77 : decode cX8_event 77 = .ok (.aload_n 0, 1) := by decide +kernel
theorem dX8_event_78 : decode cX8_event 78 = .ok (.getfield 211, 3) := by decide +kernel
theorem dX8_event_81 : decode cX8_event 81 = .ok (.ireturn, 1) := by decide +kernel
theorem dX8_noted_0 : decode cX8_noted 0 = .ok (.aload_n 0, 1) := by decide +kernel
theorem dX8_noted_1 : decode cX8_noted 1 = .ok (.iconst 0, 1) := by decide +kernel
theorem dX8_noted_2 : decode cX8_noted 2 = .ok (.putfield 103, 3) := by decide +kernel
theorem dX8_noted_5 : decode cX8_noted 5 = .ok (.aload_n 0, 1) := by decide +kernel
theorem dX8_noted_6 : decode cX8_noted 6 = .ok (.getfield 143, 3) := by decide +kernel
theorem dX8_noted_9 : decode cX8_noted 9 = .ok (.ifCond .le 10, 3) := by decide +kernel
theorem dX8_noted_12 : decode cX8_noted 12 = .ok (.aload_n 0, 1) := by decide +kernel
theorem dX8_noted_13 : decode cX8_noted 13 = .ok (.getfield 214, 3) := by decide +kernel
theorem dX8_noted_16 : decode cX8_noted 16 = .ok (.goto 4, 3) := by decide +kernel
theorem dX8_noted_19 : decode cX8_noted 19 = .ok (.iconst 0, 1) := by decide +kernel
theorem dX8_noted_20 : decode cX8_noted 20 = .ok (.ireturn, 1) := by decide +kernel
