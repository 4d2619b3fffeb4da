theorem dX10_kickNow_80 : decode cX10_kickNow 80 = .ok (.iload_n 2, 1) := by decide +kernel
theorem dX10_kickNow_81 : decode cX10_kickNow 81 = .ok (.invokevirtual 462, 3) := by decide +kernel
theorem dX10_kickNow_84 : decode cX10_kickNow 84 = .ok (.return_, 1) := by decide +kernel
theorem dX10_kickNow_85 : decode cX10_kickNow 85 = .ok (.aload_n 0, 1) := by decide +kernel
theorem dX10_kickNow_86 : decode cX10_kickNow 86 = .ok (.getfield 82, 3) := by decide +kernel
theorem dX10_kickNow_89 : decode cX10_kickNow 89 = .ok (.iload_n 1, 1) := by decide +kernel
theorem dX10_kickNow_90 : decode cX10_kickNow 90 = .ok (.baload, 1) := by decide +kernel
theorem dX10_kickNow_91 : decode cX10_kickNow 91 = .ok (.ifCond .eq 86, 3) := by decide +kernel
theorem dX10_kickNow_94 : decode cX10_kickNow 94 = .ok (.aload_n 0, 1) := by decide +kernel
theorem dX10_kickNow_95 : decode cX10_kickNow 95 = .ok (.iload_n 1, 1) := by decide +kernel
theorem dX10_kickNow_96 : decode cX10_kickNow 96 = .ok (.invokevirtual 465, 3) := by decide +kernel
theorem dX10_kickNow_99 : decode cX10_kickNow 99 = .ok (.iload_n 3, 1) := by decide +kernel
theorem dX10_kickNow_100 : decode cX10_kickNow 100 = .ok (.isub, 1) := by decide +kernel
theorem dX10_kickNow_101 : decode cX10_kickNow 101 = .ok (.i2f, 1) := by decide +kernel
theorem dX10_kickNow_102 : decode cX10_kickNow 102 = .ok (.aload_n 0, 1) := by decide +kernel
theorem dX10_kickNow_103 : decode cX10_kickNow 103 = .ok (.iload_n 1, 1) := by decide +kernel
theorem dX10_kickNow_104 : decode cX10_kickNow 104 = .ok (.invokevirtual 465, 3) := by decide +kernel
theorem dX10_kickNow_107 : decode cX10_kickNow 107 = .ok (.aload_n 0, 1) := by decide +kernel
theorem dX10_kickNow_108 : decode cX10_kickNow 108 = .ok (.iload_n 1, 1) := by decide +kernel
theorem dX10_kickNow_109 : decode cX10_kickNow 109 = .ok (.invokevirtual 459, 3) := by decide +kernel
theorem dX10_kickNow_112 : decode cX10_kickNow 112 = .ok (.isub, 1) := by decide +kernel
theorem dX10_kickNow_113 : decode cX10_kickNow 113 = .ok (.i2f, 1) := by decide +kernel
theorem dX10_kickNow_114 : decode cX10_kickNow 114 = .ok (.fdiv, 1) := by decide +kernel
theorem dX10_kickNow_115 : decode cX10_kickNow 115 = .ok (.fstore 5, 2) := by decide +kernel
theorem dX10_kickNow_117 : decode cX10_kickNow 117 = .ok (.aload_n 0, 1) := by decide +kernel
theorem dX10_kickNow_118 : decode cX10_kickNow 118 = .ok (.getfield 107, 3) := by decide +kernel
theorem dX10_kickNow_121 : decode cX10_kickNow 121 = .ok (.iload_n 1, 1) := by decide +kernel
theorem dX10_kickNow_122 : decode cX10_kickNow 122 = .ok (.aload_n 0, 1) := by decide +kernel
theorem dX10_kickNow_123 : decode cX10_kickNow 123 = .ok (.getfield 114, 3) := by decide +kernel
theorem dX10_kickNow_126 : decode cX10_kickNow 126 = .ok (.iload_n 1, 1) := by decide +kernel
theorem dX10_kickNow_127 : decode cX10_kickNow 127 = .ok (.iaload, 1) := by decide +kernel
theorem dX10_kickNow_128 : decode cX10_kickNow 128 = .ok (.ifCond .eq 15, 3) := by decide +kernel
theorem dX10_kickNow_131 : decode cX10_kickNow 131 = .ok (.fload 5, 2) := by decide +kernel
theorem dX10_kickNow_133 : decode cX10_kickNow 133 = .ok (.aload_n 0, 1) := by decide +kernel
theorem dX10_kickNow_134 : decode cX10_kickNow 134 = .ok (.getfield 107, 3) := by decide +kernel
theorem dX10_kickNow_137 : decode cX10_kickNow 137 = .ok (.iload_n 1, 1) := by decide +kernel
theorem dX10_kickNow_138 : decode cX10_kickNow 138 = .ok (.faload, 1) := by decide +kernel
theorem dX10_kickNow_139 : decode cX10_kickNow 139 = .ok (.fcmp .g, 1) := by decide +kernel
theorem dX10_kickNow_140 : decode cX10_kickNow 140 = .ok (.ifCond .ge 8, 3) := by decide +kernel
theorem dX10_kickNow_143 : decode cX10_kickNow 143 = .ok (.fload 5, 2) := by decide +kernel
theorem dX10_kickNow_145 : decode cX10_kickNow 145 = .ok (.goto 9, 3) := by decide +kernel
theorem dX10_kickNow_148 : decode cX10_kickNow 148 = .ok (.aload_n 0, 1) := by decide +kernel
theorem dX10_kickNow_149 : decode cX10_kickNow 149 = .ok (.getfield 107, 3) := by decide +kernel
theorem dX10_kickNow_152 : decode cX10_kickNow 152 = .ok (.iload_n 1, 1) := by decide +kernel
theorem dX10_kickNow_153 : decode cX10_kickNow 153 = .ok (.faload, 1) := by decide +kernel
theorem dX10_kickNow_154 : decode cX10_kickNow 154 = .ok (.fastore, 1) := by decide +kernel
theorem dX10_kickNow_155 : decode cX10_kickNow 155 = .ok (.aload_n 0, 1) := by decide +kernel
theorem dX10_kickNow_156 : decode cX10_kickNow 156 = .ok (.getfield 110, 3) := by decide +kernel
theorem dX10_kickNow_159 : decode cX10_kickNow 159 = .ok (.iload_n 1, 1) := by decide +kernel
theorem dX10_kickNow_160 : decode cX10_kickNow 160 = .ok (.dup2, 1) := by decide +kernel
theorem dX10_kickNow_161 : decode cX10_kickNow 161 = .ok (.daload, 1) := by decide +kernel
theorem dX10_kickNow_162 : decode cX10_kickNow 162 = .ok (.fload 5, 2) := by decide +kernel
theorem dX10_kickNow_164 : decode cX10_kickNow 164 = .ok (.f2d, 1) := by decide +kernel
theorem dX10_kickNow_165 : decode cX10_kickNow 165 = .ok (.dadd, 1) := by decide +kernel
theorem dX10_kickNow_166 : decode cX10_kickNow 166 = .ok (.dastore, 1) := by decide +kernel
theorem dX10_kickNow_167 : decode cX10_kickNow 167 = .ok (.aload_n 0, 1) := by decide +kernel
theorem dX10_kickNow_168 : decode cX10_kickNow 168 = .ok (.getfield 114, 3) := by decide +kernel
theorem dX10_kickNow_171 : decode cX10_kickNow 171 = .ok (.iload_n 1, 1) := by decide +kernel
theorem dX10_kickNow_172 : decode cX10_kickNow 172 = .ok (.dup2, 1) := by decide +kernel
theorem dX10_kickNow_173 : decode cX10_kickNow 173 = .ok (.iaload, 1) := by decide +kernel
theorem dX10_kickNow_174 : decode cX10_kickNow 174 = .ok (.iconst 1, 1) := by decide +kernel
theorem dX10_kickNow_175 : decode cX10_kickNow 175 = .ok (.iadd, 1) := by decide +kernel
theorem dX10_kickNow_176 : decode cX10_kickNow 176 = .ok (.iastore, 1) := by decide +kernel
theorem dX10_kickNow_177 : decode cX10_kickNow 177 = .ok (.aload_n 0, 1) := by decide +kernel
theorem dX10_kickNow_178 : decode cX10_kickNow 178 = .ok (.getfield 91, 3) := by decide +kernel
theorem dX10_kickNow_181 : decode cX10_kickNow 181 = .ok (.iload_n 1, 1) := by decide +kernel
theorem dX10_kickNow_182 : decode cX10_kickNow 182 = .ok (.aload_n 0, 1) := by decide +kernel
theorem dX10_kickNow_183 : decode cX10_kickNow 183 = .ok (.getfield 91, 3) := by decide +kernel
theorem dX10_kickNow_186 : decode cX10_kickNow 186 = .ok (.iload_n 1, 1) := by decide +kernel
theorem dX10_kickNow_187 : decode cX10_kickNow 187 = .ok (.faload, 1) := by decide +kernel
theorem dX10_kickNow_188 : decode cX10_kickNow 188 = .ok (.fconst 1, 1) := by decide +kernel
theorem dX10_kickNow_189 : decode cX10_kickNow 189 = .ok (.aload_n 0, 1) := by decide +kernel
theorem dX10_kickNow_190 : decode cX10_kickNow 190 = .ok (.getfield 91, 3) := by decide +kernel
theorem dX10_kickNow_193 : decode cX10_kickNow 193 = .ok (.iload_n 1, 1) := by decide +kernel
theorem dX10_kickNow_194 : decode cX10_kickNow 194 = .ok (.faload, 1) := by decide +kernel
theorem dX10_kickNow_195 : decode cX10_kickNow 195 = .ok (.fsub, 1) := by decide +kernel
theorem dX10_kickNow_196 : decode cX10_kickNow 196 = .ok (.ldc_w 468, 3) := by decide +kernel
theorem dX10_kickNow_199 : decode cX10_kickNow 199 = .ok (.fmul, 1) := by decide +kernel
theorem dX10_kickNow_200 : decode cX10_kickNow 200 = .ok (.fadd, 1) := by decide +kernel
theorem dX10_kickNow_201 : decode cX10_kickNow 201 = .ok (.fastore, 1) := by decide +kernel
theorem dX10_kickNow_202 : decode cX10_kickNow 202 = .ok (.aload_n 0, 1) := by decide +kernel
theorem dX10_kickNow_203 : decode cX10_kickNow 203 = .ok (.getfield 76, 3) := by decide +kernel
theorem dX10_kickNow_206 : decode cX10_kickNow 206 = .ok (.iload_n 1, 1) := by decide +kernel
theorem dX10_kickNow_207 : decode cX10_kickNow 207 = .ok (.bipush 13, 2) := by decide +kernel
theorem dX10_kickNow_209 : decode cX10_kickNow 209 = .ok (.aload_n 0, 1) := by decide +kernel
theorem dX10_kickNow_210 : decode cX10_kickNow 210 = .ok (.getfield 76, 3) := by decide +kernel
theorem dX10_kickNow_213 : decode cX10_kickNow 213 = .ok (.iload_n 1, 1) := by decide +kernel
theorem dX10_kickNow_214 : decode cX10_kickNow 214 = .ok (.iaload, 1) := by decide +kernel
theorem dX10_kickNow_215 : decode cX10_kickNow 215 = .ok (.imul, 1) := by decide +kernel
theorem dX10_kickNow_216 : decode cX10_kickNow 216 = .ok (.bipush 7, 2) := by decide +kernel
theorem dX10_kickNow_218 : decode cX10_kickNow 218 = .ok (.iadd, 1) := by decide +kernel
theorem dX10_kickNow_219 : decode cX10_kickNow 219 = .ok (.bipush 64, 2) := by decide +kernel
theorem dX10_kickNow_221 : decode cX10_kickNow 221 = .ok (.irem, 1) := by decide +kernel
theorem dX10_kickNow_222 : decode cX10_kickNow 222 = .ok (.iastore, 1) := by decide +kernel
theorem dX10_kickNow_223 : decode cX10_kickNow 223 = .ok (.aload_n 0, 1) := by decide +kernel
theorem dX10_kickNow_224 : decode cX10_kickNow 224 = .ok (.getfield 79, 3) := by decide +kernel
theorem dX10_kickNow_227 : decode cX10_kickNow 227 = .ok (.iload_n 1, 1) := by decide +kernel
theorem dX10_kickNow_228 : decode cX10_kickNow 228 = .ok (.iload_n 2, 1) := by decide +kernel
theorem dX10_kickNow_229 : decode cX10_kickNow 229 = .ok (.iastore, 1) := by decide +kernel
theorem dX10_kickNow_230 : decode cX10_kickNow 230 = .ok (.aload_n 0, 1) := by decide +kernel
theorem dX10_kickNow_231 : decode cX10_kickNow 231 = .ok (.getfield 82, 3) := by decide +kernel
theorem dX10_kickNow_234 : decode cX10_kickNow 234 = .ok (.iload_n 1, 1) := by decide +kernel
theorem dX10_kickNow_235 : decode cX10_kickNow 235 = .ok (.iconst 1, 1) := by decide +kernel
theorem dX10_kickNow_236 : decode cX10_kickNow 236 = .ok (.bastore, 1) := by decide +kernel
theorem dX10_kickNow_237 : decode cX10_kickNow 237 = .ok (.aload_n 0, 1) := by decide +kernel
theorem dX10_kickNow_238 : decode cX10_kickNow 238 = .ok (.getfield 85, 3) := by decide +kernel
theorem dX10_kickNow_241 : decode cX10_kickNow 241 = .ok (.iload_n 1, 1) := by decide +kernel
theorem dX10_kickNow_242 : decode cX10_kickNow 242 = .ok (.dup2, 1) := by decide +kernel
theorem dX10_kickNow_243 : decode cX10_kickNow 243 = .ok (.iaload, 1) := by decide +kernel
theorem dX10_kickNow_244 : decode cX10_kickNow 244 = .ok (.iconst 1, 1) := by decide +kernel
theorem dX10_kickNow_245 : decode cX10_kickNow 245 = .ok (.iadd, 1) := by decide +kernel
theorem dX10_kickNow_246 : decode cX10_kickNow 246 = .ok (.iastore, 1) := by decide +kernel
theorem dX10_kickNow_247 : decode cX10_kickNow 247 = .ok (.aload_n 0, 1) := by decide +kernel
theorem dX10_kickNow_248 : decode cX10_kickNow 248 = .ok (.getfield 117, 3) := by decide +kernel
theorem dX10_kickNow_251 : decode cX10_kickNow 251 = .ok (.sipush 200, 3) := by decide +kernel
theorem dX10_kickNow_254 : decode cX10_kickNow 254 = .ok (.iload_n 1, 1) := by decide +kernel
theorem dX10_kickNow_255 : decode cX10_kickNow 255 = .ok (.imul, 1) := by decide +kernel
theorem dX10_kickNow_256 : decode cX10_kickNow 256 = .ok (.aload_n 0, 1) := by decide +kernel
theorem dX10_kickNow_257 : decode cX10_kickNow 257 = .ok (.getfield 101, 3) := by decide +kernel
theorem dX10_kickNow_260 : decode cX10_kickNow 260 = .ok (.iload_n 1, 1) := by decide +kernel
theorem dX10_kickNow_261 : decode cX10_kickNow 261 = .ok (.iaload, 1) := by decide +kernel
theorem dX10_kickNow_262 : decode cX10_kickNow 262 = .ok (.iadd, 1) := by decide +kernel
theorem dX10_kickNow_263 : decode cX10_kickNow 263 = .ok (.iload_n 3, 1) := by decide +kernel
theorem dX10_kickNow_264 : decode cX10_kickNow 264 = .ok (.iastore, 1) := by decide +kernel
theorem dX10_kickNow_265 : decode cX10_kickNow 265 = .ok (.aload_n 0, 1) := by decide +kernel
theorem dX10_kickNow_266 : decode cX10_kickNow 266 = .ok (.getfield 101, 3) := by decide +kernel
theorem dX10_kickNow_269 : decode cX10_kickNow 269 = .ok (.iload_n 1, 1) := by decide +kernel
theorem dX10_kickNow_270 : decode cX10_kickNow 270 = .ok (.dup2, 1) := by decide +kernel
theorem dX10_kickNow_271 : decode cX10_kickNow 271 = .ok (.iaload, 1) := by decide +kernel
theorem dX10_kickNow_272 : decode cX10_kickNow 272 = .ok (.iconst 1, 1) := by decide +kernel
theorem dX10_kickNow_273 : decode cX10_kickNow 273 = .ok (.iadd, 1) := by decide +kernel
theorem dX10_kickNow_274 : decode cX10_kickNow 274 = .ok (.iastore, 1) := by decide +kernel
theorem dX10_kickNow_275 : decode cX10_kickNow 275 = .ok (.aload_n 0, 1) := by decide +kernel
theorem dX10_kickNow_276 : decode cX10_kickNow 276 = .ok (.getfield 104, 3) := by decide +kernel
theorem dX10_kickNow_279 : decode cX10_kickNow 279 = .ok (.iload_n 1, 1) := by decide +kernel
theorem dX10_kickNow_280 : decode cX10_kickNow 280 = .ok (.iload_n 2, 1) := by decide +kernel
theorem dX10_kickNow_281 : decode cX10_kickNow 281 = .ok (.iastore, 1) := by decide +kernel
theorem dX10_kickNow_282 : decode cX10_kickNow 282 = .ok (.return_, 1) := by decide +kernel
theorem dX10_works_0 : decode cX10_works 0 = .ok (.aload_n 0, 1) := by decide +kernel
theorem dX10_works_1 : decode cX10_works 1 = .ok (.iload_n 1, 1) := by decide +kernel
theorem dX10_works_2 : decode cX10_works 2 = .ok (.aload_n 0, 1) := by decide +kernel
theorem dX10_works_3 : decode cX10_works 3 = .ok (.getfield 70, 3) := by decide +kernel
theorem dX10_works_6 : decode cX10_works 6 = .ok (.iload_n 1, 1) := by decide +kernel
theorem dX10_works_7 : decode cX10_works 7 = .ok (.iaload, 1) := by decide +kernel
theorem dX10_works_8 : decode cX10_works 8 = .ok (.invokevirtual 453, 3) := by decide +kernel
theorem dX10_works_11 : decode cX10_works 11 = .ok (.istore_n 3, 1) := by decide +kernel
theorem dX10_works_12 : decode cX10_works 12 = .ok (.aload_n 0, 1) := by decide +kernel
theorem dX10_works_13 : decode cX10_works 13 = .ok (.getfield 73, 3) := by decide +kernel
theorem dX10_works_16 : decode cX10_works 16 = .ok (.iload_n 1, 1) := by decide +kernel
theorem dX10_works_17 : decode cX10_works 17 = .ok (.dup2, 1) := by decide +kernel
theorem dX10_works_18 : decode cX10_works 18 = .ok (.iaload, 1) := by decide +kernel
theorem dX10_works_19 : decode cX10_works 19 = .ok (.iconst 1, 1) := by decide +kernel
theorem dX10_works_20 : decode cX10_works 20 = .ok (.iadd, 1) := by decide +kernel
theorem dX10_works_21 : decode cX10_works 21 = .ok (.iastore, 1) := by decide +kernel
theorem dX10_works_22 : decode cX10_works 22 = .ok (.aload_n 0, 1) := by decide +kernel
theorem dX10_works_23 : decode cX10_works 23 = .ok (.iload_n 1, 1) := by decide +kernel
theorem dX10_works_24 : decode cX10_works 24 = .ok (.aload_n 0, 1) := by decide +kernel
theorem dX10_works_25 : decode cX10_works 25 = .ok (.getfield 70, 3) := by decide +kernel
theorem dX10_works_28 : decode cX10_works 28 = .ok (.iload_n 1, 1) := by decide +kernel
theorem dX10_works_29 : decode cX10_works 29 = .ok (.iaload, 1) := by decide +kernel
theorem dX10_works_30 : decode cX10_works 30 = .ok (.invokevirtual 330, 3) := by decide +kernel
theorem dX10_works_33 : decode cX10_works 33 = .ok (.iload_n 3, 1) := by decide +kernel
theorem dX10_works_34 : decode cX10_works 34 = .ok (.iconst 3, 1) := by decide +kernel
theorem dX10_works_35 : decode cX10_works 35 = .ok (.if_icmp .ne 7, 3) := by decide +kernel
theorem dX10_works_38 : decode cX10_works 38 = .ok (.iconst 2, 1) := by decide +kernel
theorem dX10_works_39 : decode cX10_works 39 = .ok (.goto 4, 3) := by decide +kernel
theorem dX10_works_42 : decode cX10_works 42 = .ok (.iconst 1, 1) := by decide +kernel
theorem dX10_works_43 : decode cX10_works 43 = .ok (.imul, 1) := by decide +kernel
theorem dX10_works_44 : decode cX10_works 44 = .ok (.istore 4, 2) := by decide +kernel
theorem dX10_works_46 : decode cX10_works 46 = .ok (.iload_n 3, 1) := by decide +kernel
theorem dX10_works_47 : decode cX10_works 47 = .ok (.ifCond .eq 14, 3) := by decide +kernel
theorem dX10_works_50 : decode cX10_works 50 = .ok (.aload_n 0, 1) := by decide +kernel
theorem dX10_works_51 : decode cX10_works 51 = .ok (.getfield 73, 3) := by decide +kernel
theorem dX10_works_54 : decode cX10_works 54 = .ok (.iload_n 1, 1) := by decide +kernel
theorem dX10_works_55 : decode cX10_works 55 = .ok (.iaload, 1) := by decide +kernel
theorem dX10_works_56 : decode cX10_works 56 = .ok (.iload 4, 2) := by decide +kernel
theorem dX10_works_58 : decode cX10_works 58 = .ok (.if_icmp .ge 4, 3) := by decide +kernel
theorem dX10_works_61 : decode cX10_works 61 = .ok (.return_, 1) := by decide +kernel
theorem dX10_works_62 : decode cX10_works 62 = .ok (.aload_n 0, 1) := by decide +kernel
theorem dX10_works_63 : decode cX10_works 63 = .ok (.iload_n 1, 1) := by decide +kernel
theorem dX10_works_64 : decode cX10_works 64 = .ok (.aload_n 0, 1) := by decide +kernel
theorem dX10_works_65 : decode cX10_works 65 = .ok (.getfield 70, 3) := by decide +kernel
theorem dX10_works_68 : decode cX10_works 68 = .ok (.iload_n 1, 1) := by decide +kernel
theorem dX10_works_69 : decode cX10_works 69 = .ok (.iaload, 1) := by decide +kernel
theorem dX10_works_70 : decode cX10_works 70 = .ok (.invokevirtual 324, 3) := by decide +kernel
theorem dX10_works_73 : decode cX10_works 73 = .ok (.istore 5, 2) := by decide +kernel
theorem dX10_works_75 : decode cX10_works 75 = .ok (.iload_n 3, 1) := by decide +kernel
theorem dX10_works_76 : decode cX10_works 76 = .ok (.iconst 2, 1) := by decide +kernel
theorem dX10_works_77 : decode cX10_works 77 = .ok (.if_icmp .eq 8, 3) := by decide +kernel
theorem dX10_works_80 : decode cX10_works 80 = .ok (.iload 5, 2) := by decide +kernel
theorem dX10_works_82 : decode cX10_works 82 = .ok (.ifCond .ne 10, 3) := by decide +kernel
theorem dX10_works_85 : decode cX10_works 85 = .ok (.aload_n 0, 1) := by decide +kernel
theorem dX10_works_86 : decode cX10_works 86 = .ok (.iload_n 1, 1) := by decide +kernel
theorem dX10_works_87 : decode cX10_works 87 = .ok (.iload_n 2, 1) := by decide +kernel
theorem dX10_works_88 : decode cX10_works 88 = .ok (.invokevirtual 469, 3) := by decide +kernel
theorem dX10_works_91 : decode cX10_works 91 = .ok (.return_, 1) := by decide +kernel
theorem dX10_works_92 : decode cX10_works 92 = .ok (.aload_n 0, 1) := by decide +kernel
theorem dX10_works_93 : decode cX10_works 93 = .ok (.getfield 70, 3) := by decide +kernel
theorem dX10_works_96 : decode cX10_works 96 = .ok (.iload_n 1, 1) := by decide +kernel
theorem dX10_works_97 : decode cX10_works 97 = .ok (.aload_n 0, 1) := by decide +kernel
theorem dX10_works_98 : decode cX10_works 98 = .ok (.iload_n 1, 1) := by decide +kernel
theorem dX10_works_99 : decode cX10_works 99 = .ok (.aload_n 0, 1) := by decide +kernel
theorem dX10_works_100 : decode cX10_works 100 = .ok (.getfield 70, 3) := by decide +kernel
theorem dX10_works_103 : decode cX10_works 103 = .ok (.iload_n 1, 1) := by decide +kernel
theorem dX10_works_104 : decode cX10_works 104 = .ok (.iaload, 1) := by decide +kernel
theorem dX10_works_105 : decode cX10_works 105 = .ok (.aload_n 0, 1) := by decide +kernel
theorem dX10_works_106 : decode cX10_works 106 = .ok (.getfield 64, 3) := by decide +kernel
theorem dX10_works_109 : decode cX10_works 109 = .ok (.iload_n 1, 1) := by decide +kernel
theorem dX10_works_110 : decode cX10_works 110 = .ok (.iaload, 1) := by decide +kernel
theorem dX10_works_111 : decode cX10_works 111 = .ok (.iload 5, 2) := by decide +kernel
theorem dX10_works_113 : decode cX10_works 113 = .ok (.irem, 1) := by decide +kernel
theorem dX10_works_114 : decode cX10_works 114 = .ok (.invokevirtual 396, 3) := by decide +kernel
theorem dX10_works_117 : decode cX10_works 117 = .ok (.iastore, 1) := by decide +kernel
theorem dX10_works_118 : decode cX10_works 118 = .ok (.aload_n 0, 1) := by decide +kernel
theorem dX10_works_119 : decode cX10_works 119 = .ok (.getfield 73, 3) := by decide +kernel
theorem dX10_works_122 : decode cX10_works 122 = .ok (.iload_n 1, 1) := by decide +kernel
theorem dX10_works_123 : decode cX10_works 123 = .ok (.iconst 0, 1) := by decide +kernel
theorem dX10_works_124 : decode cX10_works 124 = .ok (.iastore, 1) := by decide +kernel
theorem dX10_works_125 : decode cX10_works 125 = .ok (.return_, 1) := by decide +kernel
theorem dX10_asksLate_0 : decode cX10_asksLate 0 = .ok (.iconst 0, 1) := by decide +kernel
theorem dX10_asksLate_1 : decode cX10_asksLate 1 = .ok (.istore_n 2, 1) := by decide +kernel
theorem dX10_asksLate_2 : decode cX10_asksLate 2 = .ok (.iload_n 2, 1) := by decide +kernel
theorem dX10_asksLate_3 : decode cX10_asksLate 3 = .ok (.aload_n 0, 1) := by decide +kernel
theorem dX10_asksLate_4 : decode cX10_asksLate 4 = .ok (.getfield 9, 3) := by decide +kernel
theorem dX10_asksLate_7 : decode cX10_asksLate 7 = .ok (.iconst 4, 1) := by decide +kernel
theorem dX10_asksLate_8 : decode cX10_asksLate 8 = .ok (.iaload, 1) := by decide +kernel
theorem dX10_asksLate_9 : decode cX10_asksLate 9 = .ok (.if_icmp .ge 49, 3) := by decide +kernel
theorem dX10_asksLate_12 : decode cX10_asksLate 12 = .ok (.aload_n 0, 1) := by decide +kernel
theorem dX10_asksLate_13 : decode cX10_asksLate 13 = .ok (.getfield 442, 3) := by decide +kernel
theorem dX10_asksLate_16 : decode cX10_asksLate 16 = .ok (.ifCond .ne 42, 3) := by decide +kernel
theorem dX10_asksLate_19 : decode cX10_asksLate 19 = .ok (.iload_n 1, 1) := by decide +kernel
theorem dX10_asksLate_20 : decode cX10_asksLate 20 = .ok (.aload_n 0, 1) := by decide +kernel
theorem dX10_asksLate_21 : decode cX10_asksLate 21 = .ok (.getfield 61, 3) := by decide +kernel
theorem dX10_asksLate_24 : decode cX10_asksLate 24 = .ok (.iload_n 2, 1) := by decide +kernel
theorem dX10_asksLate_25 : decode cX10_asksLate 25 = .ok (.iaload, 1) := by decide +kernel
theorem dX10_asksLate_26 : decode cX10_asksLate 26 = .ok (.if_icmp .lt 26, 3) := by decide +kernel
theorem dX10_asksLate_29 : decode cX10_asksLate 29 = .ok (.iload_n 1, 1) := by decide +kernel
theorem dX10_asksLate_30 : decode cX10_asksLate 30 = .ok (.aload_n 0, 1) := by decide +kernel
theorem dX10_asksLate_31 : decode cX10_asksLate 31 = .ok (.getfield 79, 3) := by decide +kernel
theorem dX10_asksLate_34 : decode cX10_asksLate 34 = .ok (.iload_n 2, 1) := by decide +kernel
theorem dX10_asksLate_35 : decode cX10_asksLate 35 = .ok (.iaload, 1) := by decide +kernel
theorem dX10_asksLate_36 : decode cX10_asksLate 36 = .ok (.isub, 1) := by decide +kernel
theorem dX10_asksLate_37 : decode cX10_asksLate 37 = .ok (.aload_n 0, 1) := by decide +kernel
theorem dX10_asksLate_38 : decode cX10_asksLate 38 = .ok (.iload_n 2, 1) := by decide +kernel
theorem dX10_asksLate_39 : decode cX10_asksLate 39 = .ok (.invokevirtual 465, 3) := by decide +kernel
theorem dX10_asksLate_42 : decode cX10_asksLate 42 = .ok (.if_icmp .lt 10, 3) := by decide +kernel
theorem dX10_asksLate_45 : decode cX10_asksLate 45 = .ok (.aload_n 0, 1) := by decide +kernel
theorem dX10_asksLate_46 : decode cX10_asksLate 46 = .ok (.iload_n 2, 1) := by decide +kernel
theorem dX10_asksLate_47 : decode cX10_asksLate 47 = .ok (.iconst 2, 1) := by decide +kernel
theorem dX10_asksLate_48 : decode cX10_asksLate 48 = .ok (.iload_n 1, 1) := by decide +kernel
theorem dX10_asksLate_49 : decode cX10_asksLate 49 = .ok (.invokevirtual 462, 3) := by decide +kernel
theorem dX10_asksLate_52 : decode cX10_asksLate 52 = .ok (.iinc 2 1, 3) := by decide +kernel
theorem dX10_asksLate_55 : decode cX10_asksLate 55 = .ok (.goto (-53), 3) := by decide +kernel
theorem dX10_asksLate_58 : decode cX10_asksLate 58 = .ok (.return_, 1) := by decide +kernel
theorem dX10_looks_0 : decode cX10_looks 0 = .ok (.iload_n 2, 1) := by decide +kernel
theorem dX10_looks_1 : decode cX10_looks 1 = .ok (.iconst 1, 1) := by decide +kernel
theorem dX10_looks_2 : decode cX10_looks 2 = .ok (.iadd, 1) := by decide +kernel
theorem dX10_looks_3 : decode cX10_looks 3 = .ok (.aload_n 0, 1) := by decide +kernel
theorem dX10_looks_4 : decode cX10_looks 4 = .ok (.getfield 9, 3) := by decide +kernel
theorem dX10_looks_7 : decode cX10_looks 7 = .ok (.iconst 1, 1) := by decide +kernel
theorem dX10_looks_8 : decode cX10_looks 8 = .ok (.iaload, 1) := by decide +kernel
theorem dX10_looks_9 : decode cX10_looks 9 = .ok (.isub, 1) := by decide +kernel
theorem dX10_looks_10 : decode cX10_looks 10 = .ok (.istore_n 3, 1) := by decide +kernel
theorem dX10_looks_11 : decode cX10_looks 11 = .ok (.aload_n 0, 1) := by decide +kernel
theorem dX10_looks_12 : decode cX10_looks 12 = .ok (.getfield 129, 3) := by decide +kernel
theorem dX10_looks_15 : decode cX10_looks 15 = .ok (.iload_n 1, 1) := by decide +kernel
theorem dX10_looks_16 : decode cX10_looks 16 = .ok (.iconst 1, 1) := by decide +kernel
theorem dX10_looks_17 : decode cX10_looks 17 = .ok (.bastore, 1) := by decide +kernel
theorem dX10_looks_18 : decode cX10_looks 18 = .ok (.iconst 0, 1) := by decide +kernel
theorem dX10_looks_19 : decode cX10_looks 19 = .ok (.istore 4, 2) := by decide +kernel
theorem dX10_looks_21 : decode cX10_looks 21 = .ok (.iload 4, 2) := by decide +kernel
theorem dX10_looks_23 : decode cX10_looks 23 = .ok (.aload_n 0, 1) := by decide +kernel
theorem dX10_looks_24 : decode cX10_looks 24 = .ok (.getfield 9, 3) := by decide +kernel
theorem dX10_looks_27 : decode cX10_looks 27 = .ok (.iconst 4, 1) := by decide +kernel
theorem dX10_looks_28 : decode cX10_looks 28 = .ok (.iaload, 1) := by decide +kernel
theorem dX10_looks_29 : decode cX10_looks 29 = .ok (.if_icmp .ge 76, 3) := by decide +kernel
theorem dX10_looks_32 : decode cX10_looks 32 = .ok (.aload_n 0, 1) := by decide +kernel
theorem dX10_looks_33 : decode cX10_looks 33 = .ok (.getfield 442, 3) := by decide +kernel
theorem dX10_looks_36 : decode cX10_looks 36 = .ok (.ifCond .ne 69, 3) := by decide +kernel
theorem dX10_looks_39 : decode cX10_looks 39 = .ok (.aload_n 0, 1) := by decide +kernel
theorem dX10_looks_40 : decode cX10_looks 40 = .ok (.iload 4, 2) := by decide +kernel
theorem dX10_looks_42 : decode cX10_looks 42 = .ok (.iconst 0, 1) := by decide +kernel
theorem dX10_looks_43 : decode cX10_looks 43 = .ok (.invokevirtual 156, 3) := by decide +kernel
theorem dX10_looks_46 : decode cX10_looks 46 = .ok (.iload_n 1, 1) := by decide +kernel
theorem dX10_looks_47 : decode cX10_looks 47 = .ok (.if_icmp .ne 52, 3) := by decide +kernel
theorem dX10_looks_50 : decode cX10_looks 50 = .ok (.aload_n 0, 1) := by decide +kernel
theorem dX10_looks_51 : decode cX10_looks 51 = .ok (.getfield 61, 3) := by decide +kernel
theorem dX10_looks_54 : decode cX10_looks 54 = .ok (.iload 4, 2) := by decide +kernel
theorem dX10_looks_56 : decode cX10_looks 56 = .ok (.iaload, 1) := by decide +kernel
theorem dX10_looks_57 : decode cX10_looks 57 = .ok (.iload_n 3, 1) := by decide +kernel
theorem dX10_looks_58 : decode cX10_looks 58 = .ok (.if_icmp .gt 41, 3) := by decide +kernel
theorem dX10_looks_61 : decode cX10_looks 61 = .ok (.aload_n 0, 1) := by decide +kernel
theorem dX10_looks_62 : decode cX10_looks 62 = .ok (.getfield 85, 3) := by decide +kernel
theorem dX10_looks_65 : decode cX10_looks 65 = .ok (.iload 4, 2) := by decide +kernel
theorem dX10_looks_67 : decode cX10_looks 67 = .ok (.iaload, 1) := by decide +kernel
theorem dX10_looks_68 : decode cX10_looks 68 = .ok (.i2l, 1) := by decide +kernel
theorem dX10_looks_69 : decode cX10_looks 69 = .ok (.aload_n 0, 1) := by decide +kernel
theorem dX10_looks_70 : decode cX10_looks 70 = .ok (.iload 4, 2) := by decide +kernel
theorem dX10_looks_72 : decode cX10_looks 72 = .ok (.iconst 4, 1) := by decide +kernel
theorem dX10_looks_73 : decode cX10_looks 73 = .ok (.invokevirtual 156, 3) := by decide +kernel
theorem dX10_looks_76 : decode cX10_looks 76 = .ok (.i2l, 1) := by decide +kernel
theorem dX10_looks_77 : decode cX10_looks 77 = .ok (.aload_n 0, 1) := by decide +kernel
theorem dX10_looks_78 : decode cX10_looks 78 = .ok (.iload 4, 2) := by decide +kernel
theorem dX10_looks_80 : decode cX10_looks 80 = .ok (.iconst 5, 1) := by decide +kernel
theorem dX10_looks_81 : decode cX10_looks 81 = .ok (.invokevirtual 156, 3) := by decide +kernel
theorem dX10_looks_84 : decode cX10_looks 84 = .ok (.i2l, 1) := by decide +kernel
theorem dX10_looks_85 : decode cX10_looks 85 = .ok (.invokestatic 152, 3) := by decide +kernel
theorem dX10_looks_88 : decode cX10_looks 88 = .ok (.ifCond .ne 11, 3) := by decide +kernel
theorem dX10_looks_91 : decode cX10_looks 91 = .ok (.aload_n 0, 1) := by decide +kernel
theorem dX10_looks_92 : decode cX10_looks 92 = .ok (.iload 4, 2) := by decide +kernel
theorem dX10_looks_94 : decode cX10_looks 94 = .ok (.iconst 5, 1) := by decide +kernel
theorem dX10_looks_95 : decode cX10_looks 95 = .ok (.iload_n 2, 1) := by decide +kernel
theorem dX10_looks_96 : decode cX10_looks 96 = .ok (.invokevirtual 462, 3) := by decide +kernel
theorem dX10_looks_99 : decode cX10_looks 99 = .ok (.iinc 4 1, 3) := by decide +kernel
theorem dX10_looks_102 : decode cX10_looks 102 = .ok (.goto (-81), 3) := by decide +kernel
theorem dX10_looks_105 : decode cX10_looks 105 = .ok (.iconst 0, 1) := by decide +kernel
theorem dX10_looks_106 : decode cX10_looks 106 = .ok (.istore 4, 2) := by decide +kernel
theorem dX10_looks_108 : decode cX10_looks 108 = .ok (.iload 4, 2) := by decide +kernel
theorem dX10_looks_110 : decode cX10_looks 110 = .ok (.aload_n 0, 1) := by decide +kernel
theorem dX10_looks_111 : decode cX10_looks 111 = .ok (.getfield 9, 3) := by decide +kernel
theorem dX10_looks_114 : decode cX10_looks 114 = .ok (.iconst 3, 1) := by decide +kernel
theorem dX10_looks_115 : decode cX10_looks 115 = .ok (.iaload, 1) := by decide +kernel
theorem dX10_looks_116 : decode cX10_looks 116 = .ok (.if_icmp .ge 89, 3) := by decide +kernel
theorem dX10_looks_119 : decode cX10_looks 119 = .ok (.aload_n 0, 1) := by decide +kernel
theorem dX10_looks_120 : decode cX10_looks 120 = .ok (.getfield 442, 3) := by decide +kernel
theorem dX10_looks_123 : decode cX10_looks 123 = .ok (.ifCond .ne 82, 3) := by decide +kernel
theorem dX10_looks_126 : decode cX10_looks 126 = .ok (.aload_n 0, 1) := by decide +kernel
theorem dX10_looks_127 : decode cX10_looks 127 = .ok (.getfield 9, 3) := by decide +kernel
theorem dX10_looks_130 : decode cX10_looks 130 = .ok (.bipush 8, 2) := by decide +kernel
theorem dX10_looks_132 : decode cX10_looks 132 = .ok (.iload 4, 2) := by decide +kernel
theorem dX10_looks_134 : decode cX10_looks 134 = .ok (.iadd, 1) := by decide +kernel
theorem dX10_looks_135 : decode cX10_looks 135 = .ok (.iaload, 1) := by decide +kernel
theorem dX10_looks_136 : decode cX10_looks 136 = .ok (.iload_n 1, 1) := by decide +kernel
theorem dX10_looks_137 : decode cX10_looks 137 = .ok (.if_icmp .ne 62, 3) := by decide +kernel
theorem dX10_looks_140 : decode cX10_looks 140 = .ok (.aload_n 0, 1) := by decide +kernel
theorem dX10_looks_141 : decode cX10_looks 141 = .ok (.getfield 129, 3) := by decide +kernel
theorem dX10_looks_144 : decode cX10_looks 144 = .ok (.iload 4, 2) := by decide +kernel
theorem dX10_looks_146 : decode cX10_looks 146 = .ok (.baload, 1) := by decide +kernel
theorem dX10_looks_147 : decode cX10_looks 147 = .ok (.ifCond .eq 6, 3) := by decide +kernel
theorem dX10_looks_150 : decode cX10_looks 150 = .ok (.goto 49, 3) := by decide +kernel
theorem dX10_looks_153 : decode cX10_looks 153 = .ok (.aload_n 0, 1) := by decide +kernel
theorem dX10_looks_154 : decode cX10_looks 154 = .ok (.getfield 126, 3) := by decide +kernel
theorem dX10_looks_157 : decode cX10_looks 157 = .ok (.iload 4, 2) := by decide +kernel
theorem dX10_looks_159 : decode cX10_looks 159 = .ok (.baload, 1) := by decide +kernel
theorem dX10_looks_160 : decode cX10_looks 160 = .ok (.ifCond .eq 7, 3) := by decide +kernel
theorem dX10_looks_163 : decode cX10_looks 163 = .ok (.iconst 3, 1) := by decide +kernel
theorem dX10_looks_164 : decode cX10_looks 164 = .ok (.goto 4, 3) := by decide +kernel
theorem dX10_looks_167 : decode cX10_looks 167 = .ok (.iconst 2, 1) := by decide +kernel
theorem dX10_looks_168 : decode cX10_looks 168 = .ok (.istore 5, 2) := by decide +kernel
theorem dX10_looks_170 : decode cX10_looks 170 = .ok (.aload_n 0, 1) := by decide +kernel
theorem dX10_looks_171 : decode cX10_looks 171 = .ok (.getfield 126, 3) := by decide +kernel
theorem dX10_looks_174 : decode cX10_looks 174 = .ok (.iload 4, 2) := by decide +kernel
theorem dX10_looks_176 : decode cX10_looks 176 = .ok (.iconst 1, 1) := by decide +kernel
theorem dX10_looks_177 : decode cX10_looks 177 = .ok (.bastore, 1) := by decide +kernel
theorem dX10_looks_178 : decode cX10_looks 178 = .ok (.aload_n 0, 1) := by decide +kernel
theorem dX10_looks_179 : decode cX10_looks 179 = .ok (.iload_n 2, 1) := by decide +kernel
theorem dX10_looks_180 : decode cX10_looks 180 = .ok (.bipush 6, 2) := by decide +kernel
theorem dX10_looks_182 : decode cX10_looks 182 = .ok (.iload 4, 2) := by decide +kernel
theorem dX10_looks_184 : decode cX10_looks 184 = .ok (.iload 5, 2) := by decide +kernel
theorem dX10_looks_186 : decode cX10_looks 186 = .ok (.invokevirtual 447, 3) := by decide +kernel
theorem dX10_looks_189 : decode cX10_looks 189 = .ok (.aload_n 0, 1) := by decide +kernel
theorem dX10_looks_190 : decode cX10_looks 190 = .ok (.iload 5, 2) := by decide +kernel
theorem dX10_looks_192 : decode cX10_looks 192 = .ok (.iconst (-1), 1) := by decide +kernel
theorem dX10_looks_193 : decode cX10_looks 193 = .ok (.iload 4, 2) := by decide +kernel
theorem dX10_looks_195 : decode cX10_looks 195 = .ok (.iload_n 2, 1) := by decide +kernel
theorem dX10_looks_196 : decode cX10_looks 196 = .ok (.invokevirtual 450, 3) := by decide +kernel
theorem dX10_looks_199 : decode cX10_looks 199 = .ok (.iinc 4 1, 3) := by decide +kernel
theorem dX10_looks_202 : decode cX10_looks 202 = .ok (.goto (-94), 3) := by decide +kernel
theorem dX10_looks_205 : decode cX10_looks 205 = .ok (.return_, 1) := by decide +kernel
theorem dX10_endsCycle_0 : decode cX10_endsCycle 0 = .ok (.aload_n 0, 1) := by decide +kernel
theorem dX10_endsCycle_1 : decode cX10_endsCycle 1 = .ok (.getfield 9, 3) := by decide +kernel
theorem dX10_endsCycle_4 : decode cX10_endsCycle 4 = .ok (.iconst 3, 1) := by decide +kernel
theorem dX10_endsCycle_5 : decode cX10_endsCycle 5 = .ok (.iaload, 1) := by decide +kernel
theorem dX10_endsCycle_6 : decode cX10_endsCycle 6 = .ok (.iconst 1, 1) := by decide +kernel
theorem dX10_endsCycle_7 : decode cX10_endsCycle 7 = .ok (.isub, 1) := by decide +kernel
theorem dX10_endsCycle_8 : decode cX10_endsCycle 8 = .ok (.istore_n 2, 1) := by decide +kernel
theorem dX10_endsCycle_9 : decode cX10_endsCycle 9 = .ok (.iload_n 2, 1) := by decide +kernel
theorem dX10_endsCycle_10 : decode cX10_endsCycle 10 = .ok (.ifCond .lt 31, 3) := by decide +kernel
theorem dX10_endsCycle_13 : decode cX10_endsCycle 13 = .ok (.aload_n 0, 1) := by decide +kernel
theorem dX10_endsCycle_14 : decode cX10_endsCycle 14 = .ok (.getfield 442, 3) := by decide +kernel
theorem dX10_endsCycle_17 : decode cX10_endsCycle 17 = .ok (.ifCond .ne 24, 3) := by decide +kernel
theorem dX10_endsCycle_20 : decode cX10_endsCycle 20 = .ok (.aload_n 0, 1) := by decide +kernel
theorem dX10_endsCycle_21 : decode cX10_endsCycle 21 = .ok (.iload_n 2, 1) := by decide +kernel
theorem dX10_endsCycle_22 : decode cX10_endsCycle 22 = .ok (.iload_n 1, 1) := by decide +kernel
theorem dX10_endsCycle_23 : decode cX10_endsCycle 23 = .ok (.invokevirtual 472, 3) := by decide +kernel
theorem dX10_endsCycle_26 : decode cX10_endsCycle 26 = .ok (.ifCond .ne 9, 3) := by decide +kernel
theorem dX10_endsCycle_29 : decode cX10_endsCycle 29 = .ok (.aload_n 0, 1) := by decide +kernel
theorem dX10_endsCycle_30 : decode cX10_endsCycle 30 = .ok (.iload_n 2, 1) := by decide +kernel
theorem dX10_endsCycle_31 : decode cX10_endsCycle 31 = .ok (.iload_n 1, 1) := by decide +kernel
theorem dX10_endsCycle_32 : decode cX10_endsCycle 32 = .ok (.invokevirtual 475, 3) := by decide +kernel
theorem dX10_endsCycle_35 : decode cX10_endsCycle 35 = .ok (.iinc 2 (-1), 3) := by decide +kernel
theorem dX10_endsCycle_38 : decode cX10_endsCycle 38 = .ok (.goto (-29), 3) := by decide +kernel
theorem dX10_endsCycle_41 : decode cX10_endsCycle 41 = .ok (.aload_n 0, 1) := by decide +kernel
theorem dX10_endsCycle_42 : decode cX10_endsCycle 42 = .ok (.getfield 442, 3) := by decide +kernel
theorem dX10_endsCycle_45 : decode cX10_endsCycle 45 = .ok (.ifCond .ne 38, 3) := by decide +kernel
theorem dX10_endsCycle_48 : decode cX10_endsCycle 48 = .ok (.aload_n 0, 1) := by decide +kernel
theorem dX10_endsCycle_49 : decode cX10_endsCycle 49 = .ok (.getfield 9, 3) := by decide +kernel
theorem dX10_endsCycle_52 : decode cX10_endsCycle 52 = .ok (.iconst 3, 1) := by decide +kernel
theorem dX10_endsCycle_53 : decode cX10_endsCycle 53 = .ok (.iaload, 1) := by decide +kernel
theorem dX10_endsCycle_54 : decode cX10_endsCycle 54 = .ok (.ifCond .le 29, 3) := by decide +kernel
theorem dX10_endsCycle_57 : decode cX10_endsCycle 57 = .ok (.aload_n 0, 1) := by decide +kernel
theorem dX10_endsCycle_58 : decode cX10_endsCycle 58 = .ok (.getfield 129, 3) := by decide +kernel
theorem dX10_endsCycle_61 : decode cX10_endsCycle 61 = .ok (.iconst 0, 1) := by decide +kernel
theorem dX10_endsCycle_62 : decode cX10_endsCycle 62 = .ok (.baload, 1) := by decide +kernel
theorem dX10_endsCycle_63 : decode cX10_endsCycle 63 = .ok (.ifCond .ne 20, 3) := by decide +kernel
theorem dX10_endsCycle_66 : decode cX10_endsCycle 66 = .ok (.aload_n 0, 1) := by decide +kernel
theorem dX10_endsCycle_67 : decode cX10_endsCycle 67 = .ok (.iload_n 1, 1) := by decide +kernel
theorem dX10_endsCycle_68 : decode cX10_endsCycle 68 = .ok (.bipush 7, 2) := by decide +kernel
theorem dX10_endsCycle_70 : decode cX10_endsCycle 70 = .ok (.iconst 0, 1) := by decide +kernel
theorem dX10_endsCycle_71 : decode cX10_endsCycle 71 = .ok (.iconst 3, 1) := by decide +kernel
theorem dX10_endsCycle_72 : decode cX10_endsCycle 72 = .ok (.invokevirtual 447, 3) := by decide +kernel
theorem dX10_endsCycle_75 : decode cX10_endsCycle 75 = .ok (.aload_n 0, 1) := by decide +kernel
theorem dX10_endsCycle_76 : decode cX10_endsCycle 76 = .ok (.iconst 3, 1) := by decide +kernel
theorem dX10_endsCycle_77 : decode cX10_endsCycle 77 = .ok (.iconst (-1), 1) := by decide +kernel
theorem dX10_endsCycle_78 : decode cX10_endsCycle 78 = .ok (.iconst (-1), 1) := by decide +kernel
theorem dX10_endsCycle_79 : decode cX10_endsCycle 79 = .ok (.iload_n 1, 1) := by decide +kernel
theorem dX10_endsCycle_80 : decode cX10_endsCycle 80 = .ok (.invokevirtual 450, 3) := by decide +kernel
theorem dX10_endsCycle_83 : decode cX10_endsCycle 83 = .ok (.iconst 0, 1) := by decide +kernel
theorem dX10_endsCycle_84 : decode cX10_endsCycle 84 = .ok (.istore_n 2, 1) := by decide +kernel
theorem dX10_endsCycle_85 : decode cX10_endsCycle 85 = .ok (.iload_n 2, 1) := by decide +kernel
theorem dX10_endsCycle_86 : decode cX10_endsCycle 86 = .ok (.aload_n 0, 1) := by decide +kernel
theorem dX10_endsCycle_87 : decode cX10_endsCycle 87 = .ok (.getfield 9, 3) := by decide +kernel
theorem dX10_endsCycle_90 : decode cX10_endsCycle 90 = .ok (.iconst 4, 1) := by decide +kernel
theorem dX10_endsCycle_91 : decode cX10_endsCycle 91 = .ok (.iaload, 1) := by decide +kernel
theorem dX10_endsCycle_92 : decode cX10_endsCycle 92 = .ok (.if_icmp .ge 77, 3) := by decide +kernel
theorem dX10_endsCycle_95 : decode cX10_endsCycle 95 = .ok (.aload_n 0, 1) := by decide +kernel
theorem dX10_endsCycle_96 : decode cX10_endsCycle 96 = .ok (.getfield 442, 3) := by decide +kernel
theorem dX10_endsCycle_99 : decode cX10_endsCycle 99 = .ok (.ifCond .ne 70, 3) := by decide +kernel
theorem dX10_endsCycle_102 : decode cX10_endsCycle 102 = .ok (.aload_n 0, 1) := by decide +kernel
theorem dX10_endsCycle_103 : decode cX10_endsCycle 103 = .ok (.getfield 98, 3) := by decide +kernel
theorem dX10_endsCycle_106 : decode cX10_endsCycle 106 = .ok (.iload_n 2, 1) := by decide +kernel
theorem dX10_endsCycle_107 : decode cX10_endsCycle 107 = .ok (.baload, 1) := by decide +kernel
theorem dX10_endsCycle_108 : decode cX10_endsCycle 108 = .ok (.ifCond .ne 55, 3) := by decide +kernel
theorem dX10_endsCycle_111 : decode cX10_endsCycle 111 = .ok (.aload_n 0, 1) := by decide +kernel
theorem dX10_endsCycle_112 : decode cX10_endsCycle 112 = .ok (.getfield 88, 3) := by decide +kernel
theorem dX10_endsCycle_115 : decode cX10_endsCycle 115 = .ok (.iload_n 2, 1) := by decide +kernel
theorem dX10_endsCycle_116 : decode cX10_endsCycle 116 = .ok (.iaload, 1) := by decide +kernel
theorem dX10_endsCycle_117 : decode cX10_endsCycle 117 = .ok (.ifCond .ne 6, 3) := by decide +kernel
theorem dX10_endsCycle_120 : decode cX10_endsCycle 120 = .ok (.goto 43, 3) := by decide +kernel
theorem dX10_endsCycle_123 : decode cX10_endsCycle 123 = .ok (.aload_n 0, 1) := by decide +kernel
theorem dX10_endsCycle_124 : decode cX10_endsCycle 124 = .ok (.getfield 95, 3) := by decide +kernel
theorem dX10_endsCycle_127 : decode cX10_endsCycle 127 = .ok (.iload_n 2, 1) := by decide +kernel
theorem dX10_endsCycle_128 : decode cX10_endsCycle 128 = .ok (.dup2, 1) := by decide +kernel
theorem dX10_endsCycle_129 : decode cX10_endsCycle 129 = .ok (.iaload, 1) := by decide +kernel
theorem dX10_endsCycle_130 : decode cX10_endsCycle 130 = .ok (.iconst 1, 1) := by decide +kernel
theorem dX10_endsCycle_131 : decode cX10_endsCycle 131 = .ok (.iadd, 1) := by decide +kernel
theorem dX10_endsCycle_132 : decode cX10_endsCycle 132 = .ok (.iastore, 1) := by decide +kernel
theorem dX10_endsCycle_133 : decode cX10_endsCycle 133 = .ok (.aload_n 0, 1) := by decide +kernel
theorem dX10_endsCycle_134 : decode cX10_endsCycle 134 = .ok (.getfield 95, 3) := by decide +kernel
theorem dX10_endsCycle_137 : decode cX10_endsCycle 137 = .ok (.iload_n 2, 1) := by decide +kernel
theorem dX10_endsCycle_138 : decode cX10_endsCycle 138 = .ok (.iaload, 1) := by decide +kernel
theorem dX10_endsCycle_139 : decode cX10_endsCycle 139 = .ok (.iconst 3, 1) := by decide +kernel
theorem dX10_endsCycle_140 : decode cX10_endsCycle 140 = .ok (.if_icmp .ge 6, 3) := by decide +kernel
theorem dX10_endsCycle_143 : decode cX10_endsCycle 143 = .ok (.goto 20, 3) := by decide +kernel
theorem dX10_endsCycle_146 : decode cX10_endsCycle 146 = .ok (.aload_n 0, 1) := by decide +kernel
theorem dX10_endsCycle_147 : decode cX10_endsCycle 147 = .ok (.getfield 95, 3) := by decide +kernel
theorem dX10_endsCycle_150 : decode cX10_endsCycle 150 = .ok (.iload_n 2, 1) := by decide +kernel
theorem dX10_endsCycle_151 : decode cX10_endsCycle 151 = .ok (.iconst 0, 1) := by decide +kernel
theorem dX10_endsCycle_152 : decode cX10_endsCycle 152 = .ok (.iastore, 1) := by decide +kernel
theorem dX10_endsCycle_153 : decode cX10_endsCycle 153 = .ok (.aload_n 0, 1) := by decide +kernel
theorem dX10_endsCycle_154 : decode cX10_endsCycle 154 = .ok (.getfield 88, 3) := by decide +kernel
theorem dX10_endsCycle_157 : decode cX10_endsCycle 157 = .ok (.iload_n 2, 1) := by decide +kernel
theorem dX10_endsCycle_158 : decode cX10_endsCycle 158 = .ok (.dup2, 1) := by decide +kernel
theorem dX10_endsCycle_159 : decode cX10_endsCycle 159 = .ok (.iaload, 1) := by decide +kernel
theorem dX10_endsCycle_160 : decode cX10_endsCycle 160 = .ok (.iconst 1, 1) := by decide +kernel
theorem dX10_endsCycle_161 : decode cX10_endsCycle 161 = .ok (.isub, 1) := by decide +kernel
theorem dX10_endsCycle_162 : decode cX10_endsCycle 162 = .ok (.iastore, 1) := by decide +kernel
theorem dX10_endsCycle_163 : decode cX10_endsCycle 163 = .ok (.iinc 2 1, 3) := by decide +kernel
theorem dX10_endsCycle_166 : decode cX10_endsCycle 166 = .ok (.goto (-81), 3) := by decide +kernel
theorem dX10_endsCycle_169 : decode cX10_endsCycle 169 = .ok (.return_, 1) := by decide +kernel
theorem dX10_newCycle_0 : decode cX10_newCycle 0 = .ok (.iconst 0, 1) := by decide +kernel
theorem dX10_newCycle_1 : decode cX10_newCycle 1 = .ok (.istore_n 1, 1) := by decide +kernel
theorem dX10_newCycle_2 : decode cX10_newCycle 2 = .ok (.iload_n 1, 1) := by decide +kernel
theorem dX10_newCycle_3 : decode cX10_newCycle 3 = .ok (.iconst 5, 1) := by decide +kernel
theorem dX10_newCycle_4 : decode cX10_newCycle 4 = .ok (.if_icmp .ge 23, 3) := by decide +kernel
theorem dX10_newCycle_7 : decode cX10_newCycle 7 = .ok (.aload_n 0, 1) := by decide +kernel
theorem dX10_newCycle_8 : decode cX10_newCycle 8 = .ok (.getfield 85, 3) := by decide +kernel
theorem dX10_newCycle_11 : decode cX10_newCycle 11 = .ok (.iload_n 1, 1) := by decide +kernel
theorem dX10_newCycle_12 : decode cX10_newCycle 12 = .ok (.iconst 0, 1) := by decide +kernel
theorem dX10_newCycle_13 : decode cX10_newCycle 13 = .ok (.iastore, 1) := by decide +kernel
theorem dX10_newCycle_14 : decode cX10_newCycle 14 = .ok (.aload_n 0, 1) := by decide +kernel
theorem dX10_newCycle_15 : decode cX10_newCycle 15 = .ok (.getfield 98, 3) := by decide +kernel
theorem dX10_newCycle_18 : decode cX10_newCycle 18 = .ok (.iload_n 1, 1) := by decide +kernel
theorem dX10_newCycle_19 : decode cX10_newCycle 19 = .ok (.iconst 0, 1) := by decide +kernel
theorem dX10_newCycle_20 : decode cX10_newCycle 20 = .ok (.bastore, 1) := by decide +kernel
theorem dX10_newCycle_21 : decode cX10_newCycle 21 = .ok (.iinc 1 1, 3) := by decide +kernel
theorem dX10_newCycle_24 : decode cX10_newCycle 24 = .ok (.goto (-22), 3) := by decide +kernel
theorem dX10_newCycle_27 : decode cX10_newCycle 27 = .ok (.iconst 0, 1) := by decide +kernel
theorem dX10_newCycle_28 : decode cX10_newCycle 28 = .ok (.istore_n 1, 1) := by decide +kernel
theorem dX10_newCycle_29 : decode cX10_newCycle 29 = .ok (.iload_n 1, 1) := by decide +kernel
theorem dX10_newCycle_30 : decode cX10_newCycle 30 = .ok (.iconst 3, 1) := by decide +kernel
theorem dX10_newCycle_31 : decode cX10_newCycle 31 = .ok (.if_icmp .ge 16, 3) := by decide +kernel
theorem dX10_newCycle_34 : decode cX10_newCycle 34 = .ok (.aload_n 0, 1) := by decide +kernel
theorem dX10_newCycle_35 : decode cX10_newCycle 35 = .ok (.getfield 129, 3) := by decide +kernel
theorem dX10_newCycle_38 : decode cX10_newCycle 38 = .ok (.iload_n 1, 1) := by decide +kernel
theorem dX10_newCycle_39 : decode cX10_newCycle 39 = .ok (.iconst 0, 1) := by decide +kernel
theorem dX10_newCycle_40 : decode cX10_newCycle 40 = .ok (.bastore, 1) := by decide +kernel
theorem dX10_newCycle_41 : decode cX10_newCycle 41 = .ok (.iinc 1 1, 3) := by decide +kernel
theorem dX10_newCycle_44 : decode cX10_newCycle 44 = .ok (.goto (-15), 3) := by decide +kernel
theorem dX10_newCycle_47 : decode cX10_newCycle 47 = .ok (.return_, 1) := by decide +kernel
theorem dX10_tick_0 : decode cX10_tick 0 = .ok (.aload_n 0, 1) := by decide +kernel
theorem dX10_tick_1 : decode cX10_tick 1 = .ok (.iconst 0, 1) := by decide +kernel
theorem dX10_tick_2 : decode cX10_tick 2 = .ok (.putfield 442, 3) := by decide +kernel
theorem dX10_tick_5 : decode cX10_tick 5 = .ok (.aload_n 0, 1) := by decide +kernel
theorem dX10_tick_6 : decode cX10_tick 6 = .ok (.iload_n 1, 1) := by decide +kernel
theorem dX10_tick_7 : decode cX10_tick 7 = .ok (.invokevirtual 478, 3) := by decide +kernel
theorem dX10_tick_10 : decode cX10_tick 10 = .ok (.aload_n 0, 1) := by decide +kernel
theorem dX10_tick_11 : decode cX10_tick 11 = .ok (.invokevirtual 481, 3) := by decide +kernel
theorem dX10_tick_14 : decode cX10_tick 14 = .ok (.istore_n 2, 1) := by decide +kernel
theorem dX10_tick_15 : decode cX10_tick 15 = .ok (.aload_n 0, 1) := by decide +kernel
theorem dX10_tick_16 : decode cX10_tick 16 = .ok (.getfield 132, 3) := by decide +kernel
theorem dX10_tick_19 : decode cX10_tick 19 = .ok (.iload_n 1, 1) := by decide +kernel
theorem dX10_tick_20 : decode cX10_tick 20 = .ok (.iload_n 2, 1) := by decide +kernel
theorem dX10_tick_21 : decode cX10_tick 21 = .ok (.iastore, 1) := by decide +kernel
theorem dX10_tick_22 : decode cX10_tick 22 = .ok (.iload_n 2, 1) := by decide +kernel
theorem dX10_tick_23 : decode cX10_tick 23 = .ok (.iconst (-1), 1) := by decide +kernel
theorem dX10_tick_24 : decode cX10_tick 24 = .ok (.if_icmp .eq 9, 3) := by decide +kernel
theorem dX10_tick_27 : decode cX10_tick 27 = .ok (.aload_n 0, 1) := by decide +kernel
theorem dX10_tick_28 : decode cX10_tick 28 = .ok (.iload_n 2, 1) := by decide +kernel
theorem dX10_tick_29 : decode cX10_tick 29 = .ok (.iload_n 1, 1) := by decide +kernel
theorem dX10_tick_30 : decode cX10_tick 30 = .ok (.invokevirtual 484, 3) := by decide +kernel
theorem dX10_tick_33 : decode cX10_tick 33 = .ok (.aload_n 0, 1) := by decide +kernel
theorem dX10_tick_34 : decode cX10_tick 34 = .ok (.iload_n 1, 1) := by decide +kernel
theorem dX10_tick_35 : decode cX10_tick 35 = .ok (.invokevirtual 487, 3) := by decide +kernel
theorem dX10_tick_38 : decode cX10_tick 38 = .ok (.iload_n 1, 1) := by decide +kernel
theorem dX10_tick_39 : decode cX10_tick 39 = .ok (.iconst 1, 1) := by decide +kernel
theorem dX10_tick_40 : decode cX10_tick 40 = .ok (.iadd, 1) := by decide +kernel
theorem dX10_tick_41 : decode cX10_tick 41 = .ok (.aload_n 0, 1) := by decide +kernel
theorem dX10_tick_42 : decode cX10_tick 42 = .ok (.getfield 9, 3) := by decide +kernel
theorem dX10_tick_45 : decode cX10_tick 45 = .ok (.iconst 1, 1) := by decide +kernel
theorem dX10_tick_46 : decode cX10_tick 46 = .ok (.iaload, 1) := by decide +kernel
theorem dX10_tick_47 : decode cX10_tick 47 = .ok (.irem, 1) := by decide +kernel
theorem dX10_tick_48 : decode cX10_tick 48 = .ok (.ifCond .eq 4, 3) := by decide +kernel
theorem dX10_tick_51 : decode cX10_tick 51 = .ok (.return_, 1) := by decide +kernel
theorem dX10_tick_52 : decode cX10_tick 52 = .ok (.aload_n 0, 1) := by decide +kernel
theorem dX10_tick_53 : decode cX10_tick 53 = .ok (.getfield 442, 3) := by decide +kernel
theorem dX10_tick_56 : decode cX10_tick 56 = .ok (.ifCond .ne 8, 3) := by decide +kernel
theorem dX10_tick_59 : decode cX10_tick 59 = .ok (.aload_n 0, 1) := by decide +kernel
theorem dX10_tick_60 : decode cX10_tick 60 = .ok (.iload_n 1, 1) := by decide +kernel
theorem dX10_tick_61 : decode cX10_tick 61 = .ok (.invokevirtual 490, 3) := by decide +kernel
theorem dX10_tick_64 : decode cX10_tick 64 = .ok (.aload_n 0, 1) := by decide +kernel
theorem dX10_tick_65 : decode cX10_tick 65 = .ok (.getfield 424, 3) := by decide +kernel
theorem dX10_tick_68 : decode cX10_tick 68 = .ok (.iconst (-1), 1) := by decide +kernel
theorem dX10_tick_69 : decode cX10_tick 69 = .ok (.if_icmp .ne 7, 3) := by decide +kernel
theorem dX10_tick_72 : decode cX10_tick 72 = .ok (.aload_n 0, 1) := by decide +kernel
theorem dX10_tick_73 : decode cX10_tick 73 = .ok (.invokevirtual 493, 3) := by decide +kernel
theorem dX10_tick_76 : decode cX10_tick 76 = .ok (.return_, 1) := by decide +kernel
theorem dX10_runs_0 : decode cX10_runs 0 = .ok (.aload_n 0, 1) := by decide +kernel
theorem dX10_runs_1 : decode cX10_runs 1 = .ok (.invokevirtual 496, 3) := by decide +kernel
theorem dX10_runs_4 : decode cX10_runs 4 = .ok (.iconst 0, 1) := by decide +kernel
theorem dX10_runs_5 : decode cX10_runs 5 = .ok (.istore_n 2, 1) := by decide +kernel
theorem dX10_runs_6 : decode cX10_runs 6 = .ok (.iload_n 2, 1) := by decide +kernel
theorem dX10_runs_7 : decode cX10_runs 7 = .ok (.iload_n 1, 1) := by decide +kernel
theorem dX10_runs_8 : decode cX10_runs 8 = .ok (.if_icmp .ge 22, 3) := by decide +kernel
theorem dX10_runs_11 : decode cX10_runs 11 = .ok (.aload_n 0, 1) := by decide +kernel
theorem dX10_runs_12 : decode cX10_runs 12 = .ok (.getfield 424, 3) := by decide +kernel
theorem dX10_runs_15 : decode cX10_runs 15 = .ok (.iconst (-1), 1) := by decide +kernel
theorem dX10_runs_16 : decode cX10_runs 16 = .ok (.if_icmp .ne 14, 3) := by decide +kernel
theorem dX10_runs_19 : decode cX10_runs 19 = .ok (.aload_n 0, 1) := by decide +kernel
theorem dX10_runs_20 : decode cX10_runs 20 = .ok (.iload_n 2, 1) := by decide +kernel
theorem dX10_runs_21 : decode cX10_runs 21 = .ok (.invokevirtual 499, 3) := by decide +kernel
theorem dX10_runs_24 : decode cX10_runs 24 = .ok (.iinc 2 1, 3) := by decide +kernel
theorem dX10_runs_27 : decode cX10_runs 27 = .ok (.goto (-21), 3) := by decide +kernel
theorem dX10_runs_30 : decode cX10_runs 30 = .ok (.return_, 1) := by decide +kernel
theorem dX10_asks_0 : decode cX10_asks 0 = .ok (.aload_n 0, 1) := by decide +kernel
theorem dX10_asks_1 : decode cX10_asks 1 = .ok (.invokevirtual 501, 3) := by decide +kernel
theorem dX10_asks_4 : decode cX10_asks 4 = .ok (.aload_n 0, 1) := by decide +kernel
theorem dX10_asks_5 : decode cX10_asks 5 = .ok (.invokevirtual 372, 3) := by decide +kernel
theorem dX10_asks_8 : decode cX10_asks 8 = .ok (.ifCond .eq 13, 3) := by decide +kernel
theorem dX10_asks_11 : decode cX10_asks 11 = .ok (.aload_n 0, 1) := by decide +kernel
theorem dX10_asks_12 : decode cX10_asks 12 = .ok (.aload_n 0, 1) := by decide +kernel
theorem dX10_asks_13 : decode cX10_asks 13 = .ok (.getfield 9, 3) := by decide +kernel
theorem dX10_asks_16 : decode cX10_asks 16 = .ok (.iconst 0, 1) := by decide +kernel
theorem dX10_asks_17 : decode cX10_asks 17 = .ok (.iaload, 1) := by decide +kernel
theorem dX10_asks_18 : decode cX10_asks 18 = .ok (.invokevirtual 504, 3) := by decide +kernel
theorem dX10_asks_21 : decode cX10_asks 21 = .ok (.aload_n 0, 1) := by decide +kernel
theorem dX10_asks_22 : decode cX10_asks 22 = .ok (.invokevirtual 372, 3) := by decide +kernel
theorem dX10_asks_25 : decode cX10_asks 25 = .ok (.ireturn, 1) := by decide +kernel
theorem dX10_isTick_0 : decode cX10_isTick 0 = .ok (.aload_n 0, 1) := by decide +kernel
theorem dX10_isTick_1 : decode cX10_isTick 1 = .ok (.invokevirtual 372, 3) := by decide +kernel
theorem dX10_isTick_4 : decode cX10_isTick 4 = .ok (.ifCond .eq 23, 3) := by decide +kernel
theorem dX10_isTick_7 : decode cX10_isTick 7 = .ok (.iload_n 1, 1) := by decide +kernel
theorem dX10_isTick_8 : decode cX10_isTick 8 = .ok (.i2l, 1) := by decide +kernel
theorem dX10_isTick_9 : decode cX10_isTick 9 = .ok (.lconst 0, 1) := by decide +kernel
theorem dX10_isTick_10 : decode cX10_isTick 10 = .ok (.aload_n 0, 1) := by decide +kernel
theorem dX10_isTick_11 : decode cX10_isTick 11 = .ok (.getfield 9, 3) := by decide +kernel
theorem dX10_isTick_14 : decode cX10_isTick 14 = .ok (.iconst 0, 1) := by decide +kernel
theorem dX10_isTick_15 : decode cX10_isTick 15 = .ok (.iaload, 1) := by decide +kernel
theorem dX10_isTick_16 : decode cX10_isTick 16 = .ok (.i2l, 1) := by decide +kernel
theorem dX10_isTick_17 : decode cX10_isTick 17 = .ok (.invokestatic 152, 3) := by decide +kernel
theorem dX10_isTick_20 : decode cX10_isTick 20 = .ok (.ifCond .eq 7, 3) := by decide +kernel
theorem dX10_isTick_23 : decode cX10_isTick 23 = .ok (.iconst 1, 1) := by decide +kernel
theorem dX10_isTick_24 : decode cX10_isTick 24 = .ok (.goto 4, 3) := by decide +kernel
theorem dX10_isTick_27 : decode cX10_isTick 27 = .ok (.iconst 0, 1) := by decide +kernel
theorem dX10_isTick_28 : decode cX10_isTick 28 = .ok (.ireturn, 1) := by decide +kernel
theorem dX10_asksAt_0 : decode cX10_asksAt 0 = .ok (.aload_n 0, 1) := by decide +kernel
theorem dX10_asksAt_1 : decode cX10_asksAt 1 = .ok (.iload_n 1, 1) := by decide +kernel
theorem dX10_asksAt_2 : decode cX10_asksAt 2 = .ok (.invokevirtual 507, 3) := by decide +kernel
theorem dX10_asksAt_5 : decode cX10_asksAt 5 = .ok (.ifCond .ne 5, 3) := by decide +kernel
theorem dX10_asksAt_8 : decode cX10_asksAt 8 = .ok (.iconst 0, 1) := by decide +kernel
theorem dX10_asksAt_9 : decode cX10_asksAt 9 = .ok (.ireturn, 1) := by decide +kernel
theorem dX10_asksAt_10 : decode cX10_asksAt 10 = .ok (.aload_n 0, 1) := by decide +kernel
theorem dX10_asksAt_11 : decode cX10_asksAt 11 = .ok (.invokevirtual 501, 3) := by decide +kernel
theorem dX10_asksAt_14 : decode cX10_asksAt 14 = .ok (.aload_n 0, 1) := by decide +kernel
theorem dX10_asksAt_15 : decode cX10_asksAt 15 = .ok (.iload_n 1, 1) := by decide +kernel
theorem dX10_asksAt_16 : decode cX10_asksAt 16 = .ok (.invokevirtual 504, 3) := by decide +kernel
theorem dX10_asksAt_19 : decode cX10_asksAt 19 = .ok (.iconst 1, 1) := by decide +kernel
theorem dX10_asksAt_20 : decode cX10_asksAt 20 = .ok (.ireturn, 1) := by decide +kernel
theorem dX10_asksOf_0 : decode cX10_asksOf 0 = .ok (.aload_n 0, 1) := by decide +kernel
theorem dX10_asksOf_1 : decode cX10_asksOf 1 = .ok (.iload_n 1, 1) := by decide +kernel
theorem dX10_asksOf_2 : decode cX10_asksOf 2 = .ok (.invokevirtual 333, 3) := by decide +kernel
theorem dX10_asksOf_5 : decode cX10_asksOf 5 = .ok (.ifCond .eq 15, 3) := by decide +kernel
theorem dX10_asksOf_8 : decode cX10_asksOf 8 = .ok (.aload_n 0, 1) := by decide +kernel
theorem dX10_asksOf_9 : decode cX10_asksOf 9 = .ok (.iload_n 2, 1) := by decide +kernel
theorem dX10_asksOf_10 : decode cX10_asksOf 10 = .ok (.invokevirtual 510, 3) := by decide +kernel
theorem dX10_asksOf_13 : decode cX10_asksOf 13 = .ok (.ifCond .eq 7, 3) := by decide +kernel
theorem dX10_asksOf_16 : decode cX10_asksOf 16 = .ok (.iconst 1, 1) := by decide +kernel
theorem dX10_asksOf_17 : decode cX10_asksOf 17 = .ok (.goto 4, 3) := by decide +kernel
theorem dX10_asksOf_20 : decode cX10_asksOf 20 = .ok (.iconst 0, 1) := by decide +kernel
theorem dX10_asksOf_21 : decode cX10_asksOf 21 = .ok (.ireturn, 1) := by decide +kernel
theorem dX10_had_0 : decode cX10_had 0 = .ok (.aload_n 0, 1) := by decide +kernel
theorem dX10_had_1 : decode cX10_had 1 = .ok (.invokevirtual 513, 3) := by decide +kernel
theorem dX10_had_4 : decode cX10_had 4 = .ok (.ifCond .eq 30, 3) := by decide +kernel
theorem dX10_had_7 : decode cX10_had 7 = .ok (.iload_n 1, 1) := by decide +kernel
theorem dX10_had_8 : decode cX10_had 8 = .ok (.i2l, 1) := by decide +kernel
theorem dX10_had_9 : decode cX10_had 9 = .ok (.lconst 0, 1) := by decide +kernel
theorem dX10_had_10 : decode cX10_had 10 = .ok (.aload_n 0, 1) := by decide +kernel
theorem dX10_had_11 : decode cX10_had 11 = .ok (.getfield 9, 3) := by decide +kernel
theorem dX10_had_14 : decode cX10_had 14 = .ok (.iconst 0, 1) := by decide +kernel
theorem dX10_had_15 : decode cX10_had 15 = .ok (.iaload, 1) := by decide +kernel
theorem dX10_had_16 : decode cX10_had 16 = .ok (.iconst 1, 1) := by decide +kernel
theorem dX10_had_17 : decode cX10_had 17 = .ok (.isub, 1) := by decide +kernel
theorem dX10_had_18 : decode cX10_had 18 = .ok (.i2l, 1) := by decide +kernel
theorem dX10_had_19 : decode cX10_had 19 = .ok (.invokestatic 152, 3) := by decide +kernel
theorem dX10_had_22 : decode cX10_had 22 = .ok (.ifCond .eq 12, 3) := by decide +kernel
theorem dX10_had_25 : decode cX10_had 25 = .ok (.aload_n 0, 1) := by decide +kernel
theorem dX10_had_26 : decode cX10_had 26 = .ok (.getfield 132, 3) := by decide +kernel
theorem dX10_had_29 : decode cX10_had 29 = .ok (.iload_n 1, 1) := by decide +kernel
theorem dX10_had_30 : decode cX10_had 30 = .ok (.iaload, 1) := by decide +kernel
theorem dX10_had_31 : decode cX10_had 31 = .ok (.goto 5, 3) := by decide +kernel
theorem dX10_had_34 : decode cX10_had 34 = .ok (.bipush (-2), 2) := by decide +kernel
theorem dX10_had_36 : decode cX10_had 36 = .ok (.ireturn, 1) := by decide +kernel
theorem dX10_idle_0 : decode cX10_idle 0 = .ok (.aload_n 0, 1) := by decide +kernel
theorem dX10_idle_1 : decode cX10_idle 1 = .ok (.iload_n 1, 1) := by decide +kernel
theorem dX10_idle_2 : decode cX10_idle 2 = .ok (.invokevirtual 510, 3) := by decide +kernel
theorem dX10_idle_5 : decode cX10_idle 5 = .ok (.ifCond .ne 6, 3) := by decide +kernel
theorem dX10_idle_8 : decode cX10_idle 8 = .ok (.bipush (-2), 2) := by decide +kernel
theorem dX10_idle_10 : decode cX10_idle 10 = .ok (.ireturn, 1) := by decide +kernel
theorem dX10_idle_11 : decode cX10_idle 11 = .ok (.iconst 0, 1) := by decide +kernel
theorem dX10_idle_12 : decode cX10_idle 12 = .ok (.istore_n 2, 1) := by decide +kernel
theorem dX10_idle_13 : decode cX10_idle 13 = .ok (.iconst 0, 1) := by decide +kernel
theorem dX10_idle_14 : decode cX10_idle 14 = .ok (.istore_n 3, 1) := by decide +kernel
theorem dX10_idle_15 : decode cX10_idle 15 = .ok (.iload_n 3, 1) := by decide +kernel
theorem dX10_idle_16 : decode cX10_idle 16 = .ok (.iload_n 1, 1) := by decide +kernel
theorem dX10_idle_17 : decode cX10_idle 17 = .ok (.if_icmp .ge 27, 3) := by decide +kernel
theorem dX10_idle_20 : decode cX10_idle 20 = .ok (.iload_n 2, 1) := by decide +kernel
theorem dX10_idle_21 : decode cX10_idle 21 = .ok (.aload_n 0, 1) := by decide +kernel
theorem dX10_idle_22 : decode cX10_idle 22 = .ok (.getfield 132, 3) := by decide +kernel
theorem dX10_idle_25 : decode cX10_idle 25 = .ok (.iload_n 3, 1) := by decide +kernel
theorem dX10_idle_26 : decode cX10_idle 26 = .ok (.iaload, 1) := by decide +kernel
theorem dX10_idle_27 : decode cX10_idle 27 = .ok (.iconst (-1), 1) := by decide +kernel
theorem dX10_idle_28 : decode cX10_idle 28 = .ok (.if_icmp .ne 7, 3) := by decide +kernel
theorem dX10_idle_31 : decode cX10_idle 31 = .ok (.iconst 1, 1) := by decide +kernel
theorem dX10_idle_32 : decode cX10_idle 32 = .ok (.goto 4, 3) := by decide +kernel
theorem dX10_idle_35 : decode cX10_idle 35 = .ok (.iconst 0, 1) := by decide +kernel
theorem dX10_idle_36 : decode cX10_idle 36 = .ok (.iadd, 1) := by decide +kernel
theorem dX10_idle_37 : decode cX10_idle 37 = .ok (.istore_n 2, 1) := by decide +kernel
theorem dX10_idle_38 : decode cX10_idle 38 = .ok (.iinc 3 1, 3) := by decide +kernel
theorem dX10_idle_41 : decode cX10_idle 41 = .ok (.goto (-26), 3) := by decide +kernel
theorem dX10_idle_44 : decode cX10_idle 44 = .ok (.iload_n 2, 1) := by decide +kernel
theorem dX10_idle_45 : decode cX10_idle 45 = .ok (.ireturn, 1) := by decide +kernel
theorem dX10_kicks_0 : decode cX10_kicks 0 = .ok (.aload_n 0, 1) := by decide +kernel
theorem dX10_kicks_1 : decode cX10_kicks 1 = .ok (.iload_n 1, 1) := by decide +kernel
theorem dX10_kicks_2 : decode cX10_kicks 2 = .ok (.iload_n 2, 1) := by decide +kernel
theorem dX10_kicks_3 : decode cX10_kicks 3 = .ok (.invokevirtual 516, 3) := by decide +kernel
theorem dX10_kicks_6 : decode cX10_kicks 6 = .ok (.ifCond .eq 12, 3) := by decide +kernel
theorem dX10_kicks_9 : decode cX10_kicks 9 = .ok (.aload_n 0, 1) := by decide +kernel
theorem dX10_kicks_10 : decode cX10_kicks 10 = .ok (.getfield 101, 3) := by decide +kernel
theorem dX10_kicks_13 : decode cX10_kicks 13 = .ok (.iload_n 1, 1) := by decide +kernel
theorem dX10_kicks_14 : decode cX10_kicks 14 = .ok (.iaload, 1) := by decide +kernel
theorem dX10_kicks_15 : decode cX10_kicks 15 = .ok (.goto 5, 3) := by decide +kernel
theorem dX10_kicks_18 : decode cX10_kicks 18 = .ok (.bipush (-2), 2) := by decide +kernel
theorem dX10_kicks_20 : decode cX10_kicks 20 = .ok (.ireturn, 1) := by decide +kernel
theorem dX10_kicked_0 : decode cX10_kicked 0 = .ok (.aload_n 0, 1) := by decide +kernel
theorem dX10_kicked_1 : decode cX10_kicked 1 = .ok (.iload_n 1, 1) := by decide +kernel
theorem dX10_kicked_2 : decode cX10_kicked 2 = .ok (.iload_n 2, 1) := by decide +kernel
theorem dX10_kicked_3 : decode cX10_kicked 3 = .ok (.invokevirtual 516, 3) := by decide +kernel
theorem dX10_kicked_6 : decode cX10_kicked 6 = .ok (.ifCond .eq 12, 3) := by decide +kernel
theorem dX10_kicked_9 : decode cX10_kicked 9 = .ok (.aload_n 0, 1) := by decide +kernel
theorem dX10_kicked_10 : decode cX10_kicked 10 = .ok (.getfield 104, 3) := by decide +kernel
theorem dX10_kicked_13 : decode cX10_kicked 13 = .ok (.iload_n 1, 1) := by decide +kernel
theorem dX10_kicked_14 : decode cX10_kicked 14 = .ok (.iaload, 1) := by decide +kernel
theorem dX10_kicked_15 : decode cX10_kicked 15 = .ok (.goto 5, 3) := by decide +kernel
theorem dX10_kicked_18 : decode cX10_kicked 18 = .ok (.bipush (-2), 2) := by decide +kernel
theorem dX10_kicked_20 : decode cX10_kicked 20 = .ok (.ireturn, 1) := by decide +kernel
theorem dX10_gap_0 : decode cX10_gap 0 = .ok (.aload_n 0, 1) := by decide +kernel
theorem dX10_gap_1 : decode cX10_gap 1 = .ok (.iload_n 1, 1) := by decide +kernel
theorem dX10_gap_2 : decode cX10_gap 2 = .ok (.invokevirtual 333, 3) := by decide +kernel
theorem dX10_gap_5 : decode cX10_gap 5 = .ok (.ifCond .eq 14, 3) := by decide +kernel
theorem dX10_gap_8 : decode cX10_gap 8 = .ok (.iload_n 2, 1) := by decide +kernel
theorem dX10_gap_9 : decode cX10_gap 9 = .ok (.ifCond .lt 10, 3) := by decide +kernel
theorem dX10_gap_12 : decode cX10_gap 12 = .ok (.aload_n 0, 1) := by decide +kernel
theorem dX10_gap_13 : decode cX10_gap 13 = .ok (.invokevirtual 513, 3) := by decide +kernel
theorem dX10_gap_16 : decode cX10_gap 16 = .ok (.ifCond .ne 6, 3) := by decide +kernel
theorem dX10_gap_19 : decode cX10_gap 19 = .ok (.bipush (-2), 2) := by decide +kernel
theorem dX10_gap_21 : decode cX10_gap 21 = .ok (.ireturn, 1) := by decide +kernel
theorem dX10_gap_22 : decode cX10_gap 22 = .ok (.iload_n 2, 1) := by decide +kernel
theorem dX10_gap_23 : decode cX10_gap 23 = .ok (.aload_n 0, 1) := by decide +kernel
theorem dX10_gap_24 : decode cX10_gap 24 = .ok (.getfield 101, 3) := by decide +kernel
theorem dX10_gap_27 : decode cX10_gap 27 = .ok (.iload_n 1, 1) := by decide +kernel
theorem dX10_gap_28 : decode cX10_gap 28 = .ok (.iaload, 1) := by decide +kernel
theorem dX10_gap_29 : decode cX10_gap 29 = .ok (.if_icmp .ge 18, 3) := by decide +kernel
theorem dX10_gap_32 : decode cX10_gap 32 = .ok (.aload_n 0, 1) := by decide +kernel
theorem dX10_gap_33 : decode cX10_gap 33 = .ok (.getfield 117, 3) := by decide +kernel
theorem dX10_gap_36 : decode cX10_gap 36 = .ok (.sipush 200, 3) := by decide +kernel
theorem dX10_gap_39 : decode cX10_gap 39 = .ok (.iload_n 1, 1) := by decide +kernel
theorem dX10_gap_40 : decode cX10_gap 40 = .ok (.imul, 1) := by decide +kernel
theorem dX10_gap_41 : decode cX10_gap 41 = .ok (.iload_n 2, 1) := by decide +kernel
theorem dX10_gap_42 : decode cX10_gap 42 = .ok (.iadd, 1) := by decide +kernel
theorem dX10_gap_43 : decode cX10_gap 43 = .ok (.iaload, 1) := by decide +kernel
theorem dX10_gap_44 : decode cX10_gap 44 = .ok (.goto 4, 3) := by decide +kernel
theorem dX10_gap_47 : decode cX10_gap 47 = .ok (.iconst (-1), 1) := by decide +kernel
theorem dX10_gap_48 : decode cX10_gap 48 = .ok (.ireturn, 1) := by decide +kernel
theorem dX10_jobs_0 : decode cX10_jobs 0 = .ok (.aload_n 0, 1) := by decide +kernel
theorem dX10_jobs_1 : decode cX10_jobs 1 = .ok (.iload_n 1, 1) := by decide +kernel
theorem dX10_jobs_2 : decode cX10_jobs 2 = .ok (.iload_n 2, 1) := by decide +kernel
theorem dX10_jobs_3 : decode cX10_jobs 3 = .ok (.invokevirtual 516, 3) := by decide +kernel
theorem dX10_jobs_6 : decode cX10_jobs 6 = .ok (.ifCond .eq 12, 3) := by decide +kernel
theorem dX10_jobs_9 : decode cX10_jobs 9 = .ok (.aload_n 0, 1) := by decide +kernel
theorem dX10_jobs_10 : decode cX10_jobs 10 = .ok (.getfield 67, 3) := by decide +kernel
theorem dX10_jobs_13 : decode cX10_jobs 13 = .ok (.iload_n 1, 1) := by decide +kernel
theorem dX10_jobs_14 : decode cX10_jobs 14 = .ok (.iaload, 1) := by decide +kernel
theorem dX10_jobs_15 : decode cX10_jobs 15 = .ok (.goto 5, 3) := by decide +kernel
theorem dX10_jobs_18 : decode cX10_jobs 18 = .ok (.bipush (-2), 2) := by decide +kernel
theorem dX10_jobs_20 : decode cX10_jobs 20 = .ok (.ireturn, 1) := by decide +kernel
theorem dX10_at_0 : decode cX10_at 0 = .ok (.aload_n 0, 1) := by decide +kernel
theorem dX10_at_1 : decode cX10_at 1 = .ok (.iload_n 1, 1) := by decide +kernel
theorem dX10_at_2 : decode cX10_at 2 = .ok (.iload_n 2, 1) := by decide +kernel
theorem dX10_at_3 : decode cX10_at 3 = .ok (.invokevirtual 516, 3) := by decide +kernel
theorem dX10_at_6 : decode cX10_at 6 = .ok (.ifCond .ne 6, 3) := by decide +kernel
theorem dX10_at_9 : decode cX10_at 9 = .ok (.bipush (-2), 2) := by decide +kernel
theorem dX10_at_11 : decode cX10_at 11 = .ok (.ireturn, 1) := by decide +kernel
theorem dX10_at_12 : decode cX10_at 12 = .ok (.aload_n 0, 1) := by decide +kernel
theorem dX10_at_13 : decode cX10_at 13 = .ok (.getfield 64, 3) := by decide +kernel
theorem dX10_at_16 : decode cX10_at 16 = .ok (.iload_n 1, 1) := by decide +kernel
theorem dX10_at_17 : decode cX10_at 17 = .ok (.iaload, 1) := by decide +kernel
theorem dX10_at_18 : decode cX10_at 18 = .ok (.iconst (-1), 1) := by decide +kernel
theorem dX10_at_19 : decode cX10_at 19 = .ok (.if_icmp .ne 7, 3) := by decide +kernel
theorem dX10_at_22 : decode cX10_at 22 = .ok (.iconst (-1), 1) := by decide +kernel
theorem dX10_at_23 : decode cX10_at 23 = .ok (.goto 9, 3) := by decide +kernel
theorem dX10_at_26 : decode cX10_at 26 = .ok (.aload_n 0, 1) := by decide +kernel
theorem dX10_at_27 : decode cX10_at 27 = .ok (.getfield 70, 3) := by decide +kernel
theorem dX10_at_30 : decode cX10_at 30 = .ok (.iload_n 1, 1) := by decide +kernel
theorem dX10_at_31 : decode cX10_at 31 = .ok (.iaload, 1) := by decide +kernel
theorem dX10_at_32 : decode cX10_at 32 = .ok (.ireturn, 1) := by decide +kernel
theorem dX10_question_0 : decode cX10_question 0 = .ok (.aload_n 0, 1) := by decide +kernel
theorem dX10_question_1 : decode cX10_question 1 = .ok (.iload_n 1, 1) := by decide +kernel
theorem dX10_question_2 : decode cX10_question 2 = .ok (.iload_n 2, 1) := by decide +kernel
theorem dX10_question_3 : decode cX10_question 3 = .ok (.invokevirtual 516, 3) := by decide +kernel
theorem dX10_question_6 : decode cX10_question 6 = .ok (.ifCond .eq 12, 3) := by decide +kernel
theorem dX10_question_9 : decode cX10_question 9 = .ok (.aload_n 0, 1) := by decide +kernel
theorem dX10_question_10 : decode cX10_question 10 = .ok (.getfield 76, 3) := by decide +kernel
theorem dX10_question_13 : decode cX10_question 13 = .ok (.iload_n 1, 1) := by decide +kernel
theorem dX10_question_14 : decode cX10_question 14 = .ok (.iaload, 1) := by decide +kernel
theorem dX10_question_15 : decode cX10_question 15 = .ok (.goto 5, 3) := by decide +kernel
theorem dX10_question_18 : decode cX10_question 18 = .ok (.bipush (-2), 2) := by decide +kernel
theorem dX10_question_20 : decode cX10_question 20 = .ok (.ireturn, 1) := by decide +kernel
theorem dX10_start_0 : decode cX10_start 0 = .ok (.aload_n 0, 1) := by decide +kernel
theorem dX10_start_1 : decode cX10_start 1 = .ok (.iload_n 1, 1) := by decide +kernel
theorem dX10_start_2 : decode cX10_start 2 = .ok (.iload_n 2, 1) := by decide +kernel
theorem dX10_start_3 : decode cX10_start 3 = .ok (.invokevirtual 516, 3) := by decide +kernel
theorem dX10_start_6 : decode cX10_start 6 = .ok (.ifCond .eq 12, 3) := by decide +kernel
theorem dX10_start_9 : decode cX10_start 9 = .ok (.aload_n 0, 1) := by decide +kernel
theorem dX10_start_10 : decode cX10_start 10 = .ok (.getfield 61, 3) := by decide +kernel
theorem dX10_start_13 : decode cX10_start 13 = .ok (.iload_n 1, 1) := by decide +kernel
theorem dX10_start_14 : decode cX10_start 14 = .ok (.iaload, 1) := by decide +kernel
theorem dX10_start_15 : decode cX10_start 15 = .ok (.goto 5, 3) := by decide +kernel
theorem dX10_start_18 : decode cX10_start 18 = .ok (.bipush (-2), 2) := by decide +kernel
theorem dX10_start_20 : decode cX10_start 20 = .ok (.ireturn, 1) := by decide +kernel
theorem dX10_memory_0 : decode cX10_memory 0 = .ok (.aload_n 0, 1) := by decide +kernel
theorem dX10_memory_1 : decode cX10_memory 1 = .ok (.iload_n 1, 1) := by decide +kernel
theorem dX10_memory_2 : decode cX10_memory 2 = .ok (.iload_n 2, 1) := by decide +kernel
theorem dX10_memory_3 : decode cX10_memory 3 = .ok (.invokevirtual 516, 3) := by decide +kernel
theorem dX10_memory_6 : decode cX10_memory 6 = .ok (.ifCond .eq 12, 3) := by decide +kernel
theorem dX10_memory_9 : decode cX10_memory 9 = .ok (.aload_n 0, 1) := by decide +kernel
theorem dX10_memory_10 : decode cX10_memory 10 = .ok (.getfield 88, 3) := by decide +kernel
theorem dX10_memory_13 : decode cX10_memory 13 = .ok (.iload_n 1, 1) := by decide +kernel
theorem dX10_memory_14 : decode cX10_memory 14 = .ok (.iaload, 1) := by decide +kernel
theorem dX10_memory_15 : decode cX10_memory 15 = .ok (.goto 5, 3) := by decide +kernel
theorem dX10_memory_18 : decode cX10_memory 18 = .ok (.bipush (-2), 2) := by decide +kernel
theorem dX10_memory_20 : decode cX10_memory 20 = .ok (.ireturn, 1) := by decide +kernel
theorem dX10_health_0 : decode cX10_health 0 = .ok (.aload_n 0, 1) := by decide +kernel
theorem dX10_health_1 : decode cX10_health 1 = .ok (.iload_n 1, 1) := by decide +kernel
theorem dX10_health_2 : decode cX10_health 2 = .ok (.iload_n 2, 1) := by decide +kernel
theorem dX10_health_3 : decode cX10_health 3 = .ok (.invokevirtual 516, 3) := by decide +kernel
theorem dX10_health_6 : decode cX10_health 6 = .ok (.ifCond .eq 15, 3) := by decide +kernel
theorem dX10_health_9 : decode cX10_health 9 = .ok (.aload_n 0, 1) := by decide +kernel
theorem dX10_health_10 : decode cX10_health 10 = .ok (.getfield 91, 3) := by decide +kernel
theorem dX10_health_13 : decode cX10_health 13 = .ok (.iload_n 1, 1) := by decide +kernel
theorem dX10_health_14 : decode cX10_health 14 = .ok (.faload, 1) := by decide +kernel
theorem dX10_health_15 : decode cX10_health 15 = .ok (.invokestatic 388, 3) := by decide +kernel
theorem dX10_health_18 : decode cX10_health 18 = .ok (.goto 5, 3) := by decide +kernel
theorem dX10_health_21 : decode cX10_health 21 = .ok (.bipush (-2), 2) := by decide +kernel
theorem dX10_health_23 : decode cX10_health 23 = .ok (.ireturn, 1) := by decide +kernel
theorem dX10_tenths_0 : decode cX10_tenths 0 = .ok (.aload_n 0, 1) := by decide +kernel
theorem dX10_tenths_1 : decode cX10_tenths 1 = .ok (.iload_n 1, 1) := by decide +kernel
theorem dX10_tenths_2 : decode cX10_tenths 2 = .ok (.iload_n 2, 1) := by decide +kernel
theorem dX10_tenths_3 : decode cX10_tenths 3 = .ok (.invokevirtual 516, 3) := by decide +kernel
theorem dX10_tenths_6 : decode cX10_tenths 6 = .ok (.ifCond .eq 17, 3) := by decide +kernel
theorem dX10_tenths_9 : decode cX10_tenths 9 = .ok (.aload_n 0, 1) := by decide +kernel
theorem dX10_tenths_10 : decode cX10_tenths 10 = .ok (.getfield 91, 3) := by decide +kernel
theorem dX10_tenths_13 : decode cX10_tenths 13 = .ok (.iload_n 1, 1) := by decide +kernel
theorem dX10_tenths_14 : decode cX10_tenths 14 = .ok (.faload, 1) := by decide +kernel
theorem dX10_tenths_15 : decode cX10_tenths 15 = .ok (.ldc_w 446, 3) := by decide +kernel
theorem dX10_tenths_18 : decode cX10_tenths 18 = .ok (.fmul, 1) := by decide +kernel
theorem dX10_tenths_19 : decode cX10_tenths 19 = .ok (.f2i, 1) := by decide +kernel
theorem dX10_tenths_20 : decode cX10_tenths 20 = .ok (.goto 5, 3) := by decide +kernel
theorem dX10_tenths_23 : decode cX10_tenths 23 = .ok (.bipush (-2), 2) := by decide +kernel
theorem dX10_tenths_25 : decode cX10_tenths 25 = .ok (.ireturn, 1) := by decide +kernel
theorem dX10_margin_0 : decode cX10_margin 0 = .ok (.aload_n 0, 1) := by decide +kernel
theorem dX10_margin_1 : decode cX10_margin 1 = .ok (.iload_n 1, 1) := by decide +kernel
theorem dX10_margin_2 : decode cX10_margin 2 = .ok (.iload_n 2, 1) := by decide +kernel
theorem dX10_margin_3 : decode cX10_margin 3 = .ok (.invokevirtual 516, 3) := by decide +kernel
theorem dX10_margin_6 : decode cX10_margin 6 = .ok (.ifCond .ne 6, 3) := by decide +kernel
theorem dX10_margin_9 : decode cX10_margin 9 = .ok (.bipush (-2), 2) := by decide +kernel
theorem dX10_margin_11 : decode cX10_margin 11 = .ok (.ireturn, 1) := by decide +kernel
theorem dX10_margin_12 : decode cX10_margin 12 = .ok (.aload_n 0, 1) := by decide +kernel
theorem dX10_margin_13 : decode cX10_margin 13 = .ok (.getfield 114, 3) := by decide +kernel
theorem dX10_margin_16 : decode cX10_margin 16 = .ok (.iload_n 1, 1) := by decide +kernel
theorem dX10_margin_17 : decode cX10_margin 17 = .ok (.iaload, 1) := by decide +kernel
theorem dX10_margin_18 : decode cX10_margin 18 = .ok (.ifCond .ne 7, 3) := by decide +kernel
theorem dX10_margin_21 : decode cX10_margin 21 = .ok (.iconst (-1), 1) := by decide +kernel
theorem dX10_margin_22 : decode cX10_margin 22 = .ok (.goto 12, 3) := by decide +kernel
theorem dX10_margin_25 : decode cX10_margin 25 = .ok (.aload_n 0, 1) := by decide +kernel
theorem dX10_margin_26 : decode cX10_margin 26 = .ok (.getfield 107, 3) := by decide +kernel
theorem dX10_margin_29 : decode cX10_margin 29 = .ok (.iload_n 1, 1) := by decide +kernel
theorem dX10_margin_30 : decode cX10_margin 30 = .ok (.faload, 1) := by decide +kernel
theorem dX10_margin_31 : decode cX10_margin 31 = .ok (.invokestatic 388, 3) := by decide +kernel
theorem dX10_margin_34 : decode cX10_margin 34 = .ok (.ireturn, 1) := by decide +kernel
theorem dX10_mean_0 : decode cX10_mean 0 = .ok (.aload_n 0, 1) := by decide +kernel
theorem dX10_mean_1 : decode cX10_mean 1 = .ok (.iload_n 1, 1) := by decide +kernel
theorem dX10_mean_2 : decode cX10_mean 2 = .ok (.iload_n 2, 1) := by decide +kernel
theorem dX10_mean_3 : decode cX10_mean 3 = .ok (.invokevirtual 516, 3) := by decide +kernel
theorem dX10_mean_6 : decode cX10_mean 6 = .ok (.ifCond .ne 7, 3) := by decide +kernel
theorem dX10_mean_9 : decode cX10_mean 9 = .ok (.ldc2_w 519, 3) := by decide +kernel
theorem dX10_mean_12 : decode cX10_mean 12 = .ok (.lreturn, 1) := by decide +kernel
theorem dX10_mean_13 : decode cX10_mean 13 = .ok (.aload_n 0, 1) := by decide +kernel
theorem dX10_mean_14 : decode cX10_mean 14 = .ok (.getfield 114, 3) := by decide +kernel
theorem dX10_mean_17 : decode cX10_mean 17 = .ok (.iload_n 1, 1) := by decide +kernel
theorem dX10_mean_18 : decode cX10_mean 18 = .ok (.iaload, 1) := by decide +kernel
theorem dX10_mean_19 : decode cX10_mean 19 = .ok (.ifCond .ne 9, 3) := by decide +kernel
theorem dX10_mean_22 : decode cX10_mean 22 = .ok (.ldc2_w 521, 3) := by decide +kernel
theorem dX10_mean_25 : decode cX10_mean 25 = .ok (.goto 20, 3) := by decide +kernel
theorem dX10_mean_28 : decode cX10_mean 28 = .ok (.aload_n 0, 1) := by decide +kernel
theorem dX10_mean_29 : decode cX10_mean 29 = .ok (.getfield 110, 3) := by decide +kernel
theorem dX10_mean_32 : decode cX10_mean 32 = .ok (.iload_n 1, 1) := by decide +kernel
theorem dX10_mean_33 : decode cX10_mean 33 = .ok (.daload, 1) := by decide +kernel
theorem dX10_mean_34 : decode cX10_mean 34 = .ok (.aload_n 0, 1) := by decide +kernel
theorem dX10_mean_35 : decode cX10_mean 35 = .ok (.getfield 114, 3) := by decide +kernel
theorem dX10_mean_38 : decode cX10_mean 38 = .ok (.iload_n 1, 1) := by decide +kernel
theorem dX10_mean_39 : decode cX10_mean 39 = .ok (.iaload, 1) := by decide +kernel
theorem dX10_mean_40 : decode cX10_mean 40 = .ok (.i2d, 1) := by decide +kernel
theorem dX10_mean_41 : decode cX10_mean 41 = .ok (.ddiv, 1) := by decide +kernel
theorem dX10_mean_42 : decode cX10_mean 42 = .ok (.invokestatic 523, 3) := by decide +kernel
theorem dX10_mean_45 : decode cX10_mean 45 = .ok (.lreturn, 1) := by decide +kernel
theorem dX10_faults_0 : decode cX10_faults 0 = .ok (.aload_n 0, 1) := by decide +kernel
theorem dX10_faults_1 : decode cX10_faults 1 = .ok (.iload_n 1, 1) := by decide +kernel
theorem dX10_faults_2 : decode cX10_faults 2 = .ok (.invokevirtual 510, 3) := by decide +kernel
theorem dX10_faults_5 : decode cX10_faults 5 = .ok (.ifCond .eq 10, 3) := by decide +kernel
theorem dX10_faults_8 : decode cX10_faults 8 = .ok (.aload_n 0, 1) := by decide +kernel
theorem dX10_faults_9 : decode cX10_faults 9 = .ok (.getfield 418, 3) := by decide +kernel
theorem dX10_faults_12 : decode cX10_faults 12 = .ok (.goto 5, 3) := by decide +kernel
theorem dX10_faults_15 : decode cX10_faults 15 = .ok (.bipush (-2), 2) := by decide +kernel
theorem dX10_faults_17 : decode cX10_faults 17 = .ok (.ireturn, 1) := by decide +kernel
theorem dX10_record_0 : decode cX10_record 0 = .ok (.iload_n 1, 1) := by decide +kernel
theorem dX10_record_1 : decode cX10_record 1 = .ok (.ifCond .lt 22, 3) := by decide +kernel
theorem dX10_record_4 : decode cX10_record 4 = .ok (.iload_n 2, 1) := by decide +kernel
theorem dX10_record_5 : decode cX10_record 5 = .ok (.i2l, 1) := by decide +kernel
theorem dX10_record_6 : decode cX10_record 6 = .ok (.lconst 0, 1) := by decide +kernel
theorem dX10_record_7 : decode cX10_record 7 = .ok (.ldc2_w 370, 3) := by decide +kernel
theorem dX10_record_10 : decode cX10_record 10 = .ok (.invokestatic 152, 3) := by decide +kernel
theorem dX10_record_13 : decode cX10_record 13 = .ok (.ifCond .eq 10, 3) := by decide +kernel
theorem dX10_record_16 : decode cX10_record 16 = .ok (.aload_n 0, 1) := by decide +kernel
theorem dX10_record_17 : decode cX10_record 17 = .ok (.invokevirtual 513, 3) := by decide +kernel
theorem dX10_record_20 : decode cX10_record 20 = .ok (.ifCond .ne 6, 3) := by decide +kernel
theorem dX10_record_23 : decode cX10_record 23 = .ok (.bipush (-2), 2) := by decide +kernel
theorem dX10_record_25 : decode cX10_record 25 = .ok (.ireturn, 1) := by decide +kernel
theorem dX10_record_26 : decode cX10_record 26 = .ok (.iload_n 1, 1) := by decide +kernel
theorem dX10_record_27 : decode cX10_record 27 = .ok (.aload_n 0, 1) := by decide +kernel
theorem dX10_record_28 : decode cX10_record 28 = .ok (.getfield 418, 3) := by decide +kernel
theorem dX10_record_31 : decode cX10_record 31 = .ok (.if_icmp .lt 5, 3) := by decide +kernel
theorem dX10_record_34 : decode cX10_record 34 = .ok (.iconst (-1), 1) := by decide +kernel
theorem dX10_record_35 : decode cX10_record 35 = .ok (.ireturn, 1) := by decide +kernel
theorem dX10_record_36 : decode cX10_record 36 = .ok (.iload_n 2, 1) := by decide +kernel
theorem dX10_record_37 : decode cX10_record 37 = .ok (.ifCond .ne 12, 3) := by decide +kernel
theorem dX10_record_40 : decode cX10_record 40 = .ok (.aload_n 0, 1) := by decide +kernel
theorem dX10_record_41 : decode cX10_record 41 = .ok (.getfield 135, 3) := by decide +kernel
theorem dX10_record_44 : decode cX10_record 44 = .ok (.iload_n 1, 1) := by decide +kernel
theorem dX10_record_45 : decode cX10_record 45 = .ok (.iaload, 1) := by decide +kernel
theorem dX10_record_46 : decode cX10_record 46 = .ok (.goto 37, 3) := by decide +kernel
theorem dX10_record_49 : decode cX10_record 49 = .ok (.iload_n 2, 1) := by decide +kernel
theorem dX10_record_50 : decode cX10_record 50 = .ok (.iconst 1, 1) := by decide +kernel
theorem dX10_record_51 : decode cX10_record 51 = .ok (.if_icmp .ne 12, 3) := by decide +kernel
theorem dX10_record_54 : decode cX10_record 54 = .ok (.aload_n 0, 1) := by decide +kernel
theorem dX10_record_55 : decode cX10_record 55 = .ok (.getfield 138, 3) := by decide +kernel
theorem dX10_record_58 : decode cX10_record 58 = .ok (.iload_n 1, 1) := by decide +kernel
theorem dX10_record_59 : decode cX10_record 59 = .ok (.iaload, 1) := by decide +kernel
theorem dX10_record_60 : decode cX10_record 60 = .ok (.goto 23, 3) := by decide +kernel
theorem dX10_record_63 : decode cX10_record 63 = .ok (.iload_n 2, 1) := by decide +kernel
theorem dX10_record_64 : decode cX10_record 64 = .ok (.iconst 2, 1) := by decide +kernel
theorem dX10_record_65 : decode cX10_record 65 = .ok (.if_icmp .ne 12, 3) := by decide +kernel
theorem dX10_record_68 : decode cX10_record 68 = .ok (.aload_n 0, 1) := by decide +kernel
theorem dX10_record_69 : decode cX10_record 69 = .ok (.getfield 141, 3) := by decide +kernel
theorem dX10_record_72 : decode cX10_record 72 = .ok (.iload_n 1, 1) := by decide +kernel
theorem dX10_record_73 : decode cX10_record 73 = .ok (.iaload, 1) := by decide +kernel
theorem dX10_record_74 : decode cX10_record 74 = .ok (.goto 9, 3) := by decide +kernel
theorem dX10_record_77 : decode cX10_record 77 = .ok (.aload_n 0, 1) := by decide +kernel
theorem dX10_record_78 : decode cX10_record 78 = .ok (.getfield 144, 3) := by decide +kernel
theorem dX10_record_81 : decode cX10_record 81 = .ok (.iload_n 1, 1) := by decide +kernel
theorem dX10_record_82 : decode cX10_record 82 = .ok (.iaload, 1) := by decide +kernel
theorem dX10_record_83 : decode cX10_record 83 = .ok (.ireturn, 1) := by decide +kernel
theorem dX10_ledger_0 : decode cX10_ledger 0 = .ok (.iload_n 1, 1) := by decide +kernel
theorem dX10_ledger_1 : decode cX10_ledger 1 = .ok (.i2l, 1) := by decide +kernel
theorem dX10_ledger_2 : decode cX10_ledger 2 = .ok (.lconst 0, 1) := by decide +kernel
theorem dX10_ledger_3 : decode cX10_ledger 3 = .ok (.lconst 1, 1) := by decide +kernel
theorem dX10_ledger_4 : decode cX10_ledger 4 = .ok (.invokestatic 152, 3) := by decide +kernel
theorem dX10_ledger_7 : decode cX10_ledger 7 = .ok (.ifCond .eq 10, 3) := by decide +kernel
theorem dX10_ledger_10 : decode cX10_ledger 10 = .ok (.aload_n 0, 1) := by decide +kernel
theorem dX10_ledger_11 : decode cX10_ledger 11 = .ok (.invokevirtual 513, 3) := by decide +kernel
theorem dX10_ledger_14 : decode cX10_ledger 14 = .ok (.ifCond .ne 6, 3) := by decide +kernel
theorem dX10_ledger_17 : decode cX10_ledger 17 = .ok (.bipush (-2), 2) := by decide +kernel
theorem dX10_ledger_19 : decode cX10_ledger 19 = .ok (.ireturn, 1) := by decide +kernel
theorem dX10_ledger_20 : decode cX10_ledger 20 = .ok (.iconst 0, 1) := by decide +kernel
theorem dX10_ledger_21 : decode cX10_ledger 21 = .ok (.istore_n 2, 1) := by decide +kernel
theorem dX10_ledger_22 : decode cX10_ledger 22 = .ok (.iconst 0, 1) := by decide +kernel
theorem dX10_ledger_23 : decode cX10_ledger 23 = .ok (.istore_n 3, 1) := by decide +kernel
theorem dX10_ledger_24 : decode cX10_ledger 24 = .ok (.iload_n 3, 1) := by decide +kernel
theorem dX10_ledger_25 : decode cX10_ledger 25 = .ok (.aload_n 0, 1) := by decide +kernel
theorem dX10_ledger_26 : decode cX10_ledger 26 = .ok (.getfield 418, 3) := by decide +kernel
theorem dX10_ledger_29 : decode cX10_ledger 29 = .ok (.if_icmp .ge 45, 3) := by decide +kernel
theorem dX10_ledger_32 : decode cX10_ledger 32 = .ok (.iload_n 2, 1) := by decide +kernel
theorem dX10_ledger_33 : decode cX10_ledger 33 = .ok (.aload_n 0, 1) := by decide +kernel
theorem dX10_ledger_34 : decode cX10_ledger 34 = .ok (.getfield 138, 3) := by decide +kernel
theorem dX10_ledger_37 : decode cX10_ledger 37 = .ok (.iload_n 3, 1) := by decide +kernel
theorem dX10_ledger_38 : decode cX10_ledger 38 = .ok (.iaload, 1) := by decide +kernel
theorem dX10_ledger_39 : decode cX10_ledger 39 = .ok (.iconst 5, 1) := by decide +kernel
theorem dX10_ledger_40 : decode cX10_ledger 40 = .ok (.if_icmp .le 7, 3) := by decide +kernel
theorem dX10_ledger_43 : decode cX10_ledger 43 = .ok (.iconst 1, 1) := by decide +kernel
theorem dX10_ledger_44 : decode cX10_ledger 44 = .ok (.goto 4, 3) := by decide +kernel
theorem dX10_ledger_47 : decode cX10_ledger 47 = .ok (.iconst 0, 1) := by decide +kernel
theorem dX10_ledger_48 : decode cX10_ledger 48 = .ok (.iload_n 1, 1) := by decide +kernel
theorem dX10_ledger_49 : decode cX10_ledger 49 = .ok (.iconst 1, 1) := by decide +kernel
theorem dX10_ledger_50 : decode cX10_ledger 50 = .ok (.if_icmp .ne 7, 3) := by decide +kernel
theorem dX10_ledger_53 : decode cX10_ledger 53 = .ok (.iconst 1, 1) := by decide +kernel
theorem dX10_ledger_54 : decode cX10_ledger 54 = .ok (.goto 4, 3) := by decide +kernel
theorem dX10_ledger_57 : decode cX10_ledger 57 = .ok (.iconst 0, 1) := by decide +kernel
theorem dX10_ledger_58 : decode cX10_ledger 58 = .ok (.if_icmp .ne 7, 3) := by decide +kernel
theorem dX10_ledger_61 : decode cX10_ledger 61 = .ok (.iconst 1, 1) := by decide +kernel
theorem dX10_ledger_62 : decode cX10_ledger 62 = .ok (.goto 4, 3) := by decide +kernel
theorem dX10_ledger_65 : decode cX10_ledger 65 = .ok (.iconst 0, 1) := by decide +kernel
theorem dX10_ledger_66 : decode cX10_ledger 66 = .ok (.iadd, 1) := by decide +kernel
theorem dX10_ledger_67 : decode cX10_ledger 67 = .ok (.istore_n 2, 1) := by decide +kernel
theorem dX10_ledger_68 : decode cX10_ledger 68 = .ok (.iinc 3 1, 3) := by decide +kernel
theorem dX10_ledger_71 : decode cX10_ledger 71 = .ok (.goto (-47), 3) := by decide +kernel
theorem dX10_ledger_74 : decode cX10_ledger 74 = .ok (.iload_n 2, 1) := by decide +kernel
theorem dX10_ledger_75 : decode cX10_ledger 75 = .ok (.ireturn, 1) := by decide +kernel
theorem dX10_kinds_0 : decode cX10_kinds 0 = .ok (.iload_n 1, 1) := by decide +kernel
theorem dX10_kinds_1 : decode cX10_kinds 1 = .ok (.i2l, 1) := by decide +kernel
theorem dX10_kinds_2 : decode cX10_kinds 2 = .ok (.lconst 1, 1) := by decide +kernel
theorem dX10_kinds_3 : decode cX10_kinds 3 = .ok (.ldc2_w 529, 3) := by decide +kernel
theorem dX10_kinds_6 : decode cX10_kinds 6 = .ok (.invokestatic 152, 3) := by decide +kernel
theorem dX10_kinds_9 : decode cX10_kinds 9 = .ok (.ifCond .eq 10, 3) := by decide +kernel
theorem dX10_kinds_12 : decode cX10_kinds 12 = .ok (.aload_n 0, 1) := by decide +kernel
theorem dX10_kinds_13 : decode cX10_kinds 13 = .ok (.invokevirtual 513, 3) := by decide +kernel
theorem dX10_kinds_16 : decode cX10_kinds 16 = .ok (.ifCond .ne 6, 3) := by decide +kernel
theorem dX10_kinds_19 : decode cX10_kinds 19 = .ok (.bipush (-2), 2) := by decide +kernel
theorem dX10_kinds_21 : decode cX10_kinds 21 = .ok (.ireturn, 1) := by decide +kernel
theorem dX10_kinds_22 : decode cX10_kinds 22 = .ok (.iconst 0, 1) := by decide +kernel
theorem dX10_kinds_23 : decode cX10_kinds 23 = .ok (.istore_n 2, 1) := by decide +kernel
theorem dX10_kinds_24 : decode cX10_kinds 24 = .ok (.iconst 0, 1) := by decide +kernel
theorem dX10_kinds_25 : decode cX10_kinds 25 = .ok (.istore_n 3, 1) := by decide +kernel
theorem dX10_kinds_26 : decode cX10_kinds 26 = .ok (.iload_n 3, 1) := by decide +kernel
theorem dX10_kinds_27 : decode cX10_kinds 27 = .ok (.aload_n 0, 1) := by decide +kernel
theorem dX10_kinds_28 : decode cX10_kinds 28 = .ok (.getfield 418, 3) := by decide +kernel
theorem dX10_kinds_31 : decode cX10_kinds 31 = .ok (.if_icmp .ge 27, 3) := by decide +kernel
theorem dX10_kinds_34 : decode cX10_kinds 34 = .ok (.iload_n 2, 1) := by decide +kernel
theorem dX10_kinds_35 : decode cX10_kinds 35 = .ok (.aload_n 0, 1) := by decide +kernel
theorem dX10_kinds_36 : decode cX10_kinds 36 = .ok (.getfield 138, 3) := by decide +kernel
theorem dX10_kinds_39 : decode cX10_kinds 39 = .ok (.iload_n 3, 1) := by decide +kernel
theorem dX10_kinds_40 : decode cX10_kinds 40 = .ok (.iaload, 1) := by decide +kernel
theorem dX10_kinds_41 : decode cX10_kinds 41 = .ok (.iload_n 1, 1) := by decide +kernel
theorem dX10_kinds_42 : decode cX10_kinds 42 = .ok (.if_icmp .ne 7, 3) := by decide +kernel
theorem dX10_kinds_45 : decode cX10_kinds 45 = .ok (.iconst 1, 1) := by decide +kernel
theorem dX10_kinds_46 : decode cX10_kinds 46 = .ok (.goto 4, 3) := by decide +kernel
theorem dX10_kinds_49 : decode cX10_kinds 49 = .ok (.iconst 0, 1) := by decide +kernel
theorem dX10_kinds_50 : decode cX10_kinds 50 = .ok (.iadd, 1) := by decide +kernel
theorem dX10_kinds_51 : decode cX10_kinds 51 = .ok (.istore_n 2, 1) := by decide +kernel
theorem dX10_kinds_52 : decode cX10_kinds 52 = .ok (.iinc 3 1, 3) := by decide +kernel
theorem dX10_kinds_55 : decode cX10_kinds 55 = .ok (.goto (-29), 3) := by decide +kernel
theorem dX10_kinds_58 : decode cX10_kinds 58 = .ok (.iload_n 2, 1) := by decide +kernel
theorem dX10_kinds_59 : decode cX10_kinds 59 = .ok (.ireturn, 1) := by decide +kernel
theorem dX10_levels_0 : decode cX10_levels 0 = .ok (.iload_n 1, 1) := by decide +kernel
theorem dX10_levels_1 : decode cX10_levels 1 = .ok (.i2l, 1) := by decide +kernel
theorem dX10_levels_2 : decode cX10_levels 2 = .ok (.lconst 0, 1) := by decide +kernel
theorem dX10_levels_3 : decode cX10_levels 3 = .ok (.ldc2_w 370, 3) := by decide +kernel
theorem dX10_levels_6 : decode cX10_levels 6 = .ok (.invokestatic 152, 3) := by decide +kernel
theorem dX10_levels_9 : decode cX10_levels 9 = .ok (.ifCond .eq 11, 3) := by decide +kernel
theorem dX10_levels_12 : decode cX10_levels 12 = .ok (.aload_n 0, 1) := by decide +kernel
theorem dX10_levels_13 : decode cX10_levels 13 = .ok (.iload_n 2, 1) := by decide +kernel
theorem dX10_levels_14 : decode cX10_levels 14 = .ok (.invokevirtual 510, 3) := by decide +kernel
theorem dX10_levels_17 : decode cX10_levels 17 = .ok (.ifCond .ne 6, 3) := by decide +kernel
theorem dX10_levels_20 : decode cX10_levels 20 = .ok (.bipush (-2), 2) := by decide +kernel
theorem dX10_levels_22 : decode cX10_levels 22 = .ok (.ireturn, 1) := by decide +kernel
theorem dX10_levels_23 : decode cX10_levels 23 = .ok (.iconst 0, 1) := by decide +kernel
theorem dX10_levels_24 : decode cX10_levels 24 = .ok (.istore_n 3, 1) := by decide +kernel
theorem dX10_levels_25 : decode cX10_levels 25 = .ok (.iconst 0, 1) := by decide +kernel
theorem dX10_levels_26 : decode cX10_levels 26 = .ok (.istore 4, 2) := by decide +kernel
theorem dX10_levels_28 : decode cX10_levels 28 = .ok (.iload 4, 2) := by decide +kernel
theorem dX10_levels_30 : decode cX10_levels 30 = .ok (.aload_n 0, 1) := by decide +kernel
theorem dX10_levels_31 : decode cX10_levels 31 = .ok (.getfield 418, 3) := by decide +kernel
theorem dX10_levels_34 : decode cX10_levels 34 = .ok (.if_icmp .ge 28, 3) := by decide +kernel
theorem dX10_levels_37 : decode cX10_levels 37 = .ok (.iload_n 3, 1) := by decide +kernel
theorem dX10_levels_38 : decode cX10_levels 38 = .ok (.aload_n 0, 1) := by decide +kernel
theorem dX10_levels_39 : decode cX10_levels 39 = .ok (.getfield 144, 3) := by decide +kernel
theorem dX10_levels_42 : decode cX10_levels 42 = .ok (.iload 4, 2) := by decide +kernel
theorem dX10_levels_44 : decode cX10_levels 44 = .ok (.iaload, 1) := by decide +kernel
theorem dX10_levels_45 : decode cX10_levels 45 = .ok (.iload_n 1, 1) := by decide +kernel
theorem dX10_levels_46 : decode cX10_levels 46 = .ok (.if_icmp .ne 7, 3) := by decide +kernel
theorem dX10_levels_49 : decode cX10_levels 49 = .ok (.iconst 1, 1) := by decide +kernel
theorem dX10_levels_50 : decode cX10_levels 50 = .ok (.goto 4, 3) := by decide +kernel
theorem dX10_levels_53 : decode cX10_levels 53 = .ok (.iconst 0, 1) := by decide +kernel
theorem dX10_levels_54 : decode cX10_levels 54 = .ok (.iadd, 1) := by decide +kernel
theorem dX10_levels_55 : decode cX10_levels 55 = .ok (.istore_n 3, 1) := by decide +kernel
theorem dX10_levels_56 : decode cX10_levels 56 = .ok (.iinc 4 1, 3) := by decide +kernel
theorem dX10_levels_59 : decode cX10_levels 59 = .ok (.goto (-31), 3) := by decide +kernel
theorem dX10_levels_62 : decode cX10_levels 62 = .ok (.iload_n 3, 1) := by decide +kernel
theorem dX10_levels_63 : decode cX10_levels 63 = .ok (.ireturn, 1) := by decide +kernel
theorem dX10_halts_0 : decode cX10_halts 0 = .ok (.aload_n 0, 1) := by decide +kernel
theorem dX10_halts_1 : decode cX10_halts 1 = .ok (.invokevirtual 513, 3) := by decide +kernel
theorem dX10_halts_4 : decode cX10_halts 4 = .ok (.ifCond .eq 10, 3) := by decide +kernel
theorem dX10_halts_7 : decode cX10_halts 7 = .ok (.aload_n 0, 1) := by decide +kernel
theorem dX10_halts_8 : decode cX10_halts 8 = .ok (.getfield 424, 3) := by decide +kernel
theorem dX10_halts_11 : decode cX10_halts 11 = .ok (.goto 5, 3) := by decide +kernel
theorem dX10_halts_14 : decode cX10_halts 14 = .ok (.bipush (-2), 2) := by decide +kernel
theorem dX10_halts_16 : decode cX10_halts 16 = .ok (.ireturn, 1) := by decide +kernel
theorem dX10_sleeps_0 : decode cX10_sleeps 0 = .ok (.aload_n 0, 1) := by decide +kernel
theorem dX10_sleeps_1 : decode cX10_sleeps 1 = .ok (.iload_n 1, 1) := by decide +kernel
theorem dX10_sleeps_2 : decode cX10_sleeps 2 = .ok (.invokevirtual 342, 3) := by decide +kernel
theorem dX10_sleeps_5 : decode cX10_sleeps 5 = .ok (.ifCond .eq 11, 3) := by decide +kernel
theorem dX10_sleeps_8 : decode cX10_sleeps 8 = .ok (.aload_n 0, 1) := by decide +kernel
theorem dX10_sleeps_9 : decode cX10_sleeps 9 = .ok (.iload_n 2, 1) := by decide +kernel
theorem dX10_sleeps_10 : decode cX10_sleeps 10 = .ok (.invokevirtual 510, 3) := by decide +kernel
theorem dX10_sleeps_13 : decode cX10_sleeps 13 = .ok (.ifCond .ne 6, 3) := by decide +kernel
theorem dX10_sleeps_16 : decode cX10_sleeps 16 = .ok (.bipush (-2), 2) := by decide +kernel
theorem dX10_sleeps_18 : decode cX10_sleeps 18 = .ok (.ireturn, 1) := by decide +kernel
theorem dX10_sleeps_19 : decode cX10_sleeps 19 = .ok (.aload_n 0, 1) := by decide +kernel
theorem dX10_sleeps_20 : decode cX10_sleeps 20 = .ok (.iload_n 1, 1) := by decide +kernel
theorem dX10_sleeps_21 : decode cX10_sleeps 21 = .ok (.iload_n 2, 1) := by decide +kernel
theorem dX10_sleeps_22 : decode cX10_sleeps 22 = .ok (.invokevirtual 472, 3) := by decide +kernel
theorem dX10_sleeps_25 : decode cX10_sleeps 25 = .ok (.ifCond .eq 7, 3) := by decide +kernel
theorem dX10_sleeps_28 : decode cX10_sleeps 28 = .ok (.iconst 1, 1) := by decide +kernel
theorem dX10_sleeps_29 : decode cX10_sleeps 29 = .ok (.goto 4, 3) := by decide +kernel
theorem dX10_sleeps_32 : decode cX10_sleeps 32 = .ok (.iconst 0, 1) := by decide +kernel
theorem dX10_sleeps_33 : decode cX10_sleeps 33 = .ok (.ireturn, 1) := by decide +kernel
theorem dX10_caughtIn_0 : decode cX10_caughtIn 0 = .ok (.aload_n 0, 1) := by decide +kernel
theorem dX10_caughtIn_1 : decode cX10_caughtIn 1 = .ok (.iload_n 1, 1) := by decide +kernel
theorem dX10_caughtIn_2 : decode cX10_caughtIn 2 = .ok (.iconst 1, 1) := by decide +kernel
theorem dX10_caughtIn_3 : decode cX10_caughtIn 3 = .ok (.invokevirtual 350, 3) := by decide +kernel
theorem dX10_caughtIn_6 : decode cX10_caughtIn 6 = .ok (.istore_n 2, 1) := by decide +kernel
theorem dX10_caughtIn_7 : decode cX10_caughtIn 7 = .ok (.aload_n 0, 1) := by decide +kernel
theorem dX10_caughtIn_8 : decode cX10_caughtIn 8 = .ok (.iload_n 1, 1) := by decide +kernel
theorem dX10_caughtIn_9 : decode cX10_caughtIn 9 = .ok (.iconst 0, 1) := by decide +kernel
theorem dX10_caughtIn_10 : decode cX10_caughtIn 10 = .ok (.invokevirtual 350, 3) := by decide +kernel
theorem dX10_caughtIn_13 : decode cX10_caughtIn 13 = .ok (.iconst 5, 1) := by decide +kernel
theorem dX10_caughtIn_14 : decode cX10_caughtIn 14 = .ok (.if_icmp .ne 7, 3) := by decide +kernel
theorem dX10_caughtIn_17 : decode cX10_caughtIn 17 = .ok (.iconst 1, 1) := by decide +kernel
theorem dX10_caughtIn_18 : decode cX10_caughtIn 18 = .ok (.goto 4, 3) := by decide +kernel
theorem dX10_caughtIn_21 : decode cX10_caughtIn 21 = .ok (.iconst 0, 1) := by decide +kernel
theorem dX10_caughtIn_22 : decode cX10_caughtIn 22 = .ok (.istore_n 3, 1) := by decide +kernel
theorem dX10_caughtIn_23 : decode cX10_caughtIn 23 = .ok (.iload_n 3, 1) := by decide +kernel
theorem dX10_caughtIn_24 : decode cX10_caughtIn 24 = .ok (.ifCond .eq 12, 3) := by decide +kernel
theorem dX10_caughtIn_27 : decode cX10_caughtIn 27 = .ok (.aload_n 0, 1) := by decide +kernel
theorem dX10_caughtIn_28 : decode cX10_caughtIn 28 = .ok (.iload_n 1, 1) := by decide +kernel
theorem dX10_caughtIn_29 : decode cX10_caughtIn 29 = .ok (.iconst 2, 1) := by decide +kernel
theorem dX10_caughtIn_30 : decode cX10_caughtIn 30 = .ok (.invokevirtual 350, 3) := by decide +kernel
theorem dX10_caughtIn_33 : decode cX10_caughtIn 33 = .ok (.goto 19, 3) := by decide +kernel
theorem dX10_caughtIn_36 : decode cX10_caughtIn 36 = .ok (.aload_n 0, 1) := by decide +kernel
theorem dX10_caughtIn_37 : decode cX10_caughtIn 37 = .ok (.getfield 120, 3) := by decide +kernel
theorem dX10_caughtIn_40 : decode cX10_caughtIn 40 = .ok (.bipush 51, 2) := by decide +kernel
theorem dX10_caughtIn_42 : decode cX10_caughtIn 42 = .ok (.iload_n 2, 1) := by decide +kernel
theorem dX10_caughtIn_43 : decode cX10_caughtIn 43 = .ok (.imul, 1) := by decide +kernel
theorem dX10_caughtIn_44 : decode cX10_caughtIn 44 = .ok (.aload_n 0, 1) := by decide +kernel
theorem dX10_caughtIn_45 : decode cX10_caughtIn 45 = .ok (.iload_n 1, 1) := by decide +kernel
theorem dX10_caughtIn_46 : decode cX10_caughtIn 46 = .ok (.iconst 2, 1) := by decide +kernel
theorem dX10_caughtIn_47 : decode cX10_caughtIn 47 = .ok (.invokevirtual 350, 3) := by decide +kernel
theorem dX10_caughtIn_50 : decode cX10_caughtIn 50 = .ok (.iadd, 1) := by decide +kernel
theorem dX10_caughtIn_51 : decode cX10_caughtIn 51 = .ok (.iaload, 1) := by decide +kernel
theorem dX10_caughtIn_52 : decode cX10_caughtIn 52 = .ok (.istore 4, 2) := by decide +kernel
theorem dX10_caughtIn_54 : decode cX10_caughtIn 54 = .ok (.iload 4, 2) := by decide +kernel
theorem dX10_caughtIn_56 : decode cX10_caughtIn 56 = .ok (.iconst (-1), 1) := by decide +kernel
theorem dX10_caughtIn_57 : decode cX10_caughtIn 57 = .ok (.if_icmp .ne 5, 3) := by decide +kernel
theorem dX10_caughtIn_60 : decode cX10_caughtIn 60 = .ok (.iconst (-1), 1) := by decide +kernel
theorem dX10_caughtIn_61 : decode cX10_caughtIn 61 = .ok (.ireturn, 1) := by decide +kernel
theorem dX10_caughtIn_62 : decode cX10_caughtIn 62 = .ok (.iconst 0, 1) := by decide +kernel
theorem dX10_caughtIn_63 : decode cX10_caughtIn 63 = .ok (.istore 5, 2) := by decide +kernel
theorem dX10_caughtIn_65 : decode cX10_caughtIn 65 = .ok (.iload 5, 2) := by decide +kernel
theorem dX10_caughtIn_67 : decode cX10_caughtIn 67 = .ok (.aload_n 0, 1) := by decide +kernel
theorem dX10_caughtIn_68 : decode cX10_caughtIn 68 = .ok (.getfield 418, 3) := by decide +kernel
theorem dX10_caughtIn_71 : decode cX10_caughtIn 71 = .ok (.if_icmp .ge 118, 3) := by decide +kernel
theorem dX10_caughtIn_74 : decode cX10_caughtIn 74 = .ok (.iload_n 3, 1) := by decide +kernel
theorem dX10_caughtIn_75 : decode cX10_caughtIn 75 = .ok (.ifCond .eq 50, 3) := by decide +kernel
theorem dX10_caughtIn_78 : decode cX10_caughtIn 78 = .ok (.aload_n 0, 1) := by decide +kernel
theorem dX10_caughtIn_79 : decode cX10_caughtIn 79 = .ok (.getfield 138, 3) := by decide +kernel
theorem dX10_caughtIn_82 : decode cX10_caughtIn 82 = .ok (.iload 5, 2) := by decide +kernel
theorem dX10_caughtIn_84 : decode cX10_caughtIn 84 = .ok (.iaload, 1) := by decide +kernel
theorem dX10_caughtIn_85 : decode cX10_caughtIn 85 = .ok (.bipush 6, 2) := by decide +kernel
theorem dX10_caughtIn_87 : decode cX10_caughtIn 87 = .ok (.if_icmp .ne 14, 3) := by decide +kernel
theorem dX10_caughtIn_90 : decode cX10_caughtIn 90 = .ok (.aload_n 0, 1) := by decide +kernel
theorem dX10_caughtIn_91 : decode cX10_caughtIn 91 = .ok (.getfield 141, 3) := by decide +kernel
theorem dX10_caughtIn_94 : decode cX10_caughtIn 94 = .ok (.iload 5, 2) := by decide +kernel
theorem dX10_caughtIn_96 : decode cX10_caughtIn 96 = .ok (.iaload, 1) := by decide +kernel
theorem dX10_caughtIn_97 : decode cX10_caughtIn 97 = .ok (.iload_n 2, 1) := by decide +kernel
theorem dX10_caughtIn_98 : decode cX10_caughtIn 98 = .ok (.if_icmp .eq 19, 3) := by decide +kernel
theorem dX10_caughtIn_101 : decode cX10_caughtIn 101 = .ok (.aload_n 0, 1) := by decide +kernel
theorem dX10_caughtIn_102 : decode cX10_caughtIn 102 = .ok (.getfield 138, 3) := by decide +kernel
theorem dX10_caughtIn_105 : decode cX10_caughtIn 105 = .ok (.iload 5, 2) := by decide +kernel
theorem dX10_caughtIn_107 : decode cX10_caughtIn 107 = .ok (.iaload, 1) := by decide +kernel
theorem dX10_caughtIn_108 : decode cX10_caughtIn 108 = .ok (.bipush 7, 2) := by decide +kernel
theorem dX10_caughtIn_110 : decode cX10_caughtIn 110 = .ok (.if_icmp .ne 11, 3) := by decide +kernel
theorem dX10_caughtIn_113 : decode cX10_caughtIn 113 = .ok (.iload_n 2, 1) := by decide +kernel
theorem dX10_caughtIn_114 : decode cX10_caughtIn 114 = .ok (.ifCond .ne 7, 3) := by decide +kernel
theorem dX10_caughtIn_117 : decode cX10_caughtIn 117 = .ok (.iconst 1, 1) := by decide +kernel
theorem dX10_caughtIn_118 : decode cX10_caughtIn 118 = .ok (.goto 35, 3) := by decide +kernel
theorem dX10_caughtIn_121 : decode cX10_caughtIn 121 = .ok (.iconst 0, 1) := by decide +kernel
theorem dX10_caughtIn_122 : decode cX10_caughtIn 122 = .ok (.goto 31, 3) := by decide +kernel
theorem dX10_caughtIn_125 : decode cX10_caughtIn 125 = .ok (.aload_n 0, 1) := by decide +kernel
theorem dX10_caughtIn_126 : decode cX10_caughtIn 126 = .ok (.getfield 138, 3) := by decide +kernel
theorem dX10_caughtIn_129 : decode cX10_caughtIn 129 = .ok (.iload 5, 2) := by decide +kernel
theorem dX10_caughtIn_131 : decode cX10_caughtIn 131 = .ok (.iaload, 1) := by decide +kernel
theorem dX10_caughtIn_132 : decode cX10_caughtIn 132 = .ok (.bipush 6, 2) := by decide +kernel
theorem dX10_caughtIn_134 : decode cX10_caughtIn 134 = .ok (.if_icmp .ge 18, 3) := by decide +kernel
theorem dX10_caughtIn_137 : decode cX10_caughtIn 137 = .ok (.aload_n 0, 1) := by decide +kernel
theorem dX10_caughtIn_138 : decode cX10_caughtIn 138 = .ok (.getfield 141, 3) := by decide +kernel
theorem dX10_caughtIn_141 : decode cX10_caughtIn 141 = .ok (.iload 5, 2) := by decide +kernel
theorem dX10_caughtIn_143 : decode cX10_caughtIn 143 = .ok (.iaload, 1) := by decide +kernel
theorem dX10_caughtIn_144 : decode cX10_caughtIn 144 = .ok (.iload_n 2, 1) := by decide +kernel
theorem dX10_caughtIn_145 : decode cX10_caughtIn 145 = .ok (.if_icmp .ne 7, 3) := by decide +kernel
theorem dX10_caughtIn_148 : decode cX10_caughtIn 148 = .ok (.iconst 1, 1) := by decide +kernel
theorem dX10_caughtIn_149 : decode cX10_caughtIn 149 = .ok (.goto 4, 3) := by decide +kernel
theorem dX10_caughtIn_152 : decode cX10_caughtIn 152 = .ok (.iconst 0, 1) := by decide +kernel
theorem dX10_caughtIn_153 : decode cX10_caughtIn 153 = .ok (.istore 6, 2) := by decide +kernel
theorem dX10_caughtIn_155 : decode cX10_caughtIn 155 = .ok (.iload 6, 2) := by decide +kernel
theorem dX10_caughtIn_157 : decode cX10_caughtIn 157 = .ok (.ifCond .eq 26, 3) := by decide +kernel
theorem dX10_caughtIn_160 : decode cX10_caughtIn 160 = .ok (.aload_n 0, 1) := by decide +kernel
theorem dX10_caughtIn_161 : decode cX10_caughtIn 161 = .ok (.getfield 135, 3) := by decide +kernel
theorem dX10_caughtIn_164 : decode cX10_caughtIn 164 = .ok (.iload 5, 2) := by decide +kernel
theorem dX10_caughtIn_166 : decode cX10_caughtIn 166 = .ok (.iaload, 1) := by decide +kernel
theorem dX10_caughtIn_167 : decode cX10_caughtIn 167 = .ok (.iload 4, 2) := by decide +kernel
theorem dX10_caughtIn_169 : decode cX10_caughtIn 169 = .ok (.if_icmp .lt 14, 3) := by decide +kernel
theorem dX10_caughtIn_172 : decode cX10_caughtIn 172 = .ok (.aload_n 0, 1) := by decide +kernel
theorem dX10_caughtIn_173 : decode cX10_caughtIn 173 = .ok (.getfield 135, 3) := by decide +kernel
theorem dX10_caughtIn_176 : decode cX10_caughtIn 176 = .ok (.iload 5, 2) := by decide +kernel
theorem dX10_caughtIn_178 : decode cX10_caughtIn 178 = .ok (.iaload, 1) := by decide +kernel
theorem dX10_caughtIn_179 : decode cX10_caughtIn 179 = .ok (.iload 4, 2) := by decide +kernel
theorem dX10_caughtIn_181 : decode cX10_caughtIn 181 = .ok (.isub, 1) := by decide +kernel
theorem dX10_caughtIn_182 : decode cX10_caughtIn 182 = .ok (.ireturn, 1) := by decide +kernel
theorem dX10_caughtIn_183 : decode cX10_caughtIn 183 = .ok (.iinc 5 1, 3) := by decide +kernel
theorem dX10_caughtIn_186 : decode cX10_caughtIn 186 = .ok (.goto (-121), 3) := by decide +kernel
theorem dX10_caughtIn_189 : decode cX10_caughtIn 189 = .ok (.iconst (-1), 1) := by decide +kernel
theorem dX10_caughtIn_190 : decode cX10_caughtIn 190 = .ok (.ireturn, 1) := by decide +kernel
theorem dX10_isInjection_0 : decode cX10_isInjection 0 = .ok (.iload_n 1, 1) := by decide +kernel
theorem dX10_isInjection_1 : decode cX10_isInjection 1 = .ok (.i2l, 1) := by decide +kernel
theorem dX10_isInjection_2 : decode cX10_isInjection 2 = .ok (.lconst 0, 1) := by decide +kernel
theorem dX10_isInjection_3 : decode cX10_isInjection 3 = .ok (.aload_n 0, 1) := by decide +kernel
theorem dX10_isInjection_4 : decode cX10_isInjection 4 = .ok (.invokevirtual 345, 3) := by decide +kernel
theorem dX10_isInjection_7 : decode cX10_isInjection 7 = .ok (.iconst 1, 1) := by decide +kernel
theorem dX10_isInjection_8 : decode cX10_isInjection 8 = .ok (.isub, 1) := by decide +kernel
theorem dX10_isInjection_9 : decode cX10_isInjection 9 = .ok (.i2l, 1) := by decide +kernel
theorem dX10_isInjection_10 : decode cX10_isInjection 10 = .ok (.invokestatic 152, 3) := by decide +kernel
theorem dX10_isInjection_13 : decode cX10_isInjection 13 = .ok (.ireturn, 1) := by decide +kernel
theorem dX10_caught_0 : decode cX10_caught 0 = .ok (.aload_n 0, 1) := by decide +kernel
theorem dX10_caught_1 : decode cX10_caught 1 = .ok (.iload_n 1, 1) := by decide +kernel
theorem dX10_caught_2 : decode cX10_caught 2 = .ok (.invokevirtual 531, 3) := by decide +kernel
theorem dX10_caught_5 : decode cX10_caught 5 = .ok (.ifCond .eq 18, 3) := by decide +kernel
theorem dX10_caught_8 : decode cX10_caught 8 = .ok (.aload_n 0, 1) := by decide +kernel
theorem dX10_caught_9 : decode cX10_caught 9 = .ok (.invokevirtual 513, 3) := by decide +kernel
theorem dX10_caught_12 : decode cX10_caught 12 = .ok (.ifCond .eq 11, 3) := by decide +kernel
theorem dX10_caught_15 : decode cX10_caught 15 = .ok (.aload_n 0, 1) := by decide +kernel
theorem dX10_caught_16 : decode cX10_caught 16 = .ok (.iload_n 1, 1) := by decide +kernel
theorem dX10_caught_17 : decode cX10_caught 17 = .ok (.invokevirtual 534, 3) := by decide +kernel
theorem dX10_caught_20 : decode cX10_caught 20 = .ok (.goto 5, 3) := by decide +kernel
theorem dX10_caught_23 : decode cX10_caught 23 = .ok (.bipush (-2), 2) := by decide +kernel
theorem dX10_caught_25 : decode cX10_caught 25 = .ok (.ireturn, 1) := by decide +kernel
theorem dX10_recordsWithout_0 : decode cX10_recordsWithout 0 = .ok (.aload_n 0, 1) := by decide +kernel
theorem dX10_recordsWithout_1 : decode cX10_recordsWithout 1 = .ok (.invokevirtual 501, 3) := by decide +kernel
theorem dX10_recordsWithout_4 : decode cX10_recordsWithout 4 = .ok (.aload_n 0, 1) := by decide +kernel
theorem dX10_recordsWithout_5 : decode cX10_recordsWithout 5 = .ok (.iload_n 1, 1) := by decide +kernel
theorem dX10_recordsWithout_6 : decode cX10_recordsWithout 6 = .ok (.putfield 55, 3) := by decide +kernel
theorem dX10_recordsWithout_9 : decode cX10_recordsWithout 9 = .ok (.aload_n 0, 1) := by decide +kernel
theorem dX10_recordsWithout_10 : decode cX10_recordsWithout 10 = .ok (.aload_n 0, 1) := by decide +kernel
theorem dX10_recordsWithout_11 : decode cX10_recordsWithout 11 = .ok (.getfield 9, 3) := by decide +kernel
theorem dX10_recordsWithout_14 : decode cX10_recordsWithout 14 = .ok (.iconst 0, 1) := by decide +kernel
theorem dX10_recordsWithout_15 : decode cX10_recordsWithout 15 = .ok (.iaload, 1) := by decide +kernel
theorem dX10_recordsWithout_16 : decode cX10_recordsWithout 16 = .ok (.invokevirtual 504, 3) := by decide +kernel
theorem dX10_recordsWithout_19 : decode cX10_recordsWithout 19 = .ok (.aload_n 0, 1) := by decide +kernel
theorem dX10_recordsWithout_20 : decode cX10_recordsWithout 20 = .ok (.getfield 418, 3) := by decide +kernel
theorem dX10_recordsWithout_23 : decode cX10_recordsWithout 23 = .ok (.ireturn, 1) := by decide +kernel
theorem dX10_without_0 : decode cX10_without 0 = .ok (.aload_n 0, 1) := by decide +kernel
theorem dX10_without_1 : decode cX10_without 1 = .ok (.iload_n 1, 1) := by decide +kernel
theorem dX10_without_2 : decode cX10_without 2 = .ok (.invokevirtual 531, 3) := by decide +kernel
theorem dX10_without_5 : decode cX10_without 5 = .ok (.ifCond .eq 11, 3) := by decide +kernel
theorem dX10_without_8 : decode cX10_without 8 = .ok (.aload_n 0, 1) := by decide +kernel
theorem dX10_without_9 : decode cX10_without 9 = .ok (.iload_n 1, 1) := by decide +kernel
theorem dX10_without_10 : decode cX10_without 10 = .ok (.invokevirtual 537, 3) := by decide +kernel
theorem dX10_without_13 : decode cX10_without 13 = .ok (.goto 5, 3) := by decide +kernel
theorem dX10_without_16 : decode cX10_without 16 = .ok (.bipush (-2), 2) := by decide +kernel
theorem dX10_without_18 : decode cX10_without 18 = .ok (.ireturn, 1) := by decide +kernel
theorem dX10_blame_0 : decode cX10_blame 0 = .ok (.aload_n 0, 1) := by decide +kernel
theorem dX10_blame_1 : decode cX10_blame 1 = .ok (.invokevirtual 513, 3) := by decide +kernel
theorem dX10_blame_4 : decode cX10_blame 4 = .ok (.ifCond .ne 6, 3) := by decide +kernel
theorem dX10_blame_7 : decode cX10_blame 7 = .ok (.bipush (-2), 2) := by decide +kernel
theorem dX10_blame_9 : decode cX10_blame 9 = .ok (.ireturn, 1) := by decide +kernel
theorem dX10_blame_10 : decode cX10_blame 10 = .ok (.iconst (-1), 1) := by decide +kernel
theorem dX10_blame_11 : decode cX10_blame 11 = .ok (.istore_n 1, 1) := by decide +kernel
theorem dX10_blame_12 : decode cX10_blame 12 = .ok (.aload_n 0, 1) := by decide +kernel
theorem dX10_blame_13 : decode cX10_blame 13 = .ok (.getfield 418, 3) := by decide +kernel
theorem dX10_blame_16 : decode cX10_blame 16 = .ok (.istore_n 2, 1) := by decide +kernel
theorem dX10_blame_17 : decode cX10_blame 17 = .ok (.iconst 0, 1) := by decide +kernel
theorem dX10_blame_18 : decode cX10_blame 18 = .ok (.istore_n 3, 1) := by decide +kernel
theorem dX10_blame_19 : decode cX10_blame 19 = .ok (.iload_n 3, 1) := by decide +kernel
theorem dX10_blame_20 : decode cX10_blame 20 = .ok (.aload_n 0, 1) := by decide +kernel
theorem dX10_blame_21 : decode cX10_blame 21 = .ok (.invokevirtual 345, 3) := by decide +kernel
theorem dX10_blame_24 : decode cX10_blame 24 = .ok (.if_icmp .ge 30, 3) := by decide +kernel
theorem dX10_blame_27 : decode cX10_blame 27 = .ok (.aload_n 0, 1) := by decide +kernel
theorem dX10_blame_28 : decode cX10_blame 28 = .ok (.iload_n 3, 1) := by decide +kernel
theorem dX10_blame_29 : decode cX10_blame 29 = .ok (.invokevirtual 537, 3) := by decide +kernel
theorem dX10_blame_32 : decode cX10_blame 32 = .ok (.istore 4, 2) := by decide +kernel
theorem dX10_blame_34 : decode cX10_blame 34 = .ok (.iload 4, 2) := by decide +kernel
theorem dX10_blame_36 : decode cX10_blame 36 = .ok (.iload_n 2, 1) := by decide +kernel
theorem dX10_blame_37 : decode cX10_blame 37 = .ok (.if_icmp .lt 6, 3) := by decide +kernel
theorem dX10_blame_40 : decode cX10_blame 40 = .ok (.goto 8, 3) := by decide +kernel
theorem dX10_blame_43 : decode cX10_blame 43 = .ok (.iload 4, 2) := by decide +kernel
theorem dX10_blame_45 : decode cX10_blame 45 = .ok (.istore_n 2, 1) := by decide +kernel
theorem dX10_blame_46 : decode cX10_blame 46 = .ok (.iload_n 3, 1) := by decide +kernel
theorem dX10_blame_47 : decode cX10_blame 47 = .ok (.istore_n 1, 1) := by decide +kernel
theorem dX10_blame_48 : decode cX10_blame 48 = .ok (.iinc 3 1, 3) := by decide +kernel
theorem dX10_blame_51 : decode cX10_blame 51 = .ok (.goto (-32), 3) := by decide +kernel
theorem dX10_blame_54 : decode cX10_blame 54 = .ok (.iload_n 1, 1) := by decide +kernel
theorem dX10_blame_55 : decode cX10_blame 55 = .ok (.ireturn, 1) := by decide +kernel
theorem dX10_recordsWith_0 : decode cX10_recordsWith 0 = .ok (.aload_n 0, 1) := by decide +kernel
theorem dX10_recordsWith_1 : decode cX10_recordsWith 1 = .ok (.invokevirtual 501, 3) := by decide +kernel
theorem dX10_recordsWith_4 : decode cX10_recordsWith 4 = .ok (.aload_n 0, 1) := by decide +kernel
theorem dX10_recordsWith_5 : decode cX10_recordsWith 5 = .ok (.iload_n 1, 1) := by decide +kernel
theorem dX10_recordsWith_6 : decode cX10_recordsWith 6 = .ok (.putfield 58, 3) := by decide +kernel
theorem dX10_recordsWith_9 : decode cX10_recordsWith 9 = .ok (.aload_n 0, 1) := by decide +kernel
theorem dX10_recordsWith_10 : decode cX10_recordsWith 10 = .ok (.iload_n 2, 1) := by decide +kernel
theorem dX10_recordsWith_11 : decode cX10_recordsWith 11 = .ok (.putfield 409, 3) := by decide +kernel
theorem dX10_recordsWith_14 : decode cX10_recordsWith 14 = .ok (.aload_n 0, 1) := by decide +kernel
theorem dX10_recordsWith_15 : decode cX10_recordsWith 15 = .ok (.iload_n 3, 1) := by decide +kernel
theorem dX10_recordsWith_16 : decode cX10_recordsWith 16 = .ok (.putfield 412, 3) := by decide +kernel
theorem dX10_recordsWith_19 : decode cX10_recordsWith 19 = .ok (.aload_n 0, 1) := by decide +kernel
theorem dX10_recordsWith_20 : decode cX10_recordsWith 20 = .ok (.aload_n 0, 1) := by decide +kernel
theorem dX10_recordsWith_21 : decode cX10_recordsWith 21 = .ok (.getfield 9, 3) := by decide +kernel
theorem dX10_recordsWith_24 : decode cX10_recordsWith 24 = .ok (.iconst 0, 1) := by decide +kernel
theorem dX10_recordsWith_25 : decode cX10_recordsWith 25 = .ok (.iaload, 1) := by decide +kernel
theorem dX10_recordsWith_26 : decode cX10_recordsWith 26 = .ok (.invokevirtual 504, 3) := by decide +kernel
theorem dX10_recordsWith_29 : decode cX10_recordsWith 29 = .ok (.aload_n 0, 1) := by decide +kernel
theorem dX10_recordsWith_30 : decode cX10_recordsWith 30 = .ok (.getfield 418, 3) := by decide +kernel
theorem dX10_recordsWith_33 : decode cX10_recordsWith 33 = .ok (.ireturn, 1) := by decide +kernel
theorem dX10_with_0 : decode cX10_with 0 = .ok (.aload_n 0, 1) := by decide +kernel
theorem dX10_with_1 : decode cX10_with 1 = .ok (.iload_n 1, 1) := by decide +kernel
theorem dX10_with_2 : decode cX10_with 2 = .ok (.invokevirtual 333, 3) := by decide +kernel
theorem dX10_with_5 : decode cX10_with 5 = .ok (.ifCond .eq 40, 3) := by decide +kernel
theorem dX10_with_8 : decode cX10_with 8 = .ok (.iload_n 2, 1) := by decide +kernel
theorem dX10_with_9 : decode cX10_with 9 = .ok (.i2l, 1) := by decide +kernel
theorem dX10_with_10 : decode cX10_with 10 = .ok (.lconst 0, 1) := by decide +kernel
theorem dX10_with_11 : decode cX10_with 11 = .ok (.ldc2_w 540, 3) := by decide +kernel
theorem dX10_with_14 : decode cX10_with 14 = .ok (.invokestatic 152, 3) := by decide +kernel
theorem dX10_with_17 : decode cX10_with 17 = .ok (.ifCond .eq 28, 3) := by decide +kernel
theorem dX10_with_20 : decode cX10_with 20 = .ok (.iload_n 3, 1) := by decide +kernel
theorem dX10_with_21 : decode cX10_with 21 = .ok (.i2l, 1) := by decide +kernel
theorem dX10_with_22 : decode cX10_with 22 = .ok (.iload_n 2, 1) := by decide +kernel
theorem dX10_with_23 : decode cX10_with 23 = .ok (.iconst 1, 1) := by decide +kernel
theorem dX10_with_24 : decode cX10_with 24 = .ok (.iadd, 1) := by decide +kernel
theorem dX10_with_25 : decode cX10_with 25 = .ok (.i2l, 1) := by decide +kernel
theorem dX10_with_26 : decode cX10_with 26 = .ok (.ldc2_w 542, 3) := by decide +kernel
theorem dX10_with_29 : decode cX10_with 29 = .ok (.invokestatic 152, 3) := by decide +kernel
theorem dX10_with_32 : decode cX10_with 32 = .ok (.ifCond .eq 13, 3) := by decide +kernel
theorem dX10_with_35 : decode cX10_with 35 = .ok (.aload_n 0, 1) := by decide +kernel
theorem dX10_with_36 : decode cX10_with 36 = .ok (.iload_n 1, 1) := by decide +kernel
theorem dX10_with_37 : decode cX10_with 37 = .ok (.iload_n 2, 1) := by decide +kernel
theorem dX10_with_38 : decode cX10_with 38 = .ok (.iload_n 3, 1) := by decide +kernel
theorem dX10_with_39 : decode cX10_with 39 = .ok (.invokevirtual 544, 3) := by decide +kernel
theorem dX10_with_42 : decode cX10_with 42 = .ok (.goto 5, 3) := by decide +kernel
theorem dX10_with_45 : decode cX10_with 45 = .ok (.bipush (-2), 2) := by decide +kernel
theorem dX10_with_47 : decode cX10_with 47 = .ok (.ireturn, 1) := by decide +kernel
theorem dX10_tight_0 : decode cX10_tight 0 = .ok (.aload_n 0, 1) := by decide +kernel
theorem dX10_tight_1 : decode cX10_tight 1 = .ok (.iload_n 1, 1) := by decide +kernel
theorem dX10_tight_2 : decode cX10_tight 2 = .ok (.invokevirtual 333, 3) := by decide +kernel
theorem dX10_tight_5 : decode cX10_tight 5 = .ok (.ifCond .eq 10, 3) := by decide +kernel
theorem dX10_tight_8 : decode cX10_tight 8 = .ok (.aload_n 0, 1) := by decide +kernel
theorem dX10_tight_9 : decode cX10_tight 9 = .ok (.invokevirtual 513, 3) := by decide +kernel
theorem dX10_tight_12 : decode cX10_tight 12 = .ok (.ifCond .ne 6, 3) := by decide +kernel
theorem dX10_tight_15 : decode cX10_tight 15 = .ok (.bipush (-2), 2) := by decide +kernel
theorem dX10_tight_17 : decode cX10_tight 17 = .ok (.ireturn, 1) := by decide +kernel
theorem dX10_tight_18 : decode cX10_tight 18 = .ok (.aload_n 0, 1) := by decide +kernel
theorem dX10_tight_19 : decode cX10_tight 19 = .ok (.getfield 418, 3) := by decide +kernel
theorem dX10_tight_22 : decode cX10_tight 22 = .ok (.istore_n 2, 1) := by decide +kernel
theorem dX10_tight_23 : decode cX10_tight 23 = .ok (.aload_n 0, 1) := by decide +kernel
theorem dX10_tight_24 : decode cX10_tight 24 = .ok (.iload_n 1, 1) := by decide +kernel
theorem dX10_tight_25 : decode cX10_tight 25 = .ok (.iconst 2, 1) := by decide +kernel
theorem dX10_tight_26 : decode cX10_tight 26 = .ok (.invokevirtual 156, 3) := by decide +kernel
theorem dX10_tight_29 : decode cX10_tight 29 = .ok (.iconst 1, 1) := by decide +kernel
theorem dX10_tight_30 : decode cX10_tight 30 = .ok (.iadd, 1) := by decide +kernel
theorem dX10_tight_31 : decode cX10_tight 31 = .ok (.istore_n 3, 1) := by decide +kernel
theorem dX10_tight_32 : decode cX10_tight 32 = .ok (.aload_n 0, 1) := by decide +kernel
theorem dX10_tight_33 : decode cX10_tight 33 = .ok (.iload_n 1, 1) := by decide +kernel
theorem dX10_tight_34 : decode cX10_tight 34 = .ok (.aload_n 0, 1) := by decide +kernel
theorem dX10_tight_35 : decode cX10_tight 35 = .ok (.iload_n 1, 1) := by decide +kernel
theorem dX10_tight_36 : decode cX10_tight 36 = .ok (.iconst 2, 1) := by decide +kernel
theorem dX10_tight_37 : decode cX10_tight 37 = .ok (.invokevirtual 156, 3) := by decide +kernel
theorem dX10_tight_40 : decode cX10_tight 40 = .ok (.iload_n 3, 1) := by decide +kernel
theorem dX10_tight_41 : decode cX10_tight 41 = .ok (.invokevirtual 544, 3) := by decide +kernel
theorem dX10_tight_44 : decode cX10_tight 44 = .ok (.iload_n 2, 1) := by decide +kernel
theorem dX10_tight_45 : decode cX10_tight 45 = .ok (.if_icmp .le 9, 3) := by decide +kernel
theorem dX10_tight_48 : decode cX10_tight 48 = .ok (.iinc 3 1, 3) := by decide +kernel
theorem dX10_tight_51 : decode cX10_tight 51 = .ok (.goto (-19), 3) := by decide +kernel
theorem dX10_tight_54 : decode cX10_tight 54 = .ok (.iload_n 3, 1) := by decide +kernel
theorem dX10_tight_55 : decode cX10_tight 55 = .ok (.ireturn, 1) := by decide +kernel
theorem dX10_loose_0 : decode cX10_loose 0 = .ok (.aload_n 0, 1) := by decide +kernel
theorem dX10_loose_1 : decode cX10_loose 1 = .ok (.iload_n 1, 1) := by decide +kernel
theorem dX10_loose_2 : decode cX10_loose 2 = .ok (.invokevirtual 333, 3) := by decide +kernel
theorem dX10_loose_5 : decode cX10_loose 5 = .ok (.ifCond .eq 10, 3) := by decide +kernel
theorem dX10_loose_8 : decode cX10_loose 8 = .ok (.aload_n 0, 1) := by decide +kernel
theorem dX10_loose_9 : decode cX10_loose 9 = .ok (.invokevirtual 513, 3) := by decide +kernel
theorem dX10_loose_12 : decode cX10_loose 12 = .ok (.ifCond .ne 6, 3) := by decide +kernel
theorem dX10_loose_15 : decode cX10_loose 15 = .ok (.bipush (-2), 2) := by decide +kernel
theorem dX10_loose_17 : decode cX10_loose 17 = .ok (.ireturn, 1) := by decide +kernel
theorem dX10_loose_18 : decode cX10_loose 18 = .ok (.aload_n 0, 1) := by decide +kernel
theorem dX10_loose_19 : decode cX10_loose 19 = .ok (.getfield 418, 3) := by decide +kernel
theorem dX10_loose_22 : decode cX10_loose 22 = .ok (.istore_n 2, 1) := by decide +kernel
theorem dX10_loose_23 : decode cX10_loose 23 = .ok (.bipush 99, 2) := by decide +kernel
theorem dX10_loose_25 : decode cX10_loose 25 = .ok (.aload_n 0, 1) := by decide +kernel
theorem dX10_loose_26 : decode cX10_loose 26 = .ok (.iload_n 1, 1) := by decide +kernel
theorem dX10_loose_27 : decode cX10_loose 27 = .ok (.iconst 3, 1) := by decide +kernel
theorem dX10_loose_28 : decode cX10_loose 28 = .ok (.invokevirtual 156, 3) := by decide +kernel
theorem dX10_loose_31 : decode cX10_loose 31 = .ok (.iconst 1, 1) := by decide +kernel
theorem dX10_loose_32 : decode cX10_loose 32 = .ok (.isub, 1) := by decide +kernel
theorem dX10_loose_33 : decode cX10_loose 33 = .ok (.invokestatic 191, 3) := by decide +kernel
theorem dX10_loose_36 : decode cX10_loose 36 = .ok (.istore_n 3, 1) := by decide +kernel
theorem dX10_loose_37 : decode cX10_loose 37 = .ok (.aload_n 0, 1) := by decide +kernel
theorem dX10_loose_38 : decode cX10_loose 38 = .ok (.iload_n 1, 1) := by decide +kernel
theorem dX10_loose_39 : decode cX10_loose 39 = .ok (.iload_n 3, 1) := by decide +kernel
theorem dX10_loose_40 : decode cX10_loose 40 = .ok (.aload_n 0, 1) := by decide +kernel
theorem dX10_loose_41 : decode cX10_loose 41 = .ok (.iload_n 1, 1) := by decide +kernel
theorem dX10_loose_42 : decode cX10_loose 42 = .ok (.iconst 3, 1) := by decide +kernel
theorem dX10_loose_43 : decode cX10_loose 43 = .ok (.invokevirtual 156, 3) := by decide +kernel
theorem dX10_loose_46 : decode cX10_loose 46 = .ok (.invokevirtual 544, 3) := by decide +kernel
theorem dX10_loose_49 : decode cX10_loose 49 = .ok (.iload_n 2, 1) := by decide +kernel
theorem dX10_loose_50 : decode cX10_loose 50 = .ok (.if_icmp .le 9, 3) := by decide +kernel
theorem dX10_loose_53 : decode cX10_loose 53 = .ok (.iinc 3 (-1), 3) := by decide +kernel
theorem dX10_loose_56 : decode cX10_loose 56 = .ok (.goto (-19), 3) := by decide +kernel
theorem dX10_loose_59 : decode cX10_loose 59 = .ok (.iload_n 3, 1) := by decide +kernel
theorem dX10_loose_60 : decode cX10_loose 60 = .ok (.ireturn, 1) := by decide +kernel
theorem dX10_extra_0 : decode cX10_extra 0 = .ok (.bipush 106, 2) := by decide +kernel
theorem dX10_extra_2 : decode cX10_extra 2 = .ok (.iconst 5, 1) := by decide +kernel
theorem dX10_extra_3 : decode cX10_extra 3 = .ok (.aload_n 0, 1) := by decide +kernel
theorem dX10_extra_4 : decode cX10_extra 4 = .ok (.invokevirtual 345, 3) := by decide +kernel
theorem dX10_extra_7 : decode cX10_extra 7 = .ok (.imul, 1) := by decide +kernel
theorem dX10_extra_8 : decode cX10_extra 8 = .ok (.iadd, 1) := by decide +kernel
theorem dX10_extra_9 : decode cX10_extra 9 = .ok (.istore 5, 2) := by decide +kernel
theorem dX10_extra_11 : decode cX10_extra 11 = .ok (.aload_n 0, 1) := by decide +kernel
theorem dX10_extra_12 : decode cX10_extra 12 = .ok (.invokevirtual 501, 3) := by decide +kernel
theorem dX10_extra_15 : decode cX10_extra 15 = .ok (.aload_n 0, 1) := by decide +kernel
theorem dX10_extra_16 : decode cX10_extra 16 = .ok (.iconst 1, 1) := by decide +kernel
theorem dX10_extra_17 : decode cX10_extra 17 = .ok (.putfield 415, 3) := by decide +kernel
theorem dX10_extra_20 : decode cX10_extra 20 = .ok (.aload_n 0, 1) := by decide +kernel
theorem dX10_extra_21 : decode cX10_extra 21 = .ok (.getfield 9, 3) := by decide +kernel
theorem dX10_extra_24 : decode cX10_extra 24 = .ok (.iload 5, 2) := by decide +kernel
theorem dX10_extra_26 : decode cX10_extra 26 = .ok (.iload_n 1, 1) := by decide +kernel
theorem dX10_extra_27 : decode cX10_extra 27 = .ok (.iastore, 1) := by decide +kernel
theorem dX10_extra_28 : decode cX10_extra 28 = .ok (.aload_n 0, 1) := by decide +kernel
theorem dX10_extra_29 : decode cX10_extra 29 = .ok (.getfield 9, 3) := by decide +kernel
theorem dX10_extra_32 : decode cX10_extra 32 = .ok (.iload 5, 2) := by decide +kernel
theorem dX10_extra_34 : decode cX10_extra 34 = .ok (.iconst 1, 1) := by decide +kernel
theorem dX10_extra_35 : decode cX10_extra 35 = .ok (.iadd, 1) := by decide +kernel
theorem dX10_extra_36 : decode cX10_extra 36 = .ok (.iload_n 2, 1) := by decide +kernel
theorem dX10_extra_37 : decode cX10_extra 37 = .ok (.iastore, 1) := by decide +kernel
theorem dX10_extra_38 : decode cX10_extra 38 = .ok (.aload_n 0, 1) := by decide +kernel
theorem dX10_extra_39 : decode cX10_extra 39 = .ok (.getfield 9, 3) := by decide +kernel
theorem dX10_extra_42 : decode cX10_extra 42 = .ok (.iload 5, 2) := by decide +kernel
theorem dX10_extra_44 : decode cX10_extra 44 = .ok (.iconst 2, 1) := by decide +kernel
theorem dX10_extra_45 : decode cX10_extra 45 = .ok (.iadd, 1) := by decide +kernel
theorem dX10_extra_46 : decode cX10_extra 46 = .ok (.iload_n 3, 1) := by decide +kernel
theorem dX10_extra_47 : decode cX10_extra 47 = .ok (.iastore, 1) := by decide +kernel
theorem dX10_extra_48 : decode cX10_extra 48 = .ok (.aload_n 0, 1) := by decide +kernel
theorem dX10_extra_49 : decode cX10_extra 49 = .ok (.getfield 9, 3) := by decide +kernel
theorem dX10_extra_52 : decode cX10_extra 52 = .ok (.iload 5, 2) := by decide +kernel
theorem dX10_extra_54 : decode cX10_extra 54 = .ok (.iconst 3, 1) := by decide +kernel
theorem dX10_extra_55 : decode cX10_extra 55 = .ok (.iadd, 1) := by decide +kernel
theorem dX10_extra_56 : decode cX10_extra 56 = .ok (.iload 4, 2) := by decide +kernel
theorem dX10_extra_58 : decode cX10_extra 58 = .ok (.iastore, 1) := by decide +kernel
theorem dX10_extra_59 : decode cX10_extra 59 = .ok (.aload_n 0, 1) := by decide +kernel
theorem dX10_extra_60 : decode cX10_extra 60 = .ok (.getfield 9, 3) := by decide +kernel
theorem dX10_extra_63 : decode cX10_extra 63 = .ok (.iload 5, 2) := by decide +kernel
theorem dX10_extra_65 : decode cX10_extra 65 = .ok (.iconst 4, 1) := by decide +kernel
theorem dX10_extra_66 : decode cX10_extra 66 = .ok (.iadd, 1) := by decide +kernel
theorem dX10_extra_67 : decode cX10_extra 67 = .ok (.iconst 1, 1) := by decide +kernel
theorem dX10_extra_68 : decode cX10_extra 68 = .ok (.iastore, 1) := by decide +kernel
theorem dX10_extra_69 : decode cX10_extra 69 = .ok (.aload_n 0, 1) := by decide +kernel
theorem dX10_extra_70 : decode cX10_extra 70 = .ok (.aload_n 0, 1) := by decide +kernel
theorem dX10_extra_71 : decode cX10_extra 71 = .ok (.getfield 9, 3) := by decide +kernel
theorem dX10_extra_74 : decode cX10_extra 74 = .ok (.iconst 0, 1) := by decide +kernel
theorem dX10_extra_75 : decode cX10_extra 75 = .ok (.iaload, 1) := by decide +kernel
theorem dX10_extra_76 : decode cX10_extra 76 = .ok (.invokevirtual 504, 3) := by decide +kernel
theorem dX10_extra_79 : decode cX10_extra 79 = .ok (.aload_n 0, 1) := by decide +kernel
theorem dX10_extra_80 : decode cX10_extra 80 = .ok (.aload_n 0, 1) := by decide +kernel
theorem dX10_extra_81 : decode cX10_extra 81 = .ok (.invokevirtual 345, 3) := by decide +kernel
theorem dX10_extra_84 : decode cX10_extra 84 = .ok (.invokevirtual 534, 3) := by decide +kernel
theorem dX10_extra_87 : decode cX10_extra 87 = .ok (.istore 6, 2) := by decide +kernel
theorem dX10_extra_89 : decode cX10_extra 89 = .ok (.aload_n 0, 1) := by decide +kernel
theorem dX10_extra_90 : decode cX10_extra 90 = .ok (.iconst 0, 1) := by decide +kernel
theorem dX10_extra_91 : decode cX10_extra 91 = .ok (.putfield 415, 3) := by decide +kernel
theorem dX10_extra_94 : decode cX10_extra 94 = .ok (.aload_n 0, 1) := by decide +kernel
theorem dX10_extra_95 : decode cX10_extra 95 = .ok (.aload_n 0, 1) := by decide +kernel
theorem dX10_extra_96 : decode cX10_extra 96 = .ok (.getfield 547, 3) := by decide +kernel
theorem dX10_extra_99 : decode cX10_extra 99 = .ok (.iload 6, 2) := by decide +kernel
theorem dX10_extra_101 : decode cX10_extra 101 = .ok (.invokestatic 327, 3) := by decide +kernel
theorem dX10_extra_104 : decode cX10_extra 104 = .ok (.putfield 547, 3) := by decide +kernel
theorem dX10_extra_107 : decode cX10_extra 107 = .ok (.aload_n 0, 1) := by decide +kernel
theorem dX10_extra_108 : decode cX10_extra 108 = .ok (.dup, 1) := by decide +kernel
theorem dX10_extra_109 : decode cX10_extra 109 = .ok (.getfield 550, 3) := by decide +kernel
theorem dX10_extra_112 : decode cX10_extra 112 = .ok (.iload 6, 2) := by decide +kernel
theorem dX10_extra_114 : decode cX10_extra 114 = .ok (.iconst (-1), 1) := by decide +kernel
theorem dX10_extra_115 : decode cX10_extra 115 = .ok (.if_icmp .ne 7, 3) := by decide +kernel
theorem dX10_extra_118 : decode cX10_extra 118 = .ok (.iconst 1, 1) := by decide +kernel
theorem dX10_extra_119 : decode cX10_extra 119 = .ok (.goto 4, 3) := by decide +kernel
theorem dX10_extra_122 : decode cX10_extra 122 = .ok (.iconst 0, 1) := by decide +kernel
theorem dX10_extra_123 : decode cX10_extra 123 = .ok (.iadd, 1) := by decide +kernel
theorem dX10_extra_124 : decode cX10_extra 124 = .ok (.putfield 550, 3) := by decide +kernel
theorem dX10_extra_127 : decode cX10_extra 127 = .ok (.return_, 1) := by decide +kernel
theorem dX10_asksExtras_0 : decode cX10_asksExtras 0 = .ok (.aload_n 0, 1) := by decide +kernel
theorem dX10_asksExtras_1 : decode cX10_asksExtras 1 = .ok (.iload_n 1, 1) := by decide +kernel
theorem dX10_asksExtras_2 : decode cX10_asksExtras 2 = .ok (.invokevirtual 333, 3) := by decide +kernel
theorem dX10_asksExtras_5 : decode cX10_asksExtras 5 = .ok (.ifCond .eq 22, 3) := by decide +kernel
theorem dX10_asksExtras_8 : decode cX10_asksExtras 8 = .ok (.iload_n 2, 1) := by decide +kernel
theorem dX10_asksExtras_9 : decode cX10_asksExtras 9 = .ok (.i2l, 1) := by decide +kernel
theorem dX10_asksExtras_10 : decode cX10_asksExtras 10 = .ok (.lconst 0, 1) := by decide +kernel
theorem dX10_asksExtras_11 : decode cX10_asksExtras 11 = .ok (.ldc2_w 348, 3) := by decide +kernel
theorem dX10_asksExtras_14 : decode cX10_asksExtras 14 = .ok (.invokestatic 152, 3) := by decide +kernel
theorem dX10_asksExtras_17 : decode cX10_asksExtras 17 = .ok (.ifCond .eq 10, 3) := by decide +kernel
theorem dX10_asksExtras_20 : decode cX10_asksExtras 20 = .ok (.aload_n 0, 1) := by decide +kernel
theorem dX10_asksExtras_21 : decode cX10_asksExtras 21 = .ok (.invokevirtual 513, 3) := by decide +kernel
theorem dX10_asksExtras_24 : decode cX10_asksExtras 24 = .ok (.ifCond .ne 5, 3) := by decide +kernel
theorem dX10_asksExtras_27 : decode cX10_asksExtras 27 = .ok (.iconst 0, 1) := by decide +kernel
theorem dX10_asksExtras_28 : decode cX10_asksExtras 28 = .ok (.ireturn, 1) := by decide +kernel
theorem dX10_asksExtras_29 : decode cX10_asksExtras 29 = .ok (.bipush 51, 2) := by decide +kernel
theorem dX10_asksExtras_31 : decode cX10_asksExtras 31 = .ok (.aload_n 0, 1) := by decide +kernel
theorem dX10_asksExtras_32 : decode cX10_asksExtras 32 = .ok (.getfield 67, 3) := by decide +kernel
theorem dX10_asksExtras_35 : decode cX10_asksExtras 35 = .ok (.iload_n 1, 1) := by decide +kernel
theorem dX10_asksExtras_36 : decode cX10_asksExtras 36 = .ok (.iaload, 1) := by decide +kernel
theorem dX10_asksExtras_37 : decode cX10_asksExtras 37 = .ok (.invokestatic 191, 3) := by decide +kernel
theorem dX10_asksExtras_40 : decode cX10_asksExtras 40 = .ok (.istore_n 3, 1) := by decide +kernel
theorem dX10_asksExtras_41 : decode cX10_asksExtras 41 = .ok (.aload_n 0, 1) := by decide +kernel
theorem dX10_asksExtras_42 : decode cX10_asksExtras 42 = .ok (.iconst (-1), 1) := by decide +kernel
theorem dX10_asksExtras_43 : decode cX10_asksExtras 43 = .ok (.putfield 547, 3) := by decide +kernel
theorem dX10_asksExtras_46 : decode cX10_asksExtras 46 = .ok (.aload_n 0, 1) := by decide +kernel
theorem dX10_asksExtras_47 : decode cX10_asksExtras 47 = .ok (.iconst 0, 1) := by decide +kernel
theorem dX10_asksExtras_48 : decode cX10_asksExtras 48 = .ok (.putfield 550, 3) := by decide +kernel
theorem dX10_asksExtras_51 : decode cX10_asksExtras 51 = .ok (.iconst 0, 1) := by decide +kernel
theorem dX10_asksExtras_52 : decode cX10_asksExtras 52 = .ok (.istore 4, 2) := by decide +kernel
theorem dX10_asksExtras_54 : decode cX10_asksExtras 54 = .ok (.iload 4, 2) := by decide +kernel
theorem dX10_asksExtras_56 : decode cX10_asksExtras 56 = .ok (.iload_n 3, 1) := by decide +kernel
theorem dX10_asksExtras_57 : decode cX10_asksExtras 57 = .ok (.if_icmp .ge 56, 3) := by decide +kernel
theorem dX10_asksExtras_60 : decode cX10_asksExtras 60 = .ok (.iconst 0, 1) := by decide +kernel
theorem dX10_asksExtras_61 : decode cX10_asksExtras 61 = .ok (.istore 5, 2) := by decide +kernel
theorem dX10_asksExtras_63 : decode cX10_asksExtras 63 = .ok (.iload 5, 2) := by decide +kernel
theorem dX10_asksExtras_65 : decode cX10_asksExtras 65 = .ok (.iload_n 2, 1) := by decide +kernel
theorem dX10_asksExtras_66 : decode cX10_asksExtras 66 = .ok (.iconst 4, 1) := by decide +kernel
theorem dX10_asksExtras_67 : decode cX10_asksExtras 67 = .ok (.if_icmp .ne 7, 3) := by decide +kernel
theorem dX10_asksExtras_70 : decode cX10_asksExtras 70 = .ok (.iconst 1, 1) := by decide +kernel
theorem dX10_asksExtras_71 : decode cX10_asksExtras 71 = .ok (.goto 8, 3) := by decide +kernel
theorem dX10_asksExtras_74 : decode cX10_asksExtras 74 = .ok (.aload_n 0, 1) := by decide +kernel
theorem dX10_asksExtras_75 : decode cX10_asksExtras 75 = .ok (.iload_n 1, 1) := by decide +kernel
theorem dX10_asksExtras_76 : decode cX10_asksExtras 76 = .ok (.invokevirtual 317, 3) := by decide +kernel
theorem dX10_asksExtras_79 : decode cX10_asksExtras 79 = .ok (.if_icmp .ge 28, 3) := by decide +kernel
theorem dX10_asksExtras_82 : decode cX10_asksExtras 82 = .ok (.aload_n 0, 1) := by decide +kernel
theorem dX10_asksExtras_83 : decode cX10_asksExtras 83 = .ok (.iload_n 2, 1) := by decide +kernel
theorem dX10_asksExtras_84 : decode cX10_asksExtras 84 = .ok (.iload_n 1, 1) := by decide +kernel
theorem dX10_asksExtras_85 : decode cX10_asksExtras 85 = .ok (.iload 4, 2) := by decide +kernel
theorem dX10_asksExtras_87 : decode cX10_asksExtras 87 = .ok (.iload_n 2, 1) := by decide +kernel
theorem dX10_asksExtras_88 : decode cX10_asksExtras 88 = .ok (.iconst 4, 1) := by decide +kernel
theorem dX10_asksExtras_89 : decode cX10_asksExtras 89 = .ok (.if_icmp .ne 7, 3) := by decide +kernel
theorem dX10_asksExtras_92 : decode cX10_asksExtras 92 = .ok (.iconst (-1), 1) := by decide +kernel
theorem dX10_asksExtras_93 : decode cX10_asksExtras 93 = .ok (.goto 5, 3) := by decide +kernel
theorem dX10_asksExtras_96 : decode cX10_asksExtras 96 = .ok (.iload 5, 2) := by decide +kernel
theorem dX10_asksExtras_98 : decode cX10_asksExtras 98 = .ok (.invokevirtual 553, 3) := by decide +kernel
theorem dX10_asksExtras_101 : decode cX10_asksExtras 101 = .ok (.iinc 5 1, 3) := by decide +kernel
theorem dX10_asksExtras_104 : decode cX10_asksExtras 104 = .ok (.goto (-41), 3) := by decide +kernel
theorem dX10_asksExtras_107 : decode cX10_asksExtras 107 = .ok (.iinc 4 1, 3) := by decide +kernel
theorem dX10_asksExtras_110 : decode cX10_asksExtras 110 = .ok (.goto (-56), 3) := by decide +kernel
theorem dX10_asksExtras_113 : decode cX10_asksExtras 113 = .ok (.iconst 1, 1) := by decide +kernel
theorem dX10_asksExtras_114 : decode cX10_asksExtras 114 = .ok (.ireturn, 1) := by decide +kernel
theorem dX10_longest_0 : decode cX10_longest 0 = .ok (.aload_n 0, 1) := by decide +kernel
theorem dX10_longest_1 : decode cX10_longest 1 = .ok (.iload_n 1, 1) := by decide +kernel
theorem dX10_longest_2 : decode cX10_longest 2 = .ok (.iload_n 2, 1) := by decide +kernel
theorem dX10_longest_3 : decode cX10_longest 3 = .ok (.invokevirtual 556, 3) := by decide +kernel
theorem dX10_longest_6 : decode cX10_longest 6 = .ok (.ifCond .eq 10, 3) := by decide +kernel
theorem dX10_longest_9 : decode cX10_longest 9 = .ok (.aload_n 0, 1) := by decide +kernel
theorem dX10_longest_10 : decode cX10_longest 10 = .ok (.getfield 547, 3) := by decide +kernel
theorem dX10_longest_13 : decode cX10_longest 13 = .ok (.goto 5, 3) := by decide +kernel
theorem dX10_longest_16 : decode cX10_longest 16 = .ok (.bipush (-2), 2) := by decide +kernel
theorem dX10_longest_18 : decode cX10_longest 18 = .ok (.ireturn, 1) := by decide +kernel
theorem dX10_silent_0 : decode cX10_silent 0 = .ok (.aload_n 0, 1) := by decide +kernel
theorem dX10_silent_1 : decode cX10_silent 1 = .ok (.iload_n 1, 1) := by decide +kernel
theorem dX10_silent_2 : decode cX10_silent 2 = .ok (.iload_n 2, 1) := by decide +kernel
theorem dX10_silent_3 : decode cX10_silent 3 = .ok (.invokevirtual 556, 3) := by decide +kernel
theorem dX10_silent_6 : decode cX10_silent 6 = .ok (.ifCond .eq 10, 3) := by decide +kernel
theorem dX10_silent_9 : decode cX10_silent 9 = .ok (.aload_n 0, 1) := by decide +kernel
theorem dX10_silent_10 : decode cX10_silent 10 = .ok (.getfield 550, 3) := by decide +kernel
theorem dX10_silent_13 : decode cX10_silent 13 = .ok (.goto 5, 3) := by decide +kernel
theorem dX10_silent_16 : decode cX10_silent 16 = .ok (.bipush (-2), 2) := by decide +kernel
theorem dX10_silent_18 : decode cX10_silent 18 = .ok (.ireturn, 1) := by decide +kernel
theorem dX10_canInject_0 : decode cX10_canInject 0 = .ok (.iload_n 1, 1) := by decide +kernel
theorem dX10_canInject_1 : decode cX10_canInject 1 = .ok (.iconst 5, 1) := by decide +kernel
theorem dX10_canInject_2 : decode cX10_canInject 2 = .ok (.if_icmp .ne 39, 3) := by decide +kernel
theorem dX10_canInject_5 : decode cX10_canInject 5 = .ok (.aload_n 0, 1) := by decide +kernel
theorem dX10_canInject_6 : decode cX10_canInject 6 = .ok (.iload_n 2, 1) := by decide +kernel
theorem dX10_canInject_7 : decode cX10_canInject 7 = .ok (.invokevirtual 342, 3) := by decide +kernel
theorem dX10_canInject_10 : decode cX10_canInject 10 = .ok (.ifCond .eq 29, 3) := by decide +kernel
theorem dX10_canInject_13 : decode cX10_canInject 13 = .ok (.iload_n 3, 1) := by decide +kernel
theorem dX10_canInject_14 : decode cX10_canInject 14 = .ok (.i2l, 1) := by decide +kernel
theorem dX10_canInject_15 : decode cX10_canInject 15 = .ok (.lconst 0, 1) := by decide +kernel
theorem dX10_canInject_16 : decode cX10_canInject 16 = .ok (.ldc2_w 559, 3) := by decide +kernel
theorem dX10_canInject_19 : decode cX10_canInject 19 = .ok (.invokestatic 152, 3) := by decide +kernel
theorem dX10_canInject_22 : decode cX10_canInject 22 = .ok (.ifCond .eq 17, 3) := by decide +kernel
theorem dX10_canInject_25 : decode cX10_canInject 25 = .ok (.iload 4, 2) := by decide +kernel
theorem dX10_canInject_27 : decode cX10_canInject 27 = .ok (.ifCond .ne 12, 3) := by decide +kernel
theorem dX10_canInject_30 : decode cX10_canInject 30 = .ok (.iload 5, 2) := by decide +kernel
theorem dX10_canInject_32 : decode cX10_canInject 32 = .ok (.ifCond .ne 7, 3) := by decide +kernel
theorem dX10_canInject_35 : decode cX10_canInject 35 = .ok (.iconst 1, 1) := by decide +kernel
theorem dX10_canInject_36 : decode cX10_canInject 36 = .ok (.goto 4, 3) := by decide +kernel
theorem dX10_canInject_39 : decode cX10_canInject 39 = .ok (.iconst 0, 1) := by decide +kernel
theorem dX10_canInject_40 : decode cX10_canInject 40 = .ok (.ireturn, 1) := by decide +kernel
theorem dX10_canInject_41 : decode cX10_canInject 41 = .ok (.iload_n 1, 1) := by decide +kernel
theorem dX10_canInject_42 : decode cX10_canInject 42 = .ok (.i2l, 1) := by decide +kernel
theorem dX10_canInject_43 : decode cX10_canInject 43 = .ok (.lconst 0, 1) := by decide +kernel
theorem dX10_canInject_44 : decode cX10_canInject 44 = .ok (.ldc2_w 348, 3) := by decide +kernel
theorem dX10_canInject_47 : decode cX10_canInject 47 = .ok (.invokestatic 152, 3) := by decide +kernel
theorem dX10_canInject_50 : decode cX10_canInject 50 = .ok (.ifCond .eq 36, 3) := by decide +kernel
theorem dX10_canInject_53 : decode cX10_canInject 53 = .ok (.aload_n 0, 1) := by decide +kernel
theorem dX10_canInject_54 : decode cX10_canInject 54 = .ok (.iload_n 2, 1) := by decide +kernel
theorem dX10_canInject_55 : decode cX10_canInject 55 = .ok (.invokevirtual 333, 3) := by decide +kernel
theorem dX10_canInject_58 : decode cX10_canInject 58 = .ok (.ifCond .eq 28, 3) := by decide +kernel
theorem dX10_canInject_61 : decode cX10_canInject 61 = .ok (.iload_n 3, 1) := by decide +kernel
theorem dX10_canInject_62 : decode cX10_canInject 62 = .ok (.i2l, 1) := by decide +kernel
theorem dX10_canInject_63 : decode cX10_canInject 63 = .ok (.lconst 0, 1) := by decide +kernel
theorem dX10_canInject_64 : decode cX10_canInject 64 = .ok (.ldc2_w 394, 3) := by decide +kernel
theorem dX10_canInject_67 : decode cX10_canInject 67 = .ok (.invokestatic 152, 3) := by decide +kernel
theorem dX10_canInject_70 : decode cX10_canInject 70 = .ok (.ifCond .eq 16, 3) := by decide +kernel
theorem dX10_canInject_73 : decode cX10_canInject 73 = .ok (.iload 5, 2) := by decide +kernel
theorem dX10_canInject_75 : decode cX10_canInject 75 = .ok (.i2l, 1) := by decide +kernel
theorem dX10_canInject_76 : decode cX10_canInject 76 = .ok (.lconst 1, 1) := by decide +kernel
theorem dX10_canInject_77 : decode cX10_canInject 77 = .ok (.ldc2_w 561, 3) := by decide +kernel
theorem dX10_canInject_80 : decode cX10_canInject 80 = .ok (.invokestatic 152, 3) := by decide +kernel
theorem dX10_canInject_83 : decode cX10_canInject 83 = .ok (.ifCond .ne 5, 3) := by decide +kernel
theorem dX10_canInject_86 : decode cX10_canInject 86 = .ok (.iconst 0, 1) := by decide +kernel
theorem dX10_canInject_87 : decode cX10_canInject 87 = .ok (.ireturn, 1) := by decide +kernel
theorem dX10_canInject_88 : decode cX10_canInject 88 = .ok (.iload_n 1, 1) := by decide +kernel
theorem dX10_canInject_89 : decode cX10_canInject 89 = .ok (.iconst 4, 1) := by decide +kernel
theorem dX10_canInject_90 : decode cX10_canInject 90 = .ok (.if_icmp .ne 16, 3) := by decide +kernel
theorem dX10_canInject_93 : decode cX10_canInject 93 = .ok (.iload 4, 2) := by decide +kernel
theorem dX10_canInject_95 : decode cX10_canInject 95 = .ok (.ifCond .ne 7, 3) := by decide +kernel
theorem dX10_canInject_98 : decode cX10_canInject 98 = .ok (.iconst 1, 1) := by decide +kernel
theorem dX10_canInject_99 : decode cX10_canInject 99 = .ok (.goto 22, 3) := by decide +kernel
theorem dX10_canInject_102 : decode cX10_canInject 102 = .ok (.iconst 0, 1) := by decide +kernel
theorem dX10_canInject_103 : decode cX10_canInject 103 = .ok (.goto 18, 3) := by decide +kernel
theorem dX10_canInject_106 : decode cX10_canInject 106 = .ok (.iload 4, 2) := by decide +kernel
theorem dX10_canInject_108 : decode cX10_canInject 108 = .ok (.i2l, 1) := by decide +kernel
theorem dX10_canInject_109 : decode cX10_canInject 109 = .ok (.lconst 0, 1) := by decide +kernel
theorem dX10_canInject_110 : decode cX10_canInject 110 = .ok (.aload_n 0, 1) := by decide +kernel
theorem dX10_canInject_111 : decode cX10_canInject 111 = .ok (.iload_n 2, 1) := by decide +kernel
theorem dX10_canInject_112 : decode cX10_canInject 112 = .ok (.invokevirtual 317, 3) := by decide +kernel
theorem dX10_canInject_115 : decode cX10_canInject 115 = .ok (.iconst 1, 1) := by decide +kernel
theorem dX10_canInject_116 : decode cX10_canInject 116 = .ok (.isub, 1) := by decide +kernel
theorem dX10_canInject_117 : decode cX10_canInject 117 = .ok (.i2l, 1) := by decide +kernel
theorem dX10_canInject_118 : decode cX10_canInject 118 = .ok (.invokestatic 152, 3) := by decide +kernel
theorem dX10_canInject_121 : decode cX10_canInject 121 = .ok (.ireturn, 1) := by decide +kernel
theorem dX10_inject_0 : decode cX10_inject 0 = .ok (.aload_n 0, 1) := by decide +kernel
theorem dX10_inject_1 : decode cX10_inject 1 = .ok (.invokevirtual 372, 3) := by decide +kernel
theorem dX10_inject_4 : decode cX10_inject 4 = .ok (.ifCond .eq 17, 3) := by decide +kernel
theorem dX10_inject_7 : decode cX10_inject 7 = .ok (.aload_n 0, 1) := by decide +kernel
theorem dX10_inject_8 : decode cX10_inject 8 = .ok (.iload_n 1, 1) := by decide +kernel
theorem dX10_inject_9 : decode cX10_inject 9 = .ok (.iload_n 2, 1) := by decide +kernel
theorem dX10_inject_10 : decode cX10_inject 10 = .ok (.iload_n 3, 1) := by decide +kernel
theorem dX10_inject_11 : decode cX10_inject 11 = .ok (.iload 4, 2) := by decide +kernel
theorem dX10_inject_13 : decode cX10_inject 13 = .ok (.iload 5, 2) := by decide +kernel
theorem dX10_inject_15 : decode cX10_inject 15 = .ok (.invokevirtual 563, 3) := by decide +kernel
theorem dX10_inject_18 : decode cX10_inject 18 = .ok (.ifCond .ne 6, 3) := by decide +kernel
theorem dX10_inject_21 : decode cX10_inject 21 = .ok (.bipush (-2), 2) := by decide +kernel
theorem dX10_inject_23 : decode cX10_inject 23 = .ok (.ireturn, 1) := by decide +kernel
theorem dX10_inject_24 : decode cX10_inject 24 = .ok (.aload_n 0, 1) := by decide +kernel
theorem dX10_inject_25 : decode cX10_inject 25 = .ok (.getfield 9, 3) := by decide +kernel
theorem dX10_inject_28 : decode cX10_inject 28 = .ok (.bipush 6, 2) := by decide +kernel
theorem dX10_inject_30 : decode cX10_inject 30 = .ok (.iaload, 1) := by decide +kernel
theorem dX10_inject_31 : decode cX10_inject 31 = .ok (.bipush 10, 2) := by decide +kernel
theorem dX10_inject_33 : decode cX10_inject 33 = .ok (.if_icmp .ne 6, 3) := by decide +kernel
theorem dX10_inject_36 : decode cX10_inject 36 = .ok (.bipush (-5), 2) := by decide +kernel
theorem dX10_inject_38 : decode cX10_inject 38 = .ok (.ireturn, 1) := by decide +kernel
theorem dX10_inject_39 : decode cX10_inject 39 = .ok (.bipush 106, 2) := by decide +kernel
theorem dX10_inject_41 : decode cX10_inject 41 = .ok (.iconst 5, 1) := by decide +kernel
theorem dX10_inject_42 : decode cX10_inject 42 = .ok (.aload_n 0, 1) := by decide +kernel
theorem dX10_inject_43 : decode cX10_inject 43 = .ok (.invokevirtual 345, 3) := by decide +kernel
theorem dX10_inject_46 : decode cX10_inject 46 = .ok (.imul, 1) := by decide +kernel
theorem dX10_inject_47 : decode cX10_inject 47 = .ok (.iadd, 1) := by decide +kernel
theorem dX10_inject_48 : decode cX10_inject 48 = .ok (.istore 6, 2) := by decide +kernel
theorem dX10_inject_50 : decode cX10_inject 50 = .ok (.aload_n 0, 1) := by decide +kernel
theorem dX10_inject_51 : decode cX10_inject 51 = .ok (.getfield 9, 3) := by decide +kernel
theorem dX10_inject_54 : decode cX10_inject 54 = .ok (.iload 6, 2) := by decide +kernel
theorem dX10_inject_56 : decode cX10_inject 56 = .ok (.iload_n 1, 1) := by decide +kernel
theorem dX10_inject_57 : decode cX10_inject 57 = .ok (.iastore, 1) := by decide +kernel
theorem dX10_inject_58 : decode cX10_inject 58 = .ok (.aload_n 0, 1) := by decide +kernel
theorem dX10_inject_59 : decode cX10_inject 59 = .ok (.getfield 9, 3) := by decide +kernel
theorem dX10_inject_62 : decode cX10_inject 62 = .ok (.iload 6, 2) := by decide +kernel
theorem dX10_inject_64 : decode cX10_inject 64 = .ok (.iconst 1, 1) := by decide +kernel
theorem dX10_inject_65 : decode cX10_inject 65 = .ok (.iadd, 1) := by decide +kernel
theorem dX10_inject_66 : decode cX10_inject 66 = .ok (.iload_n 2, 1) := by decide +kernel
theorem dX10_inject_67 : decode cX10_inject 67 = .ok (.iastore, 1) := by decide +kernel
theorem dX10_inject_68 : decode cX10_inject 68 = .ok (.aload_n 0, 1) := by decide +kernel
theorem dX10_inject_69 : decode cX10_inject 69 = .ok (.getfield 9, 3) := by decide +kernel
theorem dX10_inject_72 : decode cX10_inject 72 = .ok (.iload 6, 2) := by decide +kernel
theorem dX10_inject_74 : decode cX10_inject 74 = .ok (.iconst 2, 1) := by decide +kernel
theorem dX10_inject_75 : decode cX10_inject 75 = .ok (.iadd, 1) := by decide +kernel
theorem dX10_inject_76 : decode cX10_inject 76 = .ok (.iload_n 3, 1) := by decide +kernel
theorem dX10_inject_77 : decode cX10_inject 77 = .ok (.iastore, 1) := by decide +kernel
theorem dX10_inject_78 : decode cX10_inject 78 = .ok (.aload_n 0, 1) := by decide +kernel
theorem dX10_inject_79 : decode cX10_inject 79 = .ok (.getfield 9, 3) := by decide +kernel
theorem dX10_inject_82 : decode cX10_inject 82 = .ok (.iload 6, 2) := by decide +kernel
theorem dX10_inject_84 : decode cX10_inject 84 = .ok (.iconst 3, 1) := by decide +kernel
theorem dX10_inject_85 : decode cX10_inject 85 = .ok (.iadd, 1) := by decide +kernel
theorem dX10_inject_86 : decode cX10_inject 86 = .ok (.iload_n 1, 1) := by decide +kernel
theorem dX10_inject_87 : decode cX10_inject 87 = .ok (.iconst 4, 1) := by decide +kernel
theorem dX10_inject_88 : decode cX10_inject 88 = .ok (.if_icmp .lt 7, 3) := by decide +kernel
theorem dX10_inject_91 : decode cX10_inject 91 = .ok (.iconst (-1), 1) := by decide +kernel
theorem dX10_inject_92 : decode cX10_inject 92 = .ok (.goto 5, 3) := by decide +kernel
theorem dX10_inject_95 : decode cX10_inject 95 = .ok (.iload 4, 2) := by decide +kernel
theorem dX10_inject_97 : decode cX10_inject 97 = .ok (.iastore, 1) := by decide +kernel
theorem dX10_inject_98 : decode cX10_inject 98 = .ok (.aload_n 0, 1) := by decide +kernel
theorem dX10_inject_99 : decode cX10_inject 99 = .ok (.getfield 9, 3) := by decide +kernel
theorem dX10_inject_102 : decode cX10_inject 102 = .ok (.iload 6, 2) := by decide +kernel
theorem dX10_inject_104 : decode cX10_inject 104 = .ok (.iconst 4, 1) := by decide +kernel
theorem dX10_inject_105 : decode cX10_inject 105 = .ok (.iadd, 1) := by decide +kernel
theorem dX10_inject_106 : decode cX10_inject 106 = .ok (.iload_n 1, 1) := by decide +kernel
theorem dX10_inject_107 : decode cX10_inject 107 = .ok (.iconst 5, 1) := by decide +kernel
theorem dX10_inject_108 : decode cX10_inject 108 = .ok (.if_icmp .ne 7, 3) := by decide +kernel
theorem dX10_inject_111 : decode cX10_inject 111 = .ok (.iconst (-1), 1) := by decide +kernel
theorem dX10_inject_112 : decode cX10_inject 112 = .ok (.goto 5, 3) := by decide +kernel
theorem dX10_inject_115 : decode cX10_inject 115 = .ok (.iload 5, 2) := by decide +kernel
theorem dX10_inject_117 : decode cX10_inject 117 = .ok (.iastore, 1) := by decide +kernel
theorem dX10_inject_118 : decode cX10_inject 118 = .ok (.aload_n 0, 1) := by decide +kernel
theorem dX10_inject_119 : decode cX10_inject 119 = .ok (.getfield 9, 3) := by decide +kernel
theorem dX10_inject_122 : decode cX10_inject 122 = .ok (.bipush 6, 2) := by decide +kernel
theorem dX10_inject_124 : decode cX10_inject 124 = .ok (.dup2, 1) := by decide +kernel
theorem dX10_inject_125 : decode cX10_inject 125 = .ok (.iaload, 1) := by decide +kernel
theorem dX10_inject_126 : decode cX10_inject 126 = .ok (.iconst 1, 1) := by decide +kernel
theorem dX10_inject_127 : decode cX10_inject 127 = .ok (.iadd, 1) := by decide +kernel
theorem dX10_inject_128 : decode cX10_inject 128 = .ok (.iastore, 1) := by decide +kernel
theorem dX10_inject_129 : decode cX10_inject 129 = .ok (.aload_n 0, 1) := by decide +kernel
theorem dX10_inject_130 : decode cX10_inject 130 = .ok (.invokevirtual 513, 3) := by decide +kernel
theorem dX10_inject_133 : decode cX10_inject 133 = .ok (.pop, 1) := by decide +kernel
theorem dX10_inject_134 : decode cX10_inject 134 = .ok (.aload_n 0, 1) := by decide +kernel
theorem dX10_inject_135 : decode cX10_inject 135 = .ok (.getfield 418, 3) := by decide +kernel
theorem dX10_inject_138 : decode cX10_inject 138 = .ok (.ireturn, 1) := by decide +kernel
theorem dX10_undo_0 : decode cX10_undo 0 = .ok (.aload_n 0, 1) := by decide +kernel
theorem dX10_undo_1 : decode cX10_undo 1 = .ok (.invokevirtual 372, 3) := by decide +kernel
theorem dX10_undo_4 : decode cX10_undo 4 = .ok (.ifCond .ne 6, 3) := by decide +kernel
theorem dX10_undo_7 : decode cX10_undo 7 = .ok (.bipush (-2), 2) := by decide +kernel
theorem dX10_undo_9 : decode cX10_undo 9 = .ok (.ireturn, 1) := by decide +kernel
theorem dX10_undo_10 : decode cX10_undo 10 = .ok (.aload_n 0, 1) := by decide +kernel
theorem dX10_undo_11 : decode cX10_undo 11 = .ok (.getfield 9, 3) := by decide +kernel
theorem dX10_undo_14 : decode cX10_undo 14 = .ok (.bipush 6, 2) := by decide +kernel
theorem dX10_undo_16 : decode cX10_undo 16 = .ok (.iaload, 1) := by decide +kernel
theorem dX10_undo_17 : decode cX10_undo 17 = .ok (.ifCond .ne 6, 3) := by decide +kernel
theorem dX10_undo_20 : decode cX10_undo 20 = .ok (.bipush (-5), 2) := by decide +kernel
theorem dX10_undo_22 : decode cX10_undo 22 = .ok (.ireturn, 1) := by decide +kernel
theorem dX10_undo_23 : decode cX10_undo 23 = .ok (.aload_n 0, 1) := by decide +kernel
theorem dX10_undo_24 : decode cX10_undo 24 = .ok (.getfield 9, 3) := by decide +kernel
theorem dX10_undo_27 : decode cX10_undo 27 = .ok (.bipush 6, 2) := by decide +kernel
theorem dX10_undo_29 : decode cX10_undo 29 = .ok (.dup2, 1) := by decide +kernel
theorem dX10_undo_30 : decode cX10_undo 30 = .ok (.iaload, 1) := by decide +kernel
theorem dX10_undo_31 : decode cX10_undo 31 = .ok (.iconst 1, 1) := by decide +kernel
theorem dX10_undo_32 : decode cX10_undo 32 = .ok (.isub, 1) := by decide +kernel
theorem dX10_undo_33 : decode cX10_undo 33 = .ok (.iastore, 1) := by decide +kernel
theorem dX10_undo_34 : decode cX10_undo 34 = .ok (.aload_n 0, 1) := by decide +kernel
theorem dX10_undo_35 : decode cX10_undo 35 = .ok (.getfield 9, 3) := by decide +kernel
theorem dX10_undo_38 : decode cX10_undo 38 = .ok (.bipush 6, 2) := by decide +kernel
theorem dX10_undo_40 : decode cX10_undo 40 = .ok (.iaload, 1) := by decide +kernel
theorem dX10_undo_41 : decode cX10_undo 41 = .ok (.ireturn, 1) := by decide +kernel
theorem dX10_anew_0 : decode cX10_anew 0 = .ok (.aload_n 0, 1) := by decide +kernel
theorem dX10_anew_1 : decode cX10_anew 1 = .ok (.invokevirtual 372, 3) := by decide +kernel
theorem dX10_anew_4 : decode cX10_anew 4 = .ok (.ifCond .ne 6, 3) := by decide +kernel
theorem dX10_anew_7 : decode cX10_anew 7 = .ok (.bipush (-2), 2) := by decide +kernel
theorem dX10_anew_9 : decode cX10_anew 9 = .ok (.ireturn, 1) := by decide +kernel
theorem dX10_anew_10 : decode cX10_anew 10 = .ok (.aload_n 0, 1) := by decide +kernel
theorem dX10_anew_11 : decode cX10_anew 11 = .ok (.getfield 9, 3) := by decide +kernel
theorem dX10_anew_14 : decode cX10_anew 14 = .ok (.bipush 6, 2) := by decide +kernel
theorem dX10_anew_16 : decode cX10_anew 16 = .ok (.iaload, 1) := by decide +kernel
theorem dX10_anew_17 : decode cX10_anew 17 = .ok (.istore_n 1, 1) := by decide +kernel
theorem dX10_anew_18 : decode cX10_anew 18 = .ok (.aload_n 0, 1) := by decide +kernel
theorem dX10_anew_19 : decode cX10_anew 19 = .ok (.getfield 9, 3) := by decide +kernel
theorem dX10_anew_22 : decode cX10_anew 22 = .ok (.bipush 6, 2) := by decide +kernel
theorem dX10_anew_24 : decode cX10_anew 24 = .ok (.iconst 0, 1) := by decide +kernel
theorem dX10_anew_25 : decode cX10_anew 25 = .ok (.iastore, 1) := by decide +kernel
theorem dX10_anew_26 : decode cX10_anew 26 = .ok (.iload_n 1, 1) := by decide +kernel
theorem dX10_anew_27 : decode cX10_anew 27 = .ok (.ireturn, 1) := by decide +kernel
theorem dX10_count_0 : decode cX10_count 0 = .ok (.iload_n 1, 1) := by decide +kernel
theorem dX10_count_1 : decode cX10_count 1 = .ok (.i2l, 1) := by decide +kernel
theorem dX10_count_2 : decode cX10_count 2 = .ok (.lconst 0, 1) := by decide +kernel
theorem dX10_count_3 : decode cX10_count 3 = .ok (.ldc2_w 529, 3) := by decide +kernel
theorem dX10_count_6 : decode cX10_count 6 = .ok (.invokestatic 152, 3) := by decide +kernel
theorem dX10_count_9 : decode cX10_count 9 = .ok (.ifCond .eq 10, 3) := by decide +kernel
theorem dX10_count_12 : decode cX10_count 12 = .ok (.aload_n 0, 1) := by decide +kernel
theorem dX10_count_13 : decode cX10_count 13 = .ok (.getfield 9, 3) := by decide +kernel
theorem dX10_count_16 : decode cX10_count 16 = .ok (.iload_n 1, 1) := by decide +kernel
theorem dX10_count_17 : decode cX10_count 17 = .ok (.iaload, 1) := by decide +kernel
theorem dX10_count_18 : decode cX10_count 18 = .ok (.ireturn, 1) := by decide +kernel
theorem dX10_count_19 : decode cX10_count 19 = .ok (.iload_n 1, 1) := by decide +kernel
theorem dX10_count_20 : decode cX10_count 20 = .ok (.bipush 8, 2) := by decide +kernel
theorem dX10_count_22 : decode cX10_count 22 = .ok (.if_icmp .ne 10, 3) := by decide +kernel
theorem dX10_count_25 : decode cX10_count 25 = .ok (.aload_n 0, 1) := by decide +kernel
theorem dX10_count_26 : decode cX10_count 26 = .ok (.getfield 160, 3) := by decide +kernel
theorem dX10_count_29 : decode cX10_count 29 = .ok (.goto 4, 3) := by decide +kernel
theorem dX10_count_32 : decode cX10_count 32 = .ok (.iconst (-1), 1) := by decide +kernel
theorem dX10_count_33 : decode cX10_count 33 = .ok (.ireturn, 1) := by decide +kernel
theorem dJxe99ae_isNaN_b9ae7_0 : decode cJxe99ae_isNaN_b9ae7 0 = .ok (.dload_n 0, 1) := by decide +kernel
theorem dJxe99ae_isNaN_b9ae7_1 : decode cJxe99ae_isNaN_b9ae7 1 = .ok (.dload_n 0, 1) := by decide +kernel
theorem dJxe99ae_isNaN_b9ae7_2 : decode cJxe99ae_isNaN_b9ae7 2 = .ok (.dcmp .l, 1) := by decide +kernel
theorem dJxe99ae_isNaN_b9ae7_3 : decode cJxe99ae_isNaN_b9ae7 3 = .ok (.ifCond .eq 7, 3) := by decide +kernel
theorem dJxe99ae_isNaN_b9ae7_6 : decode cJxe99ae_isNaN_b9ae7 6 = .ok (.iconst 1, 1) := by decide +kernel
theorem dJxe99ae_isNaN_b9ae7_7 : decode cJxe99ae_isNaN_b9ae7 7 = .ok (.goto 4, 3) := by decide +kernel
theorem dJxe99ae_isNaN_b9ae7_10 : decode cJxe99ae_isNaN_b9ae7 10 = .ok (.iconst 0, 1) := by decide +kernel
theorem dJxe99ae_isNaN_b9ae7_11 : decode cJxe99ae_isNaN_b9ae7 11 = .ok (.ireturn, 1) := by decide +kernel
theorem dJxe99ae_doubleToLongBits_ccdee_0 : decode cJxe99ae_doubleToLongBits_ccdee 0 = .ok (.dload_n 0, 1) := by decide +kernel
theorem dJxe99ae_doubleToLongBits_ccdee_1 : decode cJxe99ae_doubleToLongBits_ccdee 1 = .ok (.invokestatic 122, 3) := by decide +kernel
theorem dJxe99ae_doubleToLongBits_ccdee_4 : decode cJxe99ae_doubleToLongBits_ccdee 4 = .ok (.ifCond .ne 8, 3) := by decide +kernel
theorem dJxe99ae_doubleToLongBits_ccdee_7 : decode cJxe99ae_doubleToLongBits_ccdee 7 = .ok (.dload_n 0, 1) := by decide +kernel
theorem dJxe99ae_doubleToLongBits_ccdee_8 : decode cJxe99ae_doubleToLongBits_ccdee 8 = .ok (.invokestatic 134, 3) := by decide +kernel
theorem dJxe99ae_doubleToLongBits_ccdee_11 : decode cJxe99ae_doubleToLongBits_ccdee 11 = .ok (.lreturn, 1) := by decide +kernel
theorem dJxe99ae_doubleToLongBits_ccdee_12 : decode cJxe99ae_doubleToLongBits_ccdee 12 = .ok (.ldc2_w 137, 3) := by decide +kernel
theorem dJxe99ae_doubleToLongBits_ccdee_15 : decode cJxe99ae_doubleToLongBits_ccdee 15 = .ok (.lreturn, 1) := by decide +kernel
theorem dJxf58ca_isNaN_12338_0 : decode cJxf58ca_isNaN_12338 0 = .ok (.fload_n 0, 1) := by decide +kernel
theorem dJxf58ca_isNaN_12338_1 : decode cJxf58ca_isNaN_12338 1 = .ok (.fload_n 0, 1) := by decide +kernel
theorem dJxf58ca_isNaN_12338_2 : decode cJxf58ca_isNaN_12338 2 = .ok (.fcmp .l, 1) := by decide +kernel
theorem dJxf58ca_isNaN_12338_3 : decode cJxf58ca_isNaN_12338 3 = .ok (.ifCond .eq 7, 3) := by decide +kernel
theorem dJxf58ca_isNaN_12338_6 : decode cJxf58ca_isNaN_12338 6 = .ok (.iconst 1, 1) := by decide +kernel
theorem dJxf58ca_isNaN_12338_7 : decode cJxf58ca_isNaN_12338 7 = .ok (.goto 4, 3) := by decide +kernel
theorem dJxf58ca_isNaN_12338_10 : decode cJxf58ca_isNaN_12338 10 = .ok (.iconst 0, 1) := by decide +kernel
theorem dJxf58ca_isNaN_12338_11 : decode cJxf58ca_isNaN_12338 11 = .ok (.ireturn, 1) := by decide +kernel
theorem dJxf58ca_floatToIntBits_5c35a_0 : decode cJxf58ca_floatToIntBits_5c35a 0 = .ok (.fload_n 0, 1) := by decide +kernel
theorem dJxf58ca_floatToIntBits_5c35a_1 : decode cJxf58ca_floatToIntBits_5c35a 1 = .ok (.invokestatic 59, 3) := by decide +kernel
theorem dJxf58ca_floatToIntBits_5c35a_4 : decode cJxf58ca_floatToIntBits_5c35a 4 = .ok (.ifCond .ne 8, 3) := by decide +kernel
theorem dJxf58ca_floatToIntBits_5c35a_7 : decode cJxf58ca_floatToIntBits_5c35a 7 = .ok (.fload_n 0, 1) := by decide +kernel
theorem dJxf58ca_floatToIntBits_5c35a_8 : decode cJxf58ca_floatToIntBits_5c35a 8 = .ok (.invokestatic 74, 3) := by decide +kernel
theorem dJxf58ca_floatToIntBits_5c35a_11 : decode cJxf58ca_floatToIntBits_5c35a 11 = .ok (.ireturn, 1) := by decide +kernel
theorem dJxf58ca_floatToIntBits_5c35a_12 : decode cJxf58ca_floatToIntBits_5c35a 12 = .ok (.ldc 77, 2) := by decide +kernel
theorem dJxf58ca_floatToIntBits_5c35a_14 : decode cJxf58ca_floatToIntBits_5c35a 14 = .ok (.ireturn, 1) := by decide +kernel
theorem dJ6_bitCount_0f7a4_0 : decode cJ6_bitCount_0f7a4 0 = .ok (.iload_n 0, 1) := by decide +kernel
theorem dJ6_bitCount_0f7a4_1 : decode cJ6_bitCount_0f7a4 1 = .ok (.iload_n 0, 1) := by decide +kernel
theorem dJ6_bitCount_0f7a4_2 : decode cJ6_bitCount_0f7a4 2 = .ok (.iconst 1, 1) := by decide +kernel
theorem dJ6_bitCount_0f7a4_3 : decode cJ6_bitCount_0f7a4 3 = .ok (.iushr, 1) := by decide +kernel
theorem dJ6_bitCount_0f7a4_4 : decode cJ6_bitCount_0f7a4 4 = .ok (.ldc_w 265, 3) := by decide +kernel
theorem dJ6_bitCount_0f7a4_7 : decode cJ6_bitCount_0f7a4 7 = .ok (.iand, 1) := by decide +kernel
theorem dJ6_bitCount_0f7a4_8 : decode cJ6_bitCount_0f7a4 8 = .ok (.isub, 1) := by decide +kernel
theorem dJ6_bitCount_0f7a4_9 : decode cJ6_bitCount_0f7a4 9 = .ok (.istore_n 0, 1) := by decide +kernel
theorem dJ6_bitCount_0f7a4_10 : decode cJ6_bitCount_0f7a4 10 = .ok (.iload_n 0, 1) := by decide +kernel
theorem dJ6_bitCount_0f7a4_11 : decode cJ6_bitCount_0f7a4 11 = .ok (.ldc_w 266, 3) := by decide +kernel
theorem dJ6_bitCount_0f7a4_14 : decode cJ6_bitCount_0f7a4 14 = .ok (.iand, 1) := by decide +kernel
theorem dJ6_bitCount_0f7a4_15 : decode cJ6_bitCount_0f7a4 15 = .ok (.iload_n 0, 1) := by decide +kernel
theorem dJ6_bitCount_0f7a4_16 : decode cJ6_bitCount_0f7a4 16 = .ok (.iconst 2, 1) := by decide +kernel
theorem dJ6_bitCount_0f7a4_17 : decode cJ6_bitCount_0f7a4 17 = .ok (.iushr, 1) := by decide +kernel
theorem dJ6_bitCount_0f7a4_18 : decode cJ6_bitCount_0f7a4 18 = .ok (.ldc_w 266, 3) := by decide +kernel
theorem dJ6_bitCount_0f7a4_21 : decode cJ6_bitCount_0f7a4 21 = .ok (.iand, 1) := by decide +kernel
theorem dJ6_bitCount_0f7a4_22 : decode cJ6_bitCount_0f7a4 22 = .ok (.iadd, 1) := by decide +kernel
theorem dJ6_bitCount_0f7a4_23 : decode cJ6_bitCount_0f7a4 23 = .ok (.istore_n 0, 1) := by decide +kernel
theorem dJ6_bitCount_0f7a4_24 : decode cJ6_bitCount_0f7a4 24 = .ok (.iload_n 0, 1) := by decide +kernel
theorem dJ6_bitCount_0f7a4_25 : decode cJ6_bitCount_0f7a4 25 = .ok (.iload_n 0, 1) := by decide +kernel
theorem dJ6_bitCount_0f7a4_26 : decode cJ6_bitCount_0f7a4 26 = .ok (.iconst 4, 1) := by decide +kernel
theorem dJ6_bitCount_0f7a4_27 : decode cJ6_bitCount_0f7a4 27 = .ok (.iushr, 1) := by decide +kernel
theorem dJ6_bitCount_0f7a4_28 : decode cJ6_bitCount_0f7a4 28 = .ok (.iadd, 1) := by decide +kernel
theorem dJ6_bitCount_0f7a4_29 : decode cJ6_bitCount_0f7a4 29 = .ok (.ldc_w 267, 3) := by decide +kernel
theorem dJ6_bitCount_0f7a4_32 : decode cJ6_bitCount_0f7a4 32 = .ok (.iand, 1) := by decide +kernel
theorem dJ6_bitCount_0f7a4_33 : decode cJ6_bitCount_0f7a4 33 = .ok (.istore_n 0, 1) := by decide +kernel
theorem dJ6_bitCount_0f7a4_34 : decode cJ6_bitCount_0f7a4 34 = .ok (.iload_n 0, 1) := by decide +kernel
theorem dJ6_bitCount_0f7a4_35 : decode cJ6_bitCount_0f7a4 35 = .ok (.iload_n 0, 1) := by decide +kernel
theorem dJ6_bitCount_0f7a4_36 : decode cJ6_bitCount_0f7a4 36 = .ok (.bipush 8, 2) := by decide +kernel
theorem dJ6_bitCount_0f7a4_38 : decode cJ6_bitCount_0f7a4 38 = .ok (.iushr, 1) := by decide +kernel
theorem dJ6_bitCount_0f7a4_39 : decode cJ6_bitCount_0f7a4 39 = .ok (.iadd, 1) := by decide +kernel
theorem dJ6_bitCount_0f7a4_40 : decode cJ6_bitCount_0f7a4 40 = .ok (.istore_n 0, 1) := by decide +kernel
theorem dJ6_bitCount_0f7a4_41 : decode cJ6_bitCount_0f7a4 41 = .ok (.iload_n 0, 1) := by decide +kernel
theorem dJ6_bitCount_0f7a4_42 : decode cJ6_bitCount_0f7a4 42 = .ok (.iload_n 0, 1) := by decide +kernel
theorem dJ6_bitCount_0f7a4_43 : decode cJ6_bitCount_0f7a4 43 = .ok (.bipush 16, 2) := by decide +kernel
theorem dJ6_bitCount_0f7a4_45 : decode cJ6_bitCount_0f7a4 45 = .ok (.iushr, 1) := by decide +kernel
theorem dJ6_bitCount_0f7a4_46 : decode cJ6_bitCount_0f7a4 46 = .ok (.iadd, 1) := by decide +kernel
theorem dJ6_bitCount_0f7a4_47 : decode cJ6_bitCount_0f7a4 47 = .ok (.istore_n 0, 1) := by decide +kernel
theorem dJ6_bitCount_0f7a4_48 : decode cJ6_bitCount_0f7a4 48 = .ok (.iload_n 0, 1) := by decide +kernel
theorem dJ6_bitCount_0f7a4_49 : decode cJ6_bitCount_0f7a4 49 = .ok (.bipush 63, 2) := by decide +kernel
theorem dJ6_bitCount_0f7a4_51 : decode cJ6_bitCount_0f7a4 51 = .ok (.iand, 1) := by decide +kernel
theorem dJ6_bitCount_0f7a4_52 : decode cJ6_bitCount_0f7a4 52 = .ok (.ireturn, 1) := by decide +kernel
theorem dJ9_max_7cf53_0 : decode cJ9_max_7cf53 0 = .ok (.iload_n 0, 1) := by decide +kernel
theorem dJ9_max_7cf53_1 : decode cJ9_max_7cf53 1 = .ok (.iload_n 1, 1) := by decide +kernel
theorem dJ9_max_7cf53_2 : decode cJ9_max_7cf53 2 = .ok (.if_icmp .lt 7, 3) := by decide +kernel
theorem dJ9_max_7cf53_5 : decode cJ9_max_7cf53 5 = .ok (.iload_n 0, 1) := by decide +kernel
theorem dJ9_max_7cf53_6 : decode cJ9_max_7cf53 6 = .ok (.goto 4, 3) := by decide +kernel
theorem dJ9_max_7cf53_9 : decode cJ9_max_7cf53 9 = .ok (.iload_n 1, 1) := by decide +kernel
theorem dJ9_max_7cf53_10 : decode cJ9_max_7cf53 10 = .ok (.ireturn, 1) := by decide +kernel
theorem dJ9_min_7cf53_0 : decode cJ9_min_7cf53 0 = .ok (.iload_n 0, 1) := by decide +kernel
theorem dJ9_min_7cf53_1 : decode cJ9_min_7cf53 1 = .ok (.iload_n 1, 1) := by decide +kernel
theorem dJ9_min_7cf53_2 : decode cJ9_min_7cf53 2 = .ok (.if_icmp .gt 7, 3) := by decide +kernel
theorem dJ9_min_7cf53_5 : decode cJ9_min_7cf53 5 = .ok (.iload_n 0, 1) := by decide +kernel
theorem dJ9_min_7cf53_6 : decode cJ9_min_7cf53 6 = .ok (.goto 4, 3) := by decide +kernel
theorem dJ9_min_7cf53_9 : decode cJ9_min_7cf53 9 = .ok (.iload_n 1, 1) := by decide +kernel
theorem dJ9_min_7cf53_10 : decode cJ9_min_7cf53 10 = .ok (.ireturn, 1) := by decide +kernel
theorem dJ0_length_8abf5_0 : decode cJ0_length_8abf5 0 = .ok (.aload_n 0, 1) := by decide +kernel
theorem dJ0_length_8abf5_1 : decode cJ0_length_8abf5 1 = .ok (.getfield 9, 3) := by decide +kernel
theorem dJ0_length_8abf5_4 : decode cJ0_length_8abf5 4 = .ok (.arraylength, 1) := by decide +kernel
theorem dJ0_length_8abf5_5 : decode cJ0_length_8abf5 5 = .ok (.aload_n 0, 1) := by decide +kernel
theorem dJ0_length_8abf5_6 : decode cJ0_length_8abf5 6 = .ok (.invokevirtual 335, 3) := by decide +kernel
theorem dJ0_length_8abf5_9 : decode cJ0_length_8abf5 9 = .ok (.ishr, 1) := by decide +kernel
theorem dJ0_length_8abf5_10 : decode cJ0_length_8abf5 10 = .ok (.ireturn, 1) := by decide +kernel
theorem dJ0_charAt_5068e_0 : decode cJ0_charAt_5068e 0 = .ok (.aload_n 0, 1) := by decide +kernel
theorem dJ0_charAt_5068e_1 : decode cJ0_charAt_5068e 1 = .ok (.invokevirtual 492, 3) := by decide +kernel
theorem dJ0_charAt_5068e_4 : decode cJ0_charAt_5068e 4 = .ok (.ifCond .eq 12, 3) := by decide +kernel
theorem dJ0_charAt_5068e_7 : decode cJ0_charAt_5068e 7 = .ok (.aload_n 0, 1) := by decide +kernel
theorem dJ0_charAt_5068e_8 : decode cJ0_charAt_5068e 8 = .ok (.getfield 9, 3) := by decide +kernel
theorem dJ0_charAt_5068e_11 : decode cJ0_charAt_5068e 11 = .ok (.iload_n 1, 1) := by decide +kernel
theorem dJ0_charAt_5068e_12 : decode cJ0_charAt_5068e 12 = .ok (.invokestatic 495, 3) := by decide +kernel
theorem dJ0_charAt_5068e_15 : decode cJ0_charAt_5068e 15 = .ok (.ireturn, 1) := by decide +kernel
theorem dJ0_charAt_5068e_16 : decode cJ0_charAt_5068e 16 = .ok (.aload_n 0, 1) := by decide +kernel
theorem dJ0_charAt_5068e_17 : decode cJ0_charAt_5068e 17 = .ok (.getfield 9, 3) := by decide +kernel
theorem dJ0_charAt_5068e_20 : decode cJ0_charAt_5068e 20 = .ok (.iload_n 1, 1) := by decide +kernel
theorem dJ0_charAt_5068e_21 : decode cJ0_charAt_5068e 21 = .ok (.invokestatic 498, 3) := by decide +kernel
theorem dJ0_charAt_5068e_24 : decode cJ0_charAt_5068e 24 = .ok (.ireturn, 1) := by decide +kernel
theorem dJ0_coder_7d493_0 : decode cJ0_coder_7d493 0 = .ok (.getstatic 38, 3) := by decide +kernel
theorem dJ0_coder_7d493_3 : decode cJ0_coder_7d493 3 = .ok (.ifCond .eq 10, 3) := by decide +kernel
theorem dJ0_coder_7d493_6 : decode cJ0_coder_7d493 6 = .ok (.aload_n 0, 1) := by decide +kernel
theorem dJ0_coder_7d493_7 : decode cJ0_coder_7d493 7 = .ok (.getfield 15, 3) := by decide +kernel
theorem dJ0_coder_7d493_10 : decode cJ0_coder_7d493 10 = .ok (.goto 4, 3) := by decide +kernel
theorem dJ0_coder_7d493_13 : decode cJ0_coder_7d493 13 = .ok (.iconst 1, 1) := by decide +kernel
theorem dJ0_coder_7d493_14 : decode cJ0_coder_7d493 14 = .ok (.ireturn, 1) := by decide +kernel
theorem dJ0_isLatin1_aae02_0 : decode cJ0_isLatin1_aae02 0 = .ok (.getstatic 38, 3) := by decide +kernel
theorem dJ0_isLatin1_aae02_3 : decode cJ0_isLatin1_aae02 3 = .ok (.ifCond .eq 14, 3) := by decide +kernel
theorem dJ0_isLatin1_aae02_6 : decode cJ0_isLatin1_aae02 6 = .ok (.aload_n 0, 1) := by decide +kernel
theorem dJ0_isLatin1_aae02_7 : decode cJ0_isLatin1_aae02 7 = .ok (.getfield 15, 3) := by decide +kernel
theorem dJ0_isLatin1_aae02_10 : decode cJ0_isLatin1_aae02 10 = .ok (.ifCond .ne 7, 3) := by decide +kernel
theorem dJ0_isLatin1_aae02_13 : decode cJ0_isLatin1_aae02 13 = .ok (.iconst 1, 1) := by decide +kernel
theorem dJ0_isLatin1_aae02_14 : decode cJ0_isLatin1_aae02 14 = .ok (.goto 4, 3) := by decide +kernel
theorem dJ0_isLatin1_aae02_17 : decode cJ0_isLatin1_aae02 17 = .ok (.iconst 0, 1) := by decide +kernel
theorem dJ0_isLatin1_aae02_18 : decode cJ0_isLatin1_aae02 18 = .ok (.ireturn, 1) := by decide +kernel
theorem dJ0_checkIndex_df160_0 : decode cJ0_checkIndex_df160 0 = .ok (.iload_n 0, 1) := by decide +kernel
theorem dJ0_checkIndex_df160_1 : decode cJ0_checkIndex_df160 1 = .ok (.iload_n 1, 1) := by decide +kernel
theorem dJ0_checkIndex_df160_2 : decode cJ0_checkIndex_df160 2 = .ok (.getstatic 1053, 3) := by decide +kernel
theorem dJ0_checkIndex_df160_5 : decode cJ0_checkIndex_df160 5 = .ok (.invokestatic 1059, 3) := by decide +kernel
theorem dJ0_checkIndex_df160_8 : decode cJ0_checkIndex_df160 8 = .ok (.pop, 1) := by decide +kernel
theorem dJ0_checkIndex_df160_9 : decode cJ0_checkIndex_df160 9 = .ok (.return_, 1) := by decide +kernel
theorem dJ1_charAt_3b067_0 : decode cJ1_charAt_3b067 0 = .ok (.iload_n 1, 1) := by decide +kernel
theorem dJ1_charAt_3b067_1 : decode cJ1_charAt_3b067 1 = .ok (.aload_n 0, 1) := by decide +kernel
theorem dJ1_charAt_3b067_2 : decode cJ1_charAt_3b067 2 = .ok (.arraylength, 1) := by decide +kernel
theorem dJ1_charAt_3b067_3 : decode cJ1_charAt_3b067 3 = .ok (.invokestatic 9, 3) := by decide +kernel
theorem dJ1_charAt_3b067_6 : decode cJ1_charAt_3b067 6 = .ok (.aload_n 0, 1) := by decide +kernel
theorem dJ1_charAt_3b067_7 : decode cJ1_charAt_3b067 7 = .ok (.iload_n 1, 1) := by decide +kernel
theorem dJ1_charAt_3b067_8 : decode cJ1_charAt_3b067 8 = .ok (.baload, 1) := by decide +kernel
theorem dJ1_charAt_3b067_9 : decode cJ1_charAt_3b067 9 = .ok (.sipush 255, 3) := by decide +kernel
theorem dJ1_charAt_3b067_12 : decode cJ1_charAt_3b067 12 = .ok (.iand, 1) := by decide +kernel
theorem dJ1_charAt_3b067_13 : decode cJ1_charAt_3b067 13 = .ok (.i2c, 1) := by decide +kernel
theorem dJ1_charAt_3b067_14 : decode cJ1_charAt_3b067 14 = .ok (.ireturn, 1) := by decide +kernel
theorem dJ2_getChar_3b067_0 : decode cJ2_getChar_3b067 0 = .ok (.getstatic 44, 3) := by decide +kernel
theorem dJ2_getChar_3b067_3 : decode cJ2_getChar_3b067 3 = .ok (.ifCond .ne 25, 3) := by decide +kernel
theorem dJ2_getChar_3b067_6 : decode cJ2_getChar_3b067 6 = .ok (.iload_n 1, 1) := by decide +kernel
theorem dJ2_getChar_3b067_7 : decode cJ2_getChar_3b067 7 = .ok (.ifCond .lt 11, 3) := by decide +kernel
theorem dJ2_getChar_3b067_10 : decode cJ2_getChar_3b067 10 = .ok (.iload_n 1, 1) := by decide +kernel
theorem dJ2_getChar_3b067_11 : decode cJ2_getChar_3b067 11 = .ok (.aload_n 0, 1) := by decide +kernel
theorem dJ2_getChar_3b067_12 : decode cJ2_getChar_3b067 12 = .ok (.invokestatic 48, 3) := by decide +kernel
theorem dJ2_getChar_3b067_15 : decode cJ2_getChar_3b067 15 = .ok (.if_icmp .lt 13, 3) := by decide +kernel
theorem dJ2_getChar_3b067_18 : decode cJ2_getChar_3b067 18 = .ok (.new 52, 3) := by decide +kernel
theorem dJ2_getChar_3b067_21 : decode cJ2_getChar_3b067 21 = .ok (.dup, 1) := by decide +kernel
theorem dJ2_getChar_3b067_22 : decode cJ2_getChar_3b067 22 = .ok (.ldc 54, 2) := by decide +kernel
theorem dJ2_getChar_3b067_24 : decode cJ2_getChar_3b067 24 = .ok (.invokespecial 56, 3) := by decide +kernel
theorem dJ2_getChar_3b067_27 : decode cJ2_getChar_3b067 27 = .ok (.athrow, 1) := by decide +kernel
theorem dJ2_getChar_3b067_28 : decode cJ2_getChar_3b067 28 = .ok (.iload_n 1, 1) := by decide +kernel
theorem dJ2_getChar_3b067_29 : decode cJ2_getChar_3b067 29 = .ok (.iconst 1, 1) := by decide +kernel
theorem dJ2_getChar_3b067_30 : decode cJ2_getChar_3b067 30 = .ok (.ishl, 1) := by decide +kernel
theorem dJ2_getChar_3b067_31 : decode cJ2_getChar_3b067 31 = .ok (.istore_n 1, 1) := by decide +kernel
theorem dJ2_getChar_3b067_32 : decode cJ2_getChar_3b067 32 = .ok (.aload_n 0, 1) := by decide +kernel
theorem dJ2_getChar_3b067_33 : decode cJ2_getChar_3b067 33 = .ok (.iload_n 1, 1) := by decide +kernel
theorem dJ2_getChar_3b067_34 : decode cJ2_getChar_3b067 34 = .ok (.iinc 1 1, 3) := by decide +kernel
theorem dJ2_getChar_3b067_37 : decode cJ2_getChar_3b067 37 = .ok (.baload, 1) := by decide +kernel
theorem dJ2_getChar_3b067_38 : decode cJ2_getChar_3b067 38 = .ok (.sipush 255, 3) := by decide +kernel
theorem dJ2_getChar_3b067_41 : decode cJ2_getChar_3b067 41 = .ok (.iand, 1) := by decide +kernel
theorem dJ2_getChar_3b067_42 : decode cJ2_getChar_3b067 42 = .ok (.getstatic 59, 3) := by decide +kernel
theorem dJ2_getChar_3b067_45 : decode cJ2_getChar_3b067 45 = .ok (.ishl, 1) := by decide +kernel
theorem dJ2_getChar_3b067_46 : decode cJ2_getChar_3b067 46 = .ok (.aload_n 0, 1) := by decide +kernel
theorem dJ2_getChar_3b067_47 : decode cJ2_getChar_3b067 47 = .ok (.iload_n 1, 1) := by decide +kernel
theorem dJ2_getChar_3b067_48 : decode cJ2_getChar_3b067 48 = .ok (.baload, 1) := by decide +kernel
theorem dJ2_getChar_3b067_49 : decode cJ2_getChar_3b067 49 = .ok (.sipush 255, 3) := by decide +kernel
theorem dJ2_getChar_3b067_52 : decode cJ2_getChar_3b067 52 = .ok (.iand, 1) := by decide +kernel
theorem dJ2_getChar_3b067_53 : decode cJ2_getChar_3b067 53 = .ok (.getstatic 63, 3) := by decide +kernel
theorem dJ2_getChar_3b067_56 : decode cJ2_getChar_3b067 56 = .ok (.ishl, 1) := by decide +kernel
theorem dJ2_getChar_3b067_57 : decode cJ2_getChar_3b067 57 = .ok (.ior, 1) := by decide +kernel
theorem dJ2_getChar_3b067_58 : decode cJ2_getChar_3b067 58 = .ok (.i2c, 1) := by decide +kernel
theorem dJ2_getChar_3b067_59 : decode cJ2_getChar_3b067 59 = .ok (.ireturn, 1) := by decide +kernel
theorem dJ2_length_9d52b_0 : decode cJ2_length_9d52b 0 = .ok (.aload_n 0, 1) := by decide +kernel
theorem dJ2_length_9d52b_1 : decode cJ2_length_9d52b 1 = .ok (.arraylength, 1) := by decide +kernel
theorem dJ2_length_9d52b_2 : decode cJ2_length_9d52b 2 = .ok (.iconst 1, 1) := by decide +kernel
theorem dJ2_length_9d52b_3 : decode cJ2_length_9d52b 3 = .ok (.ishr, 1) := by decide +kernel
theorem dJ2_length_9d52b_4 : decode cJ2_length_9d52b 4 = .ok (.ireturn, 1) := by decide +kernel
theorem dJ2_charAt_3b067_0 : decode cJ2_charAt_3b067 0 = .ok (.iload_n 1, 1) := by decide +kernel
theorem dJ2_charAt_3b067_1 : decode cJ2_charAt_3b067 1 = .ok (.aload_n 0, 1) := by decide +kernel
theorem dJ2_charAt_3b067_2 : decode cJ2_charAt_3b067 2 = .ok (.invokestatic 67, 3) := by decide +kernel
theorem dJ2_charAt_3b067_5 : decode cJ2_charAt_3b067 5 = .ok (.aload_n 0, 1) := by decide +kernel
theorem dJ2_charAt_3b067_6 : decode cJ2_charAt_3b067 6 = .ok (.iload_n 1, 1) := by decide +kernel
theorem dJ2_charAt_3b067_7 : decode cJ2_charAt_3b067 7 = .ok (.invokestatic 71, 3) := by decide +kernel
theorem dJ2_charAt_3b067_10 : decode cJ2_charAt_3b067 10 = .ok (.ireturn, 1) := by decide +kernel
theorem dJ2_checkIndex_2214a_0 : decode cJ2_checkIndex_2214a 0 = .ok (.iload_n 0, 1) := by decide +kernel
theorem dJ2_checkIndex_2214a_1 : decode cJ2_checkIndex_2214a 1 = .ok (.aload_n 1, 1) := by decide +kernel
theorem dJ2_checkIndex_2214a_2 : decode cJ2_checkIndex_2214a 2 = .ok (.invokestatic 48, 3) := by decide +kernel
theorem dJ2_checkIndex_2214a_5 : decode cJ2_checkIndex_2214a 5 = .ok (.invokestatic 414, 3) := by decide +kernel
theorem dJ2_checkIndex_2214a_8 : decode cJ2_checkIndex_2214a 8 = .ok (.return_, 1) := by decide +kernel
theorem dJ3_checkIndex_8e157_0 : decode cJ3_checkIndex_8e157 0 = .ok (.iload_n 0, 1) := by decide +kernel
theorem dJ3_checkIndex_8e157_1 : decode cJ3_checkIndex_8e157 1 = .ok (.ifCond .lt 8, 3) := by decide +kernel
theorem dJ3_checkIndex_8e157_4 : decode cJ3_checkIndex_8e157 4 = .ok (.iload_n 0, 1) := by decide +kernel
theorem dJ3_checkIndex_8e157_5 : decode cJ3_checkIndex_8e157 5 = .ok (.iload_n 1, 1) := by decide +kernel
theorem dJ3_checkIndex_8e157_6 : decode cJ3_checkIndex_8e157 6 = .ok (.if_icmp .lt 10, 3) := by decide +kernel
theorem dJ3_checkIndex_8e157_9 : decode cJ3_checkIndex_8e157 9 = .ok (.aload_n 2, 1) := by decide +kernel
theorem dJ3_checkIndex_8e157_10 : decode cJ3_checkIndex_8e157 10 = .ok (.iload_n 0, 1) := by decide +kernel
theorem dJ3_checkIndex_8e157_11 : decode cJ3_checkIndex_8e157 11 = .ok (.iload_n 1, 1) := by decide +kernel
theorem dJ3_checkIndex_8e157_12 : decode cJ3_checkIndex_8e157 12 = .ok (.invokestatic 95, 3) := by decide +kernel
theorem dJ3_checkIndex_8e157_15 : decode cJ3_checkIndex_8e157 15 = .ok (.athrow, 1) := by decide +kernel
theorem dJ3_checkIndex_8e157_16 : decode cJ3_checkIndex_8e157 16 = .ok (.iload_n 0, 1) := by decide +kernel
theorem dJ3_checkIndex_8e157_17 : decode cJ3_checkIndex_8e157 17 = .ok (.ireturn, 1) := by decide +kernel
theorem dL_law_0 : decode cL_law 0 = .ok (.new 7, 3) := by decide +kernel
theorem dL_law_3 : decode cL_law 3 = .ok (.dup, 1) := by decide +kernel
theorem dL_law_4 : decode cL_law 4 = .ok (.invokespecial 9, 3) := by decide +kernel
theorem dL_law_7 : decode cL_law 7 = .ok (.astore_n 1, 1) := by decide +kernel
theorem dL_law_8 : decode cL_law 8 = .ok (.new 10, 3) := by decide +kernel
theorem dL_law_11 : decode cL_law 11 = .ok (.dup, 1) := by decide +kernel
theorem dL_law_12 : decode cL_law 12 = .ok (.invokespecial 12, 3) := by decide +kernel
theorem dL_law_15 : decode cL_law 15 = .ok (.astore_n 2, 1) := by decide +kernel
theorem dL_law_16 : decode cL_law 16 = .ok (.iconst 0, 1) := by decide +kernel
theorem dL_law_17 : decode cL_law 17 = .ok (.istore_n 3, 1) := by decide +kernel
theorem dL_law_18 : decode cL_law 18 = .ok (.iload_n 3, 1) := by decide +kernel
theorem dL_law_19 : decode cL_law 19 = .ok (.aload_n 0, 1) := by decide +kernel
theorem dL_law_20 : decode cL_law 20 = .ok (.arraylength, 1) := by decide +kernel
theorem dL_law_21 : decode cL_law 21 = .ok (.bipush 6, 2) := by decide +kernel
theorem dL_law_23 : decode cL_law 23 = .ok (.isub, 1) := by decide +kernel
theorem dL_law_24 : decode cL_law 24 = .ok (.if_icmp .gt 1816, 3) := by decide +kernel
theorem dL_law_27 : decode cL_law 27 = .ok (.aload_n 0, 1) := by decide +kernel
theorem dL_law_28 : decode cL_law 28 = .ok (.iload_n 3, 1) := by decide +kernel
theorem dL_law_29 : decode cL_law 29 = .ok (.iaload, 1) := by decide +kernel
theorem dL_law_30 : decode cL_law 30 = .ok (.bipush 63, 2) := by decide +kernel
theorem dL_law_32 : decode cL_law 32 = .ok (.iand, 1) := by decide +kernel
theorem dL_law_33 : decode cL_law 33 = .ok (.tableswitch 1801 0 54 #[235, 298, 321, 334, 357, 390, 433, 456, 489, 522, 545, 568, 601, 624, 637, 660, 703, 746, 779, 792, 805, 828, 851, 884, 917, 950, 983, 1016, 1049, 1082, 1115, 1148, 1181, 1214, 1248, 1271, 1304, 1327, 1350, 1383, 1396, 1429, 1452, 1475, 1488, 1531, 1554, 1577, 1610, 1643, 1706, 1719, 1732, 1755, 1778], 235) := by decide +kernel
theorem dL_law_268 : decode cL_law 268 = .ok (.aload_n 1, 1) := by decide +kernel
theorem dL_law_269 : decode cL_law 269 = .ok (.aload_n 0, 1) := by decide +kernel
theorem dL_law_270 : decode cL_law 270 = .ok (.iload_n 3, 1) := by decide +kernel
theorem dL_law_271 : decode cL_law 271 = .ok (.iconst 1, 1) := by decide +kernel
theorem dL_law_272 : decode cL_law 272 = .ok (.iadd, 1) := by decide +kernel
theorem dL_law_273 : decode cL_law 273 = .ok (.iaload, 1) := by decide +kernel
theorem dL_law_274 : decode cL_law 274 = .ok (.aload_n 0, 1) := by decide +kernel
theorem dL_law_275 : decode cL_law 275 = .ok (.iload_n 3, 1) := by decide +kernel
theorem dL_law_276 : decode cL_law 276 = .ok (.iconst 2, 1) := by decide +kernel
theorem dL_law_277 : decode cL_law 277 = .ok (.iadd, 1) := by decide +kernel
theorem dL_law_278 : decode cL_law 278 = .ok (.iaload, 1) := by decide +kernel
theorem dL_law_279 : decode cL_law 279 = .ok (.aload_n 0, 1) := by decide +kernel
theorem dL_law_280 : decode cL_law 280 = .ok (.iload_n 3, 1) := by decide +kernel
theorem dL_law_281 : decode cL_law 281 = .ok (.iconst 3, 1) := by decide +kernel
theorem dL_law_282 : decode cL_law 282 = .ok (.iadd, 1) := by decide +kernel
theorem dL_law_283 : decode cL_law 283 = .ok (.iaload, 1) := by decide +kernel
theorem dL_law_284 : decode cL_law 284 = .ok (.aload_n 0, 1) := by decide +kernel
theorem dL_law_285 : decode cL_law 285 = .ok (.iload_n 3, 1) := by decide +kernel
theorem dL_law_286 : decode cL_law 286 = .ok (.iconst 4, 1) := by decide +kernel
theorem dL_law_287 : decode cL_law 287 = .ok (.iadd, 1) := by decide +kernel
theorem dL_law_288 : decode cL_law 288 = .ok (.iaload, 1) := by decide +kernel
theorem dL_law_289 : decode cL_law 289 = .ok (.aload_n 0, 1) := by decide +kernel
theorem dL_law_290 : decode cL_law 290 = .ok (.iload_n 3, 1) := by decide +kernel
theorem dL_law_291 : decode cL_law 291 = .ok (.iconst 5, 1) := by decide +kernel
theorem dL_law_292 : decode cL_law 292 = .ok (.iadd, 1) := by decide +kernel
theorem dL_law_293 : decode cL_law 293 = .ok (.iaload, 1) := by decide +kernel
theorem dL_law_294 : decode cL_law 294 = .ok (.invokevirtual 13, 3) := by decide +kernel
theorem dL_law_297 : decode cL_law 297 = .ok (.aload_n 2, 1) := by decide +kernel
theorem dL_law_298 : decode cL_law 298 = .ok (.aload_n 0, 1) := by decide +kernel
theorem dL_law_299 : decode cL_law 299 = .ok (.iload_n 3, 1) := by decide +kernel
theorem dL_law_300 : decode cL_law 300 = .ok (.iconst 1, 1) := by decide +kernel
theorem dL_law_301 : decode cL_law 301 = .ok (.iadd, 1) := by decide +kernel
theorem dL_law_302 : decode cL_law 302 = .ok (.iaload, 1) := by decide +kernel
theorem dL_law_303 : decode cL_law 303 = .ok (.aload_n 0, 1) := by decide +kernel
theorem dL_law_304 : decode cL_law 304 = .ok (.iload_n 3, 1) := by decide +kernel
theorem dL_law_305 : decode cL_law 305 = .ok (.iconst 2, 1) := by decide +kernel
theorem dL_law_306 : decode cL_law 306 = .ok (.iadd, 1) := by decide +kernel
theorem dL_law_307 : decode cL_law 307 = .ok (.iaload, 1) := by decide +kernel
theorem dL_law_308 : decode cL_law 308 = .ok (.aload_n 0, 1) := by decide +kernel
theorem dL_law_309 : decode cL_law 309 = .ok (.iload_n 3, 1) := by decide +kernel
theorem dL_law_310 : decode cL_law 310 = .ok (.iconst 3, 1) := by decide +kernel
theorem dL_law_311 : decode cL_law 311 = .ok (.iadd, 1) := by decide +kernel
theorem dL_law_312 : decode cL_law 312 = .ok (.iaload, 1) := by decide +kernel
theorem dL_law_313 : decode cL_law 313 = .ok (.aload_n 0, 1) := by decide +kernel
theorem dL_law_314 : decode cL_law 314 = .ok (.iload_n 3, 1) := by decide +kernel
theorem dL_law_315 : decode cL_law 315 = .ok (.iconst 4, 1) := by decide +kernel
theorem dL_law_316 : decode cL_law 316 = .ok (.iadd, 1) := by decide +kernel
theorem dL_law_317 : decode cL_law 317 = .ok (.iaload, 1) := by decide +kernel
theorem dL_law_318 : decode cL_law 318 = .ok (.aload_n 0, 1) := by decide +kernel
theorem dL_law_319 : decode cL_law 319 = .ok (.iload_n 3, 1) := by decide +kernel
theorem dL_law_320 : decode cL_law 320 = .ok (.iconst 5, 1) := by decide +kernel
theorem dL_law_321 : decode cL_law 321 = .ok (.iadd, 1) := by decide +kernel
theorem dL_law_322 : decode cL_law 322 = .ok (.iaload, 1) := by decide +kernel
theorem dL_law_323 : decode cL_law 323 = .ok (.invokevirtual 17, 3) := by decide +kernel
theorem dL_law_326 : decode cL_law 326 = .ok (.if_icmp .eq 1508, 3) := by decide +kernel
theorem dL_law_329 : decode cL_law 329 = .ok (.iconst 0, 1) := by decide +kernel
theorem dL_law_330 : decode cL_law 330 = .ok (.ireturn, 1) := by decide +kernel
theorem dL_law_331 : decode cL_law 331 = .ok (.aload_n 1, 1) := by decide +kernel
theorem dL_law_332 : decode cL_law 332 = .ok (.aload_n 0, 1) := by decide +kernel
theorem dL_law_333 : decode cL_law 333 = .ok (.iload_n 3, 1) := by decide +kernel
theorem dL_law_334 : decode cL_law 334 = .ok (.iconst 1, 1) := by decide +kernel
theorem dL_law_335 : decode cL_law 335 = .ok (.iadd, 1) := by decide +kernel
theorem dL_law_336 : decode cL_law 336 = .ok (.iaload, 1) := by decide +kernel
theorem dL_law_337 : decode cL_law 337 = .ok (.invokevirtual 18, 3) := by decide +kernel
theorem dL_law_340 : decode cL_law 340 = .ok (.aload_n 2, 1) := by decide +kernel
theorem dL_law_341 : decode cL_law 341 = .ok (.aload_n 0, 1) := by decide +kernel
theorem dL_law_342 : decode cL_law 342 = .ok (.iload_n 3, 1) := by decide +kernel
theorem dL_law_343 : decode cL_law 343 = .ok (.iconst 1, 1) := by decide +kernel
theorem dL_law_344 : decode cL_law 344 = .ok (.iadd, 1) := by decide +kernel
theorem dL_law_345 : decode cL_law 345 = .ok (.iaload, 1) := by decide +kernel
theorem dL_law_346 : decode cL_law 346 = .ok (.invokevirtual 22, 3) := by decide +kernel
theorem dL_law_349 : decode cL_law 349 = .ok (.if_icmp .eq 1485, 3) := by decide +kernel
theorem dL_law_352 : decode cL_law 352 = .ok (.iconst 0, 1) := by decide +kernel
theorem dL_law_353 : decode cL_law 353 = .ok (.ireturn, 1) := by decide +kernel
theorem dL_law_354 : decode cL_law 354 = .ok (.aload_n 1, 1) := by decide +kernel
theorem dL_law_355 : decode cL_law 355 = .ok (.invokevirtual 23, 3) := by decide +kernel
theorem dL_law_358 : decode cL_law 358 = .ok (.aload_n 2, 1) := by decide +kernel
theorem dL_law_359 : decode cL_law 359 = .ok (.invokevirtual 27, 3) := by decide +kernel
theorem dL_law_362 : decode cL_law 362 = .ok (.if_icmp .eq 1472, 3) := by decide +kernel
theorem dL_law_365 : decode cL_law 365 = .ok (.iconst 0, 1) := by decide +kernel
theorem dL_law_366 : decode cL_law 366 = .ok (.ireturn, 1) := by decide +kernel
theorem dL_law_367 : decode cL_law 367 = .ok (.aload_n 1, 1) := by decide +kernel
theorem dL_law_368 : decode cL_law 368 = .ok (.aload_n 0, 1) := by decide +kernel
theorem dL_law_369 : decode cL_law 369 = .ok (.iload_n 3, 1) := by decide +kernel
theorem dL_law_370 : decode cL_law 370 = .ok (.iconst 1, 1) := by decide +kernel
theorem dL_law_371 : decode cL_law 371 = .ok (.iadd, 1) := by decide +kernel
theorem dL_law_372 : decode cL_law 372 = .ok (.iaload, 1) := by decide +kernel
theorem dL_law_373 : decode cL_law 373 = .ok (.invokevirtual 28, 3) := by decide +kernel
theorem dL_law_376 : decode cL_law 376 = .ok (.aload_n 2, 1) := by decide +kernel
theorem dL_law_377 : decode cL_law 377 = .ok (.aload_n 0, 1) := by decide +kernel
theorem dL_law_378 : decode cL_law 378 = .ok (.iload_n 3, 1) := by decide +kernel
theorem dL_law_379 : decode cL_law 379 = .ok (.iconst 1, 1) := by decide +kernel
theorem dL_law_380 : decode cL_law 380 = .ok (.iadd, 1) := by decide +kernel
theorem dL_law_381 : decode cL_law 381 = .ok (.iaload, 1) := by decide +kernel
theorem dL_law_382 : decode cL_law 382 = .ok (.invokevirtual 31, 3) := by decide +kernel
theorem dL_law_385 : decode cL_law 385 = .ok (.if_icmp .eq 1449, 3) := by decide +kernel
theorem dL_law_388 : decode cL_law 388 = .ok (.iconst 0, 1) := by decide +kernel
theorem dL_law_389 : decode cL_law 389 = .ok (.ireturn, 1) := by decide +kernel
theorem dL_law_390 : decode cL_law 390 = .ok (.aload_n 1, 1) := by decide +kernel
theorem dL_law_391 : decode cL_law 391 = .ok (.aload_n 0, 1) := by decide +kernel
theorem dL_law_392 : decode cL_law 392 = .ok (.iload_n 3, 1) := by decide +kernel
theorem dL_law_393 : decode cL_law 393 = .ok (.iconst 1, 1) := by decide +kernel
theorem dL_law_394 : decode cL_law 394 = .ok (.iadd, 1) := by decide +kernel
theorem dL_law_395 : decode cL_law 395 = .ok (.iaload, 1) := by decide +kernel
theorem dL_law_396 : decode cL_law 396 = .ok (.aload_n 0, 1) := by decide +kernel
theorem dL_law_397 : decode cL_law 397 = .ok (.iload_n 3, 1) := by decide +kernel
theorem dL_law_398 : decode cL_law 398 = .ok (.iconst 2, 1) := by decide +kernel
theorem dL_law_399 : decode cL_law 399 = .ok (.iadd, 1) := by decide +kernel
theorem dL_law_400 : decode cL_law 400 = .ok (.iaload, 1) := by decide +kernel
theorem dL_law_401 : decode cL_law 401 = .ok (.invokevirtual 32, 3) := by decide +kernel
theorem dL_law_404 : decode cL_law 404 = .ok (.aload_n 2, 1) := by decide +kernel
theorem dL_law_405 : decode cL_law 405 = .ok (.aload_n 0, 1) := by decide +kernel
theorem dL_law_406 : decode cL_law 406 = .ok (.iload_n 3, 1) := by decide +kernel
theorem dL_law_407 : decode cL_law 407 = .ok (.iconst 1, 1) := by decide +kernel
theorem dL_law_408 : decode cL_law 408 = .ok (.iadd, 1) := by decide +kernel
theorem dL_law_409 : decode cL_law 409 = .ok (.iaload, 1) := by decide +kernel
theorem dL_law_410 : decode cL_law 410 = .ok (.aload_n 0, 1) := by decide +kernel
theorem dL_law_411 : decode cL_law 411 = .ok (.iload_n 3, 1) := by decide +kernel
theorem dL_law_412 : decode cL_law 412 = .ok (.iconst 2, 1) := by decide +kernel
theorem dL_law_413 : decode cL_law 413 = .ok (.iadd, 1) := by decide +kernel
theorem dL_law_414 : decode cL_law 414 = .ok (.iaload, 1) := by decide +kernel
theorem dL_law_415 : decode cL_law 415 = .ok (.invokevirtual 36, 3) := by decide +kernel
theorem dL_law_418 : decode cL_law 418 = .ok (.if_icmp .eq 1416, 3) := by decide +kernel
theorem dL_law_421 : decode cL_law 421 = .ok (.iconst 0, 1) := by decide +kernel
theorem dL_law_422 : decode cL_law 422 = .ok (.ireturn, 1) := by decide +kernel
theorem dL_law_423 : decode cL_law 423 = .ok (.aload_n 1, 1) := by decide +kernel
theorem dL_law_424 : decode cL_law 424 = .ok (.aload_n 0, 1) := by decide +kernel
theorem dL_law_425 : decode cL_law 425 = .ok (.iload_n 3, 1) := by decide +kernel
theorem dL_law_426 : decode cL_law 426 = .ok (.iconst 1, 1) := by decide +kernel
theorem dL_law_427 : decode cL_law 427 = .ok (.iadd, 1) := by decide +kernel
theorem dL_law_428 : decode cL_law 428 = .ok (.iaload, 1) := by decide +kernel
theorem dL_law_429 : decode cL_law 429 = .ok (.aload_n 0, 1) := by decide +kernel
theorem dL_law_430 : decode cL_law 430 = .ok (.iload_n 3, 1) := by decide +kernel
theorem dL_law_431 : decode cL_law 431 = .ok (.iconst 2, 1) := by decide +kernel
theorem dL_law_432 : decode cL_law 432 = .ok (.iadd, 1) := by decide +kernel
theorem dL_law_433 : decode cL_law 433 = .ok (.iaload, 1) := by decide +kernel
theorem dL_law_434 : decode cL_law 434 = .ok (.aload_n 0, 1) := by decide +kernel
theorem dL_law_435 : decode cL_law 435 = .ok (.iload_n 3, 1) := by decide +kernel
theorem dL_law_436 : decode cL_law 436 = .ok (.iconst 3, 1) := by decide +kernel
theorem dL_law_437 : decode cL_law 437 = .ok (.iadd, 1) := by decide +kernel
theorem dL_law_438 : decode cL_law 438 = .ok (.iaload, 1) := by decide +kernel
theorem dL_law_439 : decode cL_law 439 = .ok (.invokevirtual 37, 3) := by decide +kernel
theorem dL_law_442 : decode cL_law 442 = .ok (.aload_n 2, 1) := by decide +kernel
theorem dL_law_443 : decode cL_law 443 = .ok (.aload_n 0, 1) := by decide +kernel
theorem dL_law_444 : decode cL_law 444 = .ok (.iload_n 3, 1) := by decide +kernel
theorem dL_law_445 : decode cL_law 445 = .ok (.iconst 1, 1) := by decide +kernel
theorem dL_law_446 : decode cL_law 446 = .ok (.iadd, 1) := by decide +kernel
theorem dL_law_447 : decode cL_law 447 = .ok (.iaload, 1) := by decide +kernel
theorem dL_law_448 : decode cL_law 448 = .ok (.aload_n 0, 1) := by decide +kernel
theorem dL_law_449 : decode cL_law 449 = .ok (.iload_n 3, 1) := by decide +kernel
theorem dL_law_450 : decode cL_law 450 = .ok (.iconst 2, 1) := by decide +kernel
theorem dL_law_451 : decode cL_law 451 = .ok (.iadd, 1) := by decide +kernel
theorem dL_law_452 : decode cL_law 452 = .ok (.iaload, 1) := by decide +kernel
theorem dL_law_453 : decode cL_law 453 = .ok (.aload_n 0, 1) := by decide +kernel
theorem dL_law_454 : decode cL_law 454 = .ok (.iload_n 3, 1) := by decide +kernel
theorem dL_law_455 : decode cL_law 455 = .ok (.iconst 3, 1) := by decide +kernel
theorem dL_law_456 : decode cL_law 456 = .ok (.iadd, 1) := by decide +kernel
theorem dL_law_457 : decode cL_law 457 = .ok (.iaload, 1) := by decide +kernel
theorem dL_law_458 : decode cL_law 458 = .ok (.invokevirtual 41, 3) := by decide +kernel
theorem dL_law_461 : decode cL_law 461 = .ok (.if_icmp .eq 1373, 3) := by decide +kernel
theorem dL_law_464 : decode cL_law 464 = .ok (.iconst 0, 1) := by decide +kernel
theorem dL_law_465 : decode cL_law 465 = .ok (.ireturn, 1) := by decide +kernel
theorem dL_law_466 : decode cL_law 466 = .ok (.aload_n 1, 1) := by decide +kernel
theorem dL_law_467 : decode cL_law 467 = .ok (.aload_n 0, 1) := by decide +kernel
theorem dL_law_468 : decode cL_law 468 = .ok (.iload_n 3, 1) := by decide +kernel
theorem dL_law_469 : decode cL_law 469 = .ok (.iconst 1, 1) := by decide +kernel
theorem dL_law_470 : decode cL_law 470 = .ok (.iadd, 1) := by decide +kernel
theorem dL_law_471 : decode cL_law 471 = .ok (.iaload, 1) := by decide +kernel
theorem dL_law_472 : decode cL_law 472 = .ok (.invokevirtual 42, 3) := by decide +kernel
theorem dL_law_475 : decode cL_law 475 = .ok (.aload_n 2, 1) := by decide +kernel
theorem dL_law_476 : decode cL_law 476 = .ok (.aload_n 0, 1) := by decide +kernel
theorem dL_law_477 : decode cL_law 477 = .ok (.iload_n 3, 1) := by decide +kernel
theorem dL_law_478 : decode cL_law 478 = .ok (.iconst 1, 1) := by decide +kernel
theorem dL_law_479 : decode cL_law 479 = .ok (.iadd, 1) := by decide +kernel
theorem dL_law_480 : decode cL_law 480 = .ok (.iaload, 1) := by decide +kernel
theorem dL_law_481 : decode cL_law 481 = .ok (.invokevirtual 45, 3) := by decide +kernel
theorem dL_law_484 : decode cL_law 484 = .ok (.if_icmp .eq 1350, 3) := by decide +kernel
theorem dL_law_487 : decode cL_law 487 = .ok (.iconst 0, 1) := by decide +kernel
theorem dL_law_488 : decode cL_law 488 = .ok (.ireturn, 1) := by decide +kernel
theorem dL_law_489 : decode cL_law 489 = .ok (.aload_n 1, 1) := by decide +kernel
theorem dL_law_490 : decode cL_law 490 = .ok (.aload_n 0, 1) := by decide +kernel
theorem dL_law_491 : decode cL_law 491 = .ok (.iload_n 3, 1) := by decide +kernel
theorem dL_law_492 : decode cL_law 492 = .ok (.iconst 1, 1) := by decide +kernel
theorem dL_law_493 : decode cL_law 493 = .ok (.iadd, 1) := by decide +kernel
theorem dL_law_494 : decode cL_law 494 = .ok (.iaload, 1) := by decide +kernel
theorem dL_law_495 : decode cL_law 495 = .ok (.aload_n 0, 1) := by decide +kernel
theorem dL_law_496 : decode cL_law 496 = .ok (.iload_n 3, 1) := by decide +kernel
theorem dL_law_497 : decode cL_law 497 = .ok (.iconst 2, 1) := by decide +kernel
theorem dL_law_498 : decode cL_law 498 = .ok (.iadd, 1) := by decide +kernel
theorem dL_law_499 : decode cL_law 499 = .ok (.iaload, 1) := by decide +kernel
theorem dL_law_500 : decode cL_law 500 = .ok (.invokevirtual 46, 3) := by decide +kernel
theorem dL_law_503 : decode cL_law 503 = .ok (.aload_n 2, 1) := by decide +kernel
theorem dL_law_504 : decode cL_law 504 = .ok (.aload_n 0, 1) := by decide +kernel
theorem dL_law_505 : decode cL_law 505 = .ok (.iload_n 3, 1) := by decide +kernel
theorem dL_law_506 : decode cL_law 506 = .ok (.iconst 1, 1) := by decide +kernel
theorem dL_law_507 : decode cL_law 507 = .ok (.iadd, 1) := by decide +kernel
theorem dL_law_508 : decode cL_law 508 = .ok (.iaload, 1) := by decide +kernel
theorem dL_law_509 : decode cL_law 509 = .ok (.aload_n 0, 1) := by decide +kernel
theorem dL_law_510 : decode cL_law 510 = .ok (.iload_n 3, 1) := by decide +kernel
theorem dL_law_511 : decode cL_law 511 = .ok (.iconst 2, 1) := by decide +kernel
theorem dL_law_512 : decode cL_law 512 = .ok (.iadd, 1) := by decide +kernel
theorem dL_law_513 : decode cL_law 513 = .ok (.iaload, 1) := by decide +kernel
theorem dL_law_514 : decode cL_law 514 = .ok (.invokevirtual 49, 3) := by decide +kernel
theorem dL_law_517 : decode cL_law 517 = .ok (.if_icmp .eq 1317, 3) := by decide +kernel
theorem dL_law_520 : decode cL_law 520 = .ok (.iconst 0, 1) := by decide +kernel
theorem dL_law_521 : decode cL_law 521 = .ok (.ireturn, 1) := by decide +kernel
theorem dL_law_522 : decode cL_law 522 = .ok (.aload_n 1, 1) := by decide +kernel
theorem dL_law_523 : decode cL_law 523 = .ok (.aload_n 0, 1) := by decide +kernel
theorem dL_law_524 : decode cL_law 524 = .ok (.iload_n 3, 1) := by decide +kernel
theorem dL_law_525 : decode cL_law 525 = .ok (.iconst 1, 1) := by decide +kernel
theorem dL_law_526 : decode cL_law 526 = .ok (.iadd, 1) := by decide +kernel
theorem dL_law_527 : decode cL_law 527 = .ok (.iaload, 1) := by decide +kernel
theorem dL_law_528 : decode cL_law 528 = .ok (.aload_n 0, 1) := by decide +kernel
theorem dL_law_529 : decode cL_law 529 = .ok (.iload_n 3, 1) := by decide +kernel
theorem dL_law_530 : decode cL_law 530 = .ok (.iconst 2, 1) := by decide +kernel
theorem dL_law_531 : decode cL_law 531 = .ok (.iadd, 1) := by decide +kernel
theorem dL_law_532 : decode cL_law 532 = .ok (.iaload, 1) := by decide +kernel
theorem dL_law_533 : decode cL_law 533 = .ok (.invokevirtual 50, 3) := by decide +kernel
theorem dL_law_536 : decode cL_law 536 = .ok (.aload_n 2, 1) := by decide +kernel
theorem dL_law_537 : decode cL_law 537 = .ok (.aload_n 0, 1) := by decide +kernel
theorem dL_law_538 : decode cL_law 538 = .ok (.iload_n 3, 1) := by decide +kernel
theorem dL_law_539 : decode cL_law 539 = .ok (.iconst 1, 1) := by decide +kernel
theorem dL_law_540 : decode cL_law 540 = .ok (.iadd, 1) := by decide +kernel
theorem dL_law_541 : decode cL_law 541 = .ok (.iaload, 1) := by decide +kernel
theorem dL_law_542 : decode cL_law 542 = .ok (.aload_n 0, 1) := by decide +kernel
theorem dL_law_543 : decode cL_law 543 = .ok (.iload_n 3, 1) := by decide +kernel
theorem dL_law_544 : decode cL_law 544 = .ok (.iconst 2, 1) := by decide +kernel
theorem dL_law_545 : decode cL_law 545 = .ok (.iadd, 1) := by decide +kernel
theorem dL_law_546 : decode cL_law 546 = .ok (.iaload, 1) := by decide +kernel
theorem dL_law_547 : decode cL_law 547 = .ok (.invokevirtual 53, 3) := by decide +kernel
theorem dL_law_550 : decode cL_law 550 = .ok (.if_icmp .eq 1284, 3) := by decide +kernel
theorem dL_law_553 : decode cL_law 553 = .ok (.iconst 0, 1) := by decide +kernel
theorem dL_law_554 : decode cL_law 554 = .ok (.ireturn, 1) := by decide +kernel
theorem dL_law_555 : decode cL_law 555 = .ok (.aload_n 1, 1) := by decide +kernel
theorem dL_law_556 : decode cL_law 556 = .ok (.aload_n 0, 1) := by decide +kernel
theorem dL_law_557 : decode cL_law 557 = .ok (.iload_n 3, 1) := by decide +kernel
theorem dL_law_558 : decode cL_law 558 = .ok (.iconst 1, 1) := by decide +kernel
theorem dL_law_559 : decode cL_law 559 = .ok (.iadd, 1) := by decide +kernel
theorem dL_law_560 : decode cL_law 560 = .ok (.iaload, 1) := by decide +kernel
theorem dL_law_561 : decode cL_law 561 = .ok (.invokevirtual 54, 3) := by decide +kernel
theorem dL_law_564 : decode cL_law 564 = .ok (.aload_n 2, 1) := by decide +kernel
theorem dL_law_565 : decode cL_law 565 = .ok (.aload_n 0, 1) := by decide +kernel
theorem dL_law_566 : decode cL_law 566 = .ok (.iload_n 3, 1) := by decide +kernel
theorem dL_law_567 : decode cL_law 567 = .ok (.iconst 1, 1) := by decide +kernel
theorem dL_law_568 : decode cL_law 568 = .ok (.iadd, 1) := by decide +kernel
theorem dL_law_569 : decode cL_law 569 = .ok (.iaload, 1) := by decide +kernel
theorem dL_law_570 : decode cL_law 570 = .ok (.invokevirtual 57, 3) := by decide +kernel
theorem dL_law_573 : decode cL_law 573 = .ok (.if_icmp .eq 1261, 3) := by decide +kernel
theorem dL_law_576 : decode cL_law 576 = .ok (.iconst 0, 1) := by decide +kernel
theorem dL_law_577 : decode cL_law 577 = .ok (.ireturn, 1) := by decide +kernel
theorem dL_law_578 : decode cL_law 578 = .ok (.aload_n 1, 1) := by decide +kernel
theorem dL_law_579 : decode cL_law 579 = .ok (.aload_n 0, 1) := by decide +kernel
theorem dL_law_580 : decode cL_law 580 = .ok (.iload_n 3, 1) := by decide +kernel
theorem dL_law_581 : decode cL_law 581 = .ok (.iconst 1, 1) := by decide +kernel
theorem dL_law_582 : decode cL_law 582 = .ok (.iadd, 1) := by decide +kernel
theorem dL_law_583 : decode cL_law 583 = .ok (.iaload, 1) := by decide +kernel
theorem dL_law_584 : decode cL_law 584 = .ok (.invokevirtual 58, 3) := by decide +kernel
theorem dL_law_587 : decode cL_law 587 = .ok (.aload_n 2, 1) := by decide +kernel
theorem dL_law_588 : decode cL_law 588 = .ok (.aload_n 0, 1) := by decide +kernel
theorem dL_law_589 : decode cL_law 589 = .ok (.iload_n 3, 1) := by decide +kernel
theorem dL_law_590 : decode cL_law 590 = .ok (.iconst 1, 1) := by decide +kernel
theorem dL_law_591 : decode cL_law 591 = .ok (.iadd, 1) := by decide +kernel
theorem dL_law_592 : decode cL_law 592 = .ok (.iaload, 1) := by decide +kernel
theorem dL_law_593 : decode cL_law 593 = .ok (.invokevirtual 61, 3) := by decide +kernel
theorem dL_law_596 : decode cL_law 596 = .ok (.if_icmp .eq 1238, 3) := by decide +kernel
theorem dL_law_599 : decode cL_law 599 = .ok (.iconst 0, 1) := by decide +kernel
theorem dL_law_600 : decode cL_law 600 = .ok (.ireturn, 1) := by decide +kernel
theorem dL_law_601 : decode cL_law 601 = .ok (.aload_n 1, 1) := by decide +kernel
theorem dL_law_602 : decode cL_law 602 = .ok (.aload_n 0, 1) := by decide +kernel
theorem dL_law_603 : decode cL_law 603 = .ok (.iload_n 3, 1) := by decide +kernel
theorem dL_law_604 : decode cL_law 604 = .ok (.iconst 1, 1) := by decide +kernel
theorem dL_law_605 : decode cL_law 605 = .ok (.iadd, 1) := by decide +kernel
theorem dL_law_606 : decode cL_law 606 = .ok (.iaload, 1) := by decide +kernel
theorem dL_law_607 : decode cL_law 607 = .ok (.aload_n 0, 1) := by decide +kernel
theorem dL_law_608 : decode cL_law 608 = .ok (.iload_n 3, 1) := by decide +kernel
theorem dL_law_609 : decode cL_law 609 = .ok (.iconst 2, 1) := by decide +kernel
theorem dL_law_610 : decode cL_law 610 = .ok (.iadd, 1) := by decide +kernel
theorem dL_law_611 : decode cL_law 611 = .ok (.iaload, 1) := by decide +kernel
theorem dL_law_612 : decode cL_law 612 = .ok (.invokevirtual 62, 3) := by decide +kernel
theorem dL_law_615 : decode cL_law 615 = .ok (.aload_n 2, 1) := by decide +kernel
theorem dL_law_616 : decode cL_law 616 = .ok (.aload_n 0, 1) := by decide +kernel
theorem dL_law_617 : decode cL_law 617 = .ok (.iload_n 3, 1) := by decide +kernel
theorem dL_law_618 : decode cL_law 618 = .ok (.iconst 1, 1) := by decide +kernel
theorem dL_law_619 : decode cL_law 619 = .ok (.iadd, 1) := by decide +kernel
theorem dL_law_620 : decode cL_law 620 = .ok (.iaload, 1) := by decide +kernel
theorem dL_law_621 : decode cL_law 621 = .ok (.aload_n 0, 1) := by decide +kernel
theorem dL_law_622 : decode cL_law 622 = .ok (.iload_n 3, 1) := by decide +kernel
theorem dL_law_623 : decode cL_law 623 = .ok (.iconst 2, 1) := by decide +kernel
theorem dL_law_624 : decode cL_law 624 = .ok (.iadd, 1) := by decide +kernel
theorem dL_law_625 : decode cL_law 625 = .ok (.iaload, 1) := by decide +kernel
theorem dL_law_626 : decode cL_law 626 = .ok (.invokevirtual 65, 3) := by decide +kernel
theorem dL_law_629 : decode cL_law 629 = .ok (.if_icmp .eq 1205, 3) := by decide +kernel
theorem dL_law_632 : decode cL_law 632 = .ok (.iconst 0, 1) := by decide +kernel
theorem dL_law_633 : decode cL_law 633 = .ok (.ireturn, 1) := by decide +kernel
theorem dL_law_634 : decode cL_law 634 = .ok (.aload_n 1, 1) := by decide +kernel
theorem dL_law_635 : decode cL_law 635 = .ok (.aload_n 0, 1) := by decide +kernel
theorem dL_law_636 : decode cL_law 636 = .ok (.iload_n 3, 1) := by decide +kernel
theorem dL_law_637 : decode cL_law 637 = .ok (.iconst 1, 1) := by decide +kernel
theorem dL_law_638 : decode cL_law 638 = .ok (.iadd, 1) := by decide +kernel
theorem dL_law_639 : decode cL_law 639 = .ok (.iaload, 1) := by decide +kernel
theorem dL_law_640 : decode cL_law 640 = .ok (.invokevirtual 66, 3) := by decide +kernel
theorem dL_law_643 : decode cL_law 643 = .ok (.aload_n 2, 1) := by decide +kernel
theorem dL_law_644 : decode cL_law 644 = .ok (.aload_n 0, 1) := by decide +kernel
theorem dL_law_645 : decode cL_law 645 = .ok (.iload_n 3, 1) := by decide +kernel
theorem dL_law_646 : decode cL_law 646 = .ok (.iconst 1, 1) := by decide +kernel
theorem dL_law_647 : decode cL_law 647 = .ok (.iadd, 1) := by decide +kernel
theorem dL_law_648 : decode cL_law 648 = .ok (.iaload, 1) := by decide +kernel
theorem dL_law_649 : decode cL_law 649 = .ok (.invokevirtual 69, 3) := by decide +kernel
theorem dL_law_652 : decode cL_law 652 = .ok (.if_icmp .eq 1182, 3) := by decide +kernel
theorem dL_law_655 : decode cL_law 655 = .ok (.iconst 0, 1) := by decide +kernel
theorem dL_law_656 : decode cL_law 656 = .ok (.ireturn, 1) := by decide +kernel
theorem dL_law_657 : decode cL_law 657 = .ok (.aload_n 1, 1) := by decide +kernel
theorem dL_law_658 : decode cL_law 658 = .ok (.invokevirtual 70, 3) := by decide +kernel
theorem dL_law_661 : decode cL_law 661 = .ok (.aload_n 2, 1) := by decide +kernel
theorem dL_law_662 : decode cL_law 662 = .ok (.invokevirtual 73, 3) := by decide +kernel
theorem dL_law_665 : decode cL_law 665 = .ok (.if_icmp .eq 1169, 3) := by decide +kernel
theorem dL_law_668 : decode cL_law 668 = .ok (.iconst 0, 1) := by decide +kernel
theorem dL_law_669 : decode cL_law 669 = .ok (.ireturn, 1) := by decide +kernel
theorem dL_law_670 : decode cL_law 670 = .ok (.aload_n 1, 1) := by decide +kernel
theorem dL_law_671 : decode cL_law 671 = .ok (.aload_n 0, 1) := by decide +kernel
theorem dL_law_672 : decode cL_law 672 = .ok (.iload_n 3, 1) := by decide +kernel
theorem dL_law_673 : decode cL_law 673 = .ok (.iconst 1, 1) := by decide +kernel
theorem dL_law_674 : decode cL_law 674 = .ok (.iadd, 1) := by decide +kernel
theorem dL_law_675 : decode cL_law 675 = .ok (.iaload, 1) := by decide +kernel
theorem dL_law_676 : decode cL_law 676 = .ok (.invokevirtual 74, 3) := by decide +kernel
theorem dL_law_679 : decode cL_law 679 = .ok (.aload_n 2, 1) := by decide +kernel
theorem dL_law_680 : decode cL_law 680 = .ok (.aload_n 0, 1) := by decide +kernel
theorem dL_law_681 : decode cL_law 681 = .ok (.iload_n 3, 1) := by decide +kernel
theorem dL_law_682 : decode cL_law 682 = .ok (.iconst 1, 1) := by decide +kernel
theorem dL_law_683 : decode cL_law 683 = .ok (.iadd, 1) := by decide +kernel
theorem dL_law_684 : decode cL_law 684 = .ok (.iaload, 1) := by decide +kernel
theorem dL_law_685 : decode cL_law 685 = .ok (.invokevirtual 77, 3) := by decide +kernel
theorem dL_law_688 : decode cL_law 688 = .ok (.if_icmp .eq 1146, 3) := by decide +kernel
theorem dL_law_691 : decode cL_law 691 = .ok (.iconst 0, 1) := by decide +kernel
theorem dL_law_692 : decode cL_law 692 = .ok (.ireturn, 1) := by decide +kernel
theorem dL_law_693 : decode cL_law 693 = .ok (.aload_n 1, 1) := by decide +kernel
theorem dL_law_694 : decode cL_law 694 = .ok (.aload_n 0, 1) := by decide +kernel
theorem dL_law_695 : decode cL_law 695 = .ok (.iload_n 3, 1) := by decide +kernel
theorem dL_law_696 : decode cL_law 696 = .ok (.iconst 1, 1) := by decide +kernel
theorem dL_law_697 : decode cL_law 697 = .ok (.iadd, 1) := by decide +kernel
theorem dL_law_698 : decode cL_law 698 = .ok (.iaload, 1) := by decide +kernel
theorem dL_law_699 : decode cL_law 699 = .ok (.aload_n 0, 1) := by decide +kernel
theorem dL_law_700 : decode cL_law 700 = .ok (.iload_n 3, 1) := by decide +kernel
theorem dL_law_701 : decode cL_law 701 = .ok (.iconst 2, 1) := by decide +kernel
theorem dL_law_702 : decode cL_law 702 = .ok (.iadd, 1) := by decide +kernel
theorem dL_law_703 : decode cL_law 703 = .ok (.iaload, 1) := by decide +kernel
theorem dL_law_704 : decode cL_law 704 = .ok (.aload_n 0, 1) := by decide +kernel
theorem dL_law_705 : decode cL_law 705 = .ok (.iload_n 3, 1) := by decide +kernel
theorem dL_law_706 : decode cL_law 706 = .ok (.iconst 3, 1) := by decide +kernel
theorem dL_law_707 : decode cL_law 707 = .ok (.iadd, 1) := by decide +kernel
theorem dL_law_708 : decode cL_law 708 = .ok (.iaload, 1) := by decide +kernel
theorem dL_law_709 : decode cL_law 709 = .ok (.invokevirtual 78, 3) := by decide +kernel
theorem dL_law_712 : decode cL_law 712 = .ok (.aload_n 2, 1) := by decide +kernel
theorem dL_law_713 : decode cL_law 713 = .ok (.aload_n 0, 1) := by decide +kernel
theorem dL_law_714 : decode cL_law 714 = .ok (.iload_n 3, 1) := by decide +kernel
theorem dL_law_715 : decode cL_law 715 = .ok (.iconst 1, 1) := by decide +kernel
theorem dL_law_716 : decode cL_law 716 = .ok (.iadd, 1) := by decide +kernel
theorem dL_law_717 : decode cL_law 717 = .ok (.iaload, 1) := by decide +kernel
theorem dL_law_718 : decode cL_law 718 = .ok (.aload_n 0, 1) := by decide +kernel
theorem dL_law_719 : decode cL_law 719 = .ok (.iload_n 3, 1) := by decide +kernel
theorem dL_law_720 : decode cL_law 720 = .ok (.iconst 2, 1) := by decide +kernel
theorem dL_law_721 : decode cL_law 721 = .ok (.iadd, 1) := by decide +kernel
theorem dL_law_722 : decode cL_law 722 = .ok (.iaload, 1) := by decide +kernel
theorem dL_law_723 : decode cL_law 723 = .ok (.aload_n 0, 1) := by decide +kernel
theorem dL_law_724 : decode cL_law 724 = .ok (.iload_n 3, 1) := by decide +kernel
theorem dL_law_725 : decode cL_law 725 = .ok (.iconst 3, 1) := by decide +kernel
theorem dL_law_726 : decode cL_law 726 = .ok (.iadd, 1) := by decide +kernel
theorem dL_law_727 : decode cL_law 727 = .ok (.iaload, 1) := by decide +kernel
theorem dL_law_728 : decode cL_law 728 = .ok (.invokevirtual 81, 3) := by decide +kernel
theorem dL_law_731 : decode cL_law 731 = .ok (.if_icmp .eq 1103, 3) := by decide +kernel
theorem dL_law_734 : decode cL_law 734 = .ok (.iconst 0, 1) := by decide +kernel
theorem dL_law_735 : decode cL_law 735 = .ok (.ireturn, 1) := by decide +kernel
theorem dL_law_736 : decode cL_law 736 = .ok (.aload_n 1, 1) := by decide +kernel
theorem dL_law_737 : decode cL_law 737 = .ok (.aload_n 0, 1) := by decide +kernel
theorem dL_law_738 : decode cL_law 738 = .ok (.iload_n 3, 1) := by decide +kernel
theorem dL_law_739 : decode cL_law 739 = .ok (.iconst 1, 1) := by decide +kernel
theorem dL_law_740 : decode cL_law 740 = .ok (.iadd, 1) := by decide +kernel
theorem dL_law_741 : decode cL_law 741 = .ok (.iaload, 1) := by decide +kernel
theorem dL_law_742 : decode cL_law 742 = .ok (.aload_n 0, 1) := by decide +kernel
theorem dL_law_743 : decode cL_law 743 = .ok (.iload_n 3, 1) := by decide +kernel
theorem dL_law_744 : decode cL_law 744 = .ok (.iconst 2, 1) := by decide +kernel
theorem dL_law_745 : decode cL_law 745 = .ok (.iadd, 1) := by decide +kernel
theorem dL_law_746 : decode cL_law 746 = .ok (.iaload, 1) := by decide +kernel
theorem dL_law_747 : decode cL_law 747 = .ok (.aload_n 0, 1) := by decide +kernel
theorem dL_law_748 : decode cL_law 748 = .ok (.iload_n 3, 1) := by decide +kernel
theorem dL_law_749 : decode cL_law 749 = .ok (.iconst 3, 1) := by decide +kernel
theorem dL_law_750 : decode cL_law 750 = .ok (.iadd, 1) := by decide +kernel
theorem dL_law_751 : decode cL_law 751 = .ok (.iaload, 1) := by decide +kernel
theorem dL_law_752 : decode cL_law 752 = .ok (.invokevirtual 82, 3) := by decide +kernel
theorem dL_law_755 : decode cL_law 755 = .ok (.aload_n 2, 1) := by decide +kernel
theorem dL_law_756 : decode cL_law 756 = .ok (.aload_n 0, 1) := by decide +kernel
theorem dL_law_757 : decode cL_law 757 = .ok (.iload_n 3, 1) := by decide +kernel
theorem dL_law_758 : decode cL_law 758 = .ok (.iconst 1, 1) := by decide +kernel
theorem dL_law_759 : decode cL_law 759 = .ok (.iadd, 1) := by decide +kernel
theorem dL_law_760 : decode cL_law 760 = .ok (.iaload, 1) := by decide +kernel
theorem dL_law_761 : decode cL_law 761 = .ok (.aload_n 0, 1) := by decide +kernel
theorem dL_law_762 : decode cL_law 762 = .ok (.iload_n 3, 1) := by decide +kernel
theorem dL_law_763 : decode cL_law 763 = .ok (.iconst 2, 1) := by decide +kernel
theorem dL_law_764 : decode cL_law 764 = .ok (.iadd, 1) := by decide +kernel
theorem dL_law_765 : decode cL_law 765 = .ok (.iaload, 1) := by decide +kernel
theorem dL_law_766 : decode cL_law 766 = .ok (.aload_n 0, 1) := by decide +kernel
theorem dL_law_767 : decode cL_law 767 = .ok (.iload_n 3, 1) := by decide +kernel
theorem dL_law_768 : decode cL_law 768 = .ok (.iconst 3, 1) := by decide +kernel
theorem dL_law_769 : decode cL_law 769 = .ok (.iadd, 1) := by decide +kernel
theorem dL_law_770 : decode cL_law 770 = .ok (.iaload, 1) := by decide +kernel
theorem dL_law_771 : decode cL_law 771 = .ok (.invokevirtual 85, 3) := by decide +kernel
theorem dL_law_774 : decode cL_law 774 = .ok (.if_icmp .eq 1060, 3) := by decide +kernel
theorem dL_law_777 : decode cL_law 777 = .ok (.iconst 0, 1) := by decide +kernel
theorem dL_law_778 : decode cL_law 778 = .ok (.ireturn, 1) := by decide +kernel
theorem dL_law_779 : decode cL_law 779 = .ok (.aload_n 1, 1) := by decide +kernel
theorem dL_law_780 : decode cL_law 780 = .ok (.aload_n 0, 1) := by decide +kernel
theorem dL_law_781 : decode cL_law 781 = .ok (.iload_n 3, 1) := by decide +kernel
theorem dL_law_782 : decode cL_law 782 = .ok (.iconst 1, 1) := by decide +kernel
theorem dL_law_783 : decode cL_law 783 = .ok (.iadd, 1) := by decide +kernel
theorem dL_law_784 : decode cL_law 784 = .ok (.iaload, 1) := by decide +kernel
theorem dL_law_785 : decode cL_law 785 = .ok (.aload_n 0, 1) := by decide +kernel
theorem dL_law_786 : decode cL_law 786 = .ok (.iload_n 3, 1) := by decide +kernel
theorem dL_law_787 : decode cL_law 787 = .ok (.iconst 2, 1) := by decide +kernel
theorem dL_law_788 : decode cL_law 788 = .ok (.iadd, 1) := by decide +kernel
theorem dL_law_789 : decode cL_law 789 = .ok (.iaload, 1) := by decide +kernel
theorem dL_law_790 : decode cL_law 790 = .ok (.invokevirtual 86, 3) := by decide +kernel
theorem dL_law_793 : decode cL_law 793 = .ok (.aload_n 2, 1) := by decide +kernel
theorem dL_law_794 : decode cL_law 794 = .ok (.aload_n 0, 1) := by decide +kernel
theorem dL_law_795 : decode cL_law 795 = .ok (.iload_n 3, 1) := by decide +kernel
theorem dL_law_796 : decode cL_law 796 = .ok (.iconst 1, 1) := by decide +kernel
theorem dL_law_797 : decode cL_law 797 = .ok (.iadd, 1) := by decide +kernel
theorem dL_law_798 : decode cL_law 798 = .ok (.iaload, 1) := by decide +kernel
theorem dL_law_799 : decode cL_law 799 = .ok (.aload_n 0, 1) := by decide +kernel
theorem dL_law_800 : decode cL_law 800 = .ok (.iload_n 3, 1) := by decide +kernel
theorem dL_law_801 : decode cL_law 801 = .ok (.iconst 2, 1) := by decide +kernel
theorem dL_law_802 : decode cL_law 802 = .ok (.iadd, 1) := by decide +kernel
theorem dL_law_803 : decode cL_law 803 = .ok (.iaload, 1) := by decide +kernel
theorem dL_law_804 : decode cL_law 804 = .ok (.invokevirtual 89, 3) := by decide +kernel
theorem dL_law_807 : decode cL_law 807 = .ok (.if_icmp .eq 1027, 3) := by decide +kernel
theorem dL_law_810 : decode cL_law 810 = .ok (.iconst 0, 1) := by decide +kernel
theorem dL_law_811 : decode cL_law 811 = .ok (.ireturn, 1) := by decide +kernel
theorem dL_law_812 : decode cL_law 812 = .ok (.aload_n 1, 1) := by decide +kernel
theorem dL_law_813 : decode cL_law 813 = .ok (.invokevirtual 90, 3) := by decide +kernel
theorem dL_law_816 : decode cL_law 816 = .ok (.aload_n 2, 1) := by decide +kernel
theorem dL_law_817 : decode cL_law 817 = .ok (.invokevirtual 93, 3) := by decide +kernel
theorem dL_law_820 : decode cL_law 820 = .ok (.if_icmp .eq 1014, 3) := by decide +kernel
theorem dL_law_823 : decode cL_law 823 = .ok (.iconst 0, 1) := by decide +kernel
theorem dL_law_824 : decode cL_law 824 = .ok (.ireturn, 1) := by decide +kernel
theorem dL_law_825 : decode cL_law 825 = .ok (.aload_n 1, 1) := by decide +kernel
theorem dL_law_826 : decode cL_law 826 = .ok (.invokevirtual 94, 3) := by decide +kernel
theorem dL_law_829 : decode cL_law 829 = .ok (.aload_n 2, 1) := by decide +kernel
theorem dL_law_830 : decode cL_law 830 = .ok (.invokevirtual 97, 3) := by decide +kernel
theorem dL_law_833 : decode cL_law 833 = .ok (.if_icmp .eq 1001, 3) := by decide +kernel
theorem dL_law_836 : decode cL_law 836 = .ok (.iconst 0, 1) := by decide +kernel
theorem dL_law_837 : decode cL_law 837 = .ok (.ireturn, 1) := by decide +kernel
theorem dL_law_838 : decode cL_law 838 = .ok (.aload_n 1, 1) := by decide +kernel
theorem dL_law_839 : decode cL_law 839 = .ok (.aload_n 0, 1) := by decide +kernel
theorem dL_law_840 : decode cL_law 840 = .ok (.iload_n 3, 1) := by decide +kernel
theorem dL_law_841 : decode cL_law 841 = .ok (.iconst 1, 1) := by decide +kernel
theorem dL_law_842 : decode cL_law 842 = .ok (.iadd, 1) := by decide +kernel
theorem dL_law_843 : decode cL_law 843 = .ok (.iaload, 1) := by decide +kernel
theorem dL_law_844 : decode cL_law 844 = .ok (.invokevirtual 98, 3) := by decide +kernel
theorem dL_law_847 : decode cL_law 847 = .ok (.aload_n 2, 1) := by decide +kernel
theorem dL_law_848 : decode cL_law 848 = .ok (.aload_n 0, 1) := by decide +kernel
theorem dL_law_849 : decode cL_law 849 = .ok (.iload_n 3, 1) := by decide +kernel
theorem dL_law_850 : decode cL_law 850 = .ok (.iconst 1, 1) := by decide +kernel
theorem dL_law_851 : decode cL_law 851 = .ok (.iadd, 1) := by decide +kernel
theorem dL_law_852 : decode cL_law 852 = .ok (.iaload, 1) := by decide +kernel
theorem dL_law_853 : decode cL_law 853 = .ok (.invokevirtual 101, 3) := by decide +kernel
theorem dL_law_856 : decode cL_law 856 = .ok (.if_icmp .eq 978, 3) := by decide +kernel
theorem dL_law_859 : decode cL_law 859 = .ok (.iconst 0, 1) := by decide +kernel
theorem dL_law_860 : decode cL_law 860 = .ok (.ireturn, 1) := by decide +kernel
theorem dL_law_861 : decode cL_law 861 = .ok (.aload_n 1, 1) := by decide +kernel
theorem dL_law_862 : decode cL_law 862 = .ok (.aload_n 0, 1) := by decide +kernel
theorem dL_law_863 : decode cL_law 863 = .ok (.iload_n 3, 1) := by decide +kernel
theorem dL_law_864 : decode cL_law 864 = .ok (.iconst 1, 1) := by decide +kernel
theorem dL_law_865 : decode cL_law 865 = .ok (.iadd, 1) := by decide +kernel
theorem dL_law_866 : decode cL_law 866 = .ok (.iaload, 1) := by decide +kernel
theorem dL_law_867 : decode cL_law 867 = .ok (.invokevirtual 102, 3) := by decide +kernel
theorem dL_law_870 : decode cL_law 870 = .ok (.aload_n 2, 1) := by decide +kernel
theorem dL_law_871 : decode cL_law 871 = .ok (.aload_n 0, 1) := by decide +kernel
theorem dL_law_872 : decode cL_law 872 = .ok (.iload_n 3, 1) := by decide +kernel
theorem dL_law_873 : decode cL_law 873 = .ok (.iconst 1, 1) := by decide +kernel
theorem dL_law_874 : decode cL_law 874 = .ok (.iadd, 1) := by decide +kernel
theorem dL_law_875 : decode cL_law 875 = .ok (.iaload, 1) := by decide +kernel
theorem dL_law_876 : decode cL_law 876 = .ok (.invokevirtual 105, 3) := by decide +kernel
theorem dL_law_879 : decode cL_law 879 = .ok (.if_icmp .eq 955, 3) := by decide +kernel
theorem dL_law_882 : decode cL_law 882 = .ok (.iconst 0, 1) := by decide +kernel
theorem dL_law_883 : decode cL_law 883 = .ok (.ireturn, 1) := by decide +kernel
theorem dL_law_884 : decode cL_law 884 = .ok (.aload_n 1, 1) := by decide +kernel
theorem dL_law_885 : decode cL_law 885 = .ok (.aload_n 0, 1) := by decide +kernel
theorem dL_law_886 : decode cL_law 886 = .ok (.iload_n 3, 1) := by decide +kernel
theorem dL_law_887 : decode cL_law 887 = .ok (.iconst 1, 1) := by decide +kernel
theorem dL_law_888 : decode cL_law 888 = .ok (.iadd, 1) := by decide +kernel
theorem dL_law_889 : decode cL_law 889 = .ok (.iaload, 1) := by decide +kernel
theorem dL_law_890 : decode cL_law 890 = .ok (.aload_n 0, 1) := by decide +kernel
theorem dL_law_891 : decode cL_law 891 = .ok (.iload_n 3, 1) := by decide +kernel
theorem dL_law_892 : decode cL_law 892 = .ok (.iconst 2, 1) := by decide +kernel
theorem dL_law_893 : decode cL_law 893 = .ok (.iadd, 1) := by decide +kernel
theorem dL_law_894 : decode cL_law 894 = .ok (.iaload, 1) := by decide +kernel
theorem dL_law_895 : decode cL_law 895 = .ok (.invokevirtual 106, 3) := by decide +kernel
theorem dL_law_898 : decode cL_law 898 = .ok (.aload_n 2, 1) := by decide +kernel
theorem dL_law_899 : decode cL_law 899 = .ok (.aload_n 0, 1) := by decide +kernel
theorem dL_law_900 : decode cL_law 900 = .ok (.iload_n 3, 1) := by decide +kernel
theorem dL_law_901 : decode cL_law 901 = .ok (.iconst 1, 1) := by decide +kernel
theorem dL_law_902 : decode cL_law 902 = .ok (.iadd, 1) := by decide +kernel
theorem dL_law_903 : decode cL_law 903 = .ok (.iaload, 1) := by decide +kernel
theorem dL_law_904 : decode cL_law 904 = .ok (.aload_n 0, 1) := by decide +kernel
theorem dL_law_905 : decode cL_law 905 = .ok (.iload_n 3, 1) := by decide +kernel
theorem dL_law_906 : decode cL_law 906 = .ok (.iconst 2, 1) := by decide +kernel
theorem dL_law_907 : decode cL_law 907 = .ok (.iadd, 1) := by decide +kernel
theorem dL_law_908 : decode cL_law 908 = .ok (.iaload, 1) := by decide +kernel
theorem dL_law_909 : decode cL_law 909 = .ok (.invokevirtual 109, 3) := by decide +kernel
theorem dL_law_912 : decode cL_law 912 = .ok (.if_icmp .eq 922, 3) := by decide +kernel
theorem dL_law_915 : decode cL_law 915 = .ok (.iconst 0, 1) := by decide +kernel
theorem dL_law_916 : decode cL_law 916 = .ok (.ireturn, 1) := by decide +kernel
theorem dL_law_917 : decode cL_law 917 = .ok (.aload_n 1, 1) := by decide +kernel
theorem dL_law_918 : decode cL_law 918 = .ok (.aload_n 0, 1) := by decide +kernel
theorem dL_law_919 : decode cL_law 919 = .ok (.iload_n 3, 1) := by decide +kernel
theorem dL_law_920 : decode cL_law 920 = .ok (.iconst 1, 1) := by decide +kernel
theorem dL_law_921 : decode cL_law 921 = .ok (.iadd, 1) := by decide +kernel
theorem dL_law_922 : decode cL_law 922 = .ok (.iaload, 1) := by decide +kernel
theorem dL_law_923 : decode cL_law 923 = .ok (.aload_n 0, 1) := by decide +kernel
theorem dL_law_924 : decode cL_law 924 = .ok (.iload_n 3, 1) := by decide +kernel
theorem dL_law_925 : decode cL_law 925 = .ok (.iconst 2, 1) := by decide +kernel
theorem dL_law_926 : decode cL_law 926 = .ok (.iadd, 1) := by decide +kernel
theorem dL_law_927 : decode cL_law 927 = .ok (.iaload, 1) := by decide +kernel
theorem dL_law_928 : decode cL_law 928 = .ok (.invokevirtual 110, 3) := by decide +kernel
theorem dL_law_931 : decode cL_law 931 = .ok (.aload_n 2, 1) := by decide +kernel
theorem dL_law_932 : decode cL_law 932 = .ok (.aload_n 0, 1) := by decide +kernel
theorem dL_law_933 : decode cL_law 933 = .ok (.iload_n 3, 1) := by decide +kernel
theorem dL_law_934 : decode cL_law 934 = .ok (.iconst 1, 1) := by decide +kernel
theorem dL_law_935 : decode cL_law 935 = .ok (.iadd, 1) := by decide +kernel
theorem dL_law_936 : decode cL_law 936 = .ok (.iaload, 1) := by decide +kernel
theorem dL_law_937 : decode cL_law 937 = .ok (.aload_n 0, 1) := by decide +kernel
theorem dL_law_938 : decode cL_law 938 = .ok (.iload_n 3, 1) := by decide +kernel
theorem dL_law_939 : decode cL_law 939 = .ok (.iconst 2, 1) := by decide +kernel
theorem dL_law_940 : decode cL_law 940 = .ok (.iadd, 1) := by decide +kernel
theorem dL_law_941 : decode cL_law 941 = .ok (.iaload, 1) := by decide +kernel
theorem dL_law_942 : decode cL_law 942 = .ok (.invokevirtual 113, 3) := by decide +kernel
theorem dL_law_945 : decode cL_law 945 = .ok (.if_icmp .eq 889, 3) := by decide +kernel
theorem dL_law_948 : decode cL_law 948 = .ok (.iconst 0, 1) := by decide +kernel
theorem dL_law_949 : decode cL_law 949 = .ok (.ireturn, 1) := by decide +kernel
theorem dL_law_950 : decode cL_law 950 = .ok (.aload_n 1, 1) := by decide +kernel
theorem dL_law_951 : decode cL_law 951 = .ok (.aload_n 0, 1) := by decide +kernel
theorem dL_law_952 : decode cL_law 952 = .ok (.iload_n 3, 1) := by decide +kernel
theorem dL_law_953 : decode cL_law 953 = .ok (.iconst 1, 1) := by decide +kernel
theorem dL_law_954 : decode cL_law 954 = .ok (.iadd, 1) := by decide +kernel
theorem dL_law_955 : decode cL_law 955 = .ok (.iaload, 1) := by decide +kernel
theorem dL_law_956 : decode cL_law 956 = .ok (.aload_n 0, 1) := by decide +kernel
theorem dL_law_957 : decode cL_law 957 = .ok (.iload_n 3, 1) := by decide +kernel
theorem dL_law_958 : decode cL_law 958 = .ok (.iconst 2, 1) := by decide +kernel
theorem dL_law_959 : decode cL_law 959 = .ok (.iadd, 1) := by decide +kernel
theorem dL_law_960 : decode cL_law 960 = .ok (.iaload, 1) := by decide +kernel
theorem dL_law_961 : decode cL_law 961 = .ok (.invokevirtual 114, 3) := by decide +kernel
theorem dL_law_964 : decode cL_law 964 = .ok (.aload_n 2, 1) := by decide +kernel
theorem dL_law_965 : decode cL_law 965 = .ok (.aload_n 0, 1) := by decide +kernel
theorem dL_law_966 : decode cL_law 966 = .ok (.iload_n 3, 1) := by decide +kernel
theorem dL_law_967 : decode cL_law 967 = .ok (.iconst 1, 1) := by decide +kernel
theorem dL_law_968 : decode cL_law 968 = .ok (.iadd, 1) := by decide +kernel
theorem dL_law_969 : decode cL_law 969 = .ok (.iaload, 1) := by decide +kernel
theorem dL_law_970 : decode cL_law 970 = .ok (.aload_n 0, 1) := by decide +kernel
theorem dL_law_971 : decode cL_law 971 = .ok (.iload_n 3, 1) := by decide +kernel
theorem dL_law_972 : decode cL_law 972 = .ok (.iconst 2, 1) := by decide +kernel
theorem dL_law_973 : decode cL_law 973 = .ok (.iadd, 1) := by decide +kernel
theorem dL_law_974 : decode cL_law 974 = .ok (.iaload, 1) := by decide +kernel
theorem dL_law_975 : decode cL_law 975 = .ok (.invokevirtual 117, 3) := by decide +kernel
theorem dL_law_978 : decode cL_law 978 = .ok (.if_icmp .eq 856, 3) := by decide +kernel
theorem dL_law_981 : decode cL_law 981 = .ok (.iconst 0, 1) := by decide +kernel
theorem dL_law_982 : decode cL_law 982 = .ok (.ireturn, 1) := by decide +kernel
theorem dL_law_983 : decode cL_law 983 = .ok (.aload_n 1, 1) := by decide +kernel
theorem dL_law_984 : decode cL_law 984 = .ok (.aload_n 0, 1) := by decide +kernel
theorem dL_law_985 : decode cL_law 985 = .ok (.iload_n 3, 1) := by decide +kernel
theorem dL_law_986 : decode cL_law 986 = .ok (.iconst 1, 1) := by decide +kernel
theorem dL_law_987 : decode cL_law 987 = .ok (.iadd, 1) := by decide +kernel
theorem dL_law_988 : decode cL_law 988 = .ok (.iaload, 1) := by decide +kernel
theorem dL_law_989 : decode cL_law 989 = .ok (.aload_n 0, 1) := by decide +kernel
theorem dL_law_990 : decode cL_law 990 = .ok (.iload_n 3, 1) := by decide +kernel
theorem dL_law_991 : decode cL_law 991 = .ok (.iconst 2, 1) := by decide +kernel
theorem dL_law_992 : decode cL_law 992 = .ok (.iadd, 1) := by decide +kernel
theorem dL_law_993 : decode cL_law 993 = .ok (.iaload, 1) := by decide +kernel
theorem dL_law_994 : decode cL_law 994 = .ok (.invokevirtual 118, 3) := by decide +kernel
theorem dL_law_997 : decode cL_law 997 = .ok (.aload_n 2, 1) := by decide +kernel
theorem dL_law_998 : decode cL_law 998 = .ok (.aload_n 0, 1) := by decide +kernel
theorem dL_law_999 : decode cL_law 999 = .ok (.iload_n 3, 1) := by decide +kernel
theorem dL_law_1000 : decode cL_law 1000 = .ok (.iconst 1, 1) := by decide +kernel
theorem dL_law_1001 : decode cL_law 1001 = .ok (.iadd, 1) := by decide +kernel
theorem dL_law_1002 : decode cL_law 1002 = .ok (.iaload, 1) := by decide +kernel
theorem dL_law_1003 : decode cL_law 1003 = .ok (.aload_n 0, 1) := by decide +kernel
theorem dL_law_1004 : decode cL_law 1004 = .ok (.iload_n 3, 1) := by decide +kernel
theorem dL_law_1005 : decode cL_law 1005 = .ok (.iconst 2, 1) := by decide +kernel
theorem dL_law_1006 : decode cL_law 1006 = .ok (.iadd, 1) := by decide +kernel
theorem dL_law_1007 : decode cL_law 1007 = .ok (.iaload, 1) := by decide +kernel
theorem dL_law_1008 : decode cL_law 1008 = .ok (.invokevirtual 121, 3) := by decide +kernel
theorem dL_law_1011 : decode cL_law 1011 = .ok (.if_icmp .eq 823, 3) := by decide +kernel
theorem dL_law_1014 : decode cL_law 1014 = .ok (.iconst 0, 1) := by decide +kernel
theorem dL_law_1015 : decode cL_law 1015 = .ok (.ireturn, 1) := by decide +kernel
theorem dL_law_1016 : decode cL_law 1016 = .ok (.aload_n 1, 1) := by decide +kernel
theorem dL_law_1017 : decode cL_law 1017 = .ok (.aload_n 0, 1) := by decide +kernel
theorem dL_law_1018 : decode cL_law 1018 = .ok (.iload_n 3, 1) := by decide +kernel
theorem dL_law_1019 : decode cL_law 1019 = .ok (.iconst 1, 1) := by decide +kernel
theorem dL_law_1020 : decode cL_law 1020 = .ok (.iadd, 1) := by decide +kernel
theorem dL_law_1021 : decode cL_law 1021 = .ok (.iaload, 1) := by decide +kernel
theorem dL_law_1022 : decode cL_law 1022 = .ok (.aload_n 0, 1) := by decide +kernel
theorem dL_law_1023 : decode cL_law 1023 = .ok (.iload_n 3, 1) := by decide +kernel
theorem dL_law_1024 : decode cL_law 1024 = .ok (.iconst 2, 1) := by decide +kernel
theorem dL_law_1025 : decode cL_law 1025 = .ok (.iadd, 1) := by decide +kernel
theorem dL_law_1026 : decode cL_law 1026 = .ok (.iaload, 1) := by decide +kernel
theorem dL_law_1027 : decode cL_law 1027 = .ok (.invokevirtual 122, 3) := by decide +kernel
theorem dL_law_1030 : decode cL_law 1030 = .ok (.aload_n 2, 1) := by decide +kernel
theorem dL_law_1031 : decode cL_law 1031 = .ok (.aload_n 0, 1) := by decide +kernel
theorem dL_law_1032 : decode cL_law 1032 = .ok (.iload_n 3, 1) := by decide +kernel
theorem dL_law_1033 : decode cL_law 1033 = .ok (.iconst 1, 1) := by decide +kernel
theorem dL_law_1034 : decode cL_law 1034 = .ok (.iadd, 1) := by decide +kernel
theorem dL_law_1035 : decode cL_law 1035 = .ok (.iaload, 1) := by decide +kernel
theorem dL_law_1036 : decode cL_law 1036 = .ok (.aload_n 0, 1) := by decide +kernel
theorem dL_law_1037 : decode cL_law 1037 = .ok (.iload_n 3, 1) := by decide +kernel
theorem dL_law_1038 : decode cL_law 1038 = .ok (.iconst 2, 1) := by decide +kernel
theorem dL_law_1039 : decode cL_law 1039 = .ok (.iadd, 1) := by decide +kernel
theorem dL_law_1040 : decode cL_law 1040 = .ok (.iaload, 1) := by decide +kernel
theorem dL_law_1041 : decode cL_law 1041 = .ok (.invokevirtual 125, 3) := by decide +kernel
theorem dL_law_1044 : decode cL_law 1044 = .ok (.if_icmp .eq 790, 3) := by decide +kernel
theorem dL_law_1047 : decode cL_law 1047 = .ok (.iconst 0, 1) := by decide +kernel
theorem dL_law_1048 : decode cL_law 1048 = .ok (.ireturn, 1) := by decide +kernel
theorem dL_law_1049 : decode cL_law 1049 = .ok (.aload_n 1, 1) := by decide +kernel
theorem dL_law_1050 : decode cL_law 1050 = .ok (.aload_n 0, 1) := by decide +kernel
theorem dL_law_1051 : decode cL_law 1051 = .ok (.iload_n 3, 1) := by decide +kernel
theorem dL_law_1052 : decode cL_law 1052 = .ok (.iconst 1, 1) := by decide +kernel
theorem dL_law_1053 : decode cL_law 1053 = .ok (.iadd, 1) := by decide +kernel
theorem dL_law_1054 : decode cL_law 1054 = .ok (.iaload, 1) := by decide +kernel
theorem dL_law_1055 : decode cL_law 1055 = .ok (.aload_n 0, 1) := by decide +kernel
theorem dL_law_1056 : decode cL_law 1056 = .ok (.iload_n 3, 1) := by decide +kernel
theorem dL_law_1057 : decode cL_law 1057 = .ok (.iconst 2, 1) := by decide +kernel
theorem dL_law_1058 : decode cL_law 1058 = .ok (.iadd, 1) := by decide +kernel
theorem dL_law_1059 : decode cL_law 1059 = .ok (.iaload, 1) := by decide +kernel
theorem dL_law_1060 : decode cL_law 1060 = .ok (.invokevirtual 126, 3) := by decide +kernel
theorem dL_law_1063 : decode cL_law 1063 = .ok (.aload_n 2, 1) := by decide +kernel
theorem dL_law_1064 : decode cL_law 1064 = .ok (.aload_n 0, 1) := by decide +kernel
theorem dL_law_1065 : decode cL_law 1065 = .ok (.iload_n 3, 1) := by decide +kernel
theorem dL_law_1066 : decode cL_law 1066 = .ok (.iconst 1, 1) := by decide +kernel
theorem dL_law_1067 : decode cL_law 1067 = .ok (.iadd, 1) := by decide +kernel
theorem dL_law_1068 : decode cL_law 1068 = .ok (.iaload, 1) := by decide +kernel
theorem dL_law_1069 : decode cL_law 1069 = .ok (.aload_n 0, 1) := by decide +kernel
theorem dL_law_1070 : decode cL_law 1070 = .ok (.iload_n 3, 1) := by decide +kernel
theorem dL_law_1071 : decode cL_law 1071 = .ok (.iconst 2, 1) := by decide +kernel
theorem dL_law_1072 : decode cL_law 1072 = .ok (.iadd, 1) := by decide +kernel
theorem dL_law_1073 : decode cL_law 1073 = .ok (.iaload, 1) := by decide +kernel
theorem dL_law_1074 : decode cL_law 1074 = .ok (.invokevirtual 129, 3) := by decide +kernel
theorem dL_law_1077 : decode cL_law 1077 = .ok (.if_icmp .eq 757, 3) := by decide +kernel
theorem dL_law_1080 : decode cL_law 1080 = .ok (.iconst 0, 1) := by decide +kernel
theorem dL_law_1081 : decode cL_law 1081 = .ok (.ireturn, 1) := by decide +kernel
theorem dL_law_1082 : decode cL_law 1082 = .ok (.aload_n 1, 1) := by decide +kernel
theorem dL_law_1083 : decode cL_law 1083 = .ok (.aload_n 0, 1) := by decide +kernel
theorem dL_law_1084 : decode cL_law 1084 = .ok (.iload_n 3, 1) := by decide +kernel
theorem dL_law_1085 : decode cL_law 1085 = .ok (.iconst 1, 1) := by decide +kernel
theorem dL_law_1086 : decode cL_law 1086 = .ok (.iadd, 1) := by decide +kernel
theorem dL_law_1087 : decode cL_law 1087 = .ok (.iaload, 1) := by decide +kernel
theorem dL_law_1088 : decode cL_law 1088 = .ok (.aload_n 0, 1) := by decide +kernel
theorem dL_law_1089 : decode cL_law 1089 = .ok (.iload_n 3, 1) := by decide +kernel
theorem dL_law_1090 : decode cL_law 1090 = .ok (.iconst 2, 1) := by decide +kernel
theorem dL_law_1091 : decode cL_law 1091 = .ok (.iadd, 1) := by decide +kernel
theorem dL_law_1092 : decode cL_law 1092 = .ok (.iaload, 1) := by decide +kernel
theorem dL_law_1093 : decode cL_law 1093 = .ok (.invokevirtual 130, 3) := by decide +kernel
theorem dL_law_1096 : decode cL_law 1096 = .ok (.aload_n 2, 1) := by decide +kernel
theorem dL_law_1097 : decode cL_law 1097 = .ok (.aload_n 0, 1) := by decide +kernel
theorem dL_law_1098 : decode cL_law 1098 = .ok (.iload_n 3, 1) := by decide +kernel
theorem dL_law_1099 : decode cL_law 1099 = .ok (.iconst 1, 1) := by decide +kernel
theorem dL_law_1100 : decode cL_law 1100 = .ok (.iadd, 1) := by decide +kernel
theorem dL_law_1101 : decode cL_law 1101 = .ok (.iaload, 1) := by decide +kernel
theorem dL_law_1102 : decode cL_law 1102 = .ok (.aload_n 0, 1) := by decide +kernel
theorem dL_law_1103 : decode cL_law 1103 = .ok (.iload_n 3, 1) := by decide +kernel
theorem dL_law_1104 : decode cL_law 1104 = .ok (.iconst 2, 1) := by decide +kernel
theorem dL_law_1105 : decode cL_law 1105 = .ok (.iadd, 1) := by decide +kernel
theorem dL_law_1106 : decode cL_law 1106 = .ok (.iaload, 1) := by decide +kernel
theorem dL_law_1107 : decode cL_law 1107 = .ok (.invokevirtual 133, 3) := by decide +kernel
theorem dL_law_1110 : decode cL_law 1110 = .ok (.if_icmp .eq 724, 3) := by decide +kernel
theorem dL_law_1113 : decode cL_law 1113 = .ok (.iconst 0, 1) := by decide +kernel
theorem dL_law_1114 : decode cL_law 1114 = .ok (.ireturn, 1) := by decide +kernel
theorem dL_law_1115 : decode cL_law 1115 = .ok (.aload_n 1, 1) := by decide +kernel
theorem dL_law_1116 : decode cL_law 1116 = .ok (.aload_n 0, 1) := by decide +kernel
theorem dL_law_1117 : decode cL_law 1117 = .ok (.iload_n 3, 1) := by decide +kernel
theorem dL_law_1118 : decode cL_law 1118 = .ok (.iconst 1, 1) := by decide +kernel
theorem dL_law_1119 : decode cL_law 1119 = .ok (.iadd, 1) := by decide +kernel
theorem dL_law_1120 : decode cL_law 1120 = .ok (.iaload, 1) := by decide +kernel
theorem dL_law_1121 : decode cL_law 1121 = .ok (.aload_n 0, 1) := by decide +kernel
theorem dL_law_1122 : decode cL_law 1122 = .ok (.iload_n 3, 1) := by decide +kernel
theorem dL_law_1123 : decode cL_law 1123 = .ok (.iconst 2, 1) := by decide +kernel
theorem dL_law_1124 : decode cL_law 1124 = .ok (.iadd, 1) := by decide +kernel
theorem dL_law_1125 : decode cL_law 1125 = .ok (.iaload, 1) := by decide +kernel
theorem dL_law_1126 : decode cL_law 1126 = .ok (.invokevirtual 134, 3) := by decide +kernel
theorem dL_law_1129 : decode cL_law 1129 = .ok (.aload_n 2, 1) := by decide +kernel
theorem dL_law_1130 : decode cL_law 1130 = .ok (.aload_n 0, 1) := by decide +kernel
theorem dL_law_1131 : decode cL_law 1131 = .ok (.iload_n 3, 1) := by decide +kernel
theorem dL_law_1132 : decode cL_law 1132 = .ok (.iconst 1, 1) := by decide +kernel
theorem dL_law_1133 : decode cL_law 1133 = .ok (.iadd, 1) := by decide +kernel
theorem dL_law_1134 : decode cL_law 1134 = .ok (.iaload, 1) := by decide +kernel
theorem dL_law_1135 : decode cL_law 1135 = .ok (.aload_n 0, 1) := by decide +kernel
theorem dL_law_1136 : decode cL_law 1136 = .ok (.iload_n 3, 1) := by decide +kernel
theorem dL_law_1137 : decode cL_law 1137 = .ok (.iconst 2, 1) := by decide +kernel
theorem dL_law_1138 : decode cL_law 1138 = .ok (.iadd, 1) := by decide +kernel
theorem dL_law_1139 : decode cL_law 1139 = .ok (.iaload, 1) := by decide +kernel
theorem dL_law_1140 : decode cL_law 1140 = .ok (.invokevirtual 137, 3) := by decide +kernel
theorem dL_law_1143 : decode cL_law 1143 = .ok (.if_icmp .eq 691, 3) := by decide +kernel
theorem dL_law_1146 : decode cL_law 1146 = .ok (.iconst 0, 1) := by decide +kernel
theorem dL_law_1147 : decode cL_law 1147 = .ok (.ireturn, 1) := by decide +kernel
theorem dL_law_1148 : decode cL_law 1148 = .ok (.aload_n 1, 1) := by decide +kernel
theorem dL_law_1149 : decode cL_law 1149 = .ok (.aload_n 0, 1) := by decide +kernel
theorem dL_law_1150 : decode cL_law 1150 = .ok (.iload_n 3, 1) := by decide +kernel
theorem dL_law_1151 : decode cL_law 1151 = .ok (.iconst 1, 1) := by decide +kernel
theorem dL_law_1152 : decode cL_law 1152 = .ok (.iadd, 1) := by decide +kernel
theorem dL_law_1153 : decode cL_law 1153 = .ok (.iaload, 1) := by decide +kernel
theorem dL_law_1154 : decode cL_law 1154 = .ok (.aload_n 0, 1) := by decide +kernel
theorem dL_law_1155 : decode cL_law 1155 = .ok (.iload_n 3, 1) := by decide +kernel
theorem dL_law_1156 : decode cL_law 1156 = .ok (.iconst 2, 1) := by decide +kernel
theorem dL_law_1157 : decode cL_law 1157 = .ok (.iadd, 1) := by decide +kernel
theorem dL_law_1158 : decode cL_law 1158 = .ok (.iaload, 1) := by decide +kernel
theorem dL_law_1159 : decode cL_law 1159 = .ok (.invokevirtual 138, 3) := by decide +kernel
theorem dL_law_1162 : decode cL_law 1162 = .ok (.aload_n 2, 1) := by decide +kernel
theorem dL_law_1163 : decode cL_law 1163 = .ok (.aload_n 0, 1) := by decide +kernel
theorem dL_law_1164 : decode cL_law 1164 = .ok (.iload_n 3, 1) := by decide +kernel
theorem dL_law_1165 : decode cL_law 1165 = .ok (.iconst 1, 1) := by decide +kernel
theorem dL_law_1166 : decode cL_law 1166 = .ok (.iadd, 1) := by decide +kernel
theorem dL_law_1167 : decode cL_law 1167 = .ok (.iaload, 1) := by decide +kernel
theorem dL_law_1168 : decode cL_law 1168 = .ok (.aload_n 0, 1) := by decide +kernel
theorem dL_law_1169 : decode cL_law 1169 = .ok (.iload_n 3, 1) := by decide +kernel
theorem dL_law_1170 : decode cL_law 1170 = .ok (.iconst 2, 1) := by decide +kernel
theorem dL_law_1171 : decode cL_law 1171 = .ok (.iadd, 1) := by decide +kernel
theorem dL_law_1172 : decode cL_law 1172 = .ok (.iaload, 1) := by decide +kernel
theorem dL_law_1173 : decode cL_law 1173 = .ok (.invokevirtual 141, 3) := by decide +kernel
theorem dL_law_1176 : decode cL_law 1176 = .ok (.if_icmp .eq 658, 3) := by decide +kernel
theorem dL_law_1179 : decode cL_law 1179 = .ok (.iconst 0, 1) := by decide +kernel
theorem dL_law_1180 : decode cL_law 1180 = .ok (.ireturn, 1) := by decide +kernel
theorem dL_law_1181 : decode cL_law 1181 = .ok (.aload_n 1, 1) := by decide +kernel
theorem dL_law_1182 : decode cL_law 1182 = .ok (.aload_n 0, 1) := by decide +kernel
theorem dL_law_1183 : decode cL_law 1183 = .ok (.iload_n 3, 1) := by decide +kernel
theorem dL_law_1184 : decode cL_law 1184 = .ok (.iconst 1, 1) := by decide +kernel
theorem dL_law_1185 : decode cL_law 1185 = .ok (.iadd, 1) := by decide +kernel
theorem dL_law_1186 : decode cL_law 1186 = .ok (.iaload, 1) := by decide +kernel
theorem dL_law_1187 : decode cL_law 1187 = .ok (.aload_n 0, 1) := by decide +kernel
theorem dL_law_1188 : decode cL_law 1188 = .ok (.iload_n 3, 1) := by decide +kernel
theorem dL_law_1189 : decode cL_law 1189 = .ok (.iconst 2, 1) := by decide +kernel
theorem dL_law_1190 : decode cL_law 1190 = .ok (.iadd, 1) := by decide +kernel
theorem dL_law_1191 : decode cL_law 1191 = .ok (.iaload, 1) := by decide +kernel
theorem dL_law_1192 : decode cL_law 1192 = .ok (.invokevirtual 142, 3) := by decide +kernel
theorem dL_law_1195 : decode cL_law 1195 = .ok (.aload_n 2, 1) := by decide +kernel
theorem dL_law_1196 : decode cL_law 1196 = .ok (.aload_n 0, 1) := by decide +kernel
theorem dL_law_1197 : decode cL_law 1197 = .ok (.iload_n 3, 1) := by decide +kernel
theorem dL_law_1198 : decode cL_law 1198 = .ok (.iconst 1, 1) := by decide +kernel
theorem dL_law_1199 : decode cL_law 1199 = .ok (.iadd, 1) := by decide +kernel
theorem dL_law_1200 : decode cL_law 1200 = .ok (.iaload, 1) := by decide +kernel
theorem dL_law_1201 : decode cL_law 1201 = .ok (.aload_n 0, 1) := by decide +kernel
theorem dL_law_1202 : decode cL_law 1202 = .ok (.iload_n 3, 1) := by decide +kernel
theorem dL_law_1203 : decode cL_law 1203 = .ok (.iconst 2, 1) := by decide +kernel
theorem dL_law_1204 : decode cL_law 1204 = .ok (.iadd, 1) := by decide +kernel
theorem dL_law_1205 : decode cL_law 1205 = .ok (.iaload, 1) := by decide +kernel
theorem dL_law_1206 : decode cL_law 1206 = .ok (.invokevirtual 145, 3) := by decide +kernel
theorem dL_law_1209 : decode cL_law 1209 = .ok (.if_icmp .eq 625, 3) := by decide +kernel
theorem dL_law_1212 : decode cL_law 1212 = .ok (.iconst 0, 1) := by decide +kernel
theorem dL_law_1213 : decode cL_law 1213 = .ok (.ireturn, 1) := by decide +kernel
theorem dL_law_1214 : decode cL_law 1214 = .ok (.aload_n 1, 1) := by decide +kernel
theorem dL_law_1215 : decode cL_law 1215 = .ok (.aload_n 0, 1) := by decide +kernel
theorem dL_law_1216 : decode cL_law 1216 = .ok (.iload_n 3, 1) := by decide +kernel
theorem dL_law_1217 : decode cL_law 1217 = .ok (.iconst 1, 1) := by decide +kernel
theorem dL_law_1218 : decode cL_law 1218 = .ok (.iadd, 1) := by decide +kernel
theorem dL_law_1219 : decode cL_law 1219 = .ok (.iaload, 1) := by decide +kernel
theorem dL_law_1220 : decode cL_law 1220 = .ok (.aload_n 0, 1) := by decide +kernel
theorem dL_law_1221 : decode cL_law 1221 = .ok (.iload_n 3, 1) := by decide +kernel
theorem dL_law_1222 : decode cL_law 1222 = .ok (.iconst 2, 1) := by decide +kernel
theorem dL_law_1223 : decode cL_law 1223 = .ok (.iadd, 1) := by decide +kernel
theorem dL_law_1224 : decode cL_law 1224 = .ok (.iaload, 1) := by decide +kernel
theorem dL_law_1225 : decode cL_law 1225 = .ok (.invokevirtual 146, 3) := by decide +kernel
theorem dL_law_1228 : decode cL_law 1228 = .ok (.aload_n 2, 1) := by decide +kernel
theorem dL_law_1229 : decode cL_law 1229 = .ok (.aload_n 0, 1) := by decide +kernel
theorem dL_law_1230 : decode cL_law 1230 = .ok (.iload_n 3, 1) := by decide +kernel
theorem dL_law_1231 : decode cL_law 1231 = .ok (.iconst 1, 1) := by decide +kernel
theorem dL_law_1232 : decode cL_law 1232 = .ok (.iadd, 1) := by decide +kernel
theorem dL_law_1233 : decode cL_law 1233 = .ok (.iaload, 1) := by decide +kernel
theorem dL_law_1234 : decode cL_law 1234 = .ok (.aload_n 0, 1) := by decide +kernel
theorem dL_law_1235 : decode cL_law 1235 = .ok (.iload_n 3, 1) := by decide +kernel
theorem dL_law_1236 : decode cL_law 1236 = .ok (.iconst 2, 1) := by decide +kernel
theorem dL_law_1237 : decode cL_law 1237 = .ok (.iadd, 1) := by decide +kernel
theorem dL_law_1238 : decode cL_law 1238 = .ok (.iaload, 1) := by decide +kernel
theorem dL_law_1239 : decode cL_law 1239 = .ok (.invokevirtual 149, 3) := by decide +kernel
theorem dL_law_1242 : decode cL_law 1242 = .ok (.if_icmp .eq 592, 3) := by decide +kernel
theorem dL_law_1245 : decode cL_law 1245 = .ok (.iconst 0, 1) := by decide +kernel
theorem dL_law_1246 : decode cL_law 1246 = .ok (.ireturn, 1) := by decide +kernel
theorem dL_law_1247 : decode cL_law 1247 = .ok (.aload_n 1, 1) := by decide +kernel
theorem dL_law_1248 : decode cL_law 1248 = .ok (.aload_n 0, 1) := by decide +kernel
theorem dL_law_1249 : decode cL_law 1249 = .ok (.iload_n 3, 1) := by decide +kernel
theorem dL_law_1250 : decode cL_law 1250 = .ok (.iconst 1, 1) := by decide +kernel
theorem dL_law_1251 : decode cL_law 1251 = .ok (.iadd, 1) := by decide +kernel
theorem dL_law_1252 : decode cL_law 1252 = .ok (.iaload, 1) := by decide +kernel
theorem dL_law_1253 : decode cL_law 1253 = .ok (.aload_n 0, 1) := by decide +kernel
theorem dL_law_1254 : decode cL_law 1254 = .ok (.iload_n 3, 1) := by decide +kernel
theorem dL_law_1255 : decode cL_law 1255 = .ok (.iconst 2, 1) := by decide +kernel
theorem dL_law_1256 : decode cL_law 1256 = .ok (.iadd, 1) := by decide +kernel
theorem dL_law_1257 : decode cL_law 1257 = .ok (.iaload, 1) := by decide +kernel
theorem dL_law_1258 : decode cL_law 1258 = .ok (.invokevirtual 150, 3) := by decide +kernel
theorem dL_law_1261 : decode cL_law 1261 = .ok (.aload_n 2, 1) := by decide +kernel
theorem dL_law_1262 : decode cL_law 1262 = .ok (.aload_n 0, 1) := by decide +kernel
theorem dL_law_1263 : decode cL_law 1263 = .ok (.iload_n 3, 1) := by decide +kernel
theorem dL_law_1264 : decode cL_law 1264 = .ok (.iconst 1, 1) := by decide +kernel
theorem dL_law_1265 : decode cL_law 1265 = .ok (.iadd, 1) := by decide +kernel
theorem dL_law_1266 : decode cL_law 1266 = .ok (.iaload, 1) := by decide +kernel
theorem dL_law_1267 : decode cL_law 1267 = .ok (.aload_n 0, 1) := by decide +kernel
theorem dL_law_1268 : decode cL_law 1268 = .ok (.iload_n 3, 1) := by decide +kernel
theorem dL_law_1269 : decode cL_law 1269 = .ok (.iconst 2, 1) := by decide +kernel
theorem dL_law_1270 : decode cL_law 1270 = .ok (.iadd, 1) := by decide +kernel
theorem dL_law_1271 : decode cL_law 1271 = .ok (.iaload, 1) := by decide +kernel
theorem dL_law_1272 : decode cL_law 1272 = .ok (.invokevirtual 154, 3) := by decide +kernel
theorem dL_law_1275 : decode cL_law 1275 = .ok (.lcmp, 1) := by decide +kernel
theorem dL_law_1276 : decode cL_law 1276 = .ok (.ifCond .eq 558, 3) := by decide +kernel
theorem dL_law_1279 : decode cL_law 1279 = .ok (.iconst 0, 1) := by decide +kernel
theorem dL_law_1280 : decode cL_law 1280 = .ok (.ireturn, 1) := by decide +kernel
theorem dL_law_1281 : decode cL_law 1281 = .ok (.aload_n 1, 1) := by decide +kernel
theorem dL_law_1282 : decode cL_law 1282 = .ok (.aload_n 0, 1) := by decide +kernel
theorem dL_law_1283 : decode cL_law 1283 = .ok (.iload_n 3, 1) := by decide +kernel
theorem dL_law_1284 : decode cL_law 1284 = .ok (.iconst 1, 1) := by decide +kernel
theorem dL_law_1285 : decode cL_law 1285 = .ok (.iadd, 1) := by decide +kernel
theorem dL_law_1286 : decode cL_law 1286 = .ok (.iaload, 1) := by decide +kernel
theorem dL_law_1287 : decode cL_law 1287 = .ok (.invokevirtual 155, 3) := by decide +kernel
theorem dL_law_1290 : decode cL_law 1290 = .ok (.aload_n 2, 1) := by decide +kernel
theorem dL_law_1291 : decode cL_law 1291 = .ok (.aload_n 0, 1) := by decide +kernel
theorem dL_law_1292 : decode cL_law 1292 = .ok (.iload_n 3, 1) := by decide +kernel
theorem dL_law_1293 : decode cL_law 1293 = .ok (.iconst 1, 1) := by decide +kernel
theorem dL_law_1294 : decode cL_law 1294 = .ok (.iadd, 1) := by decide +kernel
theorem dL_law_1295 : decode cL_law 1295 = .ok (.iaload, 1) := by decide +kernel
theorem dL_law_1296 : decode cL_law 1296 = .ok (.invokevirtual 158, 3) := by decide +kernel
theorem dL_law_1299 : decode cL_law 1299 = .ok (.if_icmp .eq 535, 3) := by decide +kernel
theorem dL_law_1302 : decode cL_law 1302 = .ok (.iconst 0, 1) := by decide +kernel
theorem dL_law_1303 : decode cL_law 1303 = .ok (.ireturn, 1) := by decide +kernel
theorem dL_law_1304 : decode cL_law 1304 = .ok (.aload_n 1, 1) := by decide +kernel
theorem dL_law_1305 : decode cL_law 1305 = .ok (.aload_n 0, 1) := by decide +kernel
theorem dL_law_1306 : decode cL_law 1306 = .ok (.iload_n 3, 1) := by decide +kernel
theorem dL_law_1307 : decode cL_law 1307 = .ok (.iconst 1, 1) := by decide +kernel
theorem dL_law_1308 : decode cL_law 1308 = .ok (.iadd, 1) := by decide +kernel
theorem dL_law_1309 : decode cL_law 1309 = .ok (.iaload, 1) := by decide +kernel
theorem dL_law_1310 : decode cL_law 1310 = .ok (.aload_n 0, 1) := by decide +kernel
theorem dL_law_1311 : decode cL_law 1311 = .ok (.iload_n 3, 1) := by decide +kernel
theorem dL_law_1312 : decode cL_law 1312 = .ok (.iconst 2, 1) := by decide +kernel
theorem dL_law_1313 : decode cL_law 1313 = .ok (.iadd, 1) := by decide +kernel
theorem dL_law_1314 : decode cL_law 1314 = .ok (.iaload, 1) := by decide +kernel
theorem dL_law_1315 : decode cL_law 1315 = .ok (.invokevirtual 159, 3) := by decide +kernel
theorem dL_law_1318 : decode cL_law 1318 = .ok (.aload_n 2, 1) := by decide +kernel
theorem dL_law_1319 : decode cL_law 1319 = .ok (.aload_n 0, 1) := by decide +kernel
theorem dL_law_1320 : decode cL_law 1320 = .ok (.iload_n 3, 1) := by decide +kernel
theorem dL_law_1321 : decode cL_law 1321 = .ok (.iconst 1, 1) := by decide +kernel
theorem dL_law_1322 : decode cL_law 1322 = .ok (.iadd, 1) := by decide +kernel
theorem dL_law_1323 : decode cL_law 1323 = .ok (.iaload, 1) := by decide +kernel
theorem dL_law_1324 : decode cL_law 1324 = .ok (.aload_n 0, 1) := by decide +kernel
theorem dL_law_1325 : decode cL_law 1325 = .ok (.iload_n 3, 1) := by decide +kernel
theorem dL_law_1326 : decode cL_law 1326 = .ok (.iconst 2, 1) := by decide +kernel
theorem dL_law_1327 : decode cL_law 1327 = .ok (.iadd, 1) := by decide +kernel
theorem dL_law_1328 : decode cL_law 1328 = .ok (.iaload, 1) := by decide +kernel
theorem dL_law_1329 : decode cL_law 1329 = .ok (.invokevirtual 162, 3) := by decide +kernel
theorem dL_law_1332 : decode cL_law 1332 = .ok (.if_icmp .eq 502, 3) := by decide +kernel
theorem dL_law_1335 : decode cL_law 1335 = .ok (.iconst 0, 1) := by decide +kernel
theorem dL_law_1336 : decode cL_law 1336 = .ok (.ireturn, 1) := by decide +kernel
theorem dL_law_1337 : decode cL_law 1337 = .ok (.aload_n 1, 1) := by decide +kernel
theorem dL_law_1338 : decode cL_law 1338 = .ok (.aload_n 0, 1) := by decide +kernel
theorem dL_law_1339 : decode cL_law 1339 = .ok (.iload_n 3, 1) := by decide +kernel
theorem dL_law_1340 : decode cL_law 1340 = .ok (.iconst 1, 1) := by decide +kernel
theorem dL_law_1341 : decode cL_law 1341 = .ok (.iadd, 1) := by decide +kernel
theorem dL_law_1342 : decode cL_law 1342 = .ok (.iaload, 1) := by decide +kernel
theorem dL_law_1343 : decode cL_law 1343 = .ok (.invokevirtual 163, 3) := by decide +kernel
theorem dL_law_1346 : decode cL_law 1346 = .ok (.aload_n 2, 1) := by decide +kernel
theorem dL_law_1347 : decode cL_law 1347 = .ok (.aload_n 0, 1) := by decide +kernel
theorem dL_law_1348 : decode cL_law 1348 = .ok (.iload_n 3, 1) := by decide +kernel
theorem dL_law_1349 : decode cL_law 1349 = .ok (.iconst 1, 1) := by decide +kernel
theorem dL_law_1350 : decode cL_law 1350 = .ok (.iadd, 1) := by decide +kernel
theorem dL_law_1351 : decode cL_law 1351 = .ok (.iaload, 1) := by decide +kernel
theorem dL_law_1352 : decode cL_law 1352 = .ok (.invokevirtual 166, 3) := by decide +kernel
theorem dL_law_1355 : decode cL_law 1355 = .ok (.if_icmp .eq 479, 3) := by decide +kernel
theorem dL_law_1358 : decode cL_law 1358 = .ok (.iconst 0, 1) := by decide +kernel
theorem dL_law_1359 : decode cL_law 1359 = .ok (.ireturn, 1) := by decide +kernel
theorem dL_law_1360 : decode cL_law 1360 = .ok (.aload_n 1, 1) := by decide +kernel
theorem dL_law_1361 : decode cL_law 1361 = .ok (.aload_n 0, 1) := by decide +kernel
theorem dL_law_1362 : decode cL_law 1362 = .ok (.iload_n 3, 1) := by decide +kernel
theorem dL_law_1363 : decode cL_law 1363 = .ok (.iconst 1, 1) := by decide +kernel
theorem dL_law_1364 : decode cL_law 1364 = .ok (.iadd, 1) := by decide +kernel
theorem dL_law_1365 : decode cL_law 1365 = .ok (.iaload, 1) := by decide +kernel
theorem dL_law_1366 : decode cL_law 1366 = .ok (.invokevirtual 167, 3) := by decide +kernel
theorem dL_law_1369 : decode cL_law 1369 = .ok (.aload_n 2, 1) := by decide +kernel
theorem dL_law_1370 : decode cL_law 1370 = .ok (.aload_n 0, 1) := by decide +kernel
theorem dL_law_1371 : decode cL_law 1371 = .ok (.iload_n 3, 1) := by decide +kernel
theorem dL_law_1372 : decode cL_law 1372 = .ok (.iconst 1, 1) := by decide +kernel
theorem dL_law_1373 : decode cL_law 1373 = .ok (.iadd, 1) := by decide +kernel
theorem dL_law_1374 : decode cL_law 1374 = .ok (.iaload, 1) := by decide +kernel
theorem dL_law_1375 : decode cL_law 1375 = .ok (.invokevirtual 170, 3) := by decide +kernel
theorem dL_law_1378 : decode cL_law 1378 = .ok (.if_icmp .eq 456, 3) := by decide +kernel
theorem dL_law_1381 : decode cL_law 1381 = .ok (.iconst 0, 1) := by decide +kernel
theorem dL_law_1382 : decode cL_law 1382 = .ok (.ireturn, 1) := by decide +kernel
theorem dL_law_1383 : decode cL_law 1383 = .ok (.aload_n 1, 1) := by decide +kernel
theorem dL_law_1384 : decode cL_law 1384 = .ok (.aload_n 0, 1) := by decide +kernel
theorem dL_law_1385 : decode cL_law 1385 = .ok (.iload_n 3, 1) := by decide +kernel
theorem dL_law_1386 : decode cL_law 1386 = .ok (.iconst 1, 1) := by decide +kernel
theorem dL_law_1387 : decode cL_law 1387 = .ok (.iadd, 1) := by decide +kernel
theorem dL_law_1388 : decode cL_law 1388 = .ok (.iaload, 1) := by decide +kernel
theorem dL_law_1389 : decode cL_law 1389 = .ok (.aload_n 0, 1) := by decide +kernel
theorem dL_law_1390 : decode cL_law 1390 = .ok (.iload_n 3, 1) := by decide +kernel
theorem dL_law_1391 : decode cL_law 1391 = .ok (.iconst 2, 1) := by decide +kernel
theorem dL_law_1392 : decode cL_law 1392 = .ok (.iadd, 1) := by decide +kernel
theorem dL_law_1393 : decode cL_law 1393 = .ok (.iaload, 1) := by decide +kernel
theorem dL_law_1394 : decode cL_law 1394 = .ok (.invokevirtual 171, 3) := by decide +kernel
theorem dL_law_1397 : decode cL_law 1397 = .ok (.aload_n 2, 1) := by decide +kernel
theorem dL_law_1398 : decode cL_law 1398 = .ok (.aload_n 0, 1) := by decide +kernel
theorem dL_law_1399 : decode cL_law 1399 = .ok (.iload_n 3, 1) := by decide +kernel
theorem dL_law_1400 : decode cL_law 1400 = .ok (.iconst 1, 1) := by decide +kernel
theorem dL_law_1401 : decode cL_law 1401 = .ok (.iadd, 1) := by decide +kernel
theorem dL_law_1402 : decode cL_law 1402 = .ok (.iaload, 1) := by decide +kernel
theorem dL_law_1403 : decode cL_law 1403 = .ok (.aload_n 0, 1) := by decide +kernel
theorem dL_law_1404 : decode cL_law 1404 = .ok (.iload_n 3, 1) := by decide +kernel
theorem dL_law_1405 : decode cL_law 1405 = .ok (.iconst 2, 1) := by decide +kernel
theorem dL_law_1406 : decode cL_law 1406 = .ok (.iadd, 1) := by decide +kernel
theorem dL_law_1407 : decode cL_law 1407 = .ok (.iaload, 1) := by decide +kernel
theorem dL_law_1408 : decode cL_law 1408 = .ok (.invokevirtual 174, 3) := by decide +kernel
theorem dL_law_1411 : decode cL_law 1411 = .ok (.if_icmp .eq 423, 3) := by decide +kernel
theorem dL_law_1414 : decode cL_law 1414 = .ok (.iconst 0, 1) := by decide +kernel
theorem dL_law_1415 : decode cL_law 1415 = .ok (.ireturn, 1) := by decide +kernel
theorem dL_law_1416 : decode cL_law 1416 = .ok (.aload_n 1, 1) := by decide +kernel
theorem dL_law_1417 : decode cL_law 1417 = .ok (.invokevirtual 175, 3) := by decide +kernel
theorem dL_law_1420 : decode cL_law 1420 = .ok (.aload_n 2, 1) := by decide +kernel
theorem dL_law_1421 : decode cL_law 1421 = .ok (.invokevirtual 178, 3) := by decide +kernel
theorem dL_law_1424 : decode cL_law 1424 = .ok (.if_icmp .eq 410, 3) := by decide +kernel
theorem dL_law_1427 : decode cL_law 1427 = .ok (.iconst 0, 1) := by decide +kernel
theorem dL_law_1428 : decode cL_law 1428 = .ok (.ireturn, 1) := by decide +kernel
theorem dL_law_1429 : decode cL_law 1429 = .ok (.aload_n 1, 1) := by decide +kernel
theorem dL_law_1430 : decode cL_law 1430 = .ok (.aload_n 0, 1) := by decide +kernel
theorem dL_law_1431 : decode cL_law 1431 = .ok (.iload_n 3, 1) := by decide +kernel
theorem dL_law_1432 : decode cL_law 1432 = .ok (.iconst 1, 1) := by decide +kernel
theorem dL_law_1433 : decode cL_law 1433 = .ok (.iadd, 1) := by decide +kernel
theorem dL_law_1434 : decode cL_law 1434 = .ok (.iaload, 1) := by decide +kernel
theorem dL_law_1435 : decode cL_law 1435 = .ok (.aload_n 0, 1) := by decide +kernel
theorem dL_law_1436 : decode cL_law 1436 = .ok (.iload_n 3, 1) := by decide +kernel
theorem dL_law_1437 : decode cL_law 1437 = .ok (.iconst 2, 1) := by decide +kernel
theorem dL_law_1438 : decode cL_law 1438 = .ok (.iadd, 1) := by decide +kernel
theorem dL_law_1439 : decode cL_law 1439 = .ok (.iaload, 1) := by decide +kernel
theorem dL_law_1440 : decode cL_law 1440 = .ok (.invokevirtual 179, 3) := by decide +kernel
theorem dL_law_1443 : decode cL_law 1443 = .ok (.aload_n 2, 1) := by decide +kernel
theorem dL_law_1444 : decode cL_law 1444 = .ok (.aload_n 0, 1) := by decide +kernel
theorem dL_law_1445 : decode cL_law 1445 = .ok (.iload_n 3, 1) := by decide +kernel
theorem dL_law_1446 : decode cL_law 1446 = .ok (.iconst 1, 1) := by decide +kernel
theorem dL_law_1447 : decode cL_law 1447 = .ok (.iadd, 1) := by decide +kernel
theorem dL_law_1448 : decode cL_law 1448 = .ok (.iaload, 1) := by decide +kernel
theorem dL_law_1449 : decode cL_law 1449 = .ok (.aload_n 0, 1) := by decide +kernel
theorem dL_law_1450 : decode cL_law 1450 = .ok (.iload_n 3, 1) := by decide +kernel
theorem dL_law_1451 : decode cL_law 1451 = .ok (.iconst 2, 1) := by decide +kernel
theorem dL_law_1452 : decode cL_law 1452 = .ok (.iadd, 1) := by decide +kernel
theorem dL_law_1453 : decode cL_law 1453 = .ok (.iaload, 1) := by decide +kernel
theorem dL_law_1454 : decode cL_law 1454 = .ok (.invokevirtual 182, 3) := by decide +kernel
theorem dL_law_1457 : decode cL_law 1457 = .ok (.if_icmp .eq 377, 3) := by decide +kernel
theorem dL_law_1460 : decode cL_law 1460 = .ok (.iconst 0, 1) := by decide +kernel
theorem dL_law_1461 : decode cL_law 1461 = .ok (.ireturn, 1) := by decide +kernel
theorem dL_law_1462 : decode cL_law 1462 = .ok (.aload_n 1, 1) := by decide +kernel
theorem dL_law_1463 : decode cL_law 1463 = .ok (.aload_n 0, 1) := by decide +kernel
theorem dL_law_1464 : decode cL_law 1464 = .ok (.iload_n 3, 1) := by decide +kernel
theorem dL_law_1465 : decode cL_law 1465 = .ok (.iconst 1, 1) := by decide +kernel
theorem dL_law_1466 : decode cL_law 1466 = .ok (.iadd, 1) := by decide +kernel
theorem dL_law_1467 : decode cL_law 1467 = .ok (.iaload, 1) := by decide +kernel
theorem dL_law_1468 : decode cL_law 1468 = .ok (.invokevirtual 183, 3) := by decide +kernel
theorem dL_law_1471 : decode cL_law 1471 = .ok (.aload_n 2, 1) := by decide +kernel
theorem dL_law_1472 : decode cL_law 1472 = .ok (.aload_n 0, 1) := by decide +kernel
theorem dL_law_1473 : decode cL_law 1473 = .ok (.iload_n 3, 1) := by decide +kernel
theorem dL_law_1474 : decode cL_law 1474 = .ok (.iconst 1, 1) := by decide +kernel
theorem dL_law_1475 : decode cL_law 1475 = .ok (.iadd, 1) := by decide +kernel
theorem dL_law_1476 : decode cL_law 1476 = .ok (.iaload, 1) := by decide +kernel
theorem dL_law_1477 : decode cL_law 1477 = .ok (.invokevirtual 186, 3) := by decide +kernel
theorem dL_law_1480 : decode cL_law 1480 = .ok (.if_icmp .eq 354, 3) := by decide +kernel
theorem dL_law_1483 : decode cL_law 1483 = .ok (.iconst 0, 1) := by decide +kernel
theorem dL_law_1484 : decode cL_law 1484 = .ok (.ireturn, 1) := by decide +kernel
theorem dL_law_1485 : decode cL_law 1485 = .ok (.aload_n 1, 1) := by decide +kernel
theorem dL_law_1486 : decode cL_law 1486 = .ok (.aload_n 0, 1) := by decide +kernel
theorem dL_law_1487 : decode cL_law 1487 = .ok (.iload_n 3, 1) := by decide +kernel
theorem dL_law_1488 : decode cL_law 1488 = .ok (.iconst 1, 1) := by decide +kernel
theorem dL_law_1489 : decode cL_law 1489 = .ok (.iadd, 1) := by decide +kernel
theorem dL_law_1490 : decode cL_law 1490 = .ok (.iaload, 1) := by decide +kernel
theorem dL_law_1491 : decode cL_law 1491 = .ok (.invokevirtual 187, 3) := by decide +kernel
theorem dL_law_1494 : decode cL_law 1494 = .ok (.aload_n 2, 1) := by decide +kernel
theorem dL_law_1495 : decode cL_law 1495 = .ok (.aload_n 0, 1) := by decide +kernel
theorem dL_law_1496 : decode cL_law 1496 = .ok (.iload_n 3, 1) := by decide +kernel
theorem dL_law_1497 : decode cL_law 1497 = .ok (.iconst 1, 1) := by decide +kernel
theorem dL_law_1498 : decode cL_law 1498 = .ok (.iadd, 1) := by decide +kernel
theorem dL_law_1499 : decode cL_law 1499 = .ok (.iaload, 1) := by decide +kernel
theorem dL_law_1500 : decode cL_law 1500 = .ok (.invokevirtual 190, 3) := by decide +kernel
theorem dL_law_1503 : decode cL_law 1503 = .ok (.if_icmp .eq 331, 3) := by decide +kernel
theorem dL_law_1506 : decode cL_law 1506 = .ok (.iconst 0, 1) := by decide +kernel
theorem dL_law_1507 : decode cL_law 1507 = .ok (.ireturn, 1) := by decide +kernel
theorem dL_law_1508 : decode cL_law 1508 = .ok (.aload_n 1, 1) := by decide +kernel
theorem dL_law_1509 : decode cL_law 1509 = .ok (.invokevirtual 191, 3) := by decide +kernel
theorem dL_law_1512 : decode cL_law 1512 = .ok (.aload_n 2, 1) := by decide +kernel
theorem dL_law_1513 : decode cL_law 1513 = .ok (.invokevirtual 194, 3) := by decide +kernel
theorem dL_law_1516 : decode cL_law 1516 = .ok (.if_icmp .eq 318, 3) := by decide +kernel
theorem dL_law_1519 : decode cL_law 1519 = .ok (.iconst 0, 1) := by decide +kernel
theorem dL_law_1520 : decode cL_law 1520 = .ok (.ireturn, 1) := by decide +kernel
theorem dL_law_1521 : decode cL_law 1521 = .ok (.aload_n 1, 1) := by decide +kernel
theorem dL_law_1522 : decode cL_law 1522 = .ok (.aload_n 0, 1) := by decide +kernel
theorem dL_law_1523 : decode cL_law 1523 = .ok (.iload_n 3, 1) := by decide +kernel
theorem dL_law_1524 : decode cL_law 1524 = .ok (.iconst 1, 1) := by decide +kernel
theorem dL_law_1525 : decode cL_law 1525 = .ok (.iadd, 1) := by decide +kernel
theorem dL_law_1526 : decode cL_law 1526 = .ok (.iaload, 1) := by decide +kernel
theorem dL_law_1527 : decode cL_law 1527 = .ok (.aload_n 0, 1) := by decide +kernel
theorem dL_law_1528 : decode cL_law 1528 = .ok (.iload_n 3, 1) := by decide +kernel
theorem dL_law_1529 : decode cL_law 1529 = .ok (.iconst 2, 1) := by decide +kernel
theorem dL_law_1530 : decode cL_law 1530 = .ok (.iadd, 1) := by decide +kernel
theorem dL_law_1531 : decode cL_law 1531 = .ok (.iaload, 1) := by decide +kernel
theorem dL_law_1532 : decode cL_law 1532 = .ok (.aload_n 0, 1) := by decide +kernel
theorem dL_law_1533 : decode cL_law 1533 = .ok (.iload_n 3, 1) := by decide +kernel
theorem dL_law_1534 : decode cL_law 1534 = .ok (.iconst 3, 1) := by decide +kernel
theorem dL_law_1535 : decode cL_law 1535 = .ok (.iadd, 1) := by decide +kernel
theorem dL_law_1536 : decode cL_law 1536 = .ok (.iaload, 1) := by decide +kernel
theorem dL_law_1537 : decode cL_law 1537 = .ok (.invokevirtual 195, 3) := by decide +kernel
theorem dL_law_1540 : decode cL_law 1540 = .ok (.aload_n 2, 1) := by decide +kernel
theorem dL_law_1541 : decode cL_law 1541 = .ok (.aload_n 0, 1) := by decide +kernel
theorem dL_law_1542 : decode cL_law 1542 = .ok (.iload_n 3, 1) := by decide +kernel
theorem dL_law_1543 : decode cL_law 1543 = .ok (.iconst 1, 1) := by decide +kernel
theorem dL_law_1544 : decode cL_law 1544 = .ok (.iadd, 1) := by decide +kernel
theorem dL_law_1545 : decode cL_law 1545 = .ok (.iaload, 1) := by decide +kernel
theorem dL_law_1546 : decode cL_law 1546 = .ok (.aload_n 0, 1) := by decide +kernel
theorem dL_law_1547 : decode cL_law 1547 = .ok (.iload_n 3, 1) := by decide +kernel
theorem dL_law_1548 : decode cL_law 1548 = .ok (.iconst 2, 1) := by decide +kernel
theorem dL_law_1549 : decode cL_law 1549 = .ok (.iadd, 1) := by decide +kernel
theorem dL_law_1550 : decode cL_law 1550 = .ok (.iaload, 1) := by decide +kernel
theorem dL_law_1551 : decode cL_law 1551 = .ok (.aload_n 0, 1) := by decide +kernel
theorem dL_law_1552 : decode cL_law 1552 = .ok (.iload_n 3, 1) := by decide +kernel
theorem dL_law_1553 : decode cL_law 1553 = .ok (.iconst 3, 1) := by decide +kernel
theorem dL_law_1554 : decode cL_law 1554 = .ok (.iadd, 1) := by decide +kernel
theorem dL_law_1555 : decode cL_law 1555 = .ok (.iaload, 1) := by decide +kernel
theorem dL_law_1556 : decode cL_law 1556 = .ok (.invokevirtual 198, 3) := by decide +kernel
theorem dL_law_1559 : decode cL_law 1559 = .ok (.if_icmp .eq 275, 3) := by decide +kernel
theorem dL_law_1562 : decode cL_law 1562 = .ok (.iconst 0, 1) := by decide +kernel
theorem dL_law_1563 : decode cL_law 1563 = .ok (.ireturn, 1) := by decide +kernel
theorem dL_law_1564 : decode cL_law 1564 = .ok (.aload_n 1, 1) := by decide +kernel
theorem dL_law_1565 : decode cL_law 1565 = .ok (.aload_n 0, 1) := by decide +kernel
theorem dL_law_1566 : decode cL_law 1566 = .ok (.iload_n 3, 1) := by decide +kernel
theorem dL_law_1567 : decode cL_law 1567 = .ok (.iconst 1, 1) := by decide +kernel
theorem dL_law_1568 : decode cL_law 1568 = .ok (.iadd, 1) := by decide +kernel
theorem dL_law_1569 : decode cL_law 1569 = .ok (.iaload, 1) := by decide +kernel
theorem dL_law_1570 : decode cL_law 1570 = .ok (.invokevirtual 199, 3) := by decide +kernel
theorem dL_law_1573 : decode cL_law 1573 = .ok (.aload_n 2, 1) := by decide +kernel
theorem dL_law_1574 : decode cL_law 1574 = .ok (.aload_n 0, 1) := by decide +kernel
theorem dL_law_1575 : decode cL_law 1575 = .ok (.iload_n 3, 1) := by decide +kernel
theorem dL_law_1576 : decode cL_law 1576 = .ok (.iconst 1, 1) := by decide +kernel
theorem dL_law_1577 : decode cL_law 1577 = .ok (.iadd, 1) := by decide +kernel
theorem dL_law_1578 : decode cL_law 1578 = .ok (.iaload, 1) := by decide +kernel
