theorem dX9_attempt_15 : decode cX9_attempt 15 = .ok (.aload_n 0, 1) := by decide +kernel
theorem dX9_attempt_16 : decode cX9_attempt 16 = .ok (.getfield 71, 3) := by decide +kernel
theorem dX9_attempt_19 : decode cX9_attempt 19 = .ok (.iload_n 1, 1) := by decide +kernel
theorem dX9_attempt_20 : decode cX9_attempt 20 = .ok (.dup2, 1) := by decide +kernel
theorem dX9_attempt_21 : decode cX9_attempt 21 = .ok (.iaload, 1) := by decide +kernel
theorem dX9_attempt_22 : decode cX9_attempt 22 = .ok (.iconst 1, 1) := by decide +kernel
theorem dX9_attempt_23 : decode cX9_attempt 23 = .ok (.iadd, 1) := by decide +kernel
theorem dX9_attempt_24 : decode cX9_attempt 24 = .ok (.iastore, 1) := by decide +kernel
theorem dX9_attempt_25 : decode cX9_attempt 25 = .ok (.aload_n 0, 1) := by decide +kernel
theorem dX9_attempt_26 : decode cX9_attempt 26 = .ok (.lconst 0, 1) := by decide +kernel
theorem dX9_attempt_27 : decode cX9_attempt 27 = .ok (.putfield 287, 3) := by decide +kernel
theorem dX9_attempt_30 : decode cX9_attempt 30 = .ok (.aload_n 0, 1) := by decide +kernel
theorem dX9_attempt_31 : decode cX9_attempt 31 = .ok (.iconst 0, 1) := by decide +kernel
theorem dX9_attempt_32 : decode cX9_attempt 32 = .ok (.putfield 336, 3) := by decide +kernel
theorem dX9_attempt_35 : decode cX9_attempt 35 = .ok (.aload_n 0, 1) := by decide +kernel
theorem dX9_attempt_36 : decode cX9_attempt 36 = .ok (.iconst 0, 1) := by decide +kernel
theorem dX9_attempt_37 : decode cX9_attempt 37 = .ok (.putfield 278, 3) := by decide +kernel
theorem dX9_attempt_40 : decode cX9_attempt 40 = .ok (.aload_n 0, 1) := by decide +kernel
theorem dX9_attempt_41 : decode cX9_attempt 41 = .ok (.iconst 0, 1) := by decide +kernel
theorem dX9_attempt_42 : decode cX9_attempt 42 = .ok (.putfield 333, 3) := by decide +kernel
theorem dX9_attempt_45 : decode cX9_attempt 45 = .ok (.aload_n 0, 1) := by decide +kernel
theorem dX9_attempt_46 : decode cX9_attempt 46 = .ok (.getfield 184, 3) := by decide +kernel
theorem dX9_attempt_49 : decode cX9_attempt 49 = .ok (.iload_n 2, 1) := by decide +kernel
theorem dX9_attempt_50 : decode cX9_attempt 50 = .ok (.iconst 0, 1) := by decide +kernel
theorem dX9_attempt_51 : decode cX9_attempt 51 = .ok (.iastore, 1) := by decide +kernel
theorem dX9_attempt_52 : decode cX9_attempt 52 = .ok (.aload_n 0, 1) := by decide +kernel
theorem dX9_attempt_53 : decode cX9_attempt 53 = .ok (.getfield 166, 3) := by decide +kernel
theorem dX9_attempt_56 : decode cX9_attempt 56 = .ok (.iload_n 2, 1) := by decide +kernel
theorem dX9_attempt_57 : decode cX9_attempt 57 = .ok (.iconst 0, 1) := by decide +kernel
theorem dX9_attempt_58 : decode cX9_attempt 58 = .ok (.iastore, 1) := by decide +kernel
theorem dX9_attempt_59 : decode cX9_attempt 59 = .ok (.aload_n 0, 1) := by decide +kernel
theorem dX9_attempt_60 : decode cX9_attempt 60 = .ok (.getfield 172, 3) := by decide +kernel
theorem dX9_attempt_63 : decode cX9_attempt 63 = .ok (.iload_n 2, 1) := by decide +kernel
theorem dX9_attempt_64 : decode cX9_attempt 64 = .ok (.iconst 0, 1) := by decide +kernel
theorem dX9_attempt_65 : decode cX9_attempt 65 = .ok (.iastore, 1) := by decide +kernel
theorem dX9_attempt_66 : decode cX9_attempt 66 = .ok (.iconst 0, 1) := by decide +kernel
theorem dX9_attempt_67 : decode cX9_attempt 67 = .ok (.istore_n 3, 1) := by decide +kernel
theorem dX9_attempt_68 : decode cX9_attempt 68 = .ok (.iload_n 3, 1) := by decide +kernel
theorem dX9_attempt_69 : decode cX9_attempt 69 = .ok (.bipush 40, 2) := by decide +kernel
theorem dX9_attempt_71 : decode cX9_attempt 71 = .ok (.if_icmp .ge 33, 3) := by decide +kernel
theorem dX9_attempt_74 : decode cX9_attempt 74 = .ok (.aload_n 0, 1) := by decide +kernel
theorem dX9_attempt_75 : decode cX9_attempt 75 = .ok (.getfield 145, 3) := by decide +kernel
theorem dX9_attempt_78 : decode cX9_attempt 78 = .ok (.bipush 40, 2) := by decide +kernel
theorem dX9_attempt_80 : decode cX9_attempt 80 = .ok (.iload_n 2, 1) := by decide +kernel
theorem dX9_attempt_81 : decode cX9_attempt 81 = .ok (.imul, 1) := by decide +kernel
theorem dX9_attempt_82 : decode cX9_attempt 82 = .ok (.iload_n 3, 1) := by decide +kernel
theorem dX9_attempt_83 : decode cX9_attempt 83 = .ok (.iadd, 1) := by decide +kernel
theorem dX9_attempt_84 : decode cX9_attempt 84 = .ok (.iconst 0, 1) := by decide +kernel
theorem dX9_attempt_85 : decode cX9_attempt 85 = .ok (.bastore, 1) := by decide +kernel
theorem dX9_attempt_86 : decode cX9_attempt 86 = .ok (.aload_n 0, 1) := by decide +kernel
theorem dX9_attempt_87 : decode cX9_attempt 87 = .ok (.getfield 160, 3) := by decide +kernel
theorem dX9_attempt_90 : decode cX9_attempt 90 = .ok (.bipush 40, 2) := by decide +kernel
theorem dX9_attempt_92 : decode cX9_attempt 92 = .ok (.iload_n 2, 1) := by decide +kernel
theorem dX9_attempt_93 : decode cX9_attempt 93 = .ok (.imul, 1) := by decide +kernel
theorem dX9_attempt_94 : decode cX9_attempt 94 = .ok (.iload_n 3, 1) := by decide +kernel
theorem dX9_attempt_95 : decode cX9_attempt 95 = .ok (.iadd, 1) := by decide +kernel
theorem dX9_attempt_96 : decode cX9_attempt 96 = .ok (.iconst 0, 1) := by decide +kernel
theorem dX9_attempt_97 : decode cX9_attempt 97 = .ok (.bastore, 1) := by decide +kernel
theorem dX9_attempt_98 : decode cX9_attempt 98 = .ok (.iinc 3 1, 3) := by decide +kernel
theorem dX9_attempt_101 : decode cX9_attempt 101 = .ok (.goto (-33), 3) := by decide +kernel
theorem dX9_attempt_104 : decode cX9_attempt 104 = .ok (.aload_n 0, 1) := by decide +kernel
theorem dX9_attempt_105 : decode cX9_attempt 105 = .ok (.aload_n 0, 1) := by decide +kernel
theorem dX9_attempt_106 : decode cX9_attempt 106 = .ok (.getfield 62, 3) := by decide +kernel
theorem dX9_attempt_109 : decode cX9_attempt 109 = .ok (.iload_n 1, 1) := by decide +kernel
theorem dX9_attempt_110 : decode cX9_attempt 110 = .ok (.iaload, 1) := by decide +kernel
theorem dX9_attempt_111 : decode cX9_attempt 111 = .ok (.iconst 0, 1) := by decide +kernel
theorem dX9_attempt_112 : decode cX9_attempt 112 = .ok (.invokevirtual 345, 3) := by decide +kernel
theorem dX9_attempt_115 : decode cX9_attempt 115 = .ok (.iconst 1, 1) := by decide +kernel
theorem dX9_attempt_116 : decode cX9_attempt 116 = .ok (.istore_n 3, 1) := by decide +kernel
theorem dX9_attempt_117 : decode cX9_attempt 117 = .ok (.iload_n 3, 1) := by decide +kernel
theorem dX9_attempt_118 : decode cX9_attempt 118 = .ok (.ifCond .eq 129, 3) := by decide +kernel
theorem dX9_attempt_121 : decode cX9_attempt 121 = .ok (.bipush 6, 2) := by decide +kernel
theorem dX9_attempt_123 : decode cX9_attempt 123 = .ok (.iload_n 2, 1) := by decide +kernel
theorem dX9_attempt_124 : decode cX9_attempt 124 = .ok (.imul, 1) := by decide +kernel
theorem dX9_attempt_125 : decode cX9_attempt 125 = .ok (.aload_n 0, 1) := by decide +kernel
theorem dX9_attempt_126 : decode cX9_attempt 126 = .ok (.getfield 184, 3) := by decide +kernel
theorem dX9_attempt_129 : decode cX9_attempt 129 = .ok (.iload_n 2, 1) := by decide +kernel
theorem dX9_attempt_130 : decode cX9_attempt 130 = .ok (.iaload, 1) := by decide +kernel
theorem dX9_attempt_131 : decode cX9_attempt 131 = .ok (.iadd, 1) := by decide +kernel
theorem dX9_attempt_132 : decode cX9_attempt 132 = .ok (.iconst 1, 1) := by decide +kernel
theorem dX9_attempt_133 : decode cX9_attempt 133 = .ok (.isub, 1) := by decide +kernel
theorem dX9_attempt_134 : decode cX9_attempt 134 = .ok (.istore 4, 2) := by decide +kernel
theorem dX9_attempt_136 : decode cX9_attempt 136 = .ok (.aload_n 0, 1) := by decide +kernel
theorem dX9_attempt_137 : decode cX9_attempt 137 = .ok (.getfield 190, 3) := by decide +kernel
theorem dX9_attempt_140 : decode cX9_attempt 140 = .ok (.iload 4, 2) := by decide +kernel
theorem dX9_attempt_142 : decode cX9_attempt 142 = .ok (.iaload, 1) := by decide +kernel
theorem dX9_attempt_143 : decode cX9_attempt 143 = .ok (.aload_n 0, 1) := by decide +kernel
theorem dX9_attempt_144 : decode cX9_attempt 144 = .ok (.getfield 35, 3) := by decide +kernel
theorem dX9_attempt_147 : decode cX9_attempt 147 = .ok (.aload_n 0, 1) := by decide +kernel
theorem dX9_attempt_148 : decode cX9_attempt 148 = .ok (.getfield 187, 3) := by decide +kernel
theorem dX9_attempt_151 : decode cX9_attempt 151 = .ok (.iload 4, 2) := by decide +kernel
theorem dX9_attempt_153 : decode cX9_attempt 153 = .ok (.iaload, 1) := by decide +kernel
theorem dX9_attempt_154 : decode cX9_attempt 154 = .ok (.iaload, 1) := by decide +kernel
theorem dX9_attempt_155 : decode cX9_attempt 155 = .ok (.if_icmp .lt 43, 3) := by decide +kernel
theorem dX9_attempt_158 : decode cX9_attempt 158 = .ok (.aload_n 0, 1) := by decide +kernel
theorem dX9_attempt_159 : decode cX9_attempt 159 = .ok (.getfield 184, 3) := by decide +kernel
theorem dX9_attempt_162 : decode cX9_attempt 162 = .ok (.iload_n 2, 1) := by decide +kernel
theorem dX9_attempt_163 : decode cX9_attempt 163 = .ok (.dup2, 1) := by decide +kernel
theorem dX9_attempt_164 : decode cX9_attempt 164 = .ok (.iaload, 1) := by decide +kernel
theorem dX9_attempt_165 : decode cX9_attempt 165 = .ok (.iconst 1, 1) := by decide +kernel
theorem dX9_attempt_166 : decode cX9_attempt 166 = .ok (.isub, 1) := by decide +kernel
theorem dX9_attempt_167 : decode cX9_attempt 167 = .ok (.iastore, 1) := by decide +kernel
theorem dX9_attempt_168 : decode cX9_attempt 168 = .ok (.aload_n 0, 1) := by decide +kernel
theorem dX9_attempt_169 : decode cX9_attempt 169 = .ok (.getfield 184, 3) := by decide +kernel
theorem dX9_attempt_172 : decode cX9_attempt 172 = .ok (.iload_n 2, 1) := by decide +kernel
theorem dX9_attempt_173 : decode cX9_attempt 173 = .ok (.iaload, 1) := by decide +kernel
theorem dX9_attempt_174 : decode cX9_attempt 174 = .ok (.ifCond .ne 8, 3) := by decide +kernel
theorem dX9_attempt_177 : decode cX9_attempt 177 = .ok (.iconst 0, 1) := by decide +kernel
theorem dX9_attempt_178 : decode cX9_attempt 178 = .ok (.istore_n 3, 1) := by decide +kernel
theorem dX9_attempt_179 : decode cX9_attempt 179 = .ok (.goto 65, 3) := by decide +kernel
theorem dX9_attempt_182 : decode cX9_attempt 182 = .ok (.aload_n 0, 1) := by decide +kernel
theorem dX9_attempt_183 : decode cX9_attempt 183 = .ok (.getfield 190, 3) := by decide +kernel
theorem dX9_attempt_186 : decode cX9_attempt 186 = .ok (.iload 4, 2) := by decide +kernel
theorem dX9_attempt_188 : decode cX9_attempt 188 = .ok (.iconst 1, 1) := by decide +kernel
theorem dX9_attempt_189 : decode cX9_attempt 189 = .ok (.isub, 1) := by decide +kernel
theorem dX9_attempt_190 : decode cX9_attempt 190 = .ok (.dup2, 1) := by decide +kernel
theorem dX9_attempt_191 : decode cX9_attempt 191 = .ok (.iaload, 1) := by decide +kernel
theorem dX9_attempt_192 : decode cX9_attempt 192 = .ok (.iconst 1, 1) := by decide +kernel
theorem dX9_attempt_193 : decode cX9_attempt 193 = .ok (.iadd, 1) := by decide +kernel
theorem dX9_attempt_194 : decode cX9_attempt 194 = .ok (.iastore, 1) := by decide +kernel
theorem dX9_attempt_195 : decode cX9_attempt 195 = .ok (.goto 49, 3) := by decide +kernel
theorem dX9_attempt_198 : decode cX9_attempt 198 = .ok (.aload_n 0, 1) := by decide +kernel
theorem dX9_attempt_199 : decode cX9_attempt 199 = .ok (.getfield 336, 3) := by decide +kernel
theorem dX9_attempt_202 : decode cX9_attempt 202 = .ok (.bipush 40, 2) := by decide +kernel
theorem dX9_attempt_204 : decode cX9_attempt 204 = .ok (.if_icmp .ne 14, 3) := by decide +kernel
theorem dX9_attempt_207 : decode cX9_attempt 207 = .ok (.aload_n 0, 1) := by decide +kernel
theorem dX9_attempt_208 : decode cX9_attempt 208 = .ok (.bipush 10, 2) := by decide +kernel
theorem dX9_attempt_210 : decode cX9_attempt 210 = .ok (.putfield 278, 3) := by decide +kernel
theorem dX9_attempt_213 : decode cX9_attempt 213 = .ok (.iconst 0, 1) := by decide +kernel
theorem dX9_attempt_214 : decode cX9_attempt 214 = .ok (.istore_n 3, 1) := by decide +kernel
theorem dX9_attempt_215 : decode cX9_attempt 215 = .ok (.goto 29, 3) := by decide +kernel
theorem dX9_attempt_218 : decode cX9_attempt 218 = .ok (.aload_n 0, 1) := by decide +kernel
theorem dX9_attempt_219 : decode cX9_attempt 219 = .ok (.iload 4, 2) := by decide +kernel
theorem dX9_attempt_221 : decode cX9_attempt 221 = .ok (.invokevirtual 354, 3) := by decide +kernel
theorem dX9_attempt_224 : decode cX9_attempt 224 = .ok (.aload_n 0, 1) := by decide +kernel
theorem dX9_attempt_225 : decode cX9_attempt 225 = .ok (.getfield 278, 3) := by decide +kernel
theorem dX9_attempt_228 : decode cX9_attempt 228 = .ok (.ifCond .eq 10, 3) := by decide +kernel
theorem dX9_attempt_231 : decode cX9_attempt 231 = .ok (.aload_n 0, 1) := by decide +kernel
theorem dX9_attempt_232 : decode cX9_attempt 232 = .ok (.invokevirtual 357, 3) := by decide +kernel
theorem dX9_attempt_235 : decode cX9_attempt 235 = .ok (.ifCond .eq 7, 3) := by decide +kernel
theorem dX9_attempt_238 : decode cX9_attempt 238 = .ok (.iconst 1, 1) := by decide +kernel
theorem dX9_attempt_239 : decode cX9_attempt 239 = .ok (.goto 4, 3) := by decide +kernel
theorem dX9_attempt_242 : decode cX9_attempt 242 = .ok (.iconst 0, 1) := by decide +kernel
theorem dX9_attempt_243 : decode cX9_attempt 243 = .ok (.istore_n 3, 1) := by decide +kernel
theorem dX9_attempt_244 : decode cX9_attempt 244 = .ok (.goto (-127), 3) := by decide +kernel
theorem dX9_attempt_247 : decode cX9_attempt 247 = .ok (.aload_n 0, 1) := by decide +kernel
theorem dX9_attempt_248 : decode cX9_attempt 248 = .ok (.getfield 133, 3) := by decide +kernel
theorem dX9_attempt_251 : decode cX9_attempt 251 = .ok (.iload_n 2, 1) := by decide +kernel
theorem dX9_attempt_252 : decode cX9_attempt 252 = .ok (.aload_n 0, 1) := by decide +kernel
theorem dX9_attempt_253 : decode cX9_attempt 253 = .ok (.getfield 278, 3) := by decide +kernel
theorem dX9_attempt_256 : decode cX9_attempt 256 = .ok (.ifCond .ne 7, 3) := by decide +kernel
theorem dX9_attempt_259 : decode cX9_attempt 259 = .ok (.iconst 0, 1) := by decide +kernel
theorem dX9_attempt_260 : decode cX9_attempt 260 = .ok (.goto 16, 3) := by decide +kernel
theorem dX9_attempt_263 : decode cX9_attempt 263 = .ok (.aload_n 0, 1) := by decide +kernel
theorem dX9_attempt_264 : decode cX9_attempt 264 = .ok (.getfield 278, 3) := by decide +kernel
theorem dX9_attempt_267 : decode cX9_attempt 267 = .ok (.iconst (-1), 1) := by decide +kernel
theorem dX9_attempt_268 : decode cX9_attempt 268 = .ok (.if_icmp .ne 7, 3) := by decide +kernel
theorem dX9_attempt_271 : decode cX9_attempt 271 = .ok (.iconst 2, 1) := by decide +kernel
theorem dX9_attempt_272 : decode cX9_attempt 272 = .ok (.goto 4, 3) := by decide +kernel
theorem dX9_attempt_275 : decode cX9_attempt 275 = .ok (.iconst 1, 1) := by decide +kernel
theorem dX9_attempt_276 : decode cX9_attempt 276 = .ok (.iastore, 1) := by decide +kernel
theorem dX9_attempt_277 : decode cX9_attempt 277 = .ok (.aload_n 0, 1) := by decide +kernel
theorem dX9_attempt_278 : decode cX9_attempt 278 = .ok (.getfield 136, 3) := by decide +kernel
theorem dX9_attempt_281 : decode cX9_attempt 281 = .ok (.iload_n 2, 1) := by decide +kernel
theorem dX9_attempt_282 : decode cX9_attempt 282 = .ok (.aload_n 0, 1) := by decide +kernel
theorem dX9_attempt_283 : decode cX9_attempt 283 = .ok (.getfield 278, 3) := by decide +kernel
theorem dX9_attempt_286 : decode cX9_attempt 286 = .ok (.ifCond .le 10, 3) := by decide +kernel
theorem dX9_attempt_289 : decode cX9_attempt 289 = .ok (.aload_n 0, 1) := by decide +kernel
theorem dX9_attempt_290 : decode cX9_attempt 290 = .ok (.getfield 278, 3) := by decide +kernel
theorem dX9_attempt_293 : decode cX9_attempt 293 = .ok (.goto 4, 3) := by decide +kernel
theorem dX9_attempt_296 : decode cX9_attempt 296 = .ok (.iconst 0, 1) := by decide +kernel
theorem dX9_attempt_297 : decode cX9_attempt 297 = .ok (.iastore, 1) := by decide +kernel
theorem dX9_attempt_298 : decode cX9_attempt 298 = .ok (.aload_n 0, 1) := by decide +kernel
theorem dX9_attempt_299 : decode cX9_attempt 299 = .ok (.getfield 139, 3) := by decide +kernel
theorem dX9_attempt_302 : decode cX9_attempt 302 = .ok (.iload_n 2, 1) := by decide +kernel
theorem dX9_attempt_303 : decode cX9_attempt 303 = .ok (.aload_n 0, 1) := by decide +kernel
theorem dX9_attempt_304 : decode cX9_attempt 304 = .ok (.getfield 278, 3) := by decide +kernel
theorem dX9_attempt_307 : decode cX9_attempt 307 = .ok (.bipush 8, 2) := by decide +kernel
theorem dX9_attempt_309 : decode cX9_attempt 309 = .ok (.if_icmp .ne 10, 3) := by decide +kernel
theorem dX9_attempt_312 : decode cX9_attempt 312 = .ok (.aload_n 0, 1) := by decide +kernel
theorem dX9_attempt_313 : decode cX9_attempt 313 = .ok (.getfield 333, 3) := by decide +kernel
theorem dX9_attempt_316 : decode cX9_attempt 316 = .ok (.goto 4, 3) := by decide +kernel
theorem dX9_attempt_319 : decode cX9_attempt 319 = .ok (.iconst 0, 1) := by decide +kernel
theorem dX9_attempt_320 : decode cX9_attempt 320 = .ok (.iastore, 1) := by decide +kernel
theorem dX9_attempt_321 : decode cX9_attempt 321 = .ok (.aload_n 0, 1) := by decide +kernel
theorem dX9_attempt_322 : decode cX9_attempt 322 = .ok (.getfield 142, 3) := by decide +kernel
theorem dX9_attempt_325 : decode cX9_attempt 325 = .ok (.iload_n 2, 1) := by decide +kernel
theorem dX9_attempt_326 : decode cX9_attempt 326 = .ok (.aload_n 0, 1) := by decide +kernel
theorem dX9_attempt_327 : decode cX9_attempt 327 = .ok (.getfield 336, 3) := by decide +kernel
theorem dX9_attempt_330 : decode cX9_attempt 330 = .ok (.iastore, 1) := by decide +kernel
theorem dX9_attempt_331 : decode cX9_attempt 331 = .ok (.return_, 1) := by decide +kernel
theorem dX9_isStale_0 : decode cX9_isStale 0 = .ok (.iconst 0, 1) := by decide +kernel
theorem dX9_isStale_1 : decode cX9_isStale 1 = .ok (.istore_n 2, 1) := by decide +kernel
theorem dX9_isStale_2 : decode cX9_isStale 2 = .ok (.iload_n 2, 1) := by decide +kernel
theorem dX9_isStale_3 : decode cX9_isStale 3 = .ok (.bipush 40, 2) := by decide +kernel
theorem dX9_isStale_5 : decode cX9_isStale 5 = .ok (.if_icmp .ge 45, 3) := by decide +kernel
theorem dX9_isStale_8 : decode cX9_isStale 8 = .ok (.aload_n 0, 1) := by decide +kernel
theorem dX9_isStale_9 : decode cX9_isStale 9 = .ok (.getfield 160, 3) := by decide +kernel
theorem dX9_isStale_12 : decode cX9_isStale 12 = .ok (.bipush 40, 2) := by decide +kernel
theorem dX9_isStale_14 : decode cX9_isStale 14 = .ok (.iload_n 1, 1) := by decide +kernel
theorem dX9_isStale_15 : decode cX9_isStale 15 = .ok (.imul, 1) := by decide +kernel
theorem dX9_isStale_16 : decode cX9_isStale 16 = .ok (.iload_n 2, 1) := by decide +kernel
theorem dX9_isStale_17 : decode cX9_isStale 17 = .ok (.iadd, 1) := by decide +kernel
theorem dX9_isStale_18 : decode cX9_isStale 18 = .ok (.baload, 1) := by decide +kernel
theorem dX9_isStale_19 : decode cX9_isStale 19 = .ok (.ifCond .eq 25, 3) := by decide +kernel
theorem dX9_isStale_22 : decode cX9_isStale 22 = .ok (.aload_n 0, 1) := by decide +kernel
theorem dX9_isStale_23 : decode cX9_isStale 23 = .ok (.getfield 163, 3) := by decide +kernel
theorem dX9_isStale_26 : decode cX9_isStale 26 = .ok (.bipush 40, 2) := by decide +kernel
theorem dX9_isStale_28 : decode cX9_isStale 28 = .ok (.iload_n 1, 1) := by decide +kernel
theorem dX9_isStale_29 : decode cX9_isStale 29 = .ok (.imul, 1) := by decide +kernel
theorem dX9_isStale_30 : decode cX9_isStale 30 = .ok (.iload_n 2, 1) := by decide +kernel
theorem dX9_isStale_31 : decode cX9_isStale 31 = .ok (.iadd, 1) := by decide +kernel
theorem dX9_isStale_32 : decode cX9_isStale 32 = .ok (.iaload, 1) := by decide +kernel
theorem dX9_isStale_33 : decode cX9_isStale 33 = .ok (.aload_n 0, 1) := by decide +kernel
theorem dX9_isStale_34 : decode cX9_isStale 34 = .ok (.getfield 23, 3) := by decide +kernel
theorem dX9_isStale_37 : decode cX9_isStale 37 = .ok (.iload_n 2, 1) := by decide +kernel
theorem dX9_isStale_38 : decode cX9_isStale 38 = .ok (.iaload, 1) := by decide +kernel
theorem dX9_isStale_39 : decode cX9_isStale 39 = .ok (.if_icmp .eq 5, 3) := by decide +kernel
theorem dX9_isStale_42 : decode cX9_isStale 42 = .ok (.iconst 1, 1) := by decide +kernel
theorem dX9_isStale_43 : decode cX9_isStale 43 = .ok (.ireturn, 1) := by decide +kernel
theorem dX9_isStale_44 : decode cX9_isStale 44 = .ok (.iinc 2 1, 3) := by decide +kernel
theorem dX9_isStale_47 : decode cX9_isStale 47 = .ok (.goto (-45), 3) := by decide +kernel
theorem dX9_isStale_50 : decode cX9_isStale 50 = .ok (.iconst 0, 1) := by decide +kernel
theorem dX9_isStale_51 : decode cX9_isStale 51 = .ok (.ireturn, 1) := by decide +kernel
theorem dX9_counts_0 : decode cX9_counts 0 = .ok (.aload_n 0, 1) := by decide +kernel
theorem dX9_counts_1 : decode cX9_counts 1 = .ok (.getfield 95, 3) := by decide +kernel
theorem dX9_counts_4 : decode cX9_counts 4 = .ok (.iload_n 1, 1) := by decide +kernel
theorem dX9_counts_5 : decode cX9_counts 5 = .ok (.iconst 1, 1) := by decide +kernel
theorem dX9_counts_6 : decode cX9_counts 6 = .ok (.bastore, 1) := by decide +kernel
theorem dX9_counts_7 : decode cX9_counts 7 = .ok (.aload_n 0, 1) := by decide +kernel
theorem dX9_counts_8 : decode cX9_counts 8 = .ok (.getfield 99, 3) := by decide +kernel
theorem dX9_counts_11 : decode cX9_counts 11 = .ok (.iload_n 1, 1) := by decide +kernel
theorem dX9_counts_12 : decode cX9_counts 12 = .ok (.aload_n 0, 1) := by decide +kernel
theorem dX9_counts_13 : decode cX9_counts 13 = .ok (.getfield 142, 3) := by decide +kernel
theorem dX9_counts_16 : decode cX9_counts 16 = .ok (.iload_n 2, 1) := by decide +kernel
theorem dX9_counts_17 : decode cX9_counts 17 = .ok (.iaload, 1) := by decide +kernel
theorem dX9_counts_18 : decode cX9_counts 18 = .ok (.iastore, 1) := by decide +kernel
theorem dX9_counts_19 : decode cX9_counts 19 = .ok (.iconst 0, 1) := by decide +kernel
theorem dX9_counts_20 : decode cX9_counts 20 = .ok (.istore_n 3, 1) := by decide +kernel
theorem dX9_counts_21 : decode cX9_counts 21 = .ok (.iconst 0, 1) := by decide +kernel
theorem dX9_counts_22 : decode cX9_counts 22 = .ok (.istore 4, 2) := by decide +kernel
theorem dX9_counts_24 : decode cX9_counts 24 = .ok (.iload 4, 2) := by decide +kernel
theorem dX9_counts_26 : decode cX9_counts 26 = .ok (.bipush 40, 2) := by decide +kernel
theorem dX9_counts_28 : decode cX9_counts 28 = .ok (.if_icmp .ge 56, 3) := by decide +kernel
theorem dX9_counts_31 : decode cX9_counts 31 = .ok (.aload_n 0, 1) := by decide +kernel
theorem dX9_counts_32 : decode cX9_counts 32 = .ok (.getfield 105, 3) := by decide +kernel
theorem dX9_counts_35 : decode cX9_counts 35 = .ok (.bipush 40, 2) := by decide +kernel
theorem dX9_counts_37 : decode cX9_counts 37 = .ok (.iload_n 1, 1) := by decide +kernel
theorem dX9_counts_38 : decode cX9_counts 38 = .ok (.imul, 1) := by decide +kernel
theorem dX9_counts_39 : decode cX9_counts 39 = .ok (.iload 4, 2) := by decide +kernel
theorem dX9_counts_41 : decode cX9_counts 41 = .ok (.iadd, 1) := by decide +kernel
theorem dX9_counts_42 : decode cX9_counts 42 = .ok (.aload_n 0, 1) := by decide +kernel
theorem dX9_counts_43 : decode cX9_counts 43 = .ok (.getfield 160, 3) := by decide +kernel
theorem dX9_counts_46 : decode cX9_counts 46 = .ok (.bipush 40, 2) := by decide +kernel
theorem dX9_counts_48 : decode cX9_counts 48 = .ok (.iload_n 2, 1) := by decide +kernel
theorem dX9_counts_49 : decode cX9_counts 49 = .ok (.imul, 1) := by decide +kernel
theorem dX9_counts_50 : decode cX9_counts 50 = .ok (.iload 4, 2) := by decide +kernel
theorem dX9_counts_52 : decode cX9_counts 52 = .ok (.iadd, 1) := by decide +kernel
theorem dX9_counts_53 : decode cX9_counts 53 = .ok (.baload, 1) := by decide +kernel
theorem dX9_counts_54 : decode cX9_counts 54 = .ok (.bastore, 1) := by decide +kernel
theorem dX9_counts_55 : decode cX9_counts 55 = .ok (.iload_n 3, 1) := by decide +kernel
theorem dX9_counts_56 : decode cX9_counts 56 = .ok (.aload_n 0, 1) := by decide +kernel
theorem dX9_counts_57 : decode cX9_counts 57 = .ok (.getfield 145, 3) := by decide +kernel
theorem dX9_counts_60 : decode cX9_counts 60 = .ok (.bipush 40, 2) := by decide +kernel
theorem dX9_counts_62 : decode cX9_counts 62 = .ok (.iload_n 2, 1) := by decide +kernel
theorem dX9_counts_63 : decode cX9_counts 63 = .ok (.imul, 1) := by decide +kernel
theorem dX9_counts_64 : decode cX9_counts 64 = .ok (.iload 4, 2) := by decide +kernel
theorem dX9_counts_66 : decode cX9_counts 66 = .ok (.iadd, 1) := by decide +kernel
theorem dX9_counts_67 : decode cX9_counts 67 = .ok (.baload, 1) := by decide +kernel
theorem dX9_counts_68 : decode cX9_counts 68 = .ok (.ifCond .eq 7, 3) := by decide +kernel
theorem dX9_counts_71 : decode cX9_counts 71 = .ok (.iconst 1, 1) := by decide +kernel
theorem dX9_counts_72 : decode cX9_counts 72 = .ok (.goto 4, 3) := by decide +kernel
theorem dX9_counts_75 : decode cX9_counts 75 = .ok (.iconst 0, 1) := by decide +kernel
theorem dX9_counts_76 : decode cX9_counts 76 = .ok (.iadd, 1) := by decide +kernel
theorem dX9_counts_77 : decode cX9_counts 77 = .ok (.istore_n 3, 1) := by decide +kernel
theorem dX9_counts_78 : decode cX9_counts 78 = .ok (.iinc 4 1, 3) := by decide +kernel
theorem dX9_counts_81 : decode cX9_counts 81 = .ok (.goto (-57), 3) := by decide +kernel
theorem dX9_counts_84 : decode cX9_counts 84 = .ok (.aload_n 0, 1) := by decide +kernel
theorem dX9_counts_85 : decode cX9_counts 85 = .ok (.getfield 102, 3) := by decide +kernel
theorem dX9_counts_88 : decode cX9_counts 88 = .ok (.iload_n 1, 1) := by decide +kernel
theorem dX9_counts_89 : decode cX9_counts 89 = .ok (.aload_n 0, 1) := by decide +kernel
theorem dX9_counts_90 : decode cX9_counts 90 = .ok (.getfield 133, 3) := by decide +kernel
theorem dX9_counts_93 : decode cX9_counts 93 = .ok (.iload_n 2, 1) := by decide +kernel
theorem dX9_counts_94 : decode cX9_counts 94 = .ok (.iaload, 1) := by decide +kernel
theorem dX9_counts_95 : decode cX9_counts 95 = .ok (.ifCond .ne 7, 3) := by decide +kernel
theorem dX9_counts_98 : decode cX9_counts 98 = .ok (.iload_n 3, 1) := by decide +kernel
theorem dX9_counts_99 : decode cX9_counts 99 = .ok (.goto 4, 3) := by decide +kernel
theorem dX9_counts_102 : decode cX9_counts 102 = .ok (.iconst 0, 1) := by decide +kernel
theorem dX9_counts_103 : decode cX9_counts 103 = .ok (.iastore, 1) := by decide +kernel
theorem dX9_counts_104 : decode cX9_counts 104 = .ok (.aload_n 0, 1) := by decide +kernel
theorem dX9_counts_105 : decode cX9_counts 105 = .ok (.getfield 108, 3) := by decide +kernel
theorem dX9_counts_108 : decode cX9_counts 108 = .ok (.iload_n 1, 1) := by decide +kernel
theorem dX9_counts_109 : decode cX9_counts 109 = .ok (.aload_n 0, 1) := by decide +kernel
theorem dX9_counts_110 : decode cX9_counts 110 = .ok (.getfield 133, 3) := by decide +kernel
theorem dX9_counts_113 : decode cX9_counts 113 = .ok (.iload_n 2, 1) := by decide +kernel
theorem dX9_counts_114 : decode cX9_counts 114 = .ok (.iaload, 1) := by decide +kernel
theorem dX9_counts_115 : decode cX9_counts 115 = .ok (.ifCond .ne 7, 3) := by decide +kernel
theorem dX9_counts_118 : decode cX9_counts 118 = .ok (.iconst 0, 1) := by decide +kernel
theorem dX9_counts_119 : decode cX9_counts 119 = .ok (.goto 9, 3) := by decide +kernel
theorem dX9_counts_122 : decode cX9_counts 122 = .ok (.aload_n 0, 1) := by decide +kernel
theorem dX9_counts_123 : decode cX9_counts 123 = .ok (.getfield 184, 3) := by decide +kernel
theorem dX9_counts_126 : decode cX9_counts 126 = .ok (.iload_n 2, 1) := by decide +kernel
theorem dX9_counts_127 : decode cX9_counts 127 = .ok (.iaload, 1) := by decide +kernel
theorem dX9_counts_128 : decode cX9_counts 128 = .ok (.iastore, 1) := by decide +kernel
theorem dX9_counts_129 : decode cX9_counts 129 = .ok (.iconst 0, 1) := by decide +kernel
theorem dX9_counts_130 : decode cX9_counts 130 = .ok (.istore 4, 2) := by decide +kernel
theorem dX9_counts_132 : decode cX9_counts 132 = .ok (.iload 4, 2) := by decide +kernel
theorem dX9_counts_134 : decode cX9_counts 134 = .ok (.aload_n 0, 1) := by decide +kernel
theorem dX9_counts_135 : decode cX9_counts 135 = .ok (.getfield 108, 3) := by decide +kernel
theorem dX9_counts_138 : decode cX9_counts 138 = .ok (.iload_n 1, 1) := by decide +kernel
theorem dX9_counts_139 : decode cX9_counts 139 = .ok (.iaload, 1) := by decide +kernel
theorem dX9_counts_140 : decode cX9_counts 140 = .ok (.if_icmp .ge 57, 3) := by decide +kernel
theorem dX9_counts_143 : decode cX9_counts 143 = .ok (.aload_n 0, 1) := by decide +kernel
theorem dX9_counts_144 : decode cX9_counts 144 = .ok (.getfield 111, 3) := by decide +kernel
theorem dX9_counts_147 : decode cX9_counts 147 = .ok (.bipush 6, 2) := by decide +kernel
theorem dX9_counts_149 : decode cX9_counts 149 = .ok (.iload_n 1, 1) := by decide +kernel
theorem dX9_counts_150 : decode cX9_counts 150 = .ok (.imul, 1) := by decide +kernel
theorem dX9_counts_151 : decode cX9_counts 151 = .ok (.iload 4, 2) := by decide +kernel
theorem dX9_counts_153 : decode cX9_counts 153 = .ok (.iadd, 1) := by decide +kernel
theorem dX9_counts_154 : decode cX9_counts 154 = .ok (.aload_n 0, 1) := by decide +kernel
theorem dX9_counts_155 : decode cX9_counts 155 = .ok (.getfield 187, 3) := by decide +kernel
theorem dX9_counts_158 : decode cX9_counts 158 = .ok (.bipush 6, 2) := by decide +kernel
theorem dX9_counts_160 : decode cX9_counts 160 = .ok (.iload_n 2, 1) := by decide +kernel
theorem dX9_counts_161 : decode cX9_counts 161 = .ok (.imul, 1) := by decide +kernel
theorem dX9_counts_162 : decode cX9_counts 162 = .ok (.iload 4, 2) := by decide +kernel
theorem dX9_counts_164 : decode cX9_counts 164 = .ok (.iadd, 1) := by decide +kernel
theorem dX9_counts_165 : decode cX9_counts 165 = .ok (.iaload, 1) := by decide +kernel
theorem dX9_counts_166 : decode cX9_counts 166 = .ok (.iastore, 1) := by decide +kernel
theorem dX9_counts_167 : decode cX9_counts 167 = .ok (.aload_n 0, 1) := by decide +kernel
theorem dX9_counts_168 : decode cX9_counts 168 = .ok (.getfield 114, 3) := by decide +kernel
theorem dX9_counts_171 : decode cX9_counts 171 = .ok (.bipush 6, 2) := by decide +kernel
theorem dX9_counts_173 : decode cX9_counts 173 = .ok (.iload_n 1, 1) := by decide +kernel
theorem dX9_counts_174 : decode cX9_counts 174 = .ok (.imul, 1) := by decide +kernel
theorem dX9_counts_175 : decode cX9_counts 175 = .ok (.iload 4, 2) := by decide +kernel
theorem dX9_counts_177 : decode cX9_counts 177 = .ok (.iadd, 1) := by decide +kernel
theorem dX9_counts_178 : decode cX9_counts 178 = .ok (.aload_n 0, 1) := by decide +kernel
theorem dX9_counts_179 : decode cX9_counts 179 = .ok (.getfield 190, 3) := by decide +kernel
theorem dX9_counts_182 : decode cX9_counts 182 = .ok (.bipush 6, 2) := by decide +kernel
theorem dX9_counts_184 : decode cX9_counts 184 = .ok (.iload_n 2, 1) := by decide +kernel
theorem dX9_counts_185 : decode cX9_counts 185 = .ok (.imul, 1) := by decide +kernel
theorem dX9_counts_186 : decode cX9_counts 186 = .ok (.iload 4, 2) := by decide +kernel
theorem dX9_counts_188 : decode cX9_counts 188 = .ok (.iadd, 1) := by decide +kernel
theorem dX9_counts_189 : decode cX9_counts 189 = .ok (.iaload, 1) := by decide +kernel
theorem dX9_counts_190 : decode cX9_counts 190 = .ok (.iastore, 1) := by decide +kernel
theorem dX9_counts_191 : decode cX9_counts 191 = .ok (.iinc 4 1, 3) := by decide +kernel
theorem dX9_counts_194 : decode cX9_counts 194 = .ok (.goto (-62), 3) := by decide +kernel
theorem dX9_counts_197 : decode cX9_counts 197 = .ok (.return_, 1) := by decide +kernel
theorem dX9_gramsOf_0 : decode cX9_gramsOf 0 = .ok (.aload_n 0, 1) := by decide +kernel
theorem dX9_gramsOf_1 : decode cX9_gramsOf 1 = .ok (.iload_n 1, 1) := by decide +kernel
theorem dX9_gramsOf_2 : decode cX9_gramsOf 2 = .ok (.putfield 267, 3) := by decide +kernel
theorem dX9_gramsOf_5 : decode cX9_gramsOf 5 = .ok (.lconst 0, 1) := by decide +kernel
theorem dX9_gramsOf_6 : decode cX9_gramsOf 6 = .ok (.lstore 4, 2) := by decide +kernel
theorem dX9_gramsOf_8 : decode cX9_gramsOf 8 = .ok (.iconst 0, 1) := by decide +kernel
theorem dX9_gramsOf_9 : decode cX9_gramsOf 9 = .ok (.istore 6, 2) := by decide +kernel
theorem dX9_gramsOf_11 : decode cX9_gramsOf 11 = .ok (.iload 6, 2) := by decide +kernel
theorem dX9_gramsOf_13 : decode cX9_gramsOf 13 = .ok (.bipush 40, 2) := by decide +kernel
theorem dX9_gramsOf_15 : decode cX9_gramsOf 15 = .ok (.if_icmp .ge 58, 3) := by decide +kernel
theorem dX9_gramsOf_18 : decode cX9_gramsOf 18 = .ok (.lload 4, 2) := by decide +kernel
theorem dX9_gramsOf_20 : decode cX9_gramsOf 20 = .ok (.aload_n 0, 1) := by decide +kernel
theorem dX9_gramsOf_21 : decode cX9_gramsOf 21 = .ok (.iload 6, 2) := by decide +kernel
theorem dX9_gramsOf_23 : decode cX9_gramsOf 23 = .ok (.invokevirtual 274, 3) := by decide +kernel
theorem dX9_gramsOf_26 : decode cX9_gramsOf 26 = .ok (.iconst 2, 1) := by decide +kernel
theorem dX9_gramsOf_27 : decode cX9_gramsOf 27 = .ok (.if_icmp .ne 36, 3) := by decide +kernel
theorem dX9_gramsOf_30 : decode cX9_gramsOf 30 = .ok (.iload_n 2, 1) := by decide +kernel
theorem dX9_gramsOf_31 : decode cX9_gramsOf 31 = .ok (.iconst 2, 1) := by decide +kernel
theorem dX9_gramsOf_32 : decode cX9_gramsOf 32 = .ok (.if_icmp .ne 12, 3) := by decide +kernel
theorem dX9_gramsOf_35 : decode cX9_gramsOf 35 = .ok (.aload_n 0, 1) := by decide +kernel
theorem dX9_gramsOf_36 : decode cX9_gramsOf 36 = .ok (.iload 6, 2) := by decide +kernel
theorem dX9_gramsOf_38 : decode cX9_gramsOf 38 = .ok (.invokevirtual 302, 3) := by decide +kernel
theorem dX9_gramsOf_41 : decode cX9_gramsOf 41 = .ok (.goto 9, 3) := by decide +kernel
theorem dX9_gramsOf_44 : decode cX9_gramsOf 44 = .ok (.aload_n 0, 1) := by decide +kernel
theorem dX9_gramsOf_45 : decode cX9_gramsOf 45 = .ok (.iload 6, 2) := by decide +kernel
theorem dX9_gramsOf_47 : decode cX9_gramsOf 47 = .ok (.invokevirtual 305, 3) := by decide +kernel
theorem dX9_gramsOf_50 : decode cX9_gramsOf 50 = .ok (.iload_n 3, 1) := by decide +kernel
theorem dX9_gramsOf_51 : decode cX9_gramsOf 51 = .ok (.if_icmp .ne 12, 3) := by decide +kernel
theorem dX9_gramsOf_54 : decode cX9_gramsOf 54 = .ok (.aload_n 0, 1) := by decide +kernel
theorem dX9_gramsOf_55 : decode cX9_gramsOf 55 = .ok (.iload 6, 2) := by decide +kernel
theorem dX9_gramsOf_57 : decode cX9_gramsOf 57 = .ok (.invokevirtual 298, 3) := by decide +kernel
theorem dX9_gramsOf_60 : decode cX9_gramsOf 60 = .ok (.goto 4, 3) := by decide +kernel
theorem dX9_gramsOf_63 : decode cX9_gramsOf 63 = .ok (.lconst 0, 1) := by decide +kernel
theorem dX9_gramsOf_64 : decode cX9_gramsOf 64 = .ok (.ladd, 1) := by decide +kernel
theorem dX9_gramsOf_65 : decode cX9_gramsOf 65 = .ok (.lstore 4, 2) := by decide +kernel
theorem dX9_gramsOf_67 : decode cX9_gramsOf 67 = .ok (.iinc 6 1, 3) := by decide +kernel
theorem dX9_gramsOf_70 : decode cX9_gramsOf 70 = .ok (.goto (-59), 3) := by decide +kernel
theorem dX9_gramsOf_73 : decode cX9_gramsOf 73 = .ok (.lload 4, 2) := by decide +kernel
theorem dX9_gramsOf_75 : decode cX9_gramsOf 75 = .ok (.lreturn, 1) := by decide +kernel
theorem dX9_breaks_0 : decode cX9_breaks 0 = .ok (.aload_n 0, 1) := by decide +kernel
theorem dX9_breaks_1 : decode cX9_breaks 1 = .ok (.iload_n 1, 1) := by decide +kernel
theorem dX9_breaks_2 : decode cX9_breaks 2 = .ok (.putfield 267, 3) := by decide +kernel
theorem dX9_breaks_5 : decode cX9_breaks 5 = .ok (.iconst 0, 1) := by decide +kernel
theorem dX9_breaks_6 : decode cX9_breaks 6 = .ok (.istore_n 2, 1) := by decide +kernel
theorem dX9_breaks_7 : decode cX9_breaks 7 = .ok (.iload_n 2, 1) := by decide +kernel
theorem dX9_breaks_8 : decode cX9_breaks 8 = .ok (.aload_n 0, 1) := by decide +kernel
theorem dX9_breaks_9 : decode cX9_breaks 9 = .ok (.getfield 264, 3) := by decide +kernel
theorem dX9_breaks_12 : decode cX9_breaks 12 = .ok (.if_icmp .ge 157, 3) := by decide +kernel
theorem dX9_breaks_15 : decode cX9_breaks 15 = .ok (.aload_n 0, 1) := by decide +kernel
theorem dX9_breaks_16 : decode cX9_breaks 16 = .ok (.getfield 53, 3) := by decide +kernel
theorem dX9_breaks_19 : decode cX9_breaks 19 = .ok (.iload_n 2, 1) := by decide +kernel
theorem dX9_breaks_20 : decode cX9_breaks 20 = .ok (.iaload, 1) := by decide +kernel
theorem dX9_breaks_21 : decode cX9_breaks 21 = .ok (.istore_n 3, 1) := by decide +kernel
theorem dX9_breaks_22 : decode cX9_breaks 22 = .ok (.aload_n 0, 1) := by decide +kernel
theorem dX9_breaks_23 : decode cX9_breaks 23 = .ok (.getfield 56, 3) := by decide +kernel
theorem dX9_breaks_26 : decode cX9_breaks 26 = .ok (.iload_n 2, 1) := by decide +kernel
theorem dX9_breaks_27 : decode cX9_breaks 27 = .ok (.iaload, 1) := by decide +kernel
theorem dX9_breaks_28 : decode cX9_breaks 28 = .ok (.istore 4, 2) := by decide +kernel
theorem dX9_breaks_30 : decode cX9_breaks 30 = .ok (.aload_n 0, 1) := by decide +kernel
theorem dX9_breaks_31 : decode cX9_breaks 31 = .ok (.getfield 50, 3) := by decide +kernel
theorem dX9_breaks_34 : decode cX9_breaks 34 = .ok (.iload_n 2, 1) := by decide +kernel
theorem dX9_breaks_35 : decode cX9_breaks 35 = .ok (.iaload, 1) := by decide +kernel
theorem dX9_breaks_36 : decode cX9_breaks 36 = .ok (.ifCond .ne 37, 3) := by decide +kernel
theorem dX9_breaks_39 : decode cX9_breaks 39 = .ok (.aload_n 0, 1) := by decide +kernel
theorem dX9_breaks_40 : decode cX9_breaks 40 = .ok (.iload_n 3, 1) := by decide +kernel
theorem dX9_breaks_41 : decode cX9_breaks 41 = .ok (.invokevirtual 274, 3) := by decide +kernel
theorem dX9_breaks_44 : decode cX9_breaks 44 = .ok (.iconst 1, 1) := by decide +kernel
theorem dX9_breaks_45 : decode cX9_breaks 45 = .ok (.if_icmp .ne 18, 3) := by decide +kernel
theorem dX9_breaks_48 : decode cX9_breaks 48 = .ok (.aload_n 0, 1) := by decide +kernel
theorem dX9_breaks_49 : decode cX9_breaks 49 = .ok (.iload_n 3, 1) := by decide +kernel
theorem dX9_breaks_50 : decode cX9_breaks 50 = .ok (.invokevirtual 298, 3) := by decide +kernel
theorem dX9_breaks_53 : decode cX9_breaks 53 = .ok (.aload_n 0, 1) := by decide +kernel
theorem dX9_breaks_54 : decode cX9_breaks 54 = .ok (.getfield 59, 3) := by decide +kernel
theorem dX9_breaks_57 : decode cX9_breaks 57 = .ok (.iload_n 2, 1) := by decide +kernel
theorem dX9_breaks_58 : decode cX9_breaks 58 = .ok (.laload, 1) := by decide +kernel
theorem dX9_breaks_59 : decode cX9_breaks 59 = .ok (.lcmp, 1) := by decide +kernel
theorem dX9_breaks_60 : decode cX9_breaks 60 = .ok (.ifCond .lt 7, 3) := by decide +kernel
theorem dX9_breaks_63 : decode cX9_breaks 63 = .ok (.iconst 1, 1) := by decide +kernel
theorem dX9_breaks_64 : decode cX9_breaks 64 = .ok (.goto 4, 3) := by decide +kernel
theorem dX9_breaks_67 : decode cX9_breaks 67 = .ok (.iconst 0, 1) := by decide +kernel
theorem dX9_breaks_68 : decode cX9_breaks 68 = .ok (.istore 5, 2) := by decide +kernel
theorem dX9_breaks_70 : decode cX9_breaks 70 = .ok (.goto 86, 3) := by decide +kernel
theorem dX9_breaks_73 : decode cX9_breaks 73 = .ok (.aload_n 0, 1) := by decide +kernel
theorem dX9_breaks_74 : decode cX9_breaks 74 = .ok (.getfield 50, 3) := by decide +kernel
theorem dX9_breaks_77 : decode cX9_breaks 77 = .ok (.iload_n 2, 1) := by decide +kernel
theorem dX9_breaks_78 : decode cX9_breaks 78 = .ok (.iaload, 1) := by decide +kernel
theorem dX9_breaks_79 : decode cX9_breaks 79 = .ok (.iconst 1, 1) := by decide +kernel
theorem dX9_breaks_80 : decode cX9_breaks 80 = .ok (.if_icmp .ne 47, 3) := by decide +kernel
theorem dX9_breaks_83 : decode cX9_breaks 83 = .ok (.aload_n 0, 1) := by decide +kernel
theorem dX9_breaks_84 : decode cX9_breaks 84 = .ok (.iload_n 3, 1) := by decide +kernel
theorem dX9_breaks_85 : decode cX9_breaks 85 = .ok (.invokevirtual 274, 3) := by decide +kernel
theorem dX9_breaks_88 : decode cX9_breaks 88 = .ok (.iconst 1, 1) := by decide +kernel
theorem dX9_breaks_89 : decode cX9_breaks 89 = .ok (.if_icmp .ne 28, 3) := by decide +kernel
theorem dX9_breaks_92 : decode cX9_breaks 92 = .ok (.aload_n 0, 1) := by decide +kernel
theorem dX9_breaks_93 : decode cX9_breaks 93 = .ok (.iload 4, 2) := by decide +kernel
theorem dX9_breaks_95 : decode cX9_breaks 95 = .ok (.invokevirtual 274, 3) := by decide +kernel
theorem dX9_breaks_98 : decode cX9_breaks 98 = .ok (.iconst 1, 1) := by decide +kernel
theorem dX9_breaks_99 : decode cX9_breaks 99 = .ok (.if_icmp .ne 18, 3) := by decide +kernel
theorem dX9_breaks_102 : decode cX9_breaks 102 = .ok (.aload_n 0, 1) := by decide +kernel
theorem dX9_breaks_103 : decode cX9_breaks 103 = .ok (.iload_n 3, 1) := by decide +kernel
theorem dX9_breaks_104 : decode cX9_breaks 104 = .ok (.invokevirtual 298, 3) := by decide +kernel
theorem dX9_breaks_107 : decode cX9_breaks 107 = .ok (.aload_n 0, 1) := by decide +kernel
theorem dX9_breaks_108 : decode cX9_breaks 108 = .ok (.iload 4, 2) := by decide +kernel
theorem dX9_breaks_110 : decode cX9_breaks 110 = .ok (.invokevirtual 298, 3) := by decide +kernel
theorem dX9_breaks_113 : decode cX9_breaks 113 = .ok (.lcmp, 1) := by decide +kernel
theorem dX9_breaks_114 : decode cX9_breaks 114 = .ok (.ifCond .gt 7, 3) := by decide +kernel
theorem dX9_breaks_117 : decode cX9_breaks 117 = .ok (.iconst 1, 1) := by decide +kernel
theorem dX9_breaks_118 : decode cX9_breaks 118 = .ok (.goto 4, 3) := by decide +kernel
theorem dX9_breaks_121 : decode cX9_breaks 121 = .ok (.iconst 0, 1) := by decide +kernel
theorem dX9_breaks_122 : decode cX9_breaks 122 = .ok (.istore 5, 2) := by decide +kernel
theorem dX9_breaks_124 : decode cX9_breaks 124 = .ok (.goto 32, 3) := by decide +kernel
theorem dX9_breaks_127 : decode cX9_breaks 127 = .ok (.aload_n 0, 1) := by decide +kernel
theorem dX9_breaks_128 : decode cX9_breaks 128 = .ok (.iload_n 1, 1) := by decide +kernel
theorem dX9_breaks_129 : decode cX9_breaks 129 = .ok (.aload_n 0, 1) := by decide +kernel
theorem dX9_breaks_130 : decode cX9_breaks 130 = .ok (.getfield 50, 3) := by decide +kernel
theorem dX9_breaks_133 : decode cX9_breaks 133 = .ok (.iload_n 2, 1) := by decide +kernel
theorem dX9_breaks_134 : decode cX9_breaks 134 = .ok (.iaload, 1) := by decide +kernel
theorem dX9_breaks_135 : decode cX9_breaks 135 = .ok (.iload_n 3, 1) := by decide +kernel
theorem dX9_breaks_136 : decode cX9_breaks 136 = .ok (.invokevirtual 361, 3) := by decide +kernel
theorem dX9_breaks_139 : decode cX9_breaks 139 = .ok (.aload_n 0, 1) := by decide +kernel
theorem dX9_breaks_140 : decode cX9_breaks 140 = .ok (.getfield 59, 3) := by decide +kernel
theorem dX9_breaks_143 : decode cX9_breaks 143 = .ok (.iload_n 2, 1) := by decide +kernel
theorem dX9_breaks_144 : decode cX9_breaks 144 = .ok (.laload, 1) := by decide +kernel
theorem dX9_breaks_145 : decode cX9_breaks 145 = .ok (.lcmp, 1) := by decide +kernel
theorem dX9_breaks_146 : decode cX9_breaks 146 = .ok (.ifCond .lt 7, 3) := by decide +kernel
theorem dX9_breaks_149 : decode cX9_breaks 149 = .ok (.iconst 1, 1) := by decide +kernel
theorem dX9_breaks_150 : decode cX9_breaks 150 = .ok (.goto 4, 3) := by decide +kernel
theorem dX9_breaks_153 : decode cX9_breaks 153 = .ok (.iconst 0, 1) := by decide +kernel
theorem dX9_breaks_154 : decode cX9_breaks 154 = .ok (.istore 5, 2) := by decide +kernel
theorem dX9_breaks_156 : decode cX9_breaks 156 = .ok (.iload 5, 2) := by decide +kernel
theorem dX9_breaks_158 : decode cX9_breaks 158 = .ok (.ifCond .ne 5, 3) := by decide +kernel
theorem dX9_breaks_161 : decode cX9_breaks 161 = .ok (.iload_n 2, 1) := by decide +kernel
theorem dX9_breaks_162 : decode cX9_breaks 162 = .ok (.ireturn, 1) := by decide +kernel
theorem dX9_breaks_163 : decode cX9_breaks 163 = .ok (.iinc 2 1, 3) := by decide +kernel
theorem dX9_breaks_166 : decode cX9_breaks 166 = .ok (.goto (-159), 3) := by decide +kernel
theorem dX9_breaks_169 : decode cX9_breaks 169 = .ok (.iconst (-1), 1) := by decide +kernel
theorem dX9_breaks_170 : decode cX9_breaks 170 = .ok (.ireturn, 1) := by decide +kernel
theorem dX9_tellsOf_0 : decode cX9_tellsOf 0 = .ok (.iload_n 1, 1) := by decide +kernel
theorem dX9_tellsOf_1 : decode cX9_tellsOf 1 = .ok (.ifCond .ne 8, 3) := by decide +kernel
theorem dX9_tellsOf_4 : decode cX9_tellsOf 4 = .ok (.lload_n 3, 1) := by decide +kernel
theorem dX9_tellsOf_5 : decode cX9_tellsOf 5 = .ok (.iload_n 2, 1) := by decide +kernel
theorem dX9_tellsOf_6 : decode cX9_tellsOf 6 = .ok (.i2l, 1) := by decide +kernel
theorem dX9_tellsOf_7 : decode cX9_tellsOf 7 = .ok (.ladd, 1) := by decide +kernel
theorem dX9_tellsOf_8 : decode cX9_tellsOf 8 = .ok (.lreturn, 1) := by decide +kernel
theorem dX9_tellsOf_9 : decode cX9_tellsOf 9 = .ok (.aload_n 0, 1) := by decide +kernel
theorem dX9_tellsOf_10 : decode cX9_tellsOf 10 = .ok (.getfield 7, 3) := by decide +kernel
theorem dX9_tellsOf_13 : decode cX9_tellsOf 13 = .ok (.iload_n 2, 1) := by decide +kernel
theorem dX9_tellsOf_14 : decode cX9_tellsOf 14 = .ok (.iaload, 1) := by decide +kernel
theorem dX9_tellsOf_15 : decode cX9_tellsOf 15 = .ok (.ifCond .ne 7, 3) := by decide +kernel
theorem dX9_tellsOf_18 : decode cX9_tellsOf 18 = .ok (.iconst 1, 1) := by decide +kernel
theorem dX9_tellsOf_19 : decode cX9_tellsOf 19 = .ok (.goto 58, 3) := by decide +kernel
theorem dX9_tellsOf_22 : decode cX9_tellsOf 22 = .ok (.aload_n 0, 1) := by decide +kernel
theorem dX9_tellsOf_23 : decode cX9_tellsOf 23 = .ok (.getfield 7, 3) := by decide +kernel
theorem dX9_tellsOf_26 : decode cX9_tellsOf 26 = .ok (.iload_n 2, 1) := by decide +kernel
theorem dX9_tellsOf_27 : decode cX9_tellsOf 27 = .ok (.iaload, 1) := by decide +kernel
theorem dX9_tellsOf_28 : decode cX9_tellsOf 28 = .ok (.iconst 2, 1) := by decide +kernel
theorem dX9_tellsOf_29 : decode cX9_tellsOf 29 = .ok (.if_icmp .ne 7, 3) := by decide +kernel
theorem dX9_tellsOf_32 : decode cX9_tellsOf 32 = .ok (.iconst 3, 1) := by decide +kernel
theorem dX9_tellsOf_33 : decode cX9_tellsOf 33 = .ok (.goto 44, 3) := by decide +kernel
theorem dX9_tellsOf_36 : decode cX9_tellsOf 36 = .ok (.aload_n 0, 1) := by decide +kernel
theorem dX9_tellsOf_37 : decode cX9_tellsOf 37 = .ok (.getfield 13, 3) := by decide +kernel
theorem dX9_tellsOf_40 : decode cX9_tellsOf 40 = .ok (.iload_n 2, 1) := by decide +kernel
theorem dX9_tellsOf_41 : decode cX9_tellsOf 41 = .ok (.laload, 1) := by decide +kernel
theorem dX9_tellsOf_42 : decode cX9_tellsOf 42 = .ok (.lconst 0, 1) := by decide +kernel
theorem dX9_tellsOf_43 : decode cX9_tellsOf 43 = .ok (.lcmp, 1) := by decide +kernel
theorem dX9_tellsOf_44 : decode cX9_tellsOf 44 = .ok (.ifCond .ne 7, 3) := by decide +kernel
theorem dX9_tellsOf_47 : decode cX9_tellsOf 47 = .ok (.iconst 4, 1) := by decide +kernel
theorem dX9_tellsOf_48 : decode cX9_tellsOf 48 = .ok (.goto 29, 3) := by decide +kernel
theorem dX9_tellsOf_51 : decode cX9_tellsOf 51 = .ok (.lload_n 3, 1) := by decide +kernel
theorem dX9_tellsOf_52 : decode cX9_tellsOf 52 = .ok (.ldc2_w 283, 3) := by decide +kernel
theorem dX9_tellsOf_55 : decode cX9_tellsOf 55 = .ok (.lcmp, 1) := by decide +kernel
theorem dX9_tellsOf_56 : decode cX9_tellsOf 56 = .ok (.ifCond .ne 20, 3) := by decide +kernel
theorem dX9_tellsOf_59 : decode cX9_tellsOf 59 = .ok (.aload_n 0, 1) := by decide +kernel
theorem dX9_tellsOf_60 : decode cX9_tellsOf 60 = .ok (.getfield 13, 3) := by decide +kernel
theorem dX9_tellsOf_63 : decode cX9_tellsOf 63 = .ok (.iload_n 2, 1) := by decide +kernel
theorem dX9_tellsOf_64 : decode cX9_tellsOf 64 = .ok (.laload, 1) := by decide +kernel
theorem dX9_tellsOf_65 : decode cX9_tellsOf 65 = .ok (.ldc2_w 285, 3) := by decide +kernel
theorem dX9_tellsOf_68 : decode cX9_tellsOf 68 = .ok (.lcmp, 1) := by decide +kernel
theorem dX9_tellsOf_69 : decode cX9_tellsOf 69 = .ok (.ifCond .ne 7, 3) := by decide +kernel
theorem dX9_tellsOf_72 : decode cX9_tellsOf 72 = .ok (.iconst 5, 1) := by decide +kernel
theorem dX9_tellsOf_73 : decode cX9_tellsOf 73 = .ok (.goto 4, 3) := by decide +kernel
theorem dX9_tellsOf_76 : decode cX9_tellsOf 76 = .ok (.iconst 0, 1) := by decide +kernel
theorem dX9_tellsOf_77 : decode cX9_tellsOf 77 = .ok (.istore 5, 2) := by decide +kernel
theorem dX9_tellsOf_79 : decode cX9_tellsOf 79 = .ok (.iload 5, 2) := by decide +kernel
theorem dX9_tellsOf_81 : decode cX9_tellsOf 81 = .ok (.ifCond .le 13, 3) := by decide +kernel
theorem dX9_tellsOf_84 : decode cX9_tellsOf 84 = .ok (.ldc2_w 285, 3) := by decide +kernel
theorem dX9_tellsOf_87 : decode cX9_tellsOf 87 = .ok (.iload 5, 2) := by decide +kernel
theorem dX9_tellsOf_89 : decode cX9_tellsOf 89 = .ok (.i2l, 1) := by decide +kernel
theorem dX9_tellsOf_90 : decode cX9_tellsOf 90 = .ok (.lsub, 1) := by decide +kernel
theorem dX9_tellsOf_91 : decode cX9_tellsOf 91 = .ok (.goto 11, 3) := by decide +kernel
theorem dX9_tellsOf_94 : decode cX9_tellsOf 94 = .ok (.lload_n 3, 1) := by decide +kernel
theorem dX9_tellsOf_95 : decode cX9_tellsOf 95 = .ok (.aload_n 0, 1) := by decide +kernel
theorem dX9_tellsOf_96 : decode cX9_tellsOf 96 = .ok (.getfield 13, 3) := by decide +kernel
theorem dX9_tellsOf_99 : decode cX9_tellsOf 99 = .ok (.iload_n 2, 1) := by decide +kernel
theorem dX9_tellsOf_100 : decode cX9_tellsOf 100 = .ok (.laload, 1) := by decide +kernel
theorem dX9_tellsOf_101 : decode cX9_tellsOf 101 = .ok (.ldiv, 1) := by decide +kernel
theorem dX9_tellsOf_102 : decode cX9_tellsOf 102 = .ok (.lreturn, 1) := by decide +kernel
theorem dX9_takeEffect_0 : decode cX9_takeEffect 0 = .ok (.iconst 0, 1) := by decide +kernel
theorem dX9_takeEffect_1 : decode cX9_takeEffect 1 = .ok (.istore_n 3, 1) := by decide +kernel
theorem dX9_takeEffect_2 : decode cX9_takeEffect 2 = .ok (.iload_n 3, 1) := by decide +kernel
theorem dX9_takeEffect_3 : decode cX9_takeEffect 3 = .ok (.bipush 40, 2) := by decide +kernel
theorem dX9_takeEffect_5 : decode cX9_takeEffect 5 = .ok (.if_icmp .ge 134, 3) := by decide +kernel
theorem dX9_takeEffect_8 : decode cX9_takeEffect 8 = .ok (.bipush 40, 2) := by decide +kernel
theorem dX9_takeEffect_10 : decode cX9_takeEffect 10 = .ok (.iload_n 2, 1) := by decide +kernel
theorem dX9_takeEffect_11 : decode cX9_takeEffect 11 = .ok (.imul, 1) := by decide +kernel
theorem dX9_takeEffect_12 : decode cX9_takeEffect 12 = .ok (.iload_n 3, 1) := by decide +kernel
theorem dX9_takeEffect_13 : decode cX9_takeEffect 13 = .ok (.iadd, 1) := by decide +kernel
theorem dX9_takeEffect_14 : decode cX9_takeEffect 14 = .ok (.istore 4, 2) := by decide +kernel
theorem dX9_takeEffect_16 : decode cX9_takeEffect 16 = .ok (.aload_n 0, 1) := by decide +kernel
theorem dX9_takeEffect_17 : decode cX9_takeEffect 17 = .ok (.getfield 145, 3) := by decide +kernel
theorem dX9_takeEffect_20 : decode cX9_takeEffect 20 = .ok (.iload 4, 2) := by decide +kernel
theorem dX9_takeEffect_22 : decode cX9_takeEffect 22 = .ok (.baload, 1) := by decide +kernel
theorem dX9_takeEffect_23 : decode cX9_takeEffect 23 = .ok (.ifCond .eq 110, 3) := by decide +kernel
theorem dX9_takeEffect_26 : decode cX9_takeEffect 26 = .ok (.aload_n 0, 1) := by decide +kernel
theorem dX9_takeEffect_27 : decode cX9_takeEffect 27 = .ok (.getfield 7, 3) := by decide +kernel
theorem dX9_takeEffect_30 : decode cX9_takeEffect 30 = .ok (.iload_n 3, 1) := by decide +kernel
theorem dX9_takeEffect_31 : decode cX9_takeEffect 31 = .ok (.aload_n 0, 1) := by decide +kernel
theorem dX9_takeEffect_32 : decode cX9_takeEffect 32 = .ok (.getfield 148, 3) := by decide +kernel
theorem dX9_takeEffect_35 : decode cX9_takeEffect 35 = .ok (.iload 4, 2) := by decide +kernel
theorem dX9_takeEffect_37 : decode cX9_takeEffect 37 = .ok (.iaload, 1) := by decide +kernel
theorem dX9_takeEffect_38 : decode cX9_takeEffect 38 = .ok (.iastore, 1) := by decide +kernel
theorem dX9_takeEffect_39 : decode cX9_takeEffect 39 = .ok (.aload_n 0, 1) := by decide +kernel
theorem dX9_takeEffect_40 : decode cX9_takeEffect 40 = .ok (.getfield 13, 3) := by decide +kernel
theorem dX9_takeEffect_43 : decode cX9_takeEffect 43 = .ok (.iload_n 3, 1) := by decide +kernel
theorem dX9_takeEffect_44 : decode cX9_takeEffect 44 = .ok (.aload_n 0, 1) := by decide +kernel
theorem dX9_takeEffect_45 : decode cX9_takeEffect 45 = .ok (.getfield 151, 3) := by decide +kernel
theorem dX9_takeEffect_48 : decode cX9_takeEffect 48 = .ok (.iload 4, 2) := by decide +kernel
theorem dX9_takeEffect_50 : decode cX9_takeEffect 50 = .ok (.laload, 1) := by decide +kernel
theorem dX9_takeEffect_51 : decode cX9_takeEffect 51 = .ok (.lastore, 1) := by decide +kernel
theorem dX9_takeEffect_52 : decode cX9_takeEffect 52 = .ok (.aload_n 0, 1) := by decide +kernel
theorem dX9_takeEffect_53 : decode cX9_takeEffect 53 = .ok (.getfield 17, 3) := by decide +kernel
theorem dX9_takeEffect_56 : decode cX9_takeEffect 56 = .ok (.iload_n 3, 1) := by decide +kernel
theorem dX9_takeEffect_57 : decode cX9_takeEffect 57 = .ok (.aload_n 0, 1) := by decide +kernel
theorem dX9_takeEffect_58 : decode cX9_takeEffect 58 = .ok (.getfield 154, 3) := by decide +kernel
theorem dX9_takeEffect_61 : decode cX9_takeEffect 61 = .ok (.iload 4, 2) := by decide +kernel
theorem dX9_takeEffect_63 : decode cX9_takeEffect 63 = .ok (.iaload, 1) := by decide +kernel
theorem dX9_takeEffect_64 : decode cX9_takeEffect 64 = .ok (.iastore, 1) := by decide +kernel
theorem dX9_takeEffect_65 : decode cX9_takeEffect 65 = .ok (.aload_n 0, 1) := by decide +kernel
theorem dX9_takeEffect_66 : decode cX9_takeEffect 66 = .ok (.getfield 20, 3) := by decide +kernel
theorem dX9_takeEffect_69 : decode cX9_takeEffect 69 = .ok (.iload_n 3, 1) := by decide +kernel
theorem dX9_takeEffect_70 : decode cX9_takeEffect 70 = .ok (.aload_n 0, 1) := by decide +kernel
theorem dX9_takeEffect_71 : decode cX9_takeEffect 71 = .ok (.getfield 157, 3) := by decide +kernel
theorem dX9_takeEffect_74 : decode cX9_takeEffect 74 = .ok (.iload 4, 2) := by decide +kernel
theorem dX9_takeEffect_76 : decode cX9_takeEffect 76 = .ok (.iaload, 1) := by decide +kernel
theorem dX9_takeEffect_77 : decode cX9_takeEffect 77 = .ok (.iastore, 1) := by decide +kernel
theorem dX9_takeEffect_78 : decode cX9_takeEffect 78 = .ok (.aload_n 0, 1) := by decide +kernel
theorem dX9_takeEffect_79 : decode cX9_takeEffect 79 = .ok (.getfield 23, 3) := by decide +kernel
theorem dX9_takeEffect_82 : decode cX9_takeEffect 82 = .ok (.iload_n 3, 1) := by decide +kernel
theorem dX9_takeEffect_83 : decode cX9_takeEffect 83 = .ok (.dup2, 1) := by decide +kernel
theorem dX9_takeEffect_84 : decode cX9_takeEffect 84 = .ok (.iaload, 1) := by decide +kernel
theorem dX9_takeEffect_85 : decode cX9_takeEffect 85 = .ok (.iconst 1, 1) := by decide +kernel
theorem dX9_takeEffect_86 : decode cX9_takeEffect 86 = .ok (.iadd, 1) := by decide +kernel
theorem dX9_takeEffect_87 : decode cX9_takeEffect 87 = .ok (.iastore, 1) := by decide +kernel
theorem dX9_takeEffect_88 : decode cX9_takeEffect 88 = .ok (.aload_n 0, 1) := by decide +kernel
theorem dX9_takeEffect_89 : decode cX9_takeEffect 89 = .ok (.getfield 26, 3) := by decide +kernel
theorem dX9_takeEffect_92 : decode cX9_takeEffect 92 = .ok (.iload_n 3, 1) := by decide +kernel
theorem dX9_takeEffect_93 : decode cX9_takeEffect 93 = .ok (.iload_n 1, 1) := by decide +kernel
theorem dX9_takeEffect_94 : decode cX9_takeEffect 94 = .ok (.iastore, 1) := by decide +kernel
theorem dX9_takeEffect_95 : decode cX9_takeEffect 95 = .ok (.aload_n 0, 1) := by decide +kernel
theorem dX9_takeEffect_96 : decode cX9_takeEffect 96 = .ok (.getfield 29, 3) := by decide +kernel
theorem dX9_takeEffect_99 : decode cX9_takeEffect 99 = .ok (.iload_n 3, 1) := by decide +kernel
theorem dX9_takeEffect_100 : decode cX9_takeEffect 100 = .ok (.iaload, 1) := by decide +kernel
theorem dX9_takeEffect_101 : decode cX9_takeEffect 101 = .ok (.bipush 12, 2) := by decide +kernel
theorem dX9_takeEffect_103 : decode cX9_takeEffect 103 = .ok (.if_icmp .ge 20, 3) := by decide +kernel
theorem dX9_takeEffect_106 : decode cX9_takeEffect 106 = .ok (.aload_n 0, 1) := by decide +kernel
theorem dX9_takeEffect_107 : decode cX9_takeEffect 107 = .ok (.getfield 32, 3) := by decide +kernel
theorem dX9_takeEffect_110 : decode cX9_takeEffect 110 = .ok (.bipush 12, 2) := by decide +kernel
theorem dX9_takeEffect_112 : decode cX9_takeEffect 112 = .ok (.iload_n 3, 1) := by decide +kernel
theorem dX9_takeEffect_113 : decode cX9_takeEffect 113 = .ok (.imul, 1) := by decide +kernel
theorem dX9_takeEffect_114 : decode cX9_takeEffect 114 = .ok (.aload_n 0, 1) := by decide +kernel
theorem dX9_takeEffect_115 : decode cX9_takeEffect 115 = .ok (.getfield 29, 3) := by decide +kernel
theorem dX9_takeEffect_118 : decode cX9_takeEffect 118 = .ok (.iload_n 3, 1) := by decide +kernel
theorem dX9_takeEffect_119 : decode cX9_takeEffect 119 = .ok (.iaload, 1) := by decide +kernel
theorem dX9_takeEffect_120 : decode cX9_takeEffect 120 = .ok (.iadd, 1) := by decide +kernel
theorem dX9_takeEffect_121 : decode cX9_takeEffect 121 = .ok (.iload_n 1, 1) := by decide +kernel
theorem dX9_takeEffect_122 : decode cX9_takeEffect 122 = .ok (.iastore, 1) := by decide +kernel
theorem dX9_takeEffect_123 : decode cX9_takeEffect 123 = .ok (.aload_n 0, 1) := by decide +kernel
theorem dX9_takeEffect_124 : decode cX9_takeEffect 124 = .ok (.getfield 29, 3) := by decide +kernel
theorem dX9_takeEffect_127 : decode cX9_takeEffect 127 = .ok (.iload_n 3, 1) := by decide +kernel
theorem dX9_takeEffect_128 : decode cX9_takeEffect 128 = .ok (.dup2, 1) := by decide +kernel
theorem dX9_takeEffect_129 : decode cX9_takeEffect 129 = .ok (.iaload, 1) := by decide +kernel
theorem dX9_takeEffect_130 : decode cX9_takeEffect 130 = .ok (.iconst 1, 1) := by decide +kernel
theorem dX9_takeEffect_131 : decode cX9_takeEffect 131 = .ok (.iadd, 1) := by decide +kernel
theorem dX9_takeEffect_132 : decode cX9_takeEffect 132 = .ok (.iastore, 1) := by decide +kernel
theorem dX9_takeEffect_133 : decode cX9_takeEffect 133 = .ok (.iinc 3 1, 3) := by decide +kernel
theorem dX9_takeEffect_136 : decode cX9_takeEffect 136 = .ok (.goto (-134), 3) := by decide +kernel
theorem dX9_takeEffect_139 : decode cX9_takeEffect 139 = .ok (.aload_n 0, 1) := by decide +kernel
theorem dX9_takeEffect_140 : decode cX9_takeEffect 140 = .ok (.getfield 65, 3) := by decide +kernel
theorem dX9_takeEffect_143 : decode cX9_takeEffect 143 = .ok (.iload_n 1, 1) := by decide +kernel
theorem dX9_takeEffect_144 : decode cX9_takeEffect 144 = .ok (.iconst 1, 1) := by decide +kernel
theorem dX9_takeEffect_145 : decode cX9_takeEffect 145 = .ok (.iastore, 1) := by decide +kernel
theorem dX9_takeEffect_146 : decode cX9_takeEffect 146 = .ok (.aload_n 0, 1) := by decide +kernel
theorem dX9_takeEffect_147 : decode cX9_takeEffect 147 = .ok (.getfield 121, 3) := by decide +kernel
theorem dX9_takeEffect_150 : decode cX9_takeEffect 150 = .ok (.aload_n 0, 1) := by decide +kernel
theorem dX9_takeEffect_151 : decode cX9_takeEffect 151 = .ok (.getfield 365, 3) := by decide +kernel
theorem dX9_takeEffect_154 : decode cX9_takeEffect 154 = .ok (.iload_n 1, 1) := by decide +kernel
theorem dX9_takeEffect_155 : decode cX9_takeEffect 155 = .ok (.iastore, 1) := by decide +kernel
theorem dX9_takeEffect_156 : decode cX9_takeEffect 156 = .ok (.aload_n 0, 1) := by decide +kernel
theorem dX9_takeEffect_157 : decode cX9_takeEffect 157 = .ok (.dup, 1) := by decide +kernel
theorem dX9_takeEffect_158 : decode cX9_takeEffect 158 = .ok (.getfield 365, 3) := by decide +kernel
theorem dX9_takeEffect_161 : decode cX9_takeEffect 161 = .ok (.iconst 1, 1) := by decide +kernel
theorem dX9_takeEffect_162 : decode cX9_takeEffect 162 = .ok (.iadd, 1) := by decide +kernel
theorem dX9_takeEffect_163 : decode cX9_takeEffect 163 = .ok (.putfield 365, 3) := by decide +kernel
theorem dX9_takeEffect_166 : decode cX9_takeEffect 166 = .ok (.aload_n 0, 1) := by decide +kernel
theorem dX9_takeEffect_167 : decode cX9_takeEffect 167 = .ok (.getfield 92, 3) := by decide +kernel
theorem dX9_takeEffect_170 : decode cX9_takeEffect 170 = .ok (.iload_n 1, 1) := by decide +kernel
theorem dX9_takeEffect_171 : decode cX9_takeEffect 171 = .ok (.aload_n 0, 1) := by decide +kernel
theorem dX9_takeEffect_172 : decode cX9_takeEffect 172 = .ok (.getfield 166, 3) := by decide +kernel
theorem dX9_takeEffect_175 : decode cX9_takeEffect 175 = .ok (.iload_n 2, 1) := by decide +kernel
theorem dX9_takeEffect_176 : decode cX9_takeEffect 176 = .ok (.iaload, 1) := by decide +kernel
theorem dX9_takeEffect_177 : decode cX9_takeEffect 177 = .ok (.iastore, 1) := by decide +kernel
theorem dX9_takeEffect_178 : decode cX9_takeEffect 178 = .ok (.iconst 0, 1) := by decide +kernel
theorem dX9_takeEffect_179 : decode cX9_takeEffect 179 = .ok (.istore_n 3, 1) := by decide +kernel
theorem dX9_takeEffect_180 : decode cX9_takeEffect 180 = .ok (.iload_n 3, 1) := by decide +kernel
theorem dX9_takeEffect_181 : decode cX9_takeEffect 181 = .ok (.bipush 8, 2) := by decide +kernel
theorem dX9_takeEffect_183 : decode cX9_takeEffect 183 = .ok (.if_icmp .ge 41, 3) := by decide +kernel
theorem dX9_takeEffect_186 : decode cX9_takeEffect 186 = .ok (.iload_n 3, 1) := by decide +kernel
theorem dX9_takeEffect_187 : decode cX9_takeEffect 187 = .ok (.aload_n 0, 1) := by decide +kernel
theorem dX9_takeEffect_188 : decode cX9_takeEffect 188 = .ok (.getfield 166, 3) := by decide +kernel
theorem dX9_takeEffect_191 : decode cX9_takeEffect 191 = .ok (.iload_n 2, 1) := by decide +kernel
theorem dX9_takeEffect_192 : decode cX9_takeEffect 192 = .ok (.iaload, 1) := by decide +kernel
theorem dX9_takeEffect_193 : decode cX9_takeEffect 193 = .ok (.if_icmp .ge 31, 3) := by decide +kernel
theorem dX9_takeEffect_196 : decode cX9_takeEffect 196 = .ok (.aload_n 0, 1) := by decide +kernel
theorem dX9_takeEffect_197 : decode cX9_takeEffect 197 = .ok (.getfield 89, 3) := by decide +kernel
theorem dX9_takeEffect_200 : decode cX9_takeEffect 200 = .ok (.bipush 8, 2) := by decide +kernel
theorem dX9_takeEffect_202 : decode cX9_takeEffect 202 = .ok (.iload_n 1, 1) := by decide +kernel
theorem dX9_takeEffect_203 : decode cX9_takeEffect 203 = .ok (.imul, 1) := by decide +kernel
theorem dX9_takeEffect_204 : decode cX9_takeEffect 204 = .ok (.iload_n 3, 1) := by decide +kernel
theorem dX9_takeEffect_205 : decode cX9_takeEffect 205 = .ok (.iadd, 1) := by decide +kernel
theorem dX9_takeEffect_206 : decode cX9_takeEffect 206 = .ok (.aload_n 0, 1) := by decide +kernel
theorem dX9_takeEffect_207 : decode cX9_takeEffect 207 = .ok (.getfield 169, 3) := by decide +kernel
theorem dX9_takeEffect_210 : decode cX9_takeEffect 210 = .ok (.bipush 8, 2) := by decide +kernel
theorem dX9_takeEffect_212 : decode cX9_takeEffect 212 = .ok (.iload_n 2, 1) := by decide +kernel
theorem dX9_takeEffect_213 : decode cX9_takeEffect 213 = .ok (.imul, 1) := by decide +kernel
theorem dX9_takeEffect_214 : decode cX9_takeEffect 214 = .ok (.iload_n 3, 1) := by decide +kernel
theorem dX9_takeEffect_215 : decode cX9_takeEffect 215 = .ok (.iadd, 1) := by decide +kernel
theorem dX9_takeEffect_216 : decode cX9_takeEffect 216 = .ok (.laload, 1) := by decide +kernel
theorem dX9_takeEffect_217 : decode cX9_takeEffect 217 = .ok (.lastore, 1) := by decide +kernel
theorem dX9_takeEffect_218 : decode cX9_takeEffect 218 = .ok (.iinc 3 1, 3) := by decide +kernel
theorem dX9_takeEffect_221 : decode cX9_takeEffect 221 = .ok (.goto (-41), 3) := by decide +kernel
theorem dX9_takeEffect_224 : decode cX9_takeEffect 224 = .ok (.iconst 0, 1) := by decide +kernel
theorem dX9_takeEffect_225 : decode cX9_takeEffect 225 = .ok (.istore_n 3, 1) := by decide +kernel
theorem dX9_takeEffect_226 : decode cX9_takeEffect 226 = .ok (.iload_n 3, 1) := by decide +kernel
theorem dX9_takeEffect_227 : decode cX9_takeEffect 227 = .ok (.aload_n 0, 1) := by decide +kernel
theorem dX9_takeEffect_228 : decode cX9_takeEffect 228 = .ok (.getfield 172, 3) := by decide +kernel
theorem dX9_takeEffect_231 : decode cX9_takeEffect 231 = .ok (.iload_n 2, 1) := by decide +kernel
theorem dX9_takeEffect_232 : decode cX9_takeEffect 232 = .ok (.iaload, 1) := by decide +kernel
theorem dX9_takeEffect_233 : decode cX9_takeEffect 233 = .ok (.if_icmp .ge 104, 3) := by decide +kernel
theorem dX9_takeEffect_236 : decode cX9_takeEffect 236 = .ok (.aload_n 0, 1) := by decide +kernel
theorem dX9_takeEffect_237 : decode cX9_takeEffect 237 = .ok (.getfield 368, 3) := by decide +kernel
theorem dX9_takeEffect_240 : decode cX9_takeEffect 240 = .ok (.bipush 40, 2) := by decide +kernel
theorem dX9_takeEffect_242 : decode cX9_takeEffect 242 = .ok (.if_icmp .ge 79, 3) := by decide +kernel
theorem dX9_takeEffect_245 : decode cX9_takeEffect 245 = .ok (.aload_n 0, 1) := by decide +kernel
theorem dX9_takeEffect_246 : decode cX9_takeEffect 246 = .ok (.getfield 124, 3) := by decide +kernel
theorem dX9_takeEffect_249 : decode cX9_takeEffect 249 = .ok (.aload_n 0, 1) := by decide +kernel
theorem dX9_takeEffect_250 : decode cX9_takeEffect 250 = .ok (.getfield 368, 3) := by decide +kernel
theorem dX9_takeEffect_253 : decode cX9_takeEffect 253 = .ok (.iload_n 1, 1) := by decide +kernel
theorem dX9_takeEffect_254 : decode cX9_takeEffect 254 = .ok (.iastore, 1) := by decide +kernel
theorem dX9_takeEffect_255 : decode cX9_takeEffect 255 = .ok (.aload_n 0, 1) := by decide +kernel
theorem dX9_takeEffect_256 : decode cX9_takeEffect 256 = .ok (.getfield 127, 3) := by decide +kernel
theorem dX9_takeEffect_259 : decode cX9_takeEffect 259 = .ok (.aload_n 0, 1) := by decide +kernel
theorem dX9_takeEffect_260 : decode cX9_takeEffect 260 = .ok (.getfield 368, 3) := by decide +kernel
theorem dX9_takeEffect_263 : decode cX9_takeEffect 263 = .ok (.aload_n 0, 1) := by decide +kernel
theorem dX9_takeEffect_264 : decode cX9_takeEffect 264 = .ok (.getfield 175, 3) := by decide +kernel
theorem dX9_takeEffect_267 : decode cX9_takeEffect 267 = .ok (.bipush 40, 2) := by decide +kernel
theorem dX9_takeEffect_269 : decode cX9_takeEffect 269 = .ok (.iload_n 2, 1) := by decide +kernel
theorem dX9_takeEffect_270 : decode cX9_takeEffect 270 = .ok (.imul, 1) := by decide +kernel
theorem dX9_takeEffect_271 : decode cX9_takeEffect 271 = .ok (.iload_n 3, 1) := by decide +kernel
theorem dX9_takeEffect_272 : decode cX9_takeEffect 272 = .ok (.iadd, 1) := by decide +kernel
theorem dX9_takeEffect_273 : decode cX9_takeEffect 273 = .ok (.iaload, 1) := by decide +kernel
theorem dX9_takeEffect_274 : decode cX9_takeEffect 274 = .ok (.iastore, 1) := by decide +kernel
theorem dX9_takeEffect_275 : decode cX9_takeEffect 275 = .ok (.aload_n 0, 1) := by decide +kernel
theorem dX9_takeEffect_276 : decode cX9_takeEffect 276 = .ok (.getfield 130, 3) := by decide +kernel
theorem dX9_takeEffect_279 : decode cX9_takeEffect 279 = .ok (.aload_n 0, 1) := by decide +kernel
theorem dX9_takeEffect_280 : decode cX9_takeEffect 280 = .ok (.getfield 368, 3) := by decide +kernel
theorem dX9_takeEffect_283 : decode cX9_takeEffect 283 = .ok (.aload_n 0, 1) := by decide +kernel
theorem dX9_takeEffect_284 : decode cX9_takeEffect 284 = .ok (.aload_n 0, 1) := by decide +kernel
theorem dX9_takeEffect_285 : decode cX9_takeEffect 285 = .ok (.getfield 175, 3) := by decide +kernel
theorem dX9_takeEffect_288 : decode cX9_takeEffect 288 = .ok (.bipush 40, 2) := by decide +kernel
theorem dX9_takeEffect_290 : decode cX9_takeEffect 290 = .ok (.iload_n 2, 1) := by decide +kernel
theorem dX9_takeEffect_291 : decode cX9_takeEffect 291 = .ok (.imul, 1) := by decide +kernel
theorem dX9_takeEffect_292 : decode cX9_takeEffect 292 = .ok (.iload_n 3, 1) := by decide +kernel
theorem dX9_takeEffect_293 : decode cX9_takeEffect 293 = .ok (.iadd, 1) := by decide +kernel
theorem dX9_takeEffect_294 : decode cX9_takeEffect 294 = .ok (.iaload, 1) := by decide +kernel
theorem dX9_takeEffect_295 : decode cX9_takeEffect 295 = .ok (.aload_n 0, 1) := by decide +kernel
theorem dX9_takeEffect_296 : decode cX9_takeEffect 296 = .ok (.getfield 178, 3) := by decide +kernel
theorem dX9_takeEffect_299 : decode cX9_takeEffect 299 = .ok (.bipush 40, 2) := by decide +kernel
theorem dX9_takeEffect_301 : decode cX9_takeEffect 301 = .ok (.iload_n 2, 1) := by decide +kernel
theorem dX9_takeEffect_302 : decode cX9_takeEffect 302 = .ok (.imul, 1) := by decide +kernel
theorem dX9_takeEffect_303 : decode cX9_takeEffect 303 = .ok (.iload_n 3, 1) := by decide +kernel
theorem dX9_takeEffect_304 : decode cX9_takeEffect 304 = .ok (.iadd, 1) := by decide +kernel
theorem dX9_takeEffect_305 : decode cX9_takeEffect 305 = .ok (.iaload, 1) := by decide +kernel
theorem dX9_takeEffect_306 : decode cX9_takeEffect 306 = .ok (.aload_n 0, 1) := by decide +kernel
theorem dX9_takeEffect_307 : decode cX9_takeEffect 307 = .ok (.getfield 181, 3) := by decide +kernel
theorem dX9_takeEffect_310 : decode cX9_takeEffect 310 = .ok (.bipush 40, 2) := by decide +kernel
theorem dX9_takeEffect_312 : decode cX9_takeEffect 312 = .ok (.iload_n 2, 1) := by decide +kernel
theorem dX9_takeEffect_313 : decode cX9_takeEffect 313 = .ok (.imul, 1) := by decide +kernel
theorem dX9_takeEffect_314 : decode cX9_takeEffect 314 = .ok (.iload_n 3, 1) := by decide +kernel
theorem dX9_takeEffect_315 : decode cX9_takeEffect 315 = .ok (.iadd, 1) := by decide +kernel
theorem dX9_takeEffect_316 : decode cX9_takeEffect 316 = .ok (.laload, 1) := by decide +kernel
theorem dX9_takeEffect_317 : decode cX9_takeEffect 317 = .ok (.invokevirtual 371, 3) := by decide +kernel
theorem dX9_takeEffect_320 : decode cX9_takeEffect 320 = .ok (.lastore, 1) := by decide +kernel
theorem dX9_takeEffect_321 : decode cX9_takeEffect 321 = .ok (.aload_n 0, 1) := by decide +kernel
theorem dX9_takeEffect_322 : decode cX9_takeEffect 322 = .ok (.dup, 1) := by decide +kernel
theorem dX9_takeEffect_323 : decode cX9_takeEffect 323 = .ok (.getfield 368, 3) := by decide +kernel
theorem dX9_takeEffect_326 : decode cX9_takeEffect 326 = .ok (.iconst 1, 1) := by decide +kernel
theorem dX9_takeEffect_327 : decode cX9_takeEffect 327 = .ok (.iadd, 1) := by decide +kernel
theorem dX9_takeEffect_328 : decode cX9_takeEffect 328 = .ok (.putfield 368, 3) := by decide +kernel
theorem dX9_takeEffect_331 : decode cX9_takeEffect 331 = .ok (.iinc 3 1, 3) := by decide +kernel
theorem dX9_takeEffect_334 : decode cX9_takeEffect 334 = .ok (.goto (-108), 3) := by decide +kernel
theorem dX9_takeEffect_337 : decode cX9_takeEffect 337 = .ok (.iconst 0, 1) := by decide +kernel
theorem dX9_takeEffect_338 : decode cX9_takeEffect 338 = .ok (.istore_n 3, 1) := by decide +kernel
theorem dX9_takeEffect_339 : decode cX9_takeEffect 339 = .ok (.iload_n 3, 1) := by decide +kernel
theorem dX9_takeEffect_340 : decode cX9_takeEffect 340 = .ok (.aload_n 0, 1) := by decide +kernel
theorem dX9_takeEffect_341 : decode cX9_takeEffect 341 = .ok (.getfield 231, 3) := by decide +kernel
theorem dX9_takeEffect_344 : decode cX9_takeEffect 344 = .ok (.if_icmp .ge 87, 3) := by decide +kernel
theorem dX9_takeEffect_347 : decode cX9_takeEffect 347 = .ok (.iconst 0, 1) := by decide +kernel
theorem dX9_takeEffect_348 : decode cX9_takeEffect 348 = .ok (.istore 4, 2) := by decide +kernel
theorem dX9_takeEffect_350 : decode cX9_takeEffect 350 = .ok (.iload 4, 2) := by decide +kernel
theorem dX9_takeEffect_352 : decode cX9_takeEffect 352 = .ok (.bipush 40, 2) := by decide +kernel
theorem dX9_takeEffect_354 : decode cX9_takeEffect 354 = .ok (.if_icmp .ge 71, 3) := by decide +kernel
theorem dX9_takeEffect_357 : decode cX9_takeEffect 357 = .ok (.aload_n 0, 1) := by decide +kernel
theorem dX9_takeEffect_358 : decode cX9_takeEffect 358 = .ok (.getfield 65, 3) := by decide +kernel
theorem dX9_takeEffect_361 : decode cX9_takeEffect 361 = .ok (.iload_n 3, 1) := by decide +kernel
theorem dX9_takeEffect_362 : decode cX9_takeEffect 362 = .ok (.iaload, 1) := by decide +kernel
theorem dX9_takeEffect_363 : decode cX9_takeEffect 363 = .ok (.iconst 3, 1) := by decide +kernel
theorem dX9_takeEffect_364 : decode cX9_takeEffect 364 = .ok (.if_icmp .ne 61, 3) := by decide +kernel
theorem dX9_takeEffect_367 : decode cX9_takeEffect 367 = .ok (.aload_n 0, 1) := by decide +kernel
theorem dX9_takeEffect_368 : decode cX9_takeEffect 368 = .ok (.getfield 145, 3) := by decide +kernel
theorem dX9_takeEffect_371 : decode cX9_takeEffect 371 = .ok (.bipush 40, 2) := by decide +kernel
theorem dX9_takeEffect_373 : decode cX9_takeEffect 373 = .ok (.iload_n 2, 1) := by decide +kernel
theorem dX9_takeEffect_374 : decode cX9_takeEffect 374 = .ok (.imul, 1) := by decide +kernel
theorem dX9_takeEffect_375 : decode cX9_takeEffect 375 = .ok (.iload 4, 2) := by decide +kernel
theorem dX9_takeEffect_377 : decode cX9_takeEffect 377 = .ok (.iadd, 1) := by decide +kernel
theorem dX9_takeEffect_378 : decode cX9_takeEffect 378 = .ok (.baload, 1) := by decide +kernel
theorem dX9_takeEffect_379 : decode cX9_takeEffect 379 = .ok (.ifCond .eq 40, 3) := by decide +kernel
theorem dX9_takeEffect_382 : decode cX9_takeEffect 382 = .ok (.aload_n 0, 1) := by decide +kernel
theorem dX9_takeEffect_383 : decode cX9_takeEffect 383 = .ok (.getfield 105, 3) := by decide +kernel
theorem dX9_takeEffect_386 : decode cX9_takeEffect 386 = .ok (.bipush 40, 2) := by decide +kernel
theorem dX9_takeEffect_388 : decode cX9_takeEffect 388 = .ok (.iload_n 3, 1) := by decide +kernel
theorem dX9_takeEffect_389 : decode cX9_takeEffect 389 = .ok (.imul, 1) := by decide +kernel
theorem dX9_takeEffect_390 : decode cX9_takeEffect 390 = .ok (.iload 4, 2) := by decide +kernel
theorem dX9_takeEffect_392 : decode cX9_takeEffect 392 = .ok (.iadd, 1) := by decide +kernel
theorem dX9_takeEffect_393 : decode cX9_takeEffect 393 = .ok (.baload, 1) := by decide +kernel
theorem dX9_takeEffect_394 : decode cX9_takeEffect 394 = .ok (.ifCond .eq 25, 3) := by decide +kernel
theorem dX9_takeEffect_397 : decode cX9_takeEffect 397 = .ok (.aload_n 0, 1) := by decide +kernel
theorem dX9_takeEffect_398 : decode cX9_takeEffect 398 = .ok (.getfield 65, 3) := by decide +kernel
theorem dX9_takeEffect_401 : decode cX9_takeEffect 401 = .ok (.iload_n 3, 1) := by decide +kernel
theorem dX9_takeEffect_402 : decode cX9_takeEffect 402 = .ok (.iconst 0, 1) := by decide +kernel
theorem dX9_takeEffect_403 : decode cX9_takeEffect 403 = .ok (.iastore, 1) := by decide +kernel
theorem dX9_takeEffect_404 : decode cX9_takeEffect 404 = .ok (.aload_n 0, 1) := by decide +kernel
theorem dX9_takeEffect_405 : decode cX9_takeEffect 405 = .ok (.getfield 83, 3) := by decide +kernel
theorem dX9_takeEffect_408 : decode cX9_takeEffect 408 = .ok (.iload_n 3, 1) := by decide +kernel
theorem dX9_takeEffect_409 : decode cX9_takeEffect 409 = .ok (.iload 4, 2) := by decide +kernel
theorem dX9_takeEffect_411 : decode cX9_takeEffect 411 = .ok (.iastore, 1) := by decide +kernel
theorem dX9_takeEffect_412 : decode cX9_takeEffect 412 = .ok (.aload_n 0, 1) := by decide +kernel
theorem dX9_takeEffect_413 : decode cX9_takeEffect 413 = .ok (.getfield 86, 3) := by decide +kernel
theorem dX9_takeEffect_416 : decode cX9_takeEffect 416 = .ok (.iload_n 3, 1) := by decide +kernel
theorem dX9_takeEffect_417 : decode cX9_takeEffect 417 = .ok (.iload_n 1, 1) := by decide +kernel
theorem dX9_takeEffect_418 : decode cX9_takeEffect 418 = .ok (.iastore, 1) := by decide +kernel
theorem dX9_takeEffect_419 : decode cX9_takeEffect 419 = .ok (.iinc 4 1, 3) := by decide +kernel
theorem dX9_takeEffect_422 : decode cX9_takeEffect 422 = .ok (.goto (-72), 3) := by decide +kernel
theorem dX9_takeEffect_425 : decode cX9_takeEffect 425 = .ok (.iinc 3 1, 3) := by decide +kernel
theorem dX9_takeEffect_428 : decode cX9_takeEffect 428 = .ok (.goto (-89), 3) := by decide +kernel
theorem dX9_takeEffect_431 : decode cX9_takeEffect 431 = .ok (.return_, 1) := by decide +kernel
theorem dX9_turn_0 : decode cX9_turn 0 = .ok (.aload_n 0, 1) := by decide +kernel
theorem dX9_turn_1 : decode cX9_turn 1 = .ok (.getfield 68, 3) := by decide +kernel
theorem dX9_turn_4 : decode cX9_turn 4 = .ok (.iload_n 1, 1) := by decide +kernel
theorem dX9_turn_5 : decode cX9_turn 5 = .ok (.dup2, 1) := by decide +kernel
theorem dX9_turn_6 : decode cX9_turn 6 = .ok (.iaload, 1) := by decide +kernel
theorem dX9_turn_7 : decode cX9_turn 7 = .ok (.iconst 1, 1) := by decide +kernel
theorem dX9_turn_8 : decode cX9_turn 8 = .ok (.iadd, 1) := by decide +kernel
theorem dX9_turn_9 : decode cX9_turn 9 = .ok (.iastore, 1) := by decide +kernel
theorem dX9_turn_10 : decode cX9_turn 10 = .ok (.aload_n 0, 1) := by decide +kernel
theorem dX9_turn_11 : decode cX9_turn 11 = .ok (.iload_n 2, 1) := by decide +kernel
theorem dX9_turn_12 : decode cX9_turn 12 = .ok (.invokevirtual 375, 3) := by decide +kernel
theorem dX9_turn_15 : decode cX9_turn 15 = .ok (.ifCond .eq 9, 3) := by decide +kernel
theorem dX9_turn_18 : decode cX9_turn 18 = .ok (.aload_n 0, 1) := by decide +kernel
theorem dX9_turn_19 : decode cX9_turn 19 = .ok (.iload_n 1, 1) := by decide +kernel
theorem dX9_turn_20 : decode cX9_turn 20 = .ok (.iload_n 2, 1) := by decide +kernel
theorem dX9_turn_21 : decode cX9_turn 21 = .ok (.invokevirtual 378, 3) := by decide +kernel
theorem dX9_turn_24 : decode cX9_turn 24 = .ok (.aload_n 0, 1) := by decide +kernel
theorem dX9_turn_25 : decode cX9_turn 25 = .ok (.getfield 47, 3) := by decide +kernel
theorem dX9_turn_28 : decode cX9_turn 28 = .ok (.aload_n 0, 1) := by decide +kernel
theorem dX9_turn_29 : decode cX9_turn 29 = .ok (.getfield 62, 3) := by decide +kernel
theorem dX9_turn_32 : decode cX9_turn 32 = .ok (.iload_n 1, 1) := by decide +kernel
theorem dX9_turn_33 : decode cX9_turn 33 = .ok (.iaload, 1) := by decide +kernel
theorem dX9_turn_34 : decode cX9_turn 34 = .ok (.iaload, 1) := by decide +kernel
theorem dX9_turn_35 : decode cX9_turn 35 = .ok (.istore_n 3, 1) := by decide +kernel
theorem dX9_turn_36 : decode cX9_turn 36 = .ok (.iconst 0, 1) := by decide +kernel
theorem dX9_turn_37 : decode cX9_turn 37 = .ok (.istore 4, 2) := by decide +kernel
theorem dX9_turn_39 : decode cX9_turn 39 = .ok (.iload 4, 2) := by decide +kernel
theorem dX9_turn_41 : decode cX9_turn 41 = .ok (.iload_n 3, 1) := by decide +kernel
theorem dX9_turn_42 : decode cX9_turn 42 = .ok (.if_icmp .ge 21, 3) := by decide +kernel
theorem dX9_turn_45 : decode cX9_turn 45 = .ok (.iload 4, 2) := by decide +kernel
theorem dX9_turn_47 : decode cX9_turn 47 = .ok (.iconst 2, 1) := by decide +kernel
theorem dX9_turn_48 : decode cX9_turn 48 = .ok (.if_icmp .ge 15, 3) := by decide +kernel
theorem dX9_turn_51 : decode cX9_turn 51 = .ok (.aload_n 0, 1) := by decide +kernel
theorem dX9_turn_52 : decode cX9_turn 52 = .ok (.iload_n 1, 1) := by decide +kernel
theorem dX9_turn_53 : decode cX9_turn 53 = .ok (.iload_n 2, 1) := by decide +kernel
theorem dX9_turn_54 : decode cX9_turn 54 = .ok (.invokevirtual 378, 3) := by decide +kernel
theorem dX9_turn_57 : decode cX9_turn 57 = .ok (.iinc 4 1, 3) := by decide +kernel
theorem dX9_turn_60 : decode cX9_turn 60 = .ok (.goto (-21), 3) := by decide +kernel
theorem dX9_turn_63 : decode cX9_turn 63 = .ok (.iload_n 3, 1) := by decide +kernel
theorem dX9_turn_64 : decode cX9_turn 64 = .ok (.iconst 2, 1) := by decide +kernel
theorem dX9_turn_65 : decode cX9_turn 65 = .ok (.if_icmp .le 18, 3) := by decide +kernel
theorem dX9_turn_68 : decode cX9_turn 68 = .ok (.aload_n 0, 1) := by decide +kernel
theorem dX9_turn_69 : decode cX9_turn 69 = .ok (.getfield 65, 3) := by decide +kernel
theorem dX9_turn_72 : decode cX9_turn 72 = .ok (.iload_n 1, 1) := by decide +kernel
theorem dX9_turn_73 : decode cX9_turn 73 = .ok (.iconst 5, 1) := by decide +kernel
theorem dX9_turn_74 : decode cX9_turn 74 = .ok (.iastore, 1) := by decide +kernel
theorem dX9_turn_75 : decode cX9_turn 75 = .ok (.aload_n 0, 1) := by decide +kernel
theorem dX9_turn_76 : decode cX9_turn 76 = .ok (.getfield 95, 3) := by decide +kernel
theorem dX9_turn_79 : decode cX9_turn 79 = .ok (.iload_n 1, 1) := by decide +kernel
theorem dX9_turn_80 : decode cX9_turn 80 = .ok (.iconst 0, 1) := by decide +kernel
theorem dX9_turn_81 : decode cX9_turn 81 = .ok (.bastore, 1) := by decide +kernel
theorem dX9_turn_82 : decode cX9_turn 82 = .ok (.return_, 1) := by decide +kernel
theorem dX9_turn_83 : decode cX9_turn 83 = .ok (.aload_n 0, 1) := by decide +kernel
theorem dX9_turn_84 : decode cX9_turn 84 = .ok (.iload_n 1, 1) := by decide +kernel
theorem dX9_turn_85 : decode cX9_turn 85 = .ok (.iload_n 2, 1) := by decide +kernel
theorem dX9_turn_86 : decode cX9_turn 86 = .ok (.invokevirtual 381, 3) := by decide +kernel
theorem dX9_turn_89 : decode cX9_turn 89 = .ok (.aload_n 0, 1) := by decide +kernel
theorem dX9_turn_90 : decode cX9_turn 90 = .ok (.getfield 133, 3) := by decide +kernel
theorem dX9_turn_93 : decode cX9_turn 93 = .ok (.iload_n 2, 1) := by decide +kernel
theorem dX9_turn_94 : decode cX9_turn 94 = .ok (.iaload, 1) := by decide +kernel
theorem dX9_turn_95 : decode cX9_turn 95 = .ok (.iconst 1, 1) := by decide +kernel
theorem dX9_turn_96 : decode cX9_turn 96 = .ok (.if_icmp .ne 37, 3) := by decide +kernel
theorem dX9_turn_99 : decode cX9_turn 99 = .ok (.aload_n 0, 1) := by decide +kernel
theorem dX9_turn_100 : decode cX9_turn 100 = .ok (.getfield 65, 3) := by decide +kernel
theorem dX9_turn_103 : decode cX9_turn 103 = .ok (.iload_n 1, 1) := by decide +kernel
theorem dX9_turn_104 : decode cX9_turn 104 = .ok (.iconst 2, 1) := by decide +kernel
theorem dX9_turn_105 : decode cX9_turn 105 = .ok (.iastore, 1) := by decide +kernel
theorem dX9_turn_106 : decode cX9_turn 106 = .ok (.aload_n 0, 1) := by decide +kernel
theorem dX9_turn_107 : decode cX9_turn 107 = .ok (.getfield 74, 3) := by decide +kernel
theorem dX9_turn_110 : decode cX9_turn 110 = .ok (.iload_n 1, 1) := by decide +kernel
theorem dX9_turn_111 : decode cX9_turn 111 = .ok (.aload_n 0, 1) := by decide +kernel
theorem dX9_turn_112 : decode cX9_turn 112 = .ok (.getfield 136, 3) := by decide +kernel
theorem dX9_turn_115 : decode cX9_turn 115 = .ok (.iload_n 2, 1) := by decide +kernel
theorem dX9_turn_116 : decode cX9_turn 116 = .ok (.iaload, 1) := by decide +kernel
theorem dX9_turn_117 : decode cX9_turn 117 = .ok (.iastore, 1) := by decide +kernel
theorem dX9_turn_118 : decode cX9_turn 118 = .ok (.aload_n 0, 1) := by decide +kernel
theorem dX9_turn_119 : decode cX9_turn 119 = .ok (.getfield 77, 3) := by decide +kernel
theorem dX9_turn_122 : decode cX9_turn 122 = .ok (.iload_n 1, 1) := by decide +kernel
theorem dX9_turn_123 : decode cX9_turn 123 = .ok (.aload_n 0, 1) := by decide +kernel
theorem dX9_turn_124 : decode cX9_turn 124 = .ok (.getfield 139, 3) := by decide +kernel
theorem dX9_turn_127 : decode cX9_turn 127 = .ok (.iload_n 2, 1) := by decide +kernel
theorem dX9_turn_128 : decode cX9_turn 128 = .ok (.iaload, 1) := by decide +kernel
theorem dX9_turn_129 : decode cX9_turn 129 = .ok (.iastore, 1) := by decide +kernel
theorem dX9_turn_130 : decode cX9_turn 130 = .ok (.goto 74, 3) := by decide +kernel
theorem dX9_turn_133 : decode cX9_turn 133 = .ok (.aload_n 0, 1) := by decide +kernel
theorem dX9_turn_134 : decode cX9_turn 134 = .ok (.getfield 133, 3) := by decide +kernel
theorem dX9_turn_137 : decode cX9_turn 137 = .ok (.iload_n 2, 1) := by decide +kernel
theorem dX9_turn_138 : decode cX9_turn 138 = .ok (.iaload, 1) := by decide +kernel
theorem dX9_turn_139 : decode cX9_turn 139 = .ok (.iconst 2, 1) := by decide +kernel
theorem dX9_turn_140 : decode cX9_turn 140 = .ok (.if_icmp .ne 27, 3) := by decide +kernel
theorem dX9_turn_143 : decode cX9_turn 143 = .ok (.aload_n 0, 1) := by decide +kernel
theorem dX9_turn_144 : decode cX9_turn 144 = .ok (.getfield 65, 3) := by decide +kernel
theorem dX9_turn_147 : decode cX9_turn 147 = .ok (.iload_n 1, 1) := by decide +kernel
theorem dX9_turn_148 : decode cX9_turn 148 = .ok (.aload_n 0, 1) := by decide +kernel
theorem dX9_turn_149 : decode cX9_turn 149 = .ok (.getfield 68, 3) := by decide +kernel
theorem dX9_turn_152 : decode cX9_turn 152 = .ok (.iload_n 1, 1) := by decide +kernel
theorem dX9_turn_153 : decode cX9_turn 153 = .ok (.iaload, 1) := by decide +kernel
theorem dX9_turn_154 : decode cX9_turn 154 = .ok (.iconst 5, 1) := by decide +kernel
theorem dX9_turn_155 : decode cX9_turn 155 = .ok (.if_icmp .lt 7, 3) := by decide +kernel
theorem dX9_turn_158 : decode cX9_turn 158 = .ok (.iconst 5, 1) := by decide +kernel
theorem dX9_turn_159 : decode cX9_turn 159 = .ok (.goto 4, 3) := by decide +kernel
theorem dX9_turn_162 : decode cX9_turn 162 = .ok (.iconst 3, 1) := by decide +kernel
theorem dX9_turn_163 : decode cX9_turn 163 = .ok (.iastore, 1) := by decide +kernel
theorem dX9_turn_164 : decode cX9_turn 164 = .ok (.goto 40, 3) := by decide +kernel
theorem dX9_turn_167 : decode cX9_turn 167 = .ok (.aload_n 0, 1) := by decide +kernel
theorem dX9_turn_168 : decode cX9_turn 168 = .ok (.iload_n 2, 1) := by decide +kernel
theorem dX9_turn_169 : decode cX9_turn 169 = .ok (.invokevirtual 384, 3) := by decide +kernel
theorem dX9_turn_172 : decode cX9_turn 172 = .ok (.istore 4, 2) := by decide +kernel
theorem dX9_turn_174 : decode cX9_turn 174 = .ok (.iload 4, 2) := by decide +kernel
theorem dX9_turn_176 : decode cX9_turn 176 = .ok (.iconst (-1), 1) := by decide +kernel
theorem dX9_turn_177 : decode cX9_turn 177 = .ok (.if_icmp .ne 12, 3) := by decide +kernel
theorem dX9_turn_180 : decode cX9_turn 180 = .ok (.aload_n 0, 1) := by decide +kernel
theorem dX9_turn_181 : decode cX9_turn 181 = .ok (.iload_n 1, 1) := by decide +kernel
theorem dX9_turn_182 : decode cX9_turn 182 = .ok (.iload_n 2, 1) := by decide +kernel
theorem dX9_turn_183 : decode cX9_turn 183 = .ok (.invokevirtual 387, 3) := by decide +kernel
theorem dX9_turn_186 : decode cX9_turn 186 = .ok (.goto 18, 3) := by decide +kernel
theorem dX9_turn_189 : decode cX9_turn 189 = .ok (.aload_n 0, 1) := by decide +kernel
theorem dX9_turn_190 : decode cX9_turn 190 = .ok (.getfield 65, 3) := by decide +kernel
theorem dX9_turn_193 : decode cX9_turn 193 = .ok (.iload_n 1, 1) := by decide +kernel
theorem dX9_turn_194 : decode cX9_turn 194 = .ok (.iconst 4, 1) := by decide +kernel
theorem dX9_turn_195 : decode cX9_turn 195 = .ok (.iastore, 1) := by decide +kernel
theorem dX9_turn_196 : decode cX9_turn 196 = .ok (.aload_n 0, 1) := by decide +kernel
theorem dX9_turn_197 : decode cX9_turn 197 = .ok (.getfield 80, 3) := by decide +kernel
theorem dX9_turn_200 : decode cX9_turn 200 = .ok (.iload_n 1, 1) := by decide +kernel
theorem dX9_turn_201 : decode cX9_turn 201 = .ok (.iload 4, 2) := by decide +kernel
theorem dX9_turn_203 : decode cX9_turn 203 = .ok (.iastore, 1) := by decide +kernel
theorem dX9_turn_204 : decode cX9_turn 204 = .ok (.return_, 1) := by decide +kernel
theorem dX9_isOver_0 : decode cX9_isOver 0 = .ok (.iconst 0, 1) := by decide +kernel
theorem dX9_isOver_1 : decode cX9_isOver 1 = .ok (.istore_n 2, 1) := by decide +kernel
theorem dX9_isOver_2 : decode cX9_isOver 2 = .ok (.iload_n 2, 1) := by decide +kernel
theorem dX9_isOver_3 : decode cX9_isOver 3 = .ok (.aload_n 0, 1) := by decide +kernel
theorem dX9_isOver_4 : decode cX9_isOver 4 = .ok (.getfield 220, 3) := by decide +kernel
theorem dX9_isOver_7 : decode cX9_isOver 7 = .ok (.iload_n 1, 1) := by decide +kernel
theorem dX9_isOver_8 : decode cX9_isOver 8 = .ok (.iaload, 1) := by decide +kernel
theorem dX9_isOver_9 : decode cX9_isOver 9 = .ok (.if_icmp .ge 63, 3) := by decide +kernel
theorem dX9_isOver_12 : decode cX9_isOver 12 = .ok (.aload_n 0, 1) := by decide +kernel
theorem dX9_isOver_13 : decode cX9_isOver 13 = .ok (.getfield 65, 3) := by decide +kernel
theorem dX9_isOver_16 : decode cX9_isOver 16 = .ok (.iload_n 2, 1) := by decide +kernel
theorem dX9_isOver_17 : decode cX9_isOver 17 = .ok (.iaload, 1) := by decide +kernel
theorem dX9_isOver_18 : decode cX9_isOver 18 = .ok (.ifCond .ne 48, 3) := by decide +kernel
theorem dX9_isOver_21 : decode cX9_isOver 21 = .ok (.iconst 0, 1) := by decide +kernel
theorem dX9_isOver_22 : decode cX9_isOver 22 = .ok (.istore_n 3, 1) := by decide +kernel
theorem dX9_isOver_23 : decode cX9_isOver 23 = .ok (.iload_n 1, 1) := by decide +kernel
theorem dX9_isOver_24 : decode cX9_isOver 24 = .ok (.istore 4, 2) := by decide +kernel
theorem dX9_isOver_26 : decode cX9_isOver 26 = .ok (.iload 4, 2) := by decide +kernel
theorem dX9_isOver_28 : decode cX9_isOver 28 = .ok (.aload_n 0, 1) := by decide +kernel
theorem dX9_isOver_29 : decode cX9_isOver 29 = .ok (.getfield 390, 3) := by decide +kernel
theorem dX9_isOver_32 : decode cX9_isOver 32 = .ok (.if_icmp .ge 28, 3) := by decide +kernel
theorem dX9_isOver_35 : decode cX9_isOver 35 = .ok (.iload_n 3, 1) := by decide +kernel
theorem dX9_isOver_36 : decode cX9_isOver 36 = .ok (.aload_n 0, 1) := by decide +kernel
theorem dX9_isOver_37 : decode cX9_isOver 37 = .ok (.getfield 220, 3) := by decide +kernel
theorem dX9_isOver_40 : decode cX9_isOver 40 = .ok (.iload 4, 2) := by decide +kernel
theorem dX9_isOver_42 : decode cX9_isOver 42 = .ok (.iaload, 1) := by decide +kernel
theorem dX9_isOver_43 : decode cX9_isOver 43 = .ok (.iload_n 2, 1) := by decide +kernel
theorem dX9_isOver_44 : decode cX9_isOver 44 = .ok (.if_icmp .ne 7, 3) := by decide +kernel
theorem dX9_isOver_47 : decode cX9_isOver 47 = .ok (.iconst 1, 1) := by decide +kernel
theorem dX9_isOver_48 : decode cX9_isOver 48 = .ok (.goto 4, 3) := by decide +kernel
theorem dX9_isOver_51 : decode cX9_isOver 51 = .ok (.iconst 0, 1) := by decide +kernel
theorem dX9_isOver_52 : decode cX9_isOver 52 = .ok (.ior, 1) := by decide +kernel
theorem dX9_isOver_53 : decode cX9_isOver 53 = .ok (.istore_n 3, 1) := by decide +kernel
theorem dX9_isOver_54 : decode cX9_isOver 54 = .ok (.iinc 4 1, 3) := by decide +kernel
theorem dX9_isOver_57 : decode cX9_isOver 57 = .ok (.goto (-31), 3) := by decide +kernel
theorem dX9_isOver_60 : decode cX9_isOver 60 = .ok (.iload_n 3, 1) := by decide +kernel
theorem dX9_isOver_61 : decode cX9_isOver 61 = .ok (.ifCond .ne 5, 3) := by decide +kernel
theorem dX9_isOver_64 : decode cX9_isOver 64 = .ok (.iconst 1, 1) := by decide +kernel
theorem dX9_isOver_65 : decode cX9_isOver 65 = .ok (.ireturn, 1) := by decide +kernel
theorem dX9_isOver_66 : decode cX9_isOver 66 = .ok (.iinc 2 1, 3) := by decide +kernel
theorem dX9_isOver_69 : decode cX9_isOver 69 = .ok (.goto (-67), 3) := by decide +kernel
theorem dX9_isOver_72 : decode cX9_isOver 72 = .ok (.iconst 0, 1) := by decide +kernel
theorem dX9_isOver_73 : decode cX9_isOver 73 = .ok (.ireturn, 1) := by decide +kernel
theorem dX9_round_0 : decode cX9_round 0 = .ok (.aload_n 0, 1) := by decide +kernel
theorem dX9_round_1 : decode cX9_round 1 = .ok (.dup, 1) := by decide +kernel
theorem dX9_round_2 : decode cX9_round 2 = .ok (.getfield 393, 3) := by decide +kernel
theorem dX9_round_5 : decode cX9_round 5 = .ok (.iconst 1, 1) := by decide +kernel
theorem dX9_round_6 : decode cX9_round 6 = .ok (.iadd, 1) := by decide +kernel
theorem dX9_round_7 : decode cX9_round 7 = .ok (.putfield 393, 3) := by decide +kernel
theorem dX9_round_10 : decode cX9_round 10 = .ok (.aload_n 0, 1) := by decide +kernel
theorem dX9_round_11 : decode cX9_round 11 = .ok (.iconst 0, 1) := by decide +kernel
theorem dX9_round_12 : decode cX9_round 12 = .ok (.putfield 390, 3) := by decide +kernel
theorem dX9_round_15 : decode cX9_round 15 = .ok (.iconst 0, 1) := by decide +kernel
theorem dX9_round_16 : decode cX9_round 16 = .ok (.istore_n 1, 1) := by decide +kernel
theorem dX9_round_17 : decode cX9_round 17 = .ok (.iload_n 1, 1) := by decide +kernel
theorem dX9_round_18 : decode cX9_round 18 = .ok (.aload_n 0, 1) := by decide +kernel
theorem dX9_round_19 : decode cX9_round 19 = .ok (.getfield 231, 3) := by decide +kernel
theorem dX9_round_22 : decode cX9_round 22 = .ok (.if_icmp .ge 49, 3) := by decide +kernel
theorem dX9_round_25 : decode cX9_round 25 = .ok (.aload_n 0, 1) := by decide +kernel
theorem dX9_round_26 : decode cX9_round 26 = .ok (.getfield 390, 3) := by decide +kernel
theorem dX9_round_29 : decode cX9_round 29 = .ok (.aload_n 0, 1) := by decide +kernel
theorem dX9_round_30 : decode cX9_round 30 = .ok (.getfield 117, 3) := by decide +kernel
theorem dX9_round_33 : decode cX9_round 33 = .ok (.if_icmp .ge 38, 3) := by decide +kernel
theorem dX9_round_36 : decode cX9_round 36 = .ok (.aload_n 0, 1) := by decide +kernel
theorem dX9_round_37 : decode cX9_round 37 = .ok (.getfield 65, 3) := by decide +kernel
theorem dX9_round_40 : decode cX9_round 40 = .ok (.iload_n 1, 1) := by decide +kernel
theorem dX9_round_41 : decode cX9_round 41 = .ok (.iaload, 1) := by decide +kernel
theorem dX9_round_42 : decode cX9_round 42 = .ok (.ifCond .ne 23, 3) := by decide +kernel
theorem dX9_round_45 : decode cX9_round 45 = .ok (.aload_n 0, 1) := by decide +kernel
theorem dX9_round_46 : decode cX9_round 46 = .ok (.getfield 220, 3) := by decide +kernel
theorem dX9_round_49 : decode cX9_round 49 = .ok (.aload_n 0, 1) := by decide +kernel
theorem dX9_round_50 : decode cX9_round 50 = .ok (.getfield 390, 3) := by decide +kernel
theorem dX9_round_53 : decode cX9_round 53 = .ok (.iload_n 1, 1) := by decide +kernel
theorem dX9_round_54 : decode cX9_round 54 = .ok (.iastore, 1) := by decide +kernel
theorem dX9_round_55 : decode cX9_round 55 = .ok (.aload_n 0, 1) := by decide +kernel
theorem dX9_round_56 : decode cX9_round 56 = .ok (.dup, 1) := by decide +kernel
theorem dX9_round_57 : decode cX9_round 57 = .ok (.getfield 390, 3) := by decide +kernel
theorem dX9_round_60 : decode cX9_round 60 = .ok (.iconst 1, 1) := by decide +kernel
theorem dX9_round_61 : decode cX9_round 61 = .ok (.iadd, 1) := by decide +kernel
theorem dX9_round_62 : decode cX9_round 62 = .ok (.putfield 390, 3) := by decide +kernel
theorem dX9_round_65 : decode cX9_round 65 = .ok (.iinc 1 1, 3) := by decide +kernel
theorem dX9_round_68 : decode cX9_round 68 = .ok (.goto (-51), 3) := by decide +kernel
theorem dX9_round_71 : decode cX9_round 71 = .ok (.iconst 0, 1) := by decide +kernel
theorem dX9_round_72 : decode cX9_round 72 = .ok (.istore_n 1, 1) := by decide +kernel
theorem dX9_round_73 : decode cX9_round 73 = .ok (.iload_n 1, 1) := by decide +kernel
theorem dX9_round_74 : decode cX9_round 74 = .ok (.aload_n 0, 1) := by decide +kernel
theorem dX9_round_75 : decode cX9_round 75 = .ok (.getfield 390, 3) := by decide +kernel
theorem dX9_round_78 : decode cX9_round 78 = .ok (.if_icmp .ge 20, 3) := by decide +kernel
theorem dX9_round_81 : decode cX9_round 81 = .ok (.aload_n 0, 1) := by decide +kernel
theorem dX9_round_82 : decode cX9_round 82 = .ok (.aload_n 0, 1) := by decide +kernel
theorem dX9_round_83 : decode cX9_round 83 = .ok (.getfield 220, 3) := by decide +kernel
theorem dX9_round_86 : decode cX9_round 86 = .ok (.iload_n 1, 1) := by decide +kernel
theorem dX9_round_87 : decode cX9_round 87 = .ok (.iaload, 1) := by decide +kernel
theorem dX9_round_88 : decode cX9_round 88 = .ok (.iload_n 1, 1) := by decide +kernel
theorem dX9_round_89 : decode cX9_round 89 = .ok (.invokevirtual 378, 3) := by decide +kernel
theorem dX9_round_92 : decode cX9_round 92 = .ok (.iinc 1 1, 3) := by decide +kernel
theorem dX9_round_95 : decode cX9_round 95 = .ok (.goto (-22), 3) := by decide +kernel
theorem dX9_round_98 : decode cX9_round 98 = .ok (.iconst 0, 1) := by decide +kernel
theorem dX9_round_99 : decode cX9_round 99 = .ok (.istore_n 1, 1) := by decide +kernel
theorem dX9_round_100 : decode cX9_round 100 = .ok (.iload_n 1, 1) := by decide +kernel
theorem dX9_round_101 : decode cX9_round 101 = .ok (.aload_n 0, 1) := by decide +kernel
theorem dX9_round_102 : decode cX9_round 102 = .ok (.getfield 390, 3) := by decide +kernel
theorem dX9_round_105 : decode cX9_round 105 = .ok (.if_icmp .ge 28, 3) := by decide +kernel
theorem dX9_round_108 : decode cX9_round 108 = .ok (.aload_n 0, 1) := by decide +kernel
theorem dX9_round_109 : decode cX9_round 109 = .ok (.iload_n 1, 1) := by decide +kernel
theorem dX9_round_110 : decode cX9_round 110 = .ok (.invokevirtual 396, 3) := by decide +kernel
theorem dX9_round_113 : decode cX9_round 113 = .ok (.ifCond .ne 20, 3) := by decide +kernel
theorem dX9_round_116 : decode cX9_round 116 = .ok (.aload_n 0, 1) := by decide +kernel
theorem dX9_round_117 : decode cX9_round 117 = .ok (.aload_n 0, 1) := by decide +kernel
theorem dX9_round_118 : decode cX9_round 118 = .ok (.getfield 220, 3) := by decide +kernel
theorem dX9_round_121 : decode cX9_round 121 = .ok (.iload_n 1, 1) := by decide +kernel
theorem dX9_round_122 : decode cX9_round 122 = .ok (.iaload, 1) := by decide +kernel
theorem dX9_round_123 : decode cX9_round 123 = .ok (.iload_n 1, 1) := by decide +kernel
theorem dX9_round_124 : decode cX9_round 124 = .ok (.invokevirtual 399, 3) := by decide +kernel
theorem dX9_round_127 : decode cX9_round 127 = .ok (.iinc 1 1, 3) := by decide +kernel
theorem dX9_round_130 : decode cX9_round 130 = .ok (.goto (-30), 3) := by decide +kernel
theorem dX9_round_133 : decode cX9_round 133 = .ok (.iload_n 1, 1) := by decide +kernel
theorem dX9_round_134 : decode cX9_round 134 = .ok (.ireturn, 1) := by decide +kernel
theorem dX9_many_0 : decode cX9_many 0 = .ok (.iconst 0, 1) := by decide +kernel
theorem dX9_many_1 : decode cX9_many 1 = .ok (.istore_n 2, 1) := by decide +kernel
theorem dX9_many_2 : decode cX9_many 2 = .ok (.iconst 0, 1) := by decide +kernel
theorem dX9_many_3 : decode cX9_many 3 = .ok (.istore_n 3, 1) := by decide +kernel
theorem dX9_many_4 : decode cX9_many 4 = .ok (.iload_n 3, 1) := by decide +kernel
theorem dX9_many_5 : decode cX9_many 5 = .ok (.aload_n 0, 1) := by decide +kernel
theorem dX9_many_6 : decode cX9_many 6 = .ok (.getfield 231, 3) := by decide +kernel
theorem dX9_many_9 : decode cX9_many 9 = .ok (.if_icmp .ge 27, 3) := by decide +kernel
theorem dX9_many_12 : decode cX9_many 12 = .ok (.iload_n 2, 1) := by decide +kernel
theorem dX9_many_13 : decode cX9_many 13 = .ok (.aload_n 0, 1) := by decide +kernel
theorem dX9_many_14 : decode cX9_many 14 = .ok (.getfield 65, 3) := by decide +kernel
theorem dX9_many_17 : decode cX9_many 17 = .ok (.iload_n 3, 1) := by decide +kernel
theorem dX9_many_18 : decode cX9_many 18 = .ok (.iaload, 1) := by decide +kernel
theorem dX9_many_19 : decode cX9_many 19 = .ok (.iload_n 1, 1) := by decide +kernel
theorem dX9_many_20 : decode cX9_many 20 = .ok (.if_icmp .ne 7, 3) := by decide +kernel
theorem dX9_many_23 : decode cX9_many 23 = .ok (.iconst 1, 1) := by decide +kernel
theorem dX9_many_24 : decode cX9_many 24 = .ok (.goto 4, 3) := by decide +kernel
theorem dX9_many_27 : decode cX9_many 27 = .ok (.iconst 0, 1) := by decide +kernel
theorem dX9_many_28 : decode cX9_many 28 = .ok (.iadd, 1) := by decide +kernel
theorem dX9_many_29 : decode cX9_many 29 = .ok (.istore_n 2, 1) := by decide +kernel
theorem dX9_many_30 : decode cX9_many 30 = .ok (.iinc 3 1, 3) := by decide +kernel
theorem dX9_many_33 : decode cX9_many 33 = .ok (.goto (-29), 3) := by decide +kernel
theorem dX9_many_36 : decode cX9_many 36 = .ok (.iload_n 2, 1) := by decide +kernel
theorem dX9_many_37 : decode cX9_many 37 = .ok (.ireturn, 1) := by decide +kernel
theorem dX9_submit_0 : decode cX9_submit 0 = .ok (.iload_n 1, 1) := by decide +kernel
theorem dX9_submit_1 : decode cX9_submit 1 = .ok (.invokestatic 252, 3) := by decide +kernel
theorem dX9_submit_4 : decode cX9_submit 4 = .ok (.ifCond .ne 6, 3) := by decide +kernel
theorem dX9_submit_7 : decode cX9_submit 7 = .ok (.bipush (-2), 2) := by decide +kernel
theorem dX9_submit_9 : decode cX9_submit 9 = .ok (.ireturn, 1) := by decide +kernel
theorem dX9_submit_10 : decode cX9_submit 10 = .ok (.aload_n 0, 1) := by decide +kernel
theorem dX9_submit_11 : decode cX9_submit 11 = .ok (.getfield 231, 3) := by decide +kernel
theorem dX9_submit_14 : decode cX9_submit 14 = .ok (.bipush 20, 2) := by decide +kernel
theorem dX9_submit_16 : decode cX9_submit 16 = .ok (.if_icmp .ne 6, 3) := by decide +kernel
theorem dX9_submit_19 : decode cX9_submit 19 = .ok (.bipush (-3), 2) := by decide +kernel
theorem dX9_submit_21 : decode cX9_submit 21 = .ok (.ireturn, 1) := by decide +kernel
theorem dX9_submit_22 : decode cX9_submit 22 = .ok (.aload_n 0, 1) := by decide +kernel
theorem dX9_submit_23 : decode cX9_submit 23 = .ok (.getfield 62, 3) := by decide +kernel
theorem dX9_submit_26 : decode cX9_submit 26 = .ok (.aload_n 0, 1) := by decide +kernel
theorem dX9_submit_27 : decode cX9_submit 27 = .ok (.getfield 231, 3) := by decide +kernel
theorem dX9_submit_30 : decode cX9_submit 30 = .ok (.iload_n 1, 1) := by decide +kernel
theorem dX9_submit_31 : decode cX9_submit 31 = .ok (.iastore, 1) := by decide +kernel
theorem dX9_submit_32 : decode cX9_submit 32 = .ok (.aload_n 0, 1) := by decide +kernel
theorem dX9_submit_33 : decode cX9_submit 33 = .ok (.getfield 65, 3) := by decide +kernel
theorem dX9_submit_36 : decode cX9_submit 36 = .ok (.aload_n 0, 1) := by decide +kernel
theorem dX9_submit_37 : decode cX9_submit 37 = .ok (.getfield 231, 3) := by decide +kernel
theorem dX9_submit_40 : decode cX9_submit 40 = .ok (.iconst 0, 1) := by decide +kernel
theorem dX9_submit_41 : decode cX9_submit 41 = .ok (.iastore, 1) := by decide +kernel
theorem dX9_submit_42 : decode cX9_submit 42 = .ok (.aload_n 0, 1) := by decide +kernel
theorem dX9_submit_43 : decode cX9_submit 43 = .ok (.getfield 80, 3) := by decide +kernel
theorem dX9_submit_46 : decode cX9_submit 46 = .ok (.aload_n 0, 1) := by decide +kernel
theorem dX9_submit_47 : decode cX9_submit 47 = .ok (.getfield 231, 3) := by decide +kernel
theorem dX9_submit_50 : decode cX9_submit 50 = .ok (.iconst (-1), 1) := by decide +kernel
theorem dX9_submit_51 : decode cX9_submit 51 = .ok (.iastore, 1) := by decide +kernel
theorem dX9_submit_52 : decode cX9_submit 52 = .ok (.aload_n 0, 1) := by decide +kernel
theorem dX9_submit_53 : decode cX9_submit 53 = .ok (.getfield 83, 3) := by decide +kernel
theorem dX9_submit_56 : decode cX9_submit 56 = .ok (.aload_n 0, 1) := by decide +kernel
theorem dX9_submit_57 : decode cX9_submit 57 = .ok (.getfield 231, 3) := by decide +kernel
theorem dX9_submit_60 : decode cX9_submit 60 = .ok (.iconst (-1), 1) := by decide +kernel
theorem dX9_submit_61 : decode cX9_submit 61 = .ok (.iastore, 1) := by decide +kernel
theorem dX9_submit_62 : decode cX9_submit 62 = .ok (.aload_n 0, 1) := by decide +kernel
theorem dX9_submit_63 : decode cX9_submit 63 = .ok (.getfield 86, 3) := by decide +kernel
theorem dX9_submit_66 : decode cX9_submit 66 = .ok (.aload_n 0, 1) := by decide +kernel
theorem dX9_submit_67 : decode cX9_submit 67 = .ok (.getfield 231, 3) := by decide +kernel
theorem dX9_submit_70 : decode cX9_submit 70 = .ok (.iconst (-1), 1) := by decide +kernel
theorem dX9_submit_71 : decode cX9_submit 71 = .ok (.iastore, 1) := by decide +kernel
theorem dX9_submit_72 : decode cX9_submit 72 = .ok (.aload_n 0, 1) := by decide +kernel
theorem dX9_submit_73 : decode cX9_submit 73 = .ok (.dup, 1) := by decide +kernel
theorem dX9_submit_74 : decode cX9_submit 74 = .ok (.getfield 231, 3) := by decide +kernel
theorem dX9_submit_77 : decode cX9_submit 77 = .ok (.iconst 1, 1) := by decide +kernel
theorem dX9_submit_78 : decode cX9_submit 78 = .ok (.iadd, 1) := by decide +kernel
theorem dX9_submit_79 : decode cX9_submit 79 = .ok (.putfield 231, 3) := by decide +kernel
theorem dX9_submit_82 : decode cX9_submit 82 = .ok (.aload_n 0, 1) := by decide +kernel
theorem dX9_submit_83 : decode cX9_submit 83 = .ok (.getfield 231, 3) := by decide +kernel
theorem dX9_submit_86 : decode cX9_submit 86 = .ok (.iconst 1, 1) := by decide +kernel
theorem dX9_submit_87 : decode cX9_submit 87 = .ok (.isub, 1) := by decide +kernel
theorem dX9_submit_88 : decode cX9_submit 88 = .ok (.ireturn, 1) := by decide +kernel
theorem dX9_window_0 : decode cX9_window 0 = .ok (.iload_n 1, 1) := by decide +kernel
theorem dX9_window_1 : decode cX9_window 1 = .ok (.i2l, 1) := by decide +kernel
theorem dX9_window_2 : decode cX9_window 2 = .ok (.lconst 1, 1) := by decide +kernel
theorem dX9_window_3 : decode cX9_window 3 = .ok (.ldc2_w 402, 3) := by decide +kernel
theorem dX9_window_6 : decode cX9_window 6 = .ok (.invokestatic 225, 3) := by decide +kernel
theorem dX9_window_9 : decode cX9_window 9 = .ok (.ifCond .ne 6, 3) := by decide +kernel
theorem dX9_window_12 : decode cX9_window 12 = .ok (.bipush (-2), 2) := by decide +kernel
theorem dX9_window_14 : decode cX9_window 14 = .ok (.ireturn, 1) := by decide +kernel
theorem dX9_window_15 : decode cX9_window 15 = .ok (.aload_n 0, 1) := by decide +kernel
theorem dX9_window_16 : decode cX9_window 16 = .ok (.getfield 117, 3) := by decide +kernel
theorem dX9_window_19 : decode cX9_window 19 = .ok (.istore_n 2, 1) := by decide +kernel
theorem dX9_window_20 : decode cX9_window 20 = .ok (.aload_n 0, 1) := by decide +kernel
theorem dX9_window_21 : decode cX9_window 21 = .ok (.iload_n 1, 1) := by decide +kernel
theorem dX9_window_22 : decode cX9_window 22 = .ok (.putfield 117, 3) := by decide +kernel
theorem dX9_window_25 : decode cX9_window 25 = .ok (.iload_n 2, 1) := by decide +kernel
theorem dX9_window_26 : decode cX9_window 26 = .ok (.ireturn, 1) := by decide +kernel
theorem dX9_run_0 : decode cX9_run 0 = .ok (.iload_n 1, 1) := by decide +kernel
theorem dX9_run_1 : decode cX9_run 1 = .ok (.i2l, 1) := by decide +kernel
theorem dX9_run_2 : decode cX9_run 2 = .ok (.lconst 1, 1) := by decide +kernel
theorem dX9_run_3 : decode cX9_run 3 = .ok (.ldc2_w 404, 3) := by decide +kernel
theorem dX9_run_6 : decode cX9_run 6 = .ok (.invokestatic 225, 3) := by decide +kernel
theorem dX9_run_9 : decode cX9_run 9 = .ok (.ifCond .ne 6, 3) := by decide +kernel
theorem dX9_run_12 : decode cX9_run 12 = .ok (.bipush (-2), 2) := by decide +kernel
theorem dX9_run_14 : decode cX9_run 14 = .ok (.ireturn, 1) := by decide +kernel
theorem dX9_run_15 : decode cX9_run 15 = .ok (.iconst 0, 1) := by decide +kernel
theorem dX9_run_16 : decode cX9_run 16 = .ok (.istore_n 2, 1) := by decide +kernel
theorem dX9_run_17 : decode cX9_run 17 = .ok (.iconst 0, 1) := by decide +kernel
theorem dX9_run_18 : decode cX9_run 18 = .ok (.istore_n 3, 1) := by decide +kernel
theorem dX9_run_19 : decode cX9_run 19 = .ok (.iload_n 3, 1) := by decide +kernel
theorem dX9_run_20 : decode cX9_run 20 = .ok (.iload_n 1, 1) := by decide +kernel
theorem dX9_run_21 : decode cX9_run 21 = .ok (.if_icmp .ge 24, 3) := by decide +kernel
theorem dX9_run_24 : decode cX9_run 24 = .ok (.aload_n 0, 1) := by decide +kernel
theorem dX9_run_25 : decode cX9_run 25 = .ok (.iconst 0, 1) := by decide +kernel
theorem dX9_run_26 : decode cX9_run 26 = .ok (.invokevirtual 406, 3) := by decide +kernel
theorem dX9_run_29 : decode cX9_run 29 = .ok (.ifCond .le 16, 3) := by decide +kernel
theorem dX9_run_32 : decode cX9_run 32 = .ok (.iload_n 2, 1) := by decide +kernel
theorem dX9_run_33 : decode cX9_run 33 = .ok (.aload_n 0, 1) := by decide +kernel
theorem dX9_run_34 : decode cX9_run 34 = .ok (.invokevirtual 409, 3) := by decide +kernel
theorem dX9_run_37 : decode cX9_run 37 = .ok (.iadd, 1) := by decide +kernel
theorem dX9_run_38 : decode cX9_run 38 = .ok (.istore_n 2, 1) := by decide +kernel
theorem dX9_run_39 : decode cX9_run 39 = .ok (.iinc 3 1, 3) := by decide +kernel
theorem dX9_run_42 : decode cX9_run 42 = .ok (.goto (-23), 3) := by decide +kernel
theorem dX9_run_45 : decode cX9_run 45 = .ok (.iload_n 2, 1) := by decide +kernel
theorem dX9_run_46 : decode cX9_run 46 = .ok (.ireturn, 1) := by decide +kernel
theorem dX9_ticket_0 : decode cX9_ticket 0 = .ok (.aload_n 0, 1) := by decide +kernel
theorem dX9_ticket_1 : decode cX9_ticket 1 = .ok (.iload_n 1, 1) := by decide +kernel
theorem dX9_ticket_2 : decode cX9_ticket 2 = .ok (.invokevirtual 413, 3) := by decide +kernel
theorem dX9_ticket_5 : decode cX9_ticket 5 = .ok (.ifCond .ne 6, 3) := by decide +kernel
theorem dX9_ticket_8 : decode cX9_ticket 8 = .ok (.bipush (-2), 2) := by decide +kernel
theorem dX9_ticket_10 : decode cX9_ticket 10 = .ok (.ireturn, 1) := by decide +kernel
theorem dX9_ticket_11 : decode cX9_ticket 11 = .ok (.iload_n 2, 1) := by decide +kernel
theorem dX9_ticket_12 : decode cX9_ticket 12 = .ok (.tableswitch 93 0 6 #[44, 51, 58, 65, 72, 79, 86], 44) := by decide +kernel
theorem dX9_ticket_56 : decode cX9_ticket 56 = .ok (.aload_n 0, 1) := by decide +kernel
theorem dX9_ticket_57 : decode cX9_ticket 57 = .ok (.getfield 65, 3) := by decide +kernel
theorem dX9_ticket_60 : decode cX9_ticket 60 = .ok (.iload_n 1, 1) := by decide +kernel
theorem dX9_ticket_61 : decode cX9_ticket 61 = .ok (.iaload, 1) := by decide +kernel
theorem dX9_ticket_62 : decode cX9_ticket 62 = .ok (.ireturn, 1) := by decide +kernel
theorem dX9_ticket_63 : decode cX9_ticket 63 = .ok (.aload_n 0, 1) := by decide +kernel
theorem dX9_ticket_64 : decode cX9_ticket 64 = .ok (.getfield 62, 3) := by decide +kernel
theorem dX9_ticket_67 : decode cX9_ticket 67 = .ok (.iload_n 1, 1) := by decide +kernel
theorem dX9_ticket_68 : decode cX9_ticket 68 = .ok (.iaload, 1) := by decide +kernel
theorem dX9_ticket_69 : decode cX9_ticket 69 = .ok (.ireturn, 1) := by decide +kernel
theorem dX9_ticket_70 : decode cX9_ticket 70 = .ok (.aload_n 0, 1) := by decide +kernel
theorem dX9_ticket_71 : decode cX9_ticket 71 = .ok (.getfield 68, 3) := by decide +kernel
theorem dX9_ticket_74 : decode cX9_ticket 74 = .ok (.iload_n 1, 1) := by decide +kernel
theorem dX9_ticket_75 : decode cX9_ticket 75 = .ok (.iaload, 1) := by decide +kernel
theorem dX9_ticket_76 : decode cX9_ticket 76 = .ok (.ireturn, 1) := by decide +kernel
theorem dX9_ticket_77 : decode cX9_ticket 77 = .ok (.aload_n 0, 1) := by decide +kernel
theorem dX9_ticket_78 : decode cX9_ticket 78 = .ok (.getfield 74, 3) := by decide +kernel
theorem dX9_ticket_81 : decode cX9_ticket 81 = .ok (.iload_n 1, 1) := by decide +kernel
theorem dX9_ticket_82 : decode cX9_ticket 82 = .ok (.iaload, 1) := by decide +kernel
theorem dX9_ticket_83 : decode cX9_ticket 83 = .ok (.ireturn, 1) := by decide +kernel
theorem dX9_ticket_84 : decode cX9_ticket 84 = .ok (.aload_n 0, 1) := by decide +kernel
theorem dX9_ticket_85 : decode cX9_ticket 85 = .ok (.getfield 77, 3) := by decide +kernel
theorem dX9_ticket_88 : decode cX9_ticket 88 = .ok (.iload_n 1, 1) := by decide +kernel
theorem dX9_ticket_89 : decode cX9_ticket 89 = .ok (.iaload, 1) := by decide +kernel
theorem dX9_ticket_90 : decode cX9_ticket 90 = .ok (.ireturn, 1) := by decide +kernel
theorem dX9_ticket_91 : decode cX9_ticket 91 = .ok (.aload_n 0, 1) := by decide +kernel
theorem dX9_ticket_92 : decode cX9_ticket 92 = .ok (.getfield 80, 3) := by decide +kernel
theorem dX9_ticket_95 : decode cX9_ticket 95 = .ok (.iload_n 1, 1) := by decide +kernel
theorem dX9_ticket_96 : decode cX9_ticket 96 = .ok (.iaload, 1) := by decide +kernel
theorem dX9_ticket_97 : decode cX9_ticket 97 = .ok (.ireturn, 1) := by decide +kernel
theorem dX9_ticket_98 : decode cX9_ticket 98 = .ok (.aload_n 0, 1) := by decide +kernel
theorem dX9_ticket_99 : decode cX9_ticket 99 = .ok (.getfield 71, 3) := by decide +kernel
theorem dX9_ticket_102 : decode cX9_ticket 102 = .ok (.iload_n 1, 1) := by decide +kernel
theorem dX9_ticket_103 : decode cX9_ticket 103 = .ok (.iaload, 1) := by decide +kernel
theorem dX9_ticket_104 : decode cX9_ticket 104 = .ok (.ireturn, 1) := by decide +kernel
theorem dX9_ticket_105 : decode cX9_ticket 105 = .ok (.bipush (-2), 2) := by decide +kernel
theorem dX9_ticket_107 : decode cX9_ticket 107 = .ok (.ireturn, 1) := by decide +kernel
theorem dX9_answer_0 : decode cX9_answer 0 = .ok (.aload_n 0, 1) := by decide +kernel
theorem dX9_answer_1 : decode cX9_answer 1 = .ok (.iload_n 1, 1) := by decide +kernel
theorem dX9_answer_2 : decode cX9_answer 2 = .ok (.invokevirtual 413, 3) := by decide +kernel
theorem dX9_answer_5 : decode cX9_answer 5 = .ok (.ifCond .eq 49, 3) := by decide +kernel
theorem dX9_answer_8 : decode cX9_answer 8 = .ok (.aload_n 0, 1) := by decide +kernel
theorem dX9_answer_9 : decode cX9_answer 9 = .ok (.getfield 65, 3) := by decide +kernel
theorem dX9_answer_12 : decode cX9_answer 12 = .ok (.iload_n 1, 1) := by decide +kernel
theorem dX9_answer_13 : decode cX9_answer 13 = .ok (.iaload, 1) := by decide +kernel
theorem dX9_answer_14 : decode cX9_answer 14 = .ok (.iconst 1, 1) := by decide +kernel
theorem dX9_answer_15 : decode cX9_answer 15 = .ok (.if_icmp .ne 39, 3) := by decide +kernel
theorem dX9_answer_18 : decode cX9_answer 18 = .ok (.iload_n 2, 1) := by decide +kernel
theorem dX9_answer_19 : decode cX9_answer 19 = .ok (.i2l, 1) := by decide +kernel
theorem dX9_answer_20 : decode cX9_answer 20 = .ok (.lconst 0, 1) := by decide +kernel
theorem dX9_answer_21 : decode cX9_answer 21 = .ok (.ldc2_w 242, 3) := by decide +kernel
theorem dX9_answer_24 : decode cX9_answer 24 = .ok (.invokestatic 225, 3) := by decide +kernel
theorem dX9_answer_27 : decode cX9_answer 27 = .ok (.ifCond .eq 27, 3) := by decide +kernel
theorem dX9_answer_30 : decode cX9_answer 30 = .ok (.iload_n 2, 1) := by decide +kernel
theorem dX9_answer_31 : decode cX9_answer 31 = .ok (.aload_n 0, 1) := by decide +kernel
theorem dX9_answer_32 : decode cX9_answer 32 = .ok (.getfield 92, 3) := by decide +kernel
theorem dX9_answer_35 : decode cX9_answer 35 = .ok (.iload_n 1, 1) := by decide +kernel
theorem dX9_answer_36 : decode cX9_answer 36 = .ok (.iaload, 1) := by decide +kernel
theorem dX9_answer_37 : decode cX9_answer 37 = .ok (.if_icmp .ge 17, 3) := by decide +kernel
theorem dX9_answer_40 : decode cX9_answer 40 = .ok (.aload_n 0, 1) := by decide +kernel
theorem dX9_answer_41 : decode cX9_answer 41 = .ok (.getfield 89, 3) := by decide +kernel
theorem dX9_answer_44 : decode cX9_answer 44 = .ok (.bipush 8, 2) := by decide +kernel
theorem dX9_answer_46 : decode cX9_answer 46 = .ok (.iload_n 1, 1) := by decide +kernel
theorem dX9_answer_47 : decode cX9_answer 47 = .ok (.imul, 1) := by decide +kernel
theorem dX9_answer_48 : decode cX9_answer 48 = .ok (.iload_n 2, 1) := by decide +kernel
