theorem dX12_init_0 : decode cX12_init 0 = .ok (.aload_n 0, 1) := by decide +kernel
theorem dX12_init_1 : decode cX12_init 1 = .ok (.invokespecial 1, 3) := by decide +kernel
theorem dX12_init_4 : decode cX12_init 4 = .ok (.aload_n 0, 1) := by decide +kernel
theorem dX12_init_5 : decode cX12_init 5 = .ok (.iconst 3, 1) := by decide +kernel
theorem dX12_init_6 : decode cX12_init 6 = .ok (.newarray .int, 2) := by decide +kernel
theorem dX12_init_8 : decode cX12_init 8 = .ok (.putfield 7, 3) := by decide +kernel
theorem dX12_init_11 : decode cX12_init 11 = .ok (.aload_n 0, 1) := by decide +kernel
theorem dX12_init_12 : decode cX12_init 12 = .ok (.iconst 3, 1) := by decide +kernel
theorem dX12_init_13 : decode cX12_init 13 = .ok (.newarray .int, 2) := by decide +kernel
theorem dX12_init_15 : decode cX12_init 15 = .ok (.putfield 13, 3) := by decide +kernel
theorem dX12_init_18 : decode cX12_init 18 = .ok (.aload_n 0, 1) := by decide +kernel
theorem dX12_init_19 : decode cX12_init 19 = .ok (.bipush 120, 2) := by decide +kernel
theorem dX12_init_21 : decode cX12_init 21 = .ok (.newarray .boolean, 2) := by decide +kernel
theorem dX12_init_23 : decode cX12_init 23 = .ok (.putfield 16, 3) := by decide +kernel
theorem dX12_init_26 : decode cX12_init 26 = .ok (.aload_n 0, 1) := by decide +kernel
theorem dX12_init_27 : decode cX12_init 27 = .ok (.sipush 360, 3) := by decide +kernel
theorem dX12_init_30 : decode cX12_init 30 = .ok (.newarray .int, 2) := by decide +kernel
theorem dX12_init_32 : decode cX12_init 32 = .ok (.putfield 20, 3) := by decide +kernel
theorem dX12_init_35 : decode cX12_init 35 = .ok (.aload_n 0, 1) := by decide +kernel
theorem dX12_init_36 : decode cX12_init 36 = .ok (.bipush 9, 2) := by decide +kernel
theorem dX12_init_38 : decode cX12_init 38 = .ok (.newarray .int, 2) := by decide +kernel
theorem dX12_init_40 : decode cX12_init 40 = .ok (.putfield 23, 3) := by decide +kernel
theorem dX12_init_43 : decode cX12_init 43 = .ok (.aload_n 0, 1) := by decide +kernel
theorem dX12_init_44 : decode cX12_init 44 = .ok (.bipush 9, 2) := by decide +kernel
theorem dX12_init_46 : decode cX12_init 46 = .ok (.newarray .int, 2) := by decide +kernel
theorem dX12_init_48 : decode cX12_init 48 = .ok (.putfield 26, 3) := by decide +kernel
theorem dX12_init_51 : decode cX12_init 51 = .ok (.aload_n 0, 1) := by decide +kernel
theorem dX12_init_52 : decode cX12_init 52 = .ok (.iconst 3, 1) := by decide +kernel
theorem dX12_init_53 : decode cX12_init 53 = .ok (.newarray .int, 2) := by decide +kernel
theorem dX12_init_55 : decode cX12_init 55 = .ok (.putfield 29, 3) := by decide +kernel
theorem dX12_init_58 : decode cX12_init 58 = .ok (.aload_n 0, 1) := by decide +kernel
theorem dX12_init_59 : decode cX12_init 59 = .ok (.iconst 3, 1) := by decide +kernel
theorem dX12_init_60 : decode cX12_init 60 = .ok (.newarray .int, 2) := by decide +kernel
theorem dX12_init_62 : decode cX12_init 62 = .ok (.putfield 32, 3) := by decide +kernel
theorem dX12_init_65 : decode cX12_init 65 = .ok (.aload_n 0, 1) := by decide +kernel
theorem dX12_init_66 : decode cX12_init 66 = .ok (.bipush 9, 2) := by decide +kernel
theorem dX12_init_68 : decode cX12_init 68 = .ok (.newarray .int, 2) := by decide +kernel
theorem dX12_init_70 : decode cX12_init 70 = .ok (.putfield 35, 3) := by decide +kernel
theorem dX12_init_73 : decode cX12_init 73 = .ok (.aload_n 0, 1) := by decide +kernel
theorem dX12_init_74 : decode cX12_init 74 = .ok (.bipush 9, 2) := by decide +kernel
theorem dX12_init_76 : decode cX12_init 76 = .ok (.newarray .int, 2) := by decide +kernel
theorem dX12_init_78 : decode cX12_init 78 = .ok (.putfield 38, 3) := by decide +kernel
theorem dX12_init_81 : decode cX12_init 81 = .ok (.aload_n 0, 1) := by decide +kernel
theorem dX12_init_82 : decode cX12_init 82 = .ok (.bipush 9, 2) := by decide +kernel
theorem dX12_init_84 : decode cX12_init 84 = .ok (.newarray .int, 2) := by decide +kernel
theorem dX12_init_86 : decode cX12_init 86 = .ok (.putfield 41, 3) := by decide +kernel
theorem dX12_init_89 : decode cX12_init 89 = .ok (.aload_n 0, 1) := by decide +kernel
theorem dX12_init_90 : decode cX12_init 90 = .ok (.bipush 6, 2) := by decide +kernel
theorem dX12_init_92 : decode cX12_init 92 = .ok (.newarray .int, 2) := by decide +kernel
theorem dX12_init_94 : decode cX12_init 94 = .ok (.putfield 44, 3) := by decide +kernel
theorem dX12_init_97 : decode cX12_init 97 = .ok (.aload_n 0, 1) := by decide +kernel
theorem dX12_init_98 : decode cX12_init 98 = .ok (.bipush 6, 2) := by decide +kernel
theorem dX12_init_100 : decode cX12_init 100 = .ok (.newarray .int, 2) := by decide +kernel
theorem dX12_init_102 : decode cX12_init 102 = .ok (.putfield 47, 3) := by decide +kernel
theorem dX12_init_105 : decode cX12_init 105 = .ok (.aload_n 0, 1) := by decide +kernel
theorem dX12_init_106 : decode cX12_init 106 = .ok (.sipush 240, 3) := by decide +kernel
theorem dX12_init_109 : decode cX12_init 109 = .ok (.newarray .int, 2) := by decide +kernel
theorem dX12_init_111 : decode cX12_init 111 = .ok (.putfield 50, 3) := by decide +kernel
theorem dX12_init_114 : decode cX12_init 114 = .ok (.aload_n 0, 1) := by decide +kernel
theorem dX12_init_115 : decode cX12_init 115 = .ok (.bipush 6, 2) := by decide +kernel
theorem dX12_init_117 : decode cX12_init 117 = .ok (.newarray .int, 2) := by decide +kernel
theorem dX12_init_119 : decode cX12_init 119 = .ok (.putfield 53, 3) := by decide +kernel
theorem dX12_init_122 : decode cX12_init 122 = .ok (.aload_n 0, 1) := by decide +kernel
theorem dX12_init_123 : decode cX12_init 123 = .ok (.iconst 4, 1) := by decide +kernel
theorem dX12_init_124 : decode cX12_init 124 = .ok (.putfield 56, 3) := by decide +kernel
theorem dX12_init_127 : decode cX12_init 127 = .ok (.aload_n 0, 1) := by decide +kernel
theorem dX12_init_128 : decode cX12_init 128 = .ok (.bipush 26, 2) := by decide +kernel
theorem dX12_init_130 : decode cX12_init 130 = .ok (.newarray .int, 2) := by decide +kernel
theorem dX12_init_132 : decode cX12_init 132 = .ok (.putfield 60, 3) := by decide +kernel
theorem dX12_init_135 : decode cX12_init 135 = .ok (.aload_n 0, 1) := by decide +kernel
theorem dX12_init_136 : decode cX12_init 136 = .ok (.iconst 2, 1) := by decide +kernel
theorem dX12_init_137 : decode cX12_init 137 = .ok (.newarray .int, 2) := by decide +kernel
theorem dX12_init_139 : decode cX12_init 139 = .ok (.putfield 63, 3) := by decide +kernel
theorem dX12_init_142 : decode cX12_init 142 = .ok (.aload_n 0, 1) := by decide +kernel
theorem dX12_init_143 : decode cX12_init 143 = .ok (.bipush 8, 2) := by decide +kernel
theorem dX12_init_145 : decode cX12_init 145 = .ok (.newarray .int, 2) := by decide +kernel
theorem dX12_init_147 : decode cX12_init 147 = .ok (.putfield 66, 3) := by decide +kernel
theorem dX12_init_150 : decode cX12_init 150 = .ok (.aload_n 0, 1) := by decide +kernel
theorem dX12_init_151 : decode cX12_init 151 = .ok (.bipush 24, 2) := by decide +kernel
theorem dX12_init_153 : decode cX12_init 153 = .ok (.newarray .int, 2) := by decide +kernel
theorem dX12_init_155 : decode cX12_init 155 = .ok (.putfield 69, 3) := by decide +kernel
theorem dX12_init_158 : decode cX12_init 158 = .ok (.aload_n 0, 1) := by decide +kernel
theorem dX12_init_159 : decode cX12_init 159 = .ok (.bipush 8, 2) := by decide +kernel
theorem dX12_init_161 : decode cX12_init 161 = .ok (.newarray .int, 2) := by decide +kernel
theorem dX12_init_163 : decode cX12_init 163 = .ok (.putfield 72, 3) := by decide +kernel
theorem dX12_init_166 : decode cX12_init 166 = .ok (.aload_n 0, 1) := by decide +kernel
theorem dX12_init_167 : decode cX12_init 167 = .ok (.bipush 32, 2) := by decide +kernel
theorem dX12_init_169 : decode cX12_init 169 = .ok (.newarray .int, 2) := by decide +kernel
theorem dX12_init_171 : decode cX12_init 171 = .ok (.putfield 75, 3) := by decide +kernel
theorem dX12_init_174 : decode cX12_init 174 = .ok (.aload_n 0, 1) := by decide +kernel
theorem dX12_init_175 : decode cX12_init 175 = .ok (.bipush 32, 2) := by decide +kernel
theorem dX12_init_177 : decode cX12_init 177 = .ok (.newarray .int, 2) := by decide +kernel
theorem dX12_init_179 : decode cX12_init 179 = .ok (.putfield 78, 3) := by decide +kernel
theorem dX12_init_182 : decode cX12_init 182 = .ok (.aload_n 0, 1) := by decide +kernel
theorem dX12_init_183 : decode cX12_init 183 = .ok (.bipush 32, 2) := by decide +kernel
theorem dX12_init_185 : decode cX12_init 185 = .ok (.newarray .int, 2) := by decide +kernel
theorem dX12_init_187 : decode cX12_init 187 = .ok (.putfield 81, 3) := by decide +kernel
theorem dX12_init_190 : decode cX12_init 190 = .ok (.aload_n 0, 1) := by decide +kernel
theorem dX12_init_191 : decode cX12_init 191 = .ok (.bipush 32, 2) := by decide +kernel
theorem dX12_init_193 : decode cX12_init 193 = .ok (.newarray .int, 2) := by decide +kernel
theorem dX12_init_195 : decode cX12_init 195 = .ok (.putfield 84, 3) := by decide +kernel
theorem dX12_init_198 : decode cX12_init 198 = .ok (.aload_n 0, 1) := by decide +kernel
theorem dX12_init_199 : decode cX12_init 199 = .ok (.bipush 8, 2) := by decide +kernel
theorem dX12_init_201 : decode cX12_init 201 = .ok (.newarray .int, 2) := by decide +kernel
theorem dX12_init_203 : decode cX12_init 203 = .ok (.putfield 87, 3) := by decide +kernel
theorem dX12_init_206 : decode cX12_init 206 = .ok (.aload_n 0, 1) := by decide +kernel
theorem dX12_init_207 : decode cX12_init 207 = .ok (.bipush 24, 2) := by decide +kernel
theorem dX12_init_209 : decode cX12_init 209 = .ok (.newarray .int, 2) := by decide +kernel
theorem dX12_init_211 : decode cX12_init 211 = .ok (.putfield 90, 3) := by decide +kernel
theorem dX12_init_214 : decode cX12_init 214 = .ok (.aload_n 0, 1) := by decide +kernel
theorem dX12_init_215 : decode cX12_init 215 = .ok (.bipush 24, 2) := by decide +kernel
theorem dX12_init_217 : decode cX12_init 217 = .ok (.newarray .int, 2) := by decide +kernel
theorem dX12_init_219 : decode cX12_init 219 = .ok (.putfield 93, 3) := by decide +kernel
theorem dX12_init_222 : decode cX12_init 222 = .ok (.aload_n 0, 1) := by decide +kernel
theorem dX12_init_223 : decode cX12_init 223 = .ok (.bipush 24, 2) := by decide +kernel
theorem dX12_init_225 : decode cX12_init 225 = .ok (.newarray .int, 2) := by decide +kernel
theorem dX12_init_227 : decode cX12_init 227 = .ok (.putfield 96, 3) := by decide +kernel
theorem dX12_init_230 : decode cX12_init 230 = .ok (.aload_n 0, 1) := by decide +kernel
theorem dX12_init_231 : decode cX12_init 231 = .ok (.bipush 24, 2) := by decide +kernel
theorem dX12_init_233 : decode cX12_init 233 = .ok (.newarray .int, 2) := by decide +kernel
theorem dX12_init_235 : decode cX12_init 235 = .ok (.putfield 99, 3) := by decide +kernel
theorem dX12_init_238 : decode cX12_init 238 = .ok (.aload_n 0, 1) := by decide +kernel
theorem dX12_init_239 : decode cX12_init 239 = .ok (.iconst 3, 1) := by decide +kernel
theorem dX12_init_240 : decode cX12_init 240 = .ok (.newarray .int, 2) := by decide +kernel
theorem dX12_init_242 : decode cX12_init 242 = .ok (.putfield 102, 3) := by decide +kernel
theorem dX12_init_245 : decode cX12_init 245 = .ok (.aload_n 0, 1) := by decide +kernel
theorem dX12_init_246 : decode cX12_init 246 = .ok (.iconst 3, 1) := by decide +kernel
theorem dX12_init_247 : decode cX12_init 247 = .ok (.newarray .int, 2) := by decide +kernel
theorem dX12_init_249 : decode cX12_init 249 = .ok (.putfield 105, 3) := by decide +kernel
theorem dX12_init_252 : decode cX12_init 252 = .ok (.aload_n 0, 1) := by decide +kernel
theorem dX12_init_253 : decode cX12_init 253 = .ok (.iconst 3, 1) := by decide +kernel
theorem dX12_init_254 : decode cX12_init 254 = .ok (.newarray .int, 2) := by decide +kernel
theorem dX12_init_256 : decode cX12_init 256 = .ok (.putfield 108, 3) := by decide +kernel
theorem dX12_init_259 : decode cX12_init 259 = .ok (.aload_n 0, 1) := by decide +kernel
theorem dX12_init_260 : decode cX12_init 260 = .ok (.iconst 3, 1) := by decide +kernel
theorem dX12_init_261 : decode cX12_init 261 = .ok (.newarray .int, 2) := by decide +kernel
theorem dX12_init_263 : decode cX12_init 263 = .ok (.putfield 111, 3) := by decide +kernel
theorem dX12_init_266 : decode cX12_init 266 = .ok (.aload_n 0, 1) := by decide +kernel
theorem dX12_init_267 : decode cX12_init 267 = .ok (.iconst 3, 1) := by decide +kernel
theorem dX12_init_268 : decode cX12_init 268 = .ok (.newarray .int, 2) := by decide +kernel
theorem dX12_init_270 : decode cX12_init 270 = .ok (.putfield 114, 3) := by decide +kernel
theorem dX12_init_273 : decode cX12_init 273 = .ok (.aload_n 0, 1) := by decide +kernel
theorem dX12_init_274 : decode cX12_init 274 = .ok (.iconst 3, 1) := by decide +kernel
theorem dX12_init_275 : decode cX12_init 275 = .ok (.newarray .int, 2) := by decide +kernel
theorem dX12_init_277 : decode cX12_init 277 = .ok (.putfield 117, 3) := by decide +kernel
theorem dX12_init_280 : decode cX12_init 280 = .ok (.aload_n 0, 1) := by decide +kernel
theorem dX12_init_281 : decode cX12_init 281 = .ok (.iconst 3, 1) := by decide +kernel
theorem dX12_init_282 : decode cX12_init 282 = .ok (.newarray .int, 2) := by decide +kernel
theorem dX12_init_284 : decode cX12_init 284 = .ok (.putfield 120, 3) := by decide +kernel
theorem dX12_init_287 : decode cX12_init 287 = .ok (.aload_n 0, 1) := by decide +kernel
theorem dX12_init_288 : decode cX12_init 288 = .ok (.iconst 2, 1) := by decide +kernel
theorem dX12_init_289 : decode cX12_init 289 = .ok (.newarray .int, 2) := by decide +kernel
theorem dX12_init_291 : decode cX12_init 291 = .ok (.putfield 123, 3) := by decide +kernel
theorem dX12_init_294 : decode cX12_init 294 = .ok (.aload_n 0, 1) := by decide +kernel
theorem dX12_init_295 : decode cX12_init 295 = .ok (.iconst 3, 1) := by decide +kernel
theorem dX12_init_296 : decode cX12_init 296 = .ok (.newarray .int, 2) := by decide +kernel
theorem dX12_init_298 : decode cX12_init 298 = .ok (.putfield 126, 3) := by decide +kernel
theorem dX12_init_301 : decode cX12_init 301 = .ok (.aload_n 0, 1) := by decide +kernel
theorem dX12_init_302 : decode cX12_init 302 = .ok (.iconst 3, 1) := by decide +kernel
theorem dX12_init_303 : decode cX12_init 303 = .ok (.newarray .int, 2) := by decide +kernel
theorem dX12_init_305 : decode cX12_init 305 = .ok (.putfield 129, 3) := by decide +kernel
theorem dX12_init_308 : decode cX12_init 308 = .ok (.aload_n 0, 1) := by decide +kernel
theorem dX12_init_309 : decode cX12_init 309 = .ok (.iconst 2, 1) := by decide +kernel
theorem dX12_init_310 : decode cX12_init 310 = .ok (.newarray .int, 2) := by decide +kernel
theorem dX12_init_312 : decode cX12_init 312 = .ok (.putfield 132, 3) := by decide +kernel
theorem dX12_init_315 : decode cX12_init 315 = .ok (.aload_n 0, 1) := by decide +kernel
theorem dX12_init_316 : decode cX12_init 316 = .ok (.sipush 1200, 3) := by decide +kernel
theorem dX12_init_319 : decode cX12_init 319 = .ok (.newarray .int, 2) := by decide +kernel
theorem dX12_init_321 : decode cX12_init 321 = .ok (.putfield 135, 3) := by decide +kernel
theorem dX12_init_324 : decode cX12_init 324 = .ok (.aload_n 0, 1) := by decide +kernel
theorem dX12_init_325 : decode cX12_init 325 = .ok (.iconst 2, 1) := by decide +kernel
theorem dX12_init_326 : decode cX12_init 326 = .ok (.newarray .int, 2) := by decide +kernel
theorem dX12_init_328 : decode cX12_init 328 = .ok (.putfield 138, 3) := by decide +kernel
theorem dX12_init_331 : decode cX12_init 331 = .ok (.return_, 1) := by decide +kernel
theorem dX12_thrown_0 : decode cX12_thrown 0 = .ok (.aload_n 0, 1) := by decide +kernel
theorem dX12_thrown_1 : decode cX12_thrown 1 = .ok (.getfield 141, 3) := by decide +kernel
theorem dX12_thrown_4 : decode cX12_thrown 4 = .ok (.ireturn, 1) := by decide +kernel
theorem dX12_in_0 : decode cX12_in 0 = .ok (.iload_n 0, 1) := by decide +kernel
theorem dX12_in_1 : decode cX12_in 1 = .ok (.iload_n 1, 1) := by decide +kernel
theorem dX12_in_2 : decode cX12_in 2 = .ok (.if_icmp .lt 12, 3) := by decide +kernel
theorem dX12_in_5 : decode cX12_in 5 = .ok (.iload_n 0, 1) := by decide +kernel
theorem dX12_in_6 : decode cX12_in 6 = .ok (.iload_n 2, 1) := by decide +kernel
theorem dX12_in_7 : decode cX12_in 7 = .ok (.if_icmp .gt 7, 3) := by decide +kernel
theorem dX12_in_10 : decode cX12_in 10 = .ok (.iconst 1, 1) := by decide +kernel
theorem dX12_in_11 : decode cX12_in 11 = .ok (.goto 4, 3) := by decide +kernel
theorem dX12_in_14 : decode cX12_in 14 = .ok (.iconst 0, 1) := by decide +kernel
theorem dX12_in_15 : decode cX12_in 15 = .ok (.ireturn, 1) := by decide +kernel
theorem dX12_most_0 : decode cX12_most 0 = .ok (.iload_n 0, 1) := by decide +kernel
theorem dX12_most_1 : decode cX12_most 1 = .ok (.iload_n 1, 1) := by decide +kernel
theorem dX12_most_2 : decode cX12_most 2 = .ok (.if_icmp .le 7, 3) := by decide +kernel
theorem dX12_most_5 : decode cX12_most 5 = .ok (.iload_n 0, 1) := by decide +kernel
theorem dX12_most_6 : decode cX12_most 6 = .ok (.goto 4, 3) := by decide +kernel
theorem dX12_most_9 : decode cX12_most 9 = .ok (.iload_n 1, 1) := by decide +kernel
theorem dX12_most_10 : decode cX12_most 10 = .ok (.ireturn, 1) := by decide +kernel
theorem dX12_fewest_0 : decode cX12_fewest 0 = .ok (.iload_n 0, 1) := by decide +kernel
theorem dX12_fewest_1 : decode cX12_fewest 1 = .ok (.iload_n 1, 1) := by decide +kernel
theorem dX12_fewest_2 : decode cX12_fewest 2 = .ok (.if_icmp .ge 7, 3) := by decide +kernel
theorem dX12_fewest_5 : decode cX12_fewest 5 = .ok (.iload_n 0, 1) := by decide +kernel
theorem dX12_fewest_6 : decode cX12_fewest 6 = .ok (.goto 4, 3) := by decide +kernel
theorem dX12_fewest_9 : decode cX12_fewest 9 = .ok (.iload_n 1, 1) := by decide +kernel
theorem dX12_fewest_10 : decode cX12_fewest 10 = .ok (.ireturn, 1) := by decide +kernel
theorem dX12_fails_0 : decode cX12_fails 0 = .ok (.aload_n 0, 1) := by decide +kernel
theorem dX12_fails_1 : decode cX12_fails 1 = .ok (.getfield 141, 3) := by decide +kernel
theorem dX12_fails_4 : decode cX12_fails 4 = .ok (.ifCond .ne 12, 3) := by decide +kernel
theorem dX12_fails_7 : decode cX12_fails 7 = .ok (.iload_n 1, 1) := by decide +kernel
theorem dX12_fails_8 : decode cX12_fails 8 = .ok (.ifCond .eq 8, 3) := by decide +kernel
theorem dX12_fails_11 : decode cX12_fails 11 = .ok (.aload_n 0, 1) := by decide +kernel
theorem dX12_fails_12 : decode cX12_fails 12 = .ok (.iload_n 2, 1) := by decide +kernel
theorem dX12_fails_13 : decode cX12_fails 13 = .ok (.putfield 141, 3) := by decide +kernel
theorem dX12_fails_16 : decode cX12_fails 16 = .ok (.aload_n 0, 1) := by decide +kernel
theorem dX12_fails_17 : decode cX12_fails 17 = .ok (.getfield 141, 3) := by decide +kernel
theorem dX12_fails_20 : decode cX12_fails 20 = .ok (.ifCond .le 7, 3) := by decide +kernel
theorem dX12_fails_23 : decode cX12_fails 23 = .ok (.iconst 1, 1) := by decide +kernel
theorem dX12_fails_24 : decode cX12_fails 24 = .ok (.goto 4, 3) := by decide +kernel
theorem dX12_fails_27 : decode cX12_fails 27 = .ok (.iconst 0, 1) := by decide +kernel
theorem dX12_fails_28 : decode cX12_fails 28 = .ok (.ireturn, 1) := by decide +kernel
theorem dX12_isTable_0 : decode cX12_isTable 0 = .ok (.iload_n 1, 1) := by decide +kernel
theorem dX12_isTable_1 : decode cX12_isTable 1 = .ok (.iconst 0, 1) := by decide +kernel
theorem dX12_isTable_2 : decode cX12_isTable 2 = .ok (.aload_n 0, 1) := by decide +kernel
theorem dX12_isTable_3 : decode cX12_isTable 3 = .ok (.getfield 144, 3) := by decide +kernel
theorem dX12_isTable_6 : decode cX12_isTable 6 = .ok (.iconst 1, 1) := by decide +kernel
theorem dX12_isTable_7 : decode cX12_isTable 7 = .ok (.isub, 1) := by decide +kernel
theorem dX12_isTable_8 : decode cX12_isTable 8 = .ok (.invokestatic 147, 3) := by decide +kernel
theorem dX12_isTable_11 : decode cX12_isTable 11 = .ok (.ireturn, 1) := by decide +kernel
theorem dX12_isColumn_0 : decode cX12_isColumn 0 = .ok (.aload_n 0, 1) := by decide +kernel
theorem dX12_isColumn_1 : decode cX12_isColumn 1 = .ok (.iload_n 1, 1) := by decide +kernel
theorem dX12_isColumn_2 : decode cX12_isColumn 2 = .ok (.invokevirtual 151, 3) := by decide +kernel
theorem dX12_isColumn_5 : decode cX12_isColumn 5 = .ok (.ifCond .eq 23, 3) := by decide +kernel
theorem dX12_isColumn_8 : decode cX12_isColumn 8 = .ok (.iload_n 2, 1) := by decide +kernel
theorem dX12_isColumn_9 : decode cX12_isColumn 9 = .ok (.iconst 0, 1) := by decide +kernel
theorem dX12_isColumn_10 : decode cX12_isColumn 10 = .ok (.aload_n 0, 1) := by decide +kernel
theorem dX12_isColumn_11 : decode cX12_isColumn 11 = .ok (.getfield 7, 3) := by decide +kernel
theorem dX12_isColumn_14 : decode cX12_isColumn 14 = .ok (.iload_n 1, 1) := by decide +kernel
theorem dX12_isColumn_15 : decode cX12_isColumn 15 = .ok (.iaload, 1) := by decide +kernel
theorem dX12_isColumn_16 : decode cX12_isColumn 16 = .ok (.iconst 1, 1) := by decide +kernel
theorem dX12_isColumn_17 : decode cX12_isColumn 17 = .ok (.isub, 1) := by decide +kernel
theorem dX12_isColumn_18 : decode cX12_isColumn 18 = .ok (.invokestatic 147, 3) := by decide +kernel
theorem dX12_isColumn_21 : decode cX12_isColumn 21 = .ok (.ifCond .eq 7, 3) := by decide +kernel
theorem dX12_isColumn_24 : decode cX12_isColumn 24 = .ok (.iconst 1, 1) := by decide +kernel
theorem dX12_isColumn_25 : decode cX12_isColumn 25 = .ok (.goto 4, 3) := by decide +kernel
theorem dX12_isColumn_28 : decode cX12_isColumn 28 = .ok (.iconst 0, 1) := by decide +kernel
theorem dX12_isColumn_29 : decode cX12_isColumn 29 = .ok (.ireturn, 1) := by decide +kernel
theorem dX12_isIndex_0 : decode cX12_isIndex 0 = .ok (.iload_n 1, 1) := by decide +kernel
theorem dX12_isIndex_1 : decode cX12_isIndex 1 = .ok (.iconst 0, 1) := by decide +kernel
theorem dX12_isIndex_2 : decode cX12_isIndex 2 = .ok (.aload_n 0, 1) := by decide +kernel
theorem dX12_isIndex_3 : decode cX12_isIndex 3 = .ok (.getfield 155, 3) := by decide +kernel
theorem dX12_isIndex_6 : decode cX12_isIndex 6 = .ok (.iconst 1, 1) := by decide +kernel
theorem dX12_isIndex_7 : decode cX12_isIndex 7 = .ok (.isub, 1) := by decide +kernel
theorem dX12_isIndex_8 : decode cX12_isIndex 8 = .ok (.invokestatic 147, 3) := by decide +kernel
theorem dX12_isIndex_11 : decode cX12_isIndex 11 = .ok (.ireturn, 1) := by decide +kernel
theorem dX12_hasRow_0 : decode cX12_hasRow 0 = .ok (.iload_n 2, 1) := by decide +kernel
theorem dX12_hasRow_1 : decode cX12_hasRow 1 = .ok (.iconst 0, 1) := by decide +kernel
theorem dX12_hasRow_2 : decode cX12_hasRow 2 = .ok (.aload_n 0, 1) := by decide +kernel
theorem dX12_hasRow_3 : decode cX12_hasRow 3 = .ok (.getfield 13, 3) := by decide +kernel
theorem dX12_hasRow_6 : decode cX12_hasRow 6 = .ok (.iload_n 1, 1) := by decide +kernel
theorem dX12_hasRow_7 : decode cX12_hasRow 7 = .ok (.iaload, 1) := by decide +kernel
theorem dX12_hasRow_8 : decode cX12_hasRow 8 = .ok (.iconst 1, 1) := by decide +kernel
theorem dX12_hasRow_9 : decode cX12_hasRow 9 = .ok (.isub, 1) := by decide +kernel
theorem dX12_hasRow_10 : decode cX12_hasRow 10 = .ok (.invokestatic 147, 3) := by decide +kernel
theorem dX12_hasRow_13 : decode cX12_hasRow 13 = .ok (.ifCond .eq 21, 3) := by decide +kernel
theorem dX12_hasRow_16 : decode cX12_hasRow 16 = .ok (.aload_n 0, 1) := by decide +kernel
theorem dX12_hasRow_17 : decode cX12_hasRow 17 = .ok (.getfield 16, 3) := by decide +kernel
theorem dX12_hasRow_20 : decode cX12_hasRow 20 = .ok (.bipush 40, 2) := by decide +kernel
theorem dX12_hasRow_22 : decode cX12_hasRow 22 = .ok (.iload_n 1, 1) := by decide +kernel
theorem dX12_hasRow_23 : decode cX12_hasRow 23 = .ok (.imul, 1) := by decide +kernel
theorem dX12_hasRow_24 : decode cX12_hasRow 24 = .ok (.iload_n 2, 1) := by decide +kernel
theorem dX12_hasRow_25 : decode cX12_hasRow 25 = .ok (.iadd, 1) := by decide +kernel
theorem dX12_hasRow_26 : decode cX12_hasRow 26 = .ok (.baload, 1) := by decide +kernel
theorem dX12_hasRow_27 : decode cX12_hasRow 27 = .ok (.ifCond .eq 7, 3) := by decide +kernel
theorem dX12_hasRow_30 : decode cX12_hasRow 30 = .ok (.iconst 1, 1) := by decide +kernel
theorem dX12_hasRow_31 : decode cX12_hasRow 31 = .ok (.goto 4, 3) := by decide +kernel
theorem dX12_hasRow_34 : decode cX12_hasRow 34 = .ok (.iconst 0, 1) := by decide +kernel
theorem dX12_hasRow_35 : decode cX12_hasRow 35 = .ok (.ireturn, 1) := by decide +kernel
theorem dX12_at_0 : decode cX12_at 0 = .ok (.aload_n 0, 1) := by decide +kernel
theorem dX12_at_1 : decode cX12_at 1 = .ok (.getfield 20, 3) := by decide +kernel
theorem dX12_at_4 : decode cX12_at 4 = .ok (.iconst 3, 1) := by decide +kernel
theorem dX12_at_5 : decode cX12_at 5 = .ok (.bipush 40, 2) := by decide +kernel
theorem dX12_at_7 : decode cX12_at 7 = .ok (.iload_n 1, 1) := by decide +kernel
theorem dX12_at_8 : decode cX12_at 8 = .ok (.imul, 1) := by decide +kernel
theorem dX12_at_9 : decode cX12_at 9 = .ok (.iload_n 2, 1) := by decide +kernel
theorem dX12_at_10 : decode cX12_at 10 = .ok (.iadd, 1) := by decide +kernel
theorem dX12_at_11 : decode cX12_at 11 = .ok (.imul, 1) := by decide +kernel
theorem dX12_at_12 : decode cX12_at 12 = .ok (.iload_n 3, 1) := by decide +kernel
theorem dX12_at_13 : decode cX12_at 13 = .ok (.iadd, 1) := by decide +kernel
theorem dX12_at_14 : decode cX12_at 14 = .ok (.iaload, 1) := by decide +kernel
theorem dX12_at_15 : decode cX12_at 15 = .ok (.ireturn, 1) := by decide +kernel
theorem dX12_there_0 : decode cX12_there 0 = .ok (.iconst 0, 1) := by decide +kernel
theorem dX12_there_1 : decode cX12_there 1 = .ok (.istore_n 2, 1) := by decide +kernel
theorem dX12_there_2 : decode cX12_there 2 = .ok (.iconst 0, 1) := by decide +kernel
theorem dX12_there_3 : decode cX12_there 3 = .ok (.istore_n 3, 1) := by decide +kernel
theorem dX12_there_4 : decode cX12_there 4 = .ok (.iload_n 3, 1) := by decide +kernel
theorem dX12_there_5 : decode cX12_there 5 = .ok (.aload_n 0, 1) := by decide +kernel
theorem dX12_there_6 : decode cX12_there 6 = .ok (.getfield 13, 3) := by decide +kernel
theorem dX12_there_9 : decode cX12_there 9 = .ok (.iload_n 1, 1) := by decide +kernel
theorem dX12_there_10 : decode cX12_there 10 = .ok (.iaload, 1) := by decide +kernel
theorem dX12_there_11 : decode cX12_there 11 = .ok (.if_icmp .ge 26, 3) := by decide +kernel
theorem dX12_there_14 : decode cX12_there 14 = .ok (.iload_n 2, 1) := by decide +kernel
theorem dX12_there_15 : decode cX12_there 15 = .ok (.aload_n 0, 1) := by decide +kernel
theorem dX12_there_16 : decode cX12_there 16 = .ok (.iload_n 1, 1) := by decide +kernel
theorem dX12_there_17 : decode cX12_there 17 = .ok (.iload_n 3, 1) := by decide +kernel
theorem dX12_there_18 : decode cX12_there 18 = .ok (.invokevirtual 158, 3) := by decide +kernel
theorem dX12_there_21 : decode cX12_there 21 = .ok (.ifCond .eq 7, 3) := by decide +kernel
theorem dX12_there_24 : decode cX12_there 24 = .ok (.iconst 1, 1) := by decide +kernel
theorem dX12_there_25 : decode cX12_there 25 = .ok (.goto 4, 3) := by decide +kernel
theorem dX12_there_28 : decode cX12_there 28 = .ok (.iconst 0, 1) := by decide +kernel
theorem dX12_there_29 : decode cX12_there 29 = .ok (.iadd, 1) := by decide +kernel
theorem dX12_there_30 : decode cX12_there 30 = .ok (.istore_n 2, 1) := by decide +kernel
theorem dX12_there_31 : decode cX12_there 31 = .ok (.iinc 3 1, 3) := by decide +kernel
theorem dX12_there_34 : decode cX12_there 34 = .ok (.goto (-30), 3) := by decide +kernel
theorem dX12_there_37 : decode cX12_there 37 = .ok (.iload_n 2, 1) := by decide +kernel
theorem dX12_there_38 : decode cX12_there 38 = .ok (.ireturn, 1) := by decide +kernel
theorem dX12_pagesOf_0 : decode cX12_pagesOf 0 = .ok (.aload_n 0, 1) := by decide +kernel
theorem dX12_pagesOf_1 : decode cX12_pagesOf 1 = .ok (.getfield 13, 3) := by decide +kernel
theorem dX12_pagesOf_4 : decode cX12_pagesOf 4 = .ok (.iload_n 1, 1) := by decide +kernel
theorem dX12_pagesOf_5 : decode cX12_pagesOf 5 = .ok (.iaload, 1) := by decide +kernel
theorem dX12_pagesOf_6 : decode cX12_pagesOf 6 = .ok (.iconst 3, 1) := by decide +kernel
theorem dX12_pagesOf_7 : decode cX12_pagesOf 7 = .ok (.iadd, 1) := by decide +kernel
theorem dX12_pagesOf_8 : decode cX12_pagesOf 8 = .ok (.iconst 4, 1) := by decide +kernel
theorem dX12_pagesOf_9 : decode cX12_pagesOf 9 = .ok (.idiv, 1) := by decide +kernel
theorem dX12_pagesOf_10 : decode cX12_pagesOf 10 = .ok (.ireturn, 1) := by decide +kernel
theorem dX12_table_0 : decode cX12_table 0 = .ok (.aload_n 0, 1) := by decide +kernel
theorem dX12_table_1 : decode cX12_table 1 = .ok (.iconst 0, 1) := by decide +kernel
theorem dX12_table_2 : decode cX12_table 2 = .ok (.putfield 141, 3) := by decide +kernel
theorem dX12_table_5 : decode cX12_table 5 = .ok (.aload_n 0, 1) := by decide +kernel
theorem dX12_table_6 : decode cX12_table 6 = .ok (.iload_n 1, 1) := by decide +kernel
theorem dX12_table_7 : decode cX12_table 7 = .ok (.iconst 1, 1) := by decide +kernel
theorem dX12_table_8 : decode cX12_table 8 = .ok (.iconst 3, 1) := by decide +kernel
theorem dX12_table_9 : decode cX12_table 9 = .ok (.invokestatic 147, 3) := by decide +kernel
theorem dX12_table_12 : decode cX12_table 12 = .ok (.ifCond .ne 7, 3) := by decide +kernel
theorem dX12_table_15 : decode cX12_table 15 = .ok (.iconst 1, 1) := by decide +kernel
theorem dX12_table_16 : decode cX12_table 16 = .ok (.goto 4, 3) := by decide +kernel
theorem dX12_table_19 : decode cX12_table 19 = .ok (.iconst 0, 1) := by decide +kernel
theorem dX12_table_20 : decode cX12_table 20 = .ok (.iconst 1, 1) := by decide +kernel
theorem dX12_table_21 : decode cX12_table 21 = .ok (.invokevirtual 162, 3) := by decide +kernel
theorem dX12_table_24 : decode cX12_table 24 = .ok (.ifCond .ne 24, 3) := by decide +kernel
theorem dX12_table_27 : decode cX12_table 27 = .ok (.aload_n 0, 1) := by decide +kernel
theorem dX12_table_28 : decode cX12_table 28 = .ok (.aload_n 0, 1) := by decide +kernel
theorem dX12_table_29 : decode cX12_table 29 = .ok (.getfield 144, 3) := by decide +kernel
theorem dX12_table_32 : decode cX12_table 32 = .ok (.iconst 3, 1) := by decide +kernel
theorem dX12_table_33 : decode cX12_table 33 = .ok (.if_icmp .ne 7, 3) := by decide +kernel
theorem dX12_table_36 : decode cX12_table 36 = .ok (.iconst 1, 1) := by decide +kernel
theorem dX12_table_37 : decode cX12_table 37 = .ok (.goto 4, 3) := by decide +kernel
theorem dX12_table_40 : decode cX12_table 40 = .ok (.iconst 0, 1) := by decide +kernel
theorem dX12_table_41 : decode cX12_table 41 = .ok (.iconst 2, 1) := by decide +kernel
theorem dX12_table_42 : decode cX12_table 42 = .ok (.invokevirtual 162, 3) := by decide +kernel
theorem dX12_table_45 : decode cX12_table 45 = .ok (.ifCond .eq 5, 3) := by decide +kernel
theorem dX12_table_48 : decode cX12_table 48 = .ok (.iconst (-1), 1) := by decide +kernel
theorem dX12_table_49 : decode cX12_table 49 = .ok (.ireturn, 1) := by decide +kernel
theorem dX12_table_50 : decode cX12_table 50 = .ok (.aload_n 0, 1) := by decide +kernel
theorem dX12_table_51 : decode cX12_table 51 = .ok (.iconst 0, 1) := by decide +kernel
theorem dX12_table_52 : decode cX12_table 52 = .ok (.putfield 166, 3) := by decide +kernel
theorem dX12_table_55 : decode cX12_table 55 = .ok (.aload_n 0, 1) := by decide +kernel
theorem dX12_table_56 : decode cX12_table 56 = .ok (.getfield 7, 3) := by decide +kernel
theorem dX12_table_59 : decode cX12_table 59 = .ok (.aload_n 0, 1) := by decide +kernel
theorem dX12_table_60 : decode cX12_table 60 = .ok (.getfield 144, 3) := by decide +kernel
theorem dX12_table_63 : decode cX12_table 63 = .ok (.iload_n 1, 1) := by decide +kernel
theorem dX12_table_64 : decode cX12_table 64 = .ok (.iastore, 1) := by decide +kernel
theorem dX12_table_65 : decode cX12_table 65 = .ok (.iconst 0, 1) := by decide +kernel
theorem dX12_table_66 : decode cX12_table 66 = .ok (.istore_n 2, 1) := by decide +kernel
theorem dX12_table_67 : decode cX12_table 67 = .ok (.iload_n 2, 1) := by decide +kernel
theorem dX12_table_68 : decode cX12_table 68 = .ok (.iconst 3, 1) := by decide +kernel
theorem dX12_table_69 : decode cX12_table 69 = .ok (.if_icmp .ge 24, 3) := by decide +kernel
theorem dX12_table_72 : decode cX12_table 72 = .ok (.aload_n 0, 1) := by decide +kernel
theorem dX12_table_73 : decode cX12_table 73 = .ok (.getfield 26, 3) := by decide +kernel
theorem dX12_table_76 : decode cX12_table 76 = .ok (.iconst 3, 1) := by decide +kernel
theorem dX12_table_77 : decode cX12_table 77 = .ok (.aload_n 0, 1) := by decide +kernel
theorem dX12_table_78 : decode cX12_table 78 = .ok (.getfield 144, 3) := by decide +kernel
theorem dX12_table_81 : decode cX12_table 81 = .ok (.imul, 1) := by decide +kernel
theorem dX12_table_82 : decode cX12_table 82 = .ok (.iload_n 2, 1) := by decide +kernel
theorem dX12_table_83 : decode cX12_table 83 = .ok (.iadd, 1) := by decide +kernel
theorem dX12_table_84 : decode cX12_table 84 = .ok (.bipush 99, 2) := by decide +kernel
theorem dX12_table_86 : decode cX12_table 86 = .ok (.iastore, 1) := by decide +kernel
theorem dX12_table_87 : decode cX12_table 87 = .ok (.iinc 2 1, 3) := by decide +kernel
theorem dX12_table_90 : decode cX12_table 90 = .ok (.goto (-23), 3) := by decide +kernel
theorem dX12_table_93 : decode cX12_table 93 = .ok (.aload_n 0, 1) := by decide +kernel
theorem dX12_table_94 : decode cX12_table 94 = .ok (.dup, 1) := by decide +kernel
theorem dX12_table_95 : decode cX12_table 95 = .ok (.getfield 144, 3) := by decide +kernel
theorem dX12_table_98 : decode cX12_table 98 = .ok (.iconst 1, 1) := by decide +kernel
theorem dX12_table_99 : decode cX12_table 99 = .ok (.iadd, 1) := by decide +kernel
theorem dX12_table_100 : decode cX12_table 100 = .ok (.putfield 144, 3) := by decide +kernel
theorem dX12_table_103 : decode cX12_table 103 = .ok (.aload_n 0, 1) := by decide +kernel
theorem dX12_table_104 : decode cX12_table 104 = .ok (.getfield 144, 3) := by decide +kernel
theorem dX12_table_107 : decode cX12_table 107 = .ok (.iconst 1, 1) := by decide +kernel
theorem dX12_table_108 : decode cX12_table 108 = .ok (.isub, 1) := by decide +kernel
theorem dX12_table_109 : decode cX12_table 109 = .ok (.ireturn, 1) := by decide +kernel
theorem dX12_bound_0 : decode cX12_bound 0 = .ok (.aload_n 0, 1) := by decide +kernel
theorem dX12_bound_1 : decode cX12_bound 1 = .ok (.iconst 0, 1) := by decide +kernel
theorem dX12_bound_2 : decode cX12_bound 2 = .ok (.putfield 141, 3) := by decide +kernel
theorem dX12_bound_5 : decode cX12_bound 5 = .ok (.aload_n 0, 1) := by decide +kernel
theorem dX12_bound_6 : decode cX12_bound 6 = .ok (.aload_n 0, 1) := by decide +kernel
theorem dX12_bound_7 : decode cX12_bound 7 = .ok (.iload_n 1, 1) := by decide +kernel
theorem dX12_bound_8 : decode cX12_bound 8 = .ok (.invokevirtual 151, 3) := by decide +kernel
theorem dX12_bound_11 : decode cX12_bound 11 = .ok (.ifCond .ne 7, 3) := by decide +kernel
theorem dX12_bound_14 : decode cX12_bound 14 = .ok (.iconst 1, 1) := by decide +kernel
theorem dX12_bound_15 : decode cX12_bound 15 = .ok (.goto 4, 3) := by decide +kernel
theorem dX12_bound_18 : decode cX12_bound 18 = .ok (.iconst 0, 1) := by decide +kernel
theorem dX12_bound_19 : decode cX12_bound 19 = .ok (.iconst 1, 1) := by decide +kernel
theorem dX12_bound_20 : decode cX12_bound 20 = .ok (.invokevirtual 162, 3) := by decide +kernel
theorem dX12_bound_23 : decode cX12_bound 23 = .ok (.ifCond .ne 46, 3) := by decide +kernel
theorem dX12_bound_26 : decode cX12_bound 26 = .ok (.aload_n 0, 1) := by decide +kernel
theorem dX12_bound_27 : decode cX12_bound 27 = .ok (.aload_n 0, 1) := by decide +kernel
theorem dX12_bound_28 : decode cX12_bound 28 = .ok (.iload_n 1, 1) := by decide +kernel
theorem dX12_bound_29 : decode cX12_bound 29 = .ok (.iload_n 2, 1) := by decide +kernel
theorem dX12_bound_30 : decode cX12_bound 30 = .ok (.invokevirtual 170, 3) := by decide +kernel
theorem dX12_bound_33 : decode cX12_bound 33 = .ok (.ifCond .eq 24, 3) := by decide +kernel
theorem dX12_bound_36 : decode cX12_bound 36 = .ok (.iload_n 3, 1) := by decide +kernel
theorem dX12_bound_37 : decode cX12_bound 37 = .ok (.iconst 0, 1) := by decide +kernel
theorem dX12_bound_38 : decode cX12_bound 38 = .ok (.bipush 99, 2) := by decide +kernel
theorem dX12_bound_40 : decode cX12_bound 40 = .ok (.invokestatic 147, 3) := by decide +kernel
theorem dX12_bound_43 : decode cX12_bound 43 = .ok (.ifCond .eq 14, 3) := by decide +kernel
theorem dX12_bound_46 : decode cX12_bound 46 = .ok (.iload 4, 2) := by decide +kernel
theorem dX12_bound_48 : decode cX12_bound 48 = .ok (.iload_n 3, 1) := by decide +kernel
theorem dX12_bound_49 : decode cX12_bound 49 = .ok (.bipush 99, 2) := by decide +kernel
theorem dX12_bound_51 : decode cX12_bound 51 = .ok (.invokestatic 147, 3) := by decide +kernel
theorem dX12_bound_54 : decode cX12_bound 54 = .ok (.ifCond .ne 7, 3) := by decide +kernel
theorem dX12_bound_57 : decode cX12_bound 57 = .ok (.iconst 1, 1) := by decide +kernel
theorem dX12_bound_58 : decode cX12_bound 58 = .ok (.goto 4, 3) := by decide +kernel
theorem dX12_bound_61 : decode cX12_bound 61 = .ok (.iconst 0, 1) := by decide +kernel
theorem dX12_bound_62 : decode cX12_bound 62 = .ok (.iconst 2, 1) := by decide +kernel
theorem dX12_bound_63 : decode cX12_bound 63 = .ok (.invokevirtual 162, 3) := by decide +kernel
theorem dX12_bound_66 : decode cX12_bound 66 = .ok (.ifCond .eq 5, 3) := by decide +kernel
theorem dX12_bound_69 : decode cX12_bound 69 = .ok (.iconst (-1), 1) := by decide +kernel
theorem dX12_bound_70 : decode cX12_bound 70 = .ok (.ireturn, 1) := by decide +kernel
theorem dX12_bound_71 : decode cX12_bound 71 = .ok (.aload_n 0, 1) := by decide +kernel
theorem dX12_bound_72 : decode cX12_bound 72 = .ok (.iconst 0, 1) := by decide +kernel
theorem dX12_bound_73 : decode cX12_bound 73 = .ok (.putfield 166, 3) := by decide +kernel
theorem dX12_bound_76 : decode cX12_bound 76 = .ok (.aload_n 0, 1) := by decide +kernel
theorem dX12_bound_77 : decode cX12_bound 77 = .ok (.getfield 23, 3) := by decide +kernel
theorem dX12_bound_80 : decode cX12_bound 80 = .ok (.iconst 3, 1) := by decide +kernel
theorem dX12_bound_81 : decode cX12_bound 81 = .ok (.iload_n 1, 1) := by decide +kernel
theorem dX12_bound_82 : decode cX12_bound 82 = .ok (.imul, 1) := by decide +kernel
theorem dX12_bound_83 : decode cX12_bound 83 = .ok (.iload_n 2, 1) := by decide +kernel
theorem dX12_bound_84 : decode cX12_bound 84 = .ok (.iadd, 1) := by decide +kernel
theorem dX12_bound_85 : decode cX12_bound 85 = .ok (.iload_n 3, 1) := by decide +kernel
theorem dX12_bound_86 : decode cX12_bound 86 = .ok (.iastore, 1) := by decide +kernel
theorem dX12_bound_87 : decode cX12_bound 87 = .ok (.aload_n 0, 1) := by decide +kernel
theorem dX12_bound_88 : decode cX12_bound 88 = .ok (.getfield 26, 3) := by decide +kernel
theorem dX12_bound_91 : decode cX12_bound 91 = .ok (.iconst 3, 1) := by decide +kernel
theorem dX12_bound_92 : decode cX12_bound 92 = .ok (.iload_n 1, 1) := by decide +kernel
theorem dX12_bound_93 : decode cX12_bound 93 = .ok (.imul, 1) := by decide +kernel
theorem dX12_bound_94 : decode cX12_bound 94 = .ok (.iload_n 2, 1) := by decide +kernel
theorem dX12_bound_95 : decode cX12_bound 95 = .ok (.iadd, 1) := by decide +kernel
theorem dX12_bound_96 : decode cX12_bound 96 = .ok (.iload 4, 2) := by decide +kernel
theorem dX12_bound_98 : decode cX12_bound 98 = .ok (.iastore, 1) := by decide +kernel
theorem dX12_bound_99 : decode cX12_bound 99 = .ok (.iconst 0, 1) := by decide +kernel
theorem dX12_bound_100 : decode cX12_bound 100 = .ok (.istore 5, 2) := by decide +kernel
theorem dX12_bound_102 : decode cX12_bound 102 = .ok (.iconst 0, 1) := by decide +kernel
theorem dX12_bound_103 : decode cX12_bound 103 = .ok (.istore 6, 2) := by decide +kernel
theorem dX12_bound_105 : decode cX12_bound 105 = .ok (.iload 6, 2) := by decide +kernel
theorem dX12_bound_107 : decode cX12_bound 107 = .ok (.aload_n 0, 1) := by decide +kernel
theorem dX12_bound_108 : decode cX12_bound 108 = .ok (.getfield 13, 3) := by decide +kernel
theorem dX12_bound_111 : decode cX12_bound 111 = .ok (.iload_n 1, 1) := by decide +kernel
theorem dX12_bound_112 : decode cX12_bound 112 = .ok (.iaload, 1) := by decide +kernel
theorem dX12_bound_113 : decode cX12_bound 113 = .ok (.if_icmp .ge 46, 3) := by decide +kernel
theorem dX12_bound_116 : decode cX12_bound 116 = .ok (.iload 5, 2) := by decide +kernel
theorem dX12_bound_118 : decode cX12_bound 118 = .ok (.aload_n 0, 1) := by decide +kernel
theorem dX12_bound_119 : decode cX12_bound 119 = .ok (.iload_n 1, 1) := by decide +kernel
theorem dX12_bound_120 : decode cX12_bound 120 = .ok (.iload 6, 2) := by decide +kernel
theorem dX12_bound_122 : decode cX12_bound 122 = .ok (.invokevirtual 158, 3) := by decide +kernel
theorem dX12_bound_125 : decode cX12_bound 125 = .ok (.ifCond .eq 24, 3) := by decide +kernel
theorem dX12_bound_128 : decode cX12_bound 128 = .ok (.aload_n 0, 1) := by decide +kernel
theorem dX12_bound_129 : decode cX12_bound 129 = .ok (.iload_n 1, 1) := by decide +kernel
theorem dX12_bound_130 : decode cX12_bound 130 = .ok (.iload 6, 2) := by decide +kernel
theorem dX12_bound_132 : decode cX12_bound 132 = .ok (.iload_n 2, 1) := by decide +kernel
theorem dX12_bound_133 : decode cX12_bound 133 = .ok (.invokevirtual 173, 3) := by decide +kernel
theorem dX12_bound_136 : decode cX12_bound 136 = .ok (.iload_n 3, 1) := by decide +kernel
theorem dX12_bound_137 : decode cX12_bound 137 = .ok (.iload 4, 2) := by decide +kernel
theorem dX12_bound_139 : decode cX12_bound 139 = .ok (.invokestatic 147, 3) := by decide +kernel
theorem dX12_bound_142 : decode cX12_bound 142 = .ok (.ifCond .ne 7, 3) := by decide +kernel
theorem dX12_bound_145 : decode cX12_bound 145 = .ok (.iconst 1, 1) := by decide +kernel
theorem dX12_bound_146 : decode cX12_bound 146 = .ok (.goto 4, 3) := by decide +kernel
theorem dX12_bound_149 : decode cX12_bound 149 = .ok (.iconst 0, 1) := by decide +kernel
theorem dX12_bound_150 : decode cX12_bound 150 = .ok (.iadd, 1) := by decide +kernel
theorem dX12_bound_151 : decode cX12_bound 151 = .ok (.istore 5, 2) := by decide +kernel
theorem dX12_bound_153 : decode cX12_bound 153 = .ok (.iinc 6 1, 3) := by decide +kernel
theorem dX12_bound_156 : decode cX12_bound 156 = .ok (.goto (-51), 3) := by decide +kernel
theorem dX12_bound_159 : decode cX12_bound 159 = .ok (.iload 5, 2) := by decide +kernel
theorem dX12_bound_161 : decode cX12_bound 161 = .ok (.ireturn, 1) := by decide +kernel
theorem dX12_isWithin_0 : decode cX12_isWithin 0 = .ok (.iload_n 2, 1) := by decide +kernel
theorem dX12_isWithin_1 : decode cX12_isWithin 1 = .ok (.aload_n 0, 1) := by decide +kernel
theorem dX12_isWithin_2 : decode cX12_isWithin 2 = .ok (.getfield 7, 3) := by decide +kernel
theorem dX12_isWithin_5 : decode cX12_isWithin 5 = .ok (.iload_n 1, 1) := by decide +kernel
theorem dX12_isWithin_6 : decode cX12_isWithin 6 = .ok (.iaload, 1) := by decide +kernel
theorem dX12_isWithin_7 : decode cX12_isWithin 7 = .ok (.if_icmp .ge 30, 3) := by decide +kernel
theorem dX12_isWithin_10 : decode cX12_isWithin 10 = .ok (.iload_n 3, 1) := by decide +kernel
theorem dX12_isWithin_11 : decode cX12_isWithin 11 = .ok (.aload_n 0, 1) := by decide +kernel
theorem dX12_isWithin_12 : decode cX12_isWithin 12 = .ok (.getfield 23, 3) := by decide +kernel
theorem dX12_isWithin_15 : decode cX12_isWithin 15 = .ok (.iconst 3, 1) := by decide +kernel
theorem dX12_isWithin_16 : decode cX12_isWithin 16 = .ok (.iload_n 1, 1) := by decide +kernel
theorem dX12_isWithin_17 : decode cX12_isWithin 17 = .ok (.imul, 1) := by decide +kernel
theorem dX12_isWithin_18 : decode cX12_isWithin 18 = .ok (.iload_n 2, 1) := by decide +kernel
theorem dX12_isWithin_19 : decode cX12_isWithin 19 = .ok (.iadd, 1) := by decide +kernel
theorem dX12_isWithin_20 : decode cX12_isWithin 20 = .ok (.iaload, 1) := by decide +kernel
theorem dX12_isWithin_21 : decode cX12_isWithin 21 = .ok (.aload_n 0, 1) := by decide +kernel
theorem dX12_isWithin_22 : decode cX12_isWithin 22 = .ok (.getfield 26, 3) := by decide +kernel
theorem dX12_isWithin_25 : decode cX12_isWithin 25 = .ok (.iconst 3, 1) := by decide +kernel
theorem dX12_isWithin_26 : decode cX12_isWithin 26 = .ok (.iload_n 1, 1) := by decide +kernel
theorem dX12_isWithin_27 : decode cX12_isWithin 27 = .ok (.imul, 1) := by decide +kernel
theorem dX12_isWithin_28 : decode cX12_isWithin 28 = .ok (.iload_n 2, 1) := by decide +kernel
theorem dX12_isWithin_29 : decode cX12_isWithin 29 = .ok (.iadd, 1) := by decide +kernel
theorem dX12_isWithin_30 : decode cX12_isWithin 30 = .ok (.iaload, 1) := by decide +kernel
theorem dX12_isWithin_31 : decode cX12_isWithin 31 = .ok (.invokestatic 147, 3) := by decide +kernel
theorem dX12_isWithin_34 : decode cX12_isWithin 34 = .ok (.ifCond .eq 7, 3) := by decide +kernel
theorem dX12_isWithin_37 : decode cX12_isWithin 37 = .ok (.iconst 1, 1) := by decide +kernel
theorem dX12_isWithin_38 : decode cX12_isWithin 38 = .ok (.goto 4, 3) := by decide +kernel
theorem dX12_isWithin_41 : decode cX12_isWithin 41 = .ok (.iconst 0, 1) := by decide +kernel
theorem dX12_isWithin_42 : decode cX12_isWithin 42 = .ok (.ireturn, 1) := by decide +kernel
theorem dX12_insert_0 : decode cX12_insert 0 = .ok (.aload_n 0, 1) := by decide +kernel
theorem dX12_insert_1 : decode cX12_insert 1 = .ok (.iconst 0, 1) := by decide +kernel
theorem dX12_insert_2 : decode cX12_insert 2 = .ok (.putfield 141, 3) := by decide +kernel
theorem dX12_insert_5 : decode cX12_insert 5 = .ok (.aload_n 0, 1) := by decide +kernel
theorem dX12_insert_6 : decode cX12_insert 6 = .ok (.aload_n 0, 1) := by decide +kernel
theorem dX12_insert_7 : decode cX12_insert 7 = .ok (.iload_n 1, 1) := by decide +kernel
theorem dX12_insert_8 : decode cX12_insert 8 = .ok (.invokevirtual 151, 3) := by decide +kernel
theorem dX12_insert_11 : decode cX12_insert 11 = .ok (.ifCond .ne 7, 3) := by decide +kernel
theorem dX12_insert_14 : decode cX12_insert 14 = .ok (.iconst 1, 1) := by decide +kernel
theorem dX12_insert_15 : decode cX12_insert 15 = .ok (.goto 4, 3) := by decide +kernel
theorem dX12_insert_18 : decode cX12_insert 18 = .ok (.iconst 0, 1) := by decide +kernel
theorem dX12_insert_19 : decode cX12_insert 19 = .ok (.iconst 1, 1) := by decide +kernel
theorem dX12_insert_20 : decode cX12_insert 20 = .ok (.invokevirtual 162, 3) := by decide +kernel
theorem dX12_insert_23 : decode cX12_insert 23 = .ok (.ifCond .ne 71, 3) := by decide +kernel
theorem dX12_insert_26 : decode cX12_insert 26 = .ok (.aload_n 0, 1) := by decide +kernel
theorem dX12_insert_27 : decode cX12_insert 27 = .ok (.aload_n 0, 1) := by decide +kernel
theorem dX12_insert_28 : decode cX12_insert 28 = .ok (.iload_n 1, 1) := by decide +kernel
theorem dX12_insert_29 : decode cX12_insert 29 = .ok (.iconst 0, 1) := by decide +kernel
theorem dX12_insert_30 : decode cX12_insert 30 = .ok (.iload_n 2, 1) := by decide +kernel
theorem dX12_insert_31 : decode cX12_insert 31 = .ok (.invokevirtual 177, 3) := by decide +kernel
theorem dX12_insert_34 : decode cX12_insert 34 = .ok (.ifCond .eq 24, 3) := by decide +kernel
theorem dX12_insert_37 : decode cX12_insert 37 = .ok (.aload_n 0, 1) := by decide +kernel
theorem dX12_insert_38 : decode cX12_insert 38 = .ok (.iload_n 1, 1) := by decide +kernel
theorem dX12_insert_39 : decode cX12_insert 39 = .ok (.iconst 1, 1) := by decide +kernel
theorem dX12_insert_40 : decode cX12_insert 40 = .ok (.iload_n 3, 1) := by decide +kernel
theorem dX12_insert_41 : decode cX12_insert 41 = .ok (.invokevirtual 177, 3) := by decide +kernel
theorem dX12_insert_44 : decode cX12_insert 44 = .ok (.ifCond .eq 14, 3) := by decide +kernel
theorem dX12_insert_47 : decode cX12_insert 47 = .ok (.aload_n 0, 1) := by decide +kernel
theorem dX12_insert_48 : decode cX12_insert 48 = .ok (.iload_n 1, 1) := by decide +kernel
theorem dX12_insert_49 : decode cX12_insert 49 = .ok (.iconst 2, 1) := by decide +kernel
theorem dX12_insert_50 : decode cX12_insert 50 = .ok (.iload 4, 2) := by decide +kernel
theorem dX12_insert_52 : decode cX12_insert 52 = .ok (.invokevirtual 177, 3) := by decide +kernel
theorem dX12_insert_55 : decode cX12_insert 55 = .ok (.ifCond .ne 7, 3) := by decide +kernel
theorem dX12_insert_58 : decode cX12_insert 58 = .ok (.iconst 1, 1) := by decide +kernel
theorem dX12_insert_59 : decode cX12_insert 59 = .ok (.goto 4, 3) := by decide +kernel
theorem dX12_insert_62 : decode cX12_insert 62 = .ok (.iconst 0, 1) := by decide +kernel
theorem dX12_insert_63 : decode cX12_insert 63 = .ok (.iconst 2, 1) := by decide +kernel
theorem dX12_insert_64 : decode cX12_insert 64 = .ok (.invokevirtual 162, 3) := by decide +kernel
theorem dX12_insert_67 : decode cX12_insert 67 = .ok (.ifCond .ne 27, 3) := by decide +kernel
theorem dX12_insert_70 : decode cX12_insert 70 = .ok (.aload_n 0, 1) := by decide +kernel
theorem dX12_insert_71 : decode cX12_insert 71 = .ok (.aload_n 0, 1) := by decide +kernel
theorem dX12_insert_72 : decode cX12_insert 72 = .ok (.getfield 13, 3) := by decide +kernel
theorem dX12_insert_75 : decode cX12_insert 75 = .ok (.iload_n 1, 1) := by decide +kernel
theorem dX12_insert_76 : decode cX12_insert 76 = .ok (.iaload, 1) := by decide +kernel
theorem dX12_insert_77 : decode cX12_insert 77 = .ok (.bipush 40, 2) := by decide +kernel
theorem dX12_insert_79 : decode cX12_insert 79 = .ok (.if_icmp .ne 7, 3) := by decide +kernel
theorem dX12_insert_82 : decode cX12_insert 82 = .ok (.iconst 1, 1) := by decide +kernel
theorem dX12_insert_83 : decode cX12_insert 83 = .ok (.goto 4, 3) := by decide +kernel
theorem dX12_insert_86 : decode cX12_insert 86 = .ok (.iconst 0, 1) := by decide +kernel
theorem dX12_insert_87 : decode cX12_insert 87 = .ok (.iconst 3, 1) := by decide +kernel
theorem dX12_insert_88 : decode cX12_insert 88 = .ok (.invokevirtual 162, 3) := by decide +kernel
theorem dX12_insert_91 : decode cX12_insert 91 = .ok (.ifCond .eq 5, 3) := by decide +kernel
theorem dX12_insert_94 : decode cX12_insert 94 = .ok (.iconst (-1), 1) := by decide +kernel
theorem dX12_insert_95 : decode cX12_insert 95 = .ok (.ireturn, 1) := by decide +kernel
theorem dX12_insert_96 : decode cX12_insert 96 = .ok (.aload_n 0, 1) := by decide +kernel
theorem dX12_insert_97 : decode cX12_insert 97 = .ok (.iconst 0, 1) := by decide +kernel
theorem dX12_insert_98 : decode cX12_insert 98 = .ok (.putfield 166, 3) := by decide +kernel
theorem dX12_insert_101 : decode cX12_insert 101 = .ok (.bipush 40, 2) := by decide +kernel
theorem dX12_insert_103 : decode cX12_insert 103 = .ok (.iload_n 1, 1) := by decide +kernel
theorem dX12_insert_104 : decode cX12_insert 104 = .ok (.imul, 1) := by decide +kernel
theorem dX12_insert_105 : decode cX12_insert 105 = .ok (.aload_n 0, 1) := by decide +kernel
theorem dX12_insert_106 : decode cX12_insert 106 = .ok (.getfield 13, 3) := by decide +kernel
theorem dX12_insert_109 : decode cX12_insert 109 = .ok (.iload_n 1, 1) := by decide +kernel
theorem dX12_insert_110 : decode cX12_insert 110 = .ok (.iaload, 1) := by decide +kernel
theorem dX12_insert_111 : decode cX12_insert 111 = .ok (.iadd, 1) := by decide +kernel
theorem dX12_insert_112 : decode cX12_insert 112 = .ok (.istore 5, 2) := by decide +kernel
theorem dX12_insert_114 : decode cX12_insert 114 = .ok (.aload_n 0, 1) := by decide +kernel
theorem dX12_insert_115 : decode cX12_insert 115 = .ok (.getfield 16, 3) := by decide +kernel
theorem dX12_insert_118 : decode cX12_insert 118 = .ok (.iload 5, 2) := by decide +kernel
theorem dX12_insert_120 : decode cX12_insert 120 = .ok (.iconst 1, 1) := by decide +kernel
theorem dX12_insert_121 : decode cX12_insert 121 = .ok (.bastore, 1) := by decide +kernel
theorem dX12_insert_122 : decode cX12_insert 122 = .ok (.aload_n 0, 1) := by decide +kernel
theorem dX12_insert_123 : decode cX12_insert 123 = .ok (.getfield 20, 3) := by decide +kernel
theorem dX12_insert_126 : decode cX12_insert 126 = .ok (.iconst 3, 1) := by decide +kernel
theorem dX12_insert_127 : decode cX12_insert 127 = .ok (.iload 5, 2) := by decide +kernel
theorem dX12_insert_129 : decode cX12_insert 129 = .ok (.imul, 1) := by decide +kernel
theorem dX12_insert_130 : decode cX12_insert 130 = .ok (.iload_n 2, 1) := by decide +kernel
theorem dX12_insert_131 : decode cX12_insert 131 = .ok (.iastore, 1) := by decide +kernel
theorem dX12_insert_132 : decode cX12_insert 132 = .ok (.aload_n 0, 1) := by decide +kernel
theorem dX12_insert_133 : decode cX12_insert 133 = .ok (.getfield 20, 3) := by decide +kernel
theorem dX12_insert_136 : decode cX12_insert 136 = .ok (.iconst 3, 1) := by decide +kernel
theorem dX12_insert_137 : decode cX12_insert 137 = .ok (.iload 5, 2) := by decide +kernel
theorem dX12_insert_139 : decode cX12_insert 139 = .ok (.imul, 1) := by decide +kernel
theorem dX12_insert_140 : decode cX12_insert 140 = .ok (.iconst 1, 1) := by decide +kernel
theorem dX12_insert_141 : decode cX12_insert 141 = .ok (.iadd, 1) := by decide +kernel
theorem dX12_insert_142 : decode cX12_insert 142 = .ok (.iload_n 3, 1) := by decide +kernel
theorem dX12_insert_143 : decode cX12_insert 143 = .ok (.iastore, 1) := by decide +kernel
theorem dX12_insert_144 : decode cX12_insert 144 = .ok (.aload_n 0, 1) := by decide +kernel
theorem dX12_insert_145 : decode cX12_insert 145 = .ok (.getfield 20, 3) := by decide +kernel
theorem dX12_insert_148 : decode cX12_insert 148 = .ok (.iconst 3, 1) := by decide +kernel
theorem dX12_insert_149 : decode cX12_insert 149 = .ok (.iload 5, 2) := by decide +kernel
theorem dX12_insert_151 : decode cX12_insert 151 = .ok (.imul, 1) := by decide +kernel
theorem dX12_insert_152 : decode cX12_insert 152 = .ok (.iconst 2, 1) := by decide +kernel
theorem dX12_insert_153 : decode cX12_insert 153 = .ok (.iadd, 1) := by decide +kernel
theorem dX12_insert_154 : decode cX12_insert 154 = .ok (.iload 4, 2) := by decide +kernel
theorem dX12_insert_156 : decode cX12_insert 156 = .ok (.iastore, 1) := by decide +kernel
theorem dX12_insert_157 : decode cX12_insert 157 = .ok (.aload_n 0, 1) := by decide +kernel
theorem dX12_insert_158 : decode cX12_insert 158 = .ok (.getfield 13, 3) := by decide +kernel
theorem dX12_insert_161 : decode cX12_insert 161 = .ok (.iload_n 1, 1) := by decide +kernel
theorem dX12_insert_162 : decode cX12_insert 162 = .ok (.dup2, 1) := by decide +kernel
theorem dX12_insert_163 : decode cX12_insert 163 = .ok (.iaload, 1) := by decide +kernel
theorem dX12_insert_164 : decode cX12_insert 164 = .ok (.iconst 1, 1) := by decide +kernel
theorem dX12_insert_165 : decode cX12_insert 165 = .ok (.iadd, 1) := by decide +kernel
theorem dX12_insert_166 : decode cX12_insert 166 = .ok (.iastore, 1) := by decide +kernel
theorem dX12_insert_167 : decode cX12_insert 167 = .ok (.aload_n 0, 1) := by decide +kernel
theorem dX12_insert_168 : decode cX12_insert 168 = .ok (.iload_n 1, 1) := by decide +kernel
theorem dX12_insert_169 : decode cX12_insert 169 = .ok (.aload_n 0, 1) := by decide +kernel
theorem dX12_insert_170 : decode cX12_insert 170 = .ok (.getfield 13, 3) := by decide +kernel
theorem dX12_insert_173 : decode cX12_insert 173 = .ok (.iload_n 1, 1) := by decide +kernel
theorem dX12_insert_174 : decode cX12_insert 174 = .ok (.iaload, 1) := by decide +kernel
theorem dX12_insert_175 : decode cX12_insert 175 = .ok (.iconst 1, 1) := by decide +kernel
theorem dX12_insert_176 : decode cX12_insert 176 = .ok (.isub, 1) := by decide +kernel
theorem dX12_insert_177 : decode cX12_insert 177 = .ok (.invokevirtual 180, 3) := by decide +kernel
theorem dX12_insert_180 : decode cX12_insert 180 = .ok (.aload_n 0, 1) := by decide +kernel
theorem dX12_insert_181 : decode cX12_insert 181 = .ok (.getfield 13, 3) := by decide +kernel
theorem dX12_insert_184 : decode cX12_insert 184 = .ok (.iload_n 1, 1) := by decide +kernel
theorem dX12_insert_185 : decode cX12_insert 185 = .ok (.iaload, 1) := by decide +kernel
theorem dX12_insert_186 : decode cX12_insert 186 = .ok (.iconst 1, 1) := by decide +kernel
theorem dX12_insert_187 : decode cX12_insert 187 = .ok (.isub, 1) := by decide +kernel
theorem dX12_insert_188 : decode cX12_insert 188 = .ok (.ireturn, 1) := by decide +kernel
theorem dX12_remove_0 : decode cX12_remove 0 = .ok (.aload_n 0, 1) := by decide +kernel
theorem dX12_remove_1 : decode cX12_remove 1 = .ok (.iconst 0, 1) := by decide +kernel
theorem dX12_remove_2 : decode cX12_remove 2 = .ok (.putfield 141, 3) := by decide +kernel
theorem dX12_remove_5 : decode cX12_remove 5 = .ok (.aload_n 0, 1) := by decide +kernel
theorem dX12_remove_6 : decode cX12_remove 6 = .ok (.aload_n 0, 1) := by decide +kernel
theorem dX12_remove_7 : decode cX12_remove 7 = .ok (.iload_n 1, 1) := by decide +kernel
theorem dX12_remove_8 : decode cX12_remove 8 = .ok (.invokevirtual 151, 3) := by decide +kernel
theorem dX12_remove_11 : decode cX12_remove 11 = .ok (.ifCond .ne 7, 3) := by decide +kernel
theorem dX12_remove_14 : decode cX12_remove 14 = .ok (.iconst 1, 1) := by decide +kernel
theorem dX12_remove_15 : decode cX12_remove 15 = .ok (.goto 4, 3) := by decide +kernel
theorem dX12_remove_18 : decode cX12_remove 18 = .ok (.iconst 0, 1) := by decide +kernel
theorem dX12_remove_19 : decode cX12_remove 19 = .ok (.iconst 1, 1) := by decide +kernel
theorem dX12_remove_20 : decode cX12_remove 20 = .ok (.invokevirtual 162, 3) := by decide +kernel
theorem dX12_remove_23 : decode cX12_remove 23 = .ok (.ifCond .ne 25, 3) := by decide +kernel
theorem dX12_remove_26 : decode cX12_remove 26 = .ok (.aload_n 0, 1) := by decide +kernel
theorem dX12_remove_27 : decode cX12_remove 27 = .ok (.aload_n 0, 1) := by decide +kernel
theorem dX12_remove_28 : decode cX12_remove 28 = .ok (.iload_n 1, 1) := by decide +kernel
theorem dX12_remove_29 : decode cX12_remove 29 = .ok (.iload_n 2, 1) := by decide +kernel
theorem dX12_remove_30 : decode cX12_remove 30 = .ok (.invokevirtual 158, 3) := by decide +kernel
theorem dX12_remove_33 : decode cX12_remove 33 = .ok (.ifCond .ne 7, 3) := by decide +kernel
theorem dX12_remove_36 : decode cX12_remove 36 = .ok (.iconst 1, 1) := by decide +kernel
theorem dX12_remove_37 : decode cX12_remove 37 = .ok (.goto 4, 3) := by decide +kernel
theorem dX12_remove_40 : decode cX12_remove 40 = .ok (.iconst 0, 1) := by decide +kernel
theorem dX12_remove_41 : decode cX12_remove 41 = .ok (.iconst 2, 1) := by decide +kernel
theorem dX12_remove_42 : decode cX12_remove 42 = .ok (.invokevirtual 162, 3) := by decide +kernel
theorem dX12_remove_45 : decode cX12_remove 45 = .ok (.ifCond .eq 5, 3) := by decide +kernel
theorem dX12_remove_48 : decode cX12_remove 48 = .ok (.iconst (-1), 1) := by decide +kernel
theorem dX12_remove_49 : decode cX12_remove 49 = .ok (.ireturn, 1) := by decide +kernel
theorem dX12_remove_50 : decode cX12_remove 50 = .ok (.aload_n 0, 1) := by decide +kernel
theorem dX12_remove_51 : decode cX12_remove 51 = .ok (.iconst 0, 1) := by decide +kernel
theorem dX12_remove_52 : decode cX12_remove 52 = .ok (.putfield 166, 3) := by decide +kernel
theorem dX12_remove_55 : decode cX12_remove 55 = .ok (.aload_n 0, 1) := by decide +kernel
theorem dX12_remove_56 : decode cX12_remove 56 = .ok (.getfield 16, 3) := by decide +kernel
theorem dX12_remove_59 : decode cX12_remove 59 = .ok (.bipush 40, 2) := by decide +kernel
theorem dX12_remove_61 : decode cX12_remove 61 = .ok (.iload_n 1, 1) := by decide +kernel
theorem dX12_remove_62 : decode cX12_remove 62 = .ok (.imul, 1) := by decide +kernel
theorem dX12_remove_63 : decode cX12_remove 63 = .ok (.iload_n 2, 1) := by decide +kernel
theorem dX12_remove_64 : decode cX12_remove 64 = .ok (.iadd, 1) := by decide +kernel
theorem dX12_remove_65 : decode cX12_remove 65 = .ok (.iconst 0, 1) := by decide +kernel
theorem dX12_remove_66 : decode cX12_remove 66 = .ok (.bastore, 1) := by decide +kernel
theorem dX12_remove_67 : decode cX12_remove 67 = .ok (.aload_n 0, 1) := by decide +kernel
theorem dX12_remove_68 : decode cX12_remove 68 = .ok (.iload_n 1, 1) := by decide +kernel
theorem dX12_remove_69 : decode cX12_remove 69 = .ok (.iload_n 2, 1) := by decide +kernel
theorem dX12_remove_70 : decode cX12_remove 70 = .ok (.invokevirtual 180, 3) := by decide +kernel
theorem dX12_remove_73 : decode cX12_remove 73 = .ok (.aload_n 0, 1) := by decide +kernel
theorem dX12_remove_74 : decode cX12_remove 74 = .ok (.iload_n 1, 1) := by decide +kernel
theorem dX12_remove_75 : decode cX12_remove 75 = .ok (.invokevirtual 184, 3) := by decide +kernel
theorem dX12_remove_78 : decode cX12_remove 78 = .ok (.ireturn, 1) := by decide +kernel
theorem dX12_countsColumn_0 : decode cX12_countsColumn 0 = .ok (.iconst 3, 1) := by decide +kernel
theorem dX12_countsColumn_1 : decode cX12_countsColumn 1 = .ok (.iload_n 1, 1) := by decide +kernel
theorem dX12_countsColumn_2 : decode cX12_countsColumn 2 = .ok (.imul, 1) := by decide +kernel
theorem dX12_countsColumn_3 : decode cX12_countsColumn 3 = .ok (.iload_n 2, 1) := by decide +kernel
theorem dX12_countsColumn_4 : decode cX12_countsColumn 4 = .ok (.iadd, 1) := by decide +kernel
theorem dX12_countsColumn_5 : decode cX12_countsColumn 5 = .ok (.istore_n 3, 1) := by decide +kernel
theorem dX12_countsColumn_6 : decode cX12_countsColumn 6 = .ok (.aload_n 0, 1) := by decide +kernel
theorem dX12_countsColumn_7 : decode cX12_countsColumn 7 = .ok (.getfield 35, 3) := by decide +kernel
theorem dX12_countsColumn_10 : decode cX12_countsColumn 10 = .ok (.iload_n 3, 1) := by decide +kernel
theorem dX12_countsColumn_11 : decode cX12_countsColumn 11 = .ok (.iconst 0, 1) := by decide +kernel
theorem dX12_countsColumn_12 : decode cX12_countsColumn 12 = .ok (.iastore, 1) := by decide +kernel
theorem dX12_countsColumn_13 : decode cX12_countsColumn 13 = .ok (.aload_n 0, 1) := by decide +kernel
theorem dX12_countsColumn_14 : decode cX12_countsColumn 14 = .ok (.getfield 38, 3) := by decide +kernel
theorem dX12_countsColumn_17 : decode cX12_countsColumn 17 = .ok (.iload_n 3, 1) := by decide +kernel
theorem dX12_countsColumn_18 : decode cX12_countsColumn 18 = .ok (.iconst 0, 1) := by decide +kernel
theorem dX12_countsColumn_19 : decode cX12_countsColumn 19 = .ok (.iastore, 1) := by decide +kernel
theorem dX12_countsColumn_20 : decode cX12_countsColumn 20 = .ok (.aload_n 0, 1) := by decide +kernel
theorem dX12_countsColumn_21 : decode cX12_countsColumn 21 = .ok (.getfield 41, 3) := by decide +kernel
theorem dX12_countsColumn_24 : decode cX12_countsColumn 24 = .ok (.iload_n 3, 1) := by decide +kernel
theorem dX12_countsColumn_25 : decode cX12_countsColumn 25 = .ok (.iconst 0, 1) := by decide +kernel
theorem dX12_countsColumn_26 : decode cX12_countsColumn 26 = .ok (.iastore, 1) := by decide +kernel
theorem dX12_countsColumn_27 : decode cX12_countsColumn 27 = .ok (.bipush 99, 2) := by decide +kernel
theorem dX12_countsColumn_29 : decode cX12_countsColumn 29 = .ok (.istore 4, 2) := by decide +kernel
theorem dX12_countsColumn_31 : decode cX12_countsColumn 31 = .ok (.iload 4, 2) := by decide +kernel
theorem dX12_countsColumn_33 : decode cX12_countsColumn 33 = .ok (.ifCond .lt 139, 3) := by decide +kernel
theorem dX12_countsColumn_36 : decode cX12_countsColumn 36 = .ok (.iconst 0, 1) := by decide +kernel
theorem dX12_countsColumn_37 : decode cX12_countsColumn 37 = .ok (.istore 5, 2) := by decide +kernel
theorem dX12_countsColumn_39 : decode cX12_countsColumn 39 = .ok (.iconst 0, 1) := by decide +kernel
theorem dX12_countsColumn_40 : decode cX12_countsColumn 40 = .ok (.istore 6, 2) := by decide +kernel
theorem dX12_countsColumn_42 : decode cX12_countsColumn 42 = .ok (.iload 6, 2) := by decide +kernel
theorem dX12_countsColumn_44 : decode cX12_countsColumn 44 = .ok (.aload_n 0, 1) := by decide +kernel
theorem dX12_countsColumn_45 : decode cX12_countsColumn 45 = .ok (.getfield 13, 3) := by decide +kernel
theorem dX12_countsColumn_48 : decode cX12_countsColumn 48 = .ok (.iload_n 1, 1) := by decide +kernel
theorem dX12_countsColumn_49 : decode cX12_countsColumn 49 = .ok (.iaload, 1) := by decide +kernel
theorem dX12_countsColumn_50 : decode cX12_countsColumn 50 = .ok (.if_icmp .ge 44, 3) := by decide +kernel
theorem dX12_countsColumn_53 : decode cX12_countsColumn 53 = .ok (.iload 5, 2) := by decide +kernel
theorem dX12_countsColumn_55 : decode cX12_countsColumn 55 = .ok (.ifCond .ne 26, 3) := by decide +kernel
theorem dX12_countsColumn_58 : decode cX12_countsColumn 58 = .ok (.aload_n 0, 1) := by decide +kernel
theorem dX12_countsColumn_59 : decode cX12_countsColumn 59 = .ok (.iload_n 1, 1) := by decide +kernel
theorem dX12_countsColumn_60 : decode cX12_countsColumn 60 = .ok (.iload 6, 2) := by decide +kernel
theorem dX12_countsColumn_62 : decode cX12_countsColumn 62 = .ok (.invokevirtual 158, 3) := by decide +kernel
theorem dX12_countsColumn_65 : decode cX12_countsColumn 65 = .ok (.ifCond .eq 20, 3) := by decide +kernel
theorem dX12_countsColumn_68 : decode cX12_countsColumn 68 = .ok (.aload_n 0, 1) := by decide +kernel
theorem dX12_countsColumn_69 : decode cX12_countsColumn 69 = .ok (.iload_n 1, 1) := by decide +kernel
theorem dX12_countsColumn_70 : decode cX12_countsColumn 70 = .ok (.iload 6, 2) := by decide +kernel
theorem dX12_countsColumn_72 : decode cX12_countsColumn 72 = .ok (.iload_n 2, 1) := by decide +kernel
theorem dX12_countsColumn_73 : decode cX12_countsColumn 73 = .ok (.invokevirtual 173, 3) := by decide +kernel
theorem dX12_countsColumn_76 : decode cX12_countsColumn 76 = .ok (.iload 4, 2) := by decide +kernel
theorem dX12_countsColumn_78 : decode cX12_countsColumn 78 = .ok (.if_icmp .ne 7, 3) := by decide +kernel
theorem dX12_countsColumn_81 : decode cX12_countsColumn 81 = .ok (.iconst 1, 1) := by decide +kernel
theorem dX12_countsColumn_82 : decode cX12_countsColumn 82 = .ok (.goto 4, 3) := by decide +kernel
theorem dX12_countsColumn_85 : decode cX12_countsColumn 85 = .ok (.iconst 0, 1) := by decide +kernel
theorem dX12_countsColumn_86 : decode cX12_countsColumn 86 = .ok (.istore 5, 2) := by decide +kernel
theorem dX12_countsColumn_88 : decode cX12_countsColumn 88 = .ok (.iinc 6 1, 3) := by decide +kernel
theorem dX12_countsColumn_91 : decode cX12_countsColumn 91 = .ok (.goto (-49), 3) := by decide +kernel
theorem dX12_countsColumn_94 : decode cX12_countsColumn 94 = .ok (.aload_n 0, 1) := by decide +kernel
theorem dX12_countsColumn_95 : decode cX12_countsColumn 95 = .ok (.getfield 41, 3) := by decide +kernel
theorem dX12_countsColumn_98 : decode cX12_countsColumn 98 = .ok (.iload_n 3, 1) := by decide +kernel
theorem dX12_countsColumn_99 : decode cX12_countsColumn 99 = .ok (.iload 5, 2) := by decide +kernel
theorem dX12_countsColumn_101 : decode cX12_countsColumn 101 = .ok (.ifCond .eq 17, 3) := by decide +kernel
theorem dX12_countsColumn_104 : decode cX12_countsColumn 104 = .ok (.aload_n 0, 1) := by decide +kernel
theorem dX12_countsColumn_105 : decode cX12_countsColumn 105 = .ok (.getfield 35, 3) := by decide +kernel
theorem dX12_countsColumn_108 : decode cX12_countsColumn 108 = .ok (.iload_n 3, 1) := by decide +kernel
theorem dX12_countsColumn_109 : decode cX12_countsColumn 109 = .ok (.iaload, 1) := by decide +kernel
theorem dX12_countsColumn_110 : decode cX12_countsColumn 110 = .ok (.ifCond .ne 8, 3) := by decide +kernel
theorem dX12_countsColumn_113 : decode cX12_countsColumn 113 = .ok (.iload 4, 2) := by decide +kernel
theorem dX12_countsColumn_115 : decode cX12_countsColumn 115 = .ok (.goto 9, 3) := by decide +kernel
theorem dX12_countsColumn_118 : decode cX12_countsColumn 118 = .ok (.aload_n 0, 1) := by decide +kernel
theorem dX12_countsColumn_119 : decode cX12_countsColumn 119 = .ok (.getfield 41, 3) := by decide +kernel
theorem dX12_countsColumn_122 : decode cX12_countsColumn 122 = .ok (.iload_n 3, 1) := by decide +kernel
theorem dX12_countsColumn_123 : decode cX12_countsColumn 123 = .ok (.iaload, 1) := by decide +kernel
theorem dX12_countsColumn_124 : decode cX12_countsColumn 124 = .ok (.iastore, 1) := by decide +kernel
theorem dX12_countsColumn_125 : decode cX12_countsColumn 125 = .ok (.aload_n 0, 1) := by decide +kernel
theorem dX12_countsColumn_126 : decode cX12_countsColumn 126 = .ok (.getfield 38, 3) := by decide +kernel
theorem dX12_countsColumn_129 : decode cX12_countsColumn 129 = .ok (.iload_n 3, 1) := by decide +kernel
theorem dX12_countsColumn_130 : decode cX12_countsColumn 130 = .ok (.iload 5, 2) := by decide +kernel
theorem dX12_countsColumn_132 : decode cX12_countsColumn 132 = .ok (.ifCond .eq 8, 3) := by decide +kernel
theorem dX12_countsColumn_135 : decode cX12_countsColumn 135 = .ok (.iload 4, 2) := by decide +kernel
theorem dX12_countsColumn_137 : decode cX12_countsColumn 137 = .ok (.goto 9, 3) := by decide +kernel
theorem dX12_countsColumn_140 : decode cX12_countsColumn 140 = .ok (.aload_n 0, 1) := by decide +kernel
theorem dX12_countsColumn_141 : decode cX12_countsColumn 141 = .ok (.getfield 38, 3) := by decide +kernel
theorem dX12_countsColumn_144 : decode cX12_countsColumn 144 = .ok (.iload_n 3, 1) := by decide +kernel
theorem dX12_countsColumn_145 : decode cX12_countsColumn 145 = .ok (.iaload, 1) := by decide +kernel
theorem dX12_countsColumn_146 : decode cX12_countsColumn 146 = .ok (.iastore, 1) := by decide +kernel
theorem dX12_countsColumn_147 : decode cX12_countsColumn 147 = .ok (.aload_n 0, 1) := by decide +kernel
theorem dX12_countsColumn_148 : decode cX12_countsColumn 148 = .ok (.getfield 35, 3) := by decide +kernel
theorem dX12_countsColumn_151 : decode cX12_countsColumn 151 = .ok (.iload_n 3, 1) := by decide +kernel
theorem dX12_countsColumn_152 : decode cX12_countsColumn 152 = .ok (.dup2, 1) := by decide +kernel
theorem dX12_countsColumn_153 : decode cX12_countsColumn 153 = .ok (.iaload, 1) := by decide +kernel
theorem dX12_countsColumn_154 : decode cX12_countsColumn 154 = .ok (.iload 5, 2) := by decide +kernel
theorem dX12_countsColumn_156 : decode cX12_countsColumn 156 = .ok (.ifCond .eq 7, 3) := by decide +kernel
theorem dX12_countsColumn_159 : decode cX12_countsColumn 159 = .ok (.iconst 1, 1) := by decide +kernel
theorem dX12_countsColumn_160 : decode cX12_countsColumn 160 = .ok (.goto 4, 3) := by decide +kernel
theorem dX12_countsColumn_163 : decode cX12_countsColumn 163 = .ok (.iconst 0, 1) := by decide +kernel
theorem dX12_countsColumn_164 : decode cX12_countsColumn 164 = .ok (.iadd, 1) := by decide +kernel
theorem dX12_countsColumn_165 : decode cX12_countsColumn 165 = .ok (.iastore, 1) := by decide +kernel
theorem dX12_countsColumn_166 : decode cX12_countsColumn 166 = .ok (.iinc 4 (-1), 3) := by decide +kernel
theorem dX12_countsColumn_169 : decode cX12_countsColumn 169 = .ok (.goto (-138), 3) := by decide +kernel
theorem dX12_countsColumn_172 : decode cX12_countsColumn 172 = .ok (.return_, 1) := by decide +kernel
theorem dX12_count_0 : decode cX12_count 0 = .ok (.aload_n 0, 1) := by decide +kernel
theorem dX12_count_1 : decode cX12_count 1 = .ok (.iconst 0, 1) := by decide +kernel
theorem dX12_count_2 : decode cX12_count 2 = .ok (.putfield 141, 3) := by decide +kernel
theorem dX12_count_5 : decode cX12_count 5 = .ok (.aload_n 0, 1) := by decide +kernel
theorem dX12_count_6 : decode cX12_count 6 = .ok (.aload_n 0, 1) := by decide +kernel
theorem dX12_count_7 : decode cX12_count 7 = .ok (.iload_n 1, 1) := by decide +kernel
theorem dX12_count_8 : decode cX12_count 8 = .ok (.invokevirtual 151, 3) := by decide +kernel
theorem dX12_count_11 : decode cX12_count 11 = .ok (.ifCond .ne 7, 3) := by decide +kernel
theorem dX12_count_14 : decode cX12_count 14 = .ok (.iconst 1, 1) := by decide +kernel
theorem dX12_count_15 : decode cX12_count 15 = .ok (.goto 4, 3) := by decide +kernel
theorem dX12_count_18 : decode cX12_count 18 = .ok (.iconst 0, 1) := by decide +kernel
theorem dX12_count_19 : decode cX12_count 19 = .ok (.iconst 1, 1) := by decide +kernel
theorem dX12_count_20 : decode cX12_count 20 = .ok (.invokevirtual 162, 3) := by decide +kernel
theorem dX12_count_23 : decode cX12_count 23 = .ok (.ifCond .eq 5, 3) := by decide +kernel
theorem dX12_count_26 : decode cX12_count 26 = .ok (.iconst (-1), 1) := by decide +kernel
theorem dX12_count_27 : decode cX12_count 27 = .ok (.ireturn, 1) := by decide +kernel
theorem dX12_count_28 : decode cX12_count 28 = .ok (.aload_n 0, 1) := by decide +kernel
theorem dX12_count_29 : decode cX12_count 29 = .ok (.iconst 0, 1) := by decide +kernel
theorem dX12_count_30 : decode cX12_count 30 = .ok (.putfield 166, 3) := by decide +kernel
theorem dX12_count_33 : decode cX12_count 33 = .ok (.aload_n 0, 1) := by decide +kernel
theorem dX12_count_34 : decode cX12_count 34 = .ok (.getfield 29, 3) := by decide +kernel
theorem dX12_count_37 : decode cX12_count 37 = .ok (.iload_n 1, 1) := by decide +kernel
theorem dX12_count_38 : decode cX12_count 38 = .ok (.aload_n 0, 1) := by decide +kernel
theorem dX12_count_39 : decode cX12_count 39 = .ok (.iload_n 1, 1) := by decide +kernel
theorem dX12_count_40 : decode cX12_count 40 = .ok (.invokevirtual 184, 3) := by decide +kernel
theorem dX12_count_43 : decode cX12_count 43 = .ok (.iastore, 1) := by decide +kernel
theorem dX12_count_44 : decode cX12_count 44 = .ok (.aload_n 0, 1) := by decide +kernel
theorem dX12_count_45 : decode cX12_count 45 = .ok (.getfield 32, 3) := by decide +kernel
theorem dX12_count_48 : decode cX12_count 48 = .ok (.iload_n 1, 1) := by decide +kernel
theorem dX12_count_49 : decode cX12_count 49 = .ok (.aload_n 0, 1) := by decide +kernel
theorem dX12_count_50 : decode cX12_count 50 = .ok (.iload_n 1, 1) := by decide +kernel
theorem dX12_count_51 : decode cX12_count 51 = .ok (.invokevirtual 188, 3) := by decide +kernel
theorem dX12_count_54 : decode cX12_count 54 = .ok (.iastore, 1) := by decide +kernel
theorem dX12_count_55 : decode cX12_count 55 = .ok (.iconst 0, 1) := by decide +kernel
theorem dX12_count_56 : decode cX12_count 56 = .ok (.istore_n 2, 1) := by decide +kernel
theorem dX12_count_57 : decode cX12_count 57 = .ok (.iload_n 2, 1) := by decide +kernel
theorem dX12_count_58 : decode cX12_count 58 = .ok (.aload_n 0, 1) := by decide +kernel
theorem dX12_count_59 : decode cX12_count 59 = .ok (.getfield 7, 3) := by decide +kernel
theorem dX12_count_62 : decode cX12_count 62 = .ok (.iload_n 1, 1) := by decide +kernel
theorem dX12_count_63 : decode cX12_count 63 = .ok (.iaload, 1) := by decide +kernel
theorem dX12_count_64 : decode cX12_count 64 = .ok (.if_icmp .ge 15, 3) := by decide +kernel
theorem dX12_count_67 : decode cX12_count 67 = .ok (.aload_n 0, 1) := by decide +kernel
theorem dX12_count_68 : decode cX12_count 68 = .ok (.iload_n 1, 1) := by decide +kernel
theorem dX12_count_69 : decode cX12_count 69 = .ok (.iload_n 2, 1) := by decide +kernel
theorem dX12_count_70 : decode cX12_count 70 = .ok (.invokevirtual 191, 3) := by decide +kernel
theorem dX12_count_73 : decode cX12_count 73 = .ok (.iinc 2 1, 3) := by decide +kernel
theorem dX12_count_76 : decode cX12_count 76 = .ok (.goto (-19), 3) := by decide +kernel
theorem dX12_count_79 : decode cX12_count 79 = .ok (.aload_n 0, 1) := by decide +kernel
theorem dX12_count_80 : decode cX12_count 80 = .ok (.getfield 29, 3) := by decide +kernel
theorem dX12_count_83 : decode cX12_count 83 = .ok (.iload_n 1, 1) := by decide +kernel
theorem dX12_count_84 : decode cX12_count 84 = .ok (.iaload, 1) := by decide +kernel
theorem dX12_count_85 : decode cX12_count 85 = .ok (.ireturn, 1) := by decide +kernel
theorem dX12_index_0 : decode cX12_index 0 = .ok (.aload_n 0, 1) := by decide +kernel
theorem dX12_index_1 : decode cX12_index 1 = .ok (.iconst 0, 1) := by decide +kernel
theorem dX12_index_2 : decode cX12_index 2 = .ok (.putfield 141, 3) := by decide +kernel
theorem dX12_index_5 : decode cX12_index 5 = .ok (.aload_n 0, 1) := by decide +kernel
theorem dX12_index_6 : decode cX12_index 6 = .ok (.aload_n 0, 1) := by decide +kernel
theorem dX12_index_7 : decode cX12_index 7 = .ok (.iload_n 1, 1) := by decide +kernel
theorem dX12_index_8 : decode cX12_index 8 = .ok (.invokevirtual 151, 3) := by decide +kernel
theorem dX12_index_11 : decode cX12_index 11 = .ok (.ifCond .ne 7, 3) := by decide +kernel
theorem dX12_index_14 : decode cX12_index 14 = .ok (.iconst 1, 1) := by decide +kernel
theorem dX12_index_15 : decode cX12_index 15 = .ok (.goto 4, 3) := by decide +kernel
theorem dX12_index_18 : decode cX12_index 18 = .ok (.iconst 0, 1) := by decide +kernel
theorem dX12_index_19 : decode cX12_index 19 = .ok (.iconst 1, 1) := by decide +kernel
theorem dX12_index_20 : decode cX12_index 20 = .ok (.invokevirtual 162, 3) := by decide +kernel
theorem dX12_index_23 : decode cX12_index 23 = .ok (.ifCond .ne 47, 3) := by decide +kernel
theorem dX12_index_26 : decode cX12_index 26 = .ok (.aload_n 0, 1) := by decide +kernel
theorem dX12_index_27 : decode cX12_index 27 = .ok (.aload_n 0, 1) := by decide +kernel
theorem dX12_index_28 : decode cX12_index 28 = .ok (.iload_n 1, 1) := by decide +kernel
theorem dX12_index_29 : decode cX12_index 29 = .ok (.iload_n 2, 1) := by decide +kernel
theorem dX12_index_30 : decode cX12_index 30 = .ok (.invokevirtual 170, 3) := by decide +kernel
theorem dX12_index_33 : decode cX12_index 33 = .ok (.ifCond .ne 7, 3) := by decide +kernel
theorem dX12_index_36 : decode cX12_index 36 = .ok (.iconst 1, 1) := by decide +kernel
theorem dX12_index_37 : decode cX12_index 37 = .ok (.goto 4, 3) := by decide +kernel
theorem dX12_index_40 : decode cX12_index 40 = .ok (.iconst 0, 1) := by decide +kernel
theorem dX12_index_41 : decode cX12_index 41 = .ok (.iconst 2, 1) := by decide +kernel
theorem dX12_index_42 : decode cX12_index 42 = .ok (.invokevirtual 162, 3) := by decide +kernel
theorem dX12_index_45 : decode cX12_index 45 = .ok (.ifCond .ne 25, 3) := by decide +kernel
theorem dX12_index_48 : decode cX12_index 48 = .ok (.aload_n 0, 1) := by decide +kernel
theorem dX12_index_49 : decode cX12_index 49 = .ok (.aload_n 0, 1) := by decide +kernel
theorem dX12_index_50 : decode cX12_index 50 = .ok (.getfield 155, 3) := by decide +kernel
theorem dX12_index_53 : decode cX12_index 53 = .ok (.bipush 6, 2) := by decide +kernel
theorem dX12_index_55 : decode cX12_index 55 = .ok (.if_icmp .ne 7, 3) := by decide +kernel
theorem dX12_index_58 : decode cX12_index 58 = .ok (.iconst 1, 1) := by decide +kernel
theorem dX12_index_59 : decode cX12_index 59 = .ok (.goto 4, 3) := by decide +kernel
theorem dX12_index_62 : decode cX12_index 62 = .ok (.iconst 0, 1) := by decide +kernel
theorem dX12_index_63 : decode cX12_index 63 = .ok (.iconst 3, 1) := by decide +kernel
theorem dX12_index_64 : decode cX12_index 64 = .ok (.invokevirtual 162, 3) := by decide +kernel
theorem dX12_index_67 : decode cX12_index 67 = .ok (.ifCond .eq 5, 3) := by decide +kernel
theorem dX12_index_70 : decode cX12_index 70 = .ok (.iconst (-1), 1) := by decide +kernel
theorem dX12_index_71 : decode cX12_index 71 = .ok (.ireturn, 1) := by decide +kernel
theorem dX12_index_72 : decode cX12_index 72 = .ok (.aload_n 0, 1) := by decide +kernel
theorem dX12_index_73 : decode cX12_index 73 = .ok (.iconst 0, 1) := by decide +kernel
theorem dX12_index_74 : decode cX12_index 74 = .ok (.putfield 166, 3) := by decide +kernel
theorem dX12_index_77 : decode cX12_index 77 = .ok (.aload_n 0, 1) := by decide +kernel
theorem dX12_index_78 : decode cX12_index 78 = .ok (.getfield 44, 3) := by decide +kernel
theorem dX12_index_81 : decode cX12_index 81 = .ok (.aload_n 0, 1) := by decide +kernel
theorem dX12_index_82 : decode cX12_index 82 = .ok (.getfield 155, 3) := by decide +kernel
theorem dX12_index_85 : decode cX12_index 85 = .ok (.iload_n 1, 1) := by decide +kernel
theorem dX12_index_86 : decode cX12_index 86 = .ok (.iastore, 1) := by decide +kernel
theorem dX12_index_87 : decode cX12_index 87 = .ok (.aload_n 0, 1) := by decide +kernel
theorem dX12_index_88 : decode cX12_index 88 = .ok (.getfield 47, 3) := by decide +kernel
theorem dX12_index_91 : decode cX12_index 91 = .ok (.aload_n 0, 1) := by decide +kernel
theorem dX12_index_92 : decode cX12_index 92 = .ok (.getfield 155, 3) := by decide +kernel
theorem dX12_index_95 : decode cX12_index 95 = .ok (.iload_n 2, 1) := by decide +kernel
theorem dX12_index_96 : decode cX12_index 96 = .ok (.iastore, 1) := by decide +kernel
theorem dX12_index_97 : decode cX12_index 97 = .ok (.aload_n 0, 1) := by decide +kernel
theorem dX12_index_98 : decode cX12_index 98 = .ok (.dup, 1) := by decide +kernel
theorem dX12_index_99 : decode cX12_index 99 = .ok (.getfield 155, 3) := by decide +kernel
theorem dX12_index_102 : decode cX12_index 102 = .ok (.iconst 1, 1) := by decide +kernel
theorem dX12_index_103 : decode cX12_index 103 = .ok (.iadd, 1) := by decide +kernel
theorem dX12_index_104 : decode cX12_index 104 = .ok (.putfield 155, 3) := by decide +kernel
theorem dX12_index_107 : decode cX12_index 107 = .ok (.aload_n 0, 1) := by decide +kernel
theorem dX12_index_108 : decode cX12_index 108 = .ok (.getfield 155, 3) := by decide +kernel
theorem dX12_index_111 : decode cX12_index 111 = .ok (.iconst 1, 1) := by decide +kernel
theorem dX12_index_112 : decode cX12_index 112 = .ok (.isub, 1) := by decide +kernel
theorem dX12_index_113 : decode cX12_index 113 = .ok (.ireturn, 1) := by decide +kernel
theorem dX12_pages_0 : decode cX12_pages 0 = .ok (.aload_n 0, 1) := by decide +kernel
theorem dX12_pages_1 : decode cX12_pages 1 = .ok (.iconst 0, 1) := by decide +kernel
theorem dX12_pages_2 : decode cX12_pages 2 = .ok (.putfield 141, 3) := by decide +kernel
theorem dX12_pages_5 : decode cX12_pages 5 = .ok (.aload_n 0, 1) := by decide +kernel
theorem dX12_pages_6 : decode cX12_pages 6 = .ok (.aload_n 0, 1) := by decide +kernel
theorem dX12_pages_7 : decode cX12_pages 7 = .ok (.iload_n 1, 1) := by decide +kernel
theorem dX12_pages_8 : decode cX12_pages 8 = .ok (.invokevirtual 151, 3) := by decide +kernel
theorem dX12_pages_11 : decode cX12_pages 11 = .ok (.ifCond .ne 7, 3) := by decide +kernel
theorem dX12_pages_14 : decode cX12_pages 14 = .ok (.iconst 1, 1) := by decide +kernel
theorem dX12_pages_15 : decode cX12_pages 15 = .ok (.goto 4, 3) := by decide +kernel
theorem dX12_pages_18 : decode cX12_pages 18 = .ok (.iconst 0, 1) := by decide +kernel
theorem dX12_pages_19 : decode cX12_pages 19 = .ok (.iconst 1, 1) := by decide +kernel
theorem dX12_pages_20 : decode cX12_pages 20 = .ok (.invokevirtual 162, 3) := by decide +kernel
theorem dX12_pages_23 : decode cX12_pages 23 = .ok (.ifCond .eq 7, 3) := by decide +kernel
theorem dX12_pages_26 : decode cX12_pages 26 = .ok (.iconst (-1), 1) := by decide +kernel
theorem dX12_pages_27 : decode cX12_pages 27 = .ok (.goto 8, 3) := by decide +kernel
theorem dX12_pages_30 : decode cX12_pages 30 = .ok (.aload_n 0, 1) := by decide +kernel
theorem dX12_pages_31 : decode cX12_pages 31 = .ok (.iload_n 1, 1) := by decide +kernel
theorem dX12_pages_32 : decode cX12_pages 32 = .ok (.invokevirtual 188, 3) := by decide +kernel
theorem dX12_pages_35 : decode cX12_pages 35 = .ok (.ireturn, 1) := by decide +kernel
theorem dX12_value_0 : decode cX12_value 0 = .ok (.aload_n 0, 1) := by decide +kernel
theorem dX12_value_1 : decode cX12_value 1 = .ok (.iconst 0, 1) := by decide +kernel
theorem dX12_value_2 : decode cX12_value 2 = .ok (.putfield 141, 3) := by decide +kernel
theorem dX12_value_5 : decode cX12_value 5 = .ok (.aload_n 0, 1) := by decide +kernel
theorem dX12_value_6 : decode cX12_value 6 = .ok (.aload_n 0, 1) := by decide +kernel
theorem dX12_value_7 : decode cX12_value 7 = .ok (.iload_n 1, 1) := by decide +kernel
theorem dX12_value_8 : decode cX12_value 8 = .ok (.invokevirtual 151, 3) := by decide +kernel
theorem dX12_value_11 : decode cX12_value 11 = .ok (.ifCond .ne 7, 3) := by decide +kernel
theorem dX12_value_14 : decode cX12_value 14 = .ok (.iconst 1, 1) := by decide +kernel
theorem dX12_value_15 : decode cX12_value 15 = .ok (.goto 4, 3) := by decide +kernel
theorem dX12_value_18 : decode cX12_value 18 = .ok (.iconst 0, 1) := by decide +kernel
theorem dX12_value_19 : decode cX12_value 19 = .ok (.iconst 1, 1) := by decide +kernel
theorem dX12_value_20 : decode cX12_value 20 = .ok (.invokevirtual 162, 3) := by decide +kernel
theorem dX12_value_23 : decode cX12_value 23 = .ok (.ifCond .ne 47, 3) := by decide +kernel
theorem dX12_value_26 : decode cX12_value 26 = .ok (.aload_n 0, 1) := by decide +kernel
theorem dX12_value_27 : decode cX12_value 27 = .ok (.aload_n 0, 1) := by decide +kernel
theorem dX12_value_28 : decode cX12_value 28 = .ok (.iload_n 1, 1) := by decide +kernel
theorem dX12_value_29 : decode cX12_value 29 = .ok (.iload_n 3, 1) := by decide +kernel
theorem dX12_value_30 : decode cX12_value 30 = .ok (.invokevirtual 170, 3) := by decide +kernel
theorem dX12_value_33 : decode cX12_value 33 = .ok (.ifCond .ne 7, 3) := by decide +kernel
theorem dX12_value_36 : decode cX12_value 36 = .ok (.iconst 1, 1) := by decide +kernel
theorem dX12_value_37 : decode cX12_value 37 = .ok (.goto 4, 3) := by decide +kernel
theorem dX12_value_40 : decode cX12_value 40 = .ok (.iconst 0, 1) := by decide +kernel
theorem dX12_value_41 : decode cX12_value 41 = .ok (.iconst 2, 1) := by decide +kernel
theorem dX12_value_42 : decode cX12_value 42 = .ok (.invokevirtual 162, 3) := by decide +kernel
theorem dX12_value_45 : decode cX12_value 45 = .ok (.ifCond .ne 25, 3) := by decide +kernel
theorem dX12_value_48 : decode cX12_value 48 = .ok (.aload_n 0, 1) := by decide +kernel
theorem dX12_value_49 : decode cX12_value 49 = .ok (.aload_n 0, 1) := by decide +kernel
theorem dX12_value_50 : decode cX12_value 50 = .ok (.iload_n 1, 1) := by decide +kernel
theorem dX12_value_51 : decode cX12_value 51 = .ok (.iload_n 2, 1) := by decide +kernel
theorem dX12_value_52 : decode cX12_value 52 = .ok (.invokevirtual 158, 3) := by decide +kernel
theorem dX12_value_55 : decode cX12_value 55 = .ok (.ifCond .ne 7, 3) := by decide +kernel
theorem dX12_value_58 : decode cX12_value 58 = .ok (.iconst 1, 1) := by decide +kernel
theorem dX12_value_59 : decode cX12_value 59 = .ok (.goto 4, 3) := by decide +kernel
theorem dX12_value_62 : decode cX12_value 62 = .ok (.iconst 0, 1) := by decide +kernel
theorem dX12_value_63 : decode cX12_value 63 = .ok (.iconst 3, 1) := by decide +kernel
theorem dX12_value_64 : decode cX12_value 64 = .ok (.invokevirtual 162, 3) := by decide +kernel
theorem dX12_value_67 : decode cX12_value 67 = .ok (.ifCond .eq 5, 3) := by decide +kernel
theorem dX12_value_70 : decode cX12_value 70 = .ok (.iconst (-1), 1) := by decide +kernel
theorem dX12_value_71 : decode cX12_value 71 = .ok (.ireturn, 1) := by decide +kernel
theorem dX12_value_72 : decode cX12_value 72 = .ok (.aload_n 0, 1) := by decide +kernel
theorem dX12_value_73 : decode cX12_value 73 = .ok (.iload_n 1, 1) := by decide +kernel
theorem dX12_value_74 : decode cX12_value 74 = .ok (.iload_n 2, 1) := by decide +kernel
theorem dX12_value_75 : decode cX12_value 75 = .ok (.iload_n 3, 1) := by decide +kernel
theorem dX12_value_76 : decode cX12_value 76 = .ok (.invokevirtual 173, 3) := by decide +kernel
theorem dX12_value_79 : decode cX12_value 79 = .ok (.ireturn, 1) := by decide +kernel
theorem dX12_lists_0 : decode cX12_lists 0 = .ok (.aload_n 0, 1) := by decide +kernel
theorem dX12_lists_1 : decode cX12_lists 1 = .ok (.getfield 44, 3) := by decide +kernel
theorem dX12_lists_4 : decode cX12_lists 4 = .ok (.iload_n 1, 1) := by decide +kernel
theorem dX12_lists_5 : decode cX12_lists 5 = .ok (.iaload, 1) := by decide +kernel
theorem dX12_lists_6 : decode cX12_lists 6 = .ok (.istore_n 2, 1) := by decide +kernel
theorem dX12_lists_7 : decode cX12_lists 7 = .ok (.iconst 0, 1) := by decide +kernel
theorem dX12_lists_8 : decode cX12_lists 8 = .ok (.istore_n 3, 1) := by decide +kernel
theorem dX12_lists_9 : decode cX12_lists 9 = .ok (.iconst 0, 1) := by decide +kernel
theorem dX12_lists_10 : decode cX12_lists 10 = .ok (.istore 4, 2) := by decide +kernel
theorem dX12_lists_12 : decode cX12_lists 12 = .ok (.iload 4, 2) := by decide +kernel
theorem dX12_lists_14 : decode cX12_lists 14 = .ok (.bipush 99, 2) := by decide +kernel
theorem dX12_lists_16 : decode cX12_lists 16 = .ok (.if_icmp .gt 73, 3) := by decide +kernel
theorem dX12_lists_19 : decode cX12_lists 19 = .ok (.iconst 0, 1) := by decide +kernel
theorem dX12_lists_20 : decode cX12_lists 20 = .ok (.istore 5, 2) := by decide +kernel
theorem dX12_lists_22 : decode cX12_lists 22 = .ok (.iload 5, 2) := by decide +kernel
theorem dX12_lists_24 : decode cX12_lists 24 = .ok (.aload_n 0, 1) := by decide +kernel
theorem dX12_lists_25 : decode cX12_lists 25 = .ok (.getfield 13, 3) := by decide +kernel
theorem dX12_lists_28 : decode cX12_lists 28 = .ok (.iload_n 2, 1) := by decide +kernel
theorem dX12_lists_29 : decode cX12_lists 29 = .ok (.iaload, 1) := by decide +kernel
theorem dX12_lists_30 : decode cX12_lists 30 = .ok (.if_icmp .ge 53, 3) := by decide +kernel
theorem dX12_lists_33 : decode cX12_lists 33 = .ok (.aload_n 0, 1) := by decide +kernel
theorem dX12_lists_34 : decode cX12_lists 34 = .ok (.iload_n 2, 1) := by decide +kernel
theorem dX12_lists_35 : decode cX12_lists 35 = .ok (.iload 5, 2) := by decide +kernel
theorem dX12_lists_37 : decode cX12_lists 37 = .ok (.invokevirtual 158, 3) := by decide +kernel
theorem dX12_lists_40 : decode cX12_lists 40 = .ok (.ifCond .eq 37, 3) := by decide +kernel
theorem dX12_lists_43 : decode cX12_lists 43 = .ok (.aload_n 0, 1) := by decide +kernel
theorem dX12_lists_44 : decode cX12_lists 44 = .ok (.iload_n 2, 1) := by decide +kernel
theorem dX12_lists_45 : decode cX12_lists 45 = .ok (.iload 5, 2) := by decide +kernel
theorem dX12_lists_47 : decode cX12_lists 47 = .ok (.aload_n 0, 1) := by decide +kernel
theorem dX12_lists_48 : decode cX12_lists 48 = .ok (.getfield 47, 3) := by decide +kernel
theorem dX12_lists_51 : decode cX12_lists 51 = .ok (.iload_n 1, 1) := by decide +kernel
theorem dX12_lists_52 : decode cX12_lists 52 = .ok (.iaload, 1) := by decide +kernel
theorem dX12_lists_53 : decode cX12_lists 53 = .ok (.invokevirtual 173, 3) := by decide +kernel
theorem dX12_lists_56 : decode cX12_lists 56 = .ok (.iload 4, 2) := by decide +kernel
theorem dX12_lists_58 : decode cX12_lists 58 = .ok (.if_icmp .ne 19, 3) := by decide +kernel
theorem dX12_lists_61 : decode cX12_lists 61 = .ok (.aload_n 0, 1) := by decide +kernel
theorem dX12_lists_62 : decode cX12_lists 62 = .ok (.getfield 50, 3) := by decide +kernel
theorem dX12_lists_65 : decode cX12_lists 65 = .ok (.bipush 40, 2) := by decide +kernel
theorem dX12_lists_67 : decode cX12_lists 67 = .ok (.iload_n 1, 1) := by decide +kernel
theorem dX12_lists_68 : decode cX12_lists 68 = .ok (.imul, 1) := by decide +kernel
theorem dX12_lists_69 : decode cX12_lists 69 = .ok (.iload_n 3, 1) := by decide +kernel
theorem dX12_lists_70 : decode cX12_lists 70 = .ok (.iadd, 1) := by decide +kernel
theorem dX12_lists_71 : decode cX12_lists 71 = .ok (.iload 5, 2) := by decide +kernel
theorem dX12_lists_73 : decode cX12_lists 73 = .ok (.iastore, 1) := by decide +kernel
theorem dX12_lists_74 : decode cX12_lists 74 = .ok (.iinc 3 1, 3) := by decide +kernel
theorem dX12_lists_77 : decode cX12_lists 77 = .ok (.iinc 5 1, 3) := by decide +kernel
theorem dX12_lists_80 : decode cX12_lists 80 = .ok (.goto (-58), 3) := by decide +kernel
theorem dX12_lists_83 : decode cX12_lists 83 = .ok (.iinc 4 1, 3) := by decide +kernel
theorem dX12_lists_86 : decode cX12_lists 86 = .ok (.goto (-74), 3) := by decide +kernel
theorem dX12_lists_89 : decode cX12_lists 89 = .ok (.aload_n 0, 1) := by decide +kernel
theorem dX12_lists_90 : decode cX12_lists 90 = .ok (.getfield 53, 3) := by decide +kernel
theorem dX12_lists_93 : decode cX12_lists 93 = .ok (.iload_n 1, 1) := by decide +kernel
theorem dX12_lists_94 : decode cX12_lists 94 = .ok (.iload_n 3, 1) := by decide +kernel
theorem dX12_lists_95 : decode cX12_lists 95 = .ok (.iastore, 1) := by decide +kernel
theorem dX12_lists_96 : decode cX12_lists 96 = .ok (.return_, 1) := by decide +kernel
theorem dX12_entries_0 : decode cX12_entries 0 = .ok (.aload_n 0, 1) := by decide +kernel
theorem dX12_entries_1 : decode cX12_entries 1 = .ok (.iconst 0, 1) := by decide +kernel
theorem dX12_entries_2 : decode cX12_entries 2 = .ok (.putfield 141, 3) := by decide +kernel
theorem dX12_entries_5 : decode cX12_entries 5 = .ok (.aload_n 0, 1) := by decide +kernel
theorem dX12_entries_6 : decode cX12_entries 6 = .ok (.aload_n 0, 1) := by decide +kernel
theorem dX12_entries_7 : decode cX12_entries 7 = .ok (.iload_n 1, 1) := by decide +kernel
theorem dX12_entries_8 : decode cX12_entries 8 = .ok (.invokevirtual 194, 3) := by decide +kernel
theorem dX12_entries_11 : decode cX12_entries 11 = .ok (.ifCond .ne 7, 3) := by decide +kernel
theorem dX12_entries_14 : decode cX12_entries 14 = .ok (.iconst 1, 1) := by decide +kernel
theorem dX12_entries_15 : decode cX12_entries 15 = .ok (.goto 4, 3) := by decide +kernel
theorem dX12_entries_18 : decode cX12_entries 18 = .ok (.iconst 0, 1) := by decide +kernel
theorem dX12_entries_19 : decode cX12_entries 19 = .ok (.iconst 1, 1) := by decide +kernel
theorem dX12_entries_20 : decode cX12_entries 20 = .ok (.invokevirtual 162, 3) := by decide +kernel
theorem dX12_entries_23 : decode cX12_entries 23 = .ok (.ifCond .eq 7, 3) := by decide +kernel
theorem dX12_entries_26 : decode cX12_entries 26 = .ok (.iconst (-1), 1) := by decide +kernel
theorem dX12_entries_27 : decode cX12_entries 27 = .ok (.goto 13, 3) := by decide +kernel
theorem dX12_entries_30 : decode cX12_entries 30 = .ok (.aload_n 0, 1) := by decide +kernel
theorem dX12_entries_31 : decode cX12_entries 31 = .ok (.aload_n 0, 1) := by decide +kernel
theorem dX12_entries_32 : decode cX12_entries 32 = .ok (.getfield 44, 3) := by decide +kernel
theorem dX12_entries_35 : decode cX12_entries 35 = .ok (.iload_n 1, 1) := by decide +kernel
theorem dX12_entries_36 : decode cX12_entries 36 = .ok (.iaload, 1) := by decide +kernel
theorem dX12_entries_37 : decode cX12_entries 37 = .ok (.invokevirtual 184, 3) := by decide +kernel
theorem dX12_entries_40 : decode cX12_entries 40 = .ok (.ireturn, 1) := by decide +kernel
theorem dX12_entryAt_0 : decode cX12_entryAt 0 = .ok (.aload_n 0, 1) := by decide +kernel
theorem dX12_entryAt_1 : decode cX12_entryAt 1 = .ok (.iconst 0, 1) := by decide +kernel
theorem dX12_entryAt_2 : decode cX12_entryAt 2 = .ok (.putfield 141, 3) := by decide +kernel
theorem dX12_entryAt_5 : decode cX12_entryAt 5 = .ok (.aload_n 0, 1) := by decide +kernel
theorem dX12_entryAt_6 : decode cX12_entryAt 6 = .ok (.aload_n 0, 1) := by decide +kernel
theorem dX12_entryAt_7 : decode cX12_entryAt 7 = .ok (.iload_n 1, 1) := by decide +kernel
theorem dX12_entryAt_8 : decode cX12_entryAt 8 = .ok (.invokevirtual 194, 3) := by decide +kernel
theorem dX12_entryAt_11 : decode cX12_entryAt 11 = .ok (.ifCond .ne 7, 3) := by decide +kernel
theorem dX12_entryAt_14 : decode cX12_entryAt 14 = .ok (.iconst 1, 1) := by decide +kernel
theorem dX12_entryAt_15 : decode cX12_entryAt 15 = .ok (.goto 4, 3) := by decide +kernel
theorem dX12_entryAt_18 : decode cX12_entryAt 18 = .ok (.iconst 0, 1) := by decide +kernel
theorem dX12_entryAt_19 : decode cX12_entryAt 19 = .ok (.iconst 1, 1) := by decide +kernel
theorem dX12_entryAt_20 : decode cX12_entryAt 20 = .ok (.invokevirtual 162, 3) := by decide +kernel
theorem dX12_entryAt_23 : decode cX12_entryAt 23 = .ok (.ifCond .ne 36, 3) := by decide +kernel
theorem dX12_entryAt_26 : decode cX12_entryAt 26 = .ok (.aload_n 0, 1) := by decide +kernel
theorem dX12_entryAt_27 : decode cX12_entryAt 27 = .ok (.iload_n 2, 1) := by decide +kernel
theorem dX12_entryAt_28 : decode cX12_entryAt 28 = .ok (.iconst 0, 1) := by decide +kernel
theorem dX12_entryAt_29 : decode cX12_entryAt 29 = .ok (.aload_n 0, 1) := by decide +kernel
theorem dX12_entryAt_30 : decode cX12_entryAt 30 = .ok (.aload_n 0, 1) := by decide +kernel
theorem dX12_entryAt_31 : decode cX12_entryAt 31 = .ok (.getfield 44, 3) := by decide +kernel
theorem dX12_entryAt_34 : decode cX12_entryAt 34 = .ok (.iload_n 1, 1) := by decide +kernel
theorem dX12_entryAt_35 : decode cX12_entryAt 35 = .ok (.iaload, 1) := by decide +kernel
theorem dX12_entryAt_36 : decode cX12_entryAt 36 = .ok (.invokevirtual 184, 3) := by decide +kernel
theorem dX12_entryAt_39 : decode cX12_entryAt 39 = .ok (.iconst 1, 1) := by decide +kernel
theorem dX12_entryAt_40 : decode cX12_entryAt 40 = .ok (.isub, 1) := by decide +kernel
theorem dX12_entryAt_41 : decode cX12_entryAt 41 = .ok (.invokestatic 147, 3) := by decide +kernel
theorem dX12_entryAt_44 : decode cX12_entryAt 44 = .ok (.ifCond .ne 7, 3) := by decide +kernel
theorem dX12_entryAt_47 : decode cX12_entryAt 47 = .ok (.iconst 1, 1) := by decide +kernel
theorem dX12_entryAt_48 : decode cX12_entryAt 48 = .ok (.goto 4, 3) := by decide +kernel
theorem dX12_entryAt_51 : decode cX12_entryAt 51 = .ok (.iconst 0, 1) := by decide +kernel
theorem dX12_entryAt_52 : decode cX12_entryAt 52 = .ok (.iconst 2, 1) := by decide +kernel
theorem dX12_entryAt_53 : decode cX12_entryAt 53 = .ok (.invokevirtual 162, 3) := by decide +kernel
theorem dX12_entryAt_56 : decode cX12_entryAt 56 = .ok (.ifCond .eq 5, 3) := by decide +kernel
theorem dX12_entryAt_59 : decode cX12_entryAt 59 = .ok (.iconst (-1), 1) := by decide +kernel
theorem dX12_entryAt_60 : decode cX12_entryAt 60 = .ok (.ireturn, 1) := by decide +kernel
theorem dX12_entryAt_61 : decode cX12_entryAt 61 = .ok (.aload_n 0, 1) := by decide +kernel
theorem dX12_entryAt_62 : decode cX12_entryAt 62 = .ok (.iload_n 1, 1) := by decide +kernel
theorem dX12_entryAt_63 : decode cX12_entryAt 63 = .ok (.invokevirtual 197, 3) := by decide +kernel
theorem dX12_entryAt_66 : decode cX12_entryAt 66 = .ok (.aload_n 0, 1) := by decide +kernel
theorem dX12_entryAt_67 : decode cX12_entryAt 67 = .ok (.getfield 50, 3) := by decide +kernel
theorem dX12_entryAt_70 : decode cX12_entryAt 70 = .ok (.bipush 40, 2) := by decide +kernel
theorem dX12_entryAt_72 : decode cX12_entryAt 72 = .ok (.iload_n 1, 1) := by decide +kernel
theorem dX12_entryAt_73 : decode cX12_entryAt 73 = .ok (.imul, 1) := by decide +kernel
theorem dX12_entryAt_74 : decode cX12_entryAt 74 = .ok (.iload_n 2, 1) := by decide +kernel
theorem dX12_entryAt_75 : decode cX12_entryAt 75 = .ok (.iadd, 1) := by decide +kernel
theorem dX12_entryAt_76 : decode cX12_entryAt 76 = .ok (.iaload, 1) := by decide +kernel
theorem dX12_entryAt_77 : decode cX12_entryAt 77 = .ok (.ireturn, 1) := by decide +kernel
theorem dX12_counted_0 : decode cX12_counted 0 = .ok (.aload_n 0, 1) := by decide +kernel
theorem dX12_counted_1 : decode cX12_counted 1 = .ok (.iconst 0, 1) := by decide +kernel
theorem dX12_counted_2 : decode cX12_counted 2 = .ok (.putfield 141, 3) := by decide +kernel
theorem dX12_counted_5 : decode cX12_counted 5 = .ok (.iload_n 3, 1) := by decide +kernel
theorem dX12_counted_6 : decode cX12_counted 6 = .ok (.bipush 114, 2) := by decide +kernel
theorem dX12_counted_8 : decode cX12_counted 8 = .ok (.if_icmp .eq 27, 3) := by decide +kernel
theorem dX12_counted_11 : decode cX12_counted 11 = .ok (.iload_n 3, 1) := by decide +kernel
theorem dX12_counted_12 : decode cX12_counted 12 = .ok (.bipush 112, 2) := by decide +kernel
theorem dX12_counted_14 : decode cX12_counted 14 = .ok (.if_icmp .eq 21, 3) := by decide +kernel
theorem dX12_counted_17 : decode cX12_counted 17 = .ok (.iload_n 3, 1) := by decide +kernel
theorem dX12_counted_18 : decode cX12_counted 18 = .ok (.bipush 117, 2) := by decide +kernel
theorem dX12_counted_20 : decode cX12_counted 20 = .ok (.if_icmp .eq 15, 3) := by decide +kernel
theorem dX12_counted_23 : decode cX12_counted 23 = .ok (.iload_n 3, 1) := by decide +kernel
theorem dX12_counted_24 : decode cX12_counted 24 = .ok (.bipush 108, 2) := by decide +kernel
theorem dX12_counted_26 : decode cX12_counted 26 = .ok (.if_icmp .eq 9, 3) := by decide +kernel
theorem dX12_counted_29 : decode cX12_counted 29 = .ok (.iload_n 3, 1) := by decide +kernel
theorem dX12_counted_30 : decode cX12_counted 30 = .ok (.bipush 103, 2) := by decide +kernel
theorem dX12_counted_32 : decode cX12_counted 32 = .ok (.if_icmp .ne 7, 3) := by decide +kernel
theorem dX12_counted_35 : decode cX12_counted 35 = .ok (.iconst 1, 1) := by decide +kernel
theorem dX12_counted_36 : decode cX12_counted 36 = .ok (.goto 4, 3) := by decide +kernel
theorem dX12_counted_39 : decode cX12_counted 39 = .ok (.iconst 0, 1) := by decide +kernel
theorem dX12_counted_40 : decode cX12_counted 40 = .ok (.istore 4, 2) := by decide +kernel
theorem dX12_counted_42 : decode cX12_counted 42 = .ok (.aload_n 0, 1) := by decide +kernel
theorem dX12_counted_43 : decode cX12_counted 43 = .ok (.aload_n 0, 1) := by decide +kernel
theorem dX12_counted_44 : decode cX12_counted 44 = .ok (.iload_n 1, 1) := by decide +kernel
theorem dX12_counted_45 : decode cX12_counted 45 = .ok (.invokevirtual 151, 3) := by decide +kernel
theorem dX12_counted_48 : decode cX12_counted 48 = .ok (.ifCond .ne 7, 3) := by decide +kernel
theorem dX12_counted_51 : decode cX12_counted 51 = .ok (.iconst 1, 1) := by decide +kernel
theorem dX12_counted_52 : decode cX12_counted 52 = .ok (.goto 4, 3) := by decide +kernel
theorem dX12_counted_55 : decode cX12_counted 55 = .ok (.iconst 0, 1) := by decide +kernel
theorem dX12_counted_56 : decode cX12_counted 56 = .ok (.iconst 1, 1) := by decide +kernel
theorem dX12_counted_57 : decode cX12_counted 57 = .ok (.invokevirtual 162, 3) := by decide +kernel
theorem dX12_counted_60 : decode cX12_counted 60 = .ok (.ifCond .ne 30, 3) := by decide +kernel
theorem dX12_counted_63 : decode cX12_counted 63 = .ok (.aload_n 0, 1) := by decide +kernel
theorem dX12_counted_64 : decode cX12_counted 64 = .ok (.aload_n 0, 1) := by decide +kernel
theorem dX12_counted_65 : decode cX12_counted 65 = .ok (.iload_n 1, 1) := by decide +kernel
theorem dX12_counted_66 : decode cX12_counted 66 = .ok (.iload_n 2, 1) := by decide +kernel
theorem dX12_counted_67 : decode cX12_counted 67 = .ok (.invokevirtual 170, 3) := by decide +kernel
theorem dX12_counted_70 : decode cX12_counted 70 = .ok (.ifCond .eq 8, 3) := by decide +kernel
theorem dX12_counted_73 : decode cX12_counted 73 = .ok (.iload 4, 2) := by decide +kernel
theorem dX12_counted_75 : decode cX12_counted 75 = .ok (.ifCond .ne 7, 3) := by decide +kernel
theorem dX12_counted_78 : decode cX12_counted 78 = .ok (.iconst 1, 1) := by decide +kernel
theorem dX12_counted_79 : decode cX12_counted 79 = .ok (.goto 4, 3) := by decide +kernel
theorem dX12_counted_82 : decode cX12_counted 82 = .ok (.iconst 0, 1) := by decide +kernel
theorem dX12_counted_83 : decode cX12_counted 83 = .ok (.iconst 2, 1) := by decide +kernel
theorem dX12_counted_84 : decode cX12_counted 84 = .ok (.invokevirtual 162, 3) := by decide +kernel
theorem dX12_counted_87 : decode cX12_counted 87 = .ok (.ifCond .eq 5, 3) := by decide +kernel
theorem dX12_counted_90 : decode cX12_counted 90 = .ok (.iconst (-1), 1) := by decide +kernel
theorem dX12_counted_91 : decode cX12_counted 91 = .ok (.ireturn, 1) := by decide +kernel
theorem dX12_counted_92 : decode cX12_counted 92 = .ok (.iconst 3, 1) := by decide +kernel
theorem dX12_counted_93 : decode cX12_counted 93 = .ok (.iload_n 1, 1) := by decide +kernel
theorem dX12_counted_94 : decode cX12_counted 94 = .ok (.imul, 1) := by decide +kernel
theorem dX12_counted_95 : decode cX12_counted 95 = .ok (.iload_n 2, 1) := by decide +kernel
theorem dX12_counted_96 : decode cX12_counted 96 = .ok (.iadd, 1) := by decide +kernel
theorem dX12_counted_97 : decode cX12_counted 97 = .ok (.istore 5, 2) := by decide +kernel
theorem dX12_counted_99 : decode cX12_counted 99 = .ok (.iload_n 3, 1) := by decide +kernel
theorem dX12_counted_100 : decode cX12_counted 100 = .ok (.bipush 114, 2) := by decide +kernel
theorem dX12_counted_102 : decode cX12_counted 102 = .ok (.if_icmp .ne 12, 3) := by decide +kernel
theorem dX12_counted_105 : decode cX12_counted 105 = .ok (.aload_n 0, 1) := by decide +kernel
theorem dX12_counted_106 : decode cX12_counted 106 = .ok (.getfield 29, 3) := by decide +kernel
theorem dX12_counted_109 : decode cX12_counted 109 = .ok (.iload_n 1, 1) := by decide +kernel
theorem dX12_counted_110 : decode cX12_counted 110 = .ok (.iaload, 1) := by decide +kernel
theorem dX12_counted_111 : decode cX12_counted 111 = .ok (.goto 57, 3) := by decide +kernel
theorem dX12_counted_114 : decode cX12_counted 114 = .ok (.iload_n 3, 1) := by decide +kernel
theorem dX12_counted_115 : decode cX12_counted 115 = .ok (.bipush 112, 2) := by decide +kernel
theorem dX12_counted_117 : decode cX12_counted 117 = .ok (.if_icmp .ne 12, 3) := by decide +kernel
theorem dX12_counted_120 : decode cX12_counted 120 = .ok (.aload_n 0, 1) := by decide +kernel
theorem dX12_counted_121 : decode cX12_counted 121 = .ok (.getfield 32, 3) := by decide +kernel
theorem dX12_counted_124 : decode cX12_counted 124 = .ok (.iload_n 1, 1) := by decide +kernel
theorem dX12_counted_125 : decode cX12_counted 125 = .ok (.iaload, 1) := by decide +kernel
theorem dX12_counted_126 : decode cX12_counted 126 = .ok (.goto 42, 3) := by decide +kernel
theorem dX12_counted_129 : decode cX12_counted 129 = .ok (.iload_n 3, 1) := by decide +kernel
theorem dX12_counted_130 : decode cX12_counted 130 = .ok (.bipush 117, 2) := by decide +kernel
theorem dX12_counted_132 : decode cX12_counted 132 = .ok (.if_icmp .ne 13, 3) := by decide +kernel
theorem dX12_counted_135 : decode cX12_counted 135 = .ok (.aload_n 0, 1) := by decide +kernel
theorem dX12_counted_136 : decode cX12_counted 136 = .ok (.getfield 35, 3) := by decide +kernel
theorem dX12_counted_139 : decode cX12_counted 139 = .ok (.iload 5, 2) := by decide +kernel
theorem dX12_counted_141 : decode cX12_counted 141 = .ok (.iaload, 1) := by decide +kernel
theorem dX12_counted_142 : decode cX12_counted 142 = .ok (.goto 26, 3) := by decide +kernel
theorem dX12_counted_145 : decode cX12_counted 145 = .ok (.iload_n 3, 1) := by decide +kernel
theorem dX12_counted_146 : decode cX12_counted 146 = .ok (.bipush 108, 2) := by decide +kernel
theorem dX12_counted_148 : decode cX12_counted 148 = .ok (.if_icmp .ne 13, 3) := by decide +kernel
theorem dX12_counted_151 : decode cX12_counted 151 = .ok (.aload_n 0, 1) := by decide +kernel
theorem dX12_counted_152 : decode cX12_counted 152 = .ok (.getfield 38, 3) := by decide +kernel
theorem dX12_counted_155 : decode cX12_counted 155 = .ok (.iload 5, 2) := by decide +kernel
theorem dX12_counted_157 : decode cX12_counted 157 = .ok (.iaload, 1) := by decide +kernel
theorem dX12_counted_158 : decode cX12_counted 158 = .ok (.goto 10, 3) := by decide +kernel
theorem dX12_counted_161 : decode cX12_counted 161 = .ok (.aload_n 0, 1) := by decide +kernel
theorem dX12_counted_162 : decode cX12_counted 162 = .ok (.getfield 41, 3) := by decide +kernel
theorem dX12_counted_165 : decode cX12_counted 165 = .ok (.iload 5, 2) := by decide +kernel
theorem dX12_counted_167 : decode cX12_counted 167 = .ok (.iaload, 1) := by decide +kernel
theorem dX12_counted_168 : decode cX12_counted 168 = .ok (.ireturn, 1) := by decide +kernel
theorem dX12_takesOut_0 : decode cX12_takesOut 0 = .ok (.iload_n 2, 1) := by decide +kernel
theorem dX12_takesOut_1 : decode cX12_takesOut 1 = .ok (.istore_n 3, 1) := by decide +kernel
theorem dX12_takesOut_2 : decode cX12_takesOut 2 = .ok (.iload_n 3, 1) := by decide +kernel
theorem dX12_takesOut_3 : decode cX12_takesOut 3 = .ok (.aload_n 0, 1) := by decide +kernel
theorem dX12_takesOut_4 : decode cX12_takesOut 4 = .ok (.getfield 63, 3) := by decide +kernel
theorem dX12_takesOut_7 : decode cX12_takesOut 7 = .ok (.iload_n 1, 1) := by decide +kernel
theorem dX12_takesOut_8 : decode cX12_takesOut 8 = .ok (.iaload, 1) := by decide +kernel
theorem dX12_takesOut_9 : decode cX12_takesOut 9 = .ok (.iconst 1, 1) := by decide +kernel
theorem dX12_takesOut_10 : decode cX12_takesOut 10 = .ok (.isub, 1) := by decide +kernel
theorem dX12_takesOut_11 : decode cX12_takesOut 11 = .ok (.if_icmp .ge 33, 3) := by decide +kernel
theorem dX12_takesOut_14 : decode cX12_takesOut 14 = .ok (.aload_n 0, 1) := by decide +kernel
theorem dX12_takesOut_15 : decode cX12_takesOut 15 = .ok (.getfield 60, 3) := by decide +kernel
theorem dX12_takesOut_18 : decode cX12_takesOut 18 = .ok (.bipush 13, 2) := by decide +kernel
theorem dX12_takesOut_20 : decode cX12_takesOut 20 = .ok (.iload_n 1, 1) := by decide +kernel
theorem dX12_takesOut_21 : decode cX12_takesOut 21 = .ok (.imul, 1) := by decide +kernel
theorem dX12_takesOut_22 : decode cX12_takesOut 22 = .ok (.iload_n 3, 1) := by decide +kernel
theorem dX12_takesOut_23 : decode cX12_takesOut 23 = .ok (.iadd, 1) := by decide +kernel
theorem dX12_takesOut_24 : decode cX12_takesOut 24 = .ok (.aload_n 0, 1) := by decide +kernel
theorem dX12_takesOut_25 : decode cX12_takesOut 25 = .ok (.getfield 60, 3) := by decide +kernel
theorem dX12_takesOut_28 : decode cX12_takesOut 28 = .ok (.bipush 13, 2) := by decide +kernel
theorem dX12_takesOut_30 : decode cX12_takesOut 30 = .ok (.iload_n 1, 1) := by decide +kernel
theorem dX12_takesOut_31 : decode cX12_takesOut 31 = .ok (.imul, 1) := by decide +kernel
theorem dX12_takesOut_32 : decode cX12_takesOut 32 = .ok (.iload_n 3, 1) := by decide +kernel
theorem dX12_takesOut_33 : decode cX12_takesOut 33 = .ok (.iadd, 1) := by decide +kernel
theorem dX12_takesOut_34 : decode cX12_takesOut 34 = .ok (.iconst 1, 1) := by decide +kernel
theorem dX12_takesOut_35 : decode cX12_takesOut 35 = .ok (.iadd, 1) := by decide +kernel
theorem dX12_takesOut_36 : decode cX12_takesOut 36 = .ok (.iaload, 1) := by decide +kernel
theorem dX12_takesOut_37 : decode cX12_takesOut 37 = .ok (.iastore, 1) := by decide +kernel
theorem dX12_takesOut_38 : decode cX12_takesOut 38 = .ok (.iinc 3 1, 3) := by decide +kernel
theorem dX12_takesOut_41 : decode cX12_takesOut 41 = .ok (.goto (-39), 3) := by decide +kernel
theorem dX12_takesOut_44 : decode cX12_takesOut 44 = .ok (.aload_n 0, 1) := by decide +kernel
theorem dX12_takesOut_45 : decode cX12_takesOut 45 = .ok (.getfield 63, 3) := by decide +kernel
theorem dX12_takesOut_48 : decode cX12_takesOut 48 = .ok (.iload_n 1, 1) := by decide +kernel
theorem dX12_takesOut_49 : decode cX12_takesOut 49 = .ok (.dup2, 1) := by decide +kernel
theorem dX12_takesOut_50 : decode cX12_takesOut 50 = .ok (.iaload, 1) := by decide +kernel
theorem dX12_takesOut_51 : decode cX12_takesOut 51 = .ok (.iconst 1, 1) := by decide +kernel
theorem dX12_takesOut_52 : decode cX12_takesOut 52 = .ok (.isub, 1) := by decide +kernel
theorem dX12_takesOut_53 : decode cX12_takesOut 53 = .ok (.iastore, 1) := by decide +kernel
theorem dX12_takesOut_54 : decode cX12_takesOut 54 = .ok (.return_, 1) := by decide +kernel
theorem dX12_looksUp_0 : decode cX12_looksUp 0 = .ok (.aload_n 0, 1) := by decide +kernel
theorem dX12_looksUp_1 : decode cX12_looksUp 1 = .ok (.dup, 1) := by decide +kernel
theorem dX12_looksUp_2 : decode cX12_looksUp 2 = .ok (.getfield 201, 3) := by decide +kernel
theorem dX12_looksUp_5 : decode cX12_looksUp 5 = .ok (.iconst 1, 1) := by decide +kernel
theorem dX12_looksUp_6 : decode cX12_looksUp 6 = .ok (.iadd, 1) := by decide +kernel
theorem dX12_looksUp_7 : decode cX12_looksUp 7 = .ok (.putfield 201, 3) := by decide +kernel
theorem dX12_looksUp_10 : decode cX12_looksUp 10 = .ok (.iconst (-1), 1) := by decide +kernel
theorem dX12_looksUp_11 : decode cX12_looksUp 11 = .ok (.istore_n 3, 1) := by decide +kernel
theorem dX12_looksUp_12 : decode cX12_looksUp 12 = .ok (.iconst 0, 1) := by decide +kernel
theorem dX12_looksUp_13 : decode cX12_looksUp 13 = .ok (.istore 4, 2) := by decide +kernel
theorem dX12_looksUp_15 : decode cX12_looksUp 15 = .ok (.iload 4, 2) := by decide +kernel
theorem dX12_looksUp_17 : decode cX12_looksUp 17 = .ok (.aload_n 0, 1) := by decide +kernel
theorem dX12_looksUp_18 : decode cX12_looksUp 18 = .ok (.getfield 63, 3) := by decide +kernel
theorem dX12_looksUp_21 : decode cX12_looksUp 21 = .ok (.iload_n 1, 1) := by decide +kernel
theorem dX12_looksUp_22 : decode cX12_looksUp 22 = .ok (.iaload, 1) := by decide +kernel
theorem dX12_looksUp_23 : decode cX12_looksUp 23 = .ok (.if_icmp .ge 32, 3) := by decide +kernel
theorem dX12_looksUp_26 : decode cX12_looksUp 26 = .ok (.aload_n 0, 1) := by decide +kernel
theorem dX12_looksUp_27 : decode cX12_looksUp 27 = .ok (.getfield 60, 3) := by decide +kernel
theorem dX12_looksUp_30 : decode cX12_looksUp 30 = .ok (.bipush 13, 2) := by decide +kernel
theorem dX12_looksUp_32 : decode cX12_looksUp 32 = .ok (.iload_n 1, 1) := by decide +kernel
theorem dX12_looksUp_33 : decode cX12_looksUp 33 = .ok (.imul, 1) := by decide +kernel
theorem dX12_looksUp_34 : decode cX12_looksUp 34 = .ok (.iload 4, 2) := by decide +kernel
theorem dX12_looksUp_36 : decode cX12_looksUp 36 = .ok (.iadd, 1) := by decide +kernel
theorem dX12_looksUp_37 : decode cX12_looksUp 37 = .ok (.iaload, 1) := by decide +kernel
theorem dX12_looksUp_38 : decode cX12_looksUp 38 = .ok (.iload_n 2, 1) := by decide +kernel
theorem dX12_looksUp_39 : decode cX12_looksUp 39 = .ok (.if_icmp .ne 8, 3) := by decide +kernel
theorem dX12_looksUp_42 : decode cX12_looksUp 42 = .ok (.iload 4, 2) := by decide +kernel
theorem dX12_looksUp_44 : decode cX12_looksUp 44 = .ok (.goto 4, 3) := by decide +kernel
theorem dX12_looksUp_47 : decode cX12_looksUp 47 = .ok (.iload_n 3, 1) := by decide +kernel
theorem dX12_looksUp_48 : decode cX12_looksUp 48 = .ok (.istore_n 3, 1) := by decide +kernel
theorem dX12_looksUp_49 : decode cX12_looksUp 49 = .ok (.iinc 4 1, 3) := by decide +kernel
theorem dX12_looksUp_52 : decode cX12_looksUp 52 = .ok (.goto (-37), 3) := by decide +kernel
theorem dX12_looksUp_55 : decode cX12_looksUp 55 = .ok (.aload_n 0, 1) := by decide +kernel
theorem dX12_looksUp_56 : decode cX12_looksUp 56 = .ok (.dup, 1) := by decide +kernel
theorem dX12_looksUp_57 : decode cX12_looksUp 57 = .ok (.getfield 204, 3) := by decide +kernel
theorem dX12_looksUp_60 : decode cX12_looksUp 60 = .ok (.iload_n 3, 1) := by decide +kernel
theorem dX12_looksUp_61 : decode cX12_looksUp 61 = .ok (.ifCond .ge 7, 3) := by decide +kernel
theorem dX12_looksUp_64 : decode cX12_looksUp 64 = .ok (.iconst 1, 1) := by decide +kernel
theorem dX12_looksUp_65 : decode cX12_looksUp 65 = .ok (.goto 4, 3) := by decide +kernel
theorem dX12_looksUp_68 : decode cX12_looksUp 68 = .ok (.iconst 0, 1) := by decide +kernel
theorem dX12_looksUp_69 : decode cX12_looksUp 69 = .ok (.iadd, 1) := by decide +kernel
theorem dX12_looksUp_70 : decode cX12_looksUp 70 = .ok (.putfield 204, 3) := by decide +kernel
theorem dX12_looksUp_73 : decode cX12_looksUp 73 = .ok (.iload_n 3, 1) := by decide +kernel
theorem dX12_looksUp_74 : decode cX12_looksUp 74 = .ok (.ifCond .lt 9, 3) := by decide +kernel
theorem dX12_looksUp_77 : decode cX12_looksUp 77 = .ok (.aload_n 0, 1) := by decide +kernel
theorem dX12_looksUp_78 : decode cX12_looksUp 78 = .ok (.iload_n 1, 1) := by decide +kernel
theorem dX12_looksUp_79 : decode cX12_looksUp 79 = .ok (.iload_n 3, 1) := by decide +kernel
theorem dX12_looksUp_80 : decode cX12_looksUp 80 = .ok (.invokevirtual 207, 3) := by decide +kernel
theorem dX12_looksUp_83 : decode cX12_looksUp 83 = .ok (.aload_n 0, 1) := by decide +kernel
theorem dX12_looksUp_84 : decode cX12_looksUp 84 = .ok (.getfield 63, 3) := by decide +kernel
theorem dX12_looksUp_87 : decode cX12_looksUp 87 = .ok (.iload_n 1, 1) := by decide +kernel
theorem dX12_looksUp_88 : decode cX12_looksUp 88 = .ok (.iaload, 1) := by decide +kernel
theorem dX12_looksUp_89 : decode cX12_looksUp 89 = .ok (.istore 4, 2) := by decide +kernel
theorem dX12_looksUp_91 : decode cX12_looksUp 91 = .ok (.iload 4, 2) := by decide +kernel
theorem dX12_looksUp_93 : decode cX12_looksUp 93 = .ok (.ifCond .le 35, 3) := by decide +kernel
theorem dX12_looksUp_96 : decode cX12_looksUp 96 = .ok (.aload_n 0, 1) := by decide +kernel
theorem dX12_looksUp_97 : decode cX12_looksUp 97 = .ok (.getfield 60, 3) := by decide +kernel
theorem dX12_looksUp_100 : decode cX12_looksUp 100 = .ok (.bipush 13, 2) := by decide +kernel
theorem dX12_looksUp_102 : decode cX12_looksUp 102 = .ok (.iload_n 1, 1) := by decide +kernel
theorem dX12_looksUp_103 : decode cX12_looksUp 103 = .ok (.imul, 1) := by decide +kernel
theorem dX12_looksUp_104 : decode cX12_looksUp 104 = .ok (.iload 4, 2) := by decide +kernel
theorem dX12_looksUp_106 : decode cX12_looksUp 106 = .ok (.iadd, 1) := by decide +kernel
theorem dX12_looksUp_107 : decode cX12_looksUp 107 = .ok (.aload_n 0, 1) := by decide +kernel
theorem dX12_looksUp_108 : decode cX12_looksUp 108 = .ok (.getfield 60, 3) := by decide +kernel
theorem dX12_looksUp_111 : decode cX12_looksUp 111 = .ok (.bipush 13, 2) := by decide +kernel
theorem dX12_looksUp_113 : decode cX12_looksUp 113 = .ok (.iload_n 1, 1) := by decide +kernel
theorem dX12_looksUp_114 : decode cX12_looksUp 114 = .ok (.imul, 1) := by decide +kernel
theorem dX12_looksUp_115 : decode cX12_looksUp 115 = .ok (.iload 4, 2) := by decide +kernel
theorem dX12_looksUp_117 : decode cX12_looksUp 117 = .ok (.iadd, 1) := by decide +kernel
theorem dX12_looksUp_118 : decode cX12_looksUp 118 = .ok (.iconst 1, 1) := by decide +kernel
theorem dX12_looksUp_119 : decode cX12_looksUp 119 = .ok (.isub, 1) := by decide +kernel
theorem dX12_looksUp_120 : decode cX12_looksUp 120 = .ok (.iaload, 1) := by decide +kernel
theorem dX12_looksUp_121 : decode cX12_looksUp 121 = .ok (.iastore, 1) := by decide +kernel
theorem dX12_looksUp_122 : decode cX12_looksUp 122 = .ok (.iinc 4 (-1), 3) := by decide +kernel
theorem dX12_looksUp_125 : decode cX12_looksUp 125 = .ok (.goto (-34), 3) := by decide +kernel
theorem dX12_looksUp_128 : decode cX12_looksUp 128 = .ok (.aload_n 0, 1) := by decide +kernel
theorem dX12_looksUp_129 : decode cX12_looksUp 129 = .ok (.getfield 60, 3) := by decide +kernel
theorem dX12_looksUp_132 : decode cX12_looksUp 132 = .ok (.bipush 13, 2) := by decide +kernel
theorem dX12_looksUp_134 : decode cX12_looksUp 134 = .ok (.iload_n 1, 1) := by decide +kernel
theorem dX12_looksUp_135 : decode cX12_looksUp 135 = .ok (.imul, 1) := by decide +kernel
theorem dX12_looksUp_136 : decode cX12_looksUp 136 = .ok (.iload_n 2, 1) := by decide +kernel
theorem dX12_looksUp_137 : decode cX12_looksUp 137 = .ok (.iastore, 1) := by decide +kernel
theorem dX12_looksUp_138 : decode cX12_looksUp 138 = .ok (.aload_n 0, 1) := by decide +kernel
theorem dX12_looksUp_139 : decode cX12_looksUp 139 = .ok (.getfield 63, 3) := by decide +kernel
theorem dX12_looksUp_142 : decode cX12_looksUp 142 = .ok (.iload_n 1, 1) := by decide +kernel
theorem dX12_looksUp_143 : decode cX12_looksUp 143 = .ok (.dup2, 1) := by decide +kernel
theorem dX12_looksUp_144 : decode cX12_looksUp 144 = .ok (.iaload, 1) := by decide +kernel
theorem dX12_looksUp_145 : decode cX12_looksUp 145 = .ok (.iconst 1, 1) := by decide +kernel
theorem dX12_looksUp_146 : decode cX12_looksUp 146 = .ok (.iadd, 1) := by decide +kernel
theorem dX12_looksUp_147 : decode cX12_looksUp 147 = .ok (.iastore, 1) := by decide +kernel
theorem dX12_looksUp_148 : decode cX12_looksUp 148 = .ok (.aload_n 0, 1) := by decide +kernel
theorem dX12_looksUp_149 : decode cX12_looksUp 149 = .ok (.getfield 63, 3) := by decide +kernel
theorem dX12_looksUp_152 : decode cX12_looksUp 152 = .ok (.iload_n 1, 1) := by decide +kernel
theorem dX12_looksUp_153 : decode cX12_looksUp 153 = .ok (.aload_n 0, 1) := by decide +kernel
theorem dX12_looksUp_154 : decode cX12_looksUp 154 = .ok (.getfield 63, 3) := by decide +kernel
theorem dX12_looksUp_157 : decode cX12_looksUp 157 = .ok (.iload_n 1, 1) := by decide +kernel
theorem dX12_looksUp_158 : decode cX12_looksUp 158 = .ok (.iaload, 1) := by decide +kernel
theorem dX12_looksUp_159 : decode cX12_looksUp 159 = .ok (.aload_n 0, 1) := by decide +kernel
theorem dX12_looksUp_160 : decode cX12_looksUp 160 = .ok (.getfield 56, 3) := by decide +kernel
theorem dX12_looksUp_163 : decode cX12_looksUp 163 = .ok (.invokestatic 210, 3) := by decide +kernel
theorem dX12_looksUp_166 : decode cX12_looksUp 166 = .ok (.iastore, 1) := by decide +kernel
theorem dX12_looksUp_167 : decode cX12_looksUp 167 = .ok (.return_, 1) := by decide +kernel
theorem dX12_forgets_0 : decode cX12_forgets 0 = .ok (.aload_n 0, 1) := by decide +kernel
theorem dX12_forgets_1 : decode cX12_forgets 1 = .ok (.getfield 63, 3) := by decide +kernel
theorem dX12_forgets_4 : decode cX12_forgets 4 = .ok (.iconst 0, 1) := by decide +kernel
theorem dX12_forgets_5 : decode cX12_forgets 5 = .ok (.iaload, 1) := by decide +kernel
theorem dX12_forgets_6 : decode cX12_forgets 6 = .ok (.iconst 1, 1) := by decide +kernel
theorem dX12_forgets_7 : decode cX12_forgets 7 = .ok (.isub, 1) := by decide +kernel
theorem dX12_forgets_8 : decode cX12_forgets 8 = .ok (.istore_n 3, 1) := by decide +kernel
theorem dX12_forgets_9 : decode cX12_forgets 9 = .ok (.iload_n 3, 1) := by decide +kernel
theorem dX12_forgets_10 : decode cX12_forgets 10 = .ok (.ifCond .lt 75, 3) := by decide +kernel
theorem dX12_forgets_13 : decode cX12_forgets 13 = .ok (.aload_n 0, 1) := by decide +kernel
theorem dX12_forgets_14 : decode cX12_forgets 14 = .ok (.getfield 60, 3) := by decide +kernel
theorem dX12_forgets_17 : decode cX12_forgets 17 = .ok (.iload_n 3, 1) := by decide +kernel
theorem dX12_forgets_18 : decode cX12_forgets 18 = .ok (.iaload, 1) := by decide +kernel
theorem dX12_forgets_19 : decode cX12_forgets 19 = .ok (.istore 4, 2) := by decide +kernel
theorem dX12_forgets_21 : decode cX12_forgets 21 = .ok (.iload 4, 2) := by decide +kernel
theorem dX12_forgets_23 : decode cX12_forgets 23 = .ok (.sipush 300, 3) := by decide +kernel
theorem dX12_forgets_26 : decode cX12_forgets 26 = .ok (.if_icmp .lt 7, 3) := by decide +kernel
theorem dX12_forgets_29 : decode cX12_forgets 29 = .ok (.iconst 1, 1) := by decide +kernel
theorem dX12_forgets_30 : decode cX12_forgets 30 = .ok (.goto 4, 3) := by decide +kernel
theorem dX12_forgets_33 : decode cX12_forgets 33 = .ok (.iconst 0, 1) := by decide +kernel
theorem dX12_forgets_34 : decode cX12_forgets 34 = .ok (.istore 5, 2) := by decide +kernel
theorem dX12_forgets_36 : decode cX12_forgets 36 = .ok (.iload 5, 2) := by decide +kernel
theorem dX12_forgets_38 : decode cX12_forgets 38 = .ok (.ifCond .eq 22, 3) := by decide +kernel
theorem dX12_forgets_41 : decode cX12_forgets 41 = .ok (.aload_n 0, 1) := by decide +kernel
theorem dX12_forgets_42 : decode cX12_forgets 42 = .ok (.getfield 44, 3) := by decide +kernel
theorem dX12_forgets_45 : decode cX12_forgets 45 = .ok (.iload 4, 2) := by decide +kernel
theorem dX12_forgets_47 : decode cX12_forgets 47 = .ok (.bipush 100, 2) := by decide +kernel
theorem dX12_forgets_49 : decode cX12_forgets 49 = .ok (.idiv, 1) := by decide +kernel
theorem dX12_forgets_50 : decode cX12_forgets 50 = .ok (.iconst 3, 1) := by decide +kernel
theorem dX12_forgets_51 : decode cX12_forgets 51 = .ok (.isub, 1) := by decide +kernel
theorem dX12_forgets_52 : decode cX12_forgets 52 = .ok (.iaload, 1) := by decide +kernel
theorem dX12_forgets_53 : decode cX12_forgets 53 = .ok (.iload_n 1, 1) := by decide +kernel
theorem dX12_forgets_54 : decode cX12_forgets 54 = .ok (.if_icmp .ne 25, 3) := by decide +kernel
theorem dX12_forgets_57 : decode cX12_forgets 57 = .ok (.goto 16, 3) := by decide +kernel
theorem dX12_forgets_60 : decode cX12_forgets 60 = .ok (.iload 4, 2) := by decide +kernel
theorem dX12_forgets_62 : decode cX12_forgets 62 = .ok (.bipush 100, 2) := by decide +kernel
theorem dX12_forgets_64 : decode cX12_forgets 64 = .ok (.iload_n 1, 1) := by decide +kernel
theorem dX12_forgets_65 : decode cX12_forgets 65 = .ok (.imul, 1) := by decide +kernel
theorem dX12_forgets_66 : decode cX12_forgets 66 = .ok (.iload_n 2, 1) := by decide +kernel
theorem dX12_forgets_67 : decode cX12_forgets 67 = .ok (.iconst 4, 1) := by decide +kernel
theorem dX12_forgets_68 : decode cX12_forgets 68 = .ok (.idiv, 1) := by decide +kernel
theorem dX12_forgets_69 : decode cX12_forgets 69 = .ok (.iadd, 1) := by decide +kernel
theorem dX12_forgets_70 : decode cX12_forgets 70 = .ok (.if_icmp .ne 9, 3) := by decide +kernel
theorem dX12_forgets_73 : decode cX12_forgets 73 = .ok (.aload_n 0, 1) := by decide +kernel
theorem dX12_forgets_74 : decode cX12_forgets 74 = .ok (.iconst 0, 1) := by decide +kernel
theorem dX12_forgets_75 : decode cX12_forgets 75 = .ok (.iload_n 3, 1) := by decide +kernel
theorem dX12_forgets_76 : decode cX12_forgets 76 = .ok (.invokevirtual 207, 3) := by decide +kernel
theorem dX12_forgets_79 : decode cX12_forgets 79 = .ok (.iinc 3 (-1), 3) := by decide +kernel
theorem dX12_forgets_82 : decode cX12_forgets 82 = .ok (.goto (-73), 3) := by decide +kernel
theorem dX12_forgets_85 : decode cX12_forgets 85 = .ok (.return_, 1) := by decide +kernel
theorem dX12_frames_0 : decode cX12_frames 0 = .ok (.aload_n 0, 1) := by decide +kernel
theorem dX12_frames_1 : decode cX12_frames 1 = .ok (.iconst 0, 1) := by decide +kernel
theorem dX12_frames_2 : decode cX12_frames 2 = .ok (.putfield 141, 3) := by decide +kernel
theorem dX12_frames_5 : decode cX12_frames 5 = .ok (.aload_n 0, 1) := by decide +kernel
theorem dX12_frames_6 : decode cX12_frames 6 = .ok (.iload_n 1, 1) := by decide +kernel
theorem dX12_frames_7 : decode cX12_frames 7 = .ok (.iconst 0, 1) := by decide +kernel
theorem dX12_frames_8 : decode cX12_frames 8 = .ok (.bipush 12, 2) := by decide +kernel
theorem dX12_frames_10 : decode cX12_frames 10 = .ok (.invokestatic 147, 3) := by decide +kernel
theorem dX12_frames_13 : decode cX12_frames 13 = .ok (.ifCond .ne 7, 3) := by decide +kernel
theorem dX12_frames_16 : decode cX12_frames 16 = .ok (.iconst 1, 1) := by decide +kernel
theorem dX12_frames_17 : decode cX12_frames 17 = .ok (.goto 4, 3) := by decide +kernel
theorem dX12_frames_20 : decode cX12_frames 20 = .ok (.iconst 0, 1) := by decide +kernel
theorem dX12_frames_21 : decode cX12_frames 21 = .ok (.iconst 1, 1) := by decide +kernel
theorem dX12_frames_22 : decode cX12_frames 22 = .ok (.invokevirtual 162, 3) := by decide +kernel
theorem dX12_frames_25 : decode cX12_frames 25 = .ok (.ifCond .eq 5, 3) := by decide +kernel
theorem dX12_frames_28 : decode cX12_frames 28 = .ok (.iconst (-1), 1) := by decide +kernel
theorem dX12_frames_29 : decode cX12_frames 29 = .ok (.ireturn, 1) := by decide +kernel
theorem dX12_frames_30 : decode cX12_frames 30 = .ok (.aload_n 0, 1) := by decide +kernel
theorem dX12_frames_31 : decode cX12_frames 31 = .ok (.iconst 0, 1) := by decide +kernel
theorem dX12_frames_32 : decode cX12_frames 32 = .ok (.putfield 166, 3) := by decide +kernel
theorem dX12_frames_35 : decode cX12_frames 35 = .ok (.aload_n 0, 1) := by decide +kernel
theorem dX12_frames_36 : decode cX12_frames 36 = .ok (.getfield 56, 3) := by decide +kernel
theorem dX12_frames_39 : decode cX12_frames 39 = .ok (.istore_n 2, 1) := by decide +kernel
theorem dX12_frames_40 : decode cX12_frames 40 = .ok (.aload_n 0, 1) := by decide +kernel
theorem dX12_frames_41 : decode cX12_frames 41 = .ok (.iload_n 1, 1) := by decide +kernel
theorem dX12_frames_42 : decode cX12_frames 42 = .ok (.putfield 56, 3) := by decide +kernel
theorem dX12_frames_45 : decode cX12_frames 45 = .ok (.aload_n 0, 1) := by decide +kernel
theorem dX12_frames_46 : decode cX12_frames 46 = .ok (.getfield 63, 3) := by decide +kernel
theorem dX12_frames_49 : decode cX12_frames 49 = .ok (.iconst 0, 1) := by decide +kernel
theorem dX12_frames_50 : decode cX12_frames 50 = .ok (.aload_n 0, 1) := by decide +kernel
theorem dX12_frames_51 : decode cX12_frames 51 = .ok (.getfield 63, 3) := by decide +kernel
theorem dX12_frames_54 : decode cX12_frames 54 = .ok (.iconst 0, 1) := by decide +kernel
theorem dX12_frames_55 : decode cX12_frames 55 = .ok (.iaload, 1) := by decide +kernel
theorem dX12_frames_56 : decode cX12_frames 56 = .ok (.aload_n 0, 1) := by decide +kernel
theorem dX12_frames_57 : decode cX12_frames 57 = .ok (.getfield 56, 3) := by decide +kernel
theorem dX12_frames_60 : decode cX12_frames 60 = .ok (.invokestatic 210, 3) := by decide +kernel
theorem dX12_frames_63 : decode cX12_frames 63 = .ok (.iastore, 1) := by decide +kernel
theorem dX12_frames_64 : decode cX12_frames 64 = .ok (.iload_n 2, 1) := by decide +kernel
theorem dX12_frames_65 : decode cX12_frames 65 = .ok (.ireturn, 1) := by decide +kernel
theorem dX12_cached_0 : decode cX12_cached 0 = .ok (.aload_n 0, 1) := by decide +kernel
theorem dX12_cached_1 : decode cX12_cached 1 = .ok (.iconst 0, 1) := by decide +kernel
theorem dX12_cached_2 : decode cX12_cached 2 = .ok (.putfield 141, 3) := by decide +kernel
theorem dX12_cached_5 : decode cX12_cached 5 = .ok (.aload_n 0, 1) := by decide +kernel
theorem dX12_cached_6 : decode cX12_cached 6 = .ok (.getfield 63, 3) := by decide +kernel
theorem dX12_cached_9 : decode cX12_cached 9 = .ok (.iconst 0, 1) := by decide +kernel
theorem dX12_cached_10 : decode cX12_cached 10 = .ok (.iaload, 1) := by decide +kernel
theorem dX12_cached_11 : decode cX12_cached 11 = .ok (.ireturn, 1) := by decide +kernel
theorem dX12_cachedAt_0 : decode cX12_cachedAt 0 = .ok (.aload_n 0, 1) := by decide +kernel
theorem dX12_cachedAt_1 : decode cX12_cachedAt 1 = .ok (.iconst 0, 1) := by decide +kernel
theorem dX12_cachedAt_2 : decode cX12_cachedAt 2 = .ok (.putfield 141, 3) := by decide +kernel
theorem dX12_cachedAt_5 : decode cX12_cachedAt 5 = .ok (.aload_n 0, 1) := by decide +kernel
theorem dX12_cachedAt_6 : decode cX12_cachedAt 6 = .ok (.iload_n 1, 1) := by decide +kernel
theorem dX12_cachedAt_7 : decode cX12_cachedAt 7 = .ok (.iconst 0, 1) := by decide +kernel
theorem dX12_cachedAt_8 : decode cX12_cachedAt 8 = .ok (.aload_n 0, 1) := by decide +kernel
theorem dX12_cachedAt_9 : decode cX12_cachedAt 9 = .ok (.getfield 63, 3) := by decide +kernel
theorem dX12_cachedAt_12 : decode cX12_cachedAt 12 = .ok (.iconst 0, 1) := by decide +kernel
theorem dX12_cachedAt_13 : decode cX12_cachedAt 13 = .ok (.iaload, 1) := by decide +kernel
theorem dX12_cachedAt_14 : decode cX12_cachedAt 14 = .ok (.iconst 1, 1) := by decide +kernel
theorem dX12_cachedAt_15 : decode cX12_cachedAt 15 = .ok (.isub, 1) := by decide +kernel
theorem dX12_cachedAt_16 : decode cX12_cachedAt 16 = .ok (.invokestatic 147, 3) := by decide +kernel
theorem dX12_cachedAt_19 : decode cX12_cachedAt 19 = .ok (.ifCond .ne 7, 3) := by decide +kernel
theorem dX12_cachedAt_22 : decode cX12_cachedAt 22 = .ok (.iconst 1, 1) := by decide +kernel
theorem dX12_cachedAt_23 : decode cX12_cachedAt 23 = .ok (.goto 4, 3) := by decide +kernel
theorem dX12_cachedAt_26 : decode cX12_cachedAt 26 = .ok (.iconst 0, 1) := by decide +kernel
theorem dX12_cachedAt_27 : decode cX12_cachedAt 27 = .ok (.iconst 1, 1) := by decide +kernel
theorem dX12_cachedAt_28 : decode cX12_cachedAt 28 = .ok (.invokevirtual 162, 3) := by decide +kernel
theorem dX12_cachedAt_31 : decode cX12_cachedAt 31 = .ok (.ifCond .eq 7, 3) := by decide +kernel
theorem dX12_cachedAt_34 : decode cX12_cachedAt 34 = .ok (.iconst (-1), 1) := by decide +kernel
theorem dX12_cachedAt_35 : decode cX12_cachedAt 35 = .ok (.goto 9, 3) := by decide +kernel
theorem dX12_cachedAt_38 : decode cX12_cachedAt 38 = .ok (.aload_n 0, 1) := by decide +kernel
theorem dX12_cachedAt_39 : decode cX12_cachedAt 39 = .ok (.getfield 60, 3) := by decide +kernel
theorem dX12_cachedAt_42 : decode cX12_cachedAt 42 = .ok (.iload_n 1, 1) := by decide +kernel
theorem dX12_cachedAt_43 : decode cX12_cachedAt 43 = .ok (.iaload, 1) := by decide +kernel
theorem dX12_cachedAt_44 : decode cX12_cachedAt 44 = .ok (.ireturn, 1) := by decide +kernel
theorem dX12_flush_0 : decode cX12_flush 0 = .ok (.aload_n 0, 1) := by decide +kernel
theorem dX12_flush_1 : decode cX12_flush 1 = .ok (.iconst 0, 1) := by decide +kernel
theorem dX12_flush_2 : decode cX12_flush 2 = .ok (.putfield 141, 3) := by decide +kernel
theorem dX12_flush_5 : decode cX12_flush 5 = .ok (.aload_n 0, 1) := by decide +kernel
theorem dX12_flush_6 : decode cX12_flush 6 = .ok (.iconst 0, 1) := by decide +kernel
theorem dX12_flush_7 : decode cX12_flush 7 = .ok (.putfield 166, 3) := by decide +kernel
theorem dX12_flush_10 : decode cX12_flush 10 = .ok (.aload_n 0, 1) := by decide +kernel
theorem dX12_flush_11 : decode cX12_flush 11 = .ok (.getfield 63, 3) := by decide +kernel
theorem dX12_flush_14 : decode cX12_flush 14 = .ok (.iconst 0, 1) := by decide +kernel
theorem dX12_flush_15 : decode cX12_flush 15 = .ok (.iaload, 1) := by decide +kernel
theorem dX12_flush_16 : decode cX12_flush 16 = .ok (.istore_n 1, 1) := by decide +kernel
theorem dX12_flush_17 : decode cX12_flush 17 = .ok (.aload_n 0, 1) := by decide +kernel
theorem dX12_flush_18 : decode cX12_flush 18 = .ok (.getfield 63, 3) := by decide +kernel
theorem dX12_flush_21 : decode cX12_flush 21 = .ok (.iconst 0, 1) := by decide +kernel
theorem dX12_flush_22 : decode cX12_flush 22 = .ok (.iconst 0, 1) := by decide +kernel
theorem dX12_flush_23 : decode cX12_flush 23 = .ok (.iastore, 1) := by decide +kernel
theorem dX12_flush_24 : decode cX12_flush 24 = .ok (.iload_n 1, 1) := by decide +kernel
theorem dX12_flush_25 : decode cX12_flush 25 = .ok (.ireturn, 1) := by decide +kernel
theorem dX12_isQuery_0 : decode cX12_isQuery 0 = .ok (.iload_n 1, 1) := by decide +kernel
theorem dX12_isQuery_1 : decode cX12_isQuery 1 = .ok (.iconst 0, 1) := by decide +kernel
theorem dX12_isQuery_2 : decode cX12_isQuery 2 = .ok (.aload_n 0, 1) := by decide +kernel
theorem dX12_isQuery_3 : decode cX12_isQuery 3 = .ok (.getfield 214, 3) := by decide +kernel
theorem dX12_isQuery_6 : decode cX12_isQuery 6 = .ok (.iconst 1, 1) := by decide +kernel
theorem dX12_isQuery_7 : decode cX12_isQuery 7 = .ok (.isub, 1) := by decide +kernel
theorem dX12_isQuery_8 : decode cX12_isQuery 8 = .ok (.invokestatic 147, 3) := by decide +kernel
theorem dX12_isQuery_11 : decode cX12_isQuery 11 = .ok (.ireturn, 1) := by decide +kernel
theorem dX12_isPlace_0 : decode cX12_isPlace 0 = .ok (.iload_n 2, 1) := by decide +kernel
theorem dX12_isPlace_1 : decode cX12_isPlace 1 = .ok (.iconst 0, 1) := by decide +kernel
theorem dX12_isPlace_2 : decode cX12_isPlace 2 = .ok (.aload_n 0, 1) := by decide +kernel
theorem dX12_isPlace_3 : decode cX12_isPlace 3 = .ok (.getfield 66, 3) := by decide +kernel
theorem dX12_isPlace_6 : decode cX12_isPlace 6 = .ok (.iload_n 1, 1) := by decide +kernel
theorem dX12_isPlace_7 : decode cX12_isPlace 7 = .ok (.iaload, 1) := by decide +kernel
theorem dX12_isPlace_8 : decode cX12_isPlace 8 = .ok (.iconst 1, 1) := by decide +kernel
theorem dX12_isPlace_9 : decode cX12_isPlace 9 = .ok (.isub, 1) := by decide +kernel
theorem dX12_isPlace_10 : decode cX12_isPlace 10 = .ok (.invokestatic 147, 3) := by decide +kernel
theorem dX12_isPlace_13 : decode cX12_isPlace 13 = .ok (.ifCond .eq 25, 3) := by decide +kernel
theorem dX12_isPlace_16 : decode cX12_isPlace 16 = .ok (.aload_n 0, 1) := by decide +kernel
theorem dX12_isPlace_17 : decode cX12_isPlace 17 = .ok (.aload_n 0, 1) := by decide +kernel
theorem dX12_isPlace_18 : decode cX12_isPlace 18 = .ok (.getfield 69, 3) := by decide +kernel
theorem dX12_isPlace_21 : decode cX12_isPlace 21 = .ok (.iconst 3, 1) := by decide +kernel
theorem dX12_isPlace_22 : decode cX12_isPlace 22 = .ok (.iload_n 1, 1) := by decide +kernel
theorem dX12_isPlace_23 : decode cX12_isPlace 23 = .ok (.imul, 1) := by decide +kernel
theorem dX12_isPlace_24 : decode cX12_isPlace 24 = .ok (.iload_n 2, 1) := by decide +kernel
theorem dX12_isPlace_25 : decode cX12_isPlace 25 = .ok (.iadd, 1) := by decide +kernel
theorem dX12_isPlace_26 : decode cX12_isPlace 26 = .ok (.iaload, 1) := by decide +kernel
theorem dX12_isPlace_27 : decode cX12_isPlace 27 = .ok (.iload_n 3, 1) := by decide +kernel
theorem dX12_isPlace_28 : decode cX12_isPlace 28 = .ok (.invokevirtual 170, 3) := by decide +kernel
theorem dX12_isPlace_31 : decode cX12_isPlace 31 = .ok (.ifCond .eq 7, 3) := by decide +kernel
theorem dX12_isPlace_34 : decode cX12_isPlace 34 = .ok (.iconst 1, 1) := by decide +kernel
theorem dX12_isPlace_35 : decode cX12_isPlace 35 = .ok (.goto 4, 3) := by decide +kernel
theorem dX12_isPlace_38 : decode cX12_isPlace 38 = .ok (.iconst 0, 1) := by decide +kernel
theorem dX12_isPlace_39 : decode cX12_isPlace 39 = .ok (.ireturn, 1) := by decide +kernel
theorem dX12_query_0 : decode cX12_query 0 = .ok (.aload_n 0, 1) := by decide +kernel
theorem dX12_query_1 : decode cX12_query 1 = .ok (.iconst 0, 1) := by decide +kernel
theorem dX12_query_2 : decode cX12_query 2 = .ok (.putfield 141, 3) := by decide +kernel
theorem dX12_query_5 : decode cX12_query 5 = .ok (.aload_n 0, 1) := by decide +kernel
theorem dX12_query_6 : decode cX12_query 6 = .ok (.aload_n 0, 1) := by decide +kernel
theorem dX12_query_7 : decode cX12_query 7 = .ok (.getfield 214, 3) := by decide +kernel
theorem dX12_query_10 : decode cX12_query 10 = .ok (.bipush 8, 2) := by decide +kernel
theorem dX12_query_12 : decode cX12_query 12 = .ok (.if_icmp .ne 7, 3) := by decide +kernel
theorem dX12_query_15 : decode cX12_query 15 = .ok (.iconst 1, 1) := by decide +kernel
theorem dX12_query_16 : decode cX12_query 16 = .ok (.goto 4, 3) := by decide +kernel
theorem dX12_query_19 : decode cX12_query 19 = .ok (.iconst 0, 1) := by decide +kernel
theorem dX12_query_20 : decode cX12_query 20 = .ok (.iconst 1, 1) := by decide +kernel
theorem dX12_query_21 : decode cX12_query 21 = .ok (.invokevirtual 162, 3) := by decide +kernel
theorem dX12_query_24 : decode cX12_query 24 = .ok (.ifCond .eq 5, 3) := by decide +kernel
theorem dX12_query_27 : decode cX12_query 27 = .ok (.iconst (-1), 1) := by decide +kernel
theorem dX12_query_28 : decode cX12_query 28 = .ok (.ireturn, 1) := by decide +kernel
theorem dX12_query_29 : decode cX12_query 29 = .ok (.aload_n 0, 1) := by decide +kernel
theorem dX12_query_30 : decode cX12_query 30 = .ok (.iconst 0, 1) := by decide +kernel
theorem dX12_query_31 : decode cX12_query 31 = .ok (.putfield 166, 3) := by decide +kernel
theorem dX12_query_34 : decode cX12_query 34 = .ok (.aload_n 0, 1) := by decide +kernel
theorem dX12_query_35 : decode cX12_query 35 = .ok (.dup, 1) := by decide +kernel
theorem dX12_query_36 : decode cX12_query 36 = .ok (.getfield 214, 3) := by decide +kernel
theorem dX12_query_39 : decode cX12_query 39 = .ok (.iconst 1, 1) := by decide +kernel
theorem dX12_query_40 : decode cX12_query 40 = .ok (.iadd, 1) := by decide +kernel
theorem dX12_query_41 : decode cX12_query 41 = .ok (.putfield 214, 3) := by decide +kernel
theorem dX12_query_44 : decode cX12_query 44 = .ok (.aload_n 0, 1) := by decide +kernel
theorem dX12_query_45 : decode cX12_query 45 = .ok (.getfield 214, 3) := by decide +kernel
theorem dX12_query_48 : decode cX12_query 48 = .ok (.iconst 1, 1) := by decide +kernel
theorem dX12_query_49 : decode cX12_query 49 = .ok (.isub, 1) := by decide +kernel
theorem dX12_query_50 : decode cX12_query 50 = .ok (.ireturn, 1) := by decide +kernel
theorem dX12_from_0 : decode cX12_from 0 = .ok (.aload_n 0, 1) := by decide +kernel
theorem dX12_from_1 : decode cX12_from 1 = .ok (.iconst 0, 1) := by decide +kernel
theorem dX12_from_2 : decode cX12_from 2 = .ok (.putfield 141, 3) := by decide +kernel
theorem dX12_from_5 : decode cX12_from 5 = .ok (.aload_n 0, 1) := by decide +kernel
theorem dX12_from_6 : decode cX12_from 6 = .ok (.aload_n 0, 1) := by decide +kernel
theorem dX12_from_7 : decode cX12_from 7 = .ok (.iload_n 1, 1) := by decide +kernel
theorem dX12_from_8 : decode cX12_from 8 = .ok (.invokevirtual 217, 3) := by decide +kernel
theorem dX12_from_11 : decode cX12_from 11 = .ok (.ifCond .eq 11, 3) := by decide +kernel
theorem dX12_from_14 : decode cX12_from 14 = .ok (.aload_n 0, 1) := by decide +kernel
theorem dX12_from_15 : decode cX12_from 15 = .ok (.iload_n 2, 1) := by decide +kernel
theorem dX12_from_16 : decode cX12_from 16 = .ok (.invokevirtual 151, 3) := by decide +kernel
theorem dX12_from_19 : decode cX12_from 19 = .ok (.ifCond .ne 7, 3) := by decide +kernel
theorem dX12_from_22 : decode cX12_from 22 = .ok (.iconst 1, 1) := by decide +kernel
theorem dX12_from_23 : decode cX12_from 23 = .ok (.goto 4, 3) := by decide +kernel
theorem dX12_from_26 : decode cX12_from 26 = .ok (.iconst 0, 1) := by decide +kernel
theorem dX12_from_27 : decode cX12_from 27 = .ok (.iconst 1, 1) := by decide +kernel
theorem dX12_from_28 : decode cX12_from 28 = .ok (.invokevirtual 162, 3) := by decide +kernel
theorem dX12_from_31 : decode cX12_from 31 = .ok (.ifCond .ne 26, 3) := by decide +kernel
theorem dX12_from_34 : decode cX12_from 34 = .ok (.aload_n 0, 1) := by decide +kernel
theorem dX12_from_35 : decode cX12_from 35 = .ok (.aload_n 0, 1) := by decide +kernel
theorem dX12_from_36 : decode cX12_from 36 = .ok (.getfield 66, 3) := by decide +kernel
theorem dX12_from_39 : decode cX12_from 39 = .ok (.iload_n 1, 1) := by decide +kernel
theorem dX12_from_40 : decode cX12_from 40 = .ok (.iaload, 1) := by decide +kernel
theorem dX12_from_41 : decode cX12_from 41 = .ok (.iconst 3, 1) := by decide +kernel
theorem dX12_from_42 : decode cX12_from 42 = .ok (.if_icmp .ne 7, 3) := by decide +kernel
theorem dX12_from_45 : decode cX12_from 45 = .ok (.iconst 1, 1) := by decide +kernel
theorem dX12_from_46 : decode cX12_from 46 = .ok (.goto 4, 3) := by decide +kernel
theorem dX12_from_49 : decode cX12_from 49 = .ok (.iconst 0, 1) := by decide +kernel
theorem dX12_from_50 : decode cX12_from 50 = .ok (.iconst 2, 1) := by decide +kernel
theorem dX12_from_51 : decode cX12_from 51 = .ok (.invokevirtual 162, 3) := by decide +kernel
theorem dX12_from_54 : decode cX12_from 54 = .ok (.ifCond .eq 5, 3) := by decide +kernel
theorem dX12_from_57 : decode cX12_from 57 = .ok (.iconst (-1), 1) := by decide +kernel
theorem dX12_from_58 : decode cX12_from 58 = .ok (.ireturn, 1) := by decide +kernel
theorem dX12_from_59 : decode cX12_from 59 = .ok (.aload_n 0, 1) := by decide +kernel
theorem dX12_from_60 : decode cX12_from 60 = .ok (.iconst 0, 1) := by decide +kernel
theorem dX12_from_61 : decode cX12_from 61 = .ok (.putfield 166, 3) := by decide +kernel
theorem dX12_from_64 : decode cX12_from 64 = .ok (.aload_n 0, 1) := by decide +kernel
theorem dX12_from_65 : decode cX12_from 65 = .ok (.getfield 69, 3) := by decide +kernel
theorem dX12_from_68 : decode cX12_from 68 = .ok (.iconst 3, 1) := by decide +kernel
theorem dX12_from_69 : decode cX12_from 69 = .ok (.iload_n 1, 1) := by decide +kernel
theorem dX12_from_70 : decode cX12_from 70 = .ok (.imul, 1) := by decide +kernel
theorem dX12_from_71 : decode cX12_from 71 = .ok (.aload_n 0, 1) := by decide +kernel
theorem dX12_from_72 : decode cX12_from 72 = .ok (.getfield 66, 3) := by decide +kernel
theorem dX12_from_75 : decode cX12_from 75 = .ok (.iload_n 1, 1) := by decide +kernel
theorem dX12_from_76 : decode cX12_from 76 = .ok (.iaload, 1) := by decide +kernel
theorem dX12_from_77 : decode cX12_from 77 = .ok (.iadd, 1) := by decide +kernel
theorem dX12_from_78 : decode cX12_from 78 = .ok (.iload_n 2, 1) := by decide +kernel
theorem dX12_from_79 : decode cX12_from 79 = .ok (.iastore, 1) := by decide +kernel
theorem dX12_from_80 : decode cX12_from 80 = .ok (.aload_n 0, 1) := by decide +kernel
theorem dX12_from_81 : decode cX12_from 81 = .ok (.getfield 66, 3) := by decide +kernel
theorem dX12_from_84 : decode cX12_from 84 = .ok (.iload_n 1, 1) := by decide +kernel
theorem dX12_from_85 : decode cX12_from 85 = .ok (.dup2, 1) := by decide +kernel
theorem dX12_from_86 : decode cX12_from 86 = .ok (.iaload, 1) := by decide +kernel
theorem dX12_from_87 : decode cX12_from 87 = .ok (.iconst 1, 1) := by decide +kernel
theorem dX12_from_88 : decode cX12_from 88 = .ok (.iadd, 1) := by decide +kernel
theorem dX12_from_89 : decode cX12_from 89 = .ok (.iastore, 1) := by decide +kernel
theorem dX12_from_90 : decode cX12_from 90 = .ok (.aload_n 0, 1) := by decide +kernel
theorem dX12_from_91 : decode cX12_from 91 = .ok (.getfield 66, 3) := by decide +kernel
theorem dX12_from_94 : decode cX12_from 94 = .ok (.iload_n 1, 1) := by decide +kernel
theorem dX12_from_95 : decode cX12_from 95 = .ok (.iaload, 1) := by decide +kernel
theorem dX12_from_96 : decode cX12_from 96 = .ok (.ireturn, 1) := by decide +kernel
theorem dX12_where_0 : decode cX12_where 0 = .ok (.aload_n 0, 1) := by decide +kernel
theorem dX12_where_1 : decode cX12_where 1 = .ok (.iconst 0, 1) := by decide +kernel
theorem dX12_where_2 : decode cX12_where 2 = .ok (.putfield 141, 3) := by decide +kernel
theorem dX12_where_5 : decode cX12_where 5 = .ok (.iload 4, 2) := by decide +kernel
theorem dX12_where_7 : decode cX12_where 7 = .ok (.bipush 61, 2) := by decide +kernel
theorem dX12_where_9 : decode cX12_where 9 = .ok (.if_icmp .eq 17, 3) := by decide +kernel
theorem dX12_where_12 : decode cX12_where 12 = .ok (.iload 4, 2) := by decide +kernel
theorem dX12_where_14 : decode cX12_where 14 = .ok (.bipush 60, 2) := by decide +kernel
theorem dX12_where_16 : decode cX12_where 16 = .ok (.if_icmp .eq 10, 3) := by decide +kernel
theorem dX12_where_19 : decode cX12_where 19 = .ok (.iload 4, 2) := by decide +kernel
theorem dX12_where_21 : decode cX12_where 21 = .ok (.bipush 62, 2) := by decide +kernel
theorem dX12_where_23 : decode cX12_where 23 = .ok (.if_icmp .ne 7, 3) := by decide +kernel
theorem dX12_where_26 : decode cX12_where 26 = .ok (.iconst 1, 1) := by decide +kernel
theorem dX12_where_27 : decode cX12_where 27 = .ok (.goto 4, 3) := by decide +kernel
theorem dX12_where_30 : decode cX12_where 30 = .ok (.iconst 0, 1) := by decide +kernel
theorem dX12_where_31 : decode cX12_where 31 = .ok (.istore 6, 2) := by decide +kernel
theorem dX12_where_33 : decode cX12_where 33 = .ok (.aload_n 0, 1) := by decide +kernel
theorem dX12_where_34 : decode cX12_where 34 = .ok (.aload_n 0, 1) := by decide +kernel
theorem dX12_where_35 : decode cX12_where 35 = .ok (.iload_n 1, 1) := by decide +kernel
theorem dX12_where_36 : decode cX12_where 36 = .ok (.invokevirtual 217, 3) := by decide +kernel
theorem dX12_where_39 : decode cX12_where 39 = .ok (.ifCond .ne 7, 3) := by decide +kernel
theorem dX12_where_42 : decode cX12_where 42 = .ok (.iconst 1, 1) := by decide +kernel
theorem dX12_where_43 : decode cX12_where 43 = .ok (.goto 4, 3) := by decide +kernel
theorem dX12_where_46 : decode cX12_where 46 = .ok (.iconst 0, 1) := by decide +kernel
theorem dX12_where_47 : decode cX12_where 47 = .ok (.iconst 1, 1) := by decide +kernel
theorem dX12_where_48 : decode cX12_where 48 = .ok (.invokevirtual 162, 3) := by decide +kernel
theorem dX12_where_51 : decode cX12_where 51 = .ok (.ifCond .ne 65, 3) := by decide +kernel
theorem dX12_where_54 : decode cX12_where 54 = .ok (.aload_n 0, 1) := by decide +kernel
theorem dX12_where_55 : decode cX12_where 55 = .ok (.aload_n 0, 1) := by decide +kernel
theorem dX12_where_56 : decode cX12_where 56 = .ok (.iload_n 1, 1) := by decide +kernel
theorem dX12_where_57 : decode cX12_where 57 = .ok (.iload_n 2, 1) := by decide +kernel
theorem dX12_where_58 : decode cX12_where 58 = .ok (.iload_n 3, 1) := by decide +kernel
theorem dX12_where_59 : decode cX12_where 59 = .ok (.invokevirtual 220, 3) := by decide +kernel
theorem dX12_where_62 : decode cX12_where 62 = .ok (.ifCond .eq 19, 3) := by decide +kernel
theorem dX12_where_65 : decode cX12_where 65 = .ok (.iload 6, 2) := by decide +kernel
theorem dX12_where_67 : decode cX12_where 67 = .ok (.ifCond .eq 14, 3) := by decide +kernel
theorem dX12_where_70 : decode cX12_where 70 = .ok (.iload 5, 2) := by decide +kernel
theorem dX12_where_72 : decode cX12_where 72 = .ok (.iconst 0, 1) := by decide +kernel
theorem dX12_where_73 : decode cX12_where 73 = .ok (.bipush 99, 2) := by decide +kernel
theorem dX12_where_75 : decode cX12_where 75 = .ok (.invokestatic 147, 3) := by decide +kernel
theorem dX12_where_78 : decode cX12_where 78 = .ok (.ifCond .ne 7, 3) := by decide +kernel
theorem dX12_where_81 : decode cX12_where 81 = .ok (.iconst 1, 1) := by decide +kernel
theorem dX12_where_82 : decode cX12_where 82 = .ok (.goto 4, 3) := by decide +kernel
theorem dX12_where_85 : decode cX12_where 85 = .ok (.iconst 0, 1) := by decide +kernel
theorem dX12_where_86 : decode cX12_where 86 = .ok (.iconst 2, 1) := by decide +kernel
theorem dX12_where_87 : decode cX12_where 87 = .ok (.invokevirtual 162, 3) := by decide +kernel
theorem dX12_where_90 : decode cX12_where 90 = .ok (.ifCond .ne 26, 3) := by decide +kernel
theorem dX12_where_93 : decode cX12_where 93 = .ok (.aload_n 0, 1) := by decide +kernel
theorem dX12_where_94 : decode cX12_where 94 = .ok (.aload_n 0, 1) := by decide +kernel
theorem dX12_where_95 : decode cX12_where 95 = .ok (.getfield 72, 3) := by decide +kernel
theorem dX12_where_98 : decode cX12_where 98 = .ok (.iload_n 1, 1) := by decide +kernel
theorem dX12_where_99 : decode cX12_where 99 = .ok (.iaload, 1) := by decide +kernel
theorem dX12_where_100 : decode cX12_where 100 = .ok (.iconst 4, 1) := by decide +kernel
theorem dX12_where_101 : decode cX12_where 101 = .ok (.if_icmp .ne 7, 3) := by decide +kernel
theorem dX12_where_104 : decode cX12_where 104 = .ok (.iconst 1, 1) := by decide +kernel
theorem dX12_where_105 : decode cX12_where 105 = .ok (.goto 4, 3) := by decide +kernel
theorem dX12_where_108 : decode cX12_where 108 = .ok (.iconst 0, 1) := by decide +kernel
theorem dX12_where_109 : decode cX12_where 109 = .ok (.iconst 3, 1) := by decide +kernel
theorem dX12_where_110 : decode cX12_where 110 = .ok (.invokevirtual 162, 3) := by decide +kernel
theorem dX12_where_113 : decode cX12_where 113 = .ok (.ifCond .eq 5, 3) := by decide +kernel
theorem dX12_where_116 : decode cX12_where 116 = .ok (.iconst (-1), 1) := by decide +kernel
theorem dX12_where_117 : decode cX12_where 117 = .ok (.ireturn, 1) := by decide +kernel
theorem dX12_where_118 : decode cX12_where 118 = .ok (.aload_n 0, 1) := by decide +kernel
theorem dX12_where_119 : decode cX12_where 119 = .ok (.iconst 0, 1) := by decide +kernel
theorem dX12_where_120 : decode cX12_where 120 = .ok (.putfield 166, 3) := by decide +kernel
theorem dX12_where_123 : decode cX12_where 123 = .ok (.iconst 4, 1) := by decide +kernel
theorem dX12_where_124 : decode cX12_where 124 = .ok (.iload_n 1, 1) := by decide +kernel
theorem dX12_where_125 : decode cX12_where 125 = .ok (.imul, 1) := by decide +kernel
theorem dX12_where_126 : decode cX12_where 126 = .ok (.aload_n 0, 1) := by decide +kernel
theorem dX12_where_127 : decode cX12_where 127 = .ok (.getfield 72, 3) := by decide +kernel
theorem dX12_where_130 : decode cX12_where 130 = .ok (.iload_n 1, 1) := by decide +kernel
theorem dX12_where_131 : decode cX12_where 131 = .ok (.iaload, 1) := by decide +kernel
theorem dX12_where_132 : decode cX12_where 132 = .ok (.iadd, 1) := by decide +kernel
theorem dX12_where_133 : decode cX12_where 133 = .ok (.istore 7, 2) := by decide +kernel
theorem dX12_where_135 : decode cX12_where 135 = .ok (.aload_n 0, 1) := by decide +kernel
theorem dX12_where_136 : decode cX12_where 136 = .ok (.getfield 75, 3) := by decide +kernel
theorem dX12_where_139 : decode cX12_where 139 = .ok (.iload 7, 2) := by decide +kernel
theorem dX12_where_141 : decode cX12_where 141 = .ok (.iload_n 2, 1) := by decide +kernel
theorem dX12_where_142 : decode cX12_where 142 = .ok (.iastore, 1) := by decide +kernel
theorem dX12_where_143 : decode cX12_where 143 = .ok (.aload_n 0, 1) := by decide +kernel
theorem dX12_where_144 : decode cX12_where 144 = .ok (.getfield 78, 3) := by decide +kernel
theorem dX12_where_147 : decode cX12_where 147 = .ok (.iload 7, 2) := by decide +kernel
theorem dX12_where_149 : decode cX12_where 149 = .ok (.iload_n 3, 1) := by decide +kernel
theorem dX12_where_150 : decode cX12_where 150 = .ok (.iastore, 1) := by decide +kernel
theorem dX12_where_151 : decode cX12_where 151 = .ok (.aload_n 0, 1) := by decide +kernel
theorem dX12_where_152 : decode cX12_where 152 = .ok (.getfield 81, 3) := by decide +kernel
theorem dX12_where_155 : decode cX12_where 155 = .ok (.iload 7, 2) := by decide +kernel
theorem dX12_where_157 : decode cX12_where 157 = .ok (.iload 4, 2) := by decide +kernel
theorem dX12_where_159 : decode cX12_where 159 = .ok (.iastore, 1) := by decide +kernel
theorem dX12_where_160 : decode cX12_where 160 = .ok (.aload_n 0, 1) := by decide +kernel
theorem dX12_where_161 : decode cX12_where 161 = .ok (.getfield 84, 3) := by decide +kernel
theorem dX12_where_164 : decode cX12_where 164 = .ok (.iload 7, 2) := by decide +kernel
theorem dX12_where_166 : decode cX12_where 166 = .ok (.iload 5, 2) := by decide +kernel
theorem dX12_where_168 : decode cX12_where 168 = .ok (.iastore, 1) := by decide +kernel
theorem dX12_where_169 : decode cX12_where 169 = .ok (.aload_n 0, 1) := by decide +kernel
theorem dX12_where_170 : decode cX12_where 170 = .ok (.getfield 72, 3) := by decide +kernel
theorem dX12_where_173 : decode cX12_where 173 = .ok (.iload_n 1, 1) := by decide +kernel
theorem dX12_where_174 : decode cX12_where 174 = .ok (.dup2, 1) := by decide +kernel
theorem dX12_where_175 : decode cX12_where 175 = .ok (.iaload, 1) := by decide +kernel
theorem dX12_where_176 : decode cX12_where 176 = .ok (.iconst 1, 1) := by decide +kernel
theorem dX12_where_177 : decode cX12_where 177 = .ok (.iadd, 1) := by decide +kernel
theorem dX12_where_178 : decode cX12_where 178 = .ok (.iastore, 1) := by decide +kernel
theorem dX12_where_179 : decode cX12_where 179 = .ok (.aload_n 0, 1) := by decide +kernel
theorem dX12_where_180 : decode cX12_where 180 = .ok (.getfield 72, 3) := by decide +kernel
theorem dX12_where_183 : decode cX12_where 183 = .ok (.iload_n 1, 1) := by decide +kernel
theorem dX12_where_184 : decode cX12_where 184 = .ok (.iaload, 1) := by decide +kernel
theorem dX12_where_185 : decode cX12_where 185 = .ok (.ireturn, 1) := by decide +kernel
theorem dX12_join_0 : decode cX12_join 0 = .ok (.aload_n 0, 1) := by decide +kernel
theorem dX12_join_1 : decode cX12_join 1 = .ok (.iconst 0, 1) := by decide +kernel
theorem dX12_join_2 : decode cX12_join 2 = .ok (.putfield 141, 3) := by decide +kernel
theorem dX12_join_5 : decode cX12_join 5 = .ok (.aload_n 0, 1) := by decide +kernel
theorem dX12_join_6 : decode cX12_join 6 = .ok (.aload_n 0, 1) := by decide +kernel
theorem dX12_join_7 : decode cX12_join 7 = .ok (.iload_n 1, 1) := by decide +kernel
theorem dX12_join_8 : decode cX12_join 8 = .ok (.invokevirtual 217, 3) := by decide +kernel
theorem dX12_join_11 : decode cX12_join 11 = .ok (.ifCond .ne 7, 3) := by decide +kernel
theorem dX12_join_14 : decode cX12_join 14 = .ok (.iconst 1, 1) := by decide +kernel
theorem dX12_join_15 : decode cX12_join 15 = .ok (.goto 4, 3) := by decide +kernel
theorem dX12_join_18 : decode cX12_join 18 = .ok (.iconst 0, 1) := by decide +kernel
theorem dX12_join_19 : decode cX12_join 19 = .ok (.iconst 1, 1) := by decide +kernel
theorem dX12_join_20 : decode cX12_join 20 = .ok (.invokevirtual 162, 3) := by decide +kernel
theorem dX12_join_23 : decode cX12_join 23 = .ok (.ifCond .ne 67, 3) := by decide +kernel
theorem dX12_join_26 : decode cX12_join 26 = .ok (.aload_n 0, 1) := by decide +kernel
theorem dX12_join_27 : decode cX12_join 27 = .ok (.aload_n 0, 1) := by decide +kernel
theorem dX12_join_28 : decode cX12_join 28 = .ok (.iload_n 1, 1) := by decide +kernel
theorem dX12_join_29 : decode cX12_join 29 = .ok (.iload_n 2, 1) := by decide +kernel
theorem dX12_join_30 : decode cX12_join 30 = .ok (.iload_n 3, 1) := by decide +kernel
theorem dX12_join_31 : decode cX12_join 31 = .ok (.invokevirtual 220, 3) := by decide +kernel
theorem dX12_join_34 : decode cX12_join 34 = .ok (.ifCond .eq 21, 3) := by decide +kernel
theorem dX12_join_37 : decode cX12_join 37 = .ok (.aload_n 0, 1) := by decide +kernel
theorem dX12_join_38 : decode cX12_join 38 = .ok (.iload_n 1, 1) := by decide +kernel
theorem dX12_join_39 : decode cX12_join 39 = .ok (.iload 4, 2) := by decide +kernel
theorem dX12_join_41 : decode cX12_join 41 = .ok (.iload 5, 2) := by decide +kernel
theorem dX12_join_43 : decode cX12_join 43 = .ok (.invokevirtual 220, 3) := by decide +kernel
theorem dX12_join_46 : decode cX12_join 46 = .ok (.ifCond .eq 9, 3) := by decide +kernel
theorem dX12_join_49 : decode cX12_join 49 = .ok (.iload_n 2, 1) := by decide +kernel
theorem dX12_join_50 : decode cX12_join 50 = .ok (.iload 4, 2) := by decide +kernel
theorem dX12_join_52 : decode cX12_join 52 = .ok (.if_icmp .ne 7, 3) := by decide +kernel
theorem dX12_join_55 : decode cX12_join 55 = .ok (.iconst 1, 1) := by decide +kernel
theorem dX12_join_56 : decode cX12_join 56 = .ok (.goto 4, 3) := by decide +kernel
theorem dX12_join_59 : decode cX12_join 59 = .ok (.iconst 0, 1) := by decide +kernel
theorem dX12_join_60 : decode cX12_join 60 = .ok (.iconst 2, 1) := by decide +kernel
theorem dX12_join_61 : decode cX12_join 61 = .ok (.invokevirtual 162, 3) := by decide +kernel
theorem dX12_join_64 : decode cX12_join 64 = .ok (.ifCond .ne 26, 3) := by decide +kernel
theorem dX12_join_67 : decode cX12_join 67 = .ok (.aload_n 0, 1) := by decide +kernel
theorem dX12_join_68 : decode cX12_join 68 = .ok (.aload_n 0, 1) := by decide +kernel
theorem dX12_join_69 : decode cX12_join 69 = .ok (.getfield 87, 3) := by decide +kernel
theorem dX12_join_72 : decode cX12_join 72 = .ok (.iload_n 1, 1) := by decide +kernel
theorem dX12_join_73 : decode cX12_join 73 = .ok (.iaload, 1) := by decide +kernel
theorem dX12_join_74 : decode cX12_join 74 = .ok (.iconst 3, 1) := by decide +kernel
theorem dX12_join_75 : decode cX12_join 75 = .ok (.if_icmp .ne 7, 3) := by decide +kernel
theorem dX12_join_78 : decode cX12_join 78 = .ok (.iconst 1, 1) := by decide +kernel
theorem dX12_join_79 : decode cX12_join 79 = .ok (.goto 4, 3) := by decide +kernel
theorem dX12_join_82 : decode cX12_join 82 = .ok (.iconst 0, 1) := by decide +kernel
theorem dX12_join_83 : decode cX12_join 83 = .ok (.iconst 3, 1) := by decide +kernel
theorem dX12_join_84 : decode cX12_join 84 = .ok (.invokevirtual 162, 3) := by decide +kernel
theorem dX12_join_87 : decode cX12_join 87 = .ok (.ifCond .eq 5, 3) := by decide +kernel
theorem dX12_join_90 : decode cX12_join 90 = .ok (.iconst (-1), 1) := by decide +kernel
theorem dX12_join_91 : decode cX12_join 91 = .ok (.ireturn, 1) := by decide +kernel
theorem dX12_join_92 : decode cX12_join 92 = .ok (.aload_n 0, 1) := by decide +kernel
theorem dX12_join_93 : decode cX12_join 93 = .ok (.iconst 0, 1) := by decide +kernel
theorem dX12_join_94 : decode cX12_join 94 = .ok (.putfield 166, 3) := by decide +kernel
theorem dX12_join_97 : decode cX12_join 97 = .ok (.iconst 3, 1) := by decide +kernel
theorem dX12_join_98 : decode cX12_join 98 = .ok (.iload_n 1, 1) := by decide +kernel
theorem dX12_join_99 : decode cX12_join 99 = .ok (.imul, 1) := by decide +kernel
theorem dX12_join_100 : decode cX12_join 100 = .ok (.aload_n 0, 1) := by decide +kernel
theorem dX12_join_101 : decode cX12_join 101 = .ok (.getfield 87, 3) := by decide +kernel
theorem dX12_join_104 : decode cX12_join 104 = .ok (.iload_n 1, 1) := by decide +kernel
theorem dX12_join_105 : decode cX12_join 105 = .ok (.iaload, 1) := by decide +kernel
theorem dX12_join_106 : decode cX12_join 106 = .ok (.iadd, 1) := by decide +kernel
theorem dX12_join_107 : decode cX12_join 107 = .ok (.istore 6, 2) := by decide +kernel
theorem dX12_join_109 : decode cX12_join 109 = .ok (.aload_n 0, 1) := by decide +kernel
theorem dX12_join_110 : decode cX12_join 110 = .ok (.getfield 90, 3) := by decide +kernel
theorem dX12_join_113 : decode cX12_join 113 = .ok (.iload 6, 2) := by decide +kernel
theorem dX12_join_115 : decode cX12_join 115 = .ok (.iload_n 2, 1) := by decide +kernel
theorem dX12_join_116 : decode cX12_join 116 = .ok (.iastore, 1) := by decide +kernel
theorem dX12_join_117 : decode cX12_join 117 = .ok (.aload_n 0, 1) := by decide +kernel
theorem dX12_join_118 : decode cX12_join 118 = .ok (.getfield 93, 3) := by decide +kernel
theorem dX12_join_121 : decode cX12_join 121 = .ok (.iload 6, 2) := by decide +kernel
theorem dX12_join_123 : decode cX12_join 123 = .ok (.iload_n 3, 1) := by decide +kernel
theorem dX12_join_124 : decode cX12_join 124 = .ok (.iastore, 1) := by decide +kernel
theorem dX12_join_125 : decode cX12_join 125 = .ok (.aload_n 0, 1) := by decide +kernel
theorem dX12_join_126 : decode cX12_join 126 = .ok (.getfield 96, 3) := by decide +kernel
theorem dX12_join_129 : decode cX12_join 129 = .ok (.iload 6, 2) := by decide +kernel
theorem dX12_join_131 : decode cX12_join 131 = .ok (.iload 4, 2) := by decide +kernel
theorem dX12_join_133 : decode cX12_join 133 = .ok (.iastore, 1) := by decide +kernel
theorem dX12_join_134 : decode cX12_join 134 = .ok (.aload_n 0, 1) := by decide +kernel
theorem dX12_join_135 : decode cX12_join 135 = .ok (.getfield 99, 3) := by decide +kernel
theorem dX12_join_138 : decode cX12_join 138 = .ok (.iload 6, 2) := by decide +kernel
theorem dX12_join_140 : decode cX12_join 140 = .ok (.iload 5, 2) := by decide +kernel
theorem dX12_join_142 : decode cX12_join 142 = .ok (.iastore, 1) := by decide +kernel
theorem dX12_join_143 : decode cX12_join 143 = .ok (.aload_n 0, 1) := by decide +kernel
theorem dX12_join_144 : decode cX12_join 144 = .ok (.getfield 87, 3) := by decide +kernel
theorem dX12_join_147 : decode cX12_join 147 = .ok (.iload_n 1, 1) := by decide +kernel
theorem dX12_join_148 : decode cX12_join 148 = .ok (.dup2, 1) := by decide +kernel
theorem dX12_join_149 : decode cX12_join 149 = .ok (.iaload, 1) := by decide +kernel
theorem dX12_join_150 : decode cX12_join 150 = .ok (.iconst 1, 1) := by decide +kernel
theorem dX12_join_151 : decode cX12_join 151 = .ok (.iadd, 1) := by decide +kernel
theorem dX12_join_152 : decode cX12_join 152 = .ok (.iastore, 1) := by decide +kernel
theorem dX12_join_153 : decode cX12_join 153 = .ok (.aload_n 0, 1) := by decide +kernel
theorem dX12_join_154 : decode cX12_join 154 = .ok (.getfield 87, 3) := by decide +kernel
theorem dX12_join_157 : decode cX12_join 157 = .ok (.iload_n 1, 1) := by decide +kernel
theorem dX12_join_158 : decode cX12_join 158 = .ok (.iaload, 1) := by decide +kernel
theorem dX12_join_159 : decode cX12_join 159 = .ok (.ireturn, 1) := by decide +kernel
theorem dX12_holds_0 : decode cX12_holds 0 = .ok (.iload_n 0, 1) := by decide +kernel
theorem dX12_holds_1 : decode cX12_holds 1 = .ok (.bipush 61, 2) := by decide +kernel
theorem dX12_holds_3 : decode cX12_holds 3 = .ok (.if_icmp .ne 16, 3) := by decide +kernel
theorem dX12_holds_6 : decode cX12_holds 6 = .ok (.iload_n 2, 1) := by decide +kernel
theorem dX12_holds_7 : decode cX12_holds 7 = .ok (.iload_n 1, 1) := by decide +kernel
theorem dX12_holds_8 : decode cX12_holds 8 = .ok (.if_icmp .ne 7, 3) := by decide +kernel
theorem dX12_holds_11 : decode cX12_holds 11 = .ok (.iconst 1, 1) := by decide +kernel
theorem dX12_holds_12 : decode cX12_holds 12 = .ok (.goto 36, 3) := by decide +kernel
theorem dX12_holds_15 : decode cX12_holds 15 = .ok (.iconst 0, 1) := by decide +kernel
theorem dX12_holds_16 : decode cX12_holds 16 = .ok (.goto 32, 3) := by decide +kernel
theorem dX12_holds_19 : decode cX12_holds 19 = .ok (.iload_n 0, 1) := by decide +kernel
theorem dX12_holds_20 : decode cX12_holds 20 = .ok (.bipush 60, 2) := by decide +kernel
theorem dX12_holds_22 : decode cX12_holds 22 = .ok (.if_icmp .ne 16, 3) := by decide +kernel
theorem dX12_holds_25 : decode cX12_holds 25 = .ok (.iload_n 2, 1) := by decide +kernel
theorem dX12_holds_26 : decode cX12_holds 26 = .ok (.iload_n 1, 1) := by decide +kernel
theorem dX12_holds_27 : decode cX12_holds 27 = .ok (.if_icmp .ge 7, 3) := by decide +kernel
theorem dX12_holds_30 : decode cX12_holds 30 = .ok (.iconst 1, 1) := by decide +kernel
theorem dX12_holds_31 : decode cX12_holds 31 = .ok (.goto 17, 3) := by decide +kernel
theorem dX12_holds_34 : decode cX12_holds 34 = .ok (.iconst 0, 1) := by decide +kernel
theorem dX12_holds_35 : decode cX12_holds 35 = .ok (.goto 13, 3) := by decide +kernel
theorem dX12_holds_38 : decode cX12_holds 38 = .ok (.iload_n 2, 1) := by decide +kernel
theorem dX12_holds_39 : decode cX12_holds 39 = .ok (.iload_n 1, 1) := by decide +kernel
theorem dX12_holds_40 : decode cX12_holds 40 = .ok (.if_icmp .le 7, 3) := by decide +kernel
theorem dX12_holds_43 : decode cX12_holds 43 = .ok (.iconst 1, 1) := by decide +kernel
theorem dX12_holds_44 : decode cX12_holds 44 = .ok (.goto 4, 3) := by decide +kernel
theorem dX12_holds_47 : decode cX12_holds 47 = .ok (.iconst 0, 1) := by decide +kernel
theorem dX12_holds_48 : decode cX12_holds 48 = .ok (.ireturn, 1) := by decide +kernel
theorem dX12_chosenAt_0 : decode cX12_chosenAt 0 = .ok (.aload_n 0, 1) := by decide +kernel
theorem dX12_chosenAt_1 : decode cX12_chosenAt 1 = .ok (.aload_n 0, 1) := by decide +kernel
theorem dX12_chosenAt_2 : decode cX12_chosenAt 2 = .ok (.getfield 69, 3) := by decide +kernel
theorem dX12_chosenAt_5 : decode cX12_chosenAt 5 = .ok (.iconst 3, 1) := by decide +kernel
theorem dX12_chosenAt_6 : decode cX12_chosenAt 6 = .ok (.iload_n 1, 1) := by decide +kernel
theorem dX12_chosenAt_7 : decode cX12_chosenAt 7 = .ok (.imul, 1) := by decide +kernel
theorem dX12_chosenAt_8 : decode cX12_chosenAt 8 = .ok (.iload_n 2, 1) := by decide +kernel
theorem dX12_chosenAt_9 : decode cX12_chosenAt 9 = .ok (.iadd, 1) := by decide +kernel
theorem dX12_chosenAt_10 : decode cX12_chosenAt 10 = .ok (.iaload, 1) := by decide +kernel
theorem dX12_chosenAt_11 : decode cX12_chosenAt 11 = .ok (.aload_n 0, 1) := by decide +kernel
theorem dX12_chosenAt_12 : decode cX12_chosenAt 12 = .ok (.getfield 102, 3) := by decide +kernel
theorem dX12_chosenAt_15 : decode cX12_chosenAt 15 = .ok (.iload_n 2, 1) := by decide +kernel
theorem dX12_chosenAt_16 : decode cX12_chosenAt 16 = .ok (.iaload, 1) := by decide +kernel
theorem dX12_chosenAt_17 : decode cX12_chosenAt 17 = .ok (.iload_n 3, 1) := by decide +kernel
theorem dX12_chosenAt_18 : decode cX12_chosenAt 18 = .ok (.invokevirtual 173, 3) := by decide +kernel
theorem dX12_chosenAt_21 : decode cX12_chosenAt 21 = .ok (.ireturn, 1) := by decide +kernel
theorem dX12_fits_0 : decode cX12_fits 0 = .ok (.aload_n 0, 1) := by decide +kernel
theorem dX12_fits_1 : decode cX12_fits 1 = .ok (.aload_n 0, 1) := by decide +kernel
theorem dX12_fits_2 : decode cX12_fits 2 = .ok (.getfield 69, 3) := by decide +kernel
theorem dX12_fits_5 : decode cX12_fits 5 = .ok (.iconst 3, 1) := by decide +kernel
theorem dX12_fits_6 : decode cX12_fits 6 = .ok (.iload_n 1, 1) := by decide +kernel
theorem dX12_fits_7 : decode cX12_fits 7 = .ok (.imul, 1) := by decide +kernel
theorem dX12_fits_8 : decode cX12_fits 8 = .ok (.iload_n 2, 1) := by decide +kernel
theorem dX12_fits_9 : decode cX12_fits 9 = .ok (.iadd, 1) := by decide +kernel
theorem dX12_fits_10 : decode cX12_fits 10 = .ok (.iaload, 1) := by decide +kernel
theorem dX12_fits_11 : decode cX12_fits 11 = .ok (.aload_n 0, 1) := by decide +kernel
theorem dX12_fits_12 : decode cX12_fits 12 = .ok (.getfield 102, 3) := by decide +kernel
theorem dX12_fits_15 : decode cX12_fits 15 = .ok (.iload_n 2, 1) := by decide +kernel
theorem dX12_fits_16 : decode cX12_fits 16 = .ok (.iaload, 1) := by decide +kernel
theorem dX12_fits_17 : decode cX12_fits 17 = .ok (.invokevirtual 158, 3) := by decide +kernel
theorem dX12_fits_20 : decode cX12_fits 20 = .ok (.istore_n 3, 1) := by decide +kernel
theorem dX12_fits_21 : decode cX12_fits 21 = .ok (.iconst 4, 1) := by decide +kernel
theorem dX12_fits_22 : decode cX12_fits 22 = .ok (.iload_n 1, 1) := by decide +kernel
theorem dX12_fits_23 : decode cX12_fits 23 = .ok (.imul, 1) := by decide +kernel
theorem dX12_fits_24 : decode cX12_fits 24 = .ok (.istore 4, 2) := by decide +kernel
theorem dX12_fits_26 : decode cX12_fits 26 = .ok (.iload 4, 2) := by decide +kernel
theorem dX12_fits_28 : decode cX12_fits 28 = .ok (.iconst 4, 1) := by decide +kernel
theorem dX12_fits_29 : decode cX12_fits 29 = .ok (.iload_n 1, 1) := by decide +kernel
theorem dX12_fits_30 : decode cX12_fits 30 = .ok (.imul, 1) := by decide +kernel
theorem dX12_fits_31 : decode cX12_fits 31 = .ok (.aload_n 0, 1) := by decide +kernel
theorem dX12_fits_32 : decode cX12_fits 32 = .ok (.getfield 72, 3) := by decide +kernel
theorem dX12_fits_35 : decode cX12_fits 35 = .ok (.iload_n 1, 1) := by decide +kernel
theorem dX12_fits_36 : decode cX12_fits 36 = .ok (.iaload, 1) := by decide +kernel
theorem dX12_fits_37 : decode cX12_fits 37 = .ok (.iadd, 1) := by decide +kernel
theorem dX12_fits_38 : decode cX12_fits 38 = .ok (.if_icmp .ge 63, 3) := by decide +kernel
theorem dX12_fits_41 : decode cX12_fits 41 = .ok (.iload_n 3, 1) := by decide +kernel
theorem dX12_fits_42 : decode cX12_fits 42 = .ok (.ifCond .eq 51, 3) := by decide +kernel
theorem dX12_fits_45 : decode cX12_fits 45 = .ok (.aload_n 0, 1) := by decide +kernel
theorem dX12_fits_46 : decode cX12_fits 46 = .ok (.getfield 75, 3) := by decide +kernel
theorem dX12_fits_49 : decode cX12_fits 49 = .ok (.iload 4, 2) := by decide +kernel
theorem dX12_fits_51 : decode cX12_fits 51 = .ok (.iaload, 1) := by decide +kernel
theorem dX12_fits_52 : decode cX12_fits 52 = .ok (.iload_n 2, 1) := by decide +kernel
theorem dX12_fits_53 : decode cX12_fits 53 = .ok (.if_icmp .ne 36, 3) := by decide +kernel
theorem dX12_fits_56 : decode cX12_fits 56 = .ok (.aload_n 0, 1) := by decide +kernel
theorem dX12_fits_57 : decode cX12_fits 57 = .ok (.getfield 81, 3) := by decide +kernel
theorem dX12_fits_60 : decode cX12_fits 60 = .ok (.iload 4, 2) := by decide +kernel
theorem dX12_fits_62 : decode cX12_fits 62 = .ok (.iaload, 1) := by decide +kernel
theorem dX12_fits_63 : decode cX12_fits 63 = .ok (.aload_n 0, 1) := by decide +kernel
theorem dX12_fits_64 : decode cX12_fits 64 = .ok (.getfield 84, 3) := by decide +kernel
theorem dX12_fits_67 : decode cX12_fits 67 = .ok (.iload 4, 2) := by decide +kernel
theorem dX12_fits_69 : decode cX12_fits 69 = .ok (.iaload, 1) := by decide +kernel
theorem dX12_fits_70 : decode cX12_fits 70 = .ok (.aload_n 0, 1) := by decide +kernel
theorem dX12_fits_71 : decode cX12_fits 71 = .ok (.iload_n 1, 1) := by decide +kernel
theorem dX12_fits_72 : decode cX12_fits 72 = .ok (.iload_n 2, 1) := by decide +kernel
theorem dX12_fits_73 : decode cX12_fits 73 = .ok (.aload_n 0, 1) := by decide +kernel
theorem dX12_fits_74 : decode cX12_fits 74 = .ok (.getfield 78, 3) := by decide +kernel
theorem dX12_fits_77 : decode cX12_fits 77 = .ok (.iload 4, 2) := by decide +kernel
theorem dX12_fits_79 : decode cX12_fits 79 = .ok (.iaload, 1) := by decide +kernel
theorem dX12_fits_80 : decode cX12_fits 80 = .ok (.invokevirtual 223, 3) := by decide +kernel
theorem dX12_fits_83 : decode cX12_fits 83 = .ok (.invokestatic 226, 3) := by decide +kernel
theorem dX12_fits_86 : decode cX12_fits 86 = .ok (.ifCond .eq 7, 3) := by decide +kernel
theorem dX12_fits_89 : decode cX12_fits 89 = .ok (.iconst 1, 1) := by decide +kernel
theorem dX12_fits_90 : decode cX12_fits 90 = .ok (.goto 4, 3) := by decide +kernel
theorem dX12_fits_93 : decode cX12_fits 93 = .ok (.iconst 0, 1) := by decide +kernel
theorem dX12_fits_94 : decode cX12_fits 94 = .ok (.istore_n 3, 1) := by decide +kernel
theorem dX12_fits_95 : decode cX12_fits 95 = .ok (.iinc 4 1, 3) := by decide +kernel
theorem dX12_fits_98 : decode cX12_fits 98 = .ok (.goto (-72), 3) := by decide +kernel
theorem dX12_fits_101 : decode cX12_fits 101 = .ok (.iconst 3, 1) := by decide +kernel
theorem dX12_fits_102 : decode cX12_fits 102 = .ok (.iload_n 1, 1) := by decide +kernel
theorem dX12_fits_103 : decode cX12_fits 103 = .ok (.imul, 1) := by decide +kernel
theorem dX12_fits_104 : decode cX12_fits 104 = .ok (.istore 4, 2) := by decide +kernel
theorem dX12_fits_106 : decode cX12_fits 106 = .ok (.iload 4, 2) := by decide +kernel
theorem dX12_fits_108 : decode cX12_fits 108 = .ok (.iconst 3, 1) := by decide +kernel
theorem dX12_fits_109 : decode cX12_fits 109 = .ok (.iload_n 1, 1) := by decide +kernel
theorem dX12_fits_110 : decode cX12_fits 110 = .ok (.imul, 1) := by decide +kernel
theorem dX12_fits_111 : decode cX12_fits 111 = .ok (.aload_n 0, 1) := by decide +kernel
theorem dX12_fits_112 : decode cX12_fits 112 = .ok (.getfield 87, 3) := by decide +kernel
theorem dX12_fits_115 : decode cX12_fits 115 = .ok (.iload_n 1, 1) := by decide +kernel
theorem dX12_fits_116 : decode cX12_fits 116 = .ok (.iaload, 1) := by decide +kernel
theorem dX12_fits_117 : decode cX12_fits 117 = .ok (.iadd, 1) := by decide +kernel
theorem dX12_fits_118 : decode cX12_fits 118 = .ok (.if_icmp .ge 124, 3) := by decide +kernel
theorem dX12_fits_121 : decode cX12_fits 121 = .ok (.aload_n 0, 1) := by decide +kernel
theorem dX12_fits_122 : decode cX12_fits 122 = .ok (.getfield 90, 3) := by decide +kernel
theorem dX12_fits_125 : decode cX12_fits 125 = .ok (.iload 4, 2) := by decide +kernel
theorem dX12_fits_127 : decode cX12_fits 127 = .ok (.iaload, 1) := by decide +kernel
theorem dX12_fits_128 : decode cX12_fits 128 = .ok (.iload_n 2, 1) := by decide +kernel
theorem dX12_fits_129 : decode cX12_fits 129 = .ok (.if_icmp .eq 14, 3) := by decide +kernel
theorem dX12_fits_132 : decode cX12_fits 132 = .ok (.aload_n 0, 1) := by decide +kernel
theorem dX12_fits_133 : decode cX12_fits 133 = .ok (.getfield 96, 3) := by decide +kernel
theorem dX12_fits_136 : decode cX12_fits 136 = .ok (.iload 4, 2) := by decide +kernel
theorem dX12_fits_138 : decode cX12_fits 138 = .ok (.iaload, 1) := by decide +kernel
theorem dX12_fits_139 : decode cX12_fits 139 = .ok (.iload_n 2, 1) := by decide +kernel
theorem dX12_fits_140 : decode cX12_fits 140 = .ok (.if_icmp .ne 7, 3) := by decide +kernel
theorem dX12_fits_143 : decode cX12_fits 143 = .ok (.iconst 1, 1) := by decide +kernel
theorem dX12_fits_144 : decode cX12_fits 144 = .ok (.goto 4, 3) := by decide +kernel
theorem dX12_fits_147 : decode cX12_fits 147 = .ok (.iconst 0, 1) := by decide +kernel
theorem dX12_fits_148 : decode cX12_fits 148 = .ok (.istore 5, 2) := by decide +kernel
theorem dX12_fits_150 : decode cX12_fits 150 = .ok (.iload_n 3, 1) := by decide +kernel
theorem dX12_fits_151 : decode cX12_fits 151 = .ok (.ifCond .eq 85, 3) := by decide +kernel
theorem dX12_fits_154 : decode cX12_fits 154 = .ok (.iload 5, 2) := by decide +kernel
theorem dX12_fits_156 : decode cX12_fits 156 = .ok (.ifCond .eq 80, 3) := by decide +kernel
theorem dX12_fits_159 : decode cX12_fits 159 = .ok (.aload_n 0, 1) := by decide +kernel
theorem dX12_fits_160 : decode cX12_fits 160 = .ok (.getfield 102, 3) := by decide +kernel
theorem dX12_fits_163 : decode cX12_fits 163 = .ok (.aload_n 0, 1) := by decide +kernel
theorem dX12_fits_164 : decode cX12_fits 164 = .ok (.getfield 90, 3) := by decide +kernel
theorem dX12_fits_167 : decode cX12_fits 167 = .ok (.iload 4, 2) := by decide +kernel
theorem dX12_fits_169 : decode cX12_fits 169 = .ok (.iaload, 1) := by decide +kernel
theorem dX12_fits_170 : decode cX12_fits 170 = .ok (.iaload, 1) := by decide +kernel
theorem dX12_fits_171 : decode cX12_fits 171 = .ok (.ifCond .lt 65, 3) := by decide +kernel
theorem dX12_fits_174 : decode cX12_fits 174 = .ok (.aload_n 0, 1) := by decide +kernel
theorem dX12_fits_175 : decode cX12_fits 175 = .ok (.getfield 102, 3) := by decide +kernel
theorem dX12_fits_178 : decode cX12_fits 178 = .ok (.aload_n 0, 1) := by decide +kernel
theorem dX12_fits_179 : decode cX12_fits 179 = .ok (.getfield 96, 3) := by decide +kernel
theorem dX12_fits_182 : decode cX12_fits 182 = .ok (.iload 4, 2) := by decide +kernel
theorem dX12_fits_184 : decode cX12_fits 184 = .ok (.iaload, 1) := by decide +kernel
theorem dX12_fits_185 : decode cX12_fits 185 = .ok (.iaload, 1) := by decide +kernel
theorem dX12_fits_186 : decode cX12_fits 186 = .ok (.ifCond .lt 50, 3) := by decide +kernel
theorem dX12_fits_189 : decode cX12_fits 189 = .ok (.aload_n 0, 1) := by decide +kernel
theorem dX12_fits_190 : decode cX12_fits 190 = .ok (.iload_n 1, 1) := by decide +kernel
theorem dX12_fits_191 : decode cX12_fits 191 = .ok (.aload_n 0, 1) := by decide +kernel
theorem dX12_fits_192 : decode cX12_fits 192 = .ok (.getfield 90, 3) := by decide +kernel
theorem dX12_fits_195 : decode cX12_fits 195 = .ok (.iload 4, 2) := by decide +kernel
theorem dX12_fits_197 : decode cX12_fits 197 = .ok (.iaload, 1) := by decide +kernel
theorem dX12_fits_198 : decode cX12_fits 198 = .ok (.aload_n 0, 1) := by decide +kernel
theorem dX12_fits_199 : decode cX12_fits 199 = .ok (.getfield 93, 3) := by decide +kernel
theorem dX12_fits_202 : decode cX12_fits 202 = .ok (.iload 4, 2) := by decide +kernel
theorem dX12_fits_204 : decode cX12_fits 204 = .ok (.iaload, 1) := by decide +kernel
theorem dX12_fits_205 : decode cX12_fits 205 = .ok (.invokevirtual 223, 3) := by decide +kernel
theorem dX12_fits_208 : decode cX12_fits 208 = .ok (.aload_n 0, 1) := by decide +kernel
theorem dX12_fits_209 : decode cX12_fits 209 = .ok (.iload_n 1, 1) := by decide +kernel
theorem dX12_fits_210 : decode cX12_fits 210 = .ok (.aload_n 0, 1) := by decide +kernel
theorem dX12_fits_211 : decode cX12_fits 211 = .ok (.getfield 96, 3) := by decide +kernel
theorem dX12_fits_214 : decode cX12_fits 214 = .ok (.iload 4, 2) := by decide +kernel
theorem dX12_fits_216 : decode cX12_fits 216 = .ok (.iaload, 1) := by decide +kernel
theorem dX12_fits_217 : decode cX12_fits 217 = .ok (.aload_n 0, 1) := by decide +kernel
theorem dX12_fits_218 : decode cX12_fits 218 = .ok (.getfield 99, 3) := by decide +kernel
theorem dX12_fits_221 : decode cX12_fits 221 = .ok (.iload 4, 2) := by decide +kernel
theorem dX12_fits_223 : decode cX12_fits 223 = .ok (.iaload, 1) := by decide +kernel
theorem dX12_fits_224 : decode cX12_fits 224 = .ok (.invokevirtual 223, 3) := by decide +kernel
theorem dX12_fits_227 : decode cX12_fits 227 = .ok (.if_icmp .ne 7, 3) := by decide +kernel
theorem dX12_fits_230 : decode cX12_fits 230 = .ok (.iconst 1, 1) := by decide +kernel
theorem dX12_fits_231 : decode cX12_fits 231 = .ok (.goto 4, 3) := by decide +kernel
theorem dX12_fits_234 : decode cX12_fits 234 = .ok (.iconst 0, 1) := by decide +kernel
theorem dX12_fits_235 : decode cX12_fits 235 = .ok (.istore_n 3, 1) := by decide +kernel
theorem dX12_fits_236 : decode cX12_fits 236 = .ok (.iinc 4 1, 3) := by decide +kernel
theorem dX12_fits_239 : decode cX12_fits 239 = .ok (.goto (-133), 3) := by decide +kernel
theorem dX12_fits_242 : decode cX12_fits 242 = .ok (.iload_n 3, 1) := by decide +kernel
theorem dX12_fits_243 : decode cX12_fits 243 = .ok (.ireturn, 1) := by decide +kernel
theorem dX12_choosesNone_0 : decode cX12_choosesNone 0 = .ok (.aload_n 0, 1) := by decide +kernel
theorem dX12_choosesNone_1 : decode cX12_choosesNone 1 = .ok (.getfield 102, 3) := by decide +kernel
theorem dX12_choosesNone_4 : decode cX12_choosesNone 4 = .ok (.iconst 0, 1) := by decide +kernel
theorem dX12_choosesNone_5 : decode cX12_choosesNone 5 = .ok (.iconst (-1), 1) := by decide +kernel
theorem dX12_choosesNone_6 : decode cX12_choosesNone 6 = .ok (.iastore, 1) := by decide +kernel
theorem dX12_choosesNone_7 : decode cX12_choosesNone 7 = .ok (.aload_n 0, 1) := by decide +kernel
theorem dX12_choosesNone_8 : decode cX12_choosesNone 8 = .ok (.getfield 102, 3) := by decide +kernel
theorem dX12_choosesNone_11 : decode cX12_choosesNone 11 = .ok (.iconst 1, 1) := by decide +kernel
theorem dX12_choosesNone_12 : decode cX12_choosesNone 12 = .ok (.iconst (-1), 1) := by decide +kernel
theorem dX12_choosesNone_13 : decode cX12_choosesNone 13 = .ok (.iastore, 1) := by decide +kernel
theorem dX12_choosesNone_14 : decode cX12_choosesNone 14 = .ok (.aload_n 0, 1) := by decide +kernel
theorem dX12_choosesNone_15 : decode cX12_choosesNone 15 = .ok (.getfield 102, 3) := by decide +kernel
theorem dX12_choosesNone_18 : decode cX12_choosesNone 18 = .ok (.iconst 2, 1) := by decide +kernel
theorem dX12_choosesNone_19 : decode cX12_choosesNone 19 = .ok (.iconst (-1), 1) := by decide +kernel
theorem dX12_choosesNone_20 : decode cX12_choosesNone 20 = .ok (.iastore, 1) := by decide +kernel
theorem dX12_choosesNone_21 : decode cX12_choosesNone 21 = .ok (.return_, 1) := by decide +kernel
theorem dX12_beginsAnswers_0 : decode cX12_beginsAnswers 0 = .ok (.aload_n 0, 1) := by decide +kernel
theorem dX12_beginsAnswers_1 : decode cX12_beginsAnswers 1 = .ok (.invokevirtual 229, 3) := by decide +kernel
theorem dX12_beginsAnswers_4 : decode cX12_beginsAnswers 4 = .ok (.aload_n 0, 1) := by decide +kernel
theorem dX12_beginsAnswers_5 : decode cX12_beginsAnswers 5 = .ok (.iconst 0, 1) := by decide +kernel
theorem dX12_beginsAnswers_6 : decode cX12_beginsAnswers 6 = .ok (.putfield 232, 3) := by decide +kernel
theorem dX12_beginsAnswers_9 : decode cX12_beginsAnswers 9 = .ok (.return_, 1) := by decide +kernel
theorem dX12_nextAnswer_0 : decode cX12_nextAnswer 0 = .ok (.aload_n 0, 1) := by decide +kernel
theorem dX12_nextAnswer_1 : decode cX12_nextAnswer 1 = .ok (.getfield 232, 3) := by decide +kernel
theorem dX12_nextAnswer_4 : decode cX12_nextAnswer 4 = .ok (.ifCond .lt 111, 3) := by decide +kernel
theorem dX12_nextAnswer_7 : decode cX12_nextAnswer 7 = .ok (.aload_n 0, 1) := by decide +kernel
theorem dX12_nextAnswer_8 : decode cX12_nextAnswer 8 = .ok (.getfield 102, 3) := by decide +kernel
theorem dX12_nextAnswer_11 : decode cX12_nextAnswer 11 = .ok (.aload_n 0, 1) := by decide +kernel
theorem dX12_nextAnswer_12 : decode cX12_nextAnswer 12 = .ok (.getfield 232, 3) := by decide +kernel
theorem dX12_nextAnswer_15 : decode cX12_nextAnswer 15 = .ok (.dup2, 1) := by decide +kernel
theorem dX12_nextAnswer_16 : decode cX12_nextAnswer 16 = .ok (.iaload, 1) := by decide +kernel
theorem dX12_nextAnswer_17 : decode cX12_nextAnswer 17 = .ok (.iconst 1, 1) := by decide +kernel
theorem dX12_nextAnswer_18 : decode cX12_nextAnswer 18 = .ok (.iadd, 1) := by decide +kernel
theorem dX12_nextAnswer_19 : decode cX12_nextAnswer 19 = .ok (.iastore, 1) := by decide +kernel
theorem dX12_nextAnswer_20 : decode cX12_nextAnswer 20 = .ok (.aload_n 0, 1) := by decide +kernel
theorem dX12_nextAnswer_21 : decode cX12_nextAnswer 21 = .ok (.getfield 102, 3) := by decide +kernel
theorem dX12_nextAnswer_24 : decode cX12_nextAnswer 24 = .ok (.aload_n 0, 1) := by decide +kernel
theorem dX12_nextAnswer_25 : decode cX12_nextAnswer 25 = .ok (.getfield 232, 3) := by decide +kernel
theorem dX12_nextAnswer_28 : decode cX12_nextAnswer 28 = .ok (.iaload, 1) := by decide +kernel
theorem dX12_nextAnswer_29 : decode cX12_nextAnswer 29 = .ok (.aload_n 0, 1) := by decide +kernel
theorem dX12_nextAnswer_30 : decode cX12_nextAnswer 30 = .ok (.getfield 13, 3) := by decide +kernel
theorem dX12_nextAnswer_33 : decode cX12_nextAnswer 33 = .ok (.aload_n 0, 1) := by decide +kernel
theorem dX12_nextAnswer_34 : decode cX12_nextAnswer 34 = .ok (.getfield 69, 3) := by decide +kernel
theorem dX12_nextAnswer_37 : decode cX12_nextAnswer 37 = .ok (.iconst 3, 1) := by decide +kernel
theorem dX12_nextAnswer_38 : decode cX12_nextAnswer 38 = .ok (.iload_n 1, 1) := by decide +kernel
theorem dX12_nextAnswer_39 : decode cX12_nextAnswer 39 = .ok (.imul, 1) := by decide +kernel
theorem dX12_nextAnswer_40 : decode cX12_nextAnswer 40 = .ok (.aload_n 0, 1) := by decide +kernel
theorem dX12_nextAnswer_41 : decode cX12_nextAnswer 41 = .ok (.getfield 232, 3) := by decide +kernel
theorem dX12_nextAnswer_44 : decode cX12_nextAnswer 44 = .ok (.iadd, 1) := by decide +kernel
theorem dX12_nextAnswer_45 : decode cX12_nextAnswer 45 = .ok (.iaload, 1) := by decide +kernel
theorem dX12_nextAnswer_46 : decode cX12_nextAnswer 46 = .ok (.iaload, 1) := by decide +kernel
theorem dX12_nextAnswer_47 : decode cX12_nextAnswer 47 = .ok (.if_icmp .ne 26, 3) := by decide +kernel
theorem dX12_nextAnswer_50 : decode cX12_nextAnswer 50 = .ok (.aload_n 0, 1) := by decide +kernel
theorem dX12_nextAnswer_51 : decode cX12_nextAnswer 51 = .ok (.getfield 102, 3) := by decide +kernel
theorem dX12_nextAnswer_54 : decode cX12_nextAnswer 54 = .ok (.aload_n 0, 1) := by decide +kernel
theorem dX12_nextAnswer_55 : decode cX12_nextAnswer 55 = .ok (.getfield 232, 3) := by decide +kernel
theorem dX12_nextAnswer_58 : decode cX12_nextAnswer 58 = .ok (.iconst (-1), 1) := by decide +kernel
theorem dX12_nextAnswer_59 : decode cX12_nextAnswer 59 = .ok (.iastore, 1) := by decide +kernel
theorem dX12_nextAnswer_60 : decode cX12_nextAnswer 60 = .ok (.aload_n 0, 1) := by decide +kernel
theorem dX12_nextAnswer_61 : decode cX12_nextAnswer 61 = .ok (.dup, 1) := by decide +kernel
theorem dX12_nextAnswer_62 : decode cX12_nextAnswer 62 = .ok (.getfield 232, 3) := by decide +kernel
theorem dX12_nextAnswer_65 : decode cX12_nextAnswer 65 = .ok (.iconst 1, 1) := by decide +kernel
theorem dX12_nextAnswer_66 : decode cX12_nextAnswer 66 = .ok (.isub, 1) := by decide +kernel
theorem dX12_nextAnswer_67 : decode cX12_nextAnswer 67 = .ok (.putfield 232, 3) := by decide +kernel
theorem dX12_nextAnswer_70 : decode cX12_nextAnswer 70 = .ok (.goto (-70), 3) := by decide +kernel
theorem dX12_nextAnswer_73 : decode cX12_nextAnswer 73 = .ok (.aload_n 0, 1) := by decide +kernel
theorem dX12_nextAnswer_74 : decode cX12_nextAnswer 74 = .ok (.iload_n 1, 1) := by decide +kernel
theorem dX12_nextAnswer_75 : decode cX12_nextAnswer 75 = .ok (.aload_n 0, 1) := by decide +kernel
theorem dX12_nextAnswer_76 : decode cX12_nextAnswer 76 = .ok (.getfield 232, 3) := by decide +kernel
theorem dX12_nextAnswer_79 : decode cX12_nextAnswer 79 = .ok (.invokevirtual 235, 3) := by decide +kernel
theorem dX12_nextAnswer_82 : decode cX12_nextAnswer 82 = .ok (.ifCond .eq (-82), 3) := by decide +kernel
theorem dX12_nextAnswer_85 : decode cX12_nextAnswer 85 = .ok (.aload_n 0, 1) := by decide +kernel
theorem dX12_nextAnswer_86 : decode cX12_nextAnswer 86 = .ok (.getfield 232, 3) := by decide +kernel
theorem dX12_nextAnswer_89 : decode cX12_nextAnswer 89 = .ok (.aload_n 0, 1) := by decide +kernel
theorem dX12_nextAnswer_90 : decode cX12_nextAnswer 90 = .ok (.getfield 66, 3) := by decide +kernel
theorem dX12_nextAnswer_93 : decode cX12_nextAnswer 93 = .ok (.iload_n 1, 1) := by decide +kernel
theorem dX12_nextAnswer_94 : decode cX12_nextAnswer 94 = .ok (.iaload, 1) := by decide +kernel
theorem dX12_nextAnswer_95 : decode cX12_nextAnswer 95 = .ok (.iconst 1, 1) := by decide +kernel
theorem dX12_nextAnswer_96 : decode cX12_nextAnswer 96 = .ok (.isub, 1) := by decide +kernel
theorem dX12_nextAnswer_97 : decode cX12_nextAnswer 97 = .ok (.if_icmp .ne 5, 3) := by decide +kernel
theorem dX12_nextAnswer_100 : decode cX12_nextAnswer 100 = .ok (.iconst 1, 1) := by decide +kernel
theorem dX12_nextAnswer_101 : decode cX12_nextAnswer 101 = .ok (.ireturn, 1) := by decide +kernel
theorem dX12_nextAnswer_102 : decode cX12_nextAnswer 102 = .ok (.aload_n 0, 1) := by decide +kernel
theorem dX12_nextAnswer_103 : decode cX12_nextAnswer 103 = .ok (.dup, 1) := by decide +kernel
theorem dX12_nextAnswer_104 : decode cX12_nextAnswer 104 = .ok (.getfield 232, 3) := by decide +kernel
theorem dX12_nextAnswer_107 : decode cX12_nextAnswer 107 = .ok (.iconst 1, 1) := by decide +kernel
theorem dX12_nextAnswer_108 : decode cX12_nextAnswer 108 = .ok (.iadd, 1) := by decide +kernel
theorem dX12_nextAnswer_109 : decode cX12_nextAnswer 109 = .ok (.putfield 232, 3) := by decide +kernel
theorem dX12_nextAnswer_112 : decode cX12_nextAnswer 112 = .ok (.goto (-112), 3) := by decide +kernel
theorem dX12_nextAnswer_115 : decode cX12_nextAnswer 115 = .ok (.iconst 0, 1) := by decide +kernel
theorem dX12_nextAnswer_116 : decode cX12_nextAnswer 116 = .ok (.ireturn, 1) := by decide +kernel
theorem dX12_answers_0 : decode cX12_answers 0 = .ok (.aload_n 0, 1) := by decide +kernel
theorem dX12_answers_1 : decode cX12_answers 1 = .ok (.iconst 0, 1) := by decide +kernel
theorem dX12_answers_2 : decode cX12_answers 2 = .ok (.putfield 141, 3) := by decide +kernel
theorem dX12_answers_5 : decode cX12_answers 5 = .ok (.aload_n 0, 1) := by decide +kernel
theorem dX12_answers_6 : decode cX12_answers 6 = .ok (.aload_n 0, 1) := by decide +kernel
theorem dX12_answers_7 : decode cX12_answers 7 = .ok (.iload_n 1, 1) := by decide +kernel
theorem dX12_answers_8 : decode cX12_answers 8 = .ok (.invokevirtual 217, 3) := by decide +kernel
theorem dX12_answers_11 : decode cX12_answers 11 = .ok (.ifCond .ne 7, 3) := by decide +kernel
theorem dX12_answers_14 : decode cX12_answers 14 = .ok (.iconst 1, 1) := by decide +kernel
theorem dX12_answers_15 : decode cX12_answers 15 = .ok (.goto 4, 3) := by decide +kernel
theorem dX12_answers_18 : decode cX12_answers 18 = .ok (.iconst 0, 1) := by decide +kernel
theorem dX12_answers_19 : decode cX12_answers 19 = .ok (.iconst 1, 1) := by decide +kernel
theorem dX12_answers_20 : decode cX12_answers 20 = .ok (.invokevirtual 162, 3) := by decide +kernel
theorem dX12_answers_23 : decode cX12_answers 23 = .ok (.ifCond .ne 25, 3) := by decide +kernel
theorem dX12_answers_26 : decode cX12_answers 26 = .ok (.aload_n 0, 1) := by decide +kernel
theorem dX12_answers_27 : decode cX12_answers 27 = .ok (.aload_n 0, 1) := by decide +kernel
theorem dX12_answers_28 : decode cX12_answers 28 = .ok (.getfield 66, 3) := by decide +kernel
theorem dX12_answers_31 : decode cX12_answers 31 = .ok (.iload_n 1, 1) := by decide +kernel
theorem dX12_answers_32 : decode cX12_answers 32 = .ok (.iaload, 1) := by decide +kernel
theorem dX12_answers_33 : decode cX12_answers 33 = .ok (.ifCond .ne 7, 3) := by decide +kernel
theorem dX12_answers_36 : decode cX12_answers 36 = .ok (.iconst 1, 1) := by decide +kernel
theorem dX12_answers_37 : decode cX12_answers 37 = .ok (.goto 4, 3) := by decide +kernel
theorem dX12_answers_40 : decode cX12_answers 40 = .ok (.iconst 0, 1) := by decide +kernel
theorem dX12_answers_41 : decode cX12_answers 41 = .ok (.iconst 2, 1) := by decide +kernel
theorem dX12_answers_42 : decode cX12_answers 42 = .ok (.invokevirtual 162, 3) := by decide +kernel
theorem dX12_answers_45 : decode cX12_answers 45 = .ok (.ifCond .eq 5, 3) := by decide +kernel
theorem dX12_answers_48 : decode cX12_answers 48 = .ok (.iconst (-1), 1) := by decide +kernel
theorem dX12_answers_49 : decode cX12_answers 49 = .ok (.ireturn, 1) := by decide +kernel
theorem dX12_answers_50 : decode cX12_answers 50 = .ok (.iconst 0, 1) := by decide +kernel
theorem dX12_answers_51 : decode cX12_answers 51 = .ok (.istore_n 2, 1) := by decide +kernel
theorem dX12_answers_52 : decode cX12_answers 52 = .ok (.aload_n 0, 1) := by decide +kernel
theorem dX12_answers_53 : decode cX12_answers 53 = .ok (.invokevirtual 238, 3) := by decide +kernel
theorem dX12_answers_56 : decode cX12_answers 56 = .ok (.aload_n 0, 1) := by decide +kernel
theorem dX12_answers_57 : decode cX12_answers 57 = .ok (.iload_n 1, 1) := by decide +kernel
theorem dX12_answers_58 : decode cX12_answers 58 = .ok (.invokevirtual 241, 3) := by decide +kernel
theorem dX12_answers_61 : decode cX12_answers 61 = .ok (.ifCond .eq 9, 3) := by decide +kernel
theorem dX12_answers_64 : decode cX12_answers 64 = .ok (.iinc 2 1, 3) := by decide +kernel
theorem dX12_answers_67 : decode cX12_answers 67 = .ok (.goto (-11), 3) := by decide +kernel
theorem dX12_answers_70 : decode cX12_answers 70 = .ok (.iload_n 2, 1) := by decide +kernel
theorem dX12_answers_71 : decode cX12_answers 71 = .ok (.ireturn, 1) := by decide +kernel
theorem dX12_answerAt_0 : decode cX12_answerAt 0 = .ok (.aload_n 0, 1) := by decide +kernel
theorem dX12_answerAt_1 : decode cX12_answerAt 1 = .ok (.iconst 0, 1) := by decide +kernel
theorem dX12_answerAt_2 : decode cX12_answerAt 2 = .ok (.putfield 141, 3) := by decide +kernel
theorem dX12_answerAt_5 : decode cX12_answerAt 5 = .ok (.aload_n 0, 1) := by decide +kernel
theorem dX12_answerAt_6 : decode cX12_answerAt 6 = .ok (.aload_n 0, 1) := by decide +kernel
theorem dX12_answerAt_7 : decode cX12_answerAt 7 = .ok (.iload_n 1, 1) := by decide +kernel
theorem dX12_answerAt_8 : decode cX12_answerAt 8 = .ok (.invokevirtual 217, 3) := by decide +kernel
theorem dX12_answerAt_11 : decode cX12_answerAt 11 = .ok (.ifCond .ne 7, 3) := by decide +kernel
theorem dX12_answerAt_14 : decode cX12_answerAt 14 = .ok (.iconst 1, 1) := by decide +kernel
theorem dX12_answerAt_15 : decode cX12_answerAt 15 = .ok (.goto 4, 3) := by decide +kernel
theorem dX12_answerAt_18 : decode cX12_answerAt 18 = .ok (.iconst 0, 1) := by decide +kernel
theorem dX12_answerAt_19 : decode cX12_answerAt 19 = .ok (.iconst 1, 1) := by decide +kernel
theorem dX12_answerAt_20 : decode cX12_answerAt 20 = .ok (.invokevirtual 162, 3) := by decide +kernel
theorem dX12_answerAt_23 : decode cX12_answerAt 23 = .ok (.ifCond .ne 32, 3) := by decide +kernel
theorem dX12_answerAt_26 : decode cX12_answerAt 26 = .ok (.aload_n 0, 1) := by decide +kernel
theorem dX12_answerAt_27 : decode cX12_answerAt 27 = .ok (.iload_n 3, 1) := by decide +kernel
theorem dX12_answerAt_28 : decode cX12_answerAt 28 = .ok (.iconst 0, 1) := by decide +kernel
theorem dX12_answerAt_29 : decode cX12_answerAt 29 = .ok (.aload_n 0, 1) := by decide +kernel
theorem dX12_answerAt_30 : decode cX12_answerAt 30 = .ok (.getfield 66, 3) := by decide +kernel
theorem dX12_answerAt_33 : decode cX12_answerAt 33 = .ok (.iload_n 1, 1) := by decide +kernel
theorem dX12_answerAt_34 : decode cX12_answerAt 34 = .ok (.iaload, 1) := by decide +kernel
theorem dX12_answerAt_35 : decode cX12_answerAt 35 = .ok (.iconst 1, 1) := by decide +kernel
theorem dX12_answerAt_36 : decode cX12_answerAt 36 = .ok (.isub, 1) := by decide +kernel
theorem dX12_answerAt_37 : decode cX12_answerAt 37 = .ok (.invokestatic 147, 3) := by decide +kernel
theorem dX12_answerAt_40 : decode cX12_answerAt 40 = .ok (.ifCond .ne 7, 3) := by decide +kernel
theorem dX12_answerAt_43 : decode cX12_answerAt 43 = .ok (.iconst 1, 1) := by decide +kernel
theorem dX12_answerAt_44 : decode cX12_answerAt 44 = .ok (.goto 4, 3) := by decide +kernel
theorem dX12_answerAt_47 : decode cX12_answerAt 47 = .ok (.iconst 0, 1) := by decide +kernel
theorem dX12_answerAt_48 : decode cX12_answerAt 48 = .ok (.iconst 2, 1) := by decide +kernel
theorem dX12_answerAt_49 : decode cX12_answerAt 49 = .ok (.invokevirtual 162, 3) := by decide +kernel
theorem dX12_answerAt_52 : decode cX12_answerAt 52 = .ok (.ifCond .eq 5, 3) := by decide +kernel
theorem dX12_answerAt_55 : decode cX12_answerAt 55 = .ok (.iconst (-1), 1) := by decide +kernel
theorem dX12_answerAt_56 : decode cX12_answerAt 56 = .ok (.ireturn, 1) := by decide +kernel
theorem dX12_answerAt_57 : decode cX12_answerAt 57 = .ok (.iconst 0, 1) := by decide +kernel
theorem dX12_answerAt_58 : decode cX12_answerAt 58 = .ok (.istore 4, 2) := by decide +kernel
theorem dX12_answerAt_60 : decode cX12_answerAt 60 = .ok (.iconst (-1), 1) := by decide +kernel
theorem dX12_answerAt_61 : decode cX12_answerAt 61 = .ok (.istore 5, 2) := by decide +kernel
theorem dX12_answerAt_63 : decode cX12_answerAt 63 = .ok (.aload_n 0, 1) := by decide +kernel
theorem dX12_answerAt_64 : decode cX12_answerAt 64 = .ok (.invokevirtual 238, 3) := by decide +kernel
theorem dX12_answerAt_67 : decode cX12_answerAt 67 = .ok (.aload_n 0, 1) := by decide +kernel
theorem dX12_answerAt_68 : decode cX12_answerAt 68 = .ok (.iload_n 1, 1) := by decide +kernel
theorem dX12_answerAt_69 : decode cX12_answerAt 69 = .ok (.invokevirtual 241, 3) := by decide +kernel
theorem dX12_answerAt_72 : decode cX12_answerAt 72 = .ok (.ifCond .eq 28, 3) := by decide +kernel
theorem dX12_answerAt_75 : decode cX12_answerAt 75 = .ok (.iload 4, 2) := by decide +kernel
theorem dX12_answerAt_77 : decode cX12_answerAt 77 = .ok (.iload_n 2, 1) := by decide +kernel
theorem dX12_answerAt_78 : decode cX12_answerAt 78 = .ok (.if_icmp .ne 12, 3) := by decide +kernel
theorem dX12_answerAt_81 : decode cX12_answerAt 81 = .ok (.aload_n 0, 1) := by decide +kernel
theorem dX12_answerAt_82 : decode cX12_answerAt 82 = .ok (.getfield 102, 3) := by decide +kernel
theorem dX12_answerAt_85 : decode cX12_answerAt 85 = .ok (.iload_n 3, 1) := by decide +kernel
theorem dX12_answerAt_86 : decode cX12_answerAt 86 = .ok (.iaload, 1) := by decide +kernel
theorem dX12_answerAt_87 : decode cX12_answerAt 87 = .ok (.goto 5, 3) := by decide +kernel
theorem dX12_answerAt_90 : decode cX12_answerAt 90 = .ok (.iload 5, 2) := by decide +kernel
theorem dX12_answerAt_92 : decode cX12_answerAt 92 = .ok (.istore 5, 2) := by decide +kernel
theorem dX12_answerAt_94 : decode cX12_answerAt 94 = .ok (.iinc 4 1, 3) := by decide +kernel
theorem dX12_answerAt_97 : decode cX12_answerAt 97 = .ok (.goto (-30), 3) := by decide +kernel
theorem dX12_answerAt_100 : decode cX12_answerAt 100 = .ok (.aload_n 0, 1) := by decide +kernel
theorem dX12_answerAt_101 : decode cX12_answerAt 101 = .ok (.iload_n 2, 1) := by decide +kernel
theorem dX12_answerAt_102 : decode cX12_answerAt 102 = .ok (.iconst 0, 1) := by decide +kernel
theorem dX12_answerAt_103 : decode cX12_answerAt 103 = .ok (.iload 4, 2) := by decide +kernel
theorem dX12_answerAt_105 : decode cX12_answerAt 105 = .ok (.iconst 1, 1) := by decide +kernel
theorem dX12_answerAt_106 : decode cX12_answerAt 106 = .ok (.isub, 1) := by decide +kernel
theorem dX12_answerAt_107 : decode cX12_answerAt 107 = .ok (.invokestatic 147, 3) := by decide +kernel
theorem dX12_answerAt_110 : decode cX12_answerAt 110 = .ok (.ifCond .ne 7, 3) := by decide +kernel
theorem dX12_answerAt_113 : decode cX12_answerAt 113 = .ok (.iconst 1, 1) := by decide +kernel
theorem dX12_answerAt_114 : decode cX12_answerAt 114 = .ok (.goto 4, 3) := by decide +kernel
theorem dX12_answerAt_117 : decode cX12_answerAt 117 = .ok (.iconst 0, 1) := by decide +kernel
theorem dX12_answerAt_118 : decode cX12_answerAt 118 = .ok (.iconst 3, 1) := by decide +kernel
theorem dX12_answerAt_119 : decode cX12_answerAt 119 = .ok (.invokevirtual 162, 3) := by decide +kernel
theorem dX12_answerAt_122 : decode cX12_answerAt 122 = .ok (.ifCond .eq 7, 3) := by decide +kernel
theorem dX12_answerAt_125 : decode cX12_answerAt 125 = .ok (.iconst (-1), 1) := by decide +kernel
theorem dX12_answerAt_126 : decode cX12_answerAt 126 = .ok (.goto 5, 3) := by decide +kernel
theorem dX12_answerAt_129 : decode cX12_answerAt 129 = .ok (.iload 5, 2) := by decide +kernel
theorem dX12_answerAt_131 : decode cX12_answerAt 131 = .ok (.ireturn, 1) := by decide +kernel
theorem dX12_sum_0 : decode cX12_sum 0 = .ok (.aload_n 0, 1) := by decide +kernel
theorem dX12_sum_1 : decode cX12_sum 1 = .ok (.iconst 0, 1) := by decide +kernel
theorem dX12_sum_2 : decode cX12_sum 2 = .ok (.putfield 141, 3) := by decide +kernel
theorem dX12_sum_5 : decode cX12_sum 5 = .ok (.aload_n 0, 1) := by decide +kernel
theorem dX12_sum_6 : decode cX12_sum 6 = .ok (.aload_n 0, 1) := by decide +kernel
theorem dX12_sum_7 : decode cX12_sum 7 = .ok (.iload_n 1, 1) := by decide +kernel
theorem dX12_sum_8 : decode cX12_sum 8 = .ok (.invokevirtual 217, 3) := by decide +kernel
theorem dX12_sum_11 : decode cX12_sum 11 = .ok (.ifCond .ne 7, 3) := by decide +kernel
theorem dX12_sum_14 : decode cX12_sum 14 = .ok (.iconst 1, 1) := by decide +kernel
theorem dX12_sum_15 : decode cX12_sum 15 = .ok (.goto 4, 3) := by decide +kernel
theorem dX12_sum_18 : decode cX12_sum 18 = .ok (.iconst 0, 1) := by decide +kernel
theorem dX12_sum_19 : decode cX12_sum 19 = .ok (.iconst 1, 1) := by decide +kernel
theorem dX12_sum_20 : decode cX12_sum 20 = .ok (.invokevirtual 162, 3) := by decide +kernel
theorem dX12_sum_23 : decode cX12_sum 23 = .ok (.ifCond .ne 26, 3) := by decide +kernel
theorem dX12_sum_26 : decode cX12_sum 26 = .ok (.aload_n 0, 1) := by decide +kernel
theorem dX12_sum_27 : decode cX12_sum 27 = .ok (.aload_n 0, 1) := by decide +kernel
theorem dX12_sum_28 : decode cX12_sum 28 = .ok (.iload_n 1, 1) := by decide +kernel
theorem dX12_sum_29 : decode cX12_sum 29 = .ok (.iload_n 2, 1) := by decide +kernel
theorem dX12_sum_30 : decode cX12_sum 30 = .ok (.iload_n 3, 1) := by decide +kernel
theorem dX12_sum_31 : decode cX12_sum 31 = .ok (.invokevirtual 220, 3) := by decide +kernel
theorem dX12_sum_34 : decode cX12_sum 34 = .ok (.ifCond .ne 7, 3) := by decide +kernel
theorem dX12_sum_37 : decode cX12_sum 37 = .ok (.iconst 1, 1) := by decide +kernel
theorem dX12_sum_38 : decode cX12_sum 38 = .ok (.goto 4, 3) := by decide +kernel
theorem dX12_sum_41 : decode cX12_sum 41 = .ok (.iconst 0, 1) := by decide +kernel
theorem dX12_sum_42 : decode cX12_sum 42 = .ok (.iconst 2, 1) := by decide +kernel
theorem dX12_sum_43 : decode cX12_sum 43 = .ok (.invokevirtual 162, 3) := by decide +kernel
theorem dX12_sum_46 : decode cX12_sum 46 = .ok (.ifCond .eq 7, 3) := by decide +kernel
theorem dX12_sum_49 : decode cX12_sum 49 = .ok (.ldc2_w 244, 3) := by decide +kernel
theorem dX12_sum_52 : decode cX12_sum 52 = .ok (.lreturn, 1) := by decide +kernel
theorem dX12_sum_53 : decode cX12_sum 53 = .ok (.lconst 0, 1) := by decide +kernel
theorem dX12_sum_54 : decode cX12_sum 54 = .ok (.lstore 4, 2) := by decide +kernel
theorem dX12_sum_56 : decode cX12_sum 56 = .ok (.aload_n 0, 1) := by decide +kernel
theorem dX12_sum_57 : decode cX12_sum 57 = .ok (.invokevirtual 238, 3) := by decide +kernel
theorem dX12_sum_60 : decode cX12_sum 60 = .ok (.aload_n 0, 1) := by decide +kernel
theorem dX12_sum_61 : decode cX12_sum 61 = .ok (.iload_n 1, 1) := by decide +kernel
theorem dX12_sum_62 : decode cX12_sum 62 = .ok (.invokevirtual 241, 3) := by decide +kernel
theorem dX12_sum_65 : decode cX12_sum 65 = .ok (.ifCond .eq 19, 3) := by decide +kernel
theorem dX12_sum_68 : decode cX12_sum 68 = .ok (.lload 4, 2) := by decide +kernel
theorem dX12_sum_70 : decode cX12_sum 70 = .ok (.aload_n 0, 1) := by decide +kernel
theorem dX12_sum_71 : decode cX12_sum 71 = .ok (.iload_n 1, 1) := by decide +kernel
theorem dX12_sum_72 : decode cX12_sum 72 = .ok (.iload_n 2, 1) := by decide +kernel
theorem dX12_sum_73 : decode cX12_sum 73 = .ok (.iload_n 3, 1) := by decide +kernel
theorem dX12_sum_74 : decode cX12_sum 74 = .ok (.invokevirtual 223, 3) := by decide +kernel
theorem dX12_sum_77 : decode cX12_sum 77 = .ok (.i2l, 1) := by decide +kernel
theorem dX12_sum_78 : decode cX12_sum 78 = .ok (.ladd, 1) := by decide +kernel
theorem dX12_sum_79 : decode cX12_sum 79 = .ok (.lstore 4, 2) := by decide +kernel
theorem dX12_sum_81 : decode cX12_sum 81 = .ok (.goto (-21), 3) := by decide +kernel
theorem dX12_sum_84 : decode cX12_sum 84 = .ok (.lload 4, 2) := by decide +kernel
theorem dX12_sum_86 : decode cX12_sum 86 = .ok (.lreturn, 1) := by decide +kernel
theorem dX12_indexOn_0 : decode cX12_indexOn 0 = .ok (.iconst (-1), 1) := by decide +kernel
theorem dX12_indexOn_1 : decode cX12_indexOn 1 = .ok (.istore_n 3, 1) := by decide +kernel
theorem dX12_indexOn_2 : decode cX12_indexOn 2 = .ok (.aload_n 0, 1) := by decide +kernel
theorem dX12_indexOn_3 : decode cX12_indexOn 3 = .ok (.getfield 155, 3) := by decide +kernel
theorem dX12_indexOn_6 : decode cX12_indexOn 6 = .ok (.iconst 1, 1) := by decide +kernel
theorem dX12_indexOn_7 : decode cX12_indexOn 7 = .ok (.isub, 1) := by decide +kernel
theorem dX12_indexOn_8 : decode cX12_indexOn 8 = .ok (.istore 4, 2) := by decide +kernel
theorem dX12_indexOn_10 : decode cX12_indexOn 10 = .ok (.iload 4, 2) := by decide +kernel
theorem dX12_indexOn_12 : decode cX12_indexOn 12 = .ok (.ifCond .lt 50, 3) := by decide +kernel
theorem dX12_indexOn_15 : decode cX12_indexOn 15 = .ok (.aload_n 0, 1) := by decide +kernel
theorem dX12_indexOn_16 : decode cX12_indexOn 16 = .ok (.getfield 44, 3) := by decide +kernel
theorem dX12_indexOn_19 : decode cX12_indexOn 19 = .ok (.iload 4, 2) := by decide +kernel
theorem dX12_indexOn_21 : decode cX12_indexOn 21 = .ok (.iaload, 1) := by decide +kernel
theorem dX12_indexOn_22 : decode cX12_indexOn 22 = .ok (.iload_n 1, 1) := by decide +kernel
theorem dX12_indexOn_23 : decode cX12_indexOn 23 = .ok (.if_icmp .ne 31, 3) := by decide +kernel
theorem dX12_indexOn_26 : decode cX12_indexOn 26 = .ok (.aload_n 0, 1) := by decide +kernel
theorem dX12_indexOn_27 : decode cX12_indexOn 27 = .ok (.getfield 47, 3) := by decide +kernel
theorem dX12_indexOn_30 : decode cX12_indexOn 30 = .ok (.iload 4, 2) := by decide +kernel
theorem dX12_indexOn_32 : decode cX12_indexOn 32 = .ok (.iaload, 1) := by decide +kernel
theorem dX12_indexOn_33 : decode cX12_indexOn 33 = .ok (.iload_n 2, 1) := by decide +kernel
theorem dX12_indexOn_34 : decode cX12_indexOn 34 = .ok (.if_icmp .ne 20, 3) := by decide +kernel
theorem dX12_indexOn_37 : decode cX12_indexOn 37 = .ok (.aload_n 0, 1) := by decide +kernel
theorem dX12_indexOn_38 : decode cX12_indexOn 38 = .ok (.getfield 246, 3) := by decide +kernel
theorem dX12_indexOn_41 : decode cX12_indexOn 41 = .ok (.iload 4, 2) := by decide +kernel
theorem dX12_indexOn_43 : decode cX12_indexOn 43 = .ok (.ishr, 1) := by decide +kernel
theorem dX12_indexOn_44 : decode cX12_indexOn 44 = .ok (.iconst 1, 1) := by decide +kernel
theorem dX12_indexOn_45 : decode cX12_indexOn 45 = .ok (.iand, 1) := by decide +kernel
theorem dX12_indexOn_46 : decode cX12_indexOn 46 = .ok (.ifCond .ne 8, 3) := by decide +kernel
theorem dX12_indexOn_49 : decode cX12_indexOn 49 = .ok (.iload 4, 2) := by decide +kernel
theorem dX12_indexOn_51 : decode cX12_indexOn 51 = .ok (.goto 4, 3) := by decide +kernel
theorem dX12_indexOn_54 : decode cX12_indexOn 54 = .ok (.iload_n 3, 1) := by decide +kernel
theorem dX12_indexOn_55 : decode cX12_indexOn 55 = .ok (.istore_n 3, 1) := by decide +kernel
theorem dX12_indexOn_56 : decode cX12_indexOn 56 = .ok (.iinc 4 (-1), 3) := by decide +kernel
theorem dX12_indexOn_59 : decode cX12_indexOn 59 = .ok (.goto (-49), 3) := by decide +kernel
theorem dX12_indexOn_62 : decode cX12_indexOn 62 = .ok (.iload_n 3, 1) := by decide +kernel
theorem dX12_indexOn_63 : decode cX12_indexOn 63 = .ok (.ireturn, 1) := by decide +kernel
theorem dX12_isAhead_0 : decode cX12_isAhead 0 = .ok (.iconst 0, 1) := by decide +kernel
theorem dX12_isAhead_1 : decode cX12_isAhead 1 = .ok (.istore_n 3, 1) := by decide +kernel
theorem dX12_isAhead_2 : decode cX12_isAhead 2 = .ok (.iconst 0, 1) := by decide +kernel
theorem dX12_isAhead_3 : decode cX12_isAhead 3 = .ok (.istore 4, 2) := by decide +kernel
theorem dX12_isAhead_5 : decode cX12_isAhead 5 = .ok (.iload 4, 2) := by decide +kernel
theorem dX12_isAhead_7 : decode cX12_isAhead 7 = .ok (.iload_n 2, 1) := by decide +kernel
theorem dX12_isAhead_8 : decode cX12_isAhead 8 = .ok (.if_icmp .ge 30, 3) := by decide +kernel
theorem dX12_isAhead_11 : decode cX12_isAhead 11 = .ok (.iload_n 3, 1) := by decide +kernel
theorem dX12_isAhead_12 : decode cX12_isAhead 12 = .ok (.ifCond .ne 14, 3) := by decide +kernel
theorem dX12_isAhead_15 : decode cX12_isAhead 15 = .ok (.aload_n 0, 1) := by decide +kernel
theorem dX12_isAhead_16 : decode cX12_isAhead 16 = .ok (.getfield 105, 3) := by decide +kernel
theorem dX12_isAhead_19 : decode cX12_isAhead 19 = .ok (.iload 4, 2) := by decide +kernel
theorem dX12_isAhead_21 : decode cX12_isAhead 21 = .ok (.iaload, 1) := by decide +kernel
theorem dX12_isAhead_22 : decode cX12_isAhead 22 = .ok (.iload_n 1, 1) := by decide +kernel
theorem dX12_isAhead_23 : decode cX12_isAhead 23 = .ok (.if_icmp .ne 7, 3) := by decide +kernel
theorem dX12_isAhead_26 : decode cX12_isAhead 26 = .ok (.iconst 1, 1) := by decide +kernel
theorem dX12_isAhead_27 : decode cX12_isAhead 27 = .ok (.goto 4, 3) := by decide +kernel
theorem dX12_isAhead_30 : decode cX12_isAhead 30 = .ok (.iconst 0, 1) := by decide +kernel
theorem dX12_isAhead_31 : decode cX12_isAhead 31 = .ok (.istore_n 3, 1) := by decide +kernel
theorem dX12_isAhead_32 : decode cX12_isAhead 32 = .ok (.iinc 4 1, 3) := by decide +kernel
theorem dX12_isAhead_35 : decode cX12_isAhead 35 = .ok (.goto (-30), 3) := by decide +kernel
theorem dX12_isAhead_38 : decode cX12_isAhead 38 = .ok (.iload_n 3, 1) := by decide +kernel
theorem dX12_isAhead_39 : decode cX12_isAhead 39 = .ok (.ireturn, 1) := by decide +kernel
theorem dX12_ownColumn_0 : decode cX12_ownColumn 0 = .ok (.aload_n 0, 1) := by decide +kernel
theorem dX12_ownColumn_1 : decode cX12_ownColumn 1 = .ok (.getfield 105, 3) := by decide +kernel
theorem dX12_ownColumn_4 : decode cX12_ownColumn 4 = .ok (.iload_n 2, 1) := by decide +kernel
theorem dX12_ownColumn_5 : decode cX12_ownColumn 5 = .ok (.iaload, 1) := by decide +kernel
theorem dX12_ownColumn_6 : decode cX12_ownColumn 6 = .ok (.istore_n 3, 1) := by decide +kernel
theorem dX12_ownColumn_7 : decode cX12_ownColumn 7 = .ok (.aload_n 0, 1) := by decide +kernel
theorem dX12_ownColumn_8 : decode cX12_ownColumn 8 = .ok (.getfield 90, 3) := by decide +kernel
theorem dX12_ownColumn_11 : decode cX12_ownColumn 11 = .ok (.iload_n 1, 1) := by decide +kernel
theorem dX12_ownColumn_12 : decode cX12_ownColumn 12 = .ok (.iaload, 1) := by decide +kernel
theorem dX12_ownColumn_13 : decode cX12_ownColumn 13 = .ok (.iload_n 3, 1) := by decide +kernel
theorem dX12_ownColumn_14 : decode cX12_ownColumn 14 = .ok (.if_icmp .ne 24, 3) := by decide +kernel
theorem dX12_ownColumn_17 : decode cX12_ownColumn 17 = .ok (.aload_n 0, 1) := by decide +kernel
theorem dX12_ownColumn_18 : decode cX12_ownColumn 18 = .ok (.aload_n 0, 1) := by decide +kernel
theorem dX12_ownColumn_19 : decode cX12_ownColumn 19 = .ok (.getfield 96, 3) := by decide +kernel
theorem dX12_ownColumn_22 : decode cX12_ownColumn 22 = .ok (.iload_n 1, 1) := by decide +kernel
theorem dX12_ownColumn_23 : decode cX12_ownColumn 23 = .ok (.iaload, 1) := by decide +kernel
theorem dX12_ownColumn_24 : decode cX12_ownColumn 24 = .ok (.iload_n 2, 1) := by decide +kernel
theorem dX12_ownColumn_25 : decode cX12_ownColumn 25 = .ok (.invokevirtual 249, 3) := by decide +kernel
theorem dX12_ownColumn_28 : decode cX12_ownColumn 28 = .ok (.ifCond .eq 10, 3) := by decide +kernel
theorem dX12_ownColumn_31 : decode cX12_ownColumn 31 = .ok (.aload_n 0, 1) := by decide +kernel
theorem dX12_ownColumn_32 : decode cX12_ownColumn 32 = .ok (.getfield 93, 3) := by decide +kernel
theorem dX12_ownColumn_35 : decode cX12_ownColumn 35 = .ok (.iload_n 1, 1) := by decide +kernel
theorem dX12_ownColumn_36 : decode cX12_ownColumn 36 = .ok (.iaload, 1) := by decide +kernel
theorem dX12_ownColumn_37 : decode cX12_ownColumn 37 = .ok (.ireturn, 1) := by decide +kernel
theorem dX12_ownColumn_38 : decode cX12_ownColumn 38 = .ok (.aload_n 0, 1) := by decide +kernel
theorem dX12_ownColumn_39 : decode cX12_ownColumn 39 = .ok (.getfield 96, 3) := by decide +kernel
theorem dX12_ownColumn_42 : decode cX12_ownColumn 42 = .ok (.iload_n 1, 1) := by decide +kernel
theorem dX12_ownColumn_43 : decode cX12_ownColumn 43 = .ok (.iaload, 1) := by decide +kernel
theorem dX12_ownColumn_44 : decode cX12_ownColumn 44 = .ok (.iload_n 3, 1) := by decide +kernel
theorem dX12_ownColumn_45 : decode cX12_ownColumn 45 = .ok (.if_icmp .ne 26, 3) := by decide +kernel
theorem dX12_ownColumn_48 : decode cX12_ownColumn 48 = .ok (.aload_n 0, 1) := by decide +kernel
theorem dX12_ownColumn_49 : decode cX12_ownColumn 49 = .ok (.aload_n 0, 1) := by decide +kernel
theorem dX12_ownColumn_50 : decode cX12_ownColumn 50 = .ok (.getfield 90, 3) := by decide +kernel
theorem dX12_ownColumn_53 : decode cX12_ownColumn 53 = .ok (.iload_n 1, 1) := by decide +kernel
theorem dX12_ownColumn_54 : decode cX12_ownColumn 54 = .ok (.iaload, 1) := by decide +kernel
theorem dX12_ownColumn_55 : decode cX12_ownColumn 55 = .ok (.iload_n 2, 1) := by decide +kernel
theorem dX12_ownColumn_56 : decode cX12_ownColumn 56 = .ok (.invokevirtual 249, 3) := by decide +kernel
theorem dX12_ownColumn_59 : decode cX12_ownColumn 59 = .ok (.ifCond .eq 12, 3) := by decide +kernel
theorem dX12_ownColumn_62 : decode cX12_ownColumn 62 = .ok (.aload_n 0, 1) := by decide +kernel
theorem dX12_ownColumn_63 : decode cX12_ownColumn 63 = .ok (.getfield 99, 3) := by decide +kernel
theorem dX12_ownColumn_66 : decode cX12_ownColumn 66 = .ok (.iload_n 1, 1) := by decide +kernel
theorem dX12_ownColumn_67 : decode cX12_ownColumn 67 = .ok (.iaload, 1) := by decide +kernel
theorem dX12_ownColumn_68 : decode cX12_ownColumn 68 = .ok (.goto 4, 3) := by decide +kernel
theorem dX12_ownColumn_71 : decode cX12_ownColumn 71 = .ok (.iconst (-1), 1) := by decide +kernel
theorem dX12_ownColumn_72 : decode cX12_ownColumn 72 = .ok (.ireturn, 1) := by decide +kernel
theorem dX12_indexOf_0 : decode cX12_indexOf 0 = .ok (.aload_n 0, 1) := by decide +kernel
theorem dX12_indexOf_1 : decode cX12_indexOf 1 = .ok (.getfield 69, 3) := by decide +kernel
theorem dX12_indexOf_4 : decode cX12_indexOf 4 = .ok (.iconst 3, 1) := by decide +kernel
theorem dX12_indexOf_5 : decode cX12_indexOf 5 = .ok (.iload_n 1, 1) := by decide +kernel
theorem dX12_indexOf_6 : decode cX12_indexOf 6 = .ok (.imul, 1) := by decide +kernel
theorem dX12_indexOf_7 : decode cX12_indexOf 7 = .ok (.aload_n 0, 1) := by decide +kernel
theorem dX12_indexOf_8 : decode cX12_indexOf 8 = .ok (.getfield 105, 3) := by decide +kernel
theorem dX12_indexOf_11 : decode cX12_indexOf 11 = .ok (.iload_n 2, 1) := by decide +kernel
theorem dX12_indexOf_12 : decode cX12_indexOf 12 = .ok (.iaload, 1) := by decide +kernel
theorem dX12_indexOf_13 : decode cX12_indexOf 13 = .ok (.iadd, 1) := by decide +kernel
theorem dX12_indexOf_14 : decode cX12_indexOf 14 = .ok (.iaload, 1) := by decide +kernel
theorem dX12_indexOf_15 : decode cX12_indexOf 15 = .ok (.istore 4, 2) := by decide +kernel
theorem dX12_indexOf_17 : decode cX12_indexOf 17 = .ok (.iload_n 3, 1) := by decide +kernel
theorem dX12_indexOf_18 : decode cX12_indexOf 18 = .ok (.ifCond .ne 5, 3) := by decide +kernel
theorem dX12_indexOf_21 : decode cX12_indexOf 21 = .ok (.iconst (-1), 1) := by decide +kernel
theorem dX12_indexOf_22 : decode cX12_indexOf 22 = .ok (.ireturn, 1) := by decide +kernel
theorem dX12_indexOf_23 : decode cX12_indexOf 23 = .ok (.iconst (-1), 1) := by decide +kernel
theorem dX12_indexOf_24 : decode cX12_indexOf 24 = .ok (.istore 5, 2) := by decide +kernel
theorem dX12_indexOf_26 : decode cX12_indexOf 26 = .ok (.iload_n 3, 1) := by decide +kernel
theorem dX12_indexOf_27 : decode cX12_indexOf 27 = .ok (.iconst 5, 1) := by decide +kernel
theorem dX12_indexOf_28 : decode cX12_indexOf 28 = .ok (.if_icmp .ge 54, 3) := by decide +kernel
theorem dX12_indexOf_31 : decode cX12_indexOf 31 = .ok (.iconst 4, 1) := by decide +kernel
theorem dX12_indexOf_32 : decode cX12_indexOf 32 = .ok (.iload_n 1, 1) := by decide +kernel
theorem dX12_indexOf_33 : decode cX12_indexOf 33 = .ok (.imul, 1) := by decide +kernel
theorem dX12_indexOf_34 : decode cX12_indexOf 34 = .ok (.iload_n 3, 1) := by decide +kernel
theorem dX12_indexOf_35 : decode cX12_indexOf 35 = .ok (.iadd, 1) := by decide +kernel
theorem dX12_indexOf_36 : decode cX12_indexOf 36 = .ok (.iconst 1, 1) := by decide +kernel
theorem dX12_indexOf_37 : decode cX12_indexOf 37 = .ok (.isub, 1) := by decide +kernel
theorem dX12_indexOf_38 : decode cX12_indexOf 38 = .ok (.istore 6, 2) := by decide +kernel
theorem dX12_indexOf_40 : decode cX12_indexOf 40 = .ok (.iload_n 3, 1) := by decide +kernel
theorem dX12_indexOf_41 : decode cX12_indexOf 41 = .ok (.aload_n 0, 1) := by decide +kernel
theorem dX12_indexOf_42 : decode cX12_indexOf 42 = .ok (.getfield 72, 3) := by decide +kernel
theorem dX12_indexOf_45 : decode cX12_indexOf 45 = .ok (.iload_n 1, 1) := by decide +kernel
theorem dX12_indexOf_46 : decode cX12_indexOf 46 = .ok (.iaload, 1) := by decide +kernel
theorem dX12_indexOf_47 : decode cX12_indexOf 47 = .ok (.if_icmp .gt 29, 3) := by decide +kernel
theorem dX12_indexOf_50 : decode cX12_indexOf 50 = .ok (.aload_n 0, 1) := by decide +kernel
theorem dX12_indexOf_51 : decode cX12_indexOf 51 = .ok (.getfield 75, 3) := by decide +kernel
theorem dX12_indexOf_54 : decode cX12_indexOf 54 = .ok (.iload 6, 2) := by decide +kernel
theorem dX12_indexOf_56 : decode cX12_indexOf 56 = .ok (.iaload, 1) := by decide +kernel
theorem dX12_indexOf_57 : decode cX12_indexOf 57 = .ok (.aload_n 0, 1) := by decide +kernel
theorem dX12_indexOf_58 : decode cX12_indexOf 58 = .ok (.getfield 105, 3) := by decide +kernel
theorem dX12_indexOf_61 : decode cX12_indexOf 61 = .ok (.iload_n 2, 1) := by decide +kernel
theorem dX12_indexOf_62 : decode cX12_indexOf 62 = .ok (.iaload, 1) := by decide +kernel
theorem dX12_indexOf_63 : decode cX12_indexOf 63 = .ok (.if_icmp .ne 13, 3) := by decide +kernel
theorem dX12_indexOf_66 : decode cX12_indexOf 66 = .ok (.aload_n 0, 1) := by decide +kernel
theorem dX12_indexOf_67 : decode cX12_indexOf 67 = .ok (.getfield 78, 3) := by decide +kernel
theorem dX12_indexOf_70 : decode cX12_indexOf 70 = .ok (.iload 6, 2) := by decide +kernel
theorem dX12_indexOf_72 : decode cX12_indexOf 72 = .ok (.iaload, 1) := by decide +kernel
theorem dX12_indexOf_73 : decode cX12_indexOf 73 = .ok (.goto 4, 3) := by decide +kernel
theorem dX12_indexOf_76 : decode cX12_indexOf 76 = .ok (.iconst (-1), 1) := by decide +kernel
theorem dX12_indexOf_77 : decode cX12_indexOf 77 = .ok (.istore 5, 2) := by decide +kernel
theorem dX12_indexOf_79 : decode cX12_indexOf 79 = .ok (.goto 33, 3) := by decide +kernel
theorem dX12_indexOf_82 : decode cX12_indexOf 82 = .ok (.iload_n 3, 1) := by decide +kernel
theorem dX12_indexOf_83 : decode cX12_indexOf 83 = .ok (.iconst 5, 1) := by decide +kernel
theorem dX12_indexOf_84 : decode cX12_indexOf 84 = .ok (.isub, 1) := by decide +kernel
theorem dX12_indexOf_85 : decode cX12_indexOf 85 = .ok (.aload_n 0, 1) := by decide +kernel
theorem dX12_indexOf_86 : decode cX12_indexOf 86 = .ok (.getfield 87, 3) := by decide +kernel
theorem dX12_indexOf_89 : decode cX12_indexOf 89 = .ok (.iload_n 1, 1) := by decide +kernel
theorem dX12_indexOf_90 : decode cX12_indexOf 90 = .ok (.iaload, 1) := by decide +kernel
theorem dX12_indexOf_91 : decode cX12_indexOf 91 = .ok (.if_icmp .ge 18, 3) := by decide +kernel
theorem dX12_indexOf_94 : decode cX12_indexOf 94 = .ok (.aload_n 0, 1) := by decide +kernel
theorem dX12_indexOf_95 : decode cX12_indexOf 95 = .ok (.iconst 3, 1) := by decide +kernel
theorem dX12_indexOf_96 : decode cX12_indexOf 96 = .ok (.iload_n 1, 1) := by decide +kernel
theorem dX12_indexOf_97 : decode cX12_indexOf 97 = .ok (.imul, 1) := by decide +kernel
theorem dX12_indexOf_98 : decode cX12_indexOf 98 = .ok (.iload_n 3, 1) := by decide +kernel
theorem dX12_indexOf_99 : decode cX12_indexOf 99 = .ok (.iadd, 1) := by decide +kernel
theorem dX12_indexOf_100 : decode cX12_indexOf 100 = .ok (.iconst 5, 1) := by decide +kernel
theorem dX12_indexOf_101 : decode cX12_indexOf 101 = .ok (.isub, 1) := by decide +kernel
theorem dX12_indexOf_102 : decode cX12_indexOf 102 = .ok (.iload_n 2, 1) := by decide +kernel
theorem dX12_indexOf_103 : decode cX12_indexOf 103 = .ok (.invokevirtual 252, 3) := by decide +kernel
theorem dX12_indexOf_106 : decode cX12_indexOf 106 = .ok (.goto 4, 3) := by decide +kernel
theorem dX12_indexOf_109 : decode cX12_indexOf 109 = .ok (.iconst (-1), 1) := by decide +kernel
theorem dX12_indexOf_110 : decode cX12_indexOf 110 = .ok (.istore 5, 2) := by decide +kernel
theorem dX12_indexOf_112 : decode cX12_indexOf 112 = .ok (.iload 5, 2) := by decide +kernel
theorem dX12_indexOf_114 : decode cX12_indexOf 114 = .ok (.iconst (-1), 1) := by decide +kernel
theorem dX12_indexOf_115 : decode cX12_indexOf 115 = .ok (.if_icmp .ne 7, 3) := by decide +kernel
theorem dX12_indexOf_118 : decode cX12_indexOf 118 = .ok (.iconst (-1), 1) := by decide +kernel
theorem dX12_indexOf_119 : decode cX12_indexOf 119 = .ok (.goto 11, 3) := by decide +kernel
theorem dX12_indexOf_122 : decode cX12_indexOf 122 = .ok (.aload_n 0, 1) := by decide +kernel
theorem dX12_indexOf_123 : decode cX12_indexOf 123 = .ok (.iload 4, 2) := by decide +kernel
theorem dX12_indexOf_125 : decode cX12_indexOf 125 = .ok (.iload 5, 2) := by decide +kernel
theorem dX12_indexOf_127 : decode cX12_indexOf 127 = .ok (.invokevirtual 255, 3) := by decide +kernel
theorem dX12_indexOf_130 : decode cX12_indexOf 130 = .ok (.istore 6, 2) := by decide +kernel
theorem dX12_indexOf_132 : decode cX12_indexOf 132 = .ok (.iload 6, 2) := by decide +kernel
theorem dX12_indexOf_134 : decode cX12_indexOf 134 = .ok (.iconst (-1), 1) := by decide +kernel
theorem dX12_indexOf_135 : decode cX12_indexOf 135 = .ok (.if_icmp .ne 8, 3) := by decide +kernel
theorem dX12_indexOf_138 : decode cX12_indexOf 138 = .ok (.bipush (-2), 2) := by decide +kernel
theorem dX12_indexOf_140 : decode cX12_indexOf 140 = .ok (.goto 5, 3) := by decide +kernel
theorem dX12_indexOf_143 : decode cX12_indexOf 143 = .ok (.iload 6, 2) := by decide +kernel
theorem dX12_indexOf_145 : decode cX12_indexOf 145 = .ok (.ireturn, 1) := by decide +kernel
theorem dX12_rankOf_0 : decode cX12_rankOf 0 = .ok (.iload_n 2, 1) := by decide +kernel
theorem dX12_rankOf_1 : decode cX12_rankOf 1 = .ok (.ifCond .ne 7, 3) := by decide +kernel
theorem dX12_rankOf_4 : decode cX12_rankOf 4 = .ok (.iconst 3, 1) := by decide +kernel
theorem dX12_rankOf_5 : decode cX12_rankOf 5 = .ok (.goto 34, 3) := by decide +kernel
theorem dX12_rankOf_8 : decode cX12_rankOf 8 = .ok (.iload_n 2, 1) := by decide +kernel
theorem dX12_rankOf_9 : decode cX12_rankOf 9 = .ok (.iconst 4, 1) := by decide +kernel
theorem dX12_rankOf_10 : decode cX12_rankOf 10 = .ok (.if_icmp .le 7, 3) := by decide +kernel
theorem dX12_rankOf_13 : decode cX12_rankOf 13 = .ok (.iconst 0, 1) := by decide +kernel
theorem dX12_rankOf_14 : decode cX12_rankOf 14 = .ok (.goto 25, 3) := by decide +kernel
theorem dX12_rankOf_17 : decode cX12_rankOf 17 = .ok (.aload_n 0, 1) := by decide +kernel
theorem dX12_rankOf_18 : decode cX12_rankOf 18 = .ok (.getfield 81, 3) := by decide +kernel
theorem dX12_rankOf_21 : decode cX12_rankOf 21 = .ok (.iconst 4, 1) := by decide +kernel
theorem dX12_rankOf_22 : decode cX12_rankOf 22 = .ok (.iload_n 1, 1) := by decide +kernel
theorem dX12_rankOf_23 : decode cX12_rankOf 23 = .ok (.imul, 1) := by decide +kernel
theorem dX12_rankOf_24 : decode cX12_rankOf 24 = .ok (.iload_n 2, 1) := by decide +kernel
theorem dX12_rankOf_25 : decode cX12_rankOf 25 = .ok (.iadd, 1) := by decide +kernel
theorem dX12_rankOf_26 : decode cX12_rankOf 26 = .ok (.iconst 1, 1) := by decide +kernel
theorem dX12_rankOf_27 : decode cX12_rankOf 27 = .ok (.isub, 1) := by decide +kernel
theorem dX12_rankOf_28 : decode cX12_rankOf 28 = .ok (.iaload, 1) := by decide +kernel
theorem dX12_rankOf_29 : decode cX12_rankOf 29 = .ok (.bipush 61, 2) := by decide +kernel
theorem dX12_rankOf_31 : decode cX12_rankOf 31 = .ok (.if_icmp .ne 7, 3) := by decide +kernel
theorem dX12_rankOf_34 : decode cX12_rankOf 34 = .ok (.iconst 1, 1) := by decide +kernel
theorem dX12_rankOf_35 : decode cX12_rankOf 35 = .ok (.goto 4, 3) := by decide +kernel
theorem dX12_rankOf_38 : decode cX12_rankOf 38 = .ok (.iconst 2, 1) := by decide +kernel
theorem dX12_rankOf_39 : decode cX12_rankOf 39 = .ok (.ireturn, 1) := by decide +kernel
theorem dX12_plansByBook_0 : decode cX12_plansByBook 0 = .ok (.iconst 0, 1) := by decide +kernel
theorem dX12_plansByBook_1 : decode cX12_plansByBook 1 = .ok (.istore_n 2, 1) := by decide +kernel
theorem dX12_plansByBook_2 : decode cX12_plansByBook 2 = .ok (.iload_n 2, 1) := by decide +kernel
theorem dX12_plansByBook_3 : decode cX12_plansByBook 3 = .ok (.aload_n 0, 1) := by decide +kernel
theorem dX12_plansByBook_4 : decode cX12_plansByBook 4 = .ok (.getfield 66, 3) := by decide +kernel
theorem dX12_plansByBook_7 : decode cX12_plansByBook 7 = .ok (.iload_n 1, 1) := by decide +kernel
theorem dX12_plansByBook_8 : decode cX12_plansByBook 8 = .ok (.iaload, 1) := by decide +kernel
theorem dX12_plansByBook_9 : decode cX12_plansByBook 9 = .ok (.if_icmp .ge 87, 3) := by decide +kernel
theorem dX12_plansByBook_12 : decode cX12_plansByBook 12 = .ok (.aload_n 0, 1) := by decide +kernel
theorem dX12_plansByBook_13 : decode cX12_plansByBook 13 = .ok (.getfield 105, 3) := by decide +kernel
theorem dX12_plansByBook_16 : decode cX12_plansByBook 16 = .ok (.iload_n 2, 1) := by decide +kernel
theorem dX12_plansByBook_17 : decode cX12_plansByBook 17 = .ok (.iload_n 2, 1) := by decide +kernel
theorem dX12_plansByBook_18 : decode cX12_plansByBook 18 = .ok (.iastore, 1) := by decide +kernel
theorem dX12_plansByBook_19 : decode cX12_plansByBook 19 = .ok (.bipush 9, 2) := by decide +kernel
theorem dX12_plansByBook_21 : decode cX12_plansByBook 21 = .ok (.istore_n 3, 1) := by decide +kernel
theorem dX12_plansByBook_22 : decode cX12_plansByBook 22 = .ok (.iconst 0, 1) := by decide +kernel
theorem dX12_plansByBook_23 : decode cX12_plansByBook 23 = .ok (.istore 4, 2) := by decide +kernel
theorem dX12_plansByBook_25 : decode cX12_plansByBook 25 = .ok (.iload 4, 2) := by decide +kernel
theorem dX12_plansByBook_27 : decode cX12_plansByBook 27 = .ok (.bipush 8, 2) := by decide +kernel
theorem dX12_plansByBook_29 : decode cX12_plansByBook 29 = .ok (.if_icmp .ge 61, 3) := by decide +kernel
theorem dX12_plansByBook_32 : decode cX12_plansByBook 32 = .ok (.aload_n 0, 1) := by decide +kernel
theorem dX12_plansByBook_33 : decode cX12_plansByBook 33 = .ok (.iload_n 1, 1) := by decide +kernel
theorem dX12_plansByBook_34 : decode cX12_plansByBook 34 = .ok (.iload_n 2, 1) := by decide +kernel
theorem dX12_plansByBook_35 : decode cX12_plansByBook 35 = .ok (.iload 4, 2) := by decide +kernel
theorem dX12_plansByBook_37 : decode cX12_plansByBook 37 = .ok (.invokevirtual 258, 3) := by decide +kernel
theorem dX12_plansByBook_40 : decode cX12_plansByBook 40 = .ok (.istore 5, 2) := by decide +kernel
theorem dX12_plansByBook_42 : decode cX12_plansByBook 42 = .ok (.iload 5, 2) := by decide +kernel
theorem dX12_plansByBook_44 : decode cX12_plansByBook 44 = .ok (.bipush (-2), 2) := by decide +kernel
theorem dX12_plansByBook_46 : decode cX12_plansByBook 46 = .ok (.if_icmp .le 38, 3) := by decide +kernel
theorem dX12_plansByBook_49 : decode cX12_plansByBook 49 = .ok (.aload_n 0, 1) := by decide +kernel
theorem dX12_plansByBook_50 : decode cX12_plansByBook 50 = .ok (.iload_n 1, 1) := by decide +kernel
theorem dX12_plansByBook_51 : decode cX12_plansByBook 51 = .ok (.iload 4, 2) := by decide +kernel
theorem dX12_plansByBook_53 : decode cX12_plansByBook 53 = .ok (.invokevirtual 261, 3) := by decide +kernel
theorem dX12_plansByBook_56 : decode cX12_plansByBook 56 = .ok (.iload_n 3, 1) := by decide +kernel
theorem dX12_plansByBook_57 : decode cX12_plansByBook 57 = .ok (.if_icmp .ge 27, 3) := by decide +kernel
theorem dX12_plansByBook_60 : decode cX12_plansByBook 60 = .ok (.aload_n 0, 1) := by decide +kernel
theorem dX12_plansByBook_61 : decode cX12_plansByBook 61 = .ok (.iload_n 1, 1) := by decide +kernel
theorem dX12_plansByBook_62 : decode cX12_plansByBook 62 = .ok (.iload 4, 2) := by decide +kernel
theorem dX12_plansByBook_64 : decode cX12_plansByBook 64 = .ok (.invokevirtual 261, 3) := by decide +kernel
theorem dX12_plansByBook_67 : decode cX12_plansByBook 67 = .ok (.istore_n 3, 1) := by decide +kernel
theorem dX12_plansByBook_68 : decode cX12_plansByBook 68 = .ok (.aload_n 0, 1) := by decide +kernel
theorem dX12_plansByBook_69 : decode cX12_plansByBook 69 = .ok (.getfield 108, 3) := by decide +kernel
theorem dX12_plansByBook_72 : decode cX12_plansByBook 72 = .ok (.iload_n 2, 1) := by decide +kernel
theorem dX12_plansByBook_73 : decode cX12_plansByBook 73 = .ok (.iload 4, 2) := by decide +kernel
theorem dX12_plansByBook_75 : decode cX12_plansByBook 75 = .ok (.iastore, 1) := by decide +kernel
theorem dX12_plansByBook_76 : decode cX12_plansByBook 76 = .ok (.aload_n 0, 1) := by decide +kernel
theorem dX12_plansByBook_77 : decode cX12_plansByBook 77 = .ok (.getfield 111, 3) := by decide +kernel
theorem dX12_plansByBook_80 : decode cX12_plansByBook 80 = .ok (.iload_n 2, 1) := by decide +kernel
theorem dX12_plansByBook_81 : decode cX12_plansByBook 81 = .ok (.iload 5, 2) := by decide +kernel
theorem dX12_plansByBook_83 : decode cX12_plansByBook 83 = .ok (.iastore, 1) := by decide +kernel
theorem dX12_plansByBook_84 : decode cX12_plansByBook 84 = .ok (.iinc 4 1, 3) := by decide +kernel
theorem dX12_plansByBook_87 : decode cX12_plansByBook 87 = .ok (.goto (-62), 3) := by decide +kernel
theorem dX12_plansByBook_90 : decode cX12_plansByBook 90 = .ok (.iinc 2 1, 3) := by decide +kernel
theorem dX12_plansByBook_93 : decode cX12_plansByBook 93 = .ok (.goto (-91), 3) := by decide +kernel
theorem dX12_plansByBook_96 : decode cX12_plansByBook 96 = .ok (.return_, 1) := by decide +kernel
theorem dX12_share_0 : decode cX12_share 0 = .ok (.iconst 3, 1) := by decide +kernel
theorem dX12_share_1 : decode cX12_share 1 = .ok (.aload_n 0, 1) := by decide +kernel
theorem dX12_share_2 : decode cX12_share 2 = .ok (.getfield 69, 3) := by decide +kernel
theorem dX12_share_5 : decode cX12_share 5 = .ok (.iconst 3, 1) := by decide +kernel
theorem dX12_share_6 : decode cX12_share 6 = .ok (.iload_n 1, 1) := by decide +kernel
theorem dX12_share_7 : decode cX12_share 7 = .ok (.imul, 1) := by decide +kernel
theorem dX12_share_8 : decode cX12_share 8 = .ok (.aload_n 0, 1) := by decide +kernel
theorem dX12_share_9 : decode cX12_share 9 = .ok (.getfield 75, 3) := by decide +kernel
theorem dX12_share_12 : decode cX12_share 12 = .ok (.iload_n 2, 1) := by decide +kernel
theorem dX12_share_13 : decode cX12_share 13 = .ok (.iaload, 1) := by decide +kernel
theorem dX12_share_14 : decode cX12_share 14 = .ok (.iadd, 1) := by decide +kernel
theorem dX12_share_15 : decode cX12_share 15 = .ok (.iaload, 1) := by decide +kernel
theorem dX12_share_16 : decode cX12_share 16 = .ok (.imul, 1) := by decide +kernel
theorem dX12_share_17 : decode cX12_share 17 = .ok (.aload_n 0, 1) := by decide +kernel
theorem dX12_share_18 : decode cX12_share 18 = .ok (.getfield 78, 3) := by decide +kernel
theorem dX12_share_21 : decode cX12_share 21 = .ok (.iload_n 2, 1) := by decide +kernel
theorem dX12_share_22 : decode cX12_share 22 = .ok (.iaload, 1) := by decide +kernel
theorem dX12_share_23 : decode cX12_share 23 = .ok (.iadd, 1) := by decide +kernel
theorem dX12_share_24 : decode cX12_share 24 = .ok (.istore_n 3, 1) := by decide +kernel
theorem dX12_share_25 : decode cX12_share 25 = .ok (.aload_n 0, 1) := by decide +kernel
theorem dX12_share_26 : decode cX12_share 26 = .ok (.getfield 81, 3) := by decide +kernel
theorem dX12_share_29 : decode cX12_share 29 = .ok (.iload_n 2, 1) := by decide +kernel
theorem dX12_share_30 : decode cX12_share 30 = .ok (.iaload, 1) := by decide +kernel
theorem dX12_share_31 : decode cX12_share 31 = .ok (.bipush 61, 2) := by decide +kernel
theorem dX12_share_33 : decode cX12_share 33 = .ok (.if_icmp .ne 19, 3) := by decide +kernel
theorem dX12_share_36 : decode cX12_share 36 = .ok (.ldc2_w 264, 3) := by decide +kernel
theorem dX12_share_39 : decode cX12_share 39 = .ok (.iconst 1, 1) := by decide +kernel
theorem dX12_share_40 : decode cX12_share 40 = .ok (.aload_n 0, 1) := by decide +kernel
theorem dX12_share_41 : decode cX12_share 41 = .ok (.getfield 35, 3) := by decide +kernel
theorem dX12_share_44 : decode cX12_share 44 = .ok (.iload_n 3, 1) := by decide +kernel
theorem dX12_share_45 : decode cX12_share 45 = .ok (.iaload, 1) := by decide +kernel
theorem dX12_share_46 : decode cX12_share 46 = .ok (.invokestatic 266, 3) := by decide +kernel
theorem dX12_share_49 : decode cX12_share 49 = .ok (.i2l, 1) := by decide +kernel
theorem dX12_share_50 : decode cX12_share 50 = .ok (.ldiv, 1) := by decide +kernel
theorem dX12_share_51 : decode cX12_share 51 = .ok (.lreturn, 1) := by decide +kernel
theorem dX12_share_52 : decode cX12_share 52 = .ok (.iconst 0, 1) := by decide +kernel
theorem dX12_share_53 : decode cX12_share 53 = .ok (.istore 4, 2) := by decide +kernel
theorem dX12_share_55 : decode cX12_share 55 = .ok (.aload_n 0, 1) := by decide +kernel
theorem dX12_share_56 : decode cX12_share 56 = .ok (.getfield 38, 3) := by decide +kernel
theorem dX12_share_59 : decode cX12_share 59 = .ok (.iload_n 3, 1) := by decide +kernel
theorem dX12_share_60 : decode cX12_share 60 = .ok (.iaload, 1) := by decide +kernel
theorem dX12_share_61 : decode cX12_share 61 = .ok (.istore 5, 2) := by decide +kernel
theorem dX12_share_63 : decode cX12_share 63 = .ok (.iload 5, 2) := by decide +kernel
theorem dX12_share_65 : decode cX12_share 65 = .ok (.aload_n 0, 1) := by decide +kernel
theorem dX12_share_66 : decode cX12_share 66 = .ok (.getfield 41, 3) := by decide +kernel
theorem dX12_share_69 : decode cX12_share 69 = .ok (.iload_n 3, 1) := by decide +kernel
theorem dX12_share_70 : decode cX12_share 70 = .ok (.iaload, 1) := by decide +kernel
theorem dX12_share_71 : decode cX12_share 71 = .ok (.if_icmp .gt 39, 3) := by decide +kernel
theorem dX12_share_74 : decode cX12_share 74 = .ok (.iload 4, 2) := by decide +kernel
theorem dX12_share_76 : decode cX12_share 76 = .ok (.aload_n 0, 1) := by decide +kernel
theorem dX12_share_77 : decode cX12_share 77 = .ok (.getfield 81, 3) := by decide +kernel
theorem dX12_share_80 : decode cX12_share 80 = .ok (.iload_n 2, 1) := by decide +kernel
theorem dX12_share_81 : decode cX12_share 81 = .ok (.iaload, 1) := by decide +kernel
theorem dX12_share_82 : decode cX12_share 82 = .ok (.aload_n 0, 1) := by decide +kernel
theorem dX12_share_83 : decode cX12_share 83 = .ok (.getfield 84, 3) := by decide +kernel
theorem dX12_share_86 : decode cX12_share 86 = .ok (.iload_n 2, 1) := by decide +kernel
theorem dX12_share_87 : decode cX12_share 87 = .ok (.iaload, 1) := by decide +kernel
theorem dX12_share_88 : decode cX12_share 88 = .ok (.iload 5, 2) := by decide +kernel
theorem dX12_share_90 : decode cX12_share 90 = .ok (.invokestatic 226, 3) := by decide +kernel
theorem dX12_share_93 : decode cX12_share 93 = .ok (.ifCond .eq 7, 3) := by decide +kernel
theorem dX12_share_96 : decode cX12_share 96 = .ok (.iconst 1, 1) := by decide +kernel
theorem dX12_share_97 : decode cX12_share 97 = .ok (.goto 4, 3) := by decide +kernel
theorem dX12_share_100 : decode cX12_share 100 = .ok (.iconst 0, 1) := by decide +kernel
theorem dX12_share_101 : decode cX12_share 101 = .ok (.iadd, 1) := by decide +kernel
theorem dX12_share_102 : decode cX12_share 102 = .ok (.istore 4, 2) := by decide +kernel
theorem dX12_share_104 : decode cX12_share 104 = .ok (.iinc 5 1, 3) := by decide +kernel
theorem dX12_share_107 : decode cX12_share 107 = .ok (.goto (-44), 3) := by decide +kernel
theorem dX12_share_110 : decode cX12_share 110 = .ok (.ldc2_w 264, 3) := by decide +kernel
theorem dX12_share_113 : decode cX12_share 113 = .ok (.iload 4, 2) := by decide +kernel
theorem dX12_share_115 : decode cX12_share 115 = .ok (.i2l, 1) := by decide +kernel
theorem dX12_share_116 : decode cX12_share 116 = .ok (.lmul, 1) := by decide +kernel
theorem dX12_share_117 : decode cX12_share 117 = .ok (.aload_n 0, 1) := by decide +kernel
theorem dX12_share_118 : decode cX12_share 118 = .ok (.getfield 41, 3) := by decide +kernel
theorem dX12_share_121 : decode cX12_share 121 = .ok (.iload_n 3, 1) := by decide +kernel
theorem dX12_share_122 : decode cX12_share 122 = .ok (.iaload, 1) := by decide +kernel
theorem dX12_share_123 : decode cX12_share 123 = .ok (.aload_n 0, 1) := by decide +kernel
theorem dX12_share_124 : decode cX12_share 124 = .ok (.getfield 38, 3) := by decide +kernel
theorem dX12_share_127 : decode cX12_share 127 = .ok (.iload_n 3, 1) := by decide +kernel
theorem dX12_share_128 : decode cX12_share 128 = .ok (.iaload, 1) := by decide +kernel
theorem dX12_share_129 : decode cX12_share 129 = .ok (.isub, 1) := by decide +kernel
theorem dX12_share_130 : decode cX12_share 130 = .ok (.iconst 1, 1) := by decide +kernel
theorem dX12_share_131 : decode cX12_share 131 = .ok (.iadd, 1) := by decide +kernel
theorem dX12_share_132 : decode cX12_share 132 = .ok (.i2l, 1) := by decide +kernel
theorem dX12_share_133 : decode cX12_share 133 = .ok (.ldiv, 1) := by decide +kernel
theorem dX12_share_134 : decode cX12_share 134 = .ok (.lreturn, 1) := by decide +kernel
theorem dX12_joinShare_0 : decode cX12_joinShare 0 = .ok (.aload_n 0, 1) := by decide +kernel
theorem dX12_joinShare_1 : decode cX12_joinShare 1 = .ok (.getfield 35, 3) := by decide +kernel
theorem dX12_joinShare_4 : decode cX12_joinShare 4 = .ok (.iconst 3, 1) := by decide +kernel
theorem dX12_joinShare_5 : decode cX12_joinShare 5 = .ok (.aload_n 0, 1) := by decide +kernel
theorem dX12_joinShare_6 : decode cX12_joinShare 6 = .ok (.getfield 69, 3) := by decide +kernel
theorem dX12_joinShare_9 : decode cX12_joinShare 9 = .ok (.iconst 3, 1) := by decide +kernel
theorem dX12_joinShare_10 : decode cX12_joinShare 10 = .ok (.iload_n 1, 1) := by decide +kernel
theorem dX12_joinShare_11 : decode cX12_joinShare 11 = .ok (.imul, 1) := by decide +kernel
theorem dX12_joinShare_12 : decode cX12_joinShare 12 = .ok (.aload_n 0, 1) := by decide +kernel
theorem dX12_joinShare_13 : decode cX12_joinShare 13 = .ok (.getfield 90, 3) := by decide +kernel
theorem dX12_joinShare_16 : decode cX12_joinShare 16 = .ok (.iload_n 2, 1) := by decide +kernel
theorem dX12_joinShare_17 : decode cX12_joinShare 17 = .ok (.iaload, 1) := by decide +kernel
theorem dX12_joinShare_18 : decode cX12_joinShare 18 = .ok (.iadd, 1) := by decide +kernel
theorem dX12_joinShare_19 : decode cX12_joinShare 19 = .ok (.iaload, 1) := by decide +kernel
theorem dX12_joinShare_20 : decode cX12_joinShare 20 = .ok (.imul, 1) := by decide +kernel
theorem dX12_joinShare_21 : decode cX12_joinShare 21 = .ok (.aload_n 0, 1) := by decide +kernel
theorem dX12_joinShare_22 : decode cX12_joinShare 22 = .ok (.getfield 93, 3) := by decide +kernel
theorem dX12_joinShare_25 : decode cX12_joinShare 25 = .ok (.iload_n 2, 1) := by decide +kernel
theorem dX12_joinShare_26 : decode cX12_joinShare 26 = .ok (.iaload, 1) := by decide +kernel
theorem dX12_joinShare_27 : decode cX12_joinShare 27 = .ok (.iadd, 1) := by decide +kernel
theorem dX12_joinShare_28 : decode cX12_joinShare 28 = .ok (.iaload, 1) := by decide +kernel
theorem dX12_joinShare_29 : decode cX12_joinShare 29 = .ok (.istore_n 3, 1) := by decide +kernel
theorem dX12_joinShare_30 : decode cX12_joinShare 30 = .ok (.aload_n 0, 1) := by decide +kernel
theorem dX12_joinShare_31 : decode cX12_joinShare 31 = .ok (.getfield 35, 3) := by decide +kernel
theorem dX12_joinShare_34 : decode cX12_joinShare 34 = .ok (.iconst 3, 1) := by decide +kernel
theorem dX12_joinShare_35 : decode cX12_joinShare 35 = .ok (.aload_n 0, 1) := by decide +kernel
theorem dX12_joinShare_36 : decode cX12_joinShare 36 = .ok (.getfield 69, 3) := by decide +kernel
theorem dX12_joinShare_39 : decode cX12_joinShare 39 = .ok (.iconst 3, 1) := by decide +kernel
theorem dX12_joinShare_40 : decode cX12_joinShare 40 = .ok (.iload_n 1, 1) := by decide +kernel
theorem dX12_joinShare_41 : decode cX12_joinShare 41 = .ok (.imul, 1) := by decide +kernel
theorem dX12_joinShare_42 : decode cX12_joinShare 42 = .ok (.aload_n 0, 1) := by decide +kernel
theorem dX12_joinShare_43 : decode cX12_joinShare 43 = .ok (.getfield 96, 3) := by decide +kernel
theorem dX12_joinShare_46 : decode cX12_joinShare 46 = .ok (.iload_n 2, 1) := by decide +kernel
theorem dX12_joinShare_47 : decode cX12_joinShare 47 = .ok (.iaload, 1) := by decide +kernel
theorem dX12_joinShare_48 : decode cX12_joinShare 48 = .ok (.iadd, 1) := by decide +kernel
theorem dX12_joinShare_49 : decode cX12_joinShare 49 = .ok (.iaload, 1) := by decide +kernel
theorem dX12_joinShare_50 : decode cX12_joinShare 50 = .ok (.imul, 1) := by decide +kernel
theorem dX12_joinShare_51 : decode cX12_joinShare 51 = .ok (.aload_n 0, 1) := by decide +kernel
theorem dX12_joinShare_52 : decode cX12_joinShare 52 = .ok (.getfield 99, 3) := by decide +kernel
theorem dX12_joinShare_55 : decode cX12_joinShare 55 = .ok (.iload_n 2, 1) := by decide +kernel
theorem dX12_joinShare_56 : decode cX12_joinShare 56 = .ok (.iaload, 1) := by decide +kernel
theorem dX12_joinShare_57 : decode cX12_joinShare 57 = .ok (.iadd, 1) := by decide +kernel
theorem dX12_joinShare_58 : decode cX12_joinShare 58 = .ok (.iaload, 1) := by decide +kernel
theorem dX12_joinShare_59 : decode cX12_joinShare 59 = .ok (.istore 4, 2) := by decide +kernel
theorem dX12_joinShare_61 : decode cX12_joinShare 61 = .ok (.ldc2_w 264, 3) := by decide +kernel
theorem dX12_joinShare_64 : decode cX12_joinShare 64 = .ok (.iconst 1, 1) := by decide +kernel
theorem dX12_joinShare_65 : decode cX12_joinShare 65 = .ok (.iload_n 3, 1) := by decide +kernel
theorem dX12_joinShare_66 : decode cX12_joinShare 66 = .ok (.iload 4, 2) := by decide +kernel
theorem dX12_joinShare_68 : decode cX12_joinShare 68 = .ok (.invokestatic 266, 3) := by decide +kernel
theorem dX12_joinShare_71 : decode cX12_joinShare 71 = .ok (.invokestatic 266, 3) := by decide +kernel
theorem dX12_joinShare_74 : decode cX12_joinShare 74 = .ok (.i2l, 1) := by decide +kernel
theorem dX12_joinShare_75 : decode cX12_joinShare 75 = .ok (.ldiv, 1) := by decide +kernel
theorem dX12_joinShare_76 : decode cX12_joinShare 76 = .ok (.lreturn, 1) := by decide +kernel
theorem dX12_costAt_0 : decode cX12_costAt 0 = .ok (.aload_n 0, 1) := by decide +kernel
theorem dX12_costAt_1 : decode cX12_costAt 1 = .ok (.getfield 69, 3) := by decide +kernel
theorem dX12_costAt_4 : decode cX12_costAt 4 = .ok (.iconst 3, 1) := by decide +kernel
theorem dX12_costAt_5 : decode cX12_costAt 5 = .ok (.iload_n 1, 1) := by decide +kernel
theorem dX12_costAt_6 : decode cX12_costAt 6 = .ok (.imul, 1) := by decide +kernel
theorem dX12_costAt_7 : decode cX12_costAt 7 = .ok (.aload_n 0, 1) := by decide +kernel
theorem dX12_costAt_8 : decode cX12_costAt 8 = .ok (.getfield 105, 3) := by decide +kernel
theorem dX12_costAt_11 : decode cX12_costAt 11 = .ok (.iload_n 2, 1) := by decide +kernel
theorem dX12_costAt_12 : decode cX12_costAt 12 = .ok (.iaload, 1) := by decide +kernel
theorem dX12_costAt_13 : decode cX12_costAt 13 = .ok (.iadd, 1) := by decide +kernel
theorem dX12_costAt_14 : decode cX12_costAt 14 = .ok (.iaload, 1) := by decide +kernel
theorem dX12_costAt_15 : decode cX12_costAt 15 = .ok (.istore_n 3, 1) := by decide +kernel
theorem dX12_costAt_16 : decode cX12_costAt 16 = .ok (.aload_n 0, 1) := by decide +kernel
theorem dX12_costAt_17 : decode cX12_costAt 17 = .ok (.getfield 108, 3) := by decide +kernel
theorem dX12_costAt_20 : decode cX12_costAt 20 = .ok (.iload_n 2, 1) := by decide +kernel
theorem dX12_costAt_21 : decode cX12_costAt 21 = .ok (.iaload, 1) := by decide +kernel
theorem dX12_costAt_22 : decode cX12_costAt 22 = .ok (.istore 4, 2) := by decide +kernel
theorem dX12_costAt_24 : decode cX12_costAt 24 = .ok (.iload 4, 2) := by decide +kernel
theorem dX12_costAt_26 : decode cX12_costAt 26 = .ok (.ifCond .ne 11, 3) := by decide +kernel
theorem dX12_costAt_29 : decode cX12_costAt 29 = .ok (.aload_n 0, 1) := by decide +kernel
theorem dX12_costAt_30 : decode cX12_costAt 30 = .ok (.getfield 32, 3) := by decide +kernel
theorem dX12_costAt_33 : decode cX12_costAt 33 = .ok (.iload_n 3, 1) := by decide +kernel
theorem dX12_costAt_34 : decode cX12_costAt 34 = .ok (.iaload, 1) := by decide +kernel
theorem dX12_costAt_35 : decode cX12_costAt 35 = .ok (.i2l, 1) := by decide +kernel
theorem dX12_costAt_36 : decode cX12_costAt 36 = .ok (.lreturn, 1) := by decide +kernel
theorem dX12_costAt_37 : decode cX12_costAt 37 = .ok (.iload 4, 2) := by decide +kernel
theorem dX12_costAt_39 : decode cX12_costAt 39 = .ok (.iconst 5, 1) := by decide +kernel
theorem dX12_costAt_40 : decode cX12_costAt 40 = .ok (.if_icmp .ge 31, 3) := by decide +kernel
theorem dX12_costAt_43 : decode cX12_costAt 43 = .ok (.lconst 1, 1) := by decide +kernel
theorem dX12_costAt_44 : decode cX12_costAt 44 = .ok (.aload_n 0, 1) := by decide +kernel
theorem dX12_costAt_45 : decode cX12_costAt 45 = .ok (.getfield 29, 3) := by decide +kernel
theorem dX12_costAt_48 : decode cX12_costAt 48 = .ok (.iload_n 3, 1) := by decide +kernel
theorem dX12_costAt_49 : decode cX12_costAt 49 = .ok (.iaload, 1) := by decide +kernel
theorem dX12_costAt_50 : decode cX12_costAt 50 = .ok (.i2l, 1) := by decide +kernel
theorem dX12_costAt_51 : decode cX12_costAt 51 = .ok (.aload_n 0, 1) := by decide +kernel
theorem dX12_costAt_52 : decode cX12_costAt 52 = .ok (.iload_n 1, 1) := by decide +kernel
theorem dX12_costAt_53 : decode cX12_costAt 53 = .ok (.iconst 4, 1) := by decide +kernel
theorem dX12_costAt_54 : decode cX12_costAt 54 = .ok (.iload_n 1, 1) := by decide +kernel
theorem dX12_costAt_55 : decode cX12_costAt 55 = .ok (.imul, 1) := by decide +kernel
theorem dX12_costAt_56 : decode cX12_costAt 56 = .ok (.iload 4, 2) := by decide +kernel
theorem dX12_costAt_58 : decode cX12_costAt 58 = .ok (.iadd, 1) := by decide +kernel
theorem dX12_costAt_59 : decode cX12_costAt 59 = .ok (.iconst 1, 1) := by decide +kernel
theorem dX12_costAt_60 : decode cX12_costAt 60 = .ok (.isub, 1) := by decide +kernel
theorem dX12_costAt_61 : decode cX12_costAt 61 = .ok (.invokevirtual 269, 3) := by decide +kernel
theorem dX12_costAt_64 : decode cX12_costAt 64 = .ok (.lmul, 1) := by decide +kernel
theorem dX12_costAt_65 : decode cX12_costAt 65 = .ok (.ldc2_w 264, 3) := by decide +kernel
theorem dX12_costAt_68 : decode cX12_costAt 68 = .ok (.ldiv, 1) := by decide +kernel
theorem dX12_costAt_69 : decode cX12_costAt 69 = .ok (.ladd, 1) := by decide +kernel
theorem dX12_costAt_70 : decode cX12_costAt 70 = .ok (.lreturn, 1) := by decide +kernel
theorem dX12_costAt_71 : decode cX12_costAt 71 = .ok (.lconst 1, 1) := by decide +kernel
theorem dX12_costAt_72 : decode cX12_costAt 72 = .ok (.aload_n 0, 1) := by decide +kernel
theorem dX12_costAt_73 : decode cX12_costAt 73 = .ok (.getfield 29, 3) := by decide +kernel
theorem dX12_costAt_76 : decode cX12_costAt 76 = .ok (.iload_n 3, 1) := by decide +kernel
theorem dX12_costAt_77 : decode cX12_costAt 77 = .ok (.iaload, 1) := by decide +kernel
theorem dX12_costAt_78 : decode cX12_costAt 78 = .ok (.iconst 1, 1) := by decide +kernel
theorem dX12_costAt_79 : decode cX12_costAt 79 = .ok (.aload_n 0, 1) := by decide +kernel
theorem dX12_costAt_80 : decode cX12_costAt 80 = .ok (.getfield 35, 3) := by decide +kernel
theorem dX12_costAt_83 : decode cX12_costAt 83 = .ok (.iconst 3, 1) := by decide +kernel
theorem dX12_costAt_84 : decode cX12_costAt 84 = .ok (.iload_n 3, 1) := by decide +kernel
theorem dX12_costAt_85 : decode cX12_costAt 85 = .ok (.imul, 1) := by decide +kernel
theorem dX12_costAt_86 : decode cX12_costAt 86 = .ok (.aload_n 0, 1) := by decide +kernel
theorem dX12_costAt_87 : decode cX12_costAt 87 = .ok (.iconst 3, 1) := by decide +kernel
theorem dX12_costAt_88 : decode cX12_costAt 88 = .ok (.iload_n 1, 1) := by decide +kernel
theorem dX12_costAt_89 : decode cX12_costAt 89 = .ok (.imul, 1) := by decide +kernel
theorem dX12_costAt_90 : decode cX12_costAt 90 = .ok (.iload 4, 2) := by decide +kernel
theorem dX12_costAt_92 : decode cX12_costAt 92 = .ok (.iadd, 1) := by decide +kernel
theorem dX12_costAt_93 : decode cX12_costAt 93 = .ok (.iconst 5, 1) := by decide +kernel
theorem dX12_costAt_94 : decode cX12_costAt 94 = .ok (.isub, 1) := by decide +kernel
theorem dX12_costAt_95 : decode cX12_costAt 95 = .ok (.iload_n 2, 1) := by decide +kernel
theorem dX12_costAt_96 : decode cX12_costAt 96 = .ok (.invokevirtual 252, 3) := by decide +kernel
theorem dX12_costAt_99 : decode cX12_costAt 99 = .ok (.iadd, 1) := by decide +kernel
theorem dX12_costAt_100 : decode cX12_costAt 100 = .ok (.iaload, 1) := by decide +kernel
theorem dX12_costAt_101 : decode cX12_costAt 101 = .ok (.invokestatic 266, 3) := by decide +kernel
theorem dX12_costAt_104 : decode cX12_costAt 104 = .ok (.idiv, 1) := by decide +kernel
theorem dX12_costAt_105 : decode cX12_costAt 105 = .ok (.i2l, 1) := by decide +kernel
theorem dX12_costAt_106 : decode cX12_costAt 106 = .ok (.ladd, 1) := by decide +kernel
theorem dX12_costAt_107 : decode cX12_costAt 107 = .ok (.lreturn, 1) := by decide +kernel
theorem dX12_estimateOfPlan_0 : decode cX12_estimateOfPlan 0 = .ok (.lconst 0, 1) := by decide +kernel
theorem dX12_estimateOfPlan_1 : decode cX12_estimateOfPlan 1 = .ok (.lstore_n 2, 1) := by decide +kernel
theorem dX12_estimateOfPlan_2 : decode cX12_estimateOfPlan 2 = .ok (.lconst 1, 1) := by decide +kernel
theorem dX12_estimateOfPlan_3 : decode cX12_estimateOfPlan 3 = .ok (.lstore 4, 2) := by decide +kernel
theorem dX12_estimateOfPlan_5 : decode cX12_estimateOfPlan 5 = .ok (.iconst 0, 1) := by decide +kernel
theorem dX12_estimateOfPlan_6 : decode cX12_estimateOfPlan 6 = .ok (.istore 6, 2) := by decide +kernel
theorem dX12_estimateOfPlan_8 : decode cX12_estimateOfPlan 8 = .ok (.iload 6, 2) := by decide +kernel
theorem dX12_estimateOfPlan_10 : decode cX12_estimateOfPlan 10 = .ok (.aload_n 0, 1) := by decide +kernel
theorem dX12_estimateOfPlan_11 : decode cX12_estimateOfPlan 11 = .ok (.getfield 66, 3) := by decide +kernel
theorem dX12_estimateOfPlan_14 : decode cX12_estimateOfPlan 14 = .ok (.iload_n 1, 1) := by decide +kernel
theorem dX12_estimateOfPlan_15 : decode cX12_estimateOfPlan 15 = .ok (.iaload, 1) := by decide +kernel
theorem dX12_estimateOfPlan_16 : decode cX12_estimateOfPlan 16 = .ok (.if_icmp .ge 186, 3) := by decide +kernel
theorem dX12_estimateOfPlan_19 : decode cX12_estimateOfPlan 19 = .ok (.lload_n 2, 1) := by decide +kernel
theorem dX12_estimateOfPlan_20 : decode cX12_estimateOfPlan 20 = .ok (.lload 4, 2) := by decide +kernel
theorem dX12_estimateOfPlan_22 : decode cX12_estimateOfPlan 22 = .ok (.aload_n 0, 1) := by decide +kernel
theorem dX12_estimateOfPlan_23 : decode cX12_estimateOfPlan 23 = .ok (.iload_n 1, 1) := by decide +kernel
theorem dX12_estimateOfPlan_24 : decode cX12_estimateOfPlan 24 = .ok (.iload 6, 2) := by decide +kernel
theorem dX12_estimateOfPlan_26 : decode cX12_estimateOfPlan 26 = .ok (.invokevirtual 273, 3) := by decide +kernel
theorem dX12_estimateOfPlan_29 : decode cX12_estimateOfPlan 29 = .ok (.lmul, 1) := by decide +kernel
theorem dX12_estimateOfPlan_30 : decode cX12_estimateOfPlan 30 = .ok (.ladd, 1) := by decide +kernel
theorem dX12_estimateOfPlan_31 : decode cX12_estimateOfPlan 31 = .ok (.lstore_n 2, 1) := by decide +kernel
theorem dX12_estimateOfPlan_32 : decode cX12_estimateOfPlan 32 = .ok (.lload 4, 2) := by decide +kernel
theorem dX12_estimateOfPlan_34 : decode cX12_estimateOfPlan 34 = .ok (.aload_n 0, 1) := by decide +kernel
theorem dX12_estimateOfPlan_35 : decode cX12_estimateOfPlan 35 = .ok (.getfield 29, 3) := by decide +kernel
theorem dX12_estimateOfPlan_38 : decode cX12_estimateOfPlan 38 = .ok (.aload_n 0, 1) := by decide +kernel
theorem dX12_estimateOfPlan_39 : decode cX12_estimateOfPlan 39 = .ok (.getfield 69, 3) := by decide +kernel
theorem dX12_estimateOfPlan_42 : decode cX12_estimateOfPlan 42 = .ok (.iconst 3, 1) := by decide +kernel
theorem dX12_estimateOfPlan_43 : decode cX12_estimateOfPlan 43 = .ok (.iload_n 1, 1) := by decide +kernel
theorem dX12_estimateOfPlan_44 : decode cX12_estimateOfPlan 44 = .ok (.imul, 1) := by decide +kernel
theorem dX12_estimateOfPlan_45 : decode cX12_estimateOfPlan 45 = .ok (.aload_n 0, 1) := by decide +kernel
theorem dX12_estimateOfPlan_46 : decode cX12_estimateOfPlan 46 = .ok (.getfield 105, 3) := by decide +kernel
theorem dX12_estimateOfPlan_49 : decode cX12_estimateOfPlan 49 = .ok (.iload 6, 2) := by decide +kernel
theorem dX12_estimateOfPlan_51 : decode cX12_estimateOfPlan 51 = .ok (.iaload, 1) := by decide +kernel
theorem dX12_estimateOfPlan_52 : decode cX12_estimateOfPlan 52 = .ok (.iadd, 1) := by decide +kernel
theorem dX12_estimateOfPlan_53 : decode cX12_estimateOfPlan 53 = .ok (.iaload, 1) := by decide +kernel
theorem dX12_estimateOfPlan_54 : decode cX12_estimateOfPlan 54 = .ok (.iaload, 1) := by decide +kernel
theorem dX12_estimateOfPlan_55 : decode cX12_estimateOfPlan 55 = .ok (.i2l, 1) := by decide +kernel
theorem dX12_estimateOfPlan_56 : decode cX12_estimateOfPlan 56 = .ok (.lmul, 1) := by decide +kernel
theorem dX12_estimateOfPlan_57 : decode cX12_estimateOfPlan 57 = .ok (.lstore 4, 2) := by decide +kernel
theorem dX12_estimateOfPlan_59 : decode cX12_estimateOfPlan 59 = .ok (.iconst 4, 1) := by decide +kernel
theorem dX12_estimateOfPlan_60 : decode cX12_estimateOfPlan 60 = .ok (.iload_n 1, 1) := by decide +kernel
theorem dX12_estimateOfPlan_61 : decode cX12_estimateOfPlan 61 = .ok (.imul, 1) := by decide +kernel
theorem dX12_estimateOfPlan_62 : decode cX12_estimateOfPlan 62 = .ok (.istore 7, 2) := by decide +kernel
theorem dX12_estimateOfPlan_64 : decode cX12_estimateOfPlan 64 = .ok (.iload 7, 2) := by decide +kernel
theorem dX12_estimateOfPlan_66 : decode cX12_estimateOfPlan 66 = .ok (.iconst 4, 1) := by decide +kernel
theorem dX12_estimateOfPlan_67 : decode cX12_estimateOfPlan 67 = .ok (.iload_n 1, 1) := by decide +kernel
theorem dX12_estimateOfPlan_68 : decode cX12_estimateOfPlan 68 = .ok (.imul, 1) := by decide +kernel
theorem dX12_estimateOfPlan_69 : decode cX12_estimateOfPlan 69 = .ok (.aload_n 0, 1) := by decide +kernel
theorem dX12_estimateOfPlan_70 : decode cX12_estimateOfPlan 70 = .ok (.getfield 72, 3) := by decide +kernel
theorem dX12_estimateOfPlan_73 : decode cX12_estimateOfPlan 73 = .ok (.iload_n 1, 1) := by decide +kernel
theorem dX12_estimateOfPlan_74 : decode cX12_estimateOfPlan 74 = .ok (.iaload, 1) := by decide +kernel
theorem dX12_estimateOfPlan_75 : decode cX12_estimateOfPlan 75 = .ok (.iadd, 1) := by decide +kernel
theorem dX12_estimateOfPlan_76 : decode cX12_estimateOfPlan 76 = .ok (.if_icmp .ge 47, 3) := by decide +kernel
theorem dX12_estimateOfPlan_79 : decode cX12_estimateOfPlan 79 = .ok (.aload_n 0, 1) := by decide +kernel
theorem dX12_estimateOfPlan_80 : decode cX12_estimateOfPlan 80 = .ok (.getfield 75, 3) := by decide +kernel
theorem dX12_estimateOfPlan_83 : decode cX12_estimateOfPlan 83 = .ok (.iload 7, 2) := by decide +kernel
theorem dX12_estimateOfPlan_85 : decode cX12_estimateOfPlan 85 = .ok (.iaload, 1) := by decide +kernel
theorem dX12_estimateOfPlan_86 : decode cX12_estimateOfPlan 86 = .ok (.aload_n 0, 1) := by decide +kernel
theorem dX12_estimateOfPlan_87 : decode cX12_estimateOfPlan 87 = .ok (.getfield 105, 3) := by decide +kernel
theorem dX12_estimateOfPlan_90 : decode cX12_estimateOfPlan 90 = .ok (.iload 6, 2) := by decide +kernel
theorem dX12_estimateOfPlan_92 : decode cX12_estimateOfPlan 92 = .ok (.iaload, 1) := by decide +kernel
theorem dX12_estimateOfPlan_93 : decode cX12_estimateOfPlan 93 = .ok (.if_icmp .ne 20, 3) := by decide +kernel
theorem dX12_estimateOfPlan_96 : decode cX12_estimateOfPlan 96 = .ok (.lload 4, 2) := by decide +kernel
theorem dX12_estimateOfPlan_98 : decode cX12_estimateOfPlan 98 = .ok (.aload_n 0, 1) := by decide +kernel
theorem dX12_estimateOfPlan_99 : decode cX12_estimateOfPlan 99 = .ok (.iload_n 1, 1) := by decide +kernel
theorem dX12_estimateOfPlan_100 : decode cX12_estimateOfPlan 100 = .ok (.iload 7, 2) := by decide +kernel
theorem dX12_estimateOfPlan_102 : decode cX12_estimateOfPlan 102 = .ok (.invokevirtual 269, 3) := by decide +kernel
theorem dX12_estimateOfPlan_105 : decode cX12_estimateOfPlan 105 = .ok (.lmul, 1) := by decide +kernel
theorem dX12_estimateOfPlan_106 : decode cX12_estimateOfPlan 106 = .ok (.ldc2_w 264, 3) := by decide +kernel
theorem dX12_estimateOfPlan_109 : decode cX12_estimateOfPlan 109 = .ok (.ldiv, 1) := by decide +kernel
theorem dX12_estimateOfPlan_110 : decode cX12_estimateOfPlan 110 = .ok (.goto 5, 3) := by decide +kernel
theorem dX12_estimateOfPlan_113 : decode cX12_estimateOfPlan 113 = .ok (.lload 4, 2) := by decide +kernel
theorem dX12_estimateOfPlan_115 : decode cX12_estimateOfPlan 115 = .ok (.lstore 4, 2) := by decide +kernel
theorem dX12_estimateOfPlan_117 : decode cX12_estimateOfPlan 117 = .ok (.iinc 7 1, 3) := by decide +kernel
theorem dX12_estimateOfPlan_120 : decode cX12_estimateOfPlan 120 = .ok (.goto (-56), 3) := by decide +kernel
theorem dX12_estimateOfPlan_123 : decode cX12_estimateOfPlan 123 = .ok (.iconst 3, 1) := by decide +kernel
theorem dX12_estimateOfPlan_124 : decode cX12_estimateOfPlan 124 = .ok (.iload_n 1, 1) := by decide +kernel
theorem dX12_estimateOfPlan_125 : decode cX12_estimateOfPlan 125 = .ok (.imul, 1) := by decide +kernel
theorem dX12_estimateOfPlan_126 : decode cX12_estimateOfPlan 126 = .ok (.istore 7, 2) := by decide +kernel
theorem dX12_estimateOfPlan_128 : decode cX12_estimateOfPlan 128 = .ok (.iload 7, 2) := by decide +kernel
theorem dX12_estimateOfPlan_130 : decode cX12_estimateOfPlan 130 = .ok (.iconst 3, 1) := by decide +kernel
theorem dX12_estimateOfPlan_131 : decode cX12_estimateOfPlan 131 = .ok (.iload_n 1, 1) := by decide +kernel
theorem dX12_estimateOfPlan_132 : decode cX12_estimateOfPlan 132 = .ok (.imul, 1) := by decide +kernel
theorem dX12_estimateOfPlan_133 : decode cX12_estimateOfPlan 133 = .ok (.aload_n 0, 1) := by decide +kernel
theorem dX12_estimateOfPlan_134 : decode cX12_estimateOfPlan 134 = .ok (.getfield 87, 3) := by decide +kernel
theorem dX12_estimateOfPlan_137 : decode cX12_estimateOfPlan 137 = .ok (.iload_n 1, 1) := by decide +kernel
theorem dX12_estimateOfPlan_138 : decode cX12_estimateOfPlan 138 = .ok (.iaload, 1) := by decide +kernel
theorem dX12_estimateOfPlan_139 : decode cX12_estimateOfPlan 139 = .ok (.iadd, 1) := by decide +kernel
theorem dX12_estimateOfPlan_140 : decode cX12_estimateOfPlan 140 = .ok (.if_icmp .ge 41, 3) := by decide +kernel
theorem dX12_estimateOfPlan_143 : decode cX12_estimateOfPlan 143 = .ok (.aload_n 0, 1) := by decide +kernel
theorem dX12_estimateOfPlan_144 : decode cX12_estimateOfPlan 144 = .ok (.iload 7, 2) := by decide +kernel
theorem dX12_estimateOfPlan_146 : decode cX12_estimateOfPlan 146 = .ok (.iload 6, 2) := by decide +kernel
theorem dX12_estimateOfPlan_148 : decode cX12_estimateOfPlan 148 = .ok (.invokevirtual 252, 3) := by decide +kernel
theorem dX12_estimateOfPlan_151 : decode cX12_estimateOfPlan 151 = .ok (.ifCond .lt 20, 3) := by decide +kernel
theorem dX12_estimateOfPlan_154 : decode cX12_estimateOfPlan 154 = .ok (.lload 4, 2) := by decide +kernel
theorem dX12_estimateOfPlan_156 : decode cX12_estimateOfPlan 156 = .ok (.aload_n 0, 1) := by decide +kernel
theorem dX12_estimateOfPlan_157 : decode cX12_estimateOfPlan 157 = .ok (.iload_n 1, 1) := by decide +kernel
theorem dX12_estimateOfPlan_158 : decode cX12_estimateOfPlan 158 = .ok (.iload 7, 2) := by decide +kernel
theorem dX12_estimateOfPlan_160 : decode cX12_estimateOfPlan 160 = .ok (.invokevirtual 276, 3) := by decide +kernel
theorem dX12_estimateOfPlan_163 : decode cX12_estimateOfPlan 163 = .ok (.lmul, 1) := by decide +kernel
theorem dX12_estimateOfPlan_164 : decode cX12_estimateOfPlan 164 = .ok (.ldc2_w 264, 3) := by decide +kernel
theorem dX12_estimateOfPlan_167 : decode cX12_estimateOfPlan 167 = .ok (.ldiv, 1) := by decide +kernel
theorem dX12_estimateOfPlan_168 : decode cX12_estimateOfPlan 168 = .ok (.goto 5, 3) := by decide +kernel
theorem dX12_estimateOfPlan_171 : decode cX12_estimateOfPlan 171 = .ok (.lload 4, 2) := by decide +kernel
theorem dX12_estimateOfPlan_173 : decode cX12_estimateOfPlan 173 = .ok (.lstore 4, 2) := by decide +kernel
theorem dX12_estimateOfPlan_175 : decode cX12_estimateOfPlan 175 = .ok (.iinc 7 1, 3) := by decide +kernel
theorem dX12_estimateOfPlan_178 : decode cX12_estimateOfPlan 178 = .ok (.goto (-50), 3) := by decide +kernel
theorem dX12_estimateOfPlan_181 : decode cX12_estimateOfPlan 181 = .ok (.lload 4, 2) := by decide +kernel
theorem dX12_estimateOfPlan_183 : decode cX12_estimateOfPlan 183 = .ok (.lconst 1, 1) := by decide +kernel
theorem dX12_estimateOfPlan_184 : decode cX12_estimateOfPlan 184 = .ok (.lcmp, 1) := by decide +kernel
theorem dX12_estimateOfPlan_185 : decode cX12_estimateOfPlan 185 = .ok (.ifCond .ge 7, 3) := by decide +kernel
theorem dX12_estimateOfPlan_188 : decode cX12_estimateOfPlan 188 = .ok (.lconst 1, 1) := by decide +kernel
theorem dX12_estimateOfPlan_189 : decode cX12_estimateOfPlan 189 = .ok (.goto 5, 3) := by decide +kernel
theorem dX12_estimateOfPlan_192 : decode cX12_estimateOfPlan 192 = .ok (.lload 4, 2) := by decide +kernel
theorem dX12_estimateOfPlan_194 : decode cX12_estimateOfPlan 194 = .ok (.lstore 4, 2) := by decide +kernel
theorem dX12_estimateOfPlan_196 : decode cX12_estimateOfPlan 196 = .ok (.iinc 6 1, 3) := by decide +kernel
theorem dX12_estimateOfPlan_199 : decode cX12_estimateOfPlan 199 = .ok (.goto (-191), 3) := by decide +kernel
theorem dX12_estimateOfPlan_202 : decode cX12_estimateOfPlan 202 = .ok (.lload_n 2, 1) := by decide +kernel
theorem dX12_estimateOfPlan_203 : decode cX12_estimateOfPlan 203 = .ok (.lreturn, 1) := by decide +kernel
theorem dX12_digit_0 : decode cX12_digit 0 = .ok (.iload_n 0, 1) := by decide +kernel
theorem dX12_digit_1 : decode cX12_digit 1 = .ok (.istore_n 3, 1) := by decide +kernel
theorem dX12_digit_2 : decode cX12_digit 2 = .ok (.iload_n 1, 1) := by decide +kernel
theorem dX12_digit_3 : decode cX12_digit 3 = .ok (.istore 4, 2) := by decide +kernel
theorem dX12_digit_5 : decode cX12_digit 5 = .ok (.iload 4, 2) := by decide +kernel
theorem dX12_digit_7 : decode cX12_digit 7 = .ok (.iconst 2, 1) := by decide +kernel
theorem dX12_digit_8 : decode cX12_digit 8 = .ok (.if_icmp .ge 13, 3) := by decide +kernel
theorem dX12_digit_11 : decode cX12_digit 11 = .ok (.iload_n 3, 1) := by decide +kernel
theorem dX12_digit_12 : decode cX12_digit 12 = .ok (.iload_n 2, 1) := by decide +kernel
theorem dX12_digit_13 : decode cX12_digit 13 = .ok (.idiv, 1) := by decide +kernel
theorem dX12_digit_14 : decode cX12_digit 14 = .ok (.istore_n 3, 1) := by decide +kernel
theorem dX12_digit_15 : decode cX12_digit 15 = .ok (.iinc 4 1, 3) := by decide +kernel
theorem dX12_digit_18 : decode cX12_digit 18 = .ok (.goto (-13), 3) := by decide +kernel
theorem dX12_digit_21 : decode cX12_digit 21 = .ok (.iload_n 3, 1) := by decide +kernel
theorem dX12_digit_22 : decode cX12_digit 22 = .ok (.iload_n 2, 1) := by decide +kernel
theorem dX12_digit_23 : decode cX12_digit 23 = .ok (.irem, 1) := by decide +kernel
theorem dX12_digit_24 : decode cX12_digit 24 = .ok (.ireturn, 1) := by decide +kernel
theorem dX12_laysOrder_0 : decode cX12_laysOrder 0 = .ok (.iconst 0, 1) := by decide +kernel
theorem dX12_laysOrder_1 : decode cX12_laysOrder 1 = .ok (.istore_n 3, 1) := by decide +kernel
theorem dX12_laysOrder_2 : decode cX12_laysOrder 2 = .ok (.iconst 1, 1) := by decide +kernel
theorem dX12_laysOrder_3 : decode cX12_laysOrder 3 = .ok (.istore 4, 2) := by decide +kernel
theorem dX12_laysOrder_5 : decode cX12_laysOrder 5 = .ok (.iconst 0, 1) := by decide +kernel
theorem dX12_laysOrder_6 : decode cX12_laysOrder 6 = .ok (.istore 5, 2) := by decide +kernel
theorem dX12_laysOrder_8 : decode cX12_laysOrder 8 = .ok (.iload 5, 2) := by decide +kernel
theorem dX12_laysOrder_10 : decode cX12_laysOrder 10 = .ok (.iconst 3, 1) := by decide +kernel
theorem dX12_laysOrder_11 : decode cX12_laysOrder 11 = .ok (.if_icmp .ge 65, 3) := by decide +kernel
theorem dX12_laysOrder_14 : decode cX12_laysOrder 14 = .ok (.iload_n 2, 1) := by decide +kernel
theorem dX12_laysOrder_15 : decode cX12_laysOrder 15 = .ok (.iload 5, 2) := by decide +kernel
theorem dX12_laysOrder_17 : decode cX12_laysOrder 17 = .ok (.iconst 3, 1) := by decide +kernel
theorem dX12_laysOrder_18 : decode cX12_laysOrder 18 = .ok (.invokestatic 279, 3) := by decide +kernel
theorem dX12_laysOrder_21 : decode cX12_laysOrder 21 = .ok (.istore 6, 2) := by decide +kernel
theorem dX12_laysOrder_23 : decode cX12_laysOrder 23 = .ok (.iload 5, 2) := by decide +kernel
theorem dX12_laysOrder_25 : decode cX12_laysOrder 25 = .ok (.aload_n 0, 1) := by decide +kernel
theorem dX12_laysOrder_26 : decode cX12_laysOrder 26 = .ok (.getfield 66, 3) := by decide +kernel
theorem dX12_laysOrder_29 : decode cX12_laysOrder 29 = .ok (.iload_n 1, 1) := by decide +kernel
theorem dX12_laysOrder_30 : decode cX12_laysOrder 30 = .ok (.iaload, 1) := by decide +kernel
theorem dX12_laysOrder_31 : decode cX12_laysOrder 31 = .ok (.if_icmp .ge 22, 3) := by decide +kernel
theorem dX12_laysOrder_34 : decode cX12_laysOrder 34 = .ok (.aload_n 0, 1) := by decide +kernel
theorem dX12_laysOrder_35 : decode cX12_laysOrder 35 = .ok (.getfield 105, 3) := by decide +kernel
theorem dX12_laysOrder_38 : decode cX12_laysOrder 38 = .ok (.iload 5, 2) := by decide +kernel
theorem dX12_laysOrder_40 : decode cX12_laysOrder 40 = .ok (.iload 6, 2) := by decide +kernel
theorem dX12_laysOrder_42 : decode cX12_laysOrder 42 = .ok (.iastore, 1) := by decide +kernel
theorem dX12_laysOrder_43 : decode cX12_laysOrder 43 = .ok (.iload_n 3, 1) := by decide +kernel
theorem dX12_laysOrder_44 : decode cX12_laysOrder 44 = .ok (.iconst 1, 1) := by decide +kernel
theorem dX12_laysOrder_45 : decode cX12_laysOrder 45 = .ok (.iload 6, 2) := by decide +kernel
theorem dX12_laysOrder_47 : decode cX12_laysOrder 47 = .ok (.ishl, 1) := by decide +kernel
theorem dX12_laysOrder_48 : decode cX12_laysOrder 48 = .ok (.ior, 1) := by decide +kernel
theorem dX12_laysOrder_49 : decode cX12_laysOrder 49 = .ok (.istore_n 3, 1) := by decide +kernel
theorem dX12_laysOrder_50 : decode cX12_laysOrder 50 = .ok (.goto 20, 3) := by decide +kernel
theorem dX12_laysOrder_53 : decode cX12_laysOrder 53 = .ok (.iload 4, 2) := by decide +kernel
theorem dX12_laysOrder_55 : decode cX12_laysOrder 55 = .ok (.ifCond .eq 12, 3) := by decide +kernel
theorem dX12_laysOrder_58 : decode cX12_laysOrder 58 = .ok (.iload 6, 2) := by decide +kernel
theorem dX12_laysOrder_60 : decode cX12_laysOrder 60 = .ok (.ifCond .ne 7, 3) := by decide +kernel
theorem dX12_laysOrder_63 : decode cX12_laysOrder 63 = .ok (.iconst 1, 1) := by decide +kernel
theorem dX12_laysOrder_64 : decode cX12_laysOrder 64 = .ok (.goto 4, 3) := by decide +kernel
theorem dX12_laysOrder_67 : decode cX12_laysOrder 67 = .ok (.iconst 0, 1) := by decide +kernel
theorem dX12_laysOrder_68 : decode cX12_laysOrder 68 = .ok (.istore 4, 2) := by decide +kernel
theorem dX12_laysOrder_70 : decode cX12_laysOrder 70 = .ok (.iinc 5 1, 3) := by decide +kernel
theorem dX12_laysOrder_73 : decode cX12_laysOrder 73 = .ok (.goto (-65), 3) := by decide +kernel
theorem dX12_laysOrder_76 : decode cX12_laysOrder 76 = .ok (.iload 4, 2) := by decide +kernel
theorem dX12_laysOrder_78 : decode cX12_laysOrder 78 = .ok (.ifCond .eq 21, 3) := by decide +kernel
theorem dX12_laysOrder_81 : decode cX12_laysOrder 81 = .ok (.iload_n 3, 1) := by decide +kernel
theorem dX12_laysOrder_82 : decode cX12_laysOrder 82 = .ok (.iconst 1, 1) := by decide +kernel
theorem dX12_laysOrder_83 : decode cX12_laysOrder 83 = .ok (.aload_n 0, 1) := by decide +kernel
theorem dX12_laysOrder_84 : decode cX12_laysOrder 84 = .ok (.getfield 66, 3) := by decide +kernel
theorem dX12_laysOrder_87 : decode cX12_laysOrder 87 = .ok (.iload_n 1, 1) := by decide +kernel
theorem dX12_laysOrder_88 : decode cX12_laysOrder 88 = .ok (.iaload, 1) := by decide +kernel
theorem dX12_laysOrder_89 : decode cX12_laysOrder 89 = .ok (.ishl, 1) := by decide +kernel
theorem dX12_laysOrder_90 : decode cX12_laysOrder 90 = .ok (.iconst 1, 1) := by decide +kernel
theorem dX12_laysOrder_91 : decode cX12_laysOrder 91 = .ok (.isub, 1) := by decide +kernel
theorem dX12_laysOrder_92 : decode cX12_laysOrder 92 = .ok (.if_icmp .ne 7, 3) := by decide +kernel
theorem dX12_laysOrder_95 : decode cX12_laysOrder 95 = .ok (.iconst 1, 1) := by decide +kernel
theorem dX12_laysOrder_96 : decode cX12_laysOrder 96 = .ok (.goto 4, 3) := by decide +kernel
theorem dX12_laysOrder_99 : decode cX12_laysOrder 99 = .ok (.iconst 0, 1) := by decide +kernel
theorem dX12_laysOrder_100 : decode cX12_laysOrder 100 = .ok (.ireturn, 1) := by decide +kernel
theorem dX12_laysWays_0 : decode cX12_laysWays 0 = .ok (.iconst 1, 1) := by decide +kernel
theorem dX12_laysWays_1 : decode cX12_laysWays 1 = .ok (.istore_n 3, 1) := by decide +kernel
theorem dX12_laysWays_2 : decode cX12_laysWays 2 = .ok (.iconst 0, 1) := by decide +kernel
theorem dX12_laysWays_3 : decode cX12_laysWays 3 = .ok (.istore 4, 2) := by decide +kernel
theorem dX12_laysWays_5 : decode cX12_laysWays 5 = .ok (.iload 4, 2) := by decide +kernel
theorem dX12_laysWays_7 : decode cX12_laysWays 7 = .ok (.iconst 3, 1) := by decide +kernel
theorem dX12_laysWays_8 : decode cX12_laysWays 8 = .ok (.if_icmp .ge 94, 3) := by decide +kernel
theorem dX12_laysWays_11 : decode cX12_laysWays 11 = .ok (.iload_n 2, 1) := by decide +kernel
theorem dX12_laysWays_12 : decode cX12_laysWays 12 = .ok (.iload 4, 2) := by decide +kernel
theorem dX12_laysWays_14 : decode cX12_laysWays 14 = .ok (.bipush 8, 2) := by decide +kernel
theorem dX12_laysWays_16 : decode cX12_laysWays 16 = .ok (.invokestatic 279, 3) := by decide +kernel
theorem dX12_laysWays_19 : decode cX12_laysWays 19 = .ok (.istore 5, 2) := by decide +kernel
theorem dX12_laysWays_21 : decode cX12_laysWays 21 = .ok (.iload 4, 2) := by decide +kernel
theorem dX12_laysWays_23 : decode cX12_laysWays 23 = .ok (.aload_n 0, 1) := by decide +kernel
theorem dX12_laysWays_24 : decode cX12_laysWays 24 = .ok (.getfield 66, 3) := by decide +kernel
theorem dX12_laysWays_27 : decode cX12_laysWays 27 = .ok (.iload_n 1, 1) := by decide +kernel
theorem dX12_laysWays_28 : decode cX12_laysWays 28 = .ok (.iaload, 1) := by decide +kernel
theorem dX12_laysWays_29 : decode cX12_laysWays 29 = .ok (.if_icmp .lt 21, 3) := by decide +kernel
theorem dX12_laysWays_32 : decode cX12_laysWays 32 = .ok (.iload_n 3, 1) := by decide +kernel
theorem dX12_laysWays_33 : decode cX12_laysWays 33 = .ok (.ifCond .eq 12, 3) := by decide +kernel
theorem dX12_laysWays_36 : decode cX12_laysWays 36 = .ok (.iload 5, 2) := by decide +kernel
theorem dX12_laysWays_38 : decode cX12_laysWays 38 = .ok (.ifCond .ne 7, 3) := by decide +kernel
theorem dX12_laysWays_41 : decode cX12_laysWays 41 = .ok (.iconst 1, 1) := by decide +kernel
theorem dX12_laysWays_42 : decode cX12_laysWays 42 = .ok (.goto 4, 3) := by decide +kernel
theorem dX12_laysWays_45 : decode cX12_laysWays 45 = .ok (.iconst 0, 1) := by decide +kernel
theorem dX12_laysWays_46 : decode cX12_laysWays 46 = .ok (.istore_n 3, 1) := by decide +kernel
theorem dX12_laysWays_47 : decode cX12_laysWays 47 = .ok (.goto 49, 3) := by decide +kernel
theorem dX12_laysWays_50 : decode cX12_laysWays 50 = .ok (.iload_n 3, 1) := by decide +kernel
theorem dX12_laysWays_51 : decode cX12_laysWays 51 = .ok (.ifCond .eq 45, 3) := by decide +kernel
theorem dX12_laysWays_54 : decode cX12_laysWays 54 = .ok (.aload_n 0, 1) := by decide +kernel
theorem dX12_laysWays_55 : decode cX12_laysWays 55 = .ok (.iload_n 1, 1) := by decide +kernel
theorem dX12_laysWays_56 : decode cX12_laysWays 56 = .ok (.iload 4, 2) := by decide +kernel
theorem dX12_laysWays_58 : decode cX12_laysWays 58 = .ok (.iload 5, 2) := by decide +kernel
theorem dX12_laysWays_60 : decode cX12_laysWays 60 = .ok (.invokevirtual 258, 3) := by decide +kernel
theorem dX12_laysWays_63 : decode cX12_laysWays 63 = .ok (.istore 6, 2) := by decide +kernel
theorem dX12_laysWays_65 : decode cX12_laysWays 65 = .ok (.aload_n 0, 1) := by decide +kernel
theorem dX12_laysWays_66 : decode cX12_laysWays 66 = .ok (.getfield 108, 3) := by decide +kernel
theorem dX12_laysWays_69 : decode cX12_laysWays 69 = .ok (.iload 4, 2) := by decide +kernel
theorem dX12_laysWays_71 : decode cX12_laysWays 71 = .ok (.iload 5, 2) := by decide +kernel
theorem dX12_laysWays_73 : decode cX12_laysWays 73 = .ok (.iastore, 1) := by decide +kernel
theorem dX12_laysWays_74 : decode cX12_laysWays 74 = .ok (.aload_n 0, 1) := by decide +kernel
theorem dX12_laysWays_75 : decode cX12_laysWays 75 = .ok (.getfield 111, 3) := by decide +kernel
theorem dX12_laysWays_78 : decode cX12_laysWays 78 = .ok (.iload 4, 2) := by decide +kernel
theorem dX12_laysWays_80 : decode cX12_laysWays 80 = .ok (.iload 6, 2) := by decide +kernel
theorem dX12_laysWays_82 : decode cX12_laysWays 82 = .ok (.iastore, 1) := by decide +kernel
theorem dX12_laysWays_83 : decode cX12_laysWays 83 = .ok (.iload 6, 2) := by decide +kernel
theorem dX12_laysWays_85 : decode cX12_laysWays 85 = .ok (.bipush (-2), 2) := by decide +kernel
theorem dX12_laysWays_87 : decode cX12_laysWays 87 = .ok (.if_icmp .le 7, 3) := by decide +kernel
theorem dX12_laysWays_90 : decode cX12_laysWays 90 = .ok (.iconst 1, 1) := by decide +kernel
theorem dX12_laysWays_91 : decode cX12_laysWays 91 = .ok (.goto 4, 3) := by decide +kernel
theorem dX12_laysWays_94 : decode cX12_laysWays 94 = .ok (.iconst 0, 1) := by decide +kernel
theorem dX12_laysWays_95 : decode cX12_laysWays 95 = .ok (.istore_n 3, 1) := by decide +kernel
theorem dX12_laysWays_96 : decode cX12_laysWays 96 = .ok (.iinc 4 1, 3) := by decide +kernel
theorem dX12_laysWays_99 : decode cX12_laysWays 99 = .ok (.goto (-94), 3) := by decide +kernel
theorem dX12_laysWays_102 : decode cX12_laysWays 102 = .ok (.iload_n 3, 1) := by decide +kernel
theorem dX12_laysWays_103 : decode cX12_laysWays 103 = .ok (.ireturn, 1) := by decide +kernel
theorem dX12_plansByCounts_0 : decode cX12_plansByCounts 0 = .ok (.ldc2_w 282, 3) := by decide +kernel
theorem dX12_plansByCounts_3 : decode cX12_plansByCounts 3 = .ok (.lstore_n 2, 1) := by decide +kernel
theorem dX12_plansByCounts_4 : decode cX12_plansByCounts 4 = .ok (.iconst 0, 1) := by decide +kernel
theorem dX12_plansByCounts_5 : decode cX12_plansByCounts 5 = .ok (.istore 4, 2) := by decide +kernel
theorem dX12_plansByCounts_7 : decode cX12_plansByCounts 7 = .ok (.iload 4, 2) := by decide +kernel
theorem dX12_plansByCounts_9 : decode cX12_plansByCounts 9 = .ok (.bipush 27, 2) := by decide +kernel
theorem dX12_plansByCounts_11 : decode cX12_plansByCounts 11 = .ok (.if_icmp .ge 71, 3) := by decide +kernel
theorem dX12_plansByCounts_14 : decode cX12_plansByCounts 14 = .ok (.aload_n 0, 1) := by decide +kernel
theorem dX12_plansByCounts_15 : decode cX12_plansByCounts 15 = .ok (.iload_n 1, 1) := by decide +kernel
theorem dX12_plansByCounts_16 : decode cX12_plansByCounts 16 = .ok (.iload 4, 2) := by decide +kernel
theorem dX12_plansByCounts_18 : decode cX12_plansByCounts 18 = .ok (.invokevirtual 284, 3) := by decide +kernel
theorem dX12_plansByCounts_21 : decode cX12_plansByCounts 21 = .ok (.istore 5, 2) := by decide +kernel
theorem dX12_plansByCounts_23 : decode cX12_plansByCounts 23 = .ok (.iconst 0, 1) := by decide +kernel
theorem dX12_plansByCounts_24 : decode cX12_plansByCounts 24 = .ok (.istore 6, 2) := by decide +kernel
theorem dX12_plansByCounts_26 : decode cX12_plansByCounts 26 = .ok (.iload 6, 2) := by decide +kernel
theorem dX12_plansByCounts_28 : decode cX12_plansByCounts 28 = .ok (.sipush 512, 3) := by decide +kernel
theorem dX12_plansByCounts_31 : decode cX12_plansByCounts 31 = .ok (.if_icmp .ge 45, 3) := by decide +kernel
theorem dX12_plansByCounts_34 : decode cX12_plansByCounts 34 = .ok (.iload 5, 2) := by decide +kernel
theorem dX12_plansByCounts_36 : decode cX12_plansByCounts 36 = .ok (.ifCond .eq 40, 3) := by decide +kernel
theorem dX12_plansByCounts_39 : decode cX12_plansByCounts 39 = .ok (.aload_n 0, 1) := by decide +kernel
theorem dX12_plansByCounts_40 : decode cX12_plansByCounts 40 = .ok (.iload_n 1, 1) := by decide +kernel
theorem dX12_plansByCounts_41 : decode cX12_plansByCounts 41 = .ok (.iload 6, 2) := by decide +kernel
theorem dX12_plansByCounts_43 : decode cX12_plansByCounts 43 = .ok (.invokevirtual 287, 3) := by decide +kernel
theorem dX12_plansByCounts_46 : decode cX12_plansByCounts 46 = .ok (.ifCond .eq 24, 3) := by decide +kernel
theorem dX12_plansByCounts_49 : decode cX12_plansByCounts 49 = .ok (.aload_n 0, 1) := by decide +kernel
theorem dX12_plansByCounts_50 : decode cX12_plansByCounts 50 = .ok (.iload_n 1, 1) := by decide +kernel
theorem dX12_plansByCounts_51 : decode cX12_plansByCounts 51 = .ok (.invokevirtual 290, 3) := by decide +kernel
theorem dX12_plansByCounts_54 : decode cX12_plansByCounts 54 = .ok (.lstore 7, 2) := by decide +kernel
theorem dX12_plansByCounts_56 : decode cX12_plansByCounts 56 = .ok (.lload 7, 2) := by decide +kernel
theorem dX12_plansByCounts_58 : decode cX12_plansByCounts 58 = .ok (.lload_n 2, 1) := by decide +kernel
theorem dX12_plansByCounts_59 : decode cX12_plansByCounts 59 = .ok (.lcmp, 1) := by decide +kernel
theorem dX12_plansByCounts_60 : decode cX12_plansByCounts 60 = .ok (.ifCond .ge 10, 3) := by decide +kernel
theorem dX12_plansByCounts_63 : decode cX12_plansByCounts 63 = .ok (.lload 7, 2) := by decide +kernel
theorem dX12_plansByCounts_65 : decode cX12_plansByCounts 65 = .ok (.lstore_n 2, 1) := by decide +kernel
theorem dX12_plansByCounts_66 : decode cX12_plansByCounts 66 = .ok (.aload_n 0, 1) := by decide +kernel
theorem dX12_plansByCounts_67 : decode cX12_plansByCounts 67 = .ok (.invokevirtual 294, 3) := by decide +kernel
theorem dX12_plansByCounts_70 : decode cX12_plansByCounts 70 = .ok (.iinc 6 1, 3) := by decide +kernel
theorem dX12_plansByCounts_73 : decode cX12_plansByCounts 73 = .ok (.goto (-47), 3) := by decide +kernel
theorem dX12_plansByCounts_76 : decode cX12_plansByCounts 76 = .ok (.iinc 4 1, 3) := by decide +kernel
theorem dX12_plansByCounts_79 : decode cX12_plansByCounts 79 = .ok (.goto (-72), 3) := by decide +kernel
theorem dX12_plansByCounts_82 : decode cX12_plansByCounts 82 = .ok (.iconst 0, 1) := by decide +kernel
theorem dX12_plansByCounts_83 : decode cX12_plansByCounts 83 = .ok (.istore 4, 2) := by decide +kernel
theorem dX12_plansByCounts_85 : decode cX12_plansByCounts 85 = .ok (.iload 4, 2) := by decide +kernel
theorem dX12_plansByCounts_87 : decode cX12_plansByCounts 87 = .ok (.iconst 3, 1) := by decide +kernel
theorem dX12_plansByCounts_88 : decode cX12_plansByCounts 88 = .ok (.if_icmp .ge 51, 3) := by decide +kernel
theorem dX12_plansByCounts_91 : decode cX12_plansByCounts 91 = .ok (.aload_n 0, 1) := by decide +kernel
theorem dX12_plansByCounts_92 : decode cX12_plansByCounts 92 = .ok (.getfield 105, 3) := by decide +kernel
theorem dX12_plansByCounts_95 : decode cX12_plansByCounts 95 = .ok (.iload 4, 2) := by decide +kernel
theorem dX12_plansByCounts_97 : decode cX12_plansByCounts 97 = .ok (.aload_n 0, 1) := by decide +kernel
theorem dX12_plansByCounts_98 : decode cX12_plansByCounts 98 = .ok (.getfield 114, 3) := by decide +kernel
theorem dX12_plansByCounts_101 : decode cX12_plansByCounts 101 = .ok (.iload 4, 2) := by decide +kernel
theorem dX12_plansByCounts_103 : decode cX12_plansByCounts 103 = .ok (.iaload, 1) := by decide +kernel
theorem dX12_plansByCounts_104 : decode cX12_plansByCounts 104 = .ok (.iastore, 1) := by decide +kernel
theorem dX12_plansByCounts_105 : decode cX12_plansByCounts 105 = .ok (.aload_n 0, 1) := by decide +kernel
theorem dX12_plansByCounts_106 : decode cX12_plansByCounts 106 = .ok (.getfield 108, 3) := by decide +kernel
theorem dX12_plansByCounts_109 : decode cX12_plansByCounts 109 = .ok (.iload 4, 2) := by decide +kernel
theorem dX12_plansByCounts_111 : decode cX12_plansByCounts 111 = .ok (.aload_n 0, 1) := by decide +kernel
theorem dX12_plansByCounts_112 : decode cX12_plansByCounts 112 = .ok (.getfield 117, 3) := by decide +kernel
theorem dX12_plansByCounts_115 : decode cX12_plansByCounts 115 = .ok (.iload 4, 2) := by decide +kernel
theorem dX12_plansByCounts_117 : decode cX12_plansByCounts 117 = .ok (.iaload, 1) := by decide +kernel
theorem dX12_plansByCounts_118 : decode cX12_plansByCounts 118 = .ok (.iastore, 1) := by decide +kernel
theorem dX12_plansByCounts_119 : decode cX12_plansByCounts 119 = .ok (.aload_n 0, 1) := by decide +kernel
theorem dX12_plansByCounts_120 : decode cX12_plansByCounts 120 = .ok (.getfield 111, 3) := by decide +kernel
theorem dX12_plansByCounts_123 : decode cX12_plansByCounts 123 = .ok (.iload 4, 2) := by decide +kernel
theorem dX12_plansByCounts_125 : decode cX12_plansByCounts 125 = .ok (.aload_n 0, 1) := by decide +kernel
theorem dX12_plansByCounts_126 : decode cX12_plansByCounts 126 = .ok (.getfield 120, 3) := by decide +kernel
theorem dX12_plansByCounts_129 : decode cX12_plansByCounts 129 = .ok (.iload 4, 2) := by decide +kernel
theorem dX12_plansByCounts_131 : decode cX12_plansByCounts 131 = .ok (.iaload, 1) := by decide +kernel
theorem dX12_plansByCounts_132 : decode cX12_plansByCounts 132 = .ok (.iastore, 1) := by decide +kernel
theorem dX12_plansByCounts_133 : decode cX12_plansByCounts 133 = .ok (.iinc 4 1, 3) := by decide +kernel
theorem dX12_plansByCounts_136 : decode cX12_plansByCounts 136 = .ok (.goto (-51), 3) := by decide +kernel
theorem dX12_plansByCounts_139 : decode cX12_plansByCounts 139 = .ok (.return_, 1) := by decide +kernel
theorem dX12_keepsPlan_0 : decode cX12_keepsPlan 0 = .ok (.iconst 0, 1) := by decide +kernel
theorem dX12_keepsPlan_1 : decode cX12_keepsPlan 1 = .ok (.istore_n 1, 1) := by decide +kernel
theorem dX12_keepsPlan_2 : decode cX12_keepsPlan 2 = .ok (.iload_n 1, 1) := by decide +kernel
theorem dX12_keepsPlan_3 : decode cX12_keepsPlan 3 = .ok (.iconst 3, 1) := by decide +kernel
theorem dX12_keepsPlan_4 : decode cX12_keepsPlan 4 = .ok (.if_icmp .ge 45, 3) := by decide +kernel
theorem dX12_keepsPlan_7 : decode cX12_keepsPlan 7 = .ok (.aload_n 0, 1) := by decide +kernel
theorem dX12_keepsPlan_8 : decode cX12_keepsPlan 8 = .ok (.getfield 114, 3) := by decide +kernel
theorem dX12_keepsPlan_11 : decode cX12_keepsPlan 11 = .ok (.iload_n 1, 1) := by decide +kernel
theorem dX12_keepsPlan_12 : decode cX12_keepsPlan 12 = .ok (.aload_n 0, 1) := by decide +kernel
theorem dX12_keepsPlan_13 : decode cX12_keepsPlan 13 = .ok (.getfield 105, 3) := by decide +kernel
theorem dX12_keepsPlan_16 : decode cX12_keepsPlan 16 = .ok (.iload_n 1, 1) := by decide +kernel
theorem dX12_keepsPlan_17 : decode cX12_keepsPlan 17 = .ok (.iaload, 1) := by decide +kernel
theorem dX12_keepsPlan_18 : decode cX12_keepsPlan 18 = .ok (.iastore, 1) := by decide +kernel
theorem dX12_keepsPlan_19 : decode cX12_keepsPlan 19 = .ok (.aload_n 0, 1) := by decide +kernel
theorem dX12_keepsPlan_20 : decode cX12_keepsPlan 20 = .ok (.getfield 117, 3) := by decide +kernel
theorem dX12_keepsPlan_23 : decode cX12_keepsPlan 23 = .ok (.iload_n 1, 1) := by decide +kernel
theorem dX12_keepsPlan_24 : decode cX12_keepsPlan 24 = .ok (.aload_n 0, 1) := by decide +kernel
theorem dX12_keepsPlan_25 : decode cX12_keepsPlan 25 = .ok (.getfield 108, 3) := by decide +kernel
theorem dX12_keepsPlan_28 : decode cX12_keepsPlan 28 = .ok (.iload_n 1, 1) := by decide +kernel
theorem dX12_keepsPlan_29 : decode cX12_keepsPlan 29 = .ok (.iaload, 1) := by decide +kernel
theorem dX12_keepsPlan_30 : decode cX12_keepsPlan 30 = .ok (.iastore, 1) := by decide +kernel
theorem dX12_keepsPlan_31 : decode cX12_keepsPlan 31 = .ok (.aload_n 0, 1) := by decide +kernel
theorem dX12_keepsPlan_32 : decode cX12_keepsPlan 32 = .ok (.getfield 120, 3) := by decide +kernel
theorem dX12_keepsPlan_35 : decode cX12_keepsPlan 35 = .ok (.iload_n 1, 1) := by decide +kernel
theorem dX12_keepsPlan_36 : decode cX12_keepsPlan 36 = .ok (.aload_n 0, 1) := by decide +kernel
theorem dX12_keepsPlan_37 : decode cX12_keepsPlan 37 = .ok (.getfield 111, 3) := by decide +kernel
theorem dX12_keepsPlan_40 : decode cX12_keepsPlan 40 = .ok (.iload_n 1, 1) := by decide +kernel
theorem dX12_keepsPlan_41 : decode cX12_keepsPlan 41 = .ok (.iaload, 1) := by decide +kernel
theorem dX12_keepsPlan_42 : decode cX12_keepsPlan 42 = .ok (.iastore, 1) := by decide +kernel
theorem dX12_keepsPlan_43 : decode cX12_keepsPlan 43 = .ok (.iinc 1 1, 3) := by decide +kernel
theorem dX12_keepsPlan_46 : decode cX12_keepsPlan 46 = .ok (.goto (-44), 3) := by decide +kernel
theorem dX12_keepsPlan_49 : decode cX12_keepsPlan 49 = .ok (.return_, 1) := by decide +kernel
theorem dX12_plans_0 : decode cX12_plans 0 = .ok (.aload_n 0, 1) := by decide +kernel
theorem dX12_plans_1 : decode cX12_plans 1 = .ok (.iload_n 3, 1) := by decide +kernel
theorem dX12_plans_2 : decode cX12_plans 2 = .ok (.putfield 246, 3) := by decide +kernel
theorem dX12_plans_5 : decode cX12_plans 5 = .ok (.iload_n 1, 1) := by decide +kernel
theorem dX12_plans_6 : decode cX12_plans 6 = .ok (.ifCond .ne 11, 3) := by decide +kernel
theorem dX12_plans_9 : decode cX12_plans 9 = .ok (.aload_n 0, 1) := by decide +kernel
theorem dX12_plans_10 : decode cX12_plans 10 = .ok (.iload_n 2, 1) := by decide +kernel
theorem dX12_plans_11 : decode cX12_plans 11 = .ok (.invokevirtual 297, 3) := by decide +kernel
theorem dX12_plans_14 : decode cX12_plans 14 = .ok (.goto 8, 3) := by decide +kernel
theorem dX12_plans_17 : decode cX12_plans 17 = .ok (.aload_n 0, 1) := by decide +kernel
theorem dX12_plans_18 : decode cX12_plans 18 = .ok (.iload_n 2, 1) := by decide +kernel
theorem dX12_plans_19 : decode cX12_plans 19 = .ok (.invokevirtual 300, 3) := by decide +kernel
theorem dX12_plans_22 : decode cX12_plans 22 = .ok (.return_, 1) := by decide +kernel
theorem dX12_noPlace_0 : decode cX12_noPlace 0 = .ok (.aload_n 0, 1) := by decide +kernel
theorem dX12_noPlace_1 : decode cX12_noPlace 1 = .ok (.iload_n 1, 1) := by decide +kernel
theorem dX12_noPlace_2 : decode cX12_noPlace 2 = .ok (.iconst 0, 1) := by decide +kernel
theorem dX12_noPlace_3 : decode cX12_noPlace 3 = .ok (.iconst 1, 1) := by decide +kernel
theorem dX12_noPlace_4 : decode cX12_noPlace 4 = .ok (.invokestatic 147, 3) := by decide +kernel
theorem dX12_noPlace_7 : decode cX12_noPlace 7 = .ok (.ifCond .ne 7, 3) := by decide +kernel
theorem dX12_noPlace_10 : decode cX12_noPlace 10 = .ok (.iconst 1, 1) := by decide +kernel
theorem dX12_noPlace_11 : decode cX12_noPlace 11 = .ok (.goto 4, 3) := by decide +kernel
theorem dX12_noPlace_14 : decode cX12_noPlace 14 = .ok (.iconst 0, 1) := by decide +kernel
theorem dX12_noPlace_15 : decode cX12_noPlace 15 = .ok (.iconst 1, 1) := by decide +kernel
theorem dX12_noPlace_16 : decode cX12_noPlace 16 = .ok (.invokevirtual 162, 3) := by decide +kernel
theorem dX12_noPlace_19 : decode cX12_noPlace 19 = .ok (.ifCond .ne 53, 3) := by decide +kernel
theorem dX12_noPlace_22 : decode cX12_noPlace 22 = .ok (.aload_n 0, 1) := by decide +kernel
theorem dX12_noPlace_23 : decode cX12_noPlace 23 = .ok (.aload_n 0, 1) := by decide +kernel
theorem dX12_noPlace_24 : decode cX12_noPlace 24 = .ok (.iload_n 2, 1) := by decide +kernel
theorem dX12_noPlace_25 : decode cX12_noPlace 25 = .ok (.invokevirtual 217, 3) := by decide +kernel
theorem dX12_noPlace_28 : decode cX12_noPlace 28 = .ok (.ifCond .ne 7, 3) := by decide +kernel
theorem dX12_noPlace_31 : decode cX12_noPlace 31 = .ok (.iconst 1, 1) := by decide +kernel
theorem dX12_noPlace_32 : decode cX12_noPlace 32 = .ok (.goto 4, 3) := by decide +kernel
theorem dX12_noPlace_35 : decode cX12_noPlace 35 = .ok (.iconst 0, 1) := by decide +kernel
theorem dX12_noPlace_36 : decode cX12_noPlace 36 = .ok (.iconst 2, 1) := by decide +kernel
theorem dX12_noPlace_37 : decode cX12_noPlace 37 = .ok (.invokevirtual 162, 3) := by decide +kernel
theorem dX12_noPlace_40 : decode cX12_noPlace 40 = .ok (.ifCond .ne 32, 3) := by decide +kernel
theorem dX12_noPlace_43 : decode cX12_noPlace 43 = .ok (.aload_n 0, 1) := by decide +kernel
theorem dX12_noPlace_44 : decode cX12_noPlace 44 = .ok (.iload_n 3, 1) := by decide +kernel
theorem dX12_noPlace_45 : decode cX12_noPlace 45 = .ok (.iconst 0, 1) := by decide +kernel
theorem dX12_noPlace_46 : decode cX12_noPlace 46 = .ok (.aload_n 0, 1) := by decide +kernel
theorem dX12_noPlace_47 : decode cX12_noPlace 47 = .ok (.getfield 66, 3) := by decide +kernel
theorem dX12_noPlace_50 : decode cX12_noPlace 50 = .ok (.iload_n 2, 1) := by decide +kernel
theorem dX12_noPlace_51 : decode cX12_noPlace 51 = .ok (.iaload, 1) := by decide +kernel
theorem dX12_noPlace_52 : decode cX12_noPlace 52 = .ok (.iconst 1, 1) := by decide +kernel
theorem dX12_noPlace_53 : decode cX12_noPlace 53 = .ok (.isub, 1) := by decide +kernel
theorem dX12_noPlace_54 : decode cX12_noPlace 54 = .ok (.invokestatic 147, 3) := by decide +kernel
theorem dX12_noPlace_57 : decode cX12_noPlace 57 = .ok (.ifCond .ne 7, 3) := by decide +kernel
theorem dX12_noPlace_60 : decode cX12_noPlace 60 = .ok (.iconst 1, 1) := by decide +kernel
theorem dX12_noPlace_61 : decode cX12_noPlace 61 = .ok (.goto 4, 3) := by decide +kernel
theorem dX12_noPlace_64 : decode cX12_noPlace 64 = .ok (.iconst 0, 1) := by decide +kernel
theorem dX12_noPlace_65 : decode cX12_noPlace 65 = .ok (.iconst 3, 1) := by decide +kernel
theorem dX12_noPlace_66 : decode cX12_noPlace 66 = .ok (.invokevirtual 162, 3) := by decide +kernel
theorem dX12_noPlace_69 : decode cX12_noPlace 69 = .ok (.ifCond .eq 7, 3) := by decide +kernel
theorem dX12_noPlace_72 : decode cX12_noPlace 72 = .ok (.iconst 1, 1) := by decide +kernel
theorem dX12_noPlace_73 : decode cX12_noPlace 73 = .ok (.goto 4, 3) := by decide +kernel
theorem dX12_noPlace_76 : decode cX12_noPlace 76 = .ok (.iconst 0, 1) := by decide +kernel
theorem dX12_noPlace_77 : decode cX12_noPlace 77 = .ok (.ireturn, 1) := by decide +kernel
theorem dX12_planned_0 : decode cX12_planned 0 = .ok (.aload_n 0, 1) := by decide +kernel
theorem dX12_planned_1 : decode cX12_planned 1 = .ok (.iconst 0, 1) := by decide +kernel
theorem dX12_planned_2 : decode cX12_planned 2 = .ok (.putfield 141, 3) := by decide +kernel
theorem dX12_planned_5 : decode cX12_planned 5 = .ok (.aload_n 0, 1) := by decide +kernel
theorem dX12_planned_6 : decode cX12_planned 6 = .ok (.iload_n 1, 1) := by decide +kernel
theorem dX12_planned_7 : decode cX12_planned 7 = .ok (.iload_n 2, 1) := by decide +kernel
theorem dX12_planned_8 : decode cX12_planned 8 = .ok (.iload_n 3, 1) := by decide +kernel
theorem dX12_planned_9 : decode cX12_planned 9 = .ok (.invokevirtual 303, 3) := by decide +kernel
theorem dX12_planned_12 : decode cX12_planned 12 = .ok (.ifCond .eq 5, 3) := by decide +kernel
theorem dX12_planned_15 : decode cX12_planned 15 = .ok (.iconst (-1), 1) := by decide +kernel
theorem dX12_planned_16 : decode cX12_planned 16 = .ok (.ireturn, 1) := by decide +kernel
theorem dX12_planned_17 : decode cX12_planned 17 = .ok (.aload_n 0, 1) := by decide +kernel
theorem dX12_planned_18 : decode cX12_planned 18 = .ok (.iload_n 1, 1) := by decide +kernel
theorem dX12_planned_19 : decode cX12_planned 19 = .ok (.iload_n 2, 1) := by decide +kernel
theorem dX12_planned_20 : decode cX12_planned 20 = .ok (.aload_n 0, 1) := by decide +kernel
theorem dX12_planned_21 : decode cX12_planned 21 = .ok (.getfield 123, 3) := by decide +kernel
theorem dX12_planned_24 : decode cX12_planned 24 = .ok (.iload_n 1, 1) := by decide +kernel
theorem dX12_planned_25 : decode cX12_planned 25 = .ok (.iaload, 1) := by decide +kernel
theorem dX12_planned_26 : decode cX12_planned 26 = .ok (.invokevirtual 306, 3) := by decide +kernel
theorem dX12_planned_29 : decode cX12_planned 29 = .ok (.aload_n 0, 1) := by decide +kernel
theorem dX12_planned_30 : decode cX12_planned 30 = .ok (.getfield 105, 3) := by decide +kernel
theorem dX12_planned_33 : decode cX12_planned 33 = .ok (.iload_n 3, 1) := by decide +kernel
theorem dX12_planned_34 : decode cX12_planned 34 = .ok (.iaload, 1) := by decide +kernel
theorem dX12_planned_35 : decode cX12_planned 35 = .ok (.ireturn, 1) := by decide +kernel
theorem dX12_way_0 : decode cX12_way 0 = .ok (.aload_n 0, 1) := by decide +kernel
theorem dX12_way_1 : decode cX12_way 1 = .ok (.iconst 0, 1) := by decide +kernel
theorem dX12_way_2 : decode cX12_way 2 = .ok (.putfield 141, 3) := by decide +kernel
theorem dX12_way_5 : decode cX12_way 5 = .ok (.aload_n 0, 1) := by decide +kernel
theorem dX12_way_6 : decode cX12_way 6 = .ok (.iload_n 1, 1) := by decide +kernel
theorem dX12_way_7 : decode cX12_way 7 = .ok (.iload_n 2, 1) := by decide +kernel
theorem dX12_way_8 : decode cX12_way 8 = .ok (.iload_n 3, 1) := by decide +kernel
theorem dX12_way_9 : decode cX12_way 9 = .ok (.invokevirtual 303, 3) := by decide +kernel
theorem dX12_way_12 : decode cX12_way 12 = .ok (.ifCond .eq 6, 3) := by decide +kernel
theorem dX12_way_15 : decode cX12_way 15 = .ok (.bipush 32, 2) := by decide +kernel
theorem dX12_way_17 : decode cX12_way 17 = .ok (.ireturn, 1) := by decide +kernel
theorem dX12_way_18 : decode cX12_way 18 = .ok (.aload_n 0, 1) := by decide +kernel
theorem dX12_way_19 : decode cX12_way 19 = .ok (.iload_n 1, 1) := by decide +kernel
theorem dX12_way_20 : decode cX12_way 20 = .ok (.iload_n 2, 1) := by decide +kernel
theorem dX12_way_21 : decode cX12_way 21 = .ok (.aload_n 0, 1) := by decide +kernel
theorem dX12_way_22 : decode cX12_way 22 = .ok (.getfield 123, 3) := by decide +kernel
theorem dX12_way_25 : decode cX12_way 25 = .ok (.iload_n 1, 1) := by decide +kernel
theorem dX12_way_26 : decode cX12_way 26 = .ok (.iaload, 1) := by decide +kernel
theorem dX12_way_27 : decode cX12_way 27 = .ok (.invokevirtual 306, 3) := by decide +kernel
theorem dX12_way_30 : decode cX12_way 30 = .ok (.aload_n 0, 1) := by decide +kernel
theorem dX12_way_31 : decode cX12_way 31 = .ok (.getfield 108, 3) := by decide +kernel
theorem dX12_way_34 : decode cX12_way 34 = .ok (.iload_n 3, 1) := by decide +kernel
theorem dX12_way_35 : decode cX12_way 35 = .ok (.iaload, 1) := by decide +kernel
theorem dX12_way_36 : decode cX12_way 36 = .ok (.ifCond .ne 8, 3) := by decide +kernel
theorem dX12_way_39 : decode cX12_way 39 = .ok (.bipush 102, 2) := by decide +kernel
theorem dX12_way_41 : decode cX12_way 41 = .ok (.goto 20, 3) := by decide +kernel
theorem dX12_way_44 : decode cX12_way 44 = .ok (.aload_n 0, 1) := by decide +kernel
theorem dX12_way_45 : decode cX12_way 45 = .ok (.getfield 108, 3) := by decide +kernel
theorem dX12_way_48 : decode cX12_way 48 = .ok (.iload_n 3, 1) := by decide +kernel
theorem dX12_way_49 : decode cX12_way 49 = .ok (.iaload, 1) := by decide +kernel
theorem dX12_way_50 : decode cX12_way 50 = .ok (.iconst 5, 1) := by decide +kernel
theorem dX12_way_51 : decode cX12_way 51 = .ok (.if_icmp .ge 8, 3) := by decide +kernel
theorem dX12_way_54 : decode cX12_way 54 = .ok (.bipush 99, 2) := by decide +kernel
theorem dX12_way_56 : decode cX12_way 56 = .ok (.goto 5, 3) := by decide +kernel
theorem dX12_way_59 : decode cX12_way 59 = .ok (.bipush 106, 2) := by decide +kernel
theorem dX12_way_61 : decode cX12_way 61 = .ok (.ireturn, 1) := by decide +kernel
theorem dX12_usedIndex_0 : decode cX12_usedIndex 0 = .ok (.aload_n 0, 1) := by decide +kernel
theorem dX12_usedIndex_1 : decode cX12_usedIndex 1 = .ok (.iconst 0, 1) := by decide +kernel
theorem dX12_usedIndex_2 : decode cX12_usedIndex 2 = .ok (.putfield 141, 3) := by decide +kernel
theorem dX12_usedIndex_5 : decode cX12_usedIndex 5 = .ok (.aload_n 0, 1) := by decide +kernel
theorem dX12_usedIndex_6 : decode cX12_usedIndex 6 = .ok (.iload_n 1, 1) := by decide +kernel
theorem dX12_usedIndex_7 : decode cX12_usedIndex 7 = .ok (.iload_n 2, 1) := by decide +kernel
theorem dX12_usedIndex_8 : decode cX12_usedIndex 8 = .ok (.iload_n 3, 1) := by decide +kernel
theorem dX12_usedIndex_9 : decode cX12_usedIndex 9 = .ok (.invokevirtual 303, 3) := by decide +kernel
theorem dX12_usedIndex_12 : decode cX12_usedIndex 12 = .ok (.ifCond .eq 5, 3) := by decide +kernel
theorem dX12_usedIndex_15 : decode cX12_usedIndex 15 = .ok (.iconst (-1), 1) := by decide +kernel
theorem dX12_usedIndex_16 : decode cX12_usedIndex 16 = .ok (.ireturn, 1) := by decide +kernel
theorem dX12_usedIndex_17 : decode cX12_usedIndex 17 = .ok (.aload_n 0, 1) := by decide +kernel
theorem dX12_usedIndex_18 : decode cX12_usedIndex 18 = .ok (.iload_n 1, 1) := by decide +kernel
theorem dX12_usedIndex_19 : decode cX12_usedIndex 19 = .ok (.iload_n 2, 1) := by decide +kernel
theorem dX12_usedIndex_20 : decode cX12_usedIndex 20 = .ok (.aload_n 0, 1) := by decide +kernel
theorem dX12_usedIndex_21 : decode cX12_usedIndex 21 = .ok (.getfield 123, 3) := by decide +kernel
theorem dX12_usedIndex_24 : decode cX12_usedIndex 24 = .ok (.iload_n 1, 1) := by decide +kernel
theorem dX12_usedIndex_25 : decode cX12_usedIndex 25 = .ok (.iaload, 1) := by decide +kernel
theorem dX12_usedIndex_26 : decode cX12_usedIndex 26 = .ok (.invokevirtual 306, 3) := by decide +kernel
theorem dX12_usedIndex_29 : decode cX12_usedIndex 29 = .ok (.aload_n 0, 1) := by decide +kernel
theorem dX12_usedIndex_30 : decode cX12_usedIndex 30 = .ok (.getfield 111, 3) := by decide +kernel
theorem dX12_usedIndex_33 : decode cX12_usedIndex 33 = .ok (.iload_n 3, 1) := by decide +kernel
theorem dX12_usedIndex_34 : decode cX12_usedIndex 34 = .ok (.iaload, 1) := by decide +kernel
theorem dX12_usedIndex_35 : decode cX12_usedIndex 35 = .ok (.ireturn, 1) := by decide +kernel
theorem dX12_noPlan_0 : decode cX12_noPlan 0 = .ok (.aload_n 0, 1) := by decide +kernel
theorem dX12_noPlan_1 : decode cX12_noPlan 1 = .ok (.iload_n 1, 1) := by decide +kernel
theorem dX12_noPlan_2 : decode cX12_noPlan 2 = .ok (.iconst 0, 1) := by decide +kernel
theorem dX12_noPlan_3 : decode cX12_noPlan 3 = .ok (.iconst 1, 1) := by decide +kernel
theorem dX12_noPlan_4 : decode cX12_noPlan 4 = .ok (.invokestatic 147, 3) := by decide +kernel
theorem dX12_noPlan_7 : decode cX12_noPlan 7 = .ok (.ifCond .ne 7, 3) := by decide +kernel
theorem dX12_noPlan_10 : decode cX12_noPlan 10 = .ok (.iconst 1, 1) := by decide +kernel
theorem dX12_noPlan_11 : decode cX12_noPlan 11 = .ok (.goto 4, 3) := by decide +kernel
theorem dX12_noPlan_14 : decode cX12_noPlan 14 = .ok (.iconst 0, 1) := by decide +kernel
theorem dX12_noPlan_15 : decode cX12_noPlan 15 = .ok (.iconst 1, 1) := by decide +kernel
theorem dX12_noPlan_16 : decode cX12_noPlan 16 = .ok (.invokevirtual 162, 3) := by decide +kernel
theorem dX12_noPlan_19 : decode cX12_noPlan 19 = .ok (.ifCond .ne 46, 3) := by decide +kernel
theorem dX12_noPlan_22 : decode cX12_noPlan 22 = .ok (.aload_n 0, 1) := by decide +kernel
theorem dX12_noPlan_23 : decode cX12_noPlan 23 = .ok (.aload_n 0, 1) := by decide +kernel
theorem dX12_noPlan_24 : decode cX12_noPlan 24 = .ok (.iload_n 2, 1) := by decide +kernel
theorem dX12_noPlan_25 : decode cX12_noPlan 25 = .ok (.invokevirtual 217, 3) := by decide +kernel
theorem dX12_noPlan_28 : decode cX12_noPlan 28 = .ok (.ifCond .ne 7, 3) := by decide +kernel
theorem dX12_noPlan_31 : decode cX12_noPlan 31 = .ok (.iconst 1, 1) := by decide +kernel
theorem dX12_noPlan_32 : decode cX12_noPlan 32 = .ok (.goto 4, 3) := by decide +kernel
theorem dX12_noPlan_35 : decode cX12_noPlan 35 = .ok (.iconst 0, 1) := by decide +kernel
theorem dX12_noPlan_36 : decode cX12_noPlan 36 = .ok (.iconst 2, 1) := by decide +kernel
theorem dX12_noPlan_37 : decode cX12_noPlan 37 = .ok (.invokevirtual 162, 3) := by decide +kernel
theorem dX12_noPlan_40 : decode cX12_noPlan 40 = .ok (.ifCond .ne 25, 3) := by decide +kernel
theorem dX12_noPlan_43 : decode cX12_noPlan 43 = .ok (.aload_n 0, 1) := by decide +kernel
theorem dX12_noPlan_44 : decode cX12_noPlan 44 = .ok (.aload_n 0, 1) := by decide +kernel
theorem dX12_noPlan_45 : decode cX12_noPlan 45 = .ok (.getfield 66, 3) := by decide +kernel
theorem dX12_noPlan_48 : decode cX12_noPlan 48 = .ok (.iload_n 2, 1) := by decide +kernel
theorem dX12_noPlan_49 : decode cX12_noPlan 49 = .ok (.iaload, 1) := by decide +kernel
theorem dX12_noPlan_50 : decode cX12_noPlan 50 = .ok (.ifCond .ne 7, 3) := by decide +kernel
theorem dX12_noPlan_53 : decode cX12_noPlan 53 = .ok (.iconst 1, 1) := by decide +kernel
theorem dX12_noPlan_54 : decode cX12_noPlan 54 = .ok (.goto 4, 3) := by decide +kernel
theorem dX12_noPlan_57 : decode cX12_noPlan 57 = .ok (.iconst 0, 1) := by decide +kernel
theorem dX12_noPlan_58 : decode cX12_noPlan 58 = .ok (.iconst 3, 1) := by decide +kernel
theorem dX12_noPlan_59 : decode cX12_noPlan 59 = .ok (.invokevirtual 162, 3) := by decide +kernel
theorem dX12_noPlan_62 : decode cX12_noPlan 62 = .ok (.ifCond .eq 7, 3) := by decide +kernel
theorem dX12_noPlan_65 : decode cX12_noPlan 65 = .ok (.iconst 1, 1) := by decide +kernel
theorem dX12_noPlan_66 : decode cX12_noPlan 66 = .ok (.goto 4, 3) := by decide +kernel
theorem dX12_noPlan_69 : decode cX12_noPlan 69 = .ok (.iconst 0, 1) := by decide +kernel
theorem dX12_noPlan_70 : decode cX12_noPlan 70 = .ok (.ireturn, 1) := by decide +kernel
theorem dX12_estimate_0 : decode cX12_estimate 0 = .ok (.aload_n 0, 1) := by decide +kernel
theorem dX12_estimate_1 : decode cX12_estimate 1 = .ok (.iconst 0, 1) := by decide +kernel
theorem dX12_estimate_2 : decode cX12_estimate 2 = .ok (.putfield 141, 3) := by decide +kernel
theorem dX12_estimate_5 : decode cX12_estimate 5 = .ok (.aload_n 0, 1) := by decide +kernel
theorem dX12_estimate_6 : decode cX12_estimate 6 = .ok (.iload_n 1, 1) := by decide +kernel
theorem dX12_estimate_7 : decode cX12_estimate 7 = .ok (.iload_n 2, 1) := by decide +kernel
theorem dX12_estimate_8 : decode cX12_estimate 8 = .ok (.invokevirtual 310, 3) := by decide +kernel
theorem dX12_estimate_11 : decode cX12_estimate 11 = .ok (.ifCond .eq 7, 3) := by decide +kernel
theorem dX12_estimate_14 : decode cX12_estimate 14 = .ok (.ldc2_w 244, 3) := by decide +kernel
theorem dX12_estimate_17 : decode cX12_estimate 17 = .ok (.lreturn, 1) := by decide +kernel
theorem dX12_estimate_18 : decode cX12_estimate 18 = .ok (.aload_n 0, 1) := by decide +kernel
theorem dX12_estimate_19 : decode cX12_estimate 19 = .ok (.iload_n 1, 1) := by decide +kernel
theorem dX12_estimate_20 : decode cX12_estimate 20 = .ok (.iload_n 2, 1) := by decide +kernel
theorem dX12_estimate_21 : decode cX12_estimate 21 = .ok (.aload_n 0, 1) := by decide +kernel
theorem dX12_estimate_22 : decode cX12_estimate 22 = .ok (.getfield 123, 3) := by decide +kernel
theorem dX12_estimate_25 : decode cX12_estimate 25 = .ok (.iload_n 1, 1) := by decide +kernel
theorem dX12_estimate_26 : decode cX12_estimate 26 = .ok (.iaload, 1) := by decide +kernel
theorem dX12_estimate_27 : decode cX12_estimate 27 = .ok (.invokevirtual 306, 3) := by decide +kernel
theorem dX12_estimate_30 : decode cX12_estimate 30 = .ok (.aload_n 0, 1) := by decide +kernel
theorem dX12_estimate_31 : decode cX12_estimate 31 = .ok (.iload_n 2, 1) := by decide +kernel
theorem dX12_estimate_32 : decode cX12_estimate 32 = .ok (.invokevirtual 290, 3) := by decide +kernel
theorem dX12_estimate_35 : decode cX12_estimate 35 = .ok (.lreturn, 1) := by decide +kernel
theorem dX12_wants_0 : decode cX12_wants 0 = .ok (.aload_n 0, 1) := by decide +kernel
theorem dX12_wants_1 : decode cX12_wants 1 = .ok (.getfield 108, 3) := by decide +kernel
theorem dX12_wants_4 : decode cX12_wants 4 = .ok (.iload_n 2, 1) := by decide +kernel
theorem dX12_wants_5 : decode cX12_wants 5 = .ok (.iaload, 1) := by decide +kernel
theorem dX12_wants_6 : decode cX12_wants 6 = .ok (.istore_n 3, 1) := by decide +kernel
theorem dX12_wants_7 : decode cX12_wants 7 = .ok (.iload_n 3, 1) := by decide +kernel
theorem dX12_wants_8 : decode cX12_wants 8 = .ok (.iconst 5, 1) := by decide +kernel
theorem dX12_wants_9 : decode cX12_wants 9 = .ok (.if_icmp .ge 36, 3) := by decide +kernel
theorem dX12_wants_12 : decode cX12_wants 12 = .ok (.aload_n 0, 1) := by decide +kernel
theorem dX12_wants_13 : decode cX12_wants 13 = .ok (.aload_n 0, 1) := by decide +kernel
theorem dX12_wants_14 : decode cX12_wants 14 = .ok (.getfield 81, 3) := by decide +kernel
theorem dX12_wants_17 : decode cX12_wants 17 = .ok (.iconst 4, 1) := by decide +kernel
theorem dX12_wants_18 : decode cX12_wants 18 = .ok (.iload_n 1, 1) := by decide +kernel
theorem dX12_wants_19 : decode cX12_wants 19 = .ok (.imul, 1) := by decide +kernel
theorem dX12_wants_20 : decode cX12_wants 20 = .ok (.iload_n 3, 1) := by decide +kernel
theorem dX12_wants_21 : decode cX12_wants 21 = .ok (.iadd, 1) := by decide +kernel
theorem dX12_wants_22 : decode cX12_wants 22 = .ok (.iconst 1, 1) := by decide +kernel
theorem dX12_wants_23 : decode cX12_wants 23 = .ok (.isub, 1) := by decide +kernel
theorem dX12_wants_24 : decode cX12_wants 24 = .ok (.iaload, 1) := by decide +kernel
theorem dX12_wants_25 : decode cX12_wants 25 = .ok (.putfield 313, 3) := by decide +kernel
theorem dX12_wants_28 : decode cX12_wants 28 = .ok (.aload_n 0, 1) := by decide +kernel
theorem dX12_wants_29 : decode cX12_wants 29 = .ok (.aload_n 0, 1) := by decide +kernel
theorem dX12_wants_30 : decode cX12_wants 30 = .ok (.getfield 84, 3) := by decide +kernel
theorem dX12_wants_33 : decode cX12_wants 33 = .ok (.iconst 4, 1) := by decide +kernel
theorem dX12_wants_34 : decode cX12_wants 34 = .ok (.iload_n 1, 1) := by decide +kernel
theorem dX12_wants_35 : decode cX12_wants 35 = .ok (.imul, 1) := by decide +kernel
theorem dX12_wants_36 : decode cX12_wants 36 = .ok (.iload_n 3, 1) := by decide +kernel
theorem dX12_wants_37 : decode cX12_wants 37 = .ok (.iadd, 1) := by decide +kernel
theorem dX12_wants_38 : decode cX12_wants 38 = .ok (.iconst 1, 1) := by decide +kernel
theorem dX12_wants_39 : decode cX12_wants 39 = .ok (.isub, 1) := by decide +kernel
theorem dX12_wants_40 : decode cX12_wants 40 = .ok (.iaload, 1) := by decide +kernel
theorem dX12_wants_41 : decode cX12_wants 41 = .ok (.putfield 316, 3) := by decide +kernel
theorem dX12_wants_44 : decode cX12_wants 44 = .ok (.return_, 1) := by decide +kernel
theorem dX12_wants_45 : decode cX12_wants 45 = .ok (.iconst 3, 1) := by decide +kernel
theorem dX12_wants_46 : decode cX12_wants 46 = .ok (.iload_n 1, 1) := by decide +kernel
theorem dX12_wants_47 : decode cX12_wants 47 = .ok (.imul, 1) := by decide +kernel
theorem dX12_wants_48 : decode cX12_wants 48 = .ok (.iload_n 3, 1) := by decide +kernel
theorem dX12_wants_49 : decode cX12_wants 49 = .ok (.iadd, 1) := by decide +kernel
theorem dX12_wants_50 : decode cX12_wants 50 = .ok (.iconst 5, 1) := by decide +kernel
theorem dX12_wants_51 : decode cX12_wants 51 = .ok (.isub, 1) := by decide +kernel
theorem dX12_wants_52 : decode cX12_wants 52 = .ok (.istore 4, 2) := by decide +kernel
theorem dX12_wants_54 : decode cX12_wants 54 = .ok (.aload_n 0, 1) := by decide +kernel
theorem dX12_wants_55 : decode cX12_wants 55 = .ok (.getfield 90, 3) := by decide +kernel
theorem dX12_wants_58 : decode cX12_wants 58 = .ok (.iload 4, 2) := by decide +kernel
theorem dX12_wants_60 : decode cX12_wants 60 = .ok (.iaload, 1) := by decide +kernel
theorem dX12_wants_61 : decode cX12_wants 61 = .ok (.aload_n 0, 1) := by decide +kernel
theorem dX12_wants_62 : decode cX12_wants 62 = .ok (.getfield 105, 3) := by decide +kernel
theorem dX12_wants_65 : decode cX12_wants 65 = .ok (.iload_n 2, 1) := by decide +kernel
theorem dX12_wants_66 : decode cX12_wants 66 = .ok (.iaload, 1) := by decide +kernel
theorem dX12_wants_67 : decode cX12_wants 67 = .ok (.if_icmp .ne 7, 3) := by decide +kernel
theorem dX12_wants_70 : decode cX12_wants 70 = .ok (.iconst 1, 1) := by decide +kernel
theorem dX12_wants_71 : decode cX12_wants 71 = .ok (.goto 4, 3) := by decide +kernel
theorem dX12_wants_74 : decode cX12_wants 74 = .ok (.iconst 0, 1) := by decide +kernel
theorem dX12_wants_75 : decode cX12_wants 75 = .ok (.istore 5, 2) := by decide +kernel
theorem dX12_wants_77 : decode cX12_wants 77 = .ok (.aload_n 0, 1) := by decide +kernel
theorem dX12_wants_78 : decode cX12_wants 78 = .ok (.bipush 61, 2) := by decide +kernel
theorem dX12_wants_80 : decode cX12_wants 80 = .ok (.putfield 313, 3) := by decide +kernel
theorem dX12_wants_83 : decode cX12_wants 83 = .ok (.aload_n 0, 1) := by decide +kernel
theorem dX12_wants_84 : decode cX12_wants 84 = .ok (.iload 5, 2) := by decide +kernel
theorem dX12_wants_86 : decode cX12_wants 86 = .ok (.ifCond .eq 25, 3) := by decide +kernel
theorem dX12_wants_89 : decode cX12_wants 89 = .ok (.aload_n 0, 1) := by decide +kernel
theorem dX12_wants_90 : decode cX12_wants 90 = .ok (.iload_n 1, 1) := by decide +kernel
theorem dX12_wants_91 : decode cX12_wants 91 = .ok (.aload_n 0, 1) := by decide +kernel
theorem dX12_wants_92 : decode cX12_wants 92 = .ok (.getfield 96, 3) := by decide +kernel
theorem dX12_wants_95 : decode cX12_wants 95 = .ok (.iload 4, 2) := by decide +kernel
theorem dX12_wants_97 : decode cX12_wants 97 = .ok (.iaload, 1) := by decide +kernel
theorem dX12_wants_98 : decode cX12_wants 98 = .ok (.aload_n 0, 1) := by decide +kernel
theorem dX12_wants_99 : decode cX12_wants 99 = .ok (.getfield 99, 3) := by decide +kernel
theorem dX12_wants_102 : decode cX12_wants 102 = .ok (.iload 4, 2) := by decide +kernel
theorem dX12_wants_104 : decode cX12_wants 104 = .ok (.iaload, 1) := by decide +kernel
theorem dX12_wants_105 : decode cX12_wants 105 = .ok (.invokevirtual 223, 3) := by decide +kernel
theorem dX12_wants_108 : decode cX12_wants 108 = .ok (.goto 22, 3) := by decide +kernel
theorem dX12_wants_111 : decode cX12_wants 111 = .ok (.aload_n 0, 1) := by decide +kernel
theorem dX12_wants_112 : decode cX12_wants 112 = .ok (.iload_n 1, 1) := by decide +kernel
theorem dX12_wants_113 : decode cX12_wants 113 = .ok (.aload_n 0, 1) := by decide +kernel
theorem dX12_wants_114 : decode cX12_wants 114 = .ok (.getfield 90, 3) := by decide +kernel
theorem dX12_wants_117 : decode cX12_wants 117 = .ok (.iload 4, 2) := by decide +kernel
theorem dX12_wants_119 : decode cX12_wants 119 = .ok (.iaload, 1) := by decide +kernel
theorem dX12_wants_120 : decode cX12_wants 120 = .ok (.aload_n 0, 1) := by decide +kernel
theorem dX12_wants_121 : decode cX12_wants 121 = .ok (.getfield 93, 3) := by decide +kernel
theorem dX12_wants_124 : decode cX12_wants 124 = .ok (.iload 4, 2) := by decide +kernel
theorem dX12_wants_126 : decode cX12_wants 126 = .ok (.iaload, 1) := by decide +kernel
theorem dX12_wants_127 : decode cX12_wants 127 = .ok (.invokevirtual 223, 3) := by decide +kernel
theorem dX12_wants_130 : decode cX12_wants 130 = .ok (.putfield 316, 3) := by decide +kernel
theorem dX12_wants_133 : decode cX12_wants 133 = .ok (.return_, 1) := by decide +kernel
theorem dX12_entryValue_0 : decode cX12_entryValue 0 = .ok (.aload_n 0, 1) := by decide +kernel
theorem dX12_entryValue_1 : decode cX12_entryValue 1 = .ok (.aload_n 0, 1) := by decide +kernel
theorem dX12_entryValue_2 : decode cX12_entryValue 2 = .ok (.getfield 44, 3) := by decide +kernel
theorem dX12_entryValue_5 : decode cX12_entryValue 5 = .ok (.iload_n 1, 1) := by decide +kernel
theorem dX12_entryValue_6 : decode cX12_entryValue 6 = .ok (.iaload, 1) := by decide +kernel
theorem dX12_entryValue_7 : decode cX12_entryValue 7 = .ok (.aload_n 0, 1) := by decide +kernel
theorem dX12_entryValue_8 : decode cX12_entryValue 8 = .ok (.getfield 50, 3) := by decide +kernel
theorem dX12_entryValue_11 : decode cX12_entryValue 11 = .ok (.bipush 40, 2) := by decide +kernel
theorem dX12_entryValue_13 : decode cX12_entryValue 13 = .ok (.iload_n 1, 1) := by decide +kernel
theorem dX12_entryValue_14 : decode cX12_entryValue 14 = .ok (.imul, 1) := by decide +kernel
theorem dX12_entryValue_15 : decode cX12_entryValue 15 = .ok (.iload_n 2, 1) := by decide +kernel
theorem dX12_entryValue_16 : decode cX12_entryValue 16 = .ok (.iadd, 1) := by decide +kernel
theorem dX12_entryValue_17 : decode cX12_entryValue 17 = .ok (.iaload, 1) := by decide +kernel
theorem dX12_entryValue_18 : decode cX12_entryValue 18 = .ok (.aload_n 0, 1) := by decide +kernel
theorem dX12_entryValue_19 : decode cX12_entryValue 19 = .ok (.getfield 47, 3) := by decide +kernel
theorem dX12_entryValue_22 : decode cX12_entryValue 22 = .ok (.iload_n 1, 1) := by decide +kernel
theorem dX12_entryValue_23 : decode cX12_entryValue 23 = .ok (.iaload, 1) := by decide +kernel
theorem dX12_entryValue_24 : decode cX12_entryValue 24 = .ok (.invokevirtual 173, 3) := by decide +kernel
theorem dX12_entryValue_27 : decode cX12_entryValue 27 = .ok (.ireturn, 1) := by decide +kernel
theorem dX12_beginsAt_0 : decode cX12_beginsAt 0 = .ok (.aload_n 0, 1) := by decide +kernel
theorem dX12_beginsAt_1 : decode cX12_beginsAt 1 = .ok (.getfield 126, 3) := by decide +kernel
theorem dX12_beginsAt_4 : decode cX12_beginsAt 4 = .ok (.iload_n 1, 1) := by decide +kernel
theorem dX12_beginsAt_5 : decode cX12_beginsAt 5 = .ok (.iconst 0, 1) := by decide +kernel
theorem dX12_beginsAt_6 : decode cX12_beginsAt 6 = .ok (.iastore, 1) := by decide +kernel
theorem dX12_beginsAt_7 : decode cX12_beginsAt 7 = .ok (.aload_n 0, 1) := by decide +kernel
theorem dX12_beginsAt_8 : decode cX12_beginsAt 8 = .ok (.getfield 129, 3) := by decide +kernel
theorem dX12_beginsAt_11 : decode cX12_beginsAt 11 = .ok (.iload_n 1, 1) := by decide +kernel
theorem dX12_beginsAt_12 : decode cX12_beginsAt 12 = .ok (.iconst (-1), 1) := by decide +kernel
theorem dX12_beginsAt_13 : decode cX12_beginsAt 13 = .ok (.iastore, 1) := by decide +kernel
theorem dX12_beginsAt_14 : decode cX12_beginsAt 14 = .ok (.return_, 1) := by decide +kernel
theorem dX12_nextRow_0 : decode cX12_nextRow 0 = .ok (.aload_n 0, 1) := by decide +kernel
theorem dX12_nextRow_1 : decode cX12_nextRow 1 = .ok (.getfield 69, 3) := by decide +kernel
theorem dX12_nextRow_4 : decode cX12_nextRow 4 = .ok (.iconst 3, 1) := by decide +kernel
theorem dX12_nextRow_5 : decode cX12_nextRow 5 = .ok (.iload_n 1, 1) := by decide +kernel
theorem dX12_nextRow_6 : decode cX12_nextRow 6 = .ok (.imul, 1) := by decide +kernel
theorem dX12_nextRow_7 : decode cX12_nextRow 7 = .ok (.aload_n 0, 1) := by decide +kernel
theorem dX12_nextRow_8 : decode cX12_nextRow 8 = .ok (.getfield 105, 3) := by decide +kernel
theorem dX12_nextRow_11 : decode cX12_nextRow 11 = .ok (.iload_n 2, 1) := by decide +kernel
theorem dX12_nextRow_12 : decode cX12_nextRow 12 = .ok (.iaload, 1) := by decide +kernel
theorem dX12_nextRow_13 : decode cX12_nextRow 13 = .ok (.iadd, 1) := by decide +kernel
theorem dX12_nextRow_14 : decode cX12_nextRow 14 = .ok (.iaload, 1) := by decide +kernel
theorem dX12_nextRow_15 : decode cX12_nextRow 15 = .ok (.istore 4, 2) := by decide +kernel
theorem dX12_nextRow_17 : decode cX12_nextRow 17 = .ok (.aload_n 0, 1) := by decide +kernel
theorem dX12_nextRow_18 : decode cX12_nextRow 18 = .ok (.getfield 108, 3) := by decide +kernel
theorem dX12_nextRow_21 : decode cX12_nextRow 21 = .ok (.iload_n 2, 1) := by decide +kernel
theorem dX12_nextRow_22 : decode cX12_nextRow 22 = .ok (.iaload, 1) := by decide +kernel
theorem dX12_nextRow_23 : decode cX12_nextRow 23 = .ok (.ifCond .ne 60, 3) := by decide +kernel
theorem dX12_nextRow_26 : decode cX12_nextRow 26 = .ok (.aload_n 0, 1) := by decide +kernel
theorem dX12_nextRow_27 : decode cX12_nextRow 27 = .ok (.getfield 126, 3) := by decide +kernel
theorem dX12_nextRow_30 : decode cX12_nextRow 30 = .ok (.iload_n 2, 1) := by decide +kernel
theorem dX12_nextRow_31 : decode cX12_nextRow 31 = .ok (.iaload, 1) := by decide +kernel
theorem dX12_nextRow_32 : decode cX12_nextRow 32 = .ok (.istore 5, 2) := by decide +kernel
theorem dX12_nextRow_34 : decode cX12_nextRow 34 = .ok (.iload 5, 2) := by decide +kernel
theorem dX12_nextRow_36 : decode cX12_nextRow 36 = .ok (.aload_n 0, 1) := by decide +kernel
theorem dX12_nextRow_37 : decode cX12_nextRow 37 = .ok (.getfield 13, 3) := by decide +kernel
theorem dX12_nextRow_40 : decode cX12_nextRow 40 = .ok (.iload 4, 2) := by decide +kernel
theorem dX12_nextRow_42 : decode cX12_nextRow 42 = .ok (.iaload, 1) := by decide +kernel
theorem dX12_nextRow_43 : decode cX12_nextRow 43 = .ok (.if_icmp .ne 5, 3) := by decide +kernel
theorem dX12_nextRow_46 : decode cX12_nextRow 46 = .ok (.iconst (-1), 1) := by decide +kernel
theorem dX12_nextRow_47 : decode cX12_nextRow 47 = .ok (.ireturn, 1) := by decide +kernel
theorem dX12_nextRow_48 : decode cX12_nextRow 48 = .ok (.iload 5, 2) := by decide +kernel
theorem dX12_nextRow_50 : decode cX12_nextRow 50 = .ok (.iconst 4, 1) := by decide +kernel
theorem dX12_nextRow_51 : decode cX12_nextRow 51 = .ok (.irem, 1) := by decide +kernel
theorem dX12_nextRow_52 : decode cX12_nextRow 52 = .ok (.ifCond .ne 18, 3) := by decide +kernel
theorem dX12_nextRow_55 : decode cX12_nextRow 55 = .ok (.aload_n 0, 1) := by decide +kernel
theorem dX12_nextRow_56 : decode cX12_nextRow 56 = .ok (.iload_n 3, 1) := by decide +kernel
theorem dX12_nextRow_57 : decode cX12_nextRow 57 = .ok (.bipush 100, 2) := by decide +kernel
theorem dX12_nextRow_59 : decode cX12_nextRow 59 = .ok (.iload 4, 2) := by decide +kernel
theorem dX12_nextRow_61 : decode cX12_nextRow 61 = .ok (.imul, 1) := by decide +kernel
theorem dX12_nextRow_62 : decode cX12_nextRow 62 = .ok (.iload 5, 2) := by decide +kernel
theorem dX12_nextRow_64 : decode cX12_nextRow 64 = .ok (.iconst 4, 1) := by decide +kernel
theorem dX12_nextRow_65 : decode cX12_nextRow 65 = .ok (.idiv, 1) := by decide +kernel
theorem dX12_nextRow_66 : decode cX12_nextRow 66 = .ok (.iadd, 1) := by decide +kernel
theorem dX12_nextRow_67 : decode cX12_nextRow 67 = .ok (.invokevirtual 319, 3) := by decide +kernel
theorem dX12_nextRow_70 : decode cX12_nextRow 70 = .ok (.aload_n 0, 1) := by decide +kernel
theorem dX12_nextRow_71 : decode cX12_nextRow 71 = .ok (.getfield 126, 3) := by decide +kernel
theorem dX12_nextRow_74 : decode cX12_nextRow 74 = .ok (.iload_n 2, 1) := by decide +kernel
theorem dX12_nextRow_75 : decode cX12_nextRow 75 = .ok (.dup2, 1) := by decide +kernel
theorem dX12_nextRow_76 : decode cX12_nextRow 76 = .ok (.iaload, 1) := by decide +kernel
theorem dX12_nextRow_77 : decode cX12_nextRow 77 = .ok (.iconst 1, 1) := by decide +kernel
theorem dX12_nextRow_78 : decode cX12_nextRow 78 = .ok (.iadd, 1) := by decide +kernel
theorem dX12_nextRow_79 : decode cX12_nextRow 79 = .ok (.iastore, 1) := by decide +kernel
theorem dX12_nextRow_80 : decode cX12_nextRow 80 = .ok (.iload 5, 2) := by decide +kernel
theorem dX12_nextRow_82 : decode cX12_nextRow 82 = .ok (.ireturn, 1) := by decide +kernel
theorem dX12_nextRow_83 : decode cX12_nextRow 83 = .ok (.aload_n 0, 1) := by decide +kernel
theorem dX12_nextRow_84 : decode cX12_nextRow 84 = .ok (.getfield 111, 3) := by decide +kernel
theorem dX12_nextRow_87 : decode cX12_nextRow 87 = .ok (.iload_n 2, 1) := by decide +kernel
theorem dX12_nextRow_88 : decode cX12_nextRow 88 = .ok (.iaload, 1) := by decide +kernel
theorem dX12_nextRow_89 : decode cX12_nextRow 89 = .ok (.istore 5, 2) := by decide +kernel
theorem dX12_nextRow_91 : decode cX12_nextRow 91 = .ok (.aload_n 0, 1) := by decide +kernel
theorem dX12_nextRow_92 : decode cX12_nextRow 92 = .ok (.iload_n 1, 1) := by decide +kernel
theorem dX12_nextRow_93 : decode cX12_nextRow 93 = .ok (.iload_n 2, 1) := by decide +kernel
theorem dX12_nextRow_94 : decode cX12_nextRow 94 = .ok (.invokevirtual 322, 3) := by decide +kernel
theorem dX12_nextRow_97 : decode cX12_nextRow 97 = .ok (.aload_n 0, 1) := by decide +kernel
theorem dX12_nextRow_98 : decode cX12_nextRow 98 = .ok (.getfield 126, 3) := by decide +kernel
theorem dX12_nextRow_101 : decode cX12_nextRow 101 = .ok (.iload_n 2, 1) := by decide +kernel
theorem dX12_nextRow_102 : decode cX12_nextRow 102 = .ok (.iaload, 1) := by decide +kernel
theorem dX12_nextRow_103 : decode cX12_nextRow 103 = .ok (.aload_n 0, 1) := by decide +kernel
theorem dX12_nextRow_104 : decode cX12_nextRow 104 = .ok (.getfield 53, 3) := by decide +kernel
theorem dX12_nextRow_107 : decode cX12_nextRow 107 = .ok (.iload 5, 2) := by decide +kernel
theorem dX12_nextRow_109 : decode cX12_nextRow 109 = .ok (.iaload, 1) := by decide +kernel
theorem dX12_nextRow_110 : decode cX12_nextRow 110 = .ok (.if_icmp .ge 129, 3) := by decide +kernel
theorem dX12_nextRow_113 : decode cX12_nextRow 113 = .ok (.aload_n 0, 1) := by decide +kernel
theorem dX12_nextRow_114 : decode cX12_nextRow 114 = .ok (.getfield 126, 3) := by decide +kernel
theorem dX12_nextRow_117 : decode cX12_nextRow 117 = .ok (.iload_n 2, 1) := by decide +kernel
theorem dX12_nextRow_118 : decode cX12_nextRow 118 = .ok (.iaload, 1) := by decide +kernel
theorem dX12_nextRow_119 : decode cX12_nextRow 119 = .ok (.istore 6, 2) := by decide +kernel
theorem dX12_nextRow_121 : decode cX12_nextRow 121 = .ok (.aload_n 0, 1) := by decide +kernel
theorem dX12_nextRow_122 : decode cX12_nextRow 122 = .ok (.getfield 126, 3) := by decide +kernel
theorem dX12_nextRow_125 : decode cX12_nextRow 125 = .ok (.iload_n 2, 1) := by decide +kernel
theorem dX12_nextRow_126 : decode cX12_nextRow 126 = .ok (.dup2, 1) := by decide +kernel
theorem dX12_nextRow_127 : decode cX12_nextRow 127 = .ok (.iaload, 1) := by decide +kernel
theorem dX12_nextRow_128 : decode cX12_nextRow 128 = .ok (.iconst 1, 1) := by decide +kernel
theorem dX12_nextRow_129 : decode cX12_nextRow 129 = .ok (.iadd, 1) := by decide +kernel
theorem dX12_nextRow_130 : decode cX12_nextRow 130 = .ok (.iastore, 1) := by decide +kernel
theorem dX12_nextRow_131 : decode cX12_nextRow 131 = .ok (.aload_n 0, 1) := by decide +kernel
theorem dX12_nextRow_132 : decode cX12_nextRow 132 = .ok (.getfield 313, 3) := by decide +kernel
theorem dX12_nextRow_135 : decode cX12_nextRow 135 = .ok (.aload_n 0, 1) := by decide +kernel
theorem dX12_nextRow_136 : decode cX12_nextRow 136 = .ok (.getfield 316, 3) := by decide +kernel
theorem dX12_nextRow_139 : decode cX12_nextRow 139 = .ok (.aload_n 0, 1) := by decide +kernel
theorem dX12_nextRow_140 : decode cX12_nextRow 140 = .ok (.iload 5, 2) := by decide +kernel
theorem dX12_nextRow_142 : decode cX12_nextRow 142 = .ok (.iload 6, 2) := by decide +kernel
theorem dX12_nextRow_144 : decode cX12_nextRow 144 = .ok (.invokevirtual 325, 3) := by decide +kernel
theorem dX12_nextRow_147 : decode cX12_nextRow 147 = .ok (.invokestatic 226, 3) := by decide +kernel
theorem dX12_nextRow_150 : decode cX12_nextRow 150 = .ok (.ifCond .eq 86, 3) := by decide +kernel
theorem dX12_nextRow_153 : decode cX12_nextRow 153 = .ok (.aload_n 0, 1) := by decide +kernel
theorem dX12_nextRow_154 : decode cX12_nextRow 154 = .ok (.getfield 129, 3) := by decide +kernel
theorem dX12_nextRow_157 : decode cX12_nextRow 157 = .ok (.iload_n 2, 1) := by decide +kernel
theorem dX12_nextRow_158 : decode cX12_nextRow 158 = .ok (.iaload, 1) := by decide +kernel
theorem dX12_nextRow_159 : decode cX12_nextRow 159 = .ok (.iload 6, 2) := by decide +kernel
theorem dX12_nextRow_161 : decode cX12_nextRow 161 = .ok (.bipush 8, 2) := by decide +kernel
theorem dX12_nextRow_163 : decode cX12_nextRow 163 = .ok (.idiv, 1) := by decide +kernel
theorem dX12_nextRow_164 : decode cX12_nextRow 164 = .ok (.if_icmp .eq 32, 3) := by decide +kernel
theorem dX12_nextRow_167 : decode cX12_nextRow 167 = .ok (.aload_n 0, 1) := by decide +kernel
theorem dX12_nextRow_168 : decode cX12_nextRow 168 = .ok (.getfield 129, 3) := by decide +kernel
theorem dX12_nextRow_171 : decode cX12_nextRow 171 = .ok (.iload_n 2, 1) := by decide +kernel
theorem dX12_nextRow_172 : decode cX12_nextRow 172 = .ok (.iload 6, 2) := by decide +kernel
theorem dX12_nextRow_174 : decode cX12_nextRow 174 = .ok (.bipush 8, 2) := by decide +kernel
theorem dX12_nextRow_176 : decode cX12_nextRow 176 = .ok (.idiv, 1) := by decide +kernel
theorem dX12_nextRow_177 : decode cX12_nextRow 177 = .ok (.iastore, 1) := by decide +kernel
theorem dX12_nextRow_178 : decode cX12_nextRow 178 = .ok (.aload_n 0, 1) := by decide +kernel
theorem dX12_nextRow_179 : decode cX12_nextRow 179 = .ok (.iload_n 3, 1) := by decide +kernel
theorem dX12_nextRow_180 : decode cX12_nextRow 180 = .ok (.bipush 100, 2) := by decide +kernel
theorem dX12_nextRow_182 : decode cX12_nextRow 182 = .ok (.iconst 3, 1) := by decide +kernel
theorem dX12_nextRow_183 : decode cX12_nextRow 183 = .ok (.iload 5, 2) := by decide +kernel
theorem dX12_nextRow_185 : decode cX12_nextRow 185 = .ok (.iadd, 1) := by decide +kernel
theorem dX12_nextRow_186 : decode cX12_nextRow 186 = .ok (.imul, 1) := by decide +kernel
theorem dX12_nextRow_187 : decode cX12_nextRow 187 = .ok (.iload 6, 2) := by decide +kernel
theorem dX12_nextRow_189 : decode cX12_nextRow 189 = .ok (.bipush 8, 2) := by decide +kernel
theorem dX12_nextRow_191 : decode cX12_nextRow 191 = .ok (.idiv, 1) := by decide +kernel
theorem dX12_nextRow_192 : decode cX12_nextRow 192 = .ok (.iadd, 1) := by decide +kernel
theorem dX12_nextRow_193 : decode cX12_nextRow 193 = .ok (.invokevirtual 319, 3) := by decide +kernel
theorem dX12_nextRow_196 : decode cX12_nextRow 196 = .ok (.aload_n 0, 1) := by decide +kernel
theorem dX12_nextRow_197 : decode cX12_nextRow 197 = .ok (.iload_n 3, 1) := by decide +kernel
theorem dX12_nextRow_198 : decode cX12_nextRow 198 = .ok (.bipush 100, 2) := by decide +kernel
theorem dX12_nextRow_200 : decode cX12_nextRow 200 = .ok (.iload 4, 2) := by decide +kernel
theorem dX12_nextRow_202 : decode cX12_nextRow 202 = .ok (.imul, 1) := by decide +kernel
theorem dX12_nextRow_203 : decode cX12_nextRow 203 = .ok (.aload_n 0, 1) := by decide +kernel
theorem dX12_nextRow_204 : decode cX12_nextRow 204 = .ok (.getfield 50, 3) := by decide +kernel
theorem dX12_nextRow_207 : decode cX12_nextRow 207 = .ok (.bipush 40, 2) := by decide +kernel
theorem dX12_nextRow_209 : decode cX12_nextRow 209 = .ok (.iload 5, 2) := by decide +kernel
theorem dX12_nextRow_211 : decode cX12_nextRow 211 = .ok (.imul, 1) := by decide +kernel
theorem dX12_nextRow_212 : decode cX12_nextRow 212 = .ok (.iload 6, 2) := by decide +kernel
theorem dX12_nextRow_214 : decode cX12_nextRow 214 = .ok (.iadd, 1) := by decide +kernel
theorem dX12_nextRow_215 : decode cX12_nextRow 215 = .ok (.iaload, 1) := by decide +kernel
theorem dX12_nextRow_216 : decode cX12_nextRow 216 = .ok (.iconst 4, 1) := by decide +kernel
theorem dX12_nextRow_217 : decode cX12_nextRow 217 = .ok (.idiv, 1) := by decide +kernel
theorem dX12_nextRow_218 : decode cX12_nextRow 218 = .ok (.iadd, 1) := by decide +kernel
theorem dX12_nextRow_219 : decode cX12_nextRow 219 = .ok (.invokevirtual 319, 3) := by decide +kernel
theorem dX12_nextRow_222 : decode cX12_nextRow 222 = .ok (.aload_n 0, 1) := by decide +kernel
theorem dX12_nextRow_223 : decode cX12_nextRow 223 = .ok (.getfield 50, 3) := by decide +kernel
theorem dX12_nextRow_226 : decode cX12_nextRow 226 = .ok (.bipush 40, 2) := by decide +kernel
theorem dX12_nextRow_228 : decode cX12_nextRow 228 = .ok (.iload 5, 2) := by decide +kernel
theorem dX12_nextRow_230 : decode cX12_nextRow 230 = .ok (.imul, 1) := by decide +kernel
theorem dX12_nextRow_231 : decode cX12_nextRow 231 = .ok (.iload 6, 2) := by decide +kernel
theorem dX12_nextRow_233 : decode cX12_nextRow 233 = .ok (.iadd, 1) := by decide +kernel
theorem dX12_nextRow_234 : decode cX12_nextRow 234 = .ok (.iaload, 1) := by decide +kernel
theorem dX12_nextRow_235 : decode cX12_nextRow 235 = .ok (.ireturn, 1) := by decide +kernel
theorem dX12_nextRow_236 : decode cX12_nextRow 236 = .ok (.goto (-139), 3) := by decide +kernel
theorem dX12_nextRow_239 : decode cX12_nextRow 239 = .ok (.aload_n 0, 1) := by decide +kernel
theorem dX12_nextRow_240 : decode cX12_nextRow 240 = .ok (.iload_n 2, 1) := by decide +kernel
theorem dX12_nextRow_241 : decode cX12_nextRow 241 = .ok (.iload_n 3, 1) := by decide +kernel
theorem dX12_nextRow_242 : decode cX12_nextRow 242 = .ok (.invokevirtual 328, 3) := by decide +kernel
theorem dX12_nextRow_245 : decode cX12_nextRow 245 = .ok (.iconst (-1), 1) := by decide +kernel
theorem dX12_nextRow_246 : decode cX12_nextRow 246 = .ok (.ireturn, 1) := by decide +kernel
theorem dX12_readsForNothing_0 : decode cX12_readsForNothing 0 = .ok (.aload_n 0, 1) := by decide +kernel
theorem dX12_readsForNothing_1 : decode cX12_readsForNothing 1 = .ok (.getfield 111, 3) := by decide +kernel
theorem dX12_readsForNothing_4 : decode cX12_readsForNothing 4 = .ok (.iload_n 1, 1) := by decide +kernel
theorem dX12_readsForNothing_5 : decode cX12_readsForNothing 5 = .ok (.iaload, 1) := by decide +kernel
theorem dX12_readsForNothing_6 : decode cX12_readsForNothing 6 = .ok (.istore_n 3, 1) := by decide +kernel
theorem dX12_readsForNothing_7 : decode cX12_readsForNothing 7 = .ok (.aload_n 0, 1) := by decide +kernel
theorem dX12_readsForNothing_8 : decode cX12_readsForNothing 8 = .ok (.getfield 129, 3) := by decide +kernel
theorem dX12_readsForNothing_11 : decode cX12_readsForNothing 11 = .ok (.iload_n 1, 1) := by decide +kernel
theorem dX12_readsForNothing_12 : decode cX12_readsForNothing 12 = .ok (.iaload, 1) := by decide +kernel
theorem dX12_readsForNothing_13 : decode cX12_readsForNothing 13 = .ok (.iconst (-1), 1) := by decide +kernel
theorem dX12_readsForNothing_14 : decode cX12_readsForNothing 14 = .ok (.if_icmp .ne 12, 3) := by decide +kernel
theorem dX12_readsForNothing_17 : decode cX12_readsForNothing 17 = .ok (.aload_n 0, 1) := by decide +kernel
theorem dX12_readsForNothing_18 : decode cX12_readsForNothing 18 = .ok (.getfield 53, 3) := by decide +kernel
theorem dX12_readsForNothing_21 : decode cX12_readsForNothing 21 = .ok (.iload_n 3, 1) := by decide +kernel
theorem dX12_readsForNothing_22 : decode cX12_readsForNothing 22 = .ok (.iaload, 1) := by decide +kernel
theorem dX12_readsForNothing_23 : decode cX12_readsForNothing 23 = .ok (.ifCond .ne 4, 3) := by decide +kernel
theorem dX12_readsForNothing_26 : decode cX12_readsForNothing 26 = .ok (.return_, 1) := by decide +kernel
theorem dX12_readsForNothing_27 : decode cX12_readsForNothing 27 = .ok (.aload_n 0, 1) := by decide +kernel
theorem dX12_readsForNothing_28 : decode cX12_readsForNothing 28 = .ok (.getfield 313, 3) := by decide +kernel
theorem dX12_readsForNothing_31 : decode cX12_readsForNothing 31 = .ok (.bipush 61, 2) := by decide +kernel
theorem dX12_readsForNothing_33 : decode cX12_readsForNothing 33 = .ok (.if_icmp .ne 10, 3) := by decide +kernel
theorem dX12_readsForNothing_36 : decode cX12_readsForNothing 36 = .ok (.aload_n 0, 1) := by decide +kernel
theorem dX12_readsForNothing_37 : decode cX12_readsForNothing 37 = .ok (.getfield 316, 3) := by decide +kernel
theorem dX12_readsForNothing_40 : decode cX12_readsForNothing 40 = .ok (.goto 22, 3) := by decide +kernel
theorem dX12_readsForNothing_43 : decode cX12_readsForNothing 43 = .ok (.aload_n 0, 1) := by decide +kernel
theorem dX12_readsForNothing_44 : decode cX12_readsForNothing 44 = .ok (.getfield 313, 3) := by decide +kernel
theorem dX12_readsForNothing_47 : decode cX12_readsForNothing 47 = .ok (.bipush 60, 2) := by decide +kernel
theorem dX12_readsForNothing_49 : decode cX12_readsForNothing 49 = .ok (.if_icmp .ne 7, 3) := by decide +kernel
theorem dX12_readsForNothing_52 : decode cX12_readsForNothing 52 = .ok (.iconst 0, 1) := by decide +kernel
theorem dX12_readsForNothing_53 : decode cX12_readsForNothing 53 = .ok (.goto 9, 3) := by decide +kernel
theorem dX12_readsForNothing_56 : decode cX12_readsForNothing 56 = .ok (.aload_n 0, 1) := by decide +kernel
theorem dX12_readsForNothing_57 : decode cX12_readsForNothing 57 = .ok (.getfield 316, 3) := by decide +kernel
theorem dX12_readsForNothing_60 : decode cX12_readsForNothing 60 = .ok (.iconst 1, 1) := by decide +kernel
theorem dX12_readsForNothing_61 : decode cX12_readsForNothing 61 = .ok (.iadd, 1) := by decide +kernel
theorem dX12_readsForNothing_62 : decode cX12_readsForNothing 62 = .ok (.istore 4, 2) := by decide +kernel
theorem dX12_readsForNothing_64 : decode cX12_readsForNothing 64 = .ok (.aload_n 0, 1) := by decide +kernel
theorem dX12_readsForNothing_65 : decode cX12_readsForNothing 65 = .ok (.getfield 53, 3) := by decide +kernel
theorem dX12_readsForNothing_68 : decode cX12_readsForNothing 68 = .ok (.iload_n 3, 1) := by decide +kernel
theorem dX12_readsForNothing_69 : decode cX12_readsForNothing 69 = .ok (.iaload, 1) := by decide +kernel
theorem dX12_readsForNothing_70 : decode cX12_readsForNothing 70 = .ok (.iconst 1, 1) := by decide +kernel
theorem dX12_readsForNothing_71 : decode cX12_readsForNothing 71 = .ok (.isub, 1) := by decide +kernel
theorem dX12_readsForNothing_72 : decode cX12_readsForNothing 72 = .ok (.istore 5, 2) := by decide +kernel
theorem dX12_readsForNothing_74 : decode cX12_readsForNothing 74 = .ok (.aload_n 0, 1) := by decide +kernel
theorem dX12_readsForNothing_75 : decode cX12_readsForNothing 75 = .ok (.getfield 53, 3) := by decide +kernel
theorem dX12_readsForNothing_78 : decode cX12_readsForNothing 78 = .ok (.iload_n 3, 1) := by decide +kernel
theorem dX12_readsForNothing_79 : decode cX12_readsForNothing 79 = .ok (.iaload, 1) := by decide +kernel
theorem dX12_readsForNothing_80 : decode cX12_readsForNothing 80 = .ok (.iconst 1, 1) := by decide +kernel
theorem dX12_readsForNothing_81 : decode cX12_readsForNothing 81 = .ok (.isub, 1) := by decide +kernel
theorem dX12_readsForNothing_82 : decode cX12_readsForNothing 82 = .ok (.istore 6, 2) := by decide +kernel
theorem dX12_readsForNothing_84 : decode cX12_readsForNothing 84 = .ok (.iload 6, 2) := by decide +kernel
theorem dX12_readsForNothing_86 : decode cX12_readsForNothing 86 = .ok (.ifCond .lt 30, 3) := by decide +kernel
theorem dX12_readsForNothing_89 : decode cX12_readsForNothing 89 = .ok (.aload_n 0, 1) := by decide +kernel
theorem dX12_readsForNothing_90 : decode cX12_readsForNothing 90 = .ok (.iload_n 3, 1) := by decide +kernel
theorem dX12_readsForNothing_91 : decode cX12_readsForNothing 91 = .ok (.iload 6, 2) := by decide +kernel
theorem dX12_readsForNothing_93 : decode cX12_readsForNothing 93 = .ok (.invokevirtual 325, 3) := by decide +kernel
theorem dX12_readsForNothing_96 : decode cX12_readsForNothing 96 = .ok (.iload 4, 2) := by decide +kernel
theorem dX12_readsForNothing_98 : decode cX12_readsForNothing 98 = .ok (.if_icmp .lt 8, 3) := by decide +kernel
theorem dX12_readsForNothing_101 : decode cX12_readsForNothing 101 = .ok (.iload 6, 2) := by decide +kernel
theorem dX12_readsForNothing_103 : decode cX12_readsForNothing 103 = .ok (.goto 5, 3) := by decide +kernel
theorem dX12_readsForNothing_106 : decode cX12_readsForNothing 106 = .ok (.iload 5, 2) := by decide +kernel
theorem dX12_readsForNothing_108 : decode cX12_readsForNothing 108 = .ok (.istore 5, 2) := by decide +kernel
theorem dX12_readsForNothing_110 : decode cX12_readsForNothing 110 = .ok (.iinc 6 (-1), 3) := by decide +kernel
theorem dX12_readsForNothing_113 : decode cX12_readsForNothing 113 = .ok (.goto (-29), 3) := by decide +kernel
theorem dX12_readsForNothing_116 : decode cX12_readsForNothing 116 = .ok (.aload_n 0, 1) := by decide +kernel
theorem dX12_readsForNothing_117 : decode cX12_readsForNothing 117 = .ok (.getfield 129, 3) := by decide +kernel
theorem dX12_readsForNothing_120 : decode cX12_readsForNothing 120 = .ok (.iload_n 1, 1) := by decide +kernel
theorem dX12_readsForNothing_121 : decode cX12_readsForNothing 121 = .ok (.iload 5, 2) := by decide +kernel
theorem dX12_readsForNothing_123 : decode cX12_readsForNothing 123 = .ok (.bipush 8, 2) := by decide +kernel
theorem dX12_readsForNothing_125 : decode cX12_readsForNothing 125 = .ok (.idiv, 1) := by decide +kernel
theorem dX12_readsForNothing_126 : decode cX12_readsForNothing 126 = .ok (.iastore, 1) := by decide +kernel
theorem dX12_readsForNothing_127 : decode cX12_readsForNothing 127 = .ok (.aload_n 0, 1) := by decide +kernel
theorem dX12_readsForNothing_128 : decode cX12_readsForNothing 128 = .ok (.iload_n 2, 1) := by decide +kernel
theorem dX12_readsForNothing_129 : decode cX12_readsForNothing 129 = .ok (.bipush 100, 2) := by decide +kernel
theorem dX12_readsForNothing_131 : decode cX12_readsForNothing 131 = .ok (.iconst 3, 1) := by decide +kernel
theorem dX12_readsForNothing_132 : decode cX12_readsForNothing 132 = .ok (.iload_n 3, 1) := by decide +kernel
theorem dX12_readsForNothing_133 : decode cX12_readsForNothing 133 = .ok (.iadd, 1) := by decide +kernel
theorem dX12_readsForNothing_134 : decode cX12_readsForNothing 134 = .ok (.imul, 1) := by decide +kernel
theorem dX12_readsForNothing_135 : decode cX12_readsForNothing 135 = .ok (.iload 5, 2) := by decide +kernel
theorem dX12_readsForNothing_137 : decode cX12_readsForNothing 137 = .ok (.bipush 8, 2) := by decide +kernel
theorem dX12_readsForNothing_139 : decode cX12_readsForNothing 139 = .ok (.idiv, 1) := by decide +kernel
theorem dX12_readsForNothing_140 : decode cX12_readsForNothing 140 = .ok (.iadd, 1) := by decide +kernel
theorem dX12_readsForNothing_141 : decode cX12_readsForNothing 141 = .ok (.invokevirtual 319, 3) := by decide +kernel
theorem dX12_readsForNothing_144 : decode cX12_readsForNothing 144 = .ok (.return_, 1) := by decide +kernel
theorem dX12_runs_0 : decode cX12_runs 0 = .ok (.aload_n 0, 1) := by decide +kernel
theorem dX12_runs_1 : decode cX12_runs 1 = .ok (.iload_n 1, 1) := by decide +kernel
theorem dX12_runs_2 : decode cX12_runs 2 = .ok (.iload_n 2, 1) := by decide +kernel
theorem dX12_runs_3 : decode cX12_runs 3 = .ok (.iload_n 3, 1) := by decide +kernel
theorem dX12_runs_4 : decode cX12_runs 4 = .ok (.invokevirtual 306, 3) := by decide +kernel
theorem dX12_runs_7 : decode cX12_runs 7 = .ok (.iconst 0, 1) := by decide +kernel
theorem dX12_runs_8 : decode cX12_runs 8 = .ok (.istore 5, 2) := by decide +kernel
theorem dX12_runs_10 : decode cX12_runs 10 = .ok (.iload 5, 2) := by decide +kernel
theorem dX12_runs_12 : decode cX12_runs 12 = .ok (.aload_n 0, 1) := by decide +kernel
theorem dX12_runs_13 : decode cX12_runs 13 = .ok (.getfield 155, 3) := by decide +kernel
theorem dX12_runs_16 : decode cX12_runs 16 = .ok (.if_icmp .ge 15, 3) := by decide +kernel
theorem dX12_runs_19 : decode cX12_runs 19 = .ok (.aload_n 0, 1) := by decide +kernel
theorem dX12_runs_20 : decode cX12_runs 20 = .ok (.iload 5, 2) := by decide +kernel
theorem dX12_runs_22 : decode cX12_runs 22 = .ok (.invokevirtual 197, 3) := by decide +kernel
theorem dX12_runs_25 : decode cX12_runs 25 = .ok (.iinc 5 1, 3) := by decide +kernel
theorem dX12_runs_28 : decode cX12_runs 28 = .ok (.goto (-18), 3) := by decide +kernel
theorem dX12_runs_31 : decode cX12_runs 31 = .ok (.aload_n 0, 1) := by decide +kernel
theorem dX12_runs_32 : decode cX12_runs 32 = .ok (.iconst 0, 1) := by decide +kernel
theorem dX12_runs_33 : decode cX12_runs 33 = .ok (.putfield 204, 3) := by decide +kernel
theorem dX12_runs_36 : decode cX12_runs 36 = .ok (.aload_n 0, 1) := by decide +kernel
theorem dX12_runs_37 : decode cX12_runs 37 = .ok (.iconst 0, 1) := by decide +kernel
theorem dX12_runs_38 : decode cX12_runs 38 = .ok (.putfield 201, 3) := by decide +kernel
theorem dX12_runs_41 : decode cX12_runs 41 = .ok (.aload_n 0, 1) := by decide +kernel
theorem dX12_runs_42 : decode cX12_runs 42 = .ok (.invokevirtual 229, 3) := by decide +kernel
theorem dX12_runs_45 : decode cX12_runs 45 = .ok (.iconst 0, 1) := by decide +kernel
theorem dX12_runs_46 : decode cX12_runs 46 = .ok (.istore 5, 2) := by decide +kernel
theorem dX12_runs_48 : decode cX12_runs 48 = .ok (.aload_n 0, 1) := by decide +kernel
theorem dX12_runs_49 : decode cX12_runs 49 = .ok (.iconst 0, 1) := by decide +kernel
theorem dX12_runs_50 : decode cX12_runs 50 = .ok (.invokevirtual 331, 3) := by decide +kernel
theorem dX12_runs_53 : decode cX12_runs 53 = .ok (.iload 5, 2) := by decide +kernel
theorem dX12_runs_55 : decode cX12_runs 55 = .ok (.ifCond .lt 86, 3) := by decide +kernel
theorem dX12_runs_58 : decode cX12_runs 58 = .ok (.aload_n 0, 1) := by decide +kernel
theorem dX12_runs_59 : decode cX12_runs 59 = .ok (.getfield 105, 3) := by decide +kernel
theorem dX12_runs_62 : decode cX12_runs 62 = .ok (.iload 5, 2) := by decide +kernel
theorem dX12_runs_64 : decode cX12_runs 64 = .ok (.iaload, 1) := by decide +kernel
theorem dX12_runs_65 : decode cX12_runs 65 = .ok (.istore 6, 2) := by decide +kernel
theorem dX12_runs_67 : decode cX12_runs 67 = .ok (.aload_n 0, 1) := by decide +kernel
theorem dX12_runs_68 : decode cX12_runs 68 = .ok (.getfield 102, 3) := by decide +kernel
theorem dX12_runs_71 : decode cX12_runs 71 = .ok (.iload 6, 2) := by decide +kernel
theorem dX12_runs_73 : decode cX12_runs 73 = .ok (.iconst (-1), 1) := by decide +kernel
theorem dX12_runs_74 : decode cX12_runs 74 = .ok (.iastore, 1) := by decide +kernel
theorem dX12_runs_75 : decode cX12_runs 75 = .ok (.aload_n 0, 1) := by decide +kernel
theorem dX12_runs_76 : decode cX12_runs 76 = .ok (.iload_n 2, 1) := by decide +kernel
theorem dX12_runs_77 : decode cX12_runs 77 = .ok (.iload 5, 2) := by decide +kernel
theorem dX12_runs_79 : decode cX12_runs 79 = .ok (.iload 4, 2) := by decide +kernel
theorem dX12_runs_81 : decode cX12_runs 81 = .ok (.invokevirtual 334, 3) := by decide +kernel
theorem dX12_runs_84 : decode cX12_runs 84 = .ok (.istore 7, 2) := by decide +kernel
theorem dX12_runs_86 : decode cX12_runs 86 = .ok (.iload 7, 2) := by decide +kernel
theorem dX12_runs_88 : decode cX12_runs 88 = .ok (.ifCond .ge 9, 3) := by decide +kernel
theorem dX12_runs_91 : decode cX12_runs 91 = .ok (.iinc 5 (-1), 3) := by decide +kernel
theorem dX12_runs_94 : decode cX12_runs 94 = .ok (.goto 44, 3) := by decide +kernel
theorem dX12_runs_97 : decode cX12_runs 97 = .ok (.aload_n 0, 1) := by decide +kernel
theorem dX12_runs_98 : decode cX12_runs 98 = .ok (.getfield 102, 3) := by decide +kernel
theorem dX12_runs_101 : decode cX12_runs 101 = .ok (.iload 6, 2) := by decide +kernel
theorem dX12_runs_103 : decode cX12_runs 103 = .ok (.iload 7, 2) := by decide +kernel
theorem dX12_runs_105 : decode cX12_runs 105 = .ok (.iastore, 1) := by decide +kernel
theorem dX12_runs_106 : decode cX12_runs 106 = .ok (.aload_n 0, 1) := by decide +kernel
theorem dX12_runs_107 : decode cX12_runs 107 = .ok (.iload_n 2, 1) := by decide +kernel
theorem dX12_runs_108 : decode cX12_runs 108 = .ok (.iload 6, 2) := by decide +kernel
theorem dX12_runs_110 : decode cX12_runs 110 = .ok (.invokevirtual 235, 3) := by decide +kernel
theorem dX12_runs_113 : decode cX12_runs 113 = .ok (.ifCond .eq 25, 3) := by decide +kernel
theorem dX12_runs_116 : decode cX12_runs 116 = .ok (.iload 5, 2) := by decide +kernel
theorem dX12_runs_118 : decode cX12_runs 118 = .ok (.aload_n 0, 1) := by decide +kernel
theorem dX12_runs_119 : decode cX12_runs 119 = .ok (.getfield 66, 3) := by decide +kernel
theorem dX12_runs_122 : decode cX12_runs 122 = .ok (.iload_n 2, 1) := by decide +kernel
theorem dX12_runs_123 : decode cX12_runs 123 = .ok (.iaload, 1) := by decide +kernel
theorem dX12_runs_124 : decode cX12_runs 124 = .ok (.iconst 1, 1) := by decide +kernel
theorem dX12_runs_125 : decode cX12_runs 125 = .ok (.isub, 1) := by decide +kernel
theorem dX12_runs_126 : decode cX12_runs 126 = .ok (.if_icmp .ge 12, 3) := by decide +kernel
theorem dX12_runs_129 : decode cX12_runs 129 = .ok (.iinc 5 1, 3) := by decide +kernel
theorem dX12_runs_132 : decode cX12_runs 132 = .ok (.aload_n 0, 1) := by decide +kernel
theorem dX12_runs_133 : decode cX12_runs 133 = .ok (.iload 5, 2) := by decide +kernel
theorem dX12_runs_135 : decode cX12_runs 135 = .ok (.invokevirtual 331, 3) := by decide +kernel
theorem dX12_runs_138 : decode cX12_runs 138 = .ok (.goto (-85), 3) := by decide +kernel
theorem dX12_runs_141 : decode cX12_runs 141 = .ok (.return_, 1) := by decide +kernel
theorem dX12_triesCold_0 : decode cX12_triesCold 0 = .ok (.aload_n 0, 1) := by decide +kernel
theorem dX12_triesCold_1 : decode cX12_triesCold 1 = .ok (.getfield 63, 3) := by decide +kernel
theorem dX12_triesCold_4 : decode cX12_triesCold 4 = .ok (.iconst 1, 1) := by decide +kernel
theorem dX12_triesCold_5 : decode cX12_triesCold 5 = .ok (.iconst 0, 1) := by decide +kernel
theorem dX12_triesCold_6 : decode cX12_triesCold 6 = .ok (.iastore, 1) := by decide +kernel
theorem dX12_triesCold_7 : decode cX12_triesCold 7 = .ok (.aload_n 0, 1) := by decide +kernel
theorem dX12_triesCold_8 : decode cX12_triesCold 8 = .ok (.iload_n 1, 1) := by decide +kernel
theorem dX12_triesCold_9 : decode cX12_triesCold 9 = .ok (.iload_n 2, 1) := by decide +kernel
theorem dX12_triesCold_10 : decode cX12_triesCold 10 = .ok (.iload_n 3, 1) := by decide +kernel
theorem dX12_triesCold_11 : decode cX12_triesCold 11 = .ok (.iconst 1, 1) := by decide +kernel
theorem dX12_triesCold_12 : decode cX12_triesCold 12 = .ok (.invokevirtual 337, 3) := by decide +kernel
theorem dX12_triesCold_15 : decode cX12_triesCold 15 = .ok (.return_, 1) := by decide +kernel
theorem dX12_cold_0 : decode cX12_cold 0 = .ok (.aload_n 0, 1) := by decide +kernel
theorem dX12_cold_1 : decode cX12_cold 1 = .ok (.iconst 0, 1) := by decide +kernel
theorem dX12_cold_2 : decode cX12_cold 2 = .ok (.putfield 141, 3) := by decide +kernel
theorem dX12_cold_5 : decode cX12_cold 5 = .ok (.aload_n 0, 1) := by decide +kernel
theorem dX12_cold_6 : decode cX12_cold 6 = .ok (.iload_n 1, 1) := by decide +kernel
theorem dX12_cold_7 : decode cX12_cold 7 = .ok (.iload_n 2, 1) := by decide +kernel
theorem dX12_cold_8 : decode cX12_cold 8 = .ok (.invokevirtual 310, 3) := by decide +kernel
theorem dX12_cold_11 : decode cX12_cold 11 = .ok (.ifCond .eq 5, 3) := by decide +kernel
theorem dX12_cold_14 : decode cX12_cold 14 = .ok (.iconst (-1), 1) := by decide +kernel
theorem dX12_cold_15 : decode cX12_cold 15 = .ok (.ireturn, 1) := by decide +kernel
theorem dX12_cold_16 : decode cX12_cold 16 = .ok (.aload_n 0, 1) := by decide +kernel
theorem dX12_cold_17 : decode cX12_cold 17 = .ok (.iload_n 1, 1) := by decide +kernel
theorem dX12_cold_18 : decode cX12_cold 18 = .ok (.iload_n 2, 1) := by decide +kernel
theorem dX12_cold_19 : decode cX12_cold 19 = .ok (.aload_n 0, 1) := by decide +kernel
theorem dX12_cold_20 : decode cX12_cold 20 = .ok (.getfield 123, 3) := by decide +kernel
theorem dX12_cold_23 : decode cX12_cold 23 = .ok (.iload_n 1, 1) := by decide +kernel
theorem dX12_cold_24 : decode cX12_cold 24 = .ok (.iaload, 1) := by decide +kernel
theorem dX12_cold_25 : decode cX12_cold 25 = .ok (.invokevirtual 341, 3) := by decide +kernel
theorem dX12_cold_28 : decode cX12_cold 28 = .ok (.aload_n 0, 1) := by decide +kernel
theorem dX12_cold_29 : decode cX12_cold 29 = .ok (.getfield 204, 3) := by decide +kernel
theorem dX12_cold_32 : decode cX12_cold 32 = .ok (.ireturn, 1) := by decide +kernel
theorem dX12_reads_0 : decode cX12_reads 0 = .ok (.aload_n 0, 1) := by decide +kernel
theorem dX12_reads_1 : decode cX12_reads 1 = .ok (.iconst 0, 1) := by decide +kernel
theorem dX12_reads_2 : decode cX12_reads 2 = .ok (.putfield 141, 3) := by decide +kernel
theorem dX12_reads_5 : decode cX12_reads 5 = .ok (.aload_n 0, 1) := by decide +kernel
theorem dX12_reads_6 : decode cX12_reads 6 = .ok (.iload_n 1, 1) := by decide +kernel
theorem dX12_reads_7 : decode cX12_reads 7 = .ok (.iload_n 2, 1) := by decide +kernel
theorem dX12_reads_8 : decode cX12_reads 8 = .ok (.invokevirtual 310, 3) := by decide +kernel
theorem dX12_reads_11 : decode cX12_reads 11 = .ok (.ifCond .eq 5, 3) := by decide +kernel
theorem dX12_reads_14 : decode cX12_reads 14 = .ok (.iconst (-1), 1) := by decide +kernel
theorem dX12_reads_15 : decode cX12_reads 15 = .ok (.ireturn, 1) := by decide +kernel
theorem dX12_reads_16 : decode cX12_reads 16 = .ok (.aload_n 0, 1) := by decide +kernel
theorem dX12_reads_17 : decode cX12_reads 17 = .ok (.iload_n 1, 1) := by decide +kernel
theorem dX12_reads_18 : decode cX12_reads 18 = .ok (.iload_n 2, 1) := by decide +kernel
theorem dX12_reads_19 : decode cX12_reads 19 = .ok (.aload_n 0, 1) := by decide +kernel
theorem dX12_reads_20 : decode cX12_reads 20 = .ok (.getfield 123, 3) := by decide +kernel
theorem dX12_reads_23 : decode cX12_reads 23 = .ok (.iload_n 1, 1) := by decide +kernel
theorem dX12_reads_24 : decode cX12_reads 24 = .ok (.iaload, 1) := by decide +kernel
theorem dX12_reads_25 : decode cX12_reads 25 = .ok (.invokevirtual 341, 3) := by decide +kernel
theorem dX12_reads_28 : decode cX12_reads 28 = .ok (.aload_n 0, 1) := by decide +kernel
theorem dX12_reads_29 : decode cX12_reads 29 = .ok (.getfield 201, 3) := by decide +kernel
theorem dX12_reads_32 : decode cX12_reads 32 = .ok (.ireturn, 1) := by decide +kernel
theorem dX12_ones_0 : decode cX12_ones 0 = .ok (.iconst 0, 1) := by decide +kernel
theorem dX12_ones_1 : decode cX12_ones 1 = .ok (.istore_n 1, 1) := by decide +kernel
theorem dX12_ones_2 : decode cX12_ones 2 = .ok (.iconst 0, 1) := by decide +kernel
theorem dX12_ones_3 : decode cX12_ones 3 = .ok (.istore_n 2, 1) := by decide +kernel
theorem dX12_ones_4 : decode cX12_ones 4 = .ok (.iload_n 2, 1) := by decide +kernel
theorem dX12_ones_5 : decode cX12_ones 5 = .ok (.bipush 6, 2) := by decide +kernel
theorem dX12_ones_7 : decode cX12_ones 7 = .ok (.if_icmp .ge 17, 3) := by decide +kernel
theorem dX12_ones_10 : decode cX12_ones 10 = .ok (.iload_n 1, 1) := by decide +kernel
theorem dX12_ones_11 : decode cX12_ones 11 = .ok (.iload_n 0, 1) := by decide +kernel
theorem dX12_ones_12 : decode cX12_ones 12 = .ok (.iload_n 2, 1) := by decide +kernel
theorem dX12_ones_13 : decode cX12_ones 13 = .ok (.ishr, 1) := by decide +kernel
theorem dX12_ones_14 : decode cX12_ones 14 = .ok (.iconst 1, 1) := by decide +kernel
theorem dX12_ones_15 : decode cX12_ones 15 = .ok (.iand, 1) := by decide +kernel
theorem dX12_ones_16 : decode cX12_ones 16 = .ok (.iadd, 1) := by decide +kernel
theorem dX12_ones_17 : decode cX12_ones 17 = .ok (.istore_n 1, 1) := by decide +kernel
theorem dX12_ones_18 : decode cX12_ones 18 = .ok (.iinc 2 1, 3) := by decide +kernel
theorem dX12_ones_21 : decode cX12_ones 21 = .ok (.goto (-17), 3) := by decide +kernel
theorem dX12_ones_24 : decode cX12_ones 24 = .ok (.iload_n 1, 1) := by decide +kernel
theorem dX12_ones_25 : decode cX12_ones 25 = .ok (.ireturn, 1) := by decide +kernel
theorem dX12_ban_0 : decode cX12_ban 0 = .ok (.aload_n 0, 1) := by decide +kernel
theorem dX12_ban_1 : decode cX12_ban 1 = .ok (.iconst 0, 1) := by decide +kernel
theorem dX12_ban_2 : decode cX12_ban 2 = .ok (.putfield 141, 3) := by decide +kernel
theorem dX12_ban_5 : decode cX12_ban 5 = .ok (.aload_n 0, 1) := by decide +kernel
theorem dX12_ban_6 : decode cX12_ban 6 = .ok (.iload_n 1, 1) := by decide +kernel
theorem dX12_ban_7 : decode cX12_ban 7 = .ok (.iconst 0, 1) := by decide +kernel
theorem dX12_ban_8 : decode cX12_ban 8 = .ok (.iconst 1, 1) := by decide +kernel
theorem dX12_ban_9 : decode cX12_ban 9 = .ok (.invokestatic 147, 3) := by decide +kernel
theorem dX12_ban_12 : decode cX12_ban 12 = .ok (.ifCond .ne 7, 3) := by decide +kernel
theorem dX12_ban_15 : decode cX12_ban 15 = .ok (.iconst 1, 1) := by decide +kernel
theorem dX12_ban_16 : decode cX12_ban 16 = .ok (.goto 4, 3) := by decide +kernel
theorem dX12_ban_19 : decode cX12_ban 19 = .ok (.iconst 0, 1) := by decide +kernel
theorem dX12_ban_20 : decode cX12_ban 20 = .ok (.iconst 1, 1) := by decide +kernel
theorem dX12_ban_21 : decode cX12_ban 21 = .ok (.invokevirtual 162, 3) := by decide +kernel
theorem dX12_ban_24 : decode cX12_ban 24 = .ok (.ifCond .ne 24, 3) := by decide +kernel
theorem dX12_ban_27 : decode cX12_ban 27 = .ok (.aload_n 0, 1) := by decide +kernel
theorem dX12_ban_28 : decode cX12_ban 28 = .ok (.aload_n 0, 1) := by decide +kernel
theorem dX12_ban_29 : decode cX12_ban 29 = .ok (.iload_n 2, 1) := by decide +kernel
theorem dX12_ban_30 : decode cX12_ban 30 = .ok (.invokevirtual 194, 3) := by decide +kernel
theorem dX12_ban_33 : decode cX12_ban 33 = .ok (.ifCond .ne 7, 3) := by decide +kernel
theorem dX12_ban_36 : decode cX12_ban 36 = .ok (.iconst 1, 1) := by decide +kernel
theorem dX12_ban_37 : decode cX12_ban 37 = .ok (.goto 4, 3) := by decide +kernel
theorem dX12_ban_40 : decode cX12_ban 40 = .ok (.iconst 0, 1) := by decide +kernel
theorem dX12_ban_41 : decode cX12_ban 41 = .ok (.iconst 2, 1) := by decide +kernel
theorem dX12_ban_42 : decode cX12_ban 42 = .ok (.invokevirtual 162, 3) := by decide +kernel
theorem dX12_ban_45 : decode cX12_ban 45 = .ok (.ifCond .eq 5, 3) := by decide +kernel
theorem dX12_ban_48 : decode cX12_ban 48 = .ok (.iconst (-1), 1) := by decide +kernel
theorem dX12_ban_49 : decode cX12_ban 49 = .ok (.ireturn, 1) := by decide +kernel
theorem dX12_ban_50 : decode cX12_ban 50 = .ok (.aload_n 0, 1) := by decide +kernel
theorem dX12_ban_51 : decode cX12_ban 51 = .ok (.getfield 123, 3) := by decide +kernel
theorem dX12_ban_54 : decode cX12_ban 54 = .ok (.iconst 1, 1) := by decide +kernel
theorem dX12_ban_55 : decode cX12_ban 55 = .ok (.iload_n 1, 1) := by decide +kernel
theorem dX12_ban_56 : decode cX12_ban 56 = .ok (.isub, 1) := by decide +kernel
theorem dX12_ban_57 : decode cX12_ban 57 = .ok (.iaload, 1) := by decide +kernel
theorem dX12_ban_58 : decode cX12_ban 58 = .ok (.istore_n 3, 1) := by decide +kernel
theorem dX12_ban_59 : decode cX12_ban 59 = .ok (.aload_n 0, 1) := by decide +kernel
theorem dX12_ban_60 : decode cX12_ban 60 = .ok (.iload_n 3, 1) := by decide +kernel
theorem dX12_ban_61 : decode cX12_ban 61 = .ok (.iload_n 2, 1) := by decide +kernel
theorem dX12_ban_62 : decode cX12_ban 62 = .ok (.ishr, 1) := by decide +kernel
theorem dX12_ban_63 : decode cX12_ban 63 = .ok (.iconst 1, 1) := by decide +kernel
theorem dX12_ban_64 : decode cX12_ban 64 = .ok (.iand, 1) := by decide +kernel
theorem dX12_ban_65 : decode cX12_ban 65 = .ok (.iconst 1, 1) := by decide +kernel
theorem dX12_ban_66 : decode cX12_ban 66 = .ok (.if_icmp .eq 11, 3) := by decide +kernel
theorem dX12_ban_69 : decode cX12_ban 69 = .ok (.iload_n 3, 1) := by decide +kernel
theorem dX12_ban_70 : decode cX12_ban 70 = .ok (.invokestatic 344, 3) := by decide +kernel
theorem dX12_ban_73 : decode cX12_ban 73 = .ok (.iconst 2, 1) := by decide +kernel
theorem dX12_ban_74 : decode cX12_ban 74 = .ok (.if_icmp .ne 7, 3) := by decide +kernel
theorem dX12_ban_77 : decode cX12_ban 77 = .ok (.iconst 1, 1) := by decide +kernel
theorem dX12_ban_78 : decode cX12_ban 78 = .ok (.goto 4, 3) := by decide +kernel
theorem dX12_ban_81 : decode cX12_ban 81 = .ok (.iconst 0, 1) := by decide +kernel
theorem dX12_ban_82 : decode cX12_ban 82 = .ok (.iconst 3, 1) := by decide +kernel
theorem dX12_ban_83 : decode cX12_ban 83 = .ok (.invokevirtual 162, 3) := by decide +kernel
theorem dX12_ban_86 : decode cX12_ban 86 = .ok (.ifCond .ne 26, 3) := by decide +kernel
theorem dX12_ban_89 : decode cX12_ban 89 = .ok (.aload_n 0, 1) := by decide +kernel
theorem dX12_ban_90 : decode cX12_ban 90 = .ok (.aload_n 0, 1) := by decide +kernel
theorem dX12_ban_91 : decode cX12_ban 91 = .ok (.getfield 132, 3) := by decide +kernel
theorem dX12_ban_94 : decode cX12_ban 94 = .ok (.iload_n 1, 1) := by decide +kernel
theorem dX12_ban_95 : decode cX12_ban 95 = .ok (.iaload, 1) := by decide +kernel
theorem dX12_ban_96 : decode cX12_ban 96 = .ok (.iconst 2, 1) := by decide +kernel
theorem dX12_ban_97 : decode cX12_ban 97 = .ok (.if_icmp .ge 7, 3) := by decide +kernel
theorem dX12_ban_100 : decode cX12_ban 100 = .ok (.iconst 1, 1) := by decide +kernel
theorem dX12_ban_101 : decode cX12_ban 101 = .ok (.goto 4, 3) := by decide +kernel
theorem dX12_ban_104 : decode cX12_ban 104 = .ok (.iconst 0, 1) := by decide +kernel
theorem dX12_ban_105 : decode cX12_ban 105 = .ok (.iconst 4, 1) := by decide +kernel
theorem dX12_ban_106 : decode cX12_ban 106 = .ok (.invokevirtual 162, 3) := by decide +kernel
theorem dX12_ban_109 : decode cX12_ban 109 = .ok (.ifCond .eq 5, 3) := by decide +kernel
theorem dX12_ban_112 : decode cX12_ban 112 = .ok (.iconst (-1), 1) := by decide +kernel
theorem dX12_ban_113 : decode cX12_ban 113 = .ok (.ireturn, 1) := by decide +kernel
theorem dX12_ban_114 : decode cX12_ban 114 = .ok (.aload_n 0, 1) := by decide +kernel
theorem dX12_ban_115 : decode cX12_ban 115 = .ok (.getfield 123, 3) := by decide +kernel
theorem dX12_ban_118 : decode cX12_ban 118 = .ok (.iconst 1, 1) := by decide +kernel
theorem dX12_ban_119 : decode cX12_ban 119 = .ok (.iload_n 1, 1) := by decide +kernel
theorem dX12_ban_120 : decode cX12_ban 120 = .ok (.isub, 1) := by decide +kernel
theorem dX12_ban_121 : decode cX12_ban 121 = .ok (.dup2, 1) := by decide +kernel
theorem dX12_ban_122 : decode cX12_ban 122 = .ok (.iaload, 1) := by decide +kernel
theorem dX12_ban_123 : decode cX12_ban 123 = .ok (.iconst 1, 1) := by decide +kernel
theorem dX12_ban_124 : decode cX12_ban 124 = .ok (.iload_n 2, 1) := by decide +kernel
theorem dX12_ban_125 : decode cX12_ban 125 = .ok (.ishl, 1) := by decide +kernel
theorem dX12_ban_126 : decode cX12_ban 126 = .ok (.ior, 1) := by decide +kernel
theorem dX12_ban_127 : decode cX12_ban 127 = .ok (.iastore, 1) := by decide +kernel
theorem dX12_ban_128 : decode cX12_ban 128 = .ok (.aload_n 0, 1) := by decide +kernel
theorem dX12_ban_129 : decode cX12_ban 129 = .ok (.getfield 132, 3) := by decide +kernel
theorem dX12_ban_132 : decode cX12_ban 132 = .ok (.iload_n 1, 1) := by decide +kernel
theorem dX12_ban_133 : decode cX12_ban 133 = .ok (.dup2, 1) := by decide +kernel
theorem dX12_ban_134 : decode cX12_ban 134 = .ok (.iaload, 1) := by decide +kernel
theorem dX12_ban_135 : decode cX12_ban 135 = .ok (.iconst 2, 1) := by decide +kernel
theorem dX12_ban_136 : decode cX12_ban 136 = .ok (.isub, 1) := by decide +kernel
theorem dX12_ban_137 : decode cX12_ban 137 = .ok (.iastore, 1) := by decide +kernel
theorem dX12_ban_138 : decode cX12_ban 138 = .ok (.aload_n 0, 1) := by decide +kernel
theorem dX12_ban_139 : decode cX12_ban 139 = .ok (.getfield 132, 3) := by decide +kernel
theorem dX12_ban_142 : decode cX12_ban 142 = .ok (.iload_n 1, 1) := by decide +kernel
theorem dX12_ban_143 : decode cX12_ban 143 = .ok (.iaload, 1) := by decide +kernel
theorem dX12_ban_144 : decode cX12_ban 144 = .ok (.ireturn, 1) := by decide +kernel
theorem dX12_winnerOf_0 : decode cX12_winnerOf 0 = .ok (.aload_n 0, 1) := by decide +kernel
theorem dX12_winnerOf_1 : decode cX12_winnerOf 1 = .ok (.getfield 135, 3) := by decide +kernel
theorem dX12_winnerOf_4 : decode cX12_winnerOf 4 = .ok (.iconst 2, 1) := by decide +kernel
theorem dX12_winnerOf_5 : decode cX12_winnerOf 5 = .ok (.iload_n 1, 1) := by decide +kernel
theorem dX12_winnerOf_6 : decode cX12_winnerOf 6 = .ok (.imul, 1) := by decide +kernel
theorem dX12_winnerOf_7 : decode cX12_winnerOf 7 = .ok (.iaload, 1) := by decide +kernel
theorem dX12_winnerOf_8 : decode cX12_winnerOf 8 = .ok (.istore_n 2, 1) := by decide +kernel
theorem dX12_winnerOf_9 : decode cX12_winnerOf 9 = .ok (.aload_n 0, 1) := by decide +kernel
theorem dX12_winnerOf_10 : decode cX12_winnerOf 10 = .ok (.getfield 135, 3) := by decide +kernel
theorem dX12_winnerOf_13 : decode cX12_winnerOf 13 = .ok (.iconst 2, 1) := by decide +kernel
theorem dX12_winnerOf_14 : decode cX12_winnerOf 14 = .ok (.iload_n 1, 1) := by decide +kernel
theorem dX12_winnerOf_15 : decode cX12_winnerOf 15 = .ok (.imul, 1) := by decide +kernel
theorem dX12_winnerOf_16 : decode cX12_winnerOf 16 = .ok (.iconst 1, 1) := by decide +kernel
theorem dX12_winnerOf_17 : decode cX12_winnerOf 17 = .ok (.iadd, 1) := by decide +kernel
theorem dX12_winnerOf_18 : decode cX12_winnerOf 18 = .ok (.iaload, 1) := by decide +kernel
theorem dX12_winnerOf_19 : decode cX12_winnerOf 19 = .ok (.istore_n 3, 1) := by decide +kernel
theorem dX12_winnerOf_20 : decode cX12_winnerOf 20 = .ok (.iload_n 2, 1) := by decide +kernel
theorem dX12_winnerOf_21 : decode cX12_winnerOf 21 = .ok (.iload_n 3, 1) := by decide +kernel
theorem dX12_winnerOf_22 : decode cX12_winnerOf 22 = .ok (.if_icmp .ge 7, 3) := by decide +kernel
theorem dX12_winnerOf_25 : decode cX12_winnerOf 25 = .ok (.iconst 0, 1) := by decide +kernel
theorem dX12_winnerOf_26 : decode cX12_winnerOf 26 = .ok (.goto 13, 3) := by decide +kernel
theorem dX12_winnerOf_29 : decode cX12_winnerOf 29 = .ok (.iload_n 3, 1) := by decide +kernel
theorem dX12_winnerOf_30 : decode cX12_winnerOf 30 = .ok (.iload_n 2, 1) := by decide +kernel
theorem dX12_winnerOf_31 : decode cX12_winnerOf 31 = .ok (.if_icmp .ge 7, 3) := by decide +kernel
theorem dX12_winnerOf_34 : decode cX12_winnerOf 34 = .ok (.iconst 1, 1) := by decide +kernel
theorem dX12_winnerOf_35 : decode cX12_winnerOf 35 = .ok (.goto 4, 3) := by decide +kernel
theorem dX12_winnerOf_38 : decode cX12_winnerOf 38 = .ok (.iconst (-1), 1) := by decide +kernel
theorem dX12_winnerOf_39 : decode cX12_winnerOf 39 = .ok (.ireturn, 1) := by decide +kernel
theorem dX12_pays_0 : decode cX12_pays 0 = .ok (.iconst 0, 1) := by decide +kernel
theorem dX12_pays_1 : decode cX12_pays 1 = .ok (.istore_n 3, 1) := by decide +kernel
theorem dX12_pays_2 : decode cX12_pays 2 = .ok (.iload_n 3, 1) := by decide +kernel
theorem dX12_pays_3 : decode cX12_pays 3 = .ok (.iconst 2, 1) := by decide +kernel
theorem dX12_pays_4 : decode cX12_pays 4 = .ok (.if_icmp .ge 47, 3) := by decide +kernel
theorem dX12_pays_7 : decode cX12_pays 7 = .ok (.aload_n 0, 1) := by decide +kernel
theorem dX12_pays_8 : decode cX12_pays 8 = .ok (.getfield 132, 3) := by decide +kernel
theorem dX12_pays_11 : decode cX12_pays 11 = .ok (.iload_n 3, 1) := by decide +kernel
theorem dX12_pays_12 : decode cX12_pays 12 = .ok (.iconst 0, 1) := by decide +kernel
theorem dX12_pays_13 : decode cX12_pays 13 = .ok (.aload_n 0, 1) := by decide +kernel
theorem dX12_pays_14 : decode cX12_pays 14 = .ok (.getfield 132, 3) := by decide +kernel
theorem dX12_pays_17 : decode cX12_pays 17 = .ok (.iload_n 3, 1) := by decide +kernel
theorem dX12_pays_18 : decode cX12_pays 18 = .ok (.iaload, 1) := by decide +kernel
theorem dX12_pays_19 : decode cX12_pays 19 = .ok (.iload_n 2, 1) := by decide +kernel
theorem dX12_pays_20 : decode cX12_pays 20 = .ok (.iload_n 1, 1) := by decide +kernel
theorem dX12_pays_21 : decode cX12_pays 21 = .ok (.iconst (-1), 1) := by decide +kernel
theorem dX12_pays_22 : decode cX12_pays 22 = .ok (.if_icmp .ne 7, 3) := by decide +kernel
theorem dX12_pays_25 : decode cX12_pays 25 = .ok (.iconst 1, 1) := by decide +kernel
theorem dX12_pays_26 : decode cX12_pays 26 = .ok (.goto 13, 3) := by decide +kernel
theorem dX12_pays_29 : decode cX12_pays 29 = .ok (.iload_n 1, 1) := by decide +kernel
theorem dX12_pays_30 : decode cX12_pays 30 = .ok (.iload_n 3, 1) := by decide +kernel
theorem dX12_pays_31 : decode cX12_pays 31 = .ok (.if_icmp .ne 7, 3) := by decide +kernel
theorem dX12_pays_34 : decode cX12_pays 34 = .ok (.iconst 3, 1) := by decide +kernel
theorem dX12_pays_35 : decode cX12_pays 35 = .ok (.goto 4, 3) := by decide +kernel
theorem dX12_pays_38 : decode cX12_pays 38 = .ok (.iconst 0, 1) := by decide +kernel
theorem dX12_pays_39 : decode cX12_pays 39 = .ok (.imul, 1) := by decide +kernel
theorem dX12_pays_40 : decode cX12_pays 40 = .ok (.iadd, 1) := by decide +kernel
theorem dX12_pays_41 : decode cX12_pays 41 = .ok (.invokestatic 266, 3) := by decide +kernel
theorem dX12_pays_44 : decode cX12_pays 44 = .ok (.iastore, 1) := by decide +kernel
theorem dX12_pays_45 : decode cX12_pays 45 = .ok (.iinc 3 1, 3) := by decide +kernel
theorem dX12_pays_48 : decode cX12_pays 48 = .ok (.goto (-46), 3) := by decide +kernel
theorem dX12_pays_51 : decode cX12_pays 51 = .ok (.return_, 1) := by decide +kernel
theorem dX12_round_0 : decode cX12_round 0 = .ok (.aload_n 0, 1) := by decide +kernel
theorem dX12_round_1 : decode cX12_round 1 = .ok (.iconst 0, 1) := by decide +kernel
theorem dX12_round_2 : decode cX12_round 2 = .ok (.putfield 141, 3) := by decide +kernel
theorem dX12_round_5 : decode cX12_round 5 = .ok (.aload_n 0, 1) := by decide +kernel
theorem dX12_round_6 : decode cX12_round 6 = .ok (.aload_n 0, 1) := by decide +kernel
theorem dX12_round_7 : decode cX12_round 7 = .ok (.iload_n 1, 1) := by decide +kernel
theorem dX12_round_8 : decode cX12_round 8 = .ok (.invokevirtual 217, 3) := by decide +kernel
theorem dX12_round_11 : decode cX12_round 11 = .ok (.ifCond .ne 7, 3) := by decide +kernel
theorem dX12_round_14 : decode cX12_round 14 = .ok (.iconst 1, 1) := by decide +kernel
theorem dX12_round_15 : decode cX12_round 15 = .ok (.goto 4, 3) := by decide +kernel
theorem dX12_round_18 : decode cX12_round 18 = .ok (.iconst 0, 1) := by decide +kernel
theorem dX12_round_19 : decode cX12_round 19 = .ok (.iconst 1, 1) := by decide +kernel
theorem dX12_round_20 : decode cX12_round 20 = .ok (.invokevirtual 162, 3) := by decide +kernel
theorem dX12_round_23 : decode cX12_round 23 = .ok (.ifCond .ne 25, 3) := by decide +kernel
theorem dX12_round_26 : decode cX12_round 26 = .ok (.aload_n 0, 1) := by decide +kernel
theorem dX12_round_27 : decode cX12_round 27 = .ok (.aload_n 0, 1) := by decide +kernel
theorem dX12_round_28 : decode cX12_round 28 = .ok (.getfield 66, 3) := by decide +kernel
theorem dX12_round_31 : decode cX12_round 31 = .ok (.iload_n 1, 1) := by decide +kernel
theorem dX12_round_32 : decode cX12_round 32 = .ok (.iaload, 1) := by decide +kernel
theorem dX12_round_33 : decode cX12_round 33 = .ok (.ifCond .ne 7, 3) := by decide +kernel
theorem dX12_round_36 : decode cX12_round 36 = .ok (.iconst 1, 1) := by decide +kernel
theorem dX12_round_37 : decode cX12_round 37 = .ok (.goto 4, 3) := by decide +kernel
theorem dX12_round_40 : decode cX12_round 40 = .ok (.iconst 0, 1) := by decide +kernel
theorem dX12_round_41 : decode cX12_round 41 = .ok (.iconst 2, 1) := by decide +kernel
theorem dX12_round_42 : decode cX12_round 42 = .ok (.invokevirtual 162, 3) := by decide +kernel
theorem dX12_round_45 : decode cX12_round 45 = .ok (.ifCond .eq 5, 3) := by decide +kernel
theorem dX12_round_48 : decode cX12_round 48 = .ok (.iconst (-1), 1) := by decide +kernel
theorem dX12_round_49 : decode cX12_round 49 = .ok (.ireturn, 1) := by decide +kernel
theorem dX12_round_50 : decode cX12_round 50 = .ok (.aload_n 0, 1) := by decide +kernel
theorem dX12_round_51 : decode cX12_round 51 = .ok (.getfield 347, 3) := by decide +kernel
theorem dX12_round_54 : decode cX12_round 54 = .ok (.iconst 2, 1) := by decide +kernel
theorem dX12_round_55 : decode cX12_round 55 = .ok (.irem, 1) := by decide +kernel
theorem dX12_round_56 : decode cX12_round 56 = .ok (.istore_n 2, 1) := by decide +kernel
theorem dX12_round_57 : decode cX12_round 57 = .ok (.aload_n 0, 1) := by decide +kernel
theorem dX12_round_58 : decode cX12_round 58 = .ok (.iload_n 2, 1) := by decide +kernel
theorem dX12_round_59 : decode cX12_round 59 = .ok (.iload_n 1, 1) := by decide +kernel
theorem dX12_round_60 : decode cX12_round 60 = .ok (.aload_n 0, 1) := by decide +kernel
theorem dX12_round_61 : decode cX12_round 61 = .ok (.getfield 123, 3) := by decide +kernel
theorem dX12_round_64 : decode cX12_round 64 = .ok (.iload_n 2, 1) := by decide +kernel
theorem dX12_round_65 : decode cX12_round 65 = .ok (.iaload, 1) := by decide +kernel
theorem dX12_round_66 : decode cX12_round 66 = .ok (.iconst 0, 1) := by decide +kernel
theorem dX12_round_67 : decode cX12_round 67 = .ok (.invokevirtual 337, 3) := by decide +kernel
theorem dX12_round_70 : decode cX12_round 70 = .ok (.aload_n 0, 1) := by decide +kernel
theorem dX12_round_71 : decode cX12_round 71 = .ok (.getfield 135, 3) := by decide +kernel
theorem dX12_round_74 : decode cX12_round 74 = .ok (.iconst 2, 1) := by decide +kernel
theorem dX12_round_75 : decode cX12_round 75 = .ok (.aload_n 0, 1) := by decide +kernel
theorem dX12_round_76 : decode cX12_round 76 = .ok (.getfield 347, 3) := by decide +kernel
theorem dX12_round_79 : decode cX12_round 79 = .ok (.imul, 1) := by decide +kernel
theorem dX12_round_80 : decode cX12_round 80 = .ok (.iload_n 2, 1) := by decide +kernel
theorem dX12_round_81 : decode cX12_round 81 = .ok (.iadd, 1) := by decide +kernel
theorem dX12_round_82 : decode cX12_round 82 = .ok (.aload_n 0, 1) := by decide +kernel
theorem dX12_round_83 : decode cX12_round 83 = .ok (.getfield 204, 3) := by decide +kernel
theorem dX12_round_86 : decode cX12_round 86 = .ok (.iastore, 1) := by decide +kernel
theorem dX12_round_87 : decode cX12_round 87 = .ok (.aload_n 0, 1) := by decide +kernel
theorem dX12_round_88 : decode cX12_round 88 = .ok (.iconst 1, 1) := by decide +kernel
theorem dX12_round_89 : decode cX12_round 89 = .ok (.iload_n 2, 1) := by decide +kernel
theorem dX12_round_90 : decode cX12_round 90 = .ok (.isub, 1) := by decide +kernel
theorem dX12_round_91 : decode cX12_round 91 = .ok (.iload_n 1, 1) := by decide +kernel
theorem dX12_round_92 : decode cX12_round 92 = .ok (.aload_n 0, 1) := by decide +kernel
theorem dX12_round_93 : decode cX12_round 93 = .ok (.getfield 123, 3) := by decide +kernel
theorem dX12_round_96 : decode cX12_round 96 = .ok (.iconst 1, 1) := by decide +kernel
theorem dX12_round_97 : decode cX12_round 97 = .ok (.iload_n 2, 1) := by decide +kernel
theorem dX12_round_98 : decode cX12_round 98 = .ok (.isub, 1) := by decide +kernel
theorem dX12_round_99 : decode cX12_round 99 = .ok (.iaload, 1) := by decide +kernel
theorem dX12_round_100 : decode cX12_round 100 = .ok (.iconst 0, 1) := by decide +kernel
theorem dX12_round_101 : decode cX12_round 101 = .ok (.invokevirtual 337, 3) := by decide +kernel
theorem dX12_round_104 : decode cX12_round 104 = .ok (.aload_n 0, 1) := by decide +kernel
theorem dX12_round_105 : decode cX12_round 105 = .ok (.getfield 135, 3) := by decide +kernel
theorem dX12_round_108 : decode cX12_round 108 = .ok (.iconst 2, 1) := by decide +kernel
theorem dX12_round_109 : decode cX12_round 109 = .ok (.aload_n 0, 1) := by decide +kernel
theorem dX12_round_110 : decode cX12_round 110 = .ok (.getfield 347, 3) := by decide +kernel
theorem dX12_round_113 : decode cX12_round 113 = .ok (.imul, 1) := by decide +kernel
theorem dX12_round_114 : decode cX12_round 114 = .ok (.iconst 1, 1) := by decide +kernel
theorem dX12_round_115 : decode cX12_round 115 = .ok (.iadd, 1) := by decide +kernel
theorem dX12_round_116 : decode cX12_round 116 = .ok (.iload_n 2, 1) := by decide +kernel
theorem dX12_round_117 : decode cX12_round 117 = .ok (.isub, 1) := by decide +kernel
theorem dX12_round_118 : decode cX12_round 118 = .ok (.aload_n 0, 1) := by decide +kernel
theorem dX12_round_119 : decode cX12_round 119 = .ok (.getfield 204, 3) := by decide +kernel
theorem dX12_round_122 : decode cX12_round 122 = .ok (.iastore, 1) := by decide +kernel
theorem dX12_round_123 : decode cX12_round 123 = .ok (.aload_n 0, 1) := by decide +kernel
theorem dX12_round_124 : decode cX12_round 124 = .ok (.dup, 1) := by decide +kernel
theorem dX12_round_125 : decode cX12_round 125 = .ok (.getfield 347, 3) := by decide +kernel
theorem dX12_round_128 : decode cX12_round 128 = .ok (.iconst 1, 1) := by decide +kernel
theorem dX12_round_129 : decode cX12_round 129 = .ok (.iadd, 1) := by decide +kernel
theorem dX12_round_130 : decode cX12_round 130 = .ok (.putfield 347, 3) := by decide +kernel
theorem dX12_round_133 : decode cX12_round 133 = .ok (.aload_n 0, 1) := by decide +kernel
theorem dX12_round_134 : decode cX12_round 134 = .ok (.aload_n 0, 1) := by decide +kernel
theorem dX12_round_135 : decode cX12_round 135 = .ok (.aload_n 0, 1) := by decide +kernel
theorem dX12_round_136 : decode cX12_round 136 = .ok (.getfield 347, 3) := by decide +kernel
theorem dX12_round_139 : decode cX12_round 139 = .ok (.iconst 1, 1) := by decide +kernel
theorem dX12_round_140 : decode cX12_round 140 = .ok (.isub, 1) := by decide +kernel
theorem dX12_round_141 : decode cX12_round 141 = .ok (.invokevirtual 350, 3) := by decide +kernel
theorem dX12_round_144 : decode cX12_round 144 = .ok (.iconst 1, 1) := by decide +kernel
theorem dX12_round_145 : decode cX12_round 145 = .ok (.invokevirtual 353, 3) := by decide +kernel
theorem dX12_round_148 : decode cX12_round 148 = .ok (.aload_n 0, 1) := by decide +kernel
theorem dX12_round_149 : decode cX12_round 149 = .ok (.iload_n 1, 1) := by decide +kernel
theorem dX12_round_150 : decode cX12_round 150 = .ok (.putfield 356, 3) := by decide +kernel
theorem dX12_round_153 : decode cX12_round 153 = .ok (.iconst 0, 1) := by decide +kernel
theorem dX12_round_154 : decode cX12_round 154 = .ok (.istore_n 3, 1) := by decide +kernel
theorem dX12_round_155 : decode cX12_round 155 = .ok (.iload_n 3, 1) := by decide +kernel
theorem dX12_round_156 : decode cX12_round 156 = .ok (.iconst 2, 1) := by decide +kernel
theorem dX12_round_157 : decode cX12_round 157 = .ok (.if_icmp .ge 28, 3) := by decide +kernel
theorem dX12_round_160 : decode cX12_round 160 = .ok (.aload_n 0, 1) := by decide +kernel
theorem dX12_round_161 : decode cX12_round 161 = .ok (.getfield 138, 3) := by decide +kernel
theorem dX12_round_164 : decode cX12_round 164 = .ok (.iload_n 3, 1) := by decide +kernel
theorem dX12_round_165 : decode cX12_round 165 = .ok (.aload_n 0, 1) := by decide +kernel
theorem dX12_round_166 : decode cX12_round 166 = .ok (.getfield 123, 3) := by decide +kernel
theorem dX12_round_169 : decode cX12_round 169 = .ok (.iload_n 3, 1) := by decide +kernel
theorem dX12_round_170 : decode cX12_round 170 = .ok (.iaload, 1) := by decide +kernel
theorem dX12_round_171 : decode cX12_round 171 = .ok (.iastore, 1) := by decide +kernel
theorem dX12_round_172 : decode cX12_round 172 = .ok (.aload_n 0, 1) := by decide +kernel
theorem dX12_round_173 : decode cX12_round 173 = .ok (.getfield 123, 3) := by decide +kernel
theorem dX12_round_176 : decode cX12_round 176 = .ok (.iload_n 3, 1) := by decide +kernel
theorem dX12_round_177 : decode cX12_round 177 = .ok (.iconst 0, 1) := by decide +kernel
theorem dX12_round_178 : decode cX12_round 178 = .ok (.iastore, 1) := by decide +kernel
theorem dX12_round_179 : decode cX12_round 179 = .ok (.iinc 3 1, 3) := by decide +kernel
theorem dX12_round_182 : decode cX12_round 182 = .ok (.goto (-27), 3) := by decide +kernel
theorem dX12_round_185 : decode cX12_round 185 = .ok (.aload_n 0, 1) := by decide +kernel
theorem dX12_round_186 : decode cX12_round 186 = .ok (.iconst 1, 1) := by decide +kernel
theorem dX12_round_187 : decode cX12_round 187 = .ok (.putfield 166, 3) := by decide +kernel
theorem dX12_round_190 : decode cX12_round 190 = .ok (.aload_n 0, 1) := by decide +kernel
theorem dX12_round_191 : decode cX12_round 191 = .ok (.aload_n 0, 1) := by decide +kernel
theorem dX12_round_192 : decode cX12_round 192 = .ok (.getfield 347, 3) := by decide +kernel
theorem dX12_round_195 : decode cX12_round 195 = .ok (.iconst 1, 1) := by decide +kernel
theorem dX12_round_196 : decode cX12_round 196 = .ok (.isub, 1) := by decide +kernel
theorem dX12_round_197 : decode cX12_round 197 = .ok (.invokevirtual 350, 3) := by decide +kernel
theorem dX12_round_200 : decode cX12_round 200 = .ok (.ireturn, 1) := by decide +kernel
theorem dX12_appeal_0 : decode cX12_appeal 0 = .ok (.aload_n 0, 1) := by decide +kernel
theorem dX12_appeal_1 : decode cX12_appeal 1 = .ok (.iconst 0, 1) := by decide +kernel
theorem dX12_appeal_2 : decode cX12_appeal 2 = .ok (.putfield 141, 3) := by decide +kernel
theorem dX12_appeal_5 : decode cX12_appeal 5 = .ok (.aload_n 0, 1) := by decide +kernel
theorem dX12_appeal_6 : decode cX12_appeal 6 = .ok (.iload_n 1, 1) := by decide +kernel
theorem dX12_appeal_7 : decode cX12_appeal 7 = .ok (.iconst 0, 1) := by decide +kernel
theorem dX12_appeal_8 : decode cX12_appeal 8 = .ok (.iconst 1, 1) := by decide +kernel
theorem dX12_appeal_9 : decode cX12_appeal 9 = .ok (.invokestatic 147, 3) := by decide +kernel
theorem dX12_appeal_12 : decode cX12_appeal 12 = .ok (.ifCond .ne 7, 3) := by decide +kernel
theorem dX12_appeal_15 : decode cX12_appeal 15 = .ok (.iconst 1, 1) := by decide +kernel
theorem dX12_appeal_16 : decode cX12_appeal 16 = .ok (.goto 4, 3) := by decide +kernel
theorem dX12_appeal_19 : decode cX12_appeal 19 = .ok (.iconst 0, 1) := by decide +kernel
theorem dX12_appeal_20 : decode cX12_appeal 20 = .ok (.iconst 1, 1) := by decide +kernel
theorem dX12_appeal_21 : decode cX12_appeal 21 = .ok (.invokevirtual 162, 3) := by decide +kernel
theorem dX12_appeal_24 : decode cX12_appeal 24 = .ok (.ifCond .ne 45, 3) := by decide +kernel
theorem dX12_appeal_27 : decode cX12_appeal 27 = .ok (.aload_n 0, 1) := by decide +kernel
theorem dX12_appeal_28 : decode cX12_appeal 28 = .ok (.aload_n 0, 1) := by decide +kernel
theorem dX12_appeal_29 : decode cX12_appeal 29 = .ok (.getfield 166, 3) := by decide +kernel
theorem dX12_appeal_32 : decode cX12_appeal 32 = .ok (.ifCond .ne 7, 3) := by decide +kernel
theorem dX12_appeal_35 : decode cX12_appeal 35 = .ok (.iconst 1, 1) := by decide +kernel
theorem dX12_appeal_36 : decode cX12_appeal 36 = .ok (.goto 4, 3) := by decide +kernel
theorem dX12_appeal_39 : decode cX12_appeal 39 = .ok (.iconst 0, 1) := by decide +kernel
theorem dX12_appeal_40 : decode cX12_appeal 40 = .ok (.iconst 2, 1) := by decide +kernel
theorem dX12_appeal_41 : decode cX12_appeal 41 = .ok (.invokevirtual 162, 3) := by decide +kernel
theorem dX12_appeal_44 : decode cX12_appeal 44 = .ok (.ifCond .ne 25, 3) := by decide +kernel
theorem dX12_appeal_47 : decode cX12_appeal 47 = .ok (.aload_n 0, 1) := by decide +kernel
theorem dX12_appeal_48 : decode cX12_appeal 48 = .ok (.aload_n 0, 1) := by decide +kernel
theorem dX12_appeal_49 : decode cX12_appeal 49 = .ok (.getfield 132, 3) := by decide +kernel
theorem dX12_appeal_52 : decode cX12_appeal 52 = .ok (.iload_n 1, 1) := by decide +kernel
theorem dX12_appeal_53 : decode cX12_appeal 53 = .ok (.iaload, 1) := by decide +kernel
theorem dX12_appeal_54 : decode cX12_appeal 54 = .ok (.ifCond .ne 7, 3) := by decide +kernel
theorem dX12_appeal_57 : decode cX12_appeal 57 = .ok (.iconst 1, 1) := by decide +kernel
theorem dX12_appeal_58 : decode cX12_appeal 58 = .ok (.goto 4, 3) := by decide +kernel
theorem dX12_appeal_61 : decode cX12_appeal 61 = .ok (.iconst 0, 1) := by decide +kernel
theorem dX12_appeal_62 : decode cX12_appeal 62 = .ok (.iconst 3, 1) := by decide +kernel
theorem dX12_appeal_63 : decode cX12_appeal 63 = .ok (.invokevirtual 162, 3) := by decide +kernel
theorem dX12_appeal_66 : decode cX12_appeal 66 = .ok (.ifCond .eq 5, 3) := by decide +kernel
theorem dX12_appeal_69 : decode cX12_appeal 69 = .ok (.iconst (-1), 1) := by decide +kernel
theorem dX12_appeal_70 : decode cX12_appeal 70 = .ok (.ireturn, 1) := by decide +kernel
theorem dX12_appeal_71 : decode cX12_appeal 71 = .ok (.aload_n 0, 1) := by decide +kernel
theorem dX12_appeal_72 : decode cX12_appeal 72 = .ok (.iconst 0, 1) := by decide +kernel
theorem dX12_appeal_73 : decode cX12_appeal 73 = .ok (.putfield 166, 3) := by decide +kernel
theorem dX12_appeal_76 : decode cX12_appeal 76 = .ok (.aload_n 0, 1) := by decide +kernel
theorem dX12_appeal_77 : decode cX12_appeal 77 = .ok (.aload_n 0, 1) := by decide +kernel
theorem dX12_appeal_78 : decode cX12_appeal 78 = .ok (.getfield 347, 3) := by decide +kernel
theorem dX12_appeal_81 : decode cX12_appeal 81 = .ok (.iconst 1, 1) := by decide +kernel
theorem dX12_appeal_82 : decode cX12_appeal 82 = .ok (.isub, 1) := by decide +kernel
theorem dX12_appeal_83 : decode cX12_appeal 83 = .ok (.invokevirtual 350, 3) := by decide +kernel
theorem dX12_appeal_86 : decode cX12_appeal 86 = .ok (.istore_n 2, 1) := by decide +kernel
theorem dX12_appeal_87 : decode cX12_appeal 87 = .ok (.iconst 0, 1) := by decide +kernel
theorem dX12_appeal_88 : decode cX12_appeal 88 = .ok (.istore_n 3, 1) := by decide +kernel
theorem dX12_appeal_89 : decode cX12_appeal 89 = .ok (.iload_n 3, 1) := by decide +kernel
theorem dX12_appeal_90 : decode cX12_appeal 90 = .ok (.iconst 2, 1) := by decide +kernel
theorem dX12_appeal_91 : decode cX12_appeal 91 = .ok (.if_icmp .ge 43, 3) := by decide +kernel
theorem dX12_appeal_94 : decode cX12_appeal 94 = .ok (.aload_n 0, 1) := by decide +kernel
theorem dX12_appeal_95 : decode cX12_appeal 95 = .ok (.iload_n 3, 1) := by decide +kernel
theorem dX12_appeal_96 : decode cX12_appeal 96 = .ok (.aload_n 0, 1) := by decide +kernel
theorem dX12_appeal_97 : decode cX12_appeal 97 = .ok (.getfield 356, 3) := by decide +kernel
theorem dX12_appeal_100 : decode cX12_appeal 100 = .ok (.aload_n 0, 1) := by decide +kernel
theorem dX12_appeal_101 : decode cX12_appeal 101 = .ok (.getfield 138, 3) := by decide +kernel
theorem dX12_appeal_104 : decode cX12_appeal 104 = .ok (.iload_n 3, 1) := by decide +kernel
theorem dX12_appeal_105 : decode cX12_appeal 105 = .ok (.iaload, 1) := by decide +kernel
theorem dX12_appeal_106 : decode cX12_appeal 106 = .ok (.invokevirtual 341, 3) := by decide +kernel
theorem dX12_appeal_109 : decode cX12_appeal 109 = .ok (.aload_n 0, 1) := by decide +kernel
theorem dX12_appeal_110 : decode cX12_appeal 110 = .ok (.getfield 135, 3) := by decide +kernel
theorem dX12_appeal_113 : decode cX12_appeal 113 = .ok (.iconst 2, 1) := by decide +kernel
theorem dX12_appeal_114 : decode cX12_appeal 114 = .ok (.aload_n 0, 1) := by decide +kernel
theorem dX12_appeal_115 : decode cX12_appeal 115 = .ok (.getfield 347, 3) := by decide +kernel
theorem dX12_appeal_118 : decode cX12_appeal 118 = .ok (.iconst 1, 1) := by decide +kernel
theorem dX12_appeal_119 : decode cX12_appeal 119 = .ok (.isub, 1) := by decide +kernel
theorem dX12_appeal_120 : decode cX12_appeal 120 = .ok (.imul, 1) := by decide +kernel
theorem dX12_appeal_121 : decode cX12_appeal 121 = .ok (.iload_n 3, 1) := by decide +kernel
theorem dX12_appeal_122 : decode cX12_appeal 122 = .ok (.iadd, 1) := by decide +kernel
theorem dX12_appeal_123 : decode cX12_appeal 123 = .ok (.aload_n 0, 1) := by decide +kernel
theorem dX12_appeal_124 : decode cX12_appeal 124 = .ok (.getfield 204, 3) := by decide +kernel
theorem dX12_appeal_127 : decode cX12_appeal 127 = .ok (.iastore, 1) := by decide +kernel
theorem dX12_appeal_128 : decode cX12_appeal 128 = .ok (.iinc 3 1, 3) := by decide +kernel
theorem dX12_appeal_131 : decode cX12_appeal 131 = .ok (.goto (-42), 3) := by decide +kernel
theorem dX12_appeal_134 : decode cX12_appeal 134 = .ok (.aload_n 0, 1) := by decide +kernel
theorem dX12_appeal_135 : decode cX12_appeal 135 = .ok (.aload_n 0, 1) := by decide +kernel
theorem dX12_appeal_136 : decode cX12_appeal 136 = .ok (.getfield 347, 3) := by decide +kernel
theorem dX12_appeal_139 : decode cX12_appeal 139 = .ok (.iconst 1, 1) := by decide +kernel
theorem dX12_appeal_140 : decode cX12_appeal 140 = .ok (.isub, 1) := by decide +kernel
theorem dX12_appeal_141 : decode cX12_appeal 141 = .ok (.invokevirtual 350, 3) := by decide +kernel
theorem dX12_appeal_144 : decode cX12_appeal 144 = .ok (.istore_n 3, 1) := by decide +kernel
theorem dX12_appeal_145 : decode cX12_appeal 145 = .ok (.aload_n 0, 1) := by decide +kernel
theorem dX12_appeal_146 : decode cX12_appeal 146 = .ok (.iload_n 2, 1) := by decide +kernel
theorem dX12_appeal_147 : decode cX12_appeal 147 = .ok (.iconst (-1), 1) := by decide +kernel
theorem dX12_appeal_148 : decode cX12_appeal 148 = .ok (.invokevirtual 353, 3) := by decide +kernel
theorem dX12_appeal_151 : decode cX12_appeal 151 = .ok (.aload_n 0, 1) := by decide +kernel
theorem dX12_appeal_152 : decode cX12_appeal 152 = .ok (.iload_n 3, 1) := by decide +kernel
theorem dX12_appeal_153 : decode cX12_appeal 153 = .ok (.iconst 1, 1) := by decide +kernel
theorem dX12_appeal_154 : decode cX12_appeal 154 = .ok (.invokevirtual 353, 3) := by decide +kernel
theorem dX12_appeal_157 : decode cX12_appeal 157 = .ok (.aload_n 0, 1) := by decide +kernel
theorem dX12_appeal_158 : decode cX12_appeal 158 = .ok (.getfield 132, 3) := by decide +kernel
theorem dX12_appeal_161 : decode cX12_appeal 161 = .ok (.iload_n 1, 1) := by decide +kernel
theorem dX12_appeal_162 : decode cX12_appeal 162 = .ok (.iload_n 2, 1) := by decide +kernel
theorem dX12_appeal_163 : decode cX12_appeal 163 = .ok (.iload_n 3, 1) := by decide +kernel
theorem dX12_appeal_164 : decode cX12_appeal 164 = .ok (.if_icmp .ne 18, 3) := by decide +kernel
theorem dX12_appeal_167 : decode cX12_appeal 167 = .ok (.iconst 0, 1) := by decide +kernel
theorem dX12_appeal_168 : decode cX12_appeal 168 = .ok (.aload_n 0, 1) := by decide +kernel
theorem dX12_appeal_169 : decode cX12_appeal 169 = .ok (.getfield 132, 3) := by decide +kernel
theorem dX12_appeal_172 : decode cX12_appeal 172 = .ok (.iload_n 1, 1) := by decide +kernel
theorem dX12_appeal_173 : decode cX12_appeal 173 = .ok (.iaload, 1) := by decide +kernel
theorem dX12_appeal_174 : decode cX12_appeal 174 = .ok (.iconst 1, 1) := by decide +kernel
theorem dX12_appeal_175 : decode cX12_appeal 175 = .ok (.isub, 1) := by decide +kernel
theorem dX12_appeal_176 : decode cX12_appeal 176 = .ok (.invokestatic 266, 3) := by decide +kernel
theorem dX12_appeal_179 : decode cX12_appeal 179 = .ok (.goto 9, 3) := by decide +kernel
theorem dX12_appeal_182 : decode cX12_appeal 182 = .ok (.aload_n 0, 1) := by decide +kernel
theorem dX12_appeal_183 : decode cX12_appeal 183 = .ok (.getfield 132, 3) := by decide +kernel
theorem dX12_appeal_186 : decode cX12_appeal 186 = .ok (.iload_n 1, 1) := by decide +kernel
theorem dX12_appeal_187 : decode cX12_appeal 187 = .ok (.iaload, 1) := by decide +kernel
theorem dX12_appeal_188 : decode cX12_appeal 188 = .ok (.iastore, 1) := by decide +kernel
theorem dX12_appeal_189 : decode cX12_appeal 189 = .ok (.iload_n 3, 1) := by decide +kernel
theorem dX12_appeal_190 : decode cX12_appeal 190 = .ok (.ireturn, 1) := by decide +kernel
theorem dX12_coins_0 : decode cX12_coins 0 = .ok (.aload_n 0, 1) := by decide +kernel
theorem dX12_coins_1 : decode cX12_coins 1 = .ok (.iconst 0, 1) := by decide +kernel
theorem dX12_coins_2 : decode cX12_coins 2 = .ok (.putfield 141, 3) := by decide +kernel
theorem dX12_coins_5 : decode cX12_coins 5 = .ok (.aload_n 0, 1) := by decide +kernel
theorem dX12_coins_6 : decode cX12_coins 6 = .ok (.iload_n 1, 1) := by decide +kernel
theorem dX12_coins_7 : decode cX12_coins 7 = .ok (.iconst 0, 1) := by decide +kernel
theorem dX12_coins_8 : decode cX12_coins 8 = .ok (.iconst 1, 1) := by decide +kernel
theorem dX12_coins_9 : decode cX12_coins 9 = .ok (.invokestatic 147, 3) := by decide +kernel
theorem dX12_coins_12 : decode cX12_coins 12 = .ok (.ifCond .ne 7, 3) := by decide +kernel
theorem dX12_coins_15 : decode cX12_coins 15 = .ok (.iconst 1, 1) := by decide +kernel
theorem dX12_coins_16 : decode cX12_coins 16 = .ok (.goto 4, 3) := by decide +kernel
theorem dX12_coins_19 : decode cX12_coins 19 = .ok (.iconst 0, 1) := by decide +kernel
theorem dX12_coins_20 : decode cX12_coins 20 = .ok (.iconst 1, 1) := by decide +kernel
theorem dX12_coins_21 : decode cX12_coins 21 = .ok (.invokevirtual 162, 3) := by decide +kernel
theorem dX12_coins_24 : decode cX12_coins 24 = .ok (.ifCond .eq 7, 3) := by decide +kernel
theorem dX12_coins_27 : decode cX12_coins 27 = .ok (.iconst (-1), 1) := by decide +kernel
theorem dX12_coins_28 : decode cX12_coins 28 = .ok (.goto 9, 3) := by decide +kernel
theorem dX12_coins_31 : decode cX12_coins 31 = .ok (.aload_n 0, 1) := by decide +kernel
theorem dX12_coins_32 : decode cX12_coins 32 = .ok (.getfield 132, 3) := by decide +kernel
theorem dX12_coins_35 : decode cX12_coins 35 = .ok (.iload_n 1, 1) := by decide +kernel
theorem dX12_coins_36 : decode cX12_coins 36 = .ok (.iaload, 1) := by decide +kernel
theorem dX12_coins_37 : decode cX12_coins 37 = .ok (.ireturn, 1) := by decide +kernel
theorem dX12_misses_0 : decode cX12_misses 0 = .ok (.aload_n 0, 1) := by decide +kernel
theorem dX12_misses_1 : decode cX12_misses 1 = .ok (.iconst 0, 1) := by decide +kernel
theorem dX12_misses_2 : decode cX12_misses 2 = .ok (.putfield 141, 3) := by decide +kernel
theorem dX12_misses_5 : decode cX12_misses 5 = .ok (.aload_n 0, 1) := by decide +kernel
theorem dX12_misses_6 : decode cX12_misses 6 = .ok (.iload_n 1, 1) := by decide +kernel
theorem dX12_misses_7 : decode cX12_misses 7 = .ok (.iconst 0, 1) := by decide +kernel
theorem dX12_misses_8 : decode cX12_misses 8 = .ok (.iconst 1, 1) := by decide +kernel
theorem dX12_misses_9 : decode cX12_misses 9 = .ok (.invokestatic 147, 3) := by decide +kernel
theorem dX12_misses_12 : decode cX12_misses 12 = .ok (.ifCond .ne 7, 3) := by decide +kernel
theorem dX12_misses_15 : decode cX12_misses 15 = .ok (.iconst 1, 1) := by decide +kernel
theorem dX12_misses_16 : decode cX12_misses 16 = .ok (.goto 4, 3) := by decide +kernel
theorem dX12_misses_19 : decode cX12_misses 19 = .ok (.iconst 0, 1) := by decide +kernel
theorem dX12_misses_20 : decode cX12_misses 20 = .ok (.iconst 1, 1) := by decide +kernel
theorem dX12_misses_21 : decode cX12_misses 21 = .ok (.invokevirtual 162, 3) := by decide +kernel
theorem dX12_misses_24 : decode cX12_misses 24 = .ok (.ifCond .ne 30, 3) := by decide +kernel
theorem dX12_misses_27 : decode cX12_misses 27 = .ok (.aload_n 0, 1) := by decide +kernel
theorem dX12_misses_28 : decode cX12_misses 28 = .ok (.iload_n 2, 1) := by decide +kernel
theorem dX12_misses_29 : decode cX12_misses 29 = .ok (.iconst 0, 1) := by decide +kernel
theorem dX12_misses_30 : decode cX12_misses 30 = .ok (.aload_n 0, 1) := by decide +kernel
theorem dX12_misses_31 : decode cX12_misses 31 = .ok (.getfield 347, 3) := by decide +kernel
theorem dX12_misses_34 : decode cX12_misses 34 = .ok (.iconst 1, 1) := by decide +kernel
theorem dX12_misses_35 : decode cX12_misses 35 = .ok (.isub, 1) := by decide +kernel
theorem dX12_misses_36 : decode cX12_misses 36 = .ok (.invokestatic 147, 3) := by decide +kernel
theorem dX12_misses_39 : decode cX12_misses 39 = .ok (.ifCond .ne 7, 3) := by decide +kernel
theorem dX12_misses_42 : decode cX12_misses 42 = .ok (.iconst 1, 1) := by decide +kernel
theorem dX12_misses_43 : decode cX12_misses 43 = .ok (.goto 4, 3) := by decide +kernel
theorem dX12_misses_46 : decode cX12_misses 46 = .ok (.iconst 0, 1) := by decide +kernel
theorem dX12_misses_47 : decode cX12_misses 47 = .ok (.iconst 2, 1) := by decide +kernel
theorem dX12_misses_48 : decode cX12_misses 48 = .ok (.invokevirtual 162, 3) := by decide +kernel
theorem dX12_misses_51 : decode cX12_misses 51 = .ok (.ifCond .eq 5, 3) := by decide +kernel
theorem dX12_misses_54 : decode cX12_misses 54 = .ok (.iconst (-1), 1) := by decide +kernel
theorem dX12_misses_55 : decode cX12_misses 55 = .ok (.ireturn, 1) := by decide +kernel
theorem dX12_misses_56 : decode cX12_misses 56 = .ok (.aload_n 0, 1) := by decide +kernel
theorem dX12_misses_57 : decode cX12_misses 57 = .ok (.getfield 135, 3) := by decide +kernel
theorem dX12_misses_60 : decode cX12_misses 60 = .ok (.iconst 2, 1) := by decide +kernel
theorem dX12_misses_61 : decode cX12_misses 61 = .ok (.iload_n 2, 1) := by decide +kernel
theorem dX12_misses_62 : decode cX12_misses 62 = .ok (.imul, 1) := by decide +kernel
theorem dX12_misses_63 : decode cX12_misses 63 = .ok (.iload_n 1, 1) := by decide +kernel
theorem dX12_misses_64 : decode cX12_misses 64 = .ok (.iadd, 1) := by decide +kernel
theorem dX12_misses_65 : decode cX12_misses 65 = .ok (.iaload, 1) := by decide +kernel
theorem dX12_misses_66 : decode cX12_misses 66 = .ok (.ireturn, 1) := by decide +kernel
theorem dX12_total_0 : decode cX12_total 0 = .ok (.aload_n 0, 1) := by decide +kernel
theorem dX12_total_1 : decode cX12_total 1 = .ok (.iconst 0, 1) := by decide +kernel
theorem dX12_total_2 : decode cX12_total 2 = .ok (.putfield 141, 3) := by decide +kernel
theorem dX12_total_5 : decode cX12_total 5 = .ok (.aload_n 0, 1) := by decide +kernel
theorem dX12_total_6 : decode cX12_total 6 = .ok (.iload_n 1, 1) := by decide +kernel
theorem dX12_total_7 : decode cX12_total 7 = .ok (.iconst 0, 1) := by decide +kernel
theorem dX12_total_8 : decode cX12_total 8 = .ok (.iconst 1, 1) := by decide +kernel
theorem dX12_total_9 : decode cX12_total 9 = .ok (.invokestatic 147, 3) := by decide +kernel
theorem dX12_total_12 : decode cX12_total 12 = .ok (.ifCond .ne 7, 3) := by decide +kernel
theorem dX12_total_15 : decode cX12_total 15 = .ok (.iconst 1, 1) := by decide +kernel
theorem dX12_total_16 : decode cX12_total 16 = .ok (.goto 4, 3) := by decide +kernel
theorem dX12_total_19 : decode cX12_total 19 = .ok (.iconst 0, 1) := by decide +kernel
theorem dX12_total_20 : decode cX12_total 20 = .ok (.iconst 1, 1) := by decide +kernel
theorem dX12_total_21 : decode cX12_total 21 = .ok (.invokevirtual 162, 3) := by decide +kernel
theorem dX12_total_24 : decode cX12_total 24 = .ok (.ifCond .eq 5, 3) := by decide +kernel
theorem dX12_total_27 : decode cX12_total 27 = .ok (.iconst (-1), 1) := by decide +kernel
theorem dX12_total_28 : decode cX12_total 28 = .ok (.ireturn, 1) := by decide +kernel
theorem dX12_total_29 : decode cX12_total 29 = .ok (.iconst 0, 1) := by decide +kernel
theorem dX12_total_30 : decode cX12_total 30 = .ok (.istore_n 2, 1) := by decide +kernel
theorem dX12_total_31 : decode cX12_total 31 = .ok (.iconst 0, 1) := by decide +kernel
theorem dX12_total_32 : decode cX12_total 32 = .ok (.istore_n 3, 1) := by decide +kernel
theorem dX12_total_33 : decode cX12_total 33 = .ok (.iload_n 3, 1) := by decide +kernel
theorem dX12_total_34 : decode cX12_total 34 = .ok (.aload_n 0, 1) := by decide +kernel
theorem dX12_total_35 : decode cX12_total 35 = .ok (.getfield 347, 3) := by decide +kernel
theorem dX12_total_38 : decode cX12_total 38 = .ok (.if_icmp .ge 22, 3) := by decide +kernel
theorem dX12_total_41 : decode cX12_total 41 = .ok (.iload_n 2, 1) := by decide +kernel
theorem dX12_total_42 : decode cX12_total 42 = .ok (.aload_n 0, 1) := by decide +kernel
theorem dX12_total_43 : decode cX12_total 43 = .ok (.getfield 135, 3) := by decide +kernel
theorem dX12_total_46 : decode cX12_total 46 = .ok (.iconst 2, 1) := by decide +kernel
theorem dX12_total_47 : decode cX12_total 47 = .ok (.iload_n 3, 1) := by decide +kernel
theorem dX12_total_48 : decode cX12_total 48 = .ok (.imul, 1) := by decide +kernel
theorem dX12_total_49 : decode cX12_total 49 = .ok (.iload_n 1, 1) := by decide +kernel
theorem dX12_total_50 : decode cX12_total 50 = .ok (.iadd, 1) := by decide +kernel
theorem dX12_total_51 : decode cX12_total 51 = .ok (.iaload, 1) := by decide +kernel
theorem dX12_total_52 : decode cX12_total 52 = .ok (.iadd, 1) := by decide +kernel
theorem dX12_total_53 : decode cX12_total 53 = .ok (.istore_n 2, 1) := by decide +kernel
theorem dX12_total_54 : decode cX12_total 54 = .ok (.iinc 3 1, 3) := by decide +kernel
theorem dX12_total_57 : decode cX12_total 57 = .ok (.goto (-24), 3) := by decide +kernel
theorem dX12_total_60 : decode cX12_total 60 = .ok (.iload_n 2, 1) := by decide +kernel
theorem dX12_total_61 : decode cX12_total 61 = .ok (.ireturn, 1) := by decide +kernel
theorem dX12_rounds_0 : decode cX12_rounds 0 = .ok (.aload_n 0, 1) := by decide +kernel
theorem dX12_rounds_1 : decode cX12_rounds 1 = .ok (.iconst 0, 1) := by decide +kernel
theorem dX12_rounds_2 : decode cX12_rounds 2 = .ok (.putfield 141, 3) := by decide +kernel
theorem dX12_rounds_5 : decode cX12_rounds 5 = .ok (.aload_n 0, 1) := by decide +kernel
theorem dX12_rounds_6 : decode cX12_rounds 6 = .ok (.getfield 347, 3) := by decide +kernel
theorem dX12_rounds_9 : decode cX12_rounds 9 = .ok (.ireturn, 1) := by decide +kernel
theorem dX12_print_0 : decode cX12_print 0 = .ok (.aload_n 0, 1) := by decide +kernel
theorem dX12_print_1 : decode cX12_print 1 = .ok (.iconst 0, 1) := by decide +kernel
theorem dX12_print_2 : decode cX12_print 2 = .ok (.putfield 141, 3) := by decide +kernel
theorem dX12_print_5 : decode cX12_print 5 = .ok (.ldc2_w 359, 3) := by decide +kernel
theorem dX12_print_8 : decode cX12_print 8 = .ok (.lstore_n 1, 1) := by decide +kernel
theorem dX12_print_9 : decode cX12_print 9 = .ok (.iconst 0, 1) := by decide +kernel
theorem dX12_print_10 : decode cX12_print 10 = .ok (.istore_n 3, 1) := by decide +kernel
theorem dX12_print_11 : decode cX12_print 11 = .ok (.iload_n 3, 1) := by decide +kernel
theorem dX12_print_12 : decode cX12_print 12 = .ok (.aload_n 0, 1) := by decide +kernel
theorem dX12_print_13 : decode cX12_print 13 = .ok (.getfield 144, 3) := by decide +kernel
theorem dX12_print_16 : decode cX12_print 16 = .ok (.if_icmp .ge 76, 3) := by decide +kernel
theorem dX12_print_19 : decode cX12_print 19 = .ok (.iconst 0, 1) := by decide +kernel
theorem dX12_print_20 : decode cX12_print 20 = .ok (.istore 4, 2) := by decide +kernel
theorem dX12_print_22 : decode cX12_print 22 = .ok (.iload 4, 2) := by decide +kernel
theorem dX12_print_24 : decode cX12_print 24 = .ok (.aload_n 0, 1) := by decide +kernel
theorem dX12_print_25 : decode cX12_print 25 = .ok (.getfield 13, 3) := by decide +kernel
theorem dX12_print_28 : decode cX12_print 28 = .ok (.iload_n 3, 1) := by decide +kernel
theorem dX12_print_29 : decode cX12_print 29 = .ok (.iaload, 1) := by decide +kernel
theorem dX12_print_30 : decode cX12_print 30 = .ok (.if_icmp .ge 56, 3) := by decide +kernel
theorem dX12_print_33 : decode cX12_print 33 = .ok (.iconst 0, 1) := by decide +kernel
theorem dX12_print_34 : decode cX12_print 34 = .ok (.istore 5, 2) := by decide +kernel
theorem dX12_print_36 : decode cX12_print 36 = .ok (.iload 5, 2) := by decide +kernel
theorem dX12_print_38 : decode cX12_print 38 = .ok (.aload_n 0, 1) := by decide +kernel
theorem dX12_print_39 : decode cX12_print 39 = .ok (.getfield 7, 3) := by decide +kernel
theorem dX12_print_42 : decode cX12_print 42 = .ok (.iload_n 3, 1) := by decide +kernel
theorem dX12_print_43 : decode cX12_print 43 = .ok (.iaload, 1) := by decide +kernel
theorem dX12_print_44 : decode cX12_print 44 = .ok (.if_icmp .ge 36, 3) := by decide +kernel
theorem dX12_print_47 : decode cX12_print 47 = .ok (.aload_n 0, 1) := by decide +kernel
theorem dX12_print_48 : decode cX12_print 48 = .ok (.iload_n 3, 1) := by decide +kernel
theorem dX12_print_49 : decode cX12_print 49 = .ok (.iload 4, 2) := by decide +kernel
theorem dX12_print_51 : decode cX12_print 51 = .ok (.invokevirtual 158, 3) := by decide +kernel
theorem dX12_print_54 : decode cX12_print 54 = .ok (.ifCond .eq 26, 3) := by decide +kernel
theorem dX12_print_57 : decode cX12_print 57 = .ok (.ldc2_w 361, 3) := by decide +kernel
theorem dX12_print_60 : decode cX12_print 60 = .ok (.lload_n 1, 1) := by decide +kernel
theorem dX12_print_61 : decode cX12_print 61 = .ok (.lmul, 1) := by decide +kernel
theorem dX12_print_62 : decode cX12_print 62 = .ok (.aload_n 0, 1) := by decide +kernel
theorem dX12_print_63 : decode cX12_print 63 = .ok (.iload_n 3, 1) := by decide +kernel
theorem dX12_print_64 : decode cX12_print 64 = .ok (.iload 4, 2) := by decide +kernel
theorem dX12_print_66 : decode cX12_print 66 = .ok (.iload 5, 2) := by decide +kernel
theorem dX12_print_68 : decode cX12_print 68 = .ok (.invokevirtual 173, 3) := by decide +kernel
theorem dX12_print_71 : decode cX12_print 71 = .ok (.i2l, 1) := by decide +kernel
theorem dX12_print_72 : decode cX12_print 72 = .ok (.ladd, 1) := by decide +kernel
theorem dX12_print_73 : decode cX12_print 73 = .ok (.lstore_n 1, 1) := by decide +kernel
theorem dX12_print_74 : decode cX12_print 74 = .ok (.iinc 5 1, 3) := by decide +kernel
theorem dX12_print_77 : decode cX12_print 77 = .ok (.goto (-41), 3) := by decide +kernel
theorem dX12_print_80 : decode cX12_print 80 = .ok (.iinc 4 1, 3) := by decide +kernel
theorem dX12_print_83 : decode cX12_print 83 = .ok (.goto (-61), 3) := by decide +kernel
theorem dX12_print_86 : decode cX12_print 86 = .ok (.iinc 3 1, 3) := by decide +kernel
theorem dX12_print_89 : decode cX12_print 89 = .ok (.goto (-78), 3) := by decide +kernel
theorem dX12_print_92 : decode cX12_print 92 = .ok (.ldc2_w 361, 3) := by decide +kernel
theorem dX12_print_95 : decode cX12_print 95 = .ok (.lload_n 1, 1) := by decide +kernel
theorem dX12_print_96 : decode cX12_print 96 = .ok (.lmul, 1) := by decide +kernel
theorem dX12_print_97 : decode cX12_print 97 = .ok (.aload_n 0, 1) := by decide +kernel
theorem dX12_print_98 : decode cX12_print 98 = .ok (.getfield 132, 3) := by decide +kernel
theorem dX12_print_101 : decode cX12_print 101 = .ok (.iconst 0, 1) := by decide +kernel
theorem dX12_print_102 : decode cX12_print 102 = .ok (.iaload, 1) := by decide +kernel
theorem dX12_print_103 : decode cX12_print 103 = .ok (.i2l, 1) := by decide +kernel
theorem dX12_print_104 : decode cX12_print 104 = .ok (.ladd, 1) := by decide +kernel
theorem dX12_print_105 : decode cX12_print 105 = .ok (.lstore_n 1, 1) := by decide +kernel
theorem dX12_print_106 : decode cX12_print 106 = .ok (.ldc2_w 361, 3) := by decide +kernel
theorem dX12_print_109 : decode cX12_print 109 = .ok (.lload_n 1, 1) := by decide +kernel
theorem dX12_print_110 : decode cX12_print 110 = .ok (.lmul, 1) := by decide +kernel
theorem dX12_print_111 : decode cX12_print 111 = .ok (.aload_n 0, 1) := by decide +kernel
theorem dX12_print_112 : decode cX12_print 112 = .ok (.getfield 132, 3) := by decide +kernel
theorem dX12_print_115 : decode cX12_print 115 = .ok (.iconst 1, 1) := by decide +kernel
theorem dX12_print_116 : decode cX12_print 116 = .ok (.iaload, 1) := by decide +kernel
theorem dX12_print_117 : decode cX12_print 117 = .ok (.i2l, 1) := by decide +kernel
theorem dX12_print_118 : decode cX12_print 118 = .ok (.ladd, 1) := by decide +kernel
theorem dX12_print_119 : decode cX12_print 119 = .ok (.lreturn, 1) := by decide +kernel
theorem dX12_hitShare_0 : decode cX12_hitShare 0 = .ok (.aload_n 0, 1) := by decide +kernel
theorem dX12_hitShare_1 : decode cX12_hitShare 1 = .ok (.iconst 0, 1) := by decide +kernel
theorem dX12_hitShare_2 : decode cX12_hitShare 2 = .ok (.putfield 141, 3) := by decide +kernel
theorem dX12_hitShare_5 : decode cX12_hitShare 5 = .ok (.aload_n 0, 1) := by decide +kernel
theorem dX12_hitShare_6 : decode cX12_hitShare 6 = .ok (.iload_n 1, 1) := by decide +kernel
theorem dX12_hitShare_7 : decode cX12_hitShare 7 = .ok (.iload_n 2, 1) := by decide +kernel
theorem dX12_hitShare_8 : decode cX12_hitShare 8 = .ok (.invokevirtual 310, 3) := by decide +kernel
theorem dX12_hitShare_11 : decode cX12_hitShare 11 = .ok (.ifCond .eq 5, 3) := by decide +kernel
theorem dX12_hitShare_14 : decode cX12_hitShare 14 = .ok (.fconst 0, 1) := by decide +kernel
theorem dX12_hitShare_15 : decode cX12_hitShare 15 = .ok (.freturn, 1) := by decide +kernel
theorem dX12_hitShare_16 : decode cX12_hitShare 16 = .ok (.aload_n 0, 1) := by decide +kernel
theorem dX12_hitShare_17 : decode cX12_hitShare 17 = .ok (.iload_n 1, 1) := by decide +kernel
theorem dX12_hitShare_18 : decode cX12_hitShare 18 = .ok (.iload_n 2, 1) := by decide +kernel
theorem dX12_hitShare_19 : decode cX12_hitShare 19 = .ok (.aload_n 0, 1) := by decide +kernel
theorem dX12_hitShare_20 : decode cX12_hitShare 20 = .ok (.getfield 123, 3) := by decide +kernel
theorem dX12_hitShare_23 : decode cX12_hitShare 23 = .ok (.iload_n 1, 1) := by decide +kernel
theorem dX12_hitShare_24 : decode cX12_hitShare 24 = .ok (.iaload, 1) := by decide +kernel
theorem dX12_hitShare_25 : decode cX12_hitShare 25 = .ok (.invokevirtual 341, 3) := by decide +kernel
theorem dX12_hitShare_28 : decode cX12_hitShare 28 = .ok (.aload_n 0, 1) := by decide +kernel
theorem dX12_hitShare_29 : decode cX12_hitShare 29 = .ok (.aload_n 0, 1) := by decide +kernel
theorem dX12_hitShare_30 : decode cX12_hitShare 30 = .ok (.getfield 201, 3) := by decide +kernel
theorem dX12_hitShare_33 : decode cX12_hitShare 33 = .ok (.ifCond .ne 7, 3) := by decide +kernel
theorem dX12_hitShare_36 : decode cX12_hitShare 36 = .ok (.iconst 1, 1) := by decide +kernel
theorem dX12_hitShare_37 : decode cX12_hitShare 37 = .ok (.goto 4, 3) := by decide +kernel
theorem dX12_hitShare_40 : decode cX12_hitShare 40 = .ok (.iconst 0, 1) := by decide +kernel
theorem dX12_hitShare_41 : decode cX12_hitShare 41 = .ok (.iconst 4, 1) := by decide +kernel
theorem dX12_hitShare_42 : decode cX12_hitShare 42 = .ok (.invokevirtual 162, 3) := by decide +kernel
theorem dX12_hitShare_45 : decode cX12_hitShare 45 = .ok (.ifCond .eq 7, 3) := by decide +kernel
theorem dX12_hitShare_48 : decode cX12_hitShare 48 = .ok (.fconst 0, 1) := by decide +kernel
theorem dX12_hitShare_49 : decode cX12_hitShare 49 = .ok (.goto 19, 3) := by decide +kernel
theorem dX12_hitShare_52 : decode cX12_hitShare 52 = .ok (.aload_n 0, 1) := by decide +kernel
theorem dX12_hitShare_53 : decode cX12_hitShare 53 = .ok (.getfield 201, 3) := by decide +kernel
theorem dX12_hitShare_56 : decode cX12_hitShare 56 = .ok (.aload_n 0, 1) := by decide +kernel
theorem dX12_hitShare_57 : decode cX12_hitShare 57 = .ok (.getfield 204, 3) := by decide +kernel
theorem dX12_hitShare_60 : decode cX12_hitShare 60 = .ok (.isub, 1) := by decide +kernel
theorem dX12_hitShare_61 : decode cX12_hitShare 61 = .ok (.i2f, 1) := by decide +kernel
theorem dX12_hitShare_62 : decode cX12_hitShare 62 = .ok (.aload_n 0, 1) := by decide +kernel
theorem dX12_hitShare_63 : decode cX12_hitShare 63 = .ok (.getfield 201, 3) := by decide +kernel
theorem dX12_hitShare_66 : decode cX12_hitShare 66 = .ok (.i2f, 1) := by decide +kernel
theorem dX12_hitShare_67 : decode cX12_hitShare 67 = .ok (.fdiv, 1) := by decide +kernel
theorem dX12_hitShare_68 : decode cX12_hitShare 68 = .ok (.freturn, 1) := by decide +kernel
theorem dX12_meanMisses_0 : decode cX12_meanMisses 0 = .ok (.aload_n 0, 1) := by decide +kernel
theorem dX12_meanMisses_1 : decode cX12_meanMisses 1 = .ok (.iconst 0, 1) := by decide +kernel
theorem dX12_meanMisses_2 : decode cX12_meanMisses 2 = .ok (.putfield 141, 3) := by decide +kernel
theorem dX12_meanMisses_5 : decode cX12_meanMisses 5 = .ok (.iconst 0, 1) := by decide +kernel
theorem dX12_meanMisses_6 : decode cX12_meanMisses 6 = .ok (.istore_n 1, 1) := by decide +kernel
theorem dX12_meanMisses_7 : decode cX12_meanMisses 7 = .ok (.iconst 0, 1) := by decide +kernel
theorem dX12_meanMisses_8 : decode cX12_meanMisses 8 = .ok (.istore_n 2, 1) := by decide +kernel
theorem dX12_meanMisses_9 : decode cX12_meanMisses 9 = .ok (.iload_n 2, 1) := by decide +kernel
theorem dX12_meanMisses_10 : decode cX12_meanMisses 10 = .ok (.iconst 2, 1) := by decide +kernel
theorem dX12_meanMisses_11 : decode cX12_meanMisses 11 = .ok (.aload_n 0, 1) := by decide +kernel
theorem dX12_meanMisses_12 : decode cX12_meanMisses 12 = .ok (.getfield 347, 3) := by decide +kernel
theorem dX12_meanMisses_15 : decode cX12_meanMisses 15 = .ok (.imul, 1) := by decide +kernel
theorem dX12_meanMisses_16 : decode cX12_meanMisses 16 = .ok (.if_icmp .ge 18, 3) := by decide +kernel
theorem dX12_meanMisses_19 : decode cX12_meanMisses 19 = .ok (.iload_n 1, 1) := by decide +kernel
theorem dX12_meanMisses_20 : decode cX12_meanMisses 20 = .ok (.aload_n 0, 1) := by decide +kernel
theorem dX12_meanMisses_21 : decode cX12_meanMisses 21 = .ok (.getfield 135, 3) := by decide +kernel
theorem dX12_meanMisses_24 : decode cX12_meanMisses 24 = .ok (.iload_n 2, 1) := by decide +kernel
theorem dX12_meanMisses_25 : decode cX12_meanMisses 25 = .ok (.iaload, 1) := by decide +kernel
theorem dX12_meanMisses_26 : decode cX12_meanMisses 26 = .ok (.iadd, 1) := by decide +kernel
theorem dX12_meanMisses_27 : decode cX12_meanMisses 27 = .ok (.istore_n 1, 1) := by decide +kernel
theorem dX12_meanMisses_28 : decode cX12_meanMisses 28 = .ok (.iinc 2 1, 3) := by decide +kernel
theorem dX12_meanMisses_31 : decode cX12_meanMisses 31 = .ok (.goto (-22), 3) := by decide +kernel
theorem dX12_meanMisses_34 : decode cX12_meanMisses 34 = .ok (.aload_n 0, 1) := by decide +kernel
theorem dX12_meanMisses_35 : decode cX12_meanMisses 35 = .ok (.aload_n 0, 1) := by decide +kernel
theorem dX12_meanMisses_36 : decode cX12_meanMisses 36 = .ok (.getfield 347, 3) := by decide +kernel
theorem dX12_meanMisses_39 : decode cX12_meanMisses 39 = .ok (.ifCond .ne 7, 3) := by decide +kernel
theorem dX12_meanMisses_42 : decode cX12_meanMisses 42 = .ok (.iconst 1, 1) := by decide +kernel
theorem dX12_meanMisses_43 : decode cX12_meanMisses 43 = .ok (.goto 4, 3) := by decide +kernel
theorem dX12_meanMisses_46 : decode cX12_meanMisses 46 = .ok (.iconst 0, 1) := by decide +kernel
theorem dX12_meanMisses_47 : decode cX12_meanMisses 47 = .ok (.iconst 1, 1) := by decide +kernel
theorem dX12_meanMisses_48 : decode cX12_meanMisses 48 = .ok (.invokevirtual 162, 3) := by decide +kernel
theorem dX12_meanMisses_51 : decode cX12_meanMisses 51 = .ok (.ifCond .eq 7, 3) := by decide +kernel
theorem dX12_meanMisses_54 : decode cX12_meanMisses 54 = .ok (.dconst 0, 1) := by decide +kernel
theorem dX12_meanMisses_55 : decode cX12_meanMisses 55 = .ok (.goto 13, 3) := by decide +kernel
theorem dX12_meanMisses_58 : decode cX12_meanMisses 58 = .ok (.iload_n 1, 1) := by decide +kernel
theorem dX12_meanMisses_59 : decode cX12_meanMisses 59 = .ok (.i2d, 1) := by decide +kernel
theorem dX12_meanMisses_60 : decode cX12_meanMisses 60 = .ok (.iconst 2, 1) := by decide +kernel
theorem dX12_meanMisses_61 : decode cX12_meanMisses 61 = .ok (.aload_n 0, 1) := by decide +kernel
theorem dX12_meanMisses_62 : decode cX12_meanMisses 62 = .ok (.getfield 347, 3) := by decide +kernel
theorem dX12_meanMisses_65 : decode cX12_meanMisses 65 = .ok (.imul, 1) := by decide +kernel
theorem dX12_meanMisses_66 : decode cX12_meanMisses 66 = .ok (.i2d, 1) := by decide +kernel
theorem dX12_meanMisses_67 : decode cX12_meanMisses 67 = .ok (.ddiv, 1) := by decide +kernel
theorem dX12_meanMisses_68 : decode cX12_meanMisses 68 = .ok (.dreturn, 1) := by decide +kernel
theorem dX12_isSound_0 : decode cX12_isSound 0 = .ok (.aload_n 0, 1) := by decide +kernel
theorem dX12_isSound_1 : decode cX12_isSound 1 = .ok (.iconst 0, 1) := by decide +kernel
theorem dX12_isSound_2 : decode cX12_isSound 2 = .ok (.putfield 141, 3) := by decide +kernel
theorem dX12_isSound_5 : decode cX12_isSound 5 = .ok (.iconst 1, 1) := by decide +kernel
theorem dX12_isSound_6 : decode cX12_isSound 6 = .ok (.ireturn, 1) := by decide +kernel
