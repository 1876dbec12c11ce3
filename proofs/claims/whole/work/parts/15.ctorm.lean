theorem dX10_init_0 : decode cX10_init 0 = .ok (.aload_n 0, 1) := by decide +kernel
theorem dX10_init_1 : decode cX10_init 1 = .ok (.invokespecial 1, 3) := by decide +kernel
theorem dX10_init_4 : decode cX10_init 4 = .ok (.aload_n 0, 1) := by decide +kernel
theorem dX10_init_5 : decode cX10_init 5 = .ok (.sipush 389, 3) := by decide +kernel
theorem dX10_init_8 : decode cX10_init 8 = .ok (.newarray .int, 2) := by decide +kernel
theorem dX10_init_10 : decode cX10_init 10 = .ok (.putfield 7, 3) := by decide +kernel
theorem dX10_init_13 : decode cX10_init 13 = .ok (.aload_n 0, 1) := by decide +kernel
theorem dX10_init_14 : decode cX10_init 14 = .ok (.sipush 2334, 3) := by decide +kernel
theorem dX10_init_17 : decode cX10_init 17 = .ok (.newarray .int, 2) := by decide +kernel
theorem dX10_init_19 : decode cX10_init 19 = .ok (.putfield 13, 3) := by decide +kernel
theorem dX10_init_22 : decode cX10_init 22 = .ok (.aload_n 0, 1) := by decide +kernel
theorem dX10_init_23 : decode cX10_init 23 = .ok (.sipush 389, 3) := by decide +kernel
theorem dX10_init_26 : decode cX10_init 26 = .ok (.newarray .int, 2) := by decide +kernel
theorem dX10_init_28 : decode cX10_init 28 = .ok (.putfield 16, 3) := by decide +kernel
theorem dX10_init_31 : decode cX10_init 31 = .ok (.aload_n 0, 1) := by decide +kernel
theorem dX10_init_32 : decode cX10_init 32 = .ok (.bipush 64, 2) := by decide +kernel
theorem dX10_init_34 : decode cX10_init 34 = .ok (.newarray .int, 2) := by decide +kernel
theorem dX10_init_36 : decode cX10_init 36 = .ok (.putfield 19, 3) := by decide +kernel
theorem dX10_init_39 : decode cX10_init 39 = .ok (.aload_n 0, 1) := by decide +kernel
theorem dX10_init_40 : decode cX10_init 40 = .ok (.sipush 600, 3) := by decide +kernel
theorem dX10_init_43 : decode cX10_init 43 = .ok (.newarray .int, 2) := by decide +kernel
theorem dX10_init_45 : decode cX10_init 45 = .ok (.putfield 22, 3) := by decide +kernel
theorem dX10_init_48 : decode cX10_init 48 = .ok (.aload_n 0, 1) := by decide +kernel
theorem dX10_init_49 : decode cX10_init 49 = .ok (.sipush 400, 3) := by decide +kernel
theorem dX10_init_52 : decode cX10_init 52 = .ok (.newarray .int, 2) := by decide +kernel
theorem dX10_init_54 : decode cX10_init 54 = .ok (.putfield 25, 3) := by decide +kernel
theorem dX10_init_57 : decode cX10_init 57 = .ok (.aload_n 0, 1) := by decide +kernel
theorem dX10_init_58 : decode cX10_init 58 = .ok (.sipush 150, 3) := by decide +kernel
theorem dX10_init_61 : decode cX10_init 61 = .ok (.newarray .int, 2) := by decide +kernel
theorem dX10_init_63 : decode cX10_init 63 = .ok (.dup, 1) := by decide +kernel
theorem dX10_init_64 : decode cX10_init 64 = .ok (.iconst 0, 1) := by decide +kernel
theorem dX10_init_65 : decode cX10_init 65 = .ok (.bipush 32, 2) := by decide +kernel
theorem dX10_init_67 : decode cX10_init 67 = .ok (.iastore, 1) := by decide +kernel
theorem dX10_init_68 : decode cX10_init 68 = .ok (.dup, 1) := by decide +kernel
theorem dX10_init_69 : decode cX10_init 69 = .ok (.iconst 1, 1) := by decide +kernel
theorem dX10_init_70 : decode cX10_init 70 = .ok (.bipush 103, 2) := by decide +kernel
theorem dX10_init_72 : decode cX10_init 72 = .ok (.iastore, 1) := by decide +kernel
theorem dX10_init_73 : decode cX10_init 73 = .ok (.dup, 1) := by decide +kernel
theorem dX10_init_74 : decode cX10_init 74 = .ok (.iconst 2, 1) := by decide +kernel
theorem dX10_init_75 : decode cX10_init 75 = .ok (.bipush 117, 2) := by decide +kernel
theorem dX10_init_77 : decode cX10_init 77 = .ok (.iastore, 1) := by decide +kernel
theorem dX10_init_78 : decode cX10_init 78 = .ok (.dup, 1) := by decide +kernel
theorem dX10_init_79 : decode cX10_init 79 = .ok (.iconst 3, 1) := by decide +kernel
theorem dX10_init_80 : decode cX10_init 80 = .ok (.bipush 115, 2) := by decide +kernel
theorem dX10_init_82 : decode cX10_init 82 = .ok (.iastore, 1) := by decide +kernel
theorem dX10_init_83 : decode cX10_init 83 = .ok (.dup, 1) := by decide +kernel
theorem dX10_init_84 : decode cX10_init 84 = .ok (.iconst 4, 1) := by decide +kernel
theorem dX10_init_85 : decode cX10_init 85 = .ok (.bipush 116, 2) := by decide +kernel
theorem dX10_init_87 : decode cX10_init 87 = .ok (.iastore, 1) := by decide +kernel
theorem dX10_init_88 : decode cX10_init 88 = .ok (.dup, 1) := by decide +kernel
theorem dX10_init_89 : decode cX10_init 89 = .ok (.iconst 5, 1) := by decide +kernel
theorem dX10_init_90 : decode cX10_init 90 = .ok (.bipush 32, 2) := by decide +kernel
theorem dX10_init_92 : decode cX10_init 92 = .ok (.iastore, 1) := by decide +kernel
theorem dX10_init_93 : decode cX10_init 93 = .ok (.dup, 1) := by decide +kernel
theorem dX10_init_94 : decode cX10_init 94 = .ok (.bipush 6, 2) := by decide +kernel
theorem dX10_init_96 : decode cX10_init 96 = .ok (.bipush 104, 2) := by decide +kernel
theorem dX10_init_98 : decode cX10_init 98 = .ok (.iastore, 1) := by decide +kernel
theorem dX10_init_99 : decode cX10_init 99 = .ok (.dup, 1) := by decide +kernel
theorem dX10_init_100 : decode cX10_init 100 = .ok (.bipush 7, 2) := by decide +kernel
theorem dX10_init_102 : decode cX10_init 102 = .ok (.bipush 97, 2) := by decide +kernel
theorem dX10_init_104 : decode cX10_init 104 = .ok (.iastore, 1) := by decide +kernel
theorem dX10_init_105 : decode cX10_init 105 = .ok (.dup, 1) := by decide +kernel
theorem dX10_init_106 : decode cX10_init 106 = .ok (.bipush 8, 2) := by decide +kernel
theorem dX10_init_108 : decode cX10_init 108 = .ok (.bipush 114, 2) := by decide +kernel
theorem dX10_init_110 : decode cX10_init 110 = .ok (.iastore, 1) := by decide +kernel
theorem dX10_init_111 : decode cX10_init 111 = .ok (.dup, 1) := by decide +kernel
theorem dX10_init_112 : decode cX10_init 112 = .ok (.bipush 9, 2) := by decide +kernel
theorem dX10_init_114 : decode cX10_init 114 = .ok (.bipush 109, 2) := by decide +kernel
theorem dX10_init_116 : decode cX10_init 116 = .ok (.iastore, 1) := by decide +kernel
theorem dX10_init_117 : decode cX10_init 117 = .ok (.dup, 1) := by decide +kernel
theorem dX10_init_118 : decode cX10_init 118 = .ok (.bipush 10, 2) := by decide +kernel
theorem dX10_init_120 : decode cX10_init 120 = .ok (.bipush 32, 2) := by decide +kernel
theorem dX10_init_122 : decode cX10_init 122 = .ok (.iastore, 1) := by decide +kernel
theorem dX10_init_123 : decode cX10_init 123 = .ok (.dup, 1) := by decide +kernel
theorem dX10_init_124 : decode cX10_init 124 = .ok (.bipush 11, 2) := by decide +kernel
theorem dX10_init_126 : decode cX10_init 126 = .ok (.bipush 119, 2) := by decide +kernel
theorem dX10_init_128 : decode cX10_init 128 = .ok (.iastore, 1) := by decide +kernel
theorem dX10_init_129 : decode cX10_init 129 = .ok (.dup, 1) := by decide +kernel
theorem dX10_init_130 : decode cX10_init 130 = .ok (.bipush 12, 2) := by decide +kernel
theorem dX10_init_132 : decode cX10_init 132 = .ok (.bipush 104, 2) := by decide +kernel
theorem dX10_init_134 : decode cX10_init 134 = .ok (.iastore, 1) := by decide +kernel
theorem dX10_init_135 : decode cX10_init 135 = .ok (.dup, 1) := by decide +kernel
theorem dX10_init_136 : decode cX10_init 136 = .ok (.bipush 13, 2) := by decide +kernel
theorem dX10_init_138 : decode cX10_init 138 = .ok (.bipush 101, 2) := by decide +kernel
theorem dX10_init_140 : decode cX10_init 140 = .ok (.iastore, 1) := by decide +kernel
theorem dX10_init_141 : decode cX10_init 141 = .ok (.dup, 1) := by decide +kernel
theorem dX10_init_142 : decode cX10_init 142 = .ok (.bipush 14, 2) := by decide +kernel
theorem dX10_init_144 : decode cX10_init 144 = .ok (.bipush 110, 2) := by decide +kernel
theorem dX10_init_146 : decode cX10_init 146 = .ok (.iastore, 1) := by decide +kernel
theorem dX10_init_147 : decode cX10_init 147 = .ok (.dup, 1) := by decide +kernel
theorem dX10_init_148 : decode cX10_init 148 = .ok (.bipush 15, 2) := by decide +kernel
theorem dX10_init_150 : decode cX10_init 150 = .ok (.bipush 32, 2) := by decide +kernel
theorem dX10_init_152 : decode cX10_init 152 = .ok (.iastore, 1) := by decide +kernel
theorem dX10_init_153 : decode cX10_init 153 = .ok (.dup, 1) := by decide +kernel
theorem dX10_init_154 : decode cX10_init 154 = .ok (.bipush 16, 2) := by decide +kernel
theorem dX10_init_156 : decode cX10_init 156 = .ok (.bipush 111, 2) := by decide +kernel
theorem dX10_init_158 : decode cX10_init 158 = .ok (.iastore, 1) := by decide +kernel
theorem dX10_init_159 : decode cX10_init 159 = .ok (.dup, 1) := by decide +kernel
theorem dX10_init_160 : decode cX10_init 160 = .ok (.bipush 17, 2) := by decide +kernel
theorem dX10_init_162 : decode cX10_init 162 = .ok (.bipush 114, 2) := by decide +kernel
theorem dX10_init_164 : decode cX10_init 164 = .ok (.iastore, 1) := by decide +kernel
theorem dX10_init_165 : decode cX10_init 165 = .ok (.dup, 1) := by decide +kernel
theorem dX10_init_166 : decode cX10_init 166 = .ok (.bipush 18, 2) := by decide +kernel
theorem dX10_init_168 : decode cX10_init 168 = .ok (.bipush 32, 2) := by decide +kernel
theorem dX10_init_170 : decode cX10_init 170 = .ok (.iastore, 1) := by decide +kernel
theorem dX10_init_171 : decode cX10_init 171 = .ok (.dup, 1) := by decide +kernel
theorem dX10_init_172 : decode cX10_init 172 = .ok (.bipush 19, 2) := by decide +kernel
theorem dX10_init_174 : decode cX10_init 174 = .ok (.bipush 97, 2) := by decide +kernel
theorem dX10_init_176 : decode cX10_init 176 = .ok (.iastore, 1) := by decide +kernel
theorem dX10_init_177 : decode cX10_init 177 = .ok (.dup, 1) := by decide +kernel
theorem dX10_init_178 : decode cX10_init 178 = .ok (.bipush 20, 2) := by decide +kernel
theorem dX10_init_180 : decode cX10_init 180 = .ok (.bipush 110, 2) := by decide +kernel
theorem dX10_init_182 : decode cX10_init 182 = .ok (.iastore, 1) := by decide +kernel
theorem dX10_init_183 : decode cX10_init 183 = .ok (.dup, 1) := by decide +kernel
theorem dX10_init_184 : decode cX10_init 184 = .ok (.bipush 21, 2) := by decide +kernel
theorem dX10_init_186 : decode cX10_init 186 = .ok (.bipush 100, 2) := by decide +kernel
theorem dX10_init_188 : decode cX10_init 188 = .ok (.iastore, 1) := by decide +kernel
theorem dX10_init_189 : decode cX10_init 189 = .ok (.dup, 1) := by decide +kernel
theorem dX10_init_190 : decode cX10_init 190 = .ok (.bipush 22, 2) := by decide +kernel
theorem dX10_init_192 : decode cX10_init 192 = .ok (.bipush 32, 2) := by decide +kernel
theorem dX10_init_194 : decode cX10_init 194 = .ok (.iastore, 1) := by decide +kernel
theorem dX10_init_195 : decode cX10_init 195 = .ok (.dup, 1) := by decide +kernel
theorem dX10_init_196 : decode cX10_init 196 = .ok (.bipush 23, 2) := by decide +kernel
theorem dX10_init_198 : decode cX10_init 198 = .ok (.bipush 110, 2) := by decide +kernel
theorem dX10_init_200 : decode cX10_init 200 = .ok (.iastore, 1) := by decide +kernel
theorem dX10_init_201 : decode cX10_init 201 = .ok (.dup, 1) := by decide +kernel
theorem dX10_init_202 : decode cX10_init 202 = .ok (.bipush 24, 2) := by decide +kernel
theorem dX10_init_204 : decode cX10_init 204 = .ok (.bipush 111, 2) := by decide +kernel
theorem dX10_init_206 : decode cX10_init 206 = .ok (.iastore, 1) := by decide +kernel
theorem dX10_init_207 : decode cX10_init 207 = .ok (.dup, 1) := by decide +kernel
theorem dX10_init_208 : decode cX10_init 208 = .ok (.bipush 25, 2) := by decide +kernel
theorem dX10_init_210 : decode cX10_init 210 = .ok (.bipush 116, 2) := by decide +kernel
theorem dX10_init_212 : decode cX10_init 212 = .ok (.iastore, 1) := by decide +kernel
theorem dX10_init_213 : decode cX10_init 213 = .ok (.dup, 1) := by decide +kernel
theorem dX10_init_214 : decode cX10_init 214 = .ok (.bipush 26, 2) := by decide +kernel
theorem dX10_init_216 : decode cX10_init 216 = .ok (.bipush 32, 2) := by decide +kernel
theorem dX10_init_218 : decode cX10_init 218 = .ok (.iastore, 1) := by decide +kernel
theorem dX10_init_219 : decode cX10_init 219 = .ok (.dup, 1) := by decide +kernel
theorem dX10_init_220 : decode cX10_init 220 = .ok (.bipush 27, 2) := by decide +kernel
theorem dX10_init_222 : decode cX10_init 222 = .ok (.bipush 107, 2) := by decide +kernel
theorem dX10_init_224 : decode cX10_init 224 = .ok (.iastore, 1) := by decide +kernel
theorem dX10_init_225 : decode cX10_init 225 = .ok (.dup, 1) := by decide +kernel
theorem dX10_init_226 : decode cX10_init 226 = .ok (.bipush 28, 2) := by decide +kernel
theorem dX10_init_228 : decode cX10_init 228 = .ok (.bipush 105, 2) := by decide +kernel
theorem dX10_init_230 : decode cX10_init 230 = .ok (.iastore, 1) := by decide +kernel
theorem dX10_init_231 : decode cX10_init 231 = .ok (.dup, 1) := by decide +kernel
theorem dX10_init_232 : decode cX10_init 232 = .ok (.bipush 29, 2) := by decide +kernel
theorem dX10_init_234 : decode cX10_init 234 = .ok (.bipush 110, 2) := by decide +kernel
theorem dX10_init_236 : decode cX10_init 236 = .ok (.iastore, 1) := by decide +kernel
theorem dX10_init_237 : decode cX10_init 237 = .ok (.dup, 1) := by decide +kernel
theorem dX10_init_238 : decode cX10_init 238 = .ok (.bipush 30, 2) := by decide +kernel
theorem dX10_init_240 : decode cX10_init 240 = .ok (.bipush 100, 2) := by decide +kernel
theorem dX10_init_242 : decode cX10_init 242 = .ok (.iastore, 1) := by decide +kernel
theorem dX10_init_243 : decode cX10_init 243 = .ok (.dup, 1) := by decide +kernel
theorem dX10_init_244 : decode cX10_init 244 = .ok (.bipush 31, 2) := by decide +kernel
theorem dX10_init_246 : decode cX10_init 246 = .ok (.bipush 32, 2) := by decide +kernel
theorem dX10_init_248 : decode cX10_init 248 = .ok (.iastore, 1) := by decide +kernel
theorem dX10_init_249 : decode cX10_init 249 = .ok (.dup, 1) := by decide +kernel
theorem dX10_init_250 : decode cX10_init 250 = .ok (.bipush 32, 2) := by decide +kernel
theorem dX10_init_252 : decode cX10_init 252 = .ok (.bipush 119, 2) := by decide +kernel
theorem dX10_init_254 : decode cX10_init 254 = .ok (.iastore, 1) := by decide +kernel
theorem dX10_init_255 : decode cX10_init 255 = .ok (.dup, 1) := by decide +kernel
theorem dX10_init_256 : decode cX10_init 256 = .ok (.bipush 33, 2) := by decide +kernel
theorem dX10_init_258 : decode cX10_init 258 = .ok (.bipush 101, 2) := by decide +kernel
theorem dX10_init_260 : decode cX10_init 260 = .ok (.iastore, 1) := by decide +kernel
theorem dX10_init_261 : decode cX10_init 261 = .ok (.dup, 1) := by decide +kernel
theorem dX10_init_262 : decode cX10_init 262 = .ok (.bipush 34, 2) := by decide +kernel
theorem dX10_init_264 : decode cX10_init 264 = .ok (.bipush 116, 2) := by decide +kernel
theorem dX10_init_266 : decode cX10_init 266 = .ok (.iastore, 1) := by decide +kernel
theorem dX10_init_267 : decode cX10_init 267 = .ok (.dup, 1) := by decide +kernel
theorem dX10_init_268 : decode cX10_init 268 = .ok (.bipush 35, 2) := by decide +kernel
theorem dX10_init_270 : decode cX10_init 270 = .ok (.bipush 32, 2) := by decide +kernel
theorem dX10_init_272 : decode cX10_init 272 = .ok (.iastore, 1) := by decide +kernel
theorem dX10_init_273 : decode cX10_init 273 = .ok (.dup, 1) := by decide +kernel
theorem dX10_init_274 : decode cX10_init 274 = .ok (.bipush 36, 2) := by decide +kernel
theorem dX10_init_276 : decode cX10_init 276 = .ok (.bipush 115, 2) := by decide +kernel
theorem dX10_init_278 : decode cX10_init 278 = .ok (.iastore, 1) := by decide +kernel
theorem dX10_init_279 : decode cX10_init 279 = .ok (.dup, 1) := by decide +kernel
theorem dX10_init_280 : decode cX10_init 280 = .ok (.bipush 37, 2) := by decide +kernel
theorem dX10_init_282 : decode cX10_init 282 = .ok (.bipush 111, 2) := by decide +kernel
theorem dX10_init_284 : decode cX10_init 284 = .ok (.iastore, 1) := by decide +kernel
theorem dX10_init_285 : decode cX10_init 285 = .ok (.dup, 1) := by decide +kernel
theorem dX10_init_286 : decode cX10_init 286 = .ok (.bipush 38, 2) := by decide +kernel
theorem dX10_init_288 : decode cX10_init 288 = .ok (.bipush 105, 2) := by decide +kernel
theorem dX10_init_290 : decode cX10_init 290 = .ok (.iastore, 1) := by decide +kernel
theorem dX10_init_291 : decode cX10_init 291 = .ok (.dup, 1) := by decide +kernel
theorem dX10_init_292 : decode cX10_init 292 = .ok (.bipush 39, 2) := by decide +kernel
theorem dX10_init_294 : decode cX10_init 294 = .ok (.bipush 108, 2) := by decide +kernel
theorem dX10_init_296 : decode cX10_init 296 = .ok (.iastore, 1) := by decide +kernel
theorem dX10_init_297 : decode cX10_init 297 = .ok (.dup, 1) := by decide +kernel
theorem dX10_init_298 : decode cX10_init 298 = .ok (.bipush 40, 2) := by decide +kernel
theorem dX10_init_300 : decode cX10_init 300 = .ok (.bipush 32, 2) := by decide +kernel
theorem dX10_init_302 : decode cX10_init 302 = .ok (.iastore, 1) := by decide +kernel
theorem dX10_init_303 : decode cX10_init 303 = .ok (.dup, 1) := by decide +kernel
theorem dX10_init_304 : decode cX10_init 304 = .ok (.bipush 41, 2) := by decide +kernel
theorem dX10_init_306 : decode cX10_init 306 = .ok (.bipush 98, 2) := by decide +kernel
theorem dX10_init_308 : decode cX10_init 308 = .ok (.iastore, 1) := by decide +kernel
theorem dX10_init_309 : decode cX10_init 309 = .ok (.dup, 1) := by decide +kernel
theorem dX10_init_310 : decode cX10_init 310 = .ok (.bipush 42, 2) := by decide +kernel
theorem dX10_init_312 : decode cX10_init 312 = .ok (.bipush 101, 2) := by decide +kernel
theorem dX10_init_314 : decode cX10_init 314 = .ok (.iastore, 1) := by decide +kernel
theorem dX10_init_315 : decode cX10_init 315 = .ok (.dup, 1) := by decide +kernel
theorem dX10_init_316 : decode cX10_init 316 = .ok (.bipush 43, 2) := by decide +kernel
theorem dX10_init_318 : decode cX10_init 318 = .ok (.bipush 115, 2) := by decide +kernel
theorem dX10_init_320 : decode cX10_init 320 = .ok (.iastore, 1) := by decide +kernel
theorem dX10_init_321 : decode cX10_init 321 = .ok (.dup, 1) := by decide +kernel
theorem dX10_init_322 : decode cX10_init 322 = .ok (.bipush 44, 2) := by decide +kernel
theorem dX10_init_324 : decode cX10_init 324 = .ok (.bipush 105, 2) := by decide +kernel
theorem dX10_init_326 : decode cX10_init 326 = .ok (.iastore, 1) := by decide +kernel
theorem dX10_init_327 : decode cX10_init 327 = .ok (.dup, 1) := by decide +kernel
theorem dX10_init_328 : decode cX10_init 328 = .ok (.bipush 45, 2) := by decide +kernel
theorem dX10_init_330 : decode cX10_init 330 = .ok (.bipush 100, 2) := by decide +kernel
theorem dX10_init_332 : decode cX10_init 332 = .ok (.iastore, 1) := by decide +kernel
theorem dX10_init_333 : decode cX10_init 333 = .ok (.dup, 1) := by decide +kernel
theorem dX10_init_334 : decode cX10_init 334 = .ok (.bipush 46, 2) := by decide +kernel
theorem dX10_init_336 : decode cX10_init 336 = .ok (.bipush 101, 2) := by decide +kernel
theorem dX10_init_338 : decode cX10_init 338 = .ok (.iastore, 1) := by decide +kernel
theorem dX10_init_339 : decode cX10_init 339 = .ok (.dup, 1) := by decide +kernel
theorem dX10_init_340 : decode cX10_init 340 = .ok (.bipush 47, 2) := by decide +kernel
theorem dX10_init_342 : decode cX10_init 342 = .ok (.bipush 32, 2) := by decide +kernel
theorem dX10_init_344 : decode cX10_init 344 = .ok (.iastore, 1) := by decide +kernel
theorem dX10_init_345 : decode cX10_init 345 = .ok (.dup, 1) := by decide +kernel
theorem dX10_init_346 : decode cX10_init 346 = .ok (.bipush 48, 2) := by decide +kernel
theorem dX10_init_348 : decode cX10_init 348 = .ok (.bipush 100, 2) := by decide +kernel
theorem dX10_init_350 : decode cX10_init 350 = .ok (.iastore, 1) := by decide +kernel
theorem dX10_init_351 : decode cX10_init 351 = .ok (.dup, 1) := by decide +kernel
theorem dX10_init_352 : decode cX10_init 352 = .ok (.bipush 49, 2) := by decide +kernel
theorem dX10_init_354 : decode cX10_init 354 = .ok (.bipush 97, 2) := by decide +kernel
theorem dX10_init_356 : decode cX10_init 356 = .ok (.iastore, 1) := by decide +kernel
theorem dX10_init_357 : decode cX10_init 357 = .ok (.dup, 1) := by decide +kernel
theorem dX10_init_358 : decode cX10_init 358 = .ok (.bipush 50, 2) := by decide +kernel
theorem dX10_init_360 : decode cX10_init 360 = .ok (.bipush 121, 2) := by decide +kernel
theorem dX10_init_362 : decode cX10_init 362 = .ok (.iastore, 1) := by decide +kernel
theorem dX10_init_363 : decode cX10_init 363 = .ok (.dup, 1) := by decide +kernel
theorem dX10_init_364 : decode cX10_init 364 = .ok (.bipush 51, 2) := by decide +kernel
theorem dX10_init_366 : decode cX10_init 366 = .ok (.bipush 32, 2) := by decide +kernel
theorem dX10_init_368 : decode cX10_init 368 = .ok (.iastore, 1) := by decide +kernel
theorem dX10_init_369 : decode cX10_init 369 = .ok (.dup, 1) := by decide +kernel
theorem dX10_init_370 : decode cX10_init 370 = .ok (.bipush 52, 2) := by decide +kernel
theorem dX10_init_372 : decode cX10_init 372 = .ok (.bipush 101, 2) := by decide +kernel
theorem dX10_init_374 : decode cX10_init 374 = .ok (.iastore, 1) := by decide +kernel
theorem dX10_init_375 : decode cX10_init 375 = .ok (.dup, 1) := by decide +kernel
theorem dX10_init_376 : decode cX10_init 376 = .ok (.bipush 53, 2) := by decide +kernel
theorem dX10_init_378 : decode cX10_init 378 = .ok (.bipush 100, 2) := by decide +kernel
theorem dX10_init_380 : decode cX10_init 380 = .ok (.iastore, 1) := by decide +kernel
theorem dX10_init_381 : decode cX10_init 381 = .ok (.dup, 1) := by decide +kernel
theorem dX10_init_382 : decode cX10_init 382 = .ok (.bipush 54, 2) := by decide +kernel
theorem dX10_init_384 : decode cX10_init 384 = .ok (.bipush 103, 2) := by decide +kernel
theorem dX10_init_386 : decode cX10_init 386 = .ok (.iastore, 1) := by decide +kernel
theorem dX10_init_387 : decode cX10_init 387 = .ok (.dup, 1) := by decide +kernel
theorem dX10_init_388 : decode cX10_init 388 = .ok (.bipush 55, 2) := by decide +kernel
theorem dX10_init_390 : decode cX10_init 390 = .ok (.bipush 101, 2) := by decide +kernel
theorem dX10_init_392 : decode cX10_init 392 = .ok (.iastore, 1) := by decide +kernel
theorem dX10_init_393 : decode cX10_init 393 = .ok (.dup, 1) := by decide +kernel
theorem dX10_init_394 : decode cX10_init 394 = .ok (.bipush 56, 2) := by decide +kernel
theorem dX10_init_396 : decode cX10_init 396 = .ok (.bipush 32, 2) := by decide +kernel
theorem dX10_init_398 : decode cX10_init 398 = .ok (.iastore, 1) := by decide +kernel
theorem dX10_init_399 : decode cX10_init 399 = .ok (.dup, 1) := by decide +kernel
theorem dX10_init_400 : decode cX10_init 400 = .ok (.bipush 57, 2) := by decide +kernel
theorem dX10_init_402 : decode cX10_init 402 = .ok (.bipush 104, 2) := by decide +kernel
theorem dX10_init_404 : decode cX10_init 404 = .ok (.iastore, 1) := by decide +kernel
theorem dX10_init_405 : decode cX10_init 405 = .ok (.dup, 1) := by decide +kernel
theorem dX10_init_406 : decode cX10_init 406 = .ok (.bipush 58, 2) := by decide +kernel
theorem dX10_init_408 : decode cX10_init 408 = .ok (.bipush 101, 2) := by decide +kernel
theorem dX10_init_410 : decode cX10_init 410 = .ok (.iastore, 1) := by decide +kernel
theorem dX10_init_411 : decode cX10_init 411 = .ok (.dup, 1) := by decide +kernel
theorem dX10_init_412 : decode cX10_init 412 = .ok (.bipush 59, 2) := by decide +kernel
theorem dX10_init_414 : decode cX10_init 414 = .ok (.bipush 100, 2) := by decide +kernel
theorem dX10_init_416 : decode cX10_init 416 = .ok (.iastore, 1) := by decide +kernel
theorem dX10_init_417 : decode cX10_init 417 = .ok (.dup, 1) := by decide +kernel
theorem dX10_init_418 : decode cX10_init 418 = .ok (.bipush 60, 2) := by decide +kernel
theorem dX10_init_420 : decode cX10_init 420 = .ok (.bipush 103, 2) := by decide +kernel
theorem dX10_init_422 : decode cX10_init 422 = .ok (.iastore, 1) := by decide +kernel
theorem dX10_init_423 : decode cX10_init 423 = .ok (.dup, 1) := by decide +kernel
theorem dX10_init_424 : decode cX10_init 424 = .ok (.bipush 61, 2) := by decide +kernel
theorem dX10_init_426 : decode cX10_init 426 = .ok (.bipush 101, 2) := by decide +kernel
theorem dX10_init_428 : decode cX10_init 428 = .ok (.iastore, 1) := by decide +kernel
theorem dX10_init_429 : decode cX10_init 429 = .ok (.dup, 1) := by decide +kernel
theorem dX10_init_430 : decode cX10_init 430 = .ok (.bipush 62, 2) := by decide +kernel
theorem dX10_init_432 : decode cX10_init 432 = .ok (.bipush 115, 2) := by decide +kernel
theorem dX10_init_434 : decode cX10_init 434 = .ok (.iastore, 1) := by decide +kernel
theorem dX10_init_435 : decode cX10_init 435 = .ok (.dup, 1) := by decide +kernel
theorem dX10_init_436 : decode cX10_init 436 = .ok (.bipush 63, 2) := by decide +kernel
theorem dX10_init_438 : decode cX10_init 438 = .ok (.bipush 32, 2) := by decide +kernel
theorem dX10_init_440 : decode cX10_init 440 = .ok (.iastore, 1) := by decide +kernel
theorem dX10_init_441 : decode cX10_init 441 = .ok (.dup, 1) := by decide +kernel
theorem dX10_init_442 : decode cX10_init 442 = .ok (.bipush 64, 2) := by decide +kernel
theorem dX10_init_444 : decode cX10_init 444 = .ok (.bipush 115, 2) := by decide +kernel
theorem dX10_init_446 : decode cX10_init 446 = .ok (.iastore, 1) := by decide +kernel
theorem dX10_init_447 : decode cX10_init 447 = .ok (.dup, 1) := by decide +kernel
theorem dX10_init_448 : decode cX10_init 448 = .ok (.bipush 65, 2) := by decide +kernel
theorem dX10_init_450 : decode cX10_init 450 = .ok (.bipush 116, 2) := by decide +kernel
theorem dX10_init_452 : decode cX10_init 452 = .ok (.iastore, 1) := by decide +kernel
theorem dX10_init_453 : decode cX10_init 453 = .ok (.dup, 1) := by decide +kernel
theorem dX10_init_454 : decode cX10_init 454 = .ok (.bipush 66, 2) := by decide +kernel
theorem dX10_init_456 : decode cX10_init 456 = .ok (.bipush 111, 2) := by decide +kernel
theorem dX10_init_458 : decode cX10_init 458 = .ok (.iastore, 1) := by decide +kernel
theorem dX10_init_459 : decode cX10_init 459 = .ok (.dup, 1) := by decide +kernel
theorem dX10_init_460 : decode cX10_init 460 = .ok (.bipush 67, 2) := by decide +kernel
theorem dX10_init_462 : decode cX10_init 462 = .ok (.bipush 114, 2) := by decide +kernel
theorem dX10_init_464 : decode cX10_init 464 = .ok (.iastore, 1) := by decide +kernel
theorem dX10_init_465 : decode cX10_init 465 = .ok (.dup, 1) := by decide +kernel
theorem dX10_init_466 : decode cX10_init 466 = .ok (.bipush 68, 2) := by decide +kernel
theorem dX10_init_468 : decode cX10_init 468 = .ok (.bipush 109, 2) := by decide +kernel
theorem dX10_init_470 : decode cX10_init 470 = .ok (.iastore, 1) := by decide +kernel
theorem dX10_init_471 : decode cX10_init 471 = .ok (.dup, 1) := by decide +kernel
theorem dX10_init_472 : decode cX10_init 472 = .ok (.bipush 69, 2) := by decide +kernel
theorem dX10_init_474 : decode cX10_init 474 = .ok (.bipush 32, 2) := by decide +kernel
theorem dX10_init_476 : decode cX10_init 476 = .ok (.iastore, 1) := by decide +kernel
theorem dX10_init_477 : decode cX10_init 477 = .ok (.dup, 1) := by decide +kernel
theorem dX10_init_478 : decode cX10_init 478 = .ok (.bipush 70, 2) := by decide +kernel
theorem dX10_init_480 : decode cX10_init 480 = .ok (.bipush 108, 2) := by decide +kernel
theorem dX10_init_482 : decode cX10_init 482 = .ok (.iastore, 1) := by decide +kernel
theorem dX10_init_483 : decode cX10_init 483 = .ok (.dup, 1) := by decide +kernel
theorem dX10_init_484 : decode cX10_init 484 = .ok (.bipush 71, 2) := by decide +kernel
theorem dX10_init_486 : decode cX10_init 486 = .ok (.bipush 97, 2) := by decide +kernel
theorem dX10_init_488 : decode cX10_init 488 = .ok (.iastore, 1) := by decide +kernel
theorem dX10_init_489 : decode cX10_init 489 = .ok (.dup, 1) := by decide +kernel
theorem dX10_init_490 : decode cX10_init 490 = .ok (.bipush 72, 2) := by decide +kernel
theorem dX10_init_492 : decode cX10_init 492 = .ok (.bipush 115, 2) := by decide +kernel
theorem dX10_init_494 : decode cX10_init 494 = .ok (.iastore, 1) := by decide +kernel
theorem dX10_init_495 : decode cX10_init 495 = .ok (.dup, 1) := by decide +kernel
theorem dX10_init_496 : decode cX10_init 496 = .ok (.bipush 73, 2) := by decide +kernel
theorem dX10_init_498 : decode cX10_init 498 = .ok (.bipush 116, 2) := by decide +kernel
theorem dX10_init_500 : decode cX10_init 500 = .ok (.iastore, 1) := by decide +kernel
theorem dX10_init_501 : decode cX10_init 501 = .ok (.dup, 1) := by decide +kernel
theorem dX10_init_502 : decode cX10_init 502 = .ok (.bipush 74, 2) := by decide +kernel
theorem dX10_init_504 : decode cX10_init 504 = .ok (.bipush 115, 2) := by decide +kernel
theorem dX10_init_506 : decode cX10_init 506 = .ok (.iastore, 1) := by decide +kernel
theorem dX10_init_507 : decode cX10_init 507 = .ok (.dup, 1) := by decide +kernel
theorem dX10_init_508 : decode cX10_init 508 = .ok (.bipush 75, 2) := by decide +kernel
theorem dX10_init_510 : decode cX10_init 510 = .ok (.bipush 32, 2) := by decide +kernel
theorem dX10_init_512 : decode cX10_init 512 = .ok (.iastore, 1) := by decide +kernel
theorem dX10_init_513 : decode cX10_init 513 = .ok (.dup, 1) := by decide +kernel
theorem dX10_init_514 : decode cX10_init 514 = .ok (.bipush 76, 2) := by decide +kernel
theorem dX10_init_516 : decode cX10_init 516 = .ok (.bipush 115, 2) := by decide +kernel
theorem dX10_init_518 : decode cX10_init 518 = .ok (.iastore, 1) := by decide +kernel
theorem dX10_init_519 : decode cX10_init 519 = .ok (.dup, 1) := by decide +kernel
theorem dX10_init_520 : decode cX10_init 520 = .ok (.bipush 77, 2) := by decide +kernel
theorem dX10_init_522 : decode cX10_init 522 = .ok (.bipush 112, 2) := by decide +kernel
theorem dX10_init_524 : decode cX10_init 524 = .ok (.iastore, 1) := by decide +kernel
theorem dX10_init_525 : decode cX10_init 525 = .ok (.dup, 1) := by decide +kernel
theorem dX10_init_526 : decode cX10_init 526 = .ok (.bipush 78, 2) := by decide +kernel
theorem dX10_init_528 : decode cX10_init 528 = .ok (.bipush 114, 2) := by decide +kernel
theorem dX10_init_530 : decode cX10_init 530 = .ok (.iastore, 1) := by decide +kernel
theorem dX10_init_531 : decode cX10_init 531 = .ok (.dup, 1) := by decide +kernel
theorem dX10_init_532 : decode cX10_init 532 = .ok (.bipush 79, 2) := by decide +kernel
theorem dX10_init_534 : decode cX10_init 534 = .ok (.bipush 101, 2) := by decide +kernel
theorem dX10_init_536 : decode cX10_init 536 = .ok (.iastore, 1) := by decide +kernel
theorem dX10_init_537 : decode cX10_init 537 = .ok (.dup, 1) := by decide +kernel
theorem dX10_init_538 : decode cX10_init 538 = .ok (.bipush 80, 2) := by decide +kernel
theorem dX10_init_540 : decode cX10_init 540 = .ok (.bipush 97, 2) := by decide +kernel
theorem dX10_init_542 : decode cX10_init 542 = .ok (.iastore, 1) := by decide +kernel
theorem dX10_init_543 : decode cX10_init 543 = .ok (.dup, 1) := by decide +kernel
theorem dX10_init_544 : decode cX10_init 544 = .ok (.bipush 81, 2) := by decide +kernel
theorem dX10_init_546 : decode cX10_init 546 = .ok (.bipush 100, 2) := by decide +kernel
theorem dX10_init_548 : decode cX10_init 548 = .ok (.iastore, 1) := by decide +kernel
theorem dX10_init_549 : decode cX10_init 549 = .ok (.dup, 1) := by decide +kernel
theorem dX10_init_550 : decode cX10_init 550 = .ok (.bipush 82, 2) := by decide +kernel
theorem dX10_init_552 : decode cX10_init 552 = .ok (.bipush 32, 2) := by decide +kernel
theorem dX10_init_554 : decode cX10_init 554 = .ok (.iastore, 1) := by decide +kernel
theorem dX10_init_555 : decode cX10_init 555 = .ok (.dup, 1) := by decide +kernel
theorem dX10_init_556 : decode cX10_init 556 = .ok (.bipush 83, 2) := by decide +kernel
theorem dX10_init_558 : decode cX10_init 558 = .ok (.bipush 99, 2) := by decide +kernel
theorem dX10_init_560 : decode cX10_init 560 = .ok (.iastore, 1) := by decide +kernel
theorem dX10_init_561 : decode cX10_init 561 = .ok (.dup, 1) := by decide +kernel
theorem dX10_init_562 : decode cX10_init 562 = .ok (.bipush 84, 2) := by decide +kernel
theorem dX10_init_564 : decode cX10_init 564 = .ok (.bipush 114, 2) := by decide +kernel
theorem dX10_init_566 : decode cX10_init 566 = .ok (.iastore, 1) := by decide +kernel
theorem dX10_init_567 : decode cX10_init 567 = .ok (.dup, 1) := by decide +kernel
theorem dX10_init_568 : decode cX10_init 568 = .ok (.bipush 85, 2) := by decide +kernel
theorem dX10_init_570 : decode cX10_init 570 = .ok (.bipush 111, 2) := by decide +kernel
theorem dX10_init_572 : decode cX10_init 572 = .ok (.iastore, 1) := by decide +kernel
theorem dX10_init_573 : decode cX10_init 573 = .ok (.dup, 1) := by decide +kernel
theorem dX10_init_574 : decode cX10_init 574 = .ok (.bipush 86, 2) := by decide +kernel
theorem dX10_init_576 : decode cX10_init 576 = .ok (.bipush 115, 2) := by decide +kernel
theorem dX10_init_578 : decode cX10_init 578 = .ok (.iastore, 1) := by decide +kernel
theorem dX10_init_579 : decode cX10_init 579 = .ok (.dup, 1) := by decide +kernel
theorem dX10_init_580 : decode cX10_init 580 = .ok (.bipush 87, 2) := by decide +kernel
theorem dX10_init_582 : decode cX10_init 582 = .ok (.bipush 115, 2) := by decide +kernel
theorem dX10_init_584 : decode cX10_init 584 = .ok (.iastore, 1) := by decide +kernel
theorem dX10_init_585 : decode cX10_init 585 = .ok (.dup, 1) := by decide +kernel
theorem dX10_init_586 : decode cX10_init 586 = .ok (.bipush 88, 2) := by decide +kernel
theorem dX10_init_588 : decode cX10_init 588 = .ok (.bipush 32, 2) := by decide +kernel
theorem dX10_init_590 : decode cX10_init 590 = .ok (.iastore, 1) := by decide +kernel
theorem dX10_init_591 : decode cX10_init 591 = .ok (.dup, 1) := by decide +kernel
theorem dX10_init_592 : decode cX10_init 592 = .ok (.bipush 89, 2) := by decide +kernel
theorem dX10_init_594 : decode cX10_init 594 = .ok (.bipush 119, 2) := by decide +kernel
theorem dX10_init_596 : decode cX10_init 596 = .ok (.iastore, 1) := by decide +kernel
theorem dX10_init_597 : decode cX10_init 597 = .ok (.dup, 1) := by decide +kernel
theorem dX10_init_598 : decode cX10_init 598 = .ok (.bipush 90, 2) := by decide +kernel
theorem dX10_init_600 : decode cX10_init 600 = .ok (.bipush 105, 2) := by decide +kernel
theorem dX10_init_602 : decode cX10_init 602 = .ok (.iastore, 1) := by decide +kernel
theorem dX10_init_603 : decode cX10_init 603 = .ok (.dup, 1) := by decide +kernel
theorem dX10_init_604 : decode cX10_init 604 = .ok (.bipush 91, 2) := by decide +kernel
theorem dX10_init_606 : decode cX10_init 606 = .ok (.bipush 116, 2) := by decide +kernel
theorem dX10_init_608 : decode cX10_init 608 = .ok (.iastore, 1) := by decide +kernel
theorem dX10_init_609 : decode cX10_init 609 = .ok (.dup, 1) := by decide +kernel
theorem dX10_init_610 : decode cX10_init 610 = .ok (.bipush 92, 2) := by decide +kernel
theorem dX10_init_612 : decode cX10_init 612 = .ok (.bipush 104, 2) := by decide +kernel
theorem dX10_init_614 : decode cX10_init 614 = .ok (.iastore, 1) := by decide +kernel
theorem dX10_init_615 : decode cX10_init 615 = .ok (.dup, 1) := by decide +kernel
theorem dX10_init_616 : decode cX10_init 616 = .ok (.bipush 93, 2) := by decide +kernel
theorem dX10_init_618 : decode cX10_init 618 = .ok (.bipush 32, 2) := by decide +kernel
theorem dX10_init_620 : decode cX10_init 620 = .ok (.iastore, 1) := by decide +kernel
theorem dX10_init_621 : decode cX10_init 621 = .ok (.dup, 1) := by decide +kernel
theorem dX10_init_622 : decode cX10_init 622 = .ok (.bipush 94, 2) := by decide +kernel
theorem dX10_init_624 : decode cX10_init 624 = .ok (.bipush 116, 2) := by decide +kernel
theorem dX10_init_626 : decode cX10_init 626 = .ok (.iastore, 1) := by decide +kernel
theorem dX10_init_627 : decode cX10_init 627 = .ok (.dup, 1) := by decide +kernel
theorem dX10_init_628 : decode cX10_init 628 = .ok (.bipush 95, 2) := by decide +kernel
theorem dX10_init_630 : decode cX10_init 630 = .ok (.bipush 111, 2) := by decide +kernel
theorem dX10_init_632 : decode cX10_init 632 = .ok (.iastore, 1) := by decide +kernel
theorem dX10_init_633 : decode cX10_init 633 = .ok (.dup, 1) := by decide +kernel
theorem dX10_init_634 : decode cX10_init 634 = .ok (.bipush 96, 2) := by decide +kernel
theorem dX10_init_636 : decode cX10_init 636 = .ok (.bipush 32, 2) := by decide +kernel
theorem dX10_init_638 : decode cX10_init 638 = .ok (.iastore, 1) := by decide +kernel
theorem dX10_init_639 : decode cX10_init 639 = .ok (.dup, 1) := by decide +kernel
theorem dX10_init_640 : decode cX10_init 640 = .ok (.bipush 97, 2) := by decide +kernel
theorem dX10_init_642 : decode cX10_init 642 = .ok (.bipush 119, 2) := by decide +kernel
theorem dX10_init_644 : decode cX10_init 644 = .ok (.iastore, 1) := by decide +kernel
theorem dX10_init_645 : decode cX10_init 645 = .ok (.dup, 1) := by decide +kernel
theorem dX10_init_646 : decode cX10_init 646 = .ok (.bipush 98, 2) := by decide +kernel
theorem dX10_init_648 : decode cX10_init 648 = .ok (.bipush 97, 2) := by decide +kernel
theorem dX10_init_650 : decode cX10_init 650 = .ok (.iastore, 1) := by decide +kernel
theorem dX10_init_651 : decode cX10_init 651 = .ok (.dup, 1) := by decide +kernel
theorem dX10_init_652 : decode cX10_init 652 = .ok (.bipush 99, 2) := by decide +kernel
theorem dX10_init_654 : decode cX10_init 654 = .ok (.bipush 110, 2) := by decide +kernel
theorem dX10_init_656 : decode cX10_init 656 = .ok (.iastore, 1) := by decide +kernel
theorem dX10_init_657 : decode cX10_init 657 = .ok (.dup, 1) := by decide +kernel
theorem dX10_init_658 : decode cX10_init 658 = .ok (.bipush 100, 2) := by decide +kernel
theorem dX10_init_660 : decode cX10_init 660 = .ok (.bipush 116, 2) := by decide +kernel
theorem dX10_init_662 : decode cX10_init 662 = .ok (.iastore, 1) := by decide +kernel
theorem dX10_init_663 : decode cX10_init 663 = .ok (.dup, 1) := by decide +kernel
theorem dX10_init_664 : decode cX10_init 664 = .ok (.bipush 101, 2) := by decide +kernel
theorem dX10_init_666 : decode cX10_init 666 = .ok (.bipush 32, 2) := by decide +kernel
theorem dX10_init_668 : decode cX10_init 668 = .ok (.iastore, 1) := by decide +kernel
theorem dX10_init_669 : decode cX10_init 669 = .ok (.dup, 1) := by decide +kernel
theorem dX10_init_670 : decode cX10_init 670 = .ok (.bipush 102, 2) := by decide +kernel
theorem dX10_init_672 : decode cX10_init 672 = .ok (.bipush 99, 2) := by decide +kernel
theorem dX10_init_674 : decode cX10_init 674 = .ok (.iastore, 1) := by decide +kernel
theorem dX10_init_675 : decode cX10_init 675 = .ok (.dup, 1) := by decide +kernel
theorem dX10_init_676 : decode cX10_init 676 = .ok (.bipush 103, 2) := by decide +kernel
theorem dX10_init_678 : decode cX10_init 678 = .ok (.bipush 97, 2) := by decide +kernel
theorem dX10_init_680 : decode cX10_init 680 = .ok (.iastore, 1) := by decide +kernel
theorem dX10_init_681 : decode cX10_init 681 = .ok (.dup, 1) := by decide +kernel
theorem dX10_init_682 : decode cX10_init 682 = .ok (.bipush 104, 2) := by decide +kernel
theorem dX10_init_684 : decode cX10_init 684 = .ok (.bipush 108, 2) := by decide +kernel
theorem dX10_init_686 : decode cX10_init 686 = .ok (.iastore, 1) := by decide +kernel
theorem dX10_init_687 : decode cX10_init 687 = .ok (.dup, 1) := by decide +kernel
theorem dX10_init_688 : decode cX10_init 688 = .ok (.bipush 105, 2) := by decide +kernel
theorem dX10_init_690 : decode cX10_init 690 = .ok (.bipush 109, 2) := by decide +kernel
theorem dX10_init_692 : decode cX10_init 692 = .ok (.iastore, 1) := by decide +kernel
theorem dX10_init_693 : decode cX10_init 693 = .ok (.dup, 1) := by decide +kernel
theorem dX10_init_694 : decode cX10_init 694 = .ok (.bipush 106, 2) := by decide +kernel
theorem dX10_init_696 : decode cX10_init 696 = .ok (.bipush 32, 2) := by decide +kernel
theorem dX10_init_698 : decode cX10_init 698 = .ok (.iastore, 1) := by decide +kernel
theorem dX10_init_699 : decode cX10_init 699 = .ok (.dup, 1) := by decide +kernel
theorem dX10_init_700 : decode cX10_init 700 = .ok (.bipush 107, 2) := by decide +kernel
theorem dX10_init_702 : decode cX10_init 702 = .ok (.bipush 97, 2) := by decide +kernel
theorem dX10_init_704 : decode cX10_init 704 = .ok (.iastore, 1) := by decide +kernel
theorem dX10_init_705 : decode cX10_init 705 = .ok (.dup, 1) := by decide +kernel
theorem dX10_init_706 : decode cX10_init 706 = .ok (.bipush 108, 2) := by decide +kernel
theorem dX10_init_708 : decode cX10_init 708 = .ok (.bipush 116, 2) := by decide +kernel
theorem dX10_init_710 : decode cX10_init 710 = .ok (.iastore, 1) := by decide +kernel
theorem dX10_init_711 : decode cX10_init 711 = .ok (.dup, 1) := by decide +kernel
theorem dX10_init_712 : decode cX10_init 712 = .ok (.bipush 109, 2) := by decide +kernel
theorem dX10_init_714 : decode cX10_init 714 = .ok (.bipush 32, 2) := by decide +kernel
theorem dX10_init_716 : decode cX10_init 716 = .ok (.iastore, 1) := by decide +kernel
theorem dX10_init_717 : decode cX10_init 717 = .ok (.dup, 1) := by decide +kernel
theorem dX10_init_718 : decode cX10_init 718 = .ok (.bipush 110, 2) := by decide +kernel
theorem dX10_init_720 : decode cX10_init 720 = .ok (.bipush 111, 2) := by decide +kernel
theorem dX10_init_722 : decode cX10_init 722 = .ok (.iastore, 1) := by decide +kernel
theorem dX10_init_723 : decode cX10_init 723 = .ok (.dup, 1) := by decide +kernel
theorem dX10_init_724 : decode cX10_init 724 = .ok (.bipush 111, 2) := by decide +kernel
theorem dX10_init_726 : decode cX10_init 726 = .ok (.bipush 110, 2) := by decide +kernel
theorem dX10_init_728 : decode cX10_init 728 = .ok (.iastore, 1) := by decide +kernel
theorem dX10_init_729 : decode cX10_init 729 = .ok (.dup, 1) := by decide +kernel
theorem dX10_init_730 : decode cX10_init 730 = .ok (.bipush 112, 2) := by decide +kernel
theorem dX10_init_732 : decode cX10_init 732 = .ok (.bipush 32, 2) := by decide +kernel
theorem dX10_init_734 : decode cX10_init 734 = .ok (.iastore, 1) := by decide +kernel
theorem dX10_init_735 : decode cX10_init 735 = .ok (.dup, 1) := by decide +kernel
theorem dX10_init_736 : decode cX10_init 736 = .ok (.bipush 113, 2) := by decide +kernel
theorem dX10_init_738 : decode cX10_init 738 = .ok (.bipush 119, 2) := by decide +kernel
theorem dX10_init_740 : decode cX10_init 740 = .ok (.iastore, 1) := by decide +kernel
theorem dX10_init_741 : decode cX10_init 741 = .ok (.dup, 1) := by decide +kernel
theorem dX10_init_742 : decode cX10_init 742 = .ok (.bipush 114, 2) := by decide +kernel
theorem dX10_init_744 : decode cX10_init 744 = .ok (.bipush 111, 2) := by decide +kernel
theorem dX10_init_746 : decode cX10_init 746 = .ok (.iastore, 1) := by decide +kernel
theorem dX10_init_747 : decode cX10_init 747 = .ok (.dup, 1) := by decide +kernel
theorem dX10_init_748 : decode cX10_init 748 = .ok (.bipush 115, 2) := by decide +kernel
theorem dX10_init_750 : decode cX10_init 750 = .ok (.bipush 114, 2) := by decide +kernel
theorem dX10_init_752 : decode cX10_init 752 = .ok (.iastore, 1) := by decide +kernel
theorem dX10_init_753 : decode cX10_init 753 = .ok (.dup, 1) := by decide +kernel
theorem dX10_init_754 : decode cX10_init 754 = .ok (.bipush 116, 2) := by decide +kernel
theorem dX10_init_756 : decode cX10_init 756 = .ok (.bipush 116, 2) := by decide +kernel
theorem dX10_init_758 : decode cX10_init 758 = .ok (.iastore, 1) := by decide +kernel
theorem dX10_init_759 : decode cX10_init 759 = .ok (.dup, 1) := by decide +kernel
theorem dX10_init_760 : decode cX10_init 760 = .ok (.bipush 117, 2) := by decide +kernel
theorem dX10_init_762 : decode cX10_init 762 = .ok (.bipush 104, 2) := by decide +kernel
theorem dX10_init_764 : decode cX10_init 764 = .ok (.iastore, 1) := by decide +kernel
theorem dX10_init_765 : decode cX10_init 765 = .ok (.dup, 1) := by decide +kernel
theorem dX10_init_766 : decode cX10_init 766 = .ok (.bipush 118, 2) := by decide +kernel
theorem dX10_init_768 : decode cX10_init 768 = .ok (.bipush 32, 2) := by decide +kernel
theorem dX10_init_770 : decode cX10_init 770 = .ok (.iastore, 1) := by decide +kernel
theorem dX10_init_771 : decode cX10_init 771 = .ok (.dup, 1) := by decide +kernel
theorem dX10_init_772 : decode cX10_init 772 = .ok (.bipush 119, 2) := by decide +kernel
theorem dX10_init_774 : decode cX10_init 774 = .ok (.bipush 115, 2) := by decide +kernel
theorem dX10_init_776 : decode cX10_init 776 = .ok (.iastore, 1) := by decide +kernel
theorem dX10_init_777 : decode cX10_init 777 = .ok (.dup, 1) := by decide +kernel
theorem dX10_init_778 : decode cX10_init 778 = .ok (.bipush 120, 2) := by decide +kernel
theorem dX10_init_780 : decode cX10_init 780 = .ok (.bipush 111, 2) := by decide +kernel
theorem dX10_init_782 : decode cX10_init 782 = .ok (.iastore, 1) := by decide +kernel
theorem dX10_init_783 : decode cX10_init 783 = .ok (.dup, 1) := by decide +kernel
theorem dX10_init_784 : decode cX10_init 784 = .ok (.bipush 121, 2) := by decide +kernel
theorem dX10_init_786 : decode cX10_init 786 = .ok (.bipush 119, 2) := by decide +kernel
theorem dX10_init_788 : decode cX10_init 788 = .ok (.iastore, 1) := by decide +kernel
theorem dX10_init_789 : decode cX10_init 789 = .ok (.dup, 1) := by decide +kernel
theorem dX10_init_790 : decode cX10_init 790 = .ok (.bipush 122, 2) := by decide +kernel
theorem dX10_init_792 : decode cX10_init 792 = .ok (.bipush 32, 2) := by decide +kernel
theorem dX10_init_794 : decode cX10_init 794 = .ok (.iastore, 1) := by decide +kernel
theorem dX10_init_795 : decode cX10_init 795 = .ok (.dup, 1) := by decide +kernel
theorem dX10_init_796 : decode cX10_init 796 = .ok (.bipush 123, 2) := by decide +kernel
theorem dX10_init_798 : decode cX10_init 798 = .ok (.bipush 119, 2) := by decide +kernel
theorem dX10_init_800 : decode cX10_init 800 = .ok (.iastore, 1) := by decide +kernel
theorem dX10_init_801 : decode cX10_init 801 = .ok (.dup, 1) := by decide +kernel
theorem dX10_init_802 : decode cX10_init 802 = .ok (.bipush 124, 2) := by decide +kernel
theorem dX10_init_804 : decode cX10_init 804 = .ok (.bipush 101, 2) := by decide +kernel
theorem dX10_init_806 : decode cX10_init 806 = .ok (.iastore, 1) := by decide +kernel
theorem dX10_init_807 : decode cX10_init 807 = .ok (.dup, 1) := by decide +kernel
theorem dX10_init_808 : decode cX10_init 808 = .ok (.bipush 125, 2) := by decide +kernel
theorem dX10_init_810 : decode cX10_init 810 = .ok (.bipush 101, 2) := by decide +kernel
theorem dX10_init_812 : decode cX10_init 812 = .ok (.iastore, 1) := by decide +kernel
theorem dX10_init_813 : decode cX10_init 813 = .ok (.dup, 1) := by decide +kernel
theorem dX10_init_814 : decode cX10_init 814 = .ok (.bipush 126, 2) := by decide +kernel
theorem dX10_init_816 : decode cX10_init 816 = .ok (.bipush 100, 2) := by decide +kernel
theorem dX10_init_818 : decode cX10_init 818 = .ok (.iastore, 1) := by decide +kernel
theorem dX10_init_819 : decode cX10_init 819 = .ok (.dup, 1) := by decide +kernel
theorem dX10_init_820 : decode cX10_init 820 = .ok (.bipush 127, 2) := by decide +kernel
theorem dX10_init_822 : decode cX10_init 822 = .ok (.bipush 32, 2) := by decide +kernel
theorem dX10_init_824 : decode cX10_init 824 = .ok (.iastore, 1) := by decide +kernel
theorem dX10_init_825 : decode cX10_init 825 = .ok (.dup, 1) := by decide +kernel
theorem dX10_init_826 : decode cX10_init 826 = .ok (.sipush 128, 3) := by decide +kernel
theorem dX10_init_829 : decode cX10_init 829 = .ok (.bipush 110, 2) := by decide +kernel
theorem dX10_init_831 : decode cX10_init 831 = .ok (.iastore, 1) := by decide +kernel
theorem dX10_init_832 : decode cX10_init 832 = .ok (.dup, 1) := by decide +kernel
theorem dX10_init_833 : decode cX10_init 833 = .ok (.sipush 129, 3) := by decide +kernel
theorem dX10_init_836 : decode cX10_init 836 = .ok (.bipush 111, 2) := by decide +kernel
theorem dX10_init_838 : decode cX10_init 838 = .ok (.iastore, 1) := by decide +kernel
theorem dX10_init_839 : decode cX10_init 839 = .ok (.dup, 1) := by decide +kernel
theorem dX10_init_840 : decode cX10_init 840 = .ok (.sipush 130, 3) := by decide +kernel
theorem dX10_init_843 : decode cX10_init 843 = .ok (.bipush 114, 2) := by decide +kernel
theorem dX10_init_845 : decode cX10_init 845 = .ok (.iastore, 1) := by decide +kernel
theorem dX10_init_846 : decode cX10_init 846 = .ok (.dup, 1) := by decide +kernel
theorem dX10_init_847 : decode cX10_init 847 = .ok (.sipush 131, 3) := by decide +kernel
theorem dX10_init_850 : decode cX10_init 850 = .ok (.bipush 116, 2) := by decide +kernel
theorem dX10_init_852 : decode cX10_init 852 = .ok (.iastore, 1) := by decide +kernel
theorem dX10_init_853 : decode cX10_init 853 = .ok (.dup, 1) := by decide +kernel
theorem dX10_init_854 : decode cX10_init 854 = .ok (.sipush 132, 3) := by decide +kernel
theorem dX10_init_857 : decode cX10_init 857 = .ok (.bipush 104, 2) := by decide +kernel
theorem dX10_init_859 : decode cX10_init 859 = .ok (.iastore, 1) := by decide +kernel
theorem dX10_init_860 : decode cX10_init 860 = .ok (.dup, 1) := by decide +kernel
theorem dX10_init_861 : decode cX10_init 861 = .ok (.sipush 133, 3) := by decide +kernel
theorem dX10_init_864 : decode cX10_init 864 = .ok (.bipush 32, 2) := by decide +kernel
theorem dX10_init_866 : decode cX10_init 866 = .ok (.iastore, 1) := by decide +kernel
theorem dX10_init_867 : decode cX10_init 867 = .ok (.dup, 1) := by decide +kernel
theorem dX10_init_868 : decode cX10_init 868 = .ok (.sipush 134, 3) := by decide +kernel
theorem dX10_init_871 : decode cX10_init 871 = .ok (.bipush 101, 2) := by decide +kernel
theorem dX10_init_873 : decode cX10_init 873 = .ok (.iastore, 1) := by decide +kernel
theorem dX10_init_874 : decode cX10_init 874 = .ok (.dup, 1) := by decide +kernel
theorem dX10_init_875 : decode cX10_init 875 = .ok (.sipush 135, 3) := by decide +kernel
theorem dX10_init_878 : decode cX10_init 878 = .ok (.bipush 97, 2) := by decide +kernel
theorem dX10_init_880 : decode cX10_init 880 = .ok (.iastore, 1) := by decide +kernel
theorem dX10_init_881 : decode cX10_init 881 = .ok (.dup, 1) := by decide +kernel
theorem dX10_init_882 : decode cX10_init 882 = .ok (.sipush 136, 3) := by decide +kernel
theorem dX10_init_885 : decode cX10_init 885 = .ok (.bipush 115, 2) := by decide +kernel
theorem dX10_init_887 : decode cX10_init 887 = .ok (.iastore, 1) := by decide +kernel
theorem dX10_init_888 : decode cX10_init 888 = .ok (.dup, 1) := by decide +kernel
theorem dX10_init_889 : decode cX10_init 889 = .ok (.sipush 137, 3) := by decide +kernel
theorem dX10_init_892 : decode cX10_init 892 = .ok (.bipush 116, 2) := by decide +kernel
theorem dX10_init_894 : decode cX10_init 894 = .ok (.iastore, 1) := by decide +kernel
theorem dX10_init_895 : decode cX10_init 895 = .ok (.dup, 1) := by decide +kernel
theorem dX10_init_896 : decode cX10_init 896 = .ok (.sipush 138, 3) := by decide +kernel
theorem dX10_init_899 : decode cX10_init 899 = .ok (.bipush 32, 2) := by decide +kernel
theorem dX10_init_901 : decode cX10_init 901 = .ok (.iastore, 1) := by decide +kernel
theorem dX10_init_902 : decode cX10_init 902 = .ok (.dup, 1) := by decide +kernel
theorem dX10_init_903 : decode cX10_init 903 = .ok (.sipush 139, 3) := by decide +kernel
theorem dX10_init_906 : decode cX10_init 906 = .ok (.bipush 115, 2) := by decide +kernel
theorem dX10_init_908 : decode cX10_init 908 = .ok (.iastore, 1) := by decide +kernel
theorem dX10_init_909 : decode cX10_init 909 = .ok (.dup, 1) := by decide +kernel
theorem dX10_init_910 : decode cX10_init 910 = .ok (.sipush 140, 3) := by decide +kernel
theorem dX10_init_913 : decode cX10_init 913 = .ok (.bipush 111, 2) := by decide +kernel
theorem dX10_init_915 : decode cX10_init 915 = .ok (.iastore, 1) := by decide +kernel
theorem dX10_init_916 : decode cX10_init 916 = .ok (.dup, 1) := by decide +kernel
theorem dX10_init_917 : decode cX10_init 917 = .ok (.sipush 141, 3) := by decide +kernel
theorem dX10_init_920 : decode cX10_init 920 = .ok (.bipush 117, 2) := by decide +kernel
theorem dX10_init_922 : decode cX10_init 922 = .ok (.iastore, 1) := by decide +kernel
theorem dX10_init_923 : decode cX10_init 923 = .ok (.dup, 1) := by decide +kernel
theorem dX10_init_924 : decode cX10_init 924 = .ok (.sipush 142, 3) := by decide +kernel
theorem dX10_init_927 : decode cX10_init 927 = .ok (.bipush 116, 2) := by decide +kernel
theorem dX10_init_929 : decode cX10_init 929 = .ok (.iastore, 1) := by decide +kernel
theorem dX10_init_930 : decode cX10_init 930 = .ok (.dup, 1) := by decide +kernel
theorem dX10_init_931 : decode cX10_init 931 = .ok (.sipush 143, 3) := by decide +kernel
theorem dX10_init_934 : decode cX10_init 934 = .ok (.bipush 104, 2) := by decide +kernel
theorem dX10_init_936 : decode cX10_init 936 = .ok (.iastore, 1) := by decide +kernel
theorem dX10_init_937 : decode cX10_init 937 = .ok (.dup, 1) := by decide +kernel
theorem dX10_init_938 : decode cX10_init 938 = .ok (.sipush 144, 3) := by decide +kernel
theorem dX10_init_941 : decode cX10_init 941 = .ok (.bipush 32, 2) := by decide +kernel
theorem dX10_init_943 : decode cX10_init 943 = .ok (.iastore, 1) := by decide +kernel
theorem dX10_init_944 : decode cX10_init 944 = .ok (.dup, 1) := by decide +kernel
theorem dX10_init_945 : decode cX10_init 945 = .ok (.sipush 145, 3) := by decide +kernel
theorem dX10_init_948 : decode cX10_init 948 = .ok (.bipush 119, 2) := by decide +kernel
theorem dX10_init_950 : decode cX10_init 950 = .ok (.iastore, 1) := by decide +kernel
theorem dX10_init_951 : decode cX10_init 951 = .ok (.dup, 1) := by decide +kernel
theorem dX10_init_952 : decode cX10_init 952 = .ok (.sipush 146, 3) := by decide +kernel
theorem dX10_init_955 : decode cX10_init 955 = .ok (.bipush 101, 2) := by decide +kernel
theorem dX10_init_957 : decode cX10_init 957 = .ok (.iastore, 1) := by decide +kernel
theorem dX10_init_958 : decode cX10_init 958 = .ok (.dup, 1) := by decide +kernel
theorem dX10_init_959 : decode cX10_init 959 = .ok (.sipush 147, 3) := by decide +kernel
theorem dX10_init_962 : decode cX10_init 962 = .ok (.bipush 115, 2) := by decide +kernel
theorem dX10_init_964 : decode cX10_init 964 = .ok (.iastore, 1) := by decide +kernel
theorem dX10_init_965 : decode cX10_init 965 = .ok (.dup, 1) := by decide +kernel
theorem dX10_init_966 : decode cX10_init 966 = .ok (.sipush 148, 3) := by decide +kernel
theorem dX10_init_969 : decode cX10_init 969 = .ok (.bipush 116, 2) := by decide +kernel
theorem dX10_init_971 : decode cX10_init 971 = .ok (.iastore, 1) := by decide +kernel
theorem dX10_init_972 : decode cX10_init 972 = .ok (.dup, 1) := by decide +kernel
theorem dX10_init_973 : decode cX10_init 973 = .ok (.sipush 149, 3) := by decide +kernel
theorem dX10_init_976 : decode cX10_init 976 = .ok (.bipush 32, 2) := by decide +kernel
theorem dX10_init_978 : decode cX10_init 978 = .ok (.iastore, 1) := by decide +kernel
theorem dX10_init_979 : decode cX10_init 979 = .ok (.putfield 28, 3) := by decide +kernel
theorem dX10_init_982 : decode cX10_init 982 = .ok (.aload_n 0, 1) := by decide +kernel
theorem dX10_init_983 : decode cX10_init 983 = .ok (.iconst 2, 1) := by decide +kernel
theorem dX10_init_984 : decode cX10_init 984 = .ok (.newarray .int, 2) := by decide +kernel
theorem dX10_init_986 : decode cX10_init 986 = .ok (.putfield 31, 3) := by decide +kernel
theorem dX10_init_989 : decode cX10_init 989 = .ok (.aload_n 0, 1) := by decide +kernel
theorem dX10_init_990 : decode cX10_init 990 = .ok (.bipush 48, 2) := by decide +kernel
theorem dX10_init_992 : decode cX10_init 992 = .ok (.newarray .int, 2) := by decide +kernel
theorem dX10_init_994 : decode cX10_init 994 = .ok (.putfield 34, 3) := by decide +kernel
theorem dX10_init_997 : decode cX10_init 997 = .ok (.aload_n 0, 1) := by decide +kernel
theorem dX10_init_998 : decode cX10_init 998 = .ok (.bipush 48, 2) := by decide +kernel
theorem dX10_init_1000 : decode cX10_init 1000 = .ok (.newarray .int, 2) := by decide +kernel
theorem dX10_init_1002 : decode cX10_init 1002 = .ok (.putfield 37, 3) := by decide +kernel
theorem dX10_init_1005 : decode cX10_init 1005 = .ok (.aload_n 0, 1) := by decide +kernel
theorem dX10_init_1006 : decode cX10_init 1006 = .ok (.bipush 48, 2) := by decide +kernel
theorem dX10_init_1008 : decode cX10_init 1008 = .ok (.newarray .int, 2) := by decide +kernel
theorem dX10_init_1010 : decode cX10_init 1010 = .ok (.putfield 40, 3) := by decide +kernel
theorem dX10_init_1013 : decode cX10_init 1013 = .ok (.aload_n 0, 1) := by decide +kernel
theorem dX10_init_1014 : decode cX10_init 1014 = .ok (.bipush 48, 2) := by decide +kernel
theorem dX10_init_1016 : decode cX10_init 1016 = .ok (.newarray .int, 2) := by decide +kernel
theorem dX10_init_1018 : decode cX10_init 1018 = .ok (.putfield 43, 3) := by decide +kernel
theorem dX10_init_1021 : decode cX10_init 1021 = .ok (.aload_n 0, 1) := by decide +kernel
theorem dX10_init_1022 : decode cX10_init 1022 = .ok (.sipush 1200, 3) := by decide +kernel
theorem dX10_init_1025 : decode cX10_init 1025 = .ok (.newarray .int, 2) := by decide +kernel
theorem dX10_init_1027 : decode cX10_init 1027 = .ok (.putfield 46, 3) := by decide +kernel
theorem dX10_init_1030 : decode cX10_init 1030 = .ok (.aload_n 0, 1) := by decide +kernel
theorem dX10_init_1031 : decode cX10_init 1031 = .ok (.sipush 1200, 3) := by decide +kernel
theorem dX10_init_1034 : decode cX10_init 1034 = .ok (.newarray .int, 2) := by decide +kernel
theorem dX10_init_1036 : decode cX10_init 1036 = .ok (.putfield 49, 3) := by decide +kernel
theorem dX10_init_1039 : decode cX10_init 1039 = .ok (.aload_n 0, 1) := by decide +kernel
theorem dX10_init_1040 : decode cX10_init 1040 = .ok (.bipush 40, 2) := by decide +kernel
theorem dX10_init_1042 : decode cX10_init 1042 = .ok (.newarray .int, 2) := by decide +kernel
theorem dX10_init_1044 : decode cX10_init 1044 = .ok (.putfield 52, 3) := by decide +kernel
theorem dX10_init_1047 : decode cX10_init 1047 = .ok (.aload_n 0, 1) := by decide +kernel
theorem dX10_init_1048 : decode cX10_init 1048 = .ok (.iconst (-1), 1) := by decide +kernel
theorem dX10_init_1049 : decode cX10_init 1049 = .ok (.putfield 55, 3) := by decide +kernel
theorem dX10_init_1052 : decode cX10_init 1052 = .ok (.aload_n 0, 1) := by decide +kernel
theorem dX10_init_1053 : decode cX10_init 1053 = .ok (.bipush 48, 2) := by decide +kernel
theorem dX10_init_1055 : decode cX10_init 1055 = .ok (.newarray .int, 2) := by decide +kernel
theorem dX10_init_1057 : decode cX10_init 1057 = .ok (.putfield 59, 3) := by decide +kernel
theorem dX10_init_1060 : decode cX10_init 1060 = .ok (.aload_n 0, 1) := by decide +kernel
theorem dX10_init_1061 : decode cX10_init 1061 = .ok (.bipush 60, 2) := by decide +kernel
theorem dX10_init_1063 : decode cX10_init 1063 = .ok (.newarray .int, 2) := by decide +kernel
theorem dX10_init_1065 : decode cX10_init 1065 = .ok (.putfield 62, 3) := by decide +kernel
theorem dX10_init_1068 : decode cX10_init 1068 = .ok (.aload_n 0, 1) := by decide +kernel
theorem dX10_init_1069 : decode cX10_init 1069 = .ok (.bipush 80, 2) := by decide +kernel
theorem dX10_init_1071 : decode cX10_init 1071 = .ok (.newarray .int, 2) := by decide +kernel
theorem dX10_init_1073 : decode cX10_init 1073 = .ok (.putfield 65, 3) := by decide +kernel
theorem dX10_init_1076 : decode cX10_init 1076 = .ok (.aload_n 0, 1) := by decide +kernel
theorem dX10_init_1077 : decode cX10_init 1077 = .ok (.sipush 128, 3) := by decide +kernel
theorem dX10_init_1080 : decode cX10_init 1080 = .ok (.newarray .int, 2) := by decide +kernel
theorem dX10_init_1082 : decode cX10_init 1082 = .ok (.putfield 68, 3) := by decide +kernel
theorem dX10_init_1085 : decode cX10_init 1085 = .ok (.aload_n 0, 1) := by decide +kernel
theorem dX10_init_1086 : decode cX10_init 1086 = .ok (.bipush 8, 2) := by decide +kernel
theorem dX10_init_1088 : decode cX10_init 1088 = .ok (.newarray .int, 2) := by decide +kernel
theorem dX10_init_1090 : decode cX10_init 1090 = .ok (.putfield 71, 3) := by decide +kernel
theorem dX10_init_1093 : decode cX10_init 1093 = .ok (.aload_n 0, 1) := by decide +kernel
theorem dX10_init_1094 : decode cX10_init 1094 = .ok (.sipush 420, 3) := by decide +kernel
theorem dX10_init_1097 : decode cX10_init 1097 = .ok (.newarray .int, 2) := by decide +kernel
theorem dX10_init_1099 : decode cX10_init 1099 = .ok (.putfield 74, 3) := by decide +kernel
theorem dX10_init_1102 : decode cX10_init 1102 = .ok (.aload_n 0, 1) := by decide +kernel
theorem dX10_init_1103 : decode cX10_init 1103 = .ok (.bipush 10, 2) := by decide +kernel
theorem dX10_init_1105 : decode cX10_init 1105 = .ok (.newarray .int, 2) := by decide +kernel
theorem dX10_init_1107 : decode cX10_init 1107 = .ok (.putfield 77, 3) := by decide +kernel
theorem dX10_init_1110 : decode cX10_init 1110 = .ok (.aload_n 0, 1) := by decide +kernel
theorem dX10_init_1111 : decode cX10_init 1111 = .ok (.sipush 2300, 3) := by decide +kernel
theorem dX10_init_1114 : decode cX10_init 1114 = .ok (.newarray .int, 2) := by decide +kernel
theorem dX10_init_1116 : decode cX10_init 1116 = .ok (.putfield 80, 3) := by decide +kernel
theorem dX10_init_1119 : decode cX10_init 1119 = .ok (.return_, 1) := by decide +kernel
def wX10_init (cA cL : ClassId) (a : Nat) (u : Nat → Nat) : va_W := [(a, .inr (10, [.int 0, .ref (u 0), .ref (u 1), .int 0, .ref (u 2), .int 0, .int 0, .int 0, .int 0, .ref (u 3), .ref (u 4), .ref (u 5), .int 0, .int 0, .int 0, .int 0, .int 0, .ref (u 6), .ref (u 7), .ref (u 8), .ref (u 9), .ref (u 10), .ref (u 11), .ref (u 12), .ref (u 13), .int 0, .int 0, .int 0, .ref (u 14), .int 0, .int 0, .int 0, .int 0, .int (-1 : Int32), .int 0, .ref (u 15), .int 0, .ref (u 16), .int 0, .int 0, .int 0, .ref (u 17), .int 0, .ref (u 18), .ref (u 19), .ref (u 20), .int 0, .ref (u 21), .int 0, .int 0, .int 0, .int 0, .int 0, .ref (u 22)]))] ++ [((u 0), .inl (cA, 389, .inl (fun _ => 0)))] ++ [((u 1), .inl (cA, 2334, .inl (fun _ => 0)))] ++ [((u 2), .inl (cA, 389, .inl (fun _ => 0)))] ++ [((u 3), .inl (cA, 64, .inl (fun _ => 0)))] ++ [((u 4), .inl (cA, 600, .inl (fun _ => 0)))] ++ [((u 5), .inl (cA, 400, .inl (fun _ => 0)))] ++ [((u 6), .inl (cA, 150, .inl (wf 150)))] ++ [((u 7), .inl (cA, 2, .inl (fun _ => 0)))] ++ [((u 8), .inl (cA, 48, .inl (fun _ => 0)))] ++ [((u 9), .inl (cA, 48, .inl (fun _ => 0)))] ++ [((u 10), .inl (cA, 48, .inl (fun _ => 0)))] ++ [((u 11), .inl (cA, 48, .inl (fun _ => 0)))] ++ [((u 12), .inl (cA, 1200, .inl (fun _ => 0)))] ++ [((u 13), .inl (cA, 1200, .inl (fun _ => 0)))] ++ [((u 14), .inl (cA, 40, .inl (fun _ => 0)))] ++ [((u 15), .inl (cA, 48, .inl (fun _ => 0)))] ++ [((u 16), .inl (cA, 60, .inl (fun _ => 0)))] ++ [((u 17), .inl (cA, 80, .inl (fun _ => 0)))] ++ [((u 18), .inl (cA, 128, .inl (fun _ => 0)))] ++ [((u 19), .inl (cA, 8, .inl (fun _ => 0)))] ++ [((u 20), .inl (cA, 420, .inl (fun _ => 0)))] ++ [((u 21), .inl (cA, 10, .inl (fun _ => 0)))] ++ [((u 22), .inl (cA, 2300, .inl (fun _ => 0)))]
set_option maxRecDepth 100000 in
set_option maxHeartbeats 8000000 in
theorem k_X10_init (l : Launch) (D : va_G) (cA cL : ClassId) (a : Nat) : MC l yX10_init cX10_init 1 D cA cL 2 23 10014 [(a, .inr (10, [.int 0, .null, .null, .int 0, .null, .int 0, .int 0, .int 0, .int 0, .null, .null, .null, .int 0, .int 0, .int 0, .int 0, .int 0, .null, .null, .null, .null, .null, .null, .null, .null, .int 0, .int 0, .int 0, .null, .int 0, .int 0, .int 0, .int 0, .int 0, .int 0, .null, .int 0, .null, .int 0, .int 0, .int 0, .null, .int 0, .null, .null, .null, .int 0, .null, .int 0, .int 0, .int 0, .int 0, .int 0, .null]))] [.ref a] (wX10_init cA cL a) := by
  refine met_c (by decide) rfl (Nat.le_of_ble_eq_true rfl) ?_
  intro p e st m args below meth c Q A X RI
  refine h_aload_n X dX10_init_0 (q := 1) rfl 0 rfl ?_
  refine h_objInit X dX10_init_1 (q := 4) rfl (gt_of 1283 (by decide +kernel) rfl) ⟨(Nat.le_of_ble_eq_true rfl), (Nat.le_of_ble_eq_true rfl)⟩ (Nat.le_of_ble_eq_true rfl) ?_
  refine h_aload_n X dX10_init_4 (q := 5) rfl 0 rfl ?_
  refine h_sipush X dX10_init_5 (q := 8) rfl li_s389 ?_
  refine h_newa X (by decide) (N := 389) (by decide) (Nat.le_of_ble_eq_true rfl) (Nat.le_of_ble_eq_true rfl) (Nat.le_of_ble_eq_true rfl) (ce2 := 1) (sl2 := 389) rfl rfl dX10_init_8 (q := 10) rfl (fun q1 => ?_)
  refine h_putF X 0 10 rfl rfl inX10 1 (Nat.le_of_ble_eq_true rfl) rfl (gt_of 1285 (by decide +kernel) rfl) tyX10 tyX10_ok nmX10 rfl rfl (ty := (.array .int)) rfl rfl rfl (Nat.le_of_ble_eq_true rfl) (ws' := [(a, .inr (10, [.int 0, .ref q1, .null, .int 0, .null, .int 0, .int 0, .int 0, .int 0, .null, .null, .null, .int 0, .int 0, .int 0, .int 0, .int 0, .null, .null, .null, .null, .null, .null, .null, .null, .int 0, .int 0, .int 0, .null, .int 0, .int 0, .int 0, .int 0, .int 0, .int 0, .null, .int 0, .null, .int 0, .int 0, .int 0, .null, .int 0, .null, .null, .null, .int 0, .null, .int 0, .int 0, .int 0, .int 0, .int 0, .null]))] ++ [(q1, .inl (cA, 389, .inl (fun _ => 0)))]) rfl dX10_init_10 (q := 13) rfl ?_
  refine h_aload_n X dX10_init_13 (q := 14) rfl 0 rfl ?_
  refine h_sipush X dX10_init_14 (q := 17) rfl li_s2334 ?_
  refine h_newa X (by decide) (N := 2334) (by decide) (Nat.le_of_ble_eq_true rfl) (Nat.le_of_ble_eq_true rfl) (Nat.le_of_ble_eq_true rfl) (ce2 := 2) (sl2 := 2723) rfl rfl dX10_init_17 (q := 19) rfl (fun q2 => ?_)
  refine h_putF X 0 10 rfl rfl inX10 2 (Nat.le_of_ble_eq_true rfl) rfl (gt_of 1286 (by decide +kernel) rfl) tyX10 tyX10_ok nmX10 rfl rfl (ty := (.array .int)) rfl rfl rfl (Nat.le_of_ble_eq_true rfl) (ws' := [(a, .inr (10, [.int 0, .ref q1, .ref q2, .int 0, .null, .int 0, .int 0, .int 0, .int 0, .null, .null, .null, .int 0, .int 0, .int 0, .int 0, .int 0, .null, .null, .null, .null, .null, .null, .null, .null, .int 0, .int 0, .int 0, .null, .int 0, .int 0, .int 0, .int 0, .int 0, .int 0, .null, .int 0, .null, .int 0, .int 0, .int 0, .null, .int 0, .null, .null, .null, .int 0, .null, .int 0, .int 0, .int 0, .int 0, .int 0, .null]))] ++ [(q1, .inl (cA, 389, .inl (fun _ => 0)))] ++ [(q2, .inl (cA, 2334, .inl (fun _ => 0)))]) rfl dX10_init_19 (q := 22) rfl ?_
  refine h_aload_n X dX10_init_22 (q := 23) rfl 0 rfl ?_
  refine h_sipush X dX10_init_23 (q := 26) rfl li_s389 ?_
  refine h_newa X (by decide) (N := 389) (by decide) (Nat.le_of_ble_eq_true rfl) (Nat.le_of_ble_eq_true rfl) (Nat.le_of_ble_eq_true rfl) (ce2 := 3) (sl2 := 3112) rfl rfl dX10_init_26 (q := 28) rfl (fun q3 => ?_)
  refine h_putF X 0 10 rfl rfl inX10 4 (Nat.le_of_ble_eq_true rfl) rfl (gt_of 1288 (by decide +kernel) rfl) tyX10 tyX10_ok nmX10 rfl rfl (ty := (.array .int)) rfl rfl rfl (Nat.le_of_ble_eq_true rfl) (ws' := [(a, .inr (10, [.int 0, .ref q1, .ref q2, .int 0, .ref q3, .int 0, .int 0, .int 0, .int 0, .null, .null, .null, .int 0, .int 0, .int 0, .int 0, .int 0, .null, .null, .null, .null, .null, .null, .null, .null, .int 0, .int 0, .int 0, .null, .int 0, .int 0, .int 0, .int 0, .int 0, .int 0, .null, .int 0, .null, .int 0, .int 0, .int 0, .null, .int 0, .null, .null, .null, .int 0, .null, .int 0, .int 0, .int 0, .int 0, .int 0, .null]))] ++ [(q1, .inl (cA, 389, .inl (fun _ => 0)))] ++ [(q2, .inl (cA, 2334, .inl (fun _ => 0)))] ++ [(q3, .inl (cA, 389, .inl (fun _ => 0)))]) rfl dX10_init_28 (q := 31) rfl ?_
  refine h_aload_n X dX10_init_31 (q := 32) rfl 0 rfl ?_
  refine h_bipush X dX10_init_32 (q := 34) rfl li_b64 ?_
  refine h_newa X (by decide) (N := 64) (by decide) (Nat.le_of_ble_eq_true rfl) (Nat.le_of_ble_eq_true rfl) (Nat.le_of_ble_eq_true rfl) (ce2 := 4) (sl2 := 3176) rfl rfl dX10_init_34 (q := 36) rfl (fun q4 => ?_)
  refine h_putF X 0 10 rfl rfl inX10 9 (Nat.le_of_ble_eq_true rfl) rfl (gt_of 1293 (by decide +kernel) rfl) tyX10 tyX10_ok nmX10 rfl rfl (ty := (.array .int)) rfl rfl rfl (Nat.le_of_ble_eq_true rfl) (ws' := [(a, .inr (10, [.int 0, .ref q1, .ref q2, .int 0, .ref q3, .int 0, .int 0, .int 0, .int 0, .ref q4, .null, .null, .int 0, .int 0, .int 0, .int 0, .int 0, .null, .null, .null, .null, .null, .null, .null, .null, .int 0, .int 0, .int 0, .null, .int 0, .int 0, .int 0, .int 0, .int 0, .int 0, .null, .int 0, .null, .int 0, .int 0, .int 0, .null, .int 0, .null, .null, .null, .int 0, .null, .int 0, .int 0, .int 0, .int 0, .int 0, .null]))] ++ [(q1, .inl (cA, 389, .inl (fun _ => 0)))] ++ [(q2, .inl (cA, 2334, .inl (fun _ => 0)))] ++ [(q3, .inl (cA, 389, .inl (fun _ => 0)))] ++ [(q4, .inl (cA, 64, .inl (fun _ => 0)))]) rfl dX10_init_36 (q := 39) rfl ?_
  refine h_aload_n X dX10_init_39 (q := 40) rfl 0 rfl ?_
  refine h_sipush X dX10_init_40 (q := 43) rfl li_s600 ?_
  refine h_newa X (by decide) (N := 600) (by decide) (Nat.le_of_ble_eq_true rfl) (Nat.le_of_ble_eq_true rfl) (Nat.le_of_ble_eq_true rfl) (ce2 := 5) (sl2 := 3776) rfl rfl dX10_init_43 (q := 45) rfl (fun q5 => ?_)
  refine h_putF X 0 10 rfl rfl inX10 10 (Nat.le_of_ble_eq_true rfl) rfl (gt_of 1294 (by decide +kernel) rfl) tyX10 tyX10_ok nmX10 rfl rfl (ty := (.array .int)) rfl rfl rfl (Nat.le_of_ble_eq_true rfl) (ws' := [(a, .inr (10, [.int 0, .ref q1, .ref q2, .int 0, .ref q3, .int 0, .int 0, .int 0, .int 0, .ref q4, .ref q5, .null, .int 0, .int 0, .int 0, .int 0, .int 0, .null, .null, .null, .null, .null, .null, .null, .null, .int 0, .int 0, .int 0, .null, .int 0, .int 0, .int 0, .int 0, .int 0, .int 0, .null, .int 0, .null, .int 0, .int 0, .int 0, .null, .int 0, .null, .null, .null, .int 0, .null, .int 0, .int 0, .int 0, .int 0, .int 0, .null]))] ++ [(q1, .inl (cA, 389, .inl (fun _ => 0)))] ++ [(q2, .inl (cA, 2334, .inl (fun _ => 0)))] ++ [(q3, .inl (cA, 389, .inl (fun _ => 0)))] ++ [(q4, .inl (cA, 64, .inl (fun _ => 0)))] ++ [(q5, .inl (cA, 600, .inl (fun _ => 0)))]) rfl dX10_init_45 (q := 48) rfl ?_
  refine h_aload_n X dX10_init_48 (q := 49) rfl 0 rfl ?_
  refine h_sipush X dX10_init_49 (q := 52) rfl li_s400 ?_
  refine h_newa X (by decide) (N := 400) (by decide) (Nat.le_of_ble_eq_true rfl) (Nat.le_of_ble_eq_true rfl) (Nat.le_of_ble_eq_true rfl) (ce2 := 6) (sl2 := 4176) rfl rfl dX10_init_52 (q := 54) rfl (fun q6 => ?_)
  refine h_putF X 0 10 rfl rfl inX10 11 (Nat.le_of_ble_eq_true rfl) rfl (gt_of 1295 (by decide +kernel) rfl) tyX10 tyX10_ok nmX10 rfl rfl (ty := (.array .int)) rfl rfl rfl (Nat.le_of_ble_eq_true rfl) (ws' := [(a, .inr (10, [.int 0, .ref q1, .ref q2, .int 0, .ref q3, .int 0, .int 0, .int 0, .int 0, .ref q4, .ref q5, .ref q6, .int 0, .int 0, .int 0, .int 0, .int 0, .null, .null, .null, .null, .null, .null, .null, .null, .int 0, .int 0, .int 0, .null, .int 0, .int 0, .int 0, .int 0, .int 0, .int 0, .null, .int 0, .null, .int 0, .int 0, .int 0, .null, .int 0, .null, .null, .null, .int 0, .null, .int 0, .int 0, .int 0, .int 0, .int 0, .null]))] ++ [(q1, .inl (cA, 389, .inl (fun _ => 0)))] ++ [(q2, .inl (cA, 2334, .inl (fun _ => 0)))] ++ [(q3, .inl (cA, 389, .inl (fun _ => 0)))] ++ [(q4, .inl (cA, 64, .inl (fun _ => 0)))] ++ [(q5, .inl (cA, 600, .inl (fun _ => 0)))] ++ [(q6, .inl (cA, 400, .inl (fun _ => 0)))]) rfl dX10_init_54 (q := 57) rfl ?_
  refine h_aload_n X dX10_init_57 (q := 58) rfl 0 rfl ?_
  refine h_sipush X dX10_init_58 (q := 61) rfl li_s150 ?_
  refine h_newa X (by decide) (N := 150) (by decide) (Nat.le_of_ble_eq_true rfl) (Nat.le_of_ble_eq_true rfl) (Nat.le_of_ble_eq_true rfl) (ce2 := 7) (sl2 := 4326) rfl rfl dX10_init_61 (q := 63) rfl (fun q7 => ?_)
  refine h_dup X dX10_init_63 (q := 64) rfl rfl ?_
  refine h_iconst X dX10_init_64 (q := 65) rfl li_i0 ?_
  refine h_bipush X dX10_init_65 (q := 67) rfl li_b32 ?_
  refine h_iastW X 7 rfl (i := (0 : Int32)) (j := 0) (by decide) (by decide) dX10_init_67 (q := 68) rfl (wf_first) (ws' := [(a, .inr (10, [.int 0, .ref q1, .ref q2, .int 0, .ref q3, .int 0, .int 0, .int 0, .int 0, .ref q4, .ref q5, .ref q6, .int 0, .int 0, .int 0, .int 0, .int 0, .null, .null, .null, .null, .null, .null, .null, .null, .int 0, .int 0, .int 0, .null, .int 0, .int 0, .int 0, .int 0, .int 0, .int 0, .null, .int 0, .null, .int 0, .int 0, .int 0, .null, .int 0, .null, .null, .null, .int 0, .null, .int 0, .int 0, .int 0, .int 0, .int 0, .null]))] ++ [(q1, .inl (cA, 389, .inl (fun _ => 0)))] ++ [(q2, .inl (cA, 2334, .inl (fun _ => 0)))] ++ [(q3, .inl (cA, 389, .inl (fun _ => 0)))] ++ [(q4, .inl (cA, 64, .inl (fun _ => 0)))] ++ [(q5, .inl (cA, 600, .inl (fun _ => 0)))] ++ [(q6, .inl (cA, 400, .inl (fun _ => 0)))] ++ [(q7, .inl (cA, 150, .inl (wf 1)))]) rfl ?_
  refine h_dup X dX10_init_68 (q := 69) rfl rfl ?_
  refine h_iconst X dX10_init_69 (q := 70) rfl li_i1 ?_
  refine h_bipush X dX10_init_70 (q := 72) rfl li_b103 ?_
  refine h_iastW X 7 rfl (i := (1 : Int32)) (j := 1) (by decide) (by decide) dX10_init_72 (q := 73) rfl (wf_s 1 (by decide)) (ws' := [(a, .inr (10, [.int 0, .ref q1, .ref q2, .int 0, .ref q3, .int 0, .int 0, .int 0, .int 0, .ref q4, .ref q5, .ref q6, .int 0, .int 0, .int 0, .int 0, .int 0, .null, .null, .null, .null, .null, .null, .null, .null, .int 0, .int 0, .int 0, .null, .int 0, .int 0, .int 0, .int 0, .int 0, .int 0, .null, .int 0, .null, .int 0, .int 0, .int 0, .null, .int 0, .null, .null, .null, .int 0, .null, .int 0, .int 0, .int 0, .int 0, .int 0, .null]))] ++ [(q1, .inl (cA, 389, .inl (fun _ => 0)))] ++ [(q2, .inl (cA, 2334, .inl (fun _ => 0)))] ++ [(q3, .inl (cA, 389, .inl (fun _ => 0)))] ++ [(q4, .inl (cA, 64, .inl (fun _ => 0)))] ++ [(q5, .inl (cA, 600, .inl (fun _ => 0)))] ++ [(q6, .inl (cA, 400, .inl (fun _ => 0)))] ++ [(q7, .inl (cA, 150, .inl (wf 2)))]) rfl ?_
  refine h_dup X dX10_init_73 (q := 74) rfl rfl ?_
  refine h_iconst X dX10_init_74 (q := 75) rfl li_i2 ?_
  refine h_bipush X dX10_init_75 (q := 77) rfl li_b117 ?_
  refine h_iastW X 7 rfl (i := (2 : Int32)) (j := 2) (by decide) (by decide) dX10_init_77 (q := 78) rfl (wf_s 2 (by decide)) (ws' := [(a, .inr (10, [.int 0, .ref q1, .ref q2, .int 0, .ref q3, .int 0, .int 0, .int 0, .int 0, .ref q4, .ref q5, .ref q6, .int 0, .int 0, .int 0, .int 0, .int 0, .null, .null, .null, .null, .null, .null, .null, .null, .int 0, .int 0, .int 0, .null, .int 0, .int 0, .int 0, .int 0, .int 0, .int 0, .null, .int 0, .null, .int 0, .int 0, .int 0, .null, .int 0, .null, .null, .null, .int 0, .null, .int 0, .int 0, .int 0, .int 0, .int 0, .null]))] ++ [(q1, .inl (cA, 389, .inl (fun _ => 0)))] ++ [(q2, .inl (cA, 2334, .inl (fun _ => 0)))] ++ [(q3, .inl (cA, 389, .inl (fun _ => 0)))] ++ [(q4, .inl (cA, 64, .inl (fun _ => 0)))] ++ [(q5, .inl (cA, 600, .inl (fun _ => 0)))] ++ [(q6, .inl (cA, 400, .inl (fun _ => 0)))] ++ [(q7, .inl (cA, 150, .inl (wf 3)))]) rfl ?_
  refine h_dup X dX10_init_78 (q := 79) rfl rfl ?_
  refine h_iconst X dX10_init_79 (q := 80) rfl li_i3 ?_
  refine h_bipush X dX10_init_80 (q := 82) rfl li_b115 ?_
  refine h_iastW X 7 rfl (i := (3 : Int32)) (j := 3) (by decide) (by decide) dX10_init_82 (q := 83) rfl (wf_s 3 (by decide)) (ws' := [(a, .inr (10, [.int 0, .ref q1, .ref q2, .int 0, .ref q3, .int 0, .int 0, .int 0, .int 0, .ref q4, .ref q5, .ref q6, .int 0, .int 0, .int 0, .int 0, .int 0, .null, .null, .null, .null, .null, .null, .null, .null, .int 0, .int 0, .int 0, .null, .int 0, .int 0, .int 0, .int 0, .int 0, .int 0, .null, .int 0, .null, .int 0, .int 0, .int 0, .null, .int 0, .null, .null, .null, .int 0, .null, .int 0, .int 0, .int 0, .int 0, .int 0, .null]))] ++ [(q1, .inl (cA, 389, .inl (fun _ => 0)))] ++ [(q2, .inl (cA, 2334, .inl (fun _ => 0)))] ++ [(q3, .inl (cA, 389, .inl (fun _ => 0)))] ++ [(q4, .inl (cA, 64, .inl (fun _ => 0)))] ++ [(q5, .inl (cA, 600, .inl (fun _ => 0)))] ++ [(q6, .inl (cA, 400, .inl (fun _ => 0)))] ++ [(q7, .inl (cA, 150, .inl (wf 4)))]) rfl ?_
  refine h_dup X dX10_init_83 (q := 84) rfl rfl ?_
  refine h_iconst X dX10_init_84 (q := 85) rfl li_i4 ?_
  refine h_bipush X dX10_init_85 (q := 87) rfl li_b116 ?_
  refine h_iastW X 7 rfl (i := (4 : Int32)) (j := 4) (by decide) (by decide) dX10_init_87 (q := 88) rfl (wf_s 4 (by decide)) (ws' := [(a, .inr (10, [.int 0, .ref q1, .ref q2, .int 0, .ref q3, .int 0, .int 0, .int 0, .int 0, .ref q4, .ref q5, .ref q6, .int 0, .int 0, .int 0, .int 0, .int 0, .null, .null, .null, .null, .null, .null, .null, .null, .int 0, .int 0, .int 0, .null, .int 0, .int 0, .int 0, .int 0, .int 0, .int 0, .null, .int 0, .null, .int 0, .int 0, .int 0, .null, .int 0, .null, .null, .null, .int 0, .null, .int 0, .int 0, .int 0, .int 0, .int 0, .null]))] ++ [(q1, .inl (cA, 389, .inl (fun _ => 0)))] ++ [(q2, .inl (cA, 2334, .inl (fun _ => 0)))] ++ [(q3, .inl (cA, 389, .inl (fun _ => 0)))] ++ [(q4, .inl (cA, 64, .inl (fun _ => 0)))] ++ [(q5, .inl (cA, 600, .inl (fun _ => 0)))] ++ [(q6, .inl (cA, 400, .inl (fun _ => 0)))] ++ [(q7, .inl (cA, 150, .inl (wf 5)))]) rfl ?_
  refine h_dup X dX10_init_88 (q := 89) rfl rfl ?_
  refine h_iconst X dX10_init_89 (q := 90) rfl li_i5 ?_
  refine h_bipush X dX10_init_90 (q := 92) rfl li_b32 ?_
  refine h_iastW X 7 rfl (i := (5 : Int32)) (j := 5) (by decide) (by decide) dX10_init_92 (q := 93) rfl (wf_s 5 (by decide)) (ws' := [(a, .inr (10, [.int 0, .ref q1, .ref q2, .int 0, .ref q3, .int 0, .int 0, .int 0, .int 0, .ref q4, .ref q5, .ref q6, .int 0, .int 0, .int 0, .int 0, .int 0, .null, .null, .null, .null, .null, .null, .null, .null, .int 0, .int 0, .int 0, .null, .int 0, .int 0, .int 0, .int 0, .int 0, .int 0, .null, .int 0, .null, .int 0, .int 0, .int 0, .null, .int 0, .null, .null, .null, .int 0, .null, .int 0, .int 0, .int 0, .int 0, .int 0, .null]))] ++ [(q1, .inl (cA, 389, .inl (fun _ => 0)))] ++ [(q2, .inl (cA, 2334, .inl (fun _ => 0)))] ++ [(q3, .inl (cA, 389, .inl (fun _ => 0)))] ++ [(q4, .inl (cA, 64, .inl (fun _ => 0)))] ++ [(q5, .inl (cA, 600, .inl (fun _ => 0)))] ++ [(q6, .inl (cA, 400, .inl (fun _ => 0)))] ++ [(q7, .inl (cA, 150, .inl (wf 6)))]) rfl ?_
  refine h_dup X dX10_init_93 (q := 94) rfl rfl ?_
  refine h_bipush X dX10_init_94 (q := 96) rfl li_b6 ?_
  refine h_bipush X dX10_init_96 (q := 98) rfl li_b104 ?_
  refine h_iastW X 7 rfl (i := (6 : Int32)) (j := 6) (by decide) (by decide) dX10_init_98 (q := 99) rfl (wf_s 6 (by decide)) (ws' := [(a, .inr (10, [.int 0, .ref q1, .ref q2, .int 0, .ref q3, .int 0, .int 0, .int 0, .int 0, .ref q4, .ref q5, .ref q6, .int 0, .int 0, .int 0, .int 0, .int 0, .null, .null, .null, .null, .null, .null, .null, .null, .int 0, .int 0, .int 0, .null, .int 0, .int 0, .int 0, .int 0, .int 0, .int 0, .null, .int 0, .null, .int 0, .int 0, .int 0, .null, .int 0, .null, .null, .null, .int 0, .null, .int 0, .int 0, .int 0, .int 0, .int 0, .null]))] ++ [(q1, .inl (cA, 389, .inl (fun _ => 0)))] ++ [(q2, .inl (cA, 2334, .inl (fun _ => 0)))] ++ [(q3, .inl (cA, 389, .inl (fun _ => 0)))] ++ [(q4, .inl (cA, 64, .inl (fun _ => 0)))] ++ [(q5, .inl (cA, 600, .inl (fun _ => 0)))] ++ [(q6, .inl (cA, 400, .inl (fun _ => 0)))] ++ [(q7, .inl (cA, 150, .inl (wf 7)))]) rfl ?_
  refine h_dup X dX10_init_99 (q := 100) rfl rfl ?_
  refine h_bipush X dX10_init_100 (q := 102) rfl li_b7 ?_
  refine h_bipush X dX10_init_102 (q := 104) rfl li_b97 ?_
  refine h_iastW X 7 rfl (i := (7 : Int32)) (j := 7) (by decide) (by decide) dX10_init_104 (q := 105) rfl (wf_s 7 (by decide)) (ws' := [(a, .inr (10, [.int 0, .ref q1, .ref q2, .int 0, .ref q3, .int 0, .int 0, .int 0, .int 0, .ref q4, .ref q5, .ref q6, .int 0, .int 0, .int 0, .int 0, .int 0, .null, .null, .null, .null, .null, .null, .null, .null, .int 0, .int 0, .int 0, .null, .int 0, .int 0, .int 0, .int 0, .int 0, .int 0, .null, .int 0, .null, .int 0, .int 0, .int 0, .null, .int 0, .null, .null, .null, .int 0, .null, .int 0, .int 0, .int 0, .int 0, .int 0, .null]))] ++ [(q1, .inl (cA, 389, .inl (fun _ => 0)))] ++ [(q2, .inl (cA, 2334, .inl (fun _ => 0)))] ++ [(q3, .inl (cA, 389, .inl (fun _ => 0)))] ++ [(q4, .inl (cA, 64, .inl (fun _ => 0)))] ++ [(q5, .inl (cA, 600, .inl (fun _ => 0)))] ++ [(q6, .inl (cA, 400, .inl (fun _ => 0)))] ++ [(q7, .inl (cA, 150, .inl (wf 8)))]) rfl ?_
  refine h_dup X dX10_init_105 (q := 106) rfl rfl ?_
  refine h_bipush X dX10_init_106 (q := 108) rfl li_b8 ?_
  refine h_bipush X dX10_init_108 (q := 110) rfl li_b114 ?_
  refine h_iastW X 7 rfl (i := (8 : Int32)) (j := 8) (by decide) (by decide) dX10_init_110 (q := 111) rfl (wf_s 8 (by decide)) (ws' := [(a, .inr (10, [.int 0, .ref q1, .ref q2, .int 0, .ref q3, .int 0, .int 0, .int 0, .int 0, .ref q4, .ref q5, .ref q6, .int 0, .int 0, .int 0, .int 0, .int 0, .null, .null, .null, .null, .null, .null, .null, .null, .int 0, .int 0, .int 0, .null, .int 0, .int 0, .int 0, .int 0, .int 0, .int 0, .null, .int 0, .null, .int 0, .int 0, .int 0, .null, .int 0, .null, .null, .null, .int 0, .null, .int 0, .int 0, .int 0, .int 0, .int 0, .null]))] ++ [(q1, .inl (cA, 389, .inl (fun _ => 0)))] ++ [(q2, .inl (cA, 2334, .inl (fun _ => 0)))] ++ [(q3, .inl (cA, 389, .inl (fun _ => 0)))] ++ [(q4, .inl (cA, 64, .inl (fun _ => 0)))] ++ [(q5, .inl (cA, 600, .inl (fun _ => 0)))] ++ [(q6, .inl (cA, 400, .inl (fun _ => 0)))] ++ [(q7, .inl (cA, 150, .inl (wf 9)))]) rfl ?_
  refine h_dup X dX10_init_111 (q := 112) rfl rfl ?_
  refine h_bipush X dX10_init_112 (q := 114) rfl li_b9 ?_
  refine h_bipush X dX10_init_114 (q := 116) rfl li_b109 ?_
  refine h_iastW X 7 rfl (i := (9 : Int32)) (j := 9) (by decide) (by decide) dX10_init_116 (q := 117) rfl (wf_s 9 (by decide)) (ws' := [(a, .inr (10, [.int 0, .ref q1, .ref q2, .int 0, .ref q3, .int 0, .int 0, .int 0, .int 0, .ref q4, .ref q5, .ref q6, .int 0, .int 0, .int 0, .int 0, .int 0, .null, .null, .null, .null, .null, .null, .null, .null, .int 0, .int 0, .int 0, .null, .int 0, .int 0, .int 0, .int 0, .int 0, .int 0, .null, .int 0, .null, .int 0, .int 0, .int 0, .null, .int 0, .null, .null, .null, .int 0, .null, .int 0, .int 0, .int 0, .int 0, .int 0, .null]))] ++ [(q1, .inl (cA, 389, .inl (fun _ => 0)))] ++ [(q2, .inl (cA, 2334, .inl (fun _ => 0)))] ++ [(q3, .inl (cA, 389, .inl (fun _ => 0)))] ++ [(q4, .inl (cA, 64, .inl (fun _ => 0)))] ++ [(q5, .inl (cA, 600, .inl (fun _ => 0)))] ++ [(q6, .inl (cA, 400, .inl (fun _ => 0)))] ++ [(q7, .inl (cA, 150, .inl (wf 10)))]) rfl ?_
  refine h_dup X dX10_init_117 (q := 118) rfl rfl ?_
  refine h_bipush X dX10_init_118 (q := 120) rfl li_b10 ?_
  refine h_bipush X dX10_init_120 (q := 122) rfl li_b32 ?_
  refine h_iastW X 7 rfl (i := (10 : Int32)) (j := 10) (by decide) (by decide) dX10_init_122 (q := 123) rfl (wf_s 10 (by decide)) (ws' := [(a, .inr (10, [.int 0, .ref q1, .ref q2, .int 0, .ref q3, .int 0, .int 0, .int 0, .int 0, .ref q4, .ref q5, .ref q6, .int 0, .int 0, .int 0, .int 0, .int 0, .null, .null, .null, .null, .null, .null, .null, .null, .int 0, .int 0, .int 0, .null, .int 0, .int 0, .int 0, .int 0, .int 0, .int 0, .null, .int 0, .null, .int 0, .int 0, .int 0, .null, .int 0, .null, .null, .null, .int 0, .null, .int 0, .int 0, .int 0, .int 0, .int 0, .null]))] ++ [(q1, .inl (cA, 389, .inl (fun _ => 0)))] ++ [(q2, .inl (cA, 2334, .inl (fun _ => 0)))] ++ [(q3, .inl (cA, 389, .inl (fun _ => 0)))] ++ [(q4, .inl (cA, 64, .inl (fun _ => 0)))] ++ [(q5, .inl (cA, 600, .inl (fun _ => 0)))] ++ [(q6, .inl (cA, 400, .inl (fun _ => 0)))] ++ [(q7, .inl (cA, 150, .inl (wf 11)))]) rfl ?_
  refine h_dup X dX10_init_123 (q := 124) rfl rfl ?_
  refine h_bipush X dX10_init_124 (q := 126) rfl li_b11 ?_
  refine h_bipush X dX10_init_126 (q := 128) rfl li_b119 ?_
  refine h_iastW X 7 rfl (i := (11 : Int32)) (j := 11) (by decide) (by decide) dX10_init_128 (q := 129) rfl (wf_s 11 (by decide)) (ws' := [(a, .inr (10, [.int 0, .ref q1, .ref q2, .int 0, .ref q3, .int 0, .int 0, .int 0, .int 0, .ref q4, .ref q5, .ref q6, .int 0, .int 0, .int 0, .int 0, .int 0, .null, .null, .null, .null, .null, .null, .null, .null, .int 0, .int 0, .int 0, .null, .int 0, .int 0, .int 0, .int 0, .int 0, .int 0, .null, .int 0, .null, .int 0, .int 0, .int 0, .null, .int 0, .null, .null, .null, .int 0, .null, .int 0, .int 0, .int 0, .int 0, .int 0, .null]))] ++ [(q1, .inl (cA, 389, .inl (fun _ => 0)))] ++ [(q2, .inl (cA, 2334, .inl (fun _ => 0)))] ++ [(q3, .inl (cA, 389, .inl (fun _ => 0)))] ++ [(q4, .inl (cA, 64, .inl (fun _ => 0)))] ++ [(q5, .inl (cA, 600, .inl (fun _ => 0)))] ++ [(q6, .inl (cA, 400, .inl (fun _ => 0)))] ++ [(q7, .inl (cA, 150, .inl (wf 12)))]) rfl ?_
  refine h_dup X dX10_init_129 (q := 130) rfl rfl ?_
  refine h_bipush X dX10_init_130 (q := 132) rfl li_b12 ?_
  refine h_bipush X dX10_init_132 (q := 134) rfl li_b104 ?_
  refine h_iastW X 7 rfl (i := (12 : Int32)) (j := 12) (by decide) (by decide) dX10_init_134 (q := 135) rfl (wf_s 12 (by decide)) (ws' := [(a, .inr (10, [.int 0, .ref q1, .ref q2, .int 0, .ref q3, .int 0, .int 0, .int 0, .int 0, .ref q4, .ref q5, .ref q6, .int 0, .int 0, .int 0, .int 0, .int 0, .null, .null, .null, .null, .null, .null, .null, .null, .int 0, .int 0, .int 0, .null, .int 0, .int 0, .int 0, .int 0, .int 0, .int 0, .null, .int 0, .null, .int 0, .int 0, .int 0, .null, .int 0, .null, .null, .null, .int 0, .null, .int 0, .int 0, .int 0, .int 0, .int 0, .null]))] ++ [(q1, .inl (cA, 389, .inl (fun _ => 0)))] ++ [(q2, .inl (cA, 2334, .inl (fun _ => 0)))] ++ [(q3, .inl (cA, 389, .inl (fun _ => 0)))] ++ [(q4, .inl (cA, 64, .inl (fun _ => 0)))] ++ [(q5, .inl (cA, 600, .inl (fun _ => 0)))] ++ [(q6, .inl (cA, 400, .inl (fun _ => 0)))] ++ [(q7, .inl (cA, 150, .inl (wf 13)))]) rfl ?_
  refine h_dup X dX10_init_135 (q := 136) rfl rfl ?_
  refine h_bipush X dX10_init_136 (q := 138) rfl li_b13 ?_
  refine h_bipush X dX10_init_138 (q := 140) rfl li_b101 ?_
  refine h_iastW X 7 rfl (i := (13 : Int32)) (j := 13) (by decide) (by decide) dX10_init_140 (q := 141) rfl (wf_s 13 (by decide)) (ws' := [(a, .inr (10, [.int 0, .ref q1, .ref q2, .int 0, .ref q3, .int 0, .int 0, .int 0, .int 0, .ref q4, .ref q5, .ref q6, .int 0, .int 0, .int 0, .int 0, .int 0, .null, .null, .null, .null, .null, .null, .null, .null, .int 0, .int 0, .int 0, .null, .int 0, .int 0, .int 0, .int 0, .int 0, .int 0, .null, .int 0, .null, .int 0, .int 0, .int 0, .null, .int 0, .null, .null, .null, .int 0, .null, .int 0, .int 0, .int 0, .int 0, .int 0, .null]))] ++ [(q1, .inl (cA, 389, .inl (fun _ => 0)))] ++ [(q2, .inl (cA, 2334, .inl (fun _ => 0)))] ++ [(q3, .inl (cA, 389, .inl (fun _ => 0)))] ++ [(q4, .inl (cA, 64, .inl (fun _ => 0)))] ++ [(q5, .inl (cA, 600, .inl (fun _ => 0)))] ++ [(q6, .inl (cA, 400, .inl (fun _ => 0)))] ++ [(q7, .inl (cA, 150, .inl (wf 14)))]) rfl ?_
  refine h_dup X dX10_init_141 (q := 142) rfl rfl ?_
  refine h_bipush X dX10_init_142 (q := 144) rfl li_b14 ?_
  refine h_bipush X dX10_init_144 (q := 146) rfl li_b110 ?_
  refine h_iastW X 7 rfl (i := (14 : Int32)) (j := 14) (by decide) (by decide) dX10_init_146 (q := 147) rfl (wf_s 14 (by decide)) (ws' := [(a, .inr (10, [.int 0, .ref q1, .ref q2, .int 0, .ref q3, .int 0, .int 0, .int 0, .int 0, .ref q4, .ref q5, .ref q6, .int 0, .int 0, .int 0, .int 0, .int 0, .null, .null, .null, .null, .null, .null, .null, .null, .int 0, .int 0, .int 0, .null, .int 0, .int 0, .int 0, .int 0, .int 0, .int 0, .null, .int 0, .null, .int 0, .int 0, .int 0, .null, .int 0, .null, .null, .null, .int 0, .null, .int 0, .int 0, .int 0, .int 0, .int 0, .null]))] ++ [(q1, .inl (cA, 389, .inl (fun _ => 0)))] ++ [(q2, .inl (cA, 2334, .inl (fun _ => 0)))] ++ [(q3, .inl (cA, 389, .inl (fun _ => 0)))] ++ [(q4, .inl (cA, 64, .inl (fun _ => 0)))] ++ [(q5, .inl (cA, 600, .inl (fun _ => 0)))] ++ [(q6, .inl (cA, 400, .inl (fun _ => 0)))] ++ [(q7, .inl (cA, 150, .inl (wf 15)))]) rfl ?_
  refine h_dup X dX10_init_147 (q := 148) rfl rfl ?_
  refine h_bipush X dX10_init_148 (q := 150) rfl li_b15 ?_
  refine h_bipush X dX10_init_150 (q := 152) rfl li_b32 ?_
  refine h_iastW X 7 rfl (i := (15 : Int32)) (j := 15) (by decide) (by decide) dX10_init_152 (q := 153) rfl (wf_s 15 (by decide)) (ws' := [(a, .inr (10, [.int 0, .ref q1, .ref q2, .int 0, .ref q3, .int 0, .int 0, .int 0, .int 0, .ref q4, .ref q5, .ref q6, .int 0, .int 0, .int 0, .int 0, .int 0, .null, .null, .null, .null, .null, .null, .null, .null, .int 0, .int 0, .int 0, .null, .int 0, .int 0, .int 0, .int 0, .int 0, .int 0, .null, .int 0, .null, .int 0, .int 0, .int 0, .null, .int 0, .null, .null, .null, .int 0, .null, .int 0, .int 0, .int 0, .int 0, .int 0, .null]))] ++ [(q1, .inl (cA, 389, .inl (fun _ => 0)))] ++ [(q2, .inl (cA, 2334, .inl (fun _ => 0)))] ++ [(q3, .inl (cA, 389, .inl (fun _ => 0)))] ++ [(q4, .inl (cA, 64, .inl (fun _ => 0)))] ++ [(q5, .inl (cA, 600, .inl (fun _ => 0)))] ++ [(q6, .inl (cA, 400, .inl (fun _ => 0)))] ++ [(q7, .inl (cA, 150, .inl (wf 16)))]) rfl ?_
  refine h_dup X dX10_init_153 (q := 154) rfl rfl ?_
  refine h_bipush X dX10_init_154 (q := 156) rfl li_b16 ?_
  refine h_bipush X dX10_init_156 (q := 158) rfl li_b111 ?_
  refine h_iastW X 7 rfl (i := (16 : Int32)) (j := 16) (by decide) (by decide) dX10_init_158 (q := 159) rfl (wf_s 16 (by decide)) (ws' := [(a, .inr (10, [.int 0, .ref q1, .ref q2, .int 0, .ref q3, .int 0, .int 0, .int 0, .int 0, .ref q4, .ref q5, .ref q6, .int 0, .int 0, .int 0, .int 0, .int 0, .null, .null, .null, .null, .null, .null, .null, .null, .int 0, .int 0, .int 0, .null, .int 0, .int 0, .int 0, .int 0, .int 0, .int 0, .null, .int 0, .null, .int 0, .int 0, .int 0, .null, .int 0, .null, .null, .null, .int 0, .null, .int 0, .int 0, .int 0, .int 0, .int 0, .null]))] ++ [(q1, .inl (cA, 389, .inl (fun _ => 0)))] ++ [(q2, .inl (cA, 2334, .inl (fun _ => 0)))] ++ [(q3, .inl (cA, 389, .inl (fun _ => 0)))] ++ [(q4, .inl (cA, 64, .inl (fun _ => 0)))] ++ [(q5, .inl (cA, 600, .inl (fun _ => 0)))] ++ [(q6, .inl (cA, 400, .inl (fun _ => 0)))] ++ [(q7, .inl (cA, 150, .inl (wf 17)))]) rfl ?_
  refine h_dup X dX10_init_159 (q := 160) rfl rfl ?_
  refine h_bipush X dX10_init_160 (q := 162) rfl li_b17 ?_
  refine h_bipush X dX10_init_162 (q := 164) rfl li_b114 ?_
  refine h_iastW X 7 rfl (i := (17 : Int32)) (j := 17) (by decide) (by decide) dX10_init_164 (q := 165) rfl (wf_s 17 (by decide)) (ws' := [(a, .inr (10, [.int 0, .ref q1, .ref q2, .int 0, .ref q3, .int 0, .int 0, .int 0, .int 0, .ref q4, .ref q5, .ref q6, .int 0, .int 0, .int 0, .int 0, .int 0, .null, .null, .null, .null, .null, .null, .null, .null, .int 0, .int 0, .int 0, .null, .int 0, .int 0, .int 0, .int 0, .int 0, .int 0, .null, .int 0, .null, .int 0, .int 0, .int 0, .null, .int 0, .null, .null, .null, .int 0, .null, .int 0, .int 0, .int 0, .int 0, .int 0, .null]))] ++ [(q1, .inl (cA, 389, .inl (fun _ => 0)))] ++ [(q2, .inl (cA, 2334, .inl (fun _ => 0)))] ++ [(q3, .inl (cA, 389, .inl (fun _ => 0)))] ++ [(q4, .inl (cA, 64, .inl (fun _ => 0)))] ++ [(q5, .inl (cA, 600, .inl (fun _ => 0)))] ++ [(q6, .inl (cA, 400, .inl (fun _ => 0)))] ++ [(q7, .inl (cA, 150, .inl (wf 18)))]) rfl ?_
  refine h_dup X dX10_init_165 (q := 166) rfl rfl ?_
  refine h_bipush X dX10_init_166 (q := 168) rfl li_b18 ?_
  refine h_bipush X dX10_init_168 (q := 170) rfl li_b32 ?_
  refine h_iastW X 7 rfl (i := (18 : Int32)) (j := 18) (by decide) (by decide) dX10_init_170 (q := 171) rfl (wf_s 18 (by decide)) (ws' := [(a, .inr (10, [.int 0, .ref q1, .ref q2, .int 0, .ref q3, .int 0, .int 0, .int 0, .int 0, .ref q4, .ref q5, .ref q6, .int 0, .int 0, .int 0, .int 0, .int 0, .null, .null, .null, .null, .null, .null, .null, .null, .int 0, .int 0, .int 0, .null, .int 0, .int 0, .int 0, .int 0, .int 0, .int 0, .null, .int 0, .null, .int 0, .int 0, .int 0, .null, .int 0, .null, .null, .null, .int 0, .null, .int 0, .int 0, .int 0, .int 0, .int 0, .null]))] ++ [(q1, .inl (cA, 389, .inl (fun _ => 0)))] ++ [(q2, .inl (cA, 2334, .inl (fun _ => 0)))] ++ [(q3, .inl (cA, 389, .inl (fun _ => 0)))] ++ [(q4, .inl (cA, 64, .inl (fun _ => 0)))] ++ [(q5, .inl (cA, 600, .inl (fun _ => 0)))] ++ [(q6, .inl (cA, 400, .inl (fun _ => 0)))] ++ [(q7, .inl (cA, 150, .inl (wf 19)))]) rfl ?_
  refine h_dup X dX10_init_171 (q := 172) rfl rfl ?_
  refine h_bipush X dX10_init_172 (q := 174) rfl li_b19 ?_
  refine h_bipush X dX10_init_174 (q := 176) rfl li_b97 ?_
  refine h_iastW X 7 rfl (i := (19 : Int32)) (j := 19) (by decide) (by decide) dX10_init_176 (q := 177) rfl (wf_s 19 (by decide)) (ws' := [(a, .inr (10, [.int 0, .ref q1, .ref q2, .int 0, .ref q3, .int 0, .int 0, .int 0, .int 0, .ref q4, .ref q5, .ref q6, .int 0, .int 0, .int 0, .int 0, .int 0, .null, .null, .null, .null, .null, .null, .null, .null, .int 0, .int 0, .int 0, .null, .int 0, .int 0, .int 0, .int 0, .int 0, .int 0, .null, .int 0, .null, .int 0, .int 0, .int 0, .null, .int 0, .null, .null, .null, .int 0, .null, .int 0, .int 0, .int 0, .int 0, .int 0, .null]))] ++ [(q1, .inl (cA, 389, .inl (fun _ => 0)))] ++ [(q2, .inl (cA, 2334, .inl (fun _ => 0)))] ++ [(q3, .inl (cA, 389, .inl (fun _ => 0)))] ++ [(q4, .inl (cA, 64, .inl (fun _ => 0)))] ++ [(q5, .inl (cA, 600, .inl (fun _ => 0)))] ++ [(q6, .inl (cA, 400, .inl (fun _ => 0)))] ++ [(q7, .inl (cA, 150, .inl (wf 20)))]) rfl ?_
  refine h_dup X dX10_init_177 (q := 178) rfl rfl ?_
  refine h_bipush X dX10_init_178 (q := 180) rfl li_b20 ?_
  refine h_bipush X dX10_init_180 (q := 182) rfl li_b110 ?_
  refine h_iastW X 7 rfl (i := (20 : Int32)) (j := 20) (by decide) (by decide) dX10_init_182 (q := 183) rfl (wf_s 20 (by decide)) (ws' := [(a, .inr (10, [.int 0, .ref q1, .ref q2, .int 0, .ref q3, .int 0, .int 0, .int 0, .int 0, .ref q4, .ref q5, .ref q6, .int 0, .int 0, .int 0, .int 0, .int 0, .null, .null, .null, .null, .null, .null, .null, .null, .int 0, .int 0, .int 0, .null, .int 0, .int 0, .int 0, .int 0, .int 0, .int 0, .null, .int 0, .null, .int 0, .int 0, .int 0, .null, .int 0, .null, .null, .null, .int 0, .null, .int 0, .int 0, .int 0, .int 0, .int 0, .null]))] ++ [(q1, .inl (cA, 389, .inl (fun _ => 0)))] ++ [(q2, .inl (cA, 2334, .inl (fun _ => 0)))] ++ [(q3, .inl (cA, 389, .inl (fun _ => 0)))] ++ [(q4, .inl (cA, 64, .inl (fun _ => 0)))] ++ [(q5, .inl (cA, 600, .inl (fun _ => 0)))] ++ [(q6, .inl (cA, 400, .inl (fun _ => 0)))] ++ [(q7, .inl (cA, 150, .inl (wf 21)))]) rfl ?_
  refine h_dup X dX10_init_183 (q := 184) rfl rfl ?_
  refine h_bipush X dX10_init_184 (q := 186) rfl li_b21 ?_
  refine h_bipush X dX10_init_186 (q := 188) rfl li_b100 ?_
  refine h_iastW X 7 rfl (i := (21 : Int32)) (j := 21) (by decide) (by decide) dX10_init_188 (q := 189) rfl (wf_s 21 (by decide)) (ws' := [(a, .inr (10, [.int 0, .ref q1, .ref q2, .int 0, .ref q3, .int 0, .int 0, .int 0, .int 0, .ref q4, .ref q5, .ref q6, .int 0, .int 0, .int 0, .int 0, .int 0, .null, .null, .null, .null, .null, .null, .null, .null, .int 0, .int 0, .int 0, .null, .int 0, .int 0, .int 0, .int 0, .int 0, .int 0, .null, .int 0, .null, .int 0, .int 0, .int 0, .null, .int 0, .null, .null, .null, .int 0, .null, .int 0, .int 0, .int 0, .int 0, .int 0, .null]))] ++ [(q1, .inl (cA, 389, .inl (fun _ => 0)))] ++ [(q2, .inl (cA, 2334, .inl (fun _ => 0)))] ++ [(q3, .inl (cA, 389, .inl (fun _ => 0)))] ++ [(q4, .inl (cA, 64, .inl (fun _ => 0)))] ++ [(q5, .inl (cA, 600, .inl (fun _ => 0)))] ++ [(q6, .inl (cA, 400, .inl (fun _ => 0)))] ++ [(q7, .inl (cA, 150, .inl (wf 22)))]) rfl ?_
  refine h_dup X dX10_init_189 (q := 190) rfl rfl ?_
  refine h_bipush X dX10_init_190 (q := 192) rfl li_b22 ?_
  refine h_bipush X dX10_init_192 (q := 194) rfl li_b32 ?_
  refine h_iastW X 7 rfl (i := (22 : Int32)) (j := 22) (by decide) (by decide) dX10_init_194 (q := 195) rfl (wf_s 22 (by decide)) (ws' := [(a, .inr (10, [.int 0, .ref q1, .ref q2, .int 0, .ref q3, .int 0, .int 0, .int 0, .int 0, .ref q4, .ref q5, .ref q6, .int 0, .int 0, .int 0, .int 0, .int 0, .null, .null, .null, .null, .null, .null, .null, .null, .int 0, .int 0, .int 0, .null, .int 0, .int 0, .int 0, .int 0, .int 0, .int 0, .null, .int 0, .null, .int 0, .int 0, .int 0, .null, .int 0, .null, .null, .null, .int 0, .null, .int 0, .int 0, .int 0, .int 0, .int 0, .null]))] ++ [(q1, .inl (cA, 389, .inl (fun _ => 0)))] ++ [(q2, .inl (cA, 2334, .inl (fun _ => 0)))] ++ [(q3, .inl (cA, 389, .inl (fun _ => 0)))] ++ [(q4, .inl (cA, 64, .inl (fun _ => 0)))] ++ [(q5, .inl (cA, 600, .inl (fun _ => 0)))] ++ [(q6, .inl (cA, 400, .inl (fun _ => 0)))] ++ [(q7, .inl (cA, 150, .inl (wf 23)))]) rfl ?_
  refine h_dup X dX10_init_195 (q := 196) rfl rfl ?_
  refine h_bipush X dX10_init_196 (q := 198) rfl li_b23 ?_
  refine h_bipush X dX10_init_198 (q := 200) rfl li_b110 ?_
  refine h_iastW X 7 rfl (i := (23 : Int32)) (j := 23) (by decide) (by decide) dX10_init_200 (q := 201) rfl (wf_s 23 (by decide)) (ws' := [(a, .inr (10, [.int 0, .ref q1, .ref q2, .int 0, .ref q3, .int 0, .int 0, .int 0, .int 0, .ref q4, .ref q5, .ref q6, .int 0, .int 0, .int 0, .int 0, .int 0, .null, .null, .null, .null, .null, .null, .null, .null, .int 0, .int 0, .int 0, .null, .int 0, .int 0, .int 0, .int 0, .int 0, .int 0, .null, .int 0, .null, .int 0, .int 0, .int 0, .null, .int 0, .null, .null, .null, .int 0, .null, .int 0, .int 0, .int 0, .int 0, .int 0, .null]))] ++ [(q1, .inl (cA, 389, .inl (fun _ => 0)))] ++ [(q2, .inl (cA, 2334, .inl (fun _ => 0)))] ++ [(q3, .inl (cA, 389, .inl (fun _ => 0)))] ++ [(q4, .inl (cA, 64, .inl (fun _ => 0)))] ++ [(q5, .inl (cA, 600, .inl (fun _ => 0)))] ++ [(q6, .inl (cA, 400, .inl (fun _ => 0)))] ++ [(q7, .inl (cA, 150, .inl (wf 24)))]) rfl ?_
  refine h_dup X dX10_init_201 (q := 202) rfl rfl ?_
  refine h_bipush X dX10_init_202 (q := 204) rfl li_b24 ?_
  refine h_bipush X dX10_init_204 (q := 206) rfl li_b111 ?_
  refine h_iastW X 7 rfl (i := (24 : Int32)) (j := 24) (by decide) (by decide) dX10_init_206 (q := 207) rfl (wf_s 24 (by decide)) (ws' := [(a, .inr (10, [.int 0, .ref q1, .ref q2, .int 0, .ref q3, .int 0, .int 0, .int 0, .int 0, .ref q4, .ref q5, .ref q6, .int 0, .int 0, .int 0, .int 0, .int 0, .null, .null, .null, .null, .null, .null, .null, .null, .int 0, .int 0, .int 0, .null, .int 0, .int 0, .int 0, .int 0, .int 0, .int 0, .null, .int 0, .null, .int 0, .int 0, .int 0, .null, .int 0, .null, .null, .null, .int 0, .null, .int 0, .int 0, .int 0, .int 0, .int 0, .null]))] ++ [(q1, .inl (cA, 389, .inl (fun _ => 0)))] ++ [(q2, .inl (cA, 2334, .inl (fun _ => 0)))] ++ [(q3, .inl (cA, 389, .inl (fun _ => 0)))] ++ [(q4, .inl (cA, 64, .inl (fun _ => 0)))] ++ [(q5, .inl (cA, 600, .inl (fun _ => 0)))] ++ [(q6, .inl (cA, 400, .inl (fun _ => 0)))] ++ [(q7, .inl (cA, 150, .inl (wf 25)))]) rfl ?_
  refine h_dup X dX10_init_207 (q := 208) rfl rfl ?_
  refine h_bipush X dX10_init_208 (q := 210) rfl li_b25 ?_
  refine h_bipush X dX10_init_210 (q := 212) rfl li_b116 ?_
  refine h_iastW X 7 rfl (i := (25 : Int32)) (j := 25) (by decide) (by decide) dX10_init_212 (q := 213) rfl (wf_s 25 (by decide)) (ws' := [(a, .inr (10, [.int 0, .ref q1, .ref q2, .int 0, .ref q3, .int 0, .int 0, .int 0, .int 0, .ref q4, .ref q5, .ref q6, .int 0, .int 0, .int 0, .int 0, .int 0, .null, .null, .null, .null, .null, .null, .null, .null, .int 0, .int 0, .int 0, .null, .int 0, .int 0, .int 0, .int 0, .int 0, .int 0, .null, .int 0, .null, .int 0, .int 0, .int 0, .null, .int 0, .null, .null, .null, .int 0, .null, .int 0, .int 0, .int 0, .int 0, .int 0, .null]))] ++ [(q1, .inl (cA, 389, .inl (fun _ => 0)))] ++ [(q2, .inl (cA, 2334, .inl (fun _ => 0)))] ++ [(q3, .inl (cA, 389, .inl (fun _ => 0)))] ++ [(q4, .inl (cA, 64, .inl (fun _ => 0)))] ++ [(q5, .inl (cA, 600, .inl (fun _ => 0)))] ++ [(q6, .inl (cA, 400, .inl (fun _ => 0)))] ++ [(q7, .inl (cA, 150, .inl (wf 26)))]) rfl ?_
  refine h_dup X dX10_init_213 (q := 214) rfl rfl ?_
  refine h_bipush X dX10_init_214 (q := 216) rfl li_b26 ?_
  refine h_bipush X dX10_init_216 (q := 218) rfl li_b32 ?_
  refine h_iastW X 7 rfl (i := (26 : Int32)) (j := 26) (by decide) (by decide) dX10_init_218 (q := 219) rfl (wf_s 26 (by decide)) (ws' := [(a, .inr (10, [.int 0, .ref q1, .ref q2, .int 0, .ref q3, .int 0, .int 0, .int 0, .int 0, .ref q4, .ref q5, .ref q6, .int 0, .int 0, .int 0, .int 0, .int 0, .null, .null, .null, .null, .null, .null, .null, .null, .int 0, .int 0, .int 0, .null, .int 0, .int 0, .int 0, .int 0, .int 0, .int 0, .null, .int 0, .null, .int 0, .int 0, .int 0, .null, .int 0, .null, .null, .null, .int 0, .null, .int 0, .int 0, .int 0, .int 0, .int 0, .null]))] ++ [(q1, .inl (cA, 389, .inl (fun _ => 0)))] ++ [(q2, .inl (cA, 2334, .inl (fun _ => 0)))] ++ [(q3, .inl (cA, 389, .inl (fun _ => 0)))] ++ [(q4, .inl (cA, 64, .inl (fun _ => 0)))] ++ [(q5, .inl (cA, 600, .inl (fun _ => 0)))] ++ [(q6, .inl (cA, 400, .inl (fun _ => 0)))] ++ [(q7, .inl (cA, 150, .inl (wf 27)))]) rfl ?_
  refine h_dup X dX10_init_219 (q := 220) rfl rfl ?_
  refine h_bipush X dX10_init_220 (q := 222) rfl li_b27 ?_
  refine h_bipush X dX10_init_222 (q := 224) rfl li_b107 ?_
  refine h_iastW X 7 rfl (i := (27 : Int32)) (j := 27) (by decide) (by decide) dX10_init_224 (q := 225) rfl (wf_s 27 (by decide)) (ws' := [(a, .inr (10, [.int 0, .ref q1, .ref q2, .int 0, .ref q3, .int 0, .int 0, .int 0, .int 0, .ref q4, .ref q5, .ref q6, .int 0, .int 0, .int 0, .int 0, .int 0, .null, .null, .null, .null, .null, .null, .null, .null, .int 0, .int 0, .int 0, .null, .int 0, .int 0, .int 0, .int 0, .int 0, .int 0, .null, .int 0, .null, .int 0, .int 0, .int 0, .null, .int 0, .null, .null, .null, .int 0, .null, .int 0, .int 0, .int 0, .int 0, .int 0, .null]))] ++ [(q1, .inl (cA, 389, .inl (fun _ => 0)))] ++ [(q2, .inl (cA, 2334, .inl (fun _ => 0)))] ++ [(q3, .inl (cA, 389, .inl (fun _ => 0)))] ++ [(q4, .inl (cA, 64, .inl (fun _ => 0)))] ++ [(q5, .inl (cA, 600, .inl (fun _ => 0)))] ++ [(q6, .inl (cA, 400, .inl (fun _ => 0)))] ++ [(q7, .inl (cA, 150, .inl (wf 28)))]) rfl ?_
  refine h_dup X dX10_init_225 (q := 226) rfl rfl ?_
  refine h_bipush X dX10_init_226 (q := 228) rfl li_b28 ?_
  refine h_bipush X dX10_init_228 (q := 230) rfl li_b105 ?_
  refine h_iastW X 7 rfl (i := (28 : Int32)) (j := 28) (by decide) (by decide) dX10_init_230 (q := 231) rfl (wf_s 28 (by decide)) (ws' := [(a, .inr (10, [.int 0, .ref q1, .ref q2, .int 0, .ref q3, .int 0, .int 0, .int 0, .int 0, .ref q4, .ref q5, .ref q6, .int 0, .int 0, .int 0, .int 0, .int 0, .null, .null, .null, .null, .null, .null, .null, .null, .int 0, .int 0, .int 0, .null, .int 0, .int 0, .int 0, .int 0, .int 0, .int 0, .null, .int 0, .null, .int 0, .int 0, .int 0, .null, .int 0, .null, .null, .null, .int 0, .null, .int 0, .int 0, .int 0, .int 0, .int 0, .null]))] ++ [(q1, .inl (cA, 389, .inl (fun _ => 0)))] ++ [(q2, .inl (cA, 2334, .inl (fun _ => 0)))] ++ [(q3, .inl (cA, 389, .inl (fun _ => 0)))] ++ [(q4, .inl (cA, 64, .inl (fun _ => 0)))] ++ [(q5, .inl (cA, 600, .inl (fun _ => 0)))] ++ [(q6, .inl (cA, 400, .inl (fun _ => 0)))] ++ [(q7, .inl (cA, 150, .inl (wf 29)))]) rfl ?_
  refine h_dup X dX10_init_231 (q := 232) rfl rfl ?_
  refine h_bipush X dX10_init_232 (q := 234) rfl li_b29 ?_
  refine h_bipush X dX10_init_234 (q := 236) rfl li_b110 ?_
  refine h_iastW X 7 rfl (i := (29 : Int32)) (j := 29) (by decide) (by decide) dX10_init_236 (q := 237) rfl (wf_s 29 (by decide)) (ws' := [(a, .inr (10, [.int 0, .ref q1, .ref q2, .int 0, .ref q3, .int 0, .int 0, .int 0, .int 0, .ref q4, .ref q5, .ref q6, .int 0, .int 0, .int 0, .int 0, .int 0, .null, .null, .null, .null, .null, .null, .null, .null, .int 0, .int 0, .int 0, .null, .int 0, .int 0, .int 0, .int 0, .int 0, .int 0, .null, .int 0, .null, .int 0, .int 0, .int 0, .null, .int 0, .null, .null, .null, .int 0, .null, .int 0, .int 0, .int 0, .int 0, .int 0, .null]))] ++ [(q1, .inl (cA, 389, .inl (fun _ => 0)))] ++ [(q2, .inl (cA, 2334, .inl (fun _ => 0)))] ++ [(q3, .inl (cA, 389, .inl (fun _ => 0)))] ++ [(q4, .inl (cA, 64, .inl (fun _ => 0)))] ++ [(q5, .inl (cA, 600, .inl (fun _ => 0)))] ++ [(q6, .inl (cA, 400, .inl (fun _ => 0)))] ++ [(q7, .inl (cA, 150, .inl (wf 30)))]) rfl ?_
  refine h_dup X dX10_init_237 (q := 238) rfl rfl ?_
  refine h_bipush X dX10_init_238 (q := 240) rfl li_b30 ?_
  refine h_bipush X dX10_init_240 (q := 242) rfl li_b100 ?_
  refine h_iastW X 7 rfl (i := (30 : Int32)) (j := 30) (by decide) (by decide) dX10_init_242 (q := 243) rfl (wf_s 30 (by decide)) (ws' := [(a, .inr (10, [.int 0, .ref q1, .ref q2, .int 0, .ref q3, .int 0, .int 0, .int 0, .int 0, .ref q4, .ref q5, .ref q6, .int 0, .int 0, .int 0, .int 0, .int 0, .null, .null, .null, .null, .null, .null, .null, .null, .int 0, .int 0, .int 0, .null, .int 0, .int 0, .int 0, .int 0, .int 0, .int 0, .null, .int 0, .null, .int 0, .int 0, .int 0, .null, .int 0, .null, .null, .null, .int 0, .null, .int 0, .int 0, .int 0, .int 0, .int 0, .null]))] ++ [(q1, .inl (cA, 389, .inl (fun _ => 0)))] ++ [(q2, .inl (cA, 2334, .inl (fun _ => 0)))] ++ [(q3, .inl (cA, 389, .inl (fun _ => 0)))] ++ [(q4, .inl (cA, 64, .inl (fun _ => 0)))] ++ [(q5, .inl (cA, 600, .inl (fun _ => 0)))] ++ [(q6, .inl (cA, 400, .inl (fun _ => 0)))] ++ [(q7, .inl (cA, 150, .inl (wf 31)))]) rfl ?_
  refine h_dup X dX10_init_243 (q := 244) rfl rfl ?_
  refine h_bipush X dX10_init_244 (q := 246) rfl li_b31 ?_
  refine h_bipush X dX10_init_246 (q := 248) rfl li_b32 ?_
  refine h_iastW X 7 rfl (i := (31 : Int32)) (j := 31) (by decide) (by decide) dX10_init_248 (q := 249) rfl (wf_s 31 (by decide)) (ws' := [(a, .inr (10, [.int 0, .ref q1, .ref q2, .int 0, .ref q3, .int 0, .int 0, .int 0, .int 0, .ref q4, .ref q5, .ref q6, .int 0, .int 0, .int 0, .int 0, .int 0, .null, .null, .null, .null, .null, .null, .null, .null, .int 0, .int 0, .int 0, .null, .int 0, .int 0, .int 0, .int 0, .int 0, .int 0, .null, .int 0, .null, .int 0, .int 0, .int 0, .null, .int 0, .null, .null, .null, .int 0, .null, .int 0, .int 0, .int 0, .int 0, .int 0, .null]))] ++ [(q1, .inl (cA, 389, .inl (fun _ => 0)))] ++ [(q2, .inl (cA, 2334, .inl (fun _ => 0)))] ++ [(q3, .inl (cA, 389, .inl (fun _ => 0)))] ++ [(q4, .inl (cA, 64, .inl (fun _ => 0)))] ++ [(q5, .inl (cA, 600, .inl (fun _ => 0)))] ++ [(q6, .inl (cA, 400, .inl (fun _ => 0)))] ++ [(q7, .inl (cA, 150, .inl (wf 32)))]) rfl ?_
  refine h_dup X dX10_init_249 (q := 250) rfl rfl ?_
  refine h_bipush X dX10_init_250 (q := 252) rfl li_b32 ?_
  refine h_bipush X dX10_init_252 (q := 254) rfl li_b119 ?_
  refine h_iastW X 7 rfl (i := (32 : Int32)) (j := 32) (by decide) (by decide) dX10_init_254 (q := 255) rfl (wf_s 32 (by decide)) (ws' := [(a, .inr (10, [.int 0, .ref q1, .ref q2, .int 0, .ref q3, .int 0, .int 0, .int 0, .int 0, .ref q4, .ref q5, .ref q6, .int 0, .int 0, .int 0, .int 0, .int 0, .null, .null, .null, .null, .null, .null, .null, .null, .int 0, .int 0, .int 0, .null, .int 0, .int 0, .int 0, .int 0, .int 0, .int 0, .null, .int 0, .null, .int 0, .int 0, .int 0, .null, .int 0, .null, .null, .null, .int 0, .null, .int 0, .int 0, .int 0, .int 0, .int 0, .null]))] ++ [(q1, .inl (cA, 389, .inl (fun _ => 0)))] ++ [(q2, .inl (cA, 2334, .inl (fun _ => 0)))] ++ [(q3, .inl (cA, 389, .inl (fun _ => 0)))] ++ [(q4, .inl (cA, 64, .inl (fun _ => 0)))] ++ [(q5, .inl (cA, 600, .inl (fun _ => 0)))] ++ [(q6, .inl (cA, 400, .inl (fun _ => 0)))] ++ [(q7, .inl (cA, 150, .inl (wf 33)))]) rfl ?_
  refine h_dup X dX10_init_255 (q := 256) rfl rfl ?_
  refine h_bipush X dX10_init_256 (q := 258) rfl li_b33 ?_
  refine h_bipush X dX10_init_258 (q := 260) rfl li_b101 ?_
  refine h_iastW X 7 rfl (i := (33 : Int32)) (j := 33) (by decide) (by decide) dX10_init_260 (q := 261) rfl (wf_s 33 (by decide)) (ws' := [(a, .inr (10, [.int 0, .ref q1, .ref q2, .int 0, .ref q3, .int 0, .int 0, .int 0, .int 0, .ref q4, .ref q5, .ref q6, .int 0, .int 0, .int 0, .int 0, .int 0, .null, .null, .null, .null, .null, .null, .null, .null, .int 0, .int 0, .int 0, .null, .int 0, .int 0, .int 0, .int 0, .int 0, .int 0, .null, .int 0, .null, .int 0, .int 0, .int 0, .null, .int 0, .null, .null, .null, .int 0, .null, .int 0, .int 0, .int 0, .int 0, .int 0, .null]))] ++ [(q1, .inl (cA, 389, .inl (fun _ => 0)))] ++ [(q2, .inl (cA, 2334, .inl (fun _ => 0)))] ++ [(q3, .inl (cA, 389, .inl (fun _ => 0)))] ++ [(q4, .inl (cA, 64, .inl (fun _ => 0)))] ++ [(q5, .inl (cA, 600, .inl (fun _ => 0)))] ++ [(q6, .inl (cA, 400, .inl (fun _ => 0)))] ++ [(q7, .inl (cA, 150, .inl (wf 34)))]) rfl ?_
  refine h_dup X dX10_init_261 (q := 262) rfl rfl ?_
  refine h_bipush X dX10_init_262 (q := 264) rfl li_b34 ?_
  refine h_bipush X dX10_init_264 (q := 266) rfl li_b116 ?_
  refine h_iastW X 7 rfl (i := (34 : Int32)) (j := 34) (by decide) (by decide) dX10_init_266 (q := 267) rfl (wf_s 34 (by decide)) (ws' := [(a, .inr (10, [.int 0, .ref q1, .ref q2, .int 0, .ref q3, .int 0, .int 0, .int 0, .int 0, .ref q4, .ref q5, .ref q6, .int 0, .int 0, .int 0, .int 0, .int 0, .null, .null, .null, .null, .null, .null, .null, .null, .int 0, .int 0, .int 0, .null, .int 0, .int 0, .int 0, .int 0, .int 0, .int 0, .null, .int 0, .null, .int 0, .int 0, .int 0, .null, .int 0, .null, .null, .null, .int 0, .null, .int 0, .int 0, .int 0, .int 0, .int 0, .null]))] ++ [(q1, .inl (cA, 389, .inl (fun _ => 0)))] ++ [(q2, .inl (cA, 2334, .inl (fun _ => 0)))] ++ [(q3, .inl (cA, 389, .inl (fun _ => 0)))] ++ [(q4, .inl (cA, 64, .inl (fun _ => 0)))] ++ [(q5, .inl (cA, 600, .inl (fun _ => 0)))] ++ [(q6, .inl (cA, 400, .inl (fun _ => 0)))] ++ [(q7, .inl (cA, 150, .inl (wf 35)))]) rfl ?_
  refine h_dup X dX10_init_267 (q := 268) rfl rfl ?_
  refine h_bipush X dX10_init_268 (q := 270) rfl li_b35 ?_
  refine h_bipush X dX10_init_270 (q := 272) rfl li_b32 ?_
  refine h_iastW X 7 rfl (i := (35 : Int32)) (j := 35) (by decide) (by decide) dX10_init_272 (q := 273) rfl (wf_s 35 (by decide)) (ws' := [(a, .inr (10, [.int 0, .ref q1, .ref q2, .int 0, .ref q3, .int 0, .int 0, .int 0, .int 0, .ref q4, .ref q5, .ref q6, .int 0, .int 0, .int 0, .int 0, .int 0, .null, .null, .null, .null, .null, .null, .null, .null, .int 0, .int 0, .int 0, .null, .int 0, .int 0, .int 0, .int 0, .int 0, .int 0, .null, .int 0, .null, .int 0, .int 0, .int 0, .null, .int 0, .null, .null, .null, .int 0, .null, .int 0, .int 0, .int 0, .int 0, .int 0, .null]))] ++ [(q1, .inl (cA, 389, .inl (fun _ => 0)))] ++ [(q2, .inl (cA, 2334, .inl (fun _ => 0)))] ++ [(q3, .inl (cA, 389, .inl (fun _ => 0)))] ++ [(q4, .inl (cA, 64, .inl (fun _ => 0)))] ++ [(q5, .inl (cA, 600, .inl (fun _ => 0)))] ++ [(q6, .inl (cA, 400, .inl (fun _ => 0)))] ++ [(q7, .inl (cA, 150, .inl (wf 36)))]) rfl ?_
  refine h_dup X dX10_init_273 (q := 274) rfl rfl ?_
  refine h_bipush X dX10_init_274 (q := 276) rfl li_b36 ?_
  refine h_bipush X dX10_init_276 (q := 278) rfl li_b115 ?_
  refine h_iastW X 7 rfl (i := (36 : Int32)) (j := 36) (by decide) (by decide) dX10_init_278 (q := 279) rfl (wf_s 36 (by decide)) (ws' := [(a, .inr (10, [.int 0, .ref q1, .ref q2, .int 0, .ref q3, .int 0, .int 0, .int 0, .int 0, .ref q4, .ref q5, .ref q6, .int 0, .int 0, .int 0, .int 0, .int 0, .null, .null, .null, .null, .null, .null, .null, .null, .int 0, .int 0, .int 0, .null, .int 0, .int 0, .int 0, .int 0, .int 0, .int 0, .null, .int 0, .null, .int 0, .int 0, .int 0, .null, .int 0, .null, .null, .null, .int 0, .null, .int 0, .int 0, .int 0, .int 0, .int 0, .null]))] ++ [(q1, .inl (cA, 389, .inl (fun _ => 0)))] ++ [(q2, .inl (cA, 2334, .inl (fun _ => 0)))] ++ [(q3, .inl (cA, 389, .inl (fun _ => 0)))] ++ [(q4, .inl (cA, 64, .inl (fun _ => 0)))] ++ [(q5, .inl (cA, 600, .inl (fun _ => 0)))] ++ [(q6, .inl (cA, 400, .inl (fun _ => 0)))] ++ [(q7, .inl (cA, 150, .inl (wf 37)))]) rfl ?_
  refine h_dup X dX10_init_279 (q := 280) rfl rfl ?_
  refine h_bipush X dX10_init_280 (q := 282) rfl li_b37 ?_
  refine h_bipush X dX10_init_282 (q := 284) rfl li_b111 ?_
  refine h_iastW X 7 rfl (i := (37 : Int32)) (j := 37) (by decide) (by decide) dX10_init_284 (q := 285) rfl (wf_s 37 (by decide)) (ws' := [(a, .inr (10, [.int 0, .ref q1, .ref q2, .int 0, .ref q3, .int 0, .int 0, .int 0, .int 0, .ref q4, .ref q5, .ref q6, .int 0, .int 0, .int 0, .int 0, .int 0, .null, .null, .null, .null, .null, .null, .null, .null, .int 0, .int 0, .int 0, .null, .int 0, .int 0, .int 0, .int 0, .int 0, .int 0, .null, .int 0, .null, .int 0, .int 0, .int 0, .null, .int 0, .null, .null, .null, .int 0, .null, .int 0, .int 0, .int 0, .int 0, .int 0, .null]))] ++ [(q1, .inl (cA, 389, .inl (fun _ => 0)))] ++ [(q2, .inl (cA, 2334, .inl (fun _ => 0)))] ++ [(q3, .inl (cA, 389, .inl (fun _ => 0)))] ++ [(q4, .inl (cA, 64, .inl (fun _ => 0)))] ++ [(q5, .inl (cA, 600, .inl (fun _ => 0)))] ++ [(q6, .inl (cA, 400, .inl (fun _ => 0)))] ++ [(q7, .inl (cA, 150, .inl (wf 38)))]) rfl ?_
  refine h_dup X dX10_init_285 (q := 286) rfl rfl ?_
  refine h_bipush X dX10_init_286 (q := 288) rfl li_b38 ?_
  refine h_bipush X dX10_init_288 (q := 290) rfl li_b105 ?_
  refine h_iastW X 7 rfl (i := (38 : Int32)) (j := 38) (by decide) (by decide) dX10_init_290 (q := 291) rfl (wf_s 38 (by decide)) (ws' := [(a, .inr (10, [.int 0, .ref q1, .ref q2, .int 0, .ref q3, .int 0, .int 0, .int 0, .int 0, .ref q4, .ref q5, .ref q6, .int 0, .int 0, .int 0, .int 0, .int 0, .null, .null, .null, .null, .null, .null, .null, .null, .int 0, .int 0, .int 0, .null, .int 0, .int 0, .int 0, .int 0, .int 0, .int 0, .null, .int 0, .null, .int 0, .int 0, .int 0, .null, .int 0, .null, .null, .null, .int 0, .null, .int 0, .int 0, .int 0, .int 0, .int 0, .null]))] ++ [(q1, .inl (cA, 389, .inl (fun _ => 0)))] ++ [(q2, .inl (cA, 2334, .inl (fun _ => 0)))] ++ [(q3, .inl (cA, 389, .inl (fun _ => 0)))] ++ [(q4, .inl (cA, 64, .inl (fun _ => 0)))] ++ [(q5, .inl (cA, 600, .inl (fun _ => 0)))] ++ [(q6, .inl (cA, 400, .inl (fun _ => 0)))] ++ [(q7, .inl (cA, 150, .inl (wf 39)))]) rfl ?_
  refine h_dup X dX10_init_291 (q := 292) rfl rfl ?_
  refine h_bipush X dX10_init_292 (q := 294) rfl li_b39 ?_
  refine h_bipush X dX10_init_294 (q := 296) rfl li_b108 ?_
  refine h_iastW X 7 rfl (i := (39 : Int32)) (j := 39) (by decide) (by decide) dX10_init_296 (q := 297) rfl (wf_s 39 (by decide)) (ws' := [(a, .inr (10, [.int 0, .ref q1, .ref q2, .int 0, .ref q3, .int 0, .int 0, .int 0, .int 0, .ref q4, .ref q5, .ref q6, .int 0, .int 0, .int 0, .int 0, .int 0, .null, .null, .null, .null, .null, .null, .null, .null, .int 0, .int 0, .int 0, .null, .int 0, .int 0, .int 0, .int 0, .int 0, .int 0, .null, .int 0, .null, .int 0, .int 0, .int 0, .null, .int 0, .null, .null, .null, .int 0, .null, .int 0, .int 0, .int 0, .int 0, .int 0, .null]))] ++ [(q1, .inl (cA, 389, .inl (fun _ => 0)))] ++ [(q2, .inl (cA, 2334, .inl (fun _ => 0)))] ++ [(q3, .inl (cA, 389, .inl (fun _ => 0)))] ++ [(q4, .inl (cA, 64, .inl (fun _ => 0)))] ++ [(q5, .inl (cA, 600, .inl (fun _ => 0)))] ++ [(q6, .inl (cA, 400, .inl (fun _ => 0)))] ++ [(q7, .inl (cA, 150, .inl (wf 40)))]) rfl ?_
  refine h_dup X dX10_init_297 (q := 298) rfl rfl ?_
  refine h_bipush X dX10_init_298 (q := 300) rfl li_b40 ?_
  refine h_bipush X dX10_init_300 (q := 302) rfl li_b32 ?_
  refine h_iastW X 7 rfl (i := (40 : Int32)) (j := 40) (by decide) (by decide) dX10_init_302 (q := 303) rfl (wf_s 40 (by decide)) (ws' := [(a, .inr (10, [.int 0, .ref q1, .ref q2, .int 0, .ref q3, .int 0, .int 0, .int 0, .int 0, .ref q4, .ref q5, .ref q6, .int 0, .int 0, .int 0, .int 0, .int 0, .null, .null, .null, .null, .null, .null, .null, .null, .int 0, .int 0, .int 0, .null, .int 0, .int 0, .int 0, .int 0, .int 0, .int 0, .null, .int 0, .null, .int 0, .int 0, .int 0, .null, .int 0, .null, .null, .null, .int 0, .null, .int 0, .int 0, .int 0, .int 0, .int 0, .null]))] ++ [(q1, .inl (cA, 389, .inl (fun _ => 0)))] ++ [(q2, .inl (cA, 2334, .inl (fun _ => 0)))] ++ [(q3, .inl (cA, 389, .inl (fun _ => 0)))] ++ [(q4, .inl (cA, 64, .inl (fun _ => 0)))] ++ [(q5, .inl (cA, 600, .inl (fun _ => 0)))] ++ [(q6, .inl (cA, 400, .inl (fun _ => 0)))] ++ [(q7, .inl (cA, 150, .inl (wf 41)))]) rfl ?_
  refine h_dup X dX10_init_303 (q := 304) rfl rfl ?_
  refine h_bipush X dX10_init_304 (q := 306) rfl li_b41 ?_
  refine h_bipush X dX10_init_306 (q := 308) rfl li_b98 ?_
  refine h_iastW X 7 rfl (i := (41 : Int32)) (j := 41) (by decide) (by decide) dX10_init_308 (q := 309) rfl (wf_s 41 (by decide)) (ws' := [(a, .inr (10, [.int 0, .ref q1, .ref q2, .int 0, .ref q3, .int 0, .int 0, .int 0, .int 0, .ref q4, .ref q5, .ref q6, .int 0, .int 0, .int 0, .int 0, .int 0, .null, .null, .null, .null, .null, .null, .null, .null, .int 0, .int 0, .int 0, .null, .int 0, .int 0, .int 0, .int 0, .int 0, .int 0, .null, .int 0, .null, .int 0, .int 0, .int 0, .null, .int 0, .null, .null, .null, .int 0, .null, .int 0, .int 0, .int 0, .int 0, .int 0, .null]))] ++ [(q1, .inl (cA, 389, .inl (fun _ => 0)))] ++ [(q2, .inl (cA, 2334, .inl (fun _ => 0)))] ++ [(q3, .inl (cA, 389, .inl (fun _ => 0)))] ++ [(q4, .inl (cA, 64, .inl (fun _ => 0)))] ++ [(q5, .inl (cA, 600, .inl (fun _ => 0)))] ++ [(q6, .inl (cA, 400, .inl (fun _ => 0)))] ++ [(q7, .inl (cA, 150, .inl (wf 42)))]) rfl ?_
  refine h_dup X dX10_init_309 (q := 310) rfl rfl ?_
  refine h_bipush X dX10_init_310 (q := 312) rfl li_b42 ?_
  refine h_bipush X dX10_init_312 (q := 314) rfl li_b101 ?_
  refine h_iastW X 7 rfl (i := (42 : Int32)) (j := 42) (by decide) (by decide) dX10_init_314 (q := 315) rfl (wf_s 42 (by decide)) (ws' := [(a, .inr (10, [.int 0, .ref q1, .ref q2, .int 0, .ref q3, .int 0, .int 0, .int 0, .int 0, .ref q4, .ref q5, .ref q6, .int 0, .int 0, .int 0, .int 0, .int 0, .null, .null, .null, .null, .null, .null, .null, .null, .int 0, .int 0, .int 0, .null, .int 0, .int 0, .int 0, .int 0, .int 0, .int 0, .null, .int 0, .null, .int 0, .int 0, .int 0, .null, .int 0, .null, .null, .null, .int 0, .null, .int 0, .int 0, .int 0, .int 0, .int 0, .null]))] ++ [(q1, .inl (cA, 389, .inl (fun _ => 0)))] ++ [(q2, .inl (cA, 2334, .inl (fun _ => 0)))] ++ [(q3, .inl (cA, 389, .inl (fun _ => 0)))] ++ [(q4, .inl (cA, 64, .inl (fun _ => 0)))] ++ [(q5, .inl (cA, 600, .inl (fun _ => 0)))] ++ [(q6, .inl (cA, 400, .inl (fun _ => 0)))] ++ [(q7, .inl (cA, 150, .inl (wf 43)))]) rfl ?_
  refine h_dup X dX10_init_315 (q := 316) rfl rfl ?_
  refine h_bipush X dX10_init_316 (q := 318) rfl li_b43 ?_
  refine h_bipush X dX10_init_318 (q := 320) rfl li_b115 ?_
  refine h_iastW X 7 rfl (i := (43 : Int32)) (j := 43) (by decide) (by decide) dX10_init_320 (q := 321) rfl (wf_s 43 (by decide)) (ws' := [(a, .inr (10, [.int 0, .ref q1, .ref q2, .int 0, .ref q3, .int 0, .int 0, .int 0, .int 0, .ref q4, .ref q5, .ref q6, .int 0, .int 0, .int 0, .int 0, .int 0, .null, .null, .null, .null, .null, .null, .null, .null, .int 0, .int 0, .int 0, .null, .int 0, .int 0, .int 0, .int 0, .int 0, .int 0, .null, .int 0, .null, .int 0, .int 0, .int 0, .null, .int 0, .null, .null, .null, .int 0, .null, .int 0, .int 0, .int 0, .int 0, .int 0, .null]))] ++ [(q1, .inl (cA, 389, .inl (fun _ => 0)))] ++ [(q2, .inl (cA, 2334, .inl (fun _ => 0)))] ++ [(q3, .inl (cA, 389, .inl (fun _ => 0)))] ++ [(q4, .inl (cA, 64, .inl (fun _ => 0)))] ++ [(q5, .inl (cA, 600, .inl (fun _ => 0)))] ++ [(q6, .inl (cA, 400, .inl (fun _ => 0)))] ++ [(q7, .inl (cA, 150, .inl (wf 44)))]) rfl ?_
  refine h_dup X dX10_init_321 (q := 322) rfl rfl ?_
  refine h_bipush X dX10_init_322 (q := 324) rfl li_b44 ?_
  refine h_bipush X dX10_init_324 (q := 326) rfl li_b105 ?_
  refine h_iastW X 7 rfl (i := (44 : Int32)) (j := 44) (by decide) (by decide) dX10_init_326 (q := 327) rfl (wf_s 44 (by decide)) (ws' := [(a, .inr (10, [.int 0, .ref q1, .ref q2, .int 0, .ref q3, .int 0, .int 0, .int 0, .int 0, .ref q4, .ref q5, .ref q6, .int 0, .int 0, .int 0, .int 0, .int 0, .null, .null, .null, .null, .null, .null, .null, .null, .int 0, .int 0, .int 0, .null, .int 0, .int 0, .int 0, .int 0, .int 0, .int 0, .null, .int 0, .null, .int 0, .int 0, .int 0, .null, .int 0, .null, .null, .null, .int 0, .null, .int 0, .int 0, .int 0, .int 0, .int 0, .null]))] ++ [(q1, .inl (cA, 389, .inl (fun _ => 0)))] ++ [(q2, .inl (cA, 2334, .inl (fun _ => 0)))] ++ [(q3, .inl (cA, 389, .inl (fun _ => 0)))] ++ [(q4, .inl (cA, 64, .inl (fun _ => 0)))] ++ [(q5, .inl (cA, 600, .inl (fun _ => 0)))] ++ [(q6, .inl (cA, 400, .inl (fun _ => 0)))] ++ [(q7, .inl (cA, 150, .inl (wf 45)))]) rfl ?_
  refine h_dup X dX10_init_327 (q := 328) rfl rfl ?_
  refine h_bipush X dX10_init_328 (q := 330) rfl li_b45 ?_
  refine h_bipush X dX10_init_330 (q := 332) rfl li_b100 ?_
  refine h_iastW X 7 rfl (i := (45 : Int32)) (j := 45) (by decide) (by decide) dX10_init_332 (q := 333) rfl (wf_s 45 (by decide)) (ws' := [(a, .inr (10, [.int 0, .ref q1, .ref q2, .int 0, .ref q3, .int 0, .int 0, .int 0, .int 0, .ref q4, .ref q5, .ref q6, .int 0, .int 0, .int 0, .int 0, .int 0, .null, .null, .null, .null, .null, .null, .null, .null, .int 0, .int 0, .int 0, .null, .int 0, .int 0, .int 0, .int 0, .int 0, .int 0, .null, .int 0, .null, .int 0, .int 0, .int 0, .null, .int 0, .null, .null, .null, .int 0, .null, .int 0, .int 0, .int 0, .int 0, .int 0, .null]))] ++ [(q1, .inl (cA, 389, .inl (fun _ => 0)))] ++ [(q2, .inl (cA, 2334, .inl (fun _ => 0)))] ++ [(q3, .inl (cA, 389, .inl (fun _ => 0)))] ++ [(q4, .inl (cA, 64, .inl (fun _ => 0)))] ++ [(q5, .inl (cA, 600, .inl (fun _ => 0)))] ++ [(q6, .inl (cA, 400, .inl (fun _ => 0)))] ++ [(q7, .inl (cA, 150, .inl (wf 46)))]) rfl ?_
  refine h_dup X dX10_init_333 (q := 334) rfl rfl ?_
  refine h_bipush X dX10_init_334 (q := 336) rfl li_b46 ?_
  refine h_bipush X dX10_init_336 (q := 338) rfl li_b101 ?_
  refine h_iastW X 7 rfl (i := (46 : Int32)) (j := 46) (by decide) (by decide) dX10_init_338 (q := 339) rfl (wf_s 46 (by decide)) (ws' := [(a, .inr (10, [.int 0, .ref q1, .ref q2, .int 0, .ref q3, .int 0, .int 0, .int 0, .int 0, .ref q4, .ref q5, .ref q6, .int 0, .int 0, .int 0, .int 0, .int 0, .null, .null, .null, .null, .null, .null, .null, .null, .int 0, .int 0, .int 0, .null, .int 0, .int 0, .int 0, .int 0, .int 0, .int 0, .null, .int 0, .null, .int 0, .int 0, .int 0, .null, .int 0, .null, .null, .null, .int 0, .null, .int 0, .int 0, .int 0, .int 0, .int 0, .null]))] ++ [(q1, .inl (cA, 389, .inl (fun _ => 0)))] ++ [(q2, .inl (cA, 2334, .inl (fun _ => 0)))] ++ [(q3, .inl (cA, 389, .inl (fun _ => 0)))] ++ [(q4, .inl (cA, 64, .inl (fun _ => 0)))] ++ [(q5, .inl (cA, 600, .inl (fun _ => 0)))] ++ [(q6, .inl (cA, 400, .inl (fun _ => 0)))] ++ [(q7, .inl (cA, 150, .inl (wf 47)))]) rfl ?_
  refine h_dup X dX10_init_339 (q := 340) rfl rfl ?_
  refine h_bipush X dX10_init_340 (q := 342) rfl li_b47 ?_
  refine h_bipush X dX10_init_342 (q := 344) rfl li_b32 ?_
  refine h_iastW X 7 rfl (i := (47 : Int32)) (j := 47) (by decide) (by decide) dX10_init_344 (q := 345) rfl (wf_s 47 (by decide)) (ws' := [(a, .inr (10, [.int 0, .ref q1, .ref q2, .int 0, .ref q3, .int 0, .int 0, .int 0, .int 0, .ref q4, .ref q5, .ref q6, .int 0, .int 0, .int 0, .int 0, .int 0, .null, .null, .null, .null, .null, .null, .null, .null, .int 0, .int 0, .int 0, .null, .int 0, .int 0, .int 0, .int 0, .int 0, .int 0, .null, .int 0, .null, .int 0, .int 0, .int 0, .null, .int 0, .null, .null, .null, .int 0, .null, .int 0, .int 0, .int 0, .int 0, .int 0, .null]))] ++ [(q1, .inl (cA, 389, .inl (fun _ => 0)))] ++ [(q2, .inl (cA, 2334, .inl (fun _ => 0)))] ++ [(q3, .inl (cA, 389, .inl (fun _ => 0)))] ++ [(q4, .inl (cA, 64, .inl (fun _ => 0)))] ++ [(q5, .inl (cA, 600, .inl (fun _ => 0)))] ++ [(q6, .inl (cA, 400, .inl (fun _ => 0)))] ++ [(q7, .inl (cA, 150, .inl (wf 48)))]) rfl ?_
  refine h_dup X dX10_init_345 (q := 346) rfl rfl ?_
  refine h_bipush X dX10_init_346 (q := 348) rfl li_b48 ?_
  refine h_bipush X dX10_init_348 (q := 350) rfl li_b100 ?_
  refine h_iastW X 7 rfl (i := (48 : Int32)) (j := 48) (by decide) (by decide) dX10_init_350 (q := 351) rfl (wf_s 48 (by decide)) (ws' := [(a, .inr (10, [.int 0, .ref q1, .ref q2, .int 0, .ref q3, .int 0, .int 0, .int 0, .int 0, .ref q4, .ref q5, .ref q6, .int 0, .int 0, .int 0, .int 0, .int 0, .null, .null, .null, .null, .null, .null, .null, .null, .int 0, .int 0, .int 0, .null, .int 0, .int 0, .int 0, .int 0, .int 0, .int 0, .null, .int 0, .null, .int 0, .int 0, .int 0, .null, .int 0, .null, .null, .null, .int 0, .null, .int 0, .int 0, .int 0, .int 0, .int 0, .null]))] ++ [(q1, .inl (cA, 389, .inl (fun _ => 0)))] ++ [(q2, .inl (cA, 2334, .inl (fun _ => 0)))] ++ [(q3, .inl (cA, 389, .inl (fun _ => 0)))] ++ [(q4, .inl (cA, 64, .inl (fun _ => 0)))] ++ [(q5, .inl (cA, 600, .inl (fun _ => 0)))] ++ [(q6, .inl (cA, 400, .inl (fun _ => 0)))] ++ [(q7, .inl (cA, 150, .inl (wf 49)))]) rfl ?_
  refine h_dup X dX10_init_351 (q := 352) rfl rfl ?_
  refine h_bipush X dX10_init_352 (q := 354) rfl li_b49 ?_
  refine h_bipush X dX10_init_354 (q := 356) rfl li_b97 ?_
  refine h_iastW X 7 rfl (i := (49 : Int32)) (j := 49) (by decide) (by decide) dX10_init_356 (q := 357) rfl (wf_s 49 (by decide)) (ws' := [(a, .inr (10, [.int 0, .ref q1, .ref q2, .int 0, .ref q3, .int 0, .int 0, .int 0, .int 0, .ref q4, .ref q5, .ref q6, .int 0, .int 0, .int 0, .int 0, .int 0, .null, .null, .null, .null, .null, .null, .null, .null, .int 0, .int 0, .int 0, .null, .int 0, .int 0, .int 0, .int 0, .int 0, .int 0, .null, .int 0, .null, .int 0, .int 0, .int 0, .null, .int 0, .null, .null, .null, .int 0, .null, .int 0, .int 0, .int 0, .int 0, .int 0, .null]))] ++ [(q1, .inl (cA, 389, .inl (fun _ => 0)))] ++ [(q2, .inl (cA, 2334, .inl (fun _ => 0)))] ++ [(q3, .inl (cA, 389, .inl (fun _ => 0)))] ++ [(q4, .inl (cA, 64, .inl (fun _ => 0)))] ++ [(q5, .inl (cA, 600, .inl (fun _ => 0)))] ++ [(q6, .inl (cA, 400, .inl (fun _ => 0)))] ++ [(q7, .inl (cA, 150, .inl (wf 50)))]) rfl ?_
  refine h_dup X dX10_init_357 (q := 358) rfl rfl ?_
  refine h_bipush X dX10_init_358 (q := 360) rfl li_b50 ?_
  refine h_bipush X dX10_init_360 (q := 362) rfl li_b121 ?_
  refine h_iastW X 7 rfl (i := (50 : Int32)) (j := 50) (by decide) (by decide) dX10_init_362 (q := 363) rfl (wf_s 50 (by decide)) (ws' := [(a, .inr (10, [.int 0, .ref q1, .ref q2, .int 0, .ref q3, .int 0, .int 0, .int 0, .int 0, .ref q4, .ref q5, .ref q6, .int 0, .int 0, .int 0, .int 0, .int 0, .null, .null, .null, .null, .null, .null, .null, .null, .int 0, .int 0, .int 0, .null, .int 0, .int 0, .int 0, .int 0, .int 0, .int 0, .null, .int 0, .null, .int 0, .int 0, .int 0, .null, .int 0, .null, .null, .null, .int 0, .null, .int 0, .int 0, .int 0, .int 0, .int 0, .null]))] ++ [(q1, .inl (cA, 389, .inl (fun _ => 0)))] ++ [(q2, .inl (cA, 2334, .inl (fun _ => 0)))] ++ [(q3, .inl (cA, 389, .inl (fun _ => 0)))] ++ [(q4, .inl (cA, 64, .inl (fun _ => 0)))] ++ [(q5, .inl (cA, 600, .inl (fun _ => 0)))] ++ [(q6, .inl (cA, 400, .inl (fun _ => 0)))] ++ [(q7, .inl (cA, 150, .inl (wf 51)))]) rfl ?_
  refine h_dup X dX10_init_363 (q := 364) rfl rfl ?_
  refine h_bipush X dX10_init_364 (q := 366) rfl li_b51 ?_
  refine h_bipush X dX10_init_366 (q := 368) rfl li_b32 ?_
  refine h_iastW X 7 rfl (i := (51 : Int32)) (j := 51) (by decide) (by decide) dX10_init_368 (q := 369) rfl (wf_s 51 (by decide)) (ws' := [(a, .inr (10, [.int 0, .ref q1, .ref q2, .int 0, .ref q3, .int 0, .int 0, .int 0, .int 0, .ref q4, .ref q5, .ref q6, .int 0, .int 0, .int 0, .int 0, .int 0, .null, .null, .null, .null, .null, .null, .null, .null, .int 0, .int 0, .int 0, .null, .int 0, .int 0, .int 0, .int 0, .int 0, .int 0, .null, .int 0, .null, .int 0, .int 0, .int 0, .null, .int 0, .null, .null, .null, .int 0, .null, .int 0, .int 0, .int 0, .int 0, .int 0, .null]))] ++ [(q1, .inl (cA, 389, .inl (fun _ => 0)))] ++ [(q2, .inl (cA, 2334, .inl (fun _ => 0)))] ++ [(q3, .inl (cA, 389, .inl (fun _ => 0)))] ++ [(q4, .inl (cA, 64, .inl (fun _ => 0)))] ++ [(q5, .inl (cA, 600, .inl (fun _ => 0)))] ++ [(q6, .inl (cA, 400, .inl (fun _ => 0)))] ++ [(q7, .inl (cA, 150, .inl (wf 52)))]) rfl ?_
  refine h_dup X dX10_init_369 (q := 370) rfl rfl ?_
  refine h_bipush X dX10_init_370 (q := 372) rfl li_b52 ?_
  refine h_bipush X dX10_init_372 (q := 374) rfl li_b101 ?_
  refine h_iastW X 7 rfl (i := (52 : Int32)) (j := 52) (by decide) (by decide) dX10_init_374 (q := 375) rfl (wf_s 52 (by decide)) (ws' := [(a, .inr (10, [.int 0, .ref q1, .ref q2, .int 0, .ref q3, .int 0, .int 0, .int 0, .int 0, .ref q4, .ref q5, .ref q6, .int 0, .int 0, .int 0, .int 0, .int 0, .null, .null, .null, .null, .null, .null, .null, .null, .int 0, .int 0, .int 0, .null, .int 0, .int 0, .int 0, .int 0, .int 0, .int 0, .null, .int 0, .null, .int 0, .int 0, .int 0, .null, .int 0, .null, .null, .null, .int 0, .null, .int 0, .int 0, .int 0, .int 0, .int 0, .null]))] ++ [(q1, .inl (cA, 389, .inl (fun _ => 0)))] ++ [(q2, .inl (cA, 2334, .inl (fun _ => 0)))] ++ [(q3, .inl (cA, 389, .inl (fun _ => 0)))] ++ [(q4, .inl (cA, 64, .inl (fun _ => 0)))] ++ [(q5, .inl (cA, 600, .inl (fun _ => 0)))] ++ [(q6, .inl (cA, 400, .inl (fun _ => 0)))] ++ [(q7, .inl (cA, 150, .inl (wf 53)))]) rfl ?_
  refine h_dup X dX10_init_375 (q := 376) rfl rfl ?_
  refine h_bipush X dX10_init_376 (q := 378) rfl li_b53 ?_
  refine h_bipush X dX10_init_378 (q := 380) rfl li_b100 ?_
  refine h_iastW X 7 rfl (i := (53 : Int32)) (j := 53) (by decide) (by decide) dX10_init_380 (q := 381) rfl (wf_s 53 (by decide)) (ws' := [(a, .inr (10, [.int 0, .ref q1, .ref q2, .int 0, .ref q3, .int 0, .int 0, .int 0, .int 0, .ref q4, .ref q5, .ref q6, .int 0, .int 0, .int 0, .int 0, .int 0, .null, .null, .null, .null, .null, .null, .null, .null, .int 0, .int 0, .int 0, .null, .int 0, .int 0, .int 0, .int 0, .int 0, .int 0, .null, .int 0, .null, .int 0, .int 0, .int 0, .null, .int 0, .null, .null, .null, .int 0, .null, .int 0, .int 0, .int 0, .int 0, .int 0, .null]))] ++ [(q1, .inl (cA, 389, .inl (fun _ => 0)))] ++ [(q2, .inl (cA, 2334, .inl (fun _ => 0)))] ++ [(q3, .inl (cA, 389, .inl (fun _ => 0)))] ++ [(q4, .inl (cA, 64, .inl (fun _ => 0)))] ++ [(q5, .inl (cA, 600, .inl (fun _ => 0)))] ++ [(q6, .inl (cA, 400, .inl (fun _ => 0)))] ++ [(q7, .inl (cA, 150, .inl (wf 54)))]) rfl ?_
  refine h_dup X dX10_init_381 (q := 382) rfl rfl ?_
  refine h_bipush X dX10_init_382 (q := 384) rfl li_b54 ?_
  refine h_bipush X dX10_init_384 (q := 386) rfl li_b103 ?_
  refine h_iastW X 7 rfl (i := (54 : Int32)) (j := 54) (by decide) (by decide) dX10_init_386 (q := 387) rfl (wf_s 54 (by decide)) (ws' := [(a, .inr (10, [.int 0, .ref q1, .ref q2, .int 0, .ref q3, .int 0, .int 0, .int 0, .int 0, .ref q4, .ref q5, .ref q6, .int 0, .int 0, .int 0, .int 0, .int 0, .null, .null, .null, .null, .null, .null, .null, .null, .int 0, .int 0, .int 0, .null, .int 0, .int 0, .int 0, .int 0, .int 0, .int 0, .null, .int 0, .null, .int 0, .int 0, .int 0, .null, .int 0, .null, .null, .null, .int 0, .null, .int 0, .int 0, .int 0, .int 0, .int 0, .null]))] ++ [(q1, .inl (cA, 389, .inl (fun _ => 0)))] ++ [(q2, .inl (cA, 2334, .inl (fun _ => 0)))] ++ [(q3, .inl (cA, 389, .inl (fun _ => 0)))] ++ [(q4, .inl (cA, 64, .inl (fun _ => 0)))] ++ [(q5, .inl (cA, 600, .inl (fun _ => 0)))] ++ [(q6, .inl (cA, 400, .inl (fun _ => 0)))] ++ [(q7, .inl (cA, 150, .inl (wf 55)))]) rfl ?_
  refine h_dup X dX10_init_387 (q := 388) rfl rfl ?_
  refine h_bipush X dX10_init_388 (q := 390) rfl li_b55 ?_
  refine h_bipush X dX10_init_390 (q := 392) rfl li_b101 ?_
  refine h_iastW X 7 rfl (i := (55 : Int32)) (j := 55) (by decide) (by decide) dX10_init_392 (q := 393) rfl (wf_s 55 (by decide)) (ws' := [(a, .inr (10, [.int 0, .ref q1, .ref q2, .int 0, .ref q3, .int 0, .int 0, .int 0, .int 0, .ref q4, .ref q5, .ref q6, .int 0, .int 0, .int 0, .int 0, .int 0, .null, .null, .null, .null, .null, .null, .null, .null, .int 0, .int 0, .int 0, .null, .int 0, .int 0, .int 0, .int 0, .int 0, .int 0, .null, .int 0, .null, .int 0, .int 0, .int 0, .null, .int 0, .null, .null, .null, .int 0, .null, .int 0, .int 0, .int 0, .int 0, .int 0, .null]))] ++ [(q1, .inl (cA, 389, .inl (fun _ => 0)))] ++ [(q2, .inl (cA, 2334, .inl (fun _ => 0)))] ++ [(q3, .inl (cA, 389, .inl (fun _ => 0)))] ++ [(q4, .inl (cA, 64, .inl (fun _ => 0)))] ++ [(q5, .inl (cA, 600, .inl (fun _ => 0)))] ++ [(q6, .inl (cA, 400, .inl (fun _ => 0)))] ++ [(q7, .inl (cA, 150, .inl (wf 56)))]) rfl ?_
  refine h_dup X dX10_init_393 (q := 394) rfl rfl ?_
  refine h_bipush X dX10_init_394 (q := 396) rfl li_b56 ?_
  refine h_bipush X dX10_init_396 (q := 398) rfl li_b32 ?_
  refine h_iastW X 7 rfl (i := (56 : Int32)) (j := 56) (by decide) (by decide) dX10_init_398 (q := 399) rfl (wf_s 56 (by decide)) (ws' := [(a, .inr (10, [.int 0, .ref q1, .ref q2, .int 0, .ref q3, .int 0, .int 0, .int 0, .int 0, .ref q4, .ref q5, .ref q6, .int 0, .int 0, .int 0, .int 0, .int 0, .null, .null, .null, .null, .null, .null, .null, .null, .int 0, .int 0, .int 0, .null, .int 0, .int 0, .int 0, .int 0, .int 0, .int 0, .null, .int 0, .null, .int 0, .int 0, .int 0, .null, .int 0, .null, .null, .null, .int 0, .null, .int 0, .int 0, .int 0, .int 0, .int 0, .null]))] ++ [(q1, .inl (cA, 389, .inl (fun _ => 0)))] ++ [(q2, .inl (cA, 2334, .inl (fun _ => 0)))] ++ [(q3, .inl (cA, 389, .inl (fun _ => 0)))] ++ [(q4, .inl (cA, 64, .inl (fun _ => 0)))] ++ [(q5, .inl (cA, 600, .inl (fun _ => 0)))] ++ [(q6, .inl (cA, 400, .inl (fun _ => 0)))] ++ [(q7, .inl (cA, 150, .inl (wf 57)))]) rfl ?_
  refine h_dup X dX10_init_399 (q := 400) rfl rfl ?_
  refine h_bipush X dX10_init_400 (q := 402) rfl li_b57 ?_
  refine h_bipush X dX10_init_402 (q := 404) rfl li_b104 ?_
  refine h_iastW X 7 rfl (i := (57 : Int32)) (j := 57) (by decide) (by decide) dX10_init_404 (q := 405) rfl (wf_s 57 (by decide)) (ws' := [(a, .inr (10, [.int 0, .ref q1, .ref q2, .int 0, .ref q3, .int 0, .int 0, .int 0, .int 0, .ref q4, .ref q5, .ref q6, .int 0, .int 0, .int 0, .int 0, .int 0, .null, .null, .null, .null, .null, .null, .null, .null, .int 0, .int 0, .int 0, .null, .int 0, .int 0, .int 0, .int 0, .int 0, .int 0, .null, .int 0, .null, .int 0, .int 0, .int 0, .null, .int 0, .null, .null, .null, .int 0, .null, .int 0, .int 0, .int 0, .int 0, .int 0, .null]))] ++ [(q1, .inl (cA, 389, .inl (fun _ => 0)))] ++ [(q2, .inl (cA, 2334, .inl (fun _ => 0)))] ++ [(q3, .inl (cA, 389, .inl (fun _ => 0)))] ++ [(q4, .inl (cA, 64, .inl (fun _ => 0)))] ++ [(q5, .inl (cA, 600, .inl (fun _ => 0)))] ++ [(q6, .inl (cA, 400, .inl (fun _ => 0)))] ++ [(q7, .inl (cA, 150, .inl (wf 58)))]) rfl ?_
  refine h_dup X dX10_init_405 (q := 406) rfl rfl ?_
  refine h_bipush X dX10_init_406 (q := 408) rfl li_b58 ?_
  refine h_bipush X dX10_init_408 (q := 410) rfl li_b101 ?_
  refine h_iastW X 7 rfl (i := (58 : Int32)) (j := 58) (by decide) (by decide) dX10_init_410 (q := 411) rfl (wf_s 58 (by decide)) (ws' := [(a, .inr (10, [.int 0, .ref q1, .ref q2, .int 0, .ref q3, .int 0, .int 0, .int 0, .int 0, .ref q4, .ref q5, .ref q6, .int 0, .int 0, .int 0, .int 0, .int 0, .null, .null, .null, .null, .null, .null, .null, .null, .int 0, .int 0, .int 0, .null, .int 0, .int 0, .int 0, .int 0, .int 0, .int 0, .null, .int 0, .null, .int 0, .int 0, .int 0, .null, .int 0, .null, .null, .null, .int 0, .null, .int 0, .int 0, .int 0, .int 0, .int 0, .null]))] ++ [(q1, .inl (cA, 389, .inl (fun _ => 0)))] ++ [(q2, .inl (cA, 2334, .inl (fun _ => 0)))] ++ [(q3, .inl (cA, 389, .inl (fun _ => 0)))] ++ [(q4, .inl (cA, 64, .inl (fun _ => 0)))] ++ [(q5, .inl (cA, 600, .inl (fun _ => 0)))] ++ [(q6, .inl (cA, 400, .inl (fun _ => 0)))] ++ [(q7, .inl (cA, 150, .inl (wf 59)))]) rfl ?_
  refine h_dup X dX10_init_411 (q := 412) rfl rfl ?_
  refine h_bipush X dX10_init_412 (q := 414) rfl li_b59 ?_
  refine h_bipush X dX10_init_414 (q := 416) rfl li_b100 ?_
  refine h_iastW X 7 rfl (i := (59 : Int32)) (j := 59) (by decide) (by decide) dX10_init_416 (q := 417) rfl (wf_s 59 (by decide)) (ws' := [(a, .inr (10, [.int 0, .ref q1, .ref q2, .int 0, .ref q3, .int 0, .int 0, .int 0, .int 0, .ref q4, .ref q5, .ref q6, .int 0, .int 0, .int 0, .int 0, .int 0, .null, .null, .null, .null, .null, .null, .null, .null, .int 0, .int 0, .int 0, .null, .int 0, .int 0, .int 0, .int 0, .int 0, .int 0, .null, .int 0, .null, .int 0, .int 0, .int 0, .null, .int 0, .null, .null, .null, .int 0, .null, .int 0, .int 0, .int 0, .int 0, .int 0, .null]))] ++ [(q1, .inl (cA, 389, .inl (fun _ => 0)))] ++ [(q2, .inl (cA, 2334, .inl (fun _ => 0)))] ++ [(q3, .inl (cA, 389, .inl (fun _ => 0)))] ++ [(q4, .inl (cA, 64, .inl (fun _ => 0)))] ++ [(q5, .inl (cA, 600, .inl (fun _ => 0)))] ++ [(q6, .inl (cA, 400, .inl (fun _ => 0)))] ++ [(q7, .inl (cA, 150, .inl (wf 60)))]) rfl ?_
  refine h_dup X dX10_init_417 (q := 418) rfl rfl ?_
  refine h_bipush X dX10_init_418 (q := 420) rfl li_b60 ?_
  refine h_bipush X dX10_init_420 (q := 422) rfl li_b103 ?_
  refine h_iastW X 7 rfl (i := (60 : Int32)) (j := 60) (by decide) (by decide) dX10_init_422 (q := 423) rfl (wf_s 60 (by decide)) (ws' := [(a, .inr (10, [.int 0, .ref q1, .ref q2, .int 0, .ref q3, .int 0, .int 0, .int 0, .int 0, .ref q4, .ref q5, .ref q6, .int 0, .int 0, .int 0, .int 0, .int 0, .null, .null, .null, .null, .null, .null, .null, .null, .int 0, .int 0, .int 0, .null, .int 0, .int 0, .int 0, .int 0, .int 0, .int 0, .null, .int 0, .null, .int 0, .int 0, .int 0, .null, .int 0, .null, .null, .null, .int 0, .null, .int 0, .int 0, .int 0, .int 0, .int 0, .null]))] ++ [(q1, .inl (cA, 389, .inl (fun _ => 0)))] ++ [(q2, .inl (cA, 2334, .inl (fun _ => 0)))] ++ [(q3, .inl (cA, 389, .inl (fun _ => 0)))] ++ [(q4, .inl (cA, 64, .inl (fun _ => 0)))] ++ [(q5, .inl (cA, 600, .inl (fun _ => 0)))] ++ [(q6, .inl (cA, 400, .inl (fun _ => 0)))] ++ [(q7, .inl (cA, 150, .inl (wf 61)))]) rfl ?_
  refine h_dup X dX10_init_423 (q := 424) rfl rfl ?_
  refine h_bipush X dX10_init_424 (q := 426) rfl li_b61 ?_
  refine h_bipush X dX10_init_426 (q := 428) rfl li_b101 ?_
  refine h_iastW X 7 rfl (i := (61 : Int32)) (j := 61) (by decide) (by decide) dX10_init_428 (q := 429) rfl (wf_s 61 (by decide)) (ws' := [(a, .inr (10, [.int 0, .ref q1, .ref q2, .int 0, .ref q3, .int 0, .int 0, .int 0, .int 0, .ref q4, .ref q5, .ref q6, .int 0, .int 0, .int 0, .int 0, .int 0, .null, .null, .null, .null, .null, .null, .null, .null, .int 0, .int 0, .int 0, .null, .int 0, .int 0, .int 0, .int 0, .int 0, .int 0, .null, .int 0, .null, .int 0, .int 0, .int 0, .null, .int 0, .null, .null, .null, .int 0, .null, .int 0, .int 0, .int 0, .int 0, .int 0, .null]))] ++ [(q1, .inl (cA, 389, .inl (fun _ => 0)))] ++ [(q2, .inl (cA, 2334, .inl (fun _ => 0)))] ++ [(q3, .inl (cA, 389, .inl (fun _ => 0)))] ++ [(q4, .inl (cA, 64, .inl (fun _ => 0)))] ++ [(q5, .inl (cA, 600, .inl (fun _ => 0)))] ++ [(q6, .inl (cA, 400, .inl (fun _ => 0)))] ++ [(q7, .inl (cA, 150, .inl (wf 62)))]) rfl ?_
  refine h_dup X dX10_init_429 (q := 430) rfl rfl ?_
  refine h_bipush X dX10_init_430 (q := 432) rfl li_b62 ?_
  refine h_bipush X dX10_init_432 (q := 434) rfl li_b115 ?_
  refine h_iastW X 7 rfl (i := (62 : Int32)) (j := 62) (by decide) (by decide) dX10_init_434 (q := 435) rfl (wf_s 62 (by decide)) (ws' := [(a, .inr (10, [.int 0, .ref q1, .ref q2, .int 0, .ref q3, .int 0, .int 0, .int 0, .int 0, .ref q4, .ref q5, .ref q6, .int 0, .int 0, .int 0, .int 0, .int 0, .null, .null, .null, .null, .null, .null, .null, .null, .int 0, .int 0, .int 0, .null, .int 0, .int 0, .int 0, .int 0, .int 0, .int 0, .null, .int 0, .null, .int 0, .int 0, .int 0, .null, .int 0, .null, .null, .null, .int 0, .null, .int 0, .int 0, .int 0, .int 0, .int 0, .null]))] ++ [(q1, .inl (cA, 389, .inl (fun _ => 0)))] ++ [(q2, .inl (cA, 2334, .inl (fun _ => 0)))] ++ [(q3, .inl (cA, 389, .inl (fun _ => 0)))] ++ [(q4, .inl (cA, 64, .inl (fun _ => 0)))] ++ [(q5, .inl (cA, 600, .inl (fun _ => 0)))] ++ [(q6, .inl (cA, 400, .inl (fun _ => 0)))] ++ [(q7, .inl (cA, 150, .inl (wf 63)))]) rfl ?_
  refine h_dup X dX10_init_435 (q := 436) rfl rfl ?_
  refine h_bipush X dX10_init_436 (q := 438) rfl li_b63 ?_
  refine h_bipush X dX10_init_438 (q := 440) rfl li_b32 ?_
  refine h_iastW X 7 rfl (i := (63 : Int32)) (j := 63) (by decide) (by decide) dX10_init_440 (q := 441) rfl (wf_s 63 (by decide)) (ws' := [(a, .inr (10, [.int 0, .ref q1, .ref q2, .int 0, .ref q3, .int 0, .int 0, .int 0, .int 0, .ref q4, .ref q5, .ref q6, .int 0, .int 0, .int 0, .int 0, .int 0, .null, .null, .null, .null, .null, .null, .null, .null, .int 0, .int 0, .int 0, .null, .int 0, .int 0, .int 0, .int 0, .int 0, .int 0, .null, .int 0, .null, .int 0, .int 0, .int 0, .null, .int 0, .null, .null, .null, .int 0, .null, .int 0, .int 0, .int 0, .int 0, .int 0, .null]))] ++ [(q1, .inl (cA, 389, .inl (fun _ => 0)))] ++ [(q2, .inl (cA, 2334, .inl (fun _ => 0)))] ++ [(q3, .inl (cA, 389, .inl (fun _ => 0)))] ++ [(q4, .inl (cA, 64, .inl (fun _ => 0)))] ++ [(q5, .inl (cA, 600, .inl (fun _ => 0)))] ++ [(q6, .inl (cA, 400, .inl (fun _ => 0)))] ++ [(q7, .inl (cA, 150, .inl (wf 64)))]) rfl ?_
  refine h_dup X dX10_init_441 (q := 442) rfl rfl ?_
  refine h_bipush X dX10_init_442 (q := 444) rfl li_b64 ?_
  refine h_bipush X dX10_init_444 (q := 446) rfl li_b115 ?_
  refine h_iastW X 7 rfl (i := (64 : Int32)) (j := 64) (by decide) (by decide) dX10_init_446 (q := 447) rfl (wf_s 64 (by decide)) (ws' := [(a, .inr (10, [.int 0, .ref q1, .ref q2, .int 0, .ref q3, .int 0, .int 0, .int 0, .int 0, .ref q4, .ref q5, .ref q6, .int 0, .int 0, .int 0, .int 0, .int 0, .null, .null, .null, .null, .null, .null, .null, .null, .int 0, .int 0, .int 0, .null, .int 0, .int 0, .int 0, .int 0, .int 0, .int 0, .null, .int 0, .null, .int 0, .int 0, .int 0, .null, .int 0, .null, .null, .null, .int 0, .null, .int 0, .int 0, .int 0, .int 0, .int 0, .null]))] ++ [(q1, .inl (cA, 389, .inl (fun _ => 0)))] ++ [(q2, .inl (cA, 2334, .inl (fun _ => 0)))] ++ [(q3, .inl (cA, 389, .inl (fun _ => 0)))] ++ [(q4, .inl (cA, 64, .inl (fun _ => 0)))] ++ [(q5, .inl (cA, 600, .inl (fun _ => 0)))] ++ [(q6, .inl (cA, 400, .inl (fun _ => 0)))] ++ [(q7, .inl (cA, 150, .inl (wf 65)))]) rfl ?_
  refine h_dup X dX10_init_447 (q := 448) rfl rfl ?_
  refine h_bipush X dX10_init_448 (q := 450) rfl li_b65 ?_
  refine h_bipush X dX10_init_450 (q := 452) rfl li_b116 ?_
  refine h_iastW X 7 rfl (i := (65 : Int32)) (j := 65) (by decide) (by decide) dX10_init_452 (q := 453) rfl (wf_s 65 (by decide)) (ws' := [(a, .inr (10, [.int 0, .ref q1, .ref q2, .int 0, .ref q3, .int 0, .int 0, .int 0, .int 0, .ref q4, .ref q5, .ref q6, .int 0, .int 0, .int 0, .int 0, .int 0, .null, .null, .null, .null, .null, .null, .null, .null, .int 0, .int 0, .int 0, .null, .int 0, .int 0, .int 0, .int 0, .int 0, .int 0, .null, .int 0, .null, .int 0, .int 0, .int 0, .null, .int 0, .null, .null, .null, .int 0, .null, .int 0, .int 0, .int 0, .int 0, .int 0, .null]))] ++ [(q1, .inl (cA, 389, .inl (fun _ => 0)))] ++ [(q2, .inl (cA, 2334, .inl (fun _ => 0)))] ++ [(q3, .inl (cA, 389, .inl (fun _ => 0)))] ++ [(q4, .inl (cA, 64, .inl (fun _ => 0)))] ++ [(q5, .inl (cA, 600, .inl (fun _ => 0)))] ++ [(q6, .inl (cA, 400, .inl (fun _ => 0)))] ++ [(q7, .inl (cA, 150, .inl (wf 66)))]) rfl ?_
  refine h_dup X dX10_init_453 (q := 454) rfl rfl ?_
  refine h_bipush X dX10_init_454 (q := 456) rfl li_b66 ?_
  refine h_bipush X dX10_init_456 (q := 458) rfl li_b111 ?_
  refine h_iastW X 7 rfl (i := (66 : Int32)) (j := 66) (by decide) (by decide) dX10_init_458 (q := 459) rfl (wf_s 66 (by decide)) (ws' := [(a, .inr (10, [.int 0, .ref q1, .ref q2, .int 0, .ref q3, .int 0, .int 0, .int 0, .int 0, .ref q4, .ref q5, .ref q6, .int 0, .int 0, .int 0, .int 0, .int 0, .null, .null, .null, .null, .null, .null, .null, .null, .int 0, .int 0, .int 0, .null, .int 0, .int 0, .int 0, .int 0, .int 0, .int 0, .null, .int 0, .null, .int 0, .int 0, .int 0, .null, .int 0, .null, .null, .null, .int 0, .null, .int 0, .int 0, .int 0, .int 0, .int 0, .null]))] ++ [(q1, .inl (cA, 389, .inl (fun _ => 0)))] ++ [(q2, .inl (cA, 2334, .inl (fun _ => 0)))] ++ [(q3, .inl (cA, 389, .inl (fun _ => 0)))] ++ [(q4, .inl (cA, 64, .inl (fun _ => 0)))] ++ [(q5, .inl (cA, 600, .inl (fun _ => 0)))] ++ [(q6, .inl (cA, 400, .inl (fun _ => 0)))] ++ [(q7, .inl (cA, 150, .inl (wf 67)))]) rfl ?_
  refine h_dup X dX10_init_459 (q := 460) rfl rfl ?_
  refine h_bipush X dX10_init_460 (q := 462) rfl li_b67 ?_
  refine h_bipush X dX10_init_462 (q := 464) rfl li_b114 ?_
  refine h_iastW X 7 rfl (i := (67 : Int32)) (j := 67) (by decide) (by decide) dX10_init_464 (q := 465) rfl (wf_s 67 (by decide)) (ws' := [(a, .inr (10, [.int 0, .ref q1, .ref q2, .int 0, .ref q3, .int 0, .int 0, .int 0, .int 0, .ref q4, .ref q5, .ref q6, .int 0, .int 0, .int 0, .int 0, .int 0, .null, .null, .null, .null, .null, .null, .null, .null, .int 0, .int 0, .int 0, .null, .int 0, .int 0, .int 0, .int 0, .int 0, .int 0, .null, .int 0, .null, .int 0, .int 0, .int 0, .null, .int 0, .null, .null, .null, .int 0, .null, .int 0, .int 0, .int 0, .int 0, .int 0, .null]))] ++ [(q1, .inl (cA, 389, .inl (fun _ => 0)))] ++ [(q2, .inl (cA, 2334, .inl (fun _ => 0)))] ++ [(q3, .inl (cA, 389, .inl (fun _ => 0)))] ++ [(q4, .inl (cA, 64, .inl (fun _ => 0)))] ++ [(q5, .inl (cA, 600, .inl (fun _ => 0)))] ++ [(q6, .inl (cA, 400, .inl (fun _ => 0)))] ++ [(q7, .inl (cA, 150, .inl (wf 68)))]) rfl ?_
  refine h_dup X dX10_init_465 (q := 466) rfl rfl ?_
  refine h_bipush X dX10_init_466 (q := 468) rfl li_b68 ?_
  refine h_bipush X dX10_init_468 (q := 470) rfl li_b109 ?_
  refine h_iastW X 7 rfl (i := (68 : Int32)) (j := 68) (by decide) (by decide) dX10_init_470 (q := 471) rfl (wf_s 68 (by decide)) (ws' := [(a, .inr (10, [.int 0, .ref q1, .ref q2, .int 0, .ref q3, .int 0, .int 0, .int 0, .int 0, .ref q4, .ref q5, .ref q6, .int 0, .int 0, .int 0, .int 0, .int 0, .null, .null, .null, .null, .null, .null, .null, .null, .int 0, .int 0, .int 0, .null, .int 0, .int 0, .int 0, .int 0, .int 0, .int 0, .null, .int 0, .null, .int 0, .int 0, .int 0, .null, .int 0, .null, .null, .null, .int 0, .null, .int 0, .int 0, .int 0, .int 0, .int 0, .null]))] ++ [(q1, .inl (cA, 389, .inl (fun _ => 0)))] ++ [(q2, .inl (cA, 2334, .inl (fun _ => 0)))] ++ [(q3, .inl (cA, 389, .inl (fun _ => 0)))] ++ [(q4, .inl (cA, 64, .inl (fun _ => 0)))] ++ [(q5, .inl (cA, 600, .inl (fun _ => 0)))] ++ [(q6, .inl (cA, 400, .inl (fun _ => 0)))] ++ [(q7, .inl (cA, 150, .inl (wf 69)))]) rfl ?_
  refine h_dup X dX10_init_471 (q := 472) rfl rfl ?_
  refine h_bipush X dX10_init_472 (q := 474) rfl li_b69 ?_
  refine h_bipush X dX10_init_474 (q := 476) rfl li_b32 ?_
  refine h_iastW X 7 rfl (i := (69 : Int32)) (j := 69) (by decide) (by decide) dX10_init_476 (q := 477) rfl (wf_s 69 (by decide)) (ws' := [(a, .inr (10, [.int 0, .ref q1, .ref q2, .int 0, .ref q3, .int 0, .int 0, .int 0, .int 0, .ref q4, .ref q5, .ref q6, .int 0, .int 0, .int 0, .int 0, .int 0, .null, .null, .null, .null, .null, .null, .null, .null, .int 0, .int 0, .int 0, .null, .int 0, .int 0, .int 0, .int 0, .int 0, .int 0, .null, .int 0, .null, .int 0, .int 0, .int 0, .null, .int 0, .null, .null, .null, .int 0, .null, .int 0, .int 0, .int 0, .int 0, .int 0, .null]))] ++ [(q1, .inl (cA, 389, .inl (fun _ => 0)))] ++ [(q2, .inl (cA, 2334, .inl (fun _ => 0)))] ++ [(q3, .inl (cA, 389, .inl (fun _ => 0)))] ++ [(q4, .inl (cA, 64, .inl (fun _ => 0)))] ++ [(q5, .inl (cA, 600, .inl (fun _ => 0)))] ++ [(q6, .inl (cA, 400, .inl (fun _ => 0)))] ++ [(q7, .inl (cA, 150, .inl (wf 70)))]) rfl ?_
  refine h_dup X dX10_init_477 (q := 478) rfl rfl ?_
  refine h_bipush X dX10_init_478 (q := 480) rfl li_b70 ?_
  refine h_bipush X dX10_init_480 (q := 482) rfl li_b108 ?_
  refine h_iastW X 7 rfl (i := (70 : Int32)) (j := 70) (by decide) (by decide) dX10_init_482 (q := 483) rfl (wf_s 70 (by decide)) (ws' := [(a, .inr (10, [.int 0, .ref q1, .ref q2, .int 0, .ref q3, .int 0, .int 0, .int 0, .int 0, .ref q4, .ref q5, .ref q6, .int 0, .int 0, .int 0, .int 0, .int 0, .null, .null, .null, .null, .null, .null, .null, .null, .int 0, .int 0, .int 0, .null, .int 0, .int 0, .int 0, .int 0, .int 0, .int 0, .null, .int 0, .null, .int 0, .int 0, .int 0, .null, .int 0, .null, .null, .null, .int 0, .null, .int 0, .int 0, .int 0, .int 0, .int 0, .null]))] ++ [(q1, .inl (cA, 389, .inl (fun _ => 0)))] ++ [(q2, .inl (cA, 2334, .inl (fun _ => 0)))] ++ [(q3, .inl (cA, 389, .inl (fun _ => 0)))] ++ [(q4, .inl (cA, 64, .inl (fun _ => 0)))] ++ [(q5, .inl (cA, 600, .inl (fun _ => 0)))] ++ [(q6, .inl (cA, 400, .inl (fun _ => 0)))] ++ [(q7, .inl (cA, 150, .inl (wf 71)))]) rfl ?_
  refine h_dup X dX10_init_483 (q := 484) rfl rfl ?_
  refine h_bipush X dX10_init_484 (q := 486) rfl li_b71 ?_
  refine h_bipush X dX10_init_486 (q := 488) rfl li_b97 ?_
  refine h_iastW X 7 rfl (i := (71 : Int32)) (j := 71) (by decide) (by decide) dX10_init_488 (q := 489) rfl (wf_s 71 (by decide)) (ws' := [(a, .inr (10, [.int 0, .ref q1, .ref q2, .int 0, .ref q3, .int 0, .int 0, .int 0, .int 0, .ref q4, .ref q5, .ref q6, .int 0, .int 0, .int 0, .int 0, .int 0, .null, .null, .null, .null, .null, .null, .null, .null, .int 0, .int 0, .int 0, .null, .int 0, .int 0, .int 0, .int 0, .int 0, .int 0, .null, .int 0, .null, .int 0, .int 0, .int 0, .null, .int 0, .null, .null, .null, .int 0, .null, .int 0, .int 0, .int 0, .int 0, .int 0, .null]))] ++ [(q1, .inl (cA, 389, .inl (fun _ => 0)))] ++ [(q2, .inl (cA, 2334, .inl (fun _ => 0)))] ++ [(q3, .inl (cA, 389, .inl (fun _ => 0)))] ++ [(q4, .inl (cA, 64, .inl (fun _ => 0)))] ++ [(q5, .inl (cA, 600, .inl (fun _ => 0)))] ++ [(q6, .inl (cA, 400, .inl (fun _ => 0)))] ++ [(q7, .inl (cA, 150, .inl (wf 72)))]) rfl ?_
  refine h_dup X dX10_init_489 (q := 490) rfl rfl ?_
  refine h_bipush X dX10_init_490 (q := 492) rfl li_b72 ?_
  refine h_bipush X dX10_init_492 (q := 494) rfl li_b115 ?_
  refine h_iastW X 7 rfl (i := (72 : Int32)) (j := 72) (by decide) (by decide) dX10_init_494 (q := 495) rfl (wf_s 72 (by decide)) (ws' := [(a, .inr (10, [.int 0, .ref q1, .ref q2, .int 0, .ref q3, .int 0, .int 0, .int 0, .int 0, .ref q4, .ref q5, .ref q6, .int 0, .int 0, .int 0, .int 0, .int 0, .null, .null, .null, .null, .null, .null, .null, .null, .int 0, .int 0, .int 0, .null, .int 0, .int 0, .int 0, .int 0, .int 0, .int 0, .null, .int 0, .null, .int 0, .int 0, .int 0, .null, .int 0, .null, .null, .null, .int 0, .null, .int 0, .int 0, .int 0, .int 0, .int 0, .null]))] ++ [(q1, .inl (cA, 389, .inl (fun _ => 0)))] ++ [(q2, .inl (cA, 2334, .inl (fun _ => 0)))] ++ [(q3, .inl (cA, 389, .inl (fun _ => 0)))] ++ [(q4, .inl (cA, 64, .inl (fun _ => 0)))] ++ [(q5, .inl (cA, 600, .inl (fun _ => 0)))] ++ [(q6, .inl (cA, 400, .inl (fun _ => 0)))] ++ [(q7, .inl (cA, 150, .inl (wf 73)))]) rfl ?_
  refine h_dup X dX10_init_495 (q := 496) rfl rfl ?_
  refine h_bipush X dX10_init_496 (q := 498) rfl li_b73 ?_
  refine h_bipush X dX10_init_498 (q := 500) rfl li_b116 ?_
  refine h_iastW X 7 rfl (i := (73 : Int32)) (j := 73) (by decide) (by decide) dX10_init_500 (q := 501) rfl (wf_s 73 (by decide)) (ws' := [(a, .inr (10, [.int 0, .ref q1, .ref q2, .int 0, .ref q3, .int 0, .int 0, .int 0, .int 0, .ref q4, .ref q5, .ref q6, .int 0, .int 0, .int 0, .int 0, .int 0, .null, .null, .null, .null, .null, .null, .null, .null, .int 0, .int 0, .int 0, .null, .int 0, .int 0, .int 0, .int 0, .int 0, .int 0, .null, .int 0, .null, .int 0, .int 0, .int 0, .null, .int 0, .null, .null, .null, .int 0, .null, .int 0, .int 0, .int 0, .int 0, .int 0, .null]))] ++ [(q1, .inl (cA, 389, .inl (fun _ => 0)))] ++ [(q2, .inl (cA, 2334, .inl (fun _ => 0)))] ++ [(q3, .inl (cA, 389, .inl (fun _ => 0)))] ++ [(q4, .inl (cA, 64, .inl (fun _ => 0)))] ++ [(q5, .inl (cA, 600, .inl (fun _ => 0)))] ++ [(q6, .inl (cA, 400, .inl (fun _ => 0)))] ++ [(q7, .inl (cA, 150, .inl (wf 74)))]) rfl ?_
  refine h_dup X dX10_init_501 (q := 502) rfl rfl ?_
  refine h_bipush X dX10_init_502 (q := 504) rfl li_b74 ?_
  refine h_bipush X dX10_init_504 (q := 506) rfl li_b115 ?_
  refine h_iastW X 7 rfl (i := (74 : Int32)) (j := 74) (by decide) (by decide) dX10_init_506 (q := 507) rfl (wf_s 74 (by decide)) (ws' := [(a, .inr (10, [.int 0, .ref q1, .ref q2, .int 0, .ref q3, .int 0, .int 0, .int 0, .int 0, .ref q4, .ref q5, .ref q6, .int 0, .int 0, .int 0, .int 0, .int 0, .null, .null, .null, .null, .null, .null, .null, .null, .int 0, .int 0, .int 0, .null, .int 0, .int 0, .int 0, .int 0, .int 0, .int 0, .null, .int 0, .null, .int 0, .int 0, .int 0, .null, .int 0, .null, .null, .null, .int 0, .null, .int 0, .int 0, .int 0, .int 0, .int 0, .null]))] ++ [(q1, .inl (cA, 389, .inl (fun _ => 0)))] ++ [(q2, .inl (cA, 2334, .inl (fun _ => 0)))] ++ [(q3, .inl (cA, 389, .inl (fun _ => 0)))] ++ [(q4, .inl (cA, 64, .inl (fun _ => 0)))] ++ [(q5, .inl (cA, 600, .inl (fun _ => 0)))] ++ [(q6, .inl (cA, 400, .inl (fun _ => 0)))] ++ [(q7, .inl (cA, 150, .inl (wf 75)))]) rfl ?_
  refine h_dup X dX10_init_507 (q := 508) rfl rfl ?_
  refine h_bipush X dX10_init_508 (q := 510) rfl li_b75 ?_
  refine h_bipush X dX10_init_510 (q := 512) rfl li_b32 ?_
  refine h_iastW X 7 rfl (i := (75 : Int32)) (j := 75) (by decide) (by decide) dX10_init_512 (q := 513) rfl (wf_s 75 (by decide)) (ws' := [(a, .inr (10, [.int 0, .ref q1, .ref q2, .int 0, .ref q3, .int 0, .int 0, .int 0, .int 0, .ref q4, .ref q5, .ref q6, .int 0, .int 0, .int 0, .int 0, .int 0, .null, .null, .null, .null, .null, .null, .null, .null, .int 0, .int 0, .int 0, .null, .int 0, .int 0, .int 0, .int 0, .int 0, .int 0, .null, .int 0, .null, .int 0, .int 0, .int 0, .null, .int 0, .null, .null, .null, .int 0, .null, .int 0, .int 0, .int 0, .int 0, .int 0, .null]))] ++ [(q1, .inl (cA, 389, .inl (fun _ => 0)))] ++ [(q2, .inl (cA, 2334, .inl (fun _ => 0)))] ++ [(q3, .inl (cA, 389, .inl (fun _ => 0)))] ++ [(q4, .inl (cA, 64, .inl (fun _ => 0)))] ++ [(q5, .inl (cA, 600, .inl (fun _ => 0)))] ++ [(q6, .inl (cA, 400, .inl (fun _ => 0)))] ++ [(q7, .inl (cA, 150, .inl (wf 76)))]) rfl ?_
  refine h_dup X dX10_init_513 (q := 514) rfl rfl ?_
  refine h_bipush X dX10_init_514 (q := 516) rfl li_b76 ?_
  refine h_bipush X dX10_init_516 (q := 518) rfl li_b115 ?_
  refine h_iastW X 7 rfl (i := (76 : Int32)) (j := 76) (by decide) (by decide) dX10_init_518 (q := 519) rfl (wf_s 76 (by decide)) (ws' := [(a, .inr (10, [.int 0, .ref q1, .ref q2, .int 0, .ref q3, .int 0, .int 0, .int 0, .int 0, .ref q4, .ref q5, .ref q6, .int 0, .int 0, .int 0, .int 0, .int 0, .null, .null, .null, .null, .null, .null, .null, .null, .int 0, .int 0, .int 0, .null, .int 0, .int 0, .int 0, .int 0, .int 0, .int 0, .null, .int 0, .null, .int 0, .int 0, .int 0, .null, .int 0, .null, .null, .null, .int 0, .null, .int 0, .int 0, .int 0, .int 0, .int 0, .null]))] ++ [(q1, .inl (cA, 389, .inl (fun _ => 0)))] ++ [(q2, .inl (cA, 2334, .inl (fun _ => 0)))] ++ [(q3, .inl (cA, 389, .inl (fun _ => 0)))] ++ [(q4, .inl (cA, 64, .inl (fun _ => 0)))] ++ [(q5, .inl (cA, 600, .inl (fun _ => 0)))] ++ [(q6, .inl (cA, 400, .inl (fun _ => 0)))] ++ [(q7, .inl (cA, 150, .inl (wf 77)))]) rfl ?_
  refine h_dup X dX10_init_519 (q := 520) rfl rfl ?_
  refine h_bipush X dX10_init_520 (q := 522) rfl li_b77 ?_
  refine h_bipush X dX10_init_522 (q := 524) rfl li_b112 ?_
  refine h_iastW X 7 rfl (i := (77 : Int32)) (j := 77) (by decide) (by decide) dX10_init_524 (q := 525) rfl (wf_s 77 (by decide)) (ws' := [(a, .inr (10, [.int 0, .ref q1, .ref q2, .int 0, .ref q3, .int 0, .int 0, .int 0, .int 0, .ref q4, .ref q5, .ref q6, .int 0, .int 0, .int 0, .int 0, .int 0, .null, .null, .null, .null, .null, .null, .null, .null, .int 0, .int 0, .int 0, .null, .int 0, .int 0, .int 0, .int 0, .int 0, .int 0, .null, .int 0, .null, .int 0, .int 0, .int 0, .null, .int 0, .null, .null, .null, .int 0, .null, .int 0, .int 0, .int 0, .int 0, .int 0, .null]))] ++ [(q1, .inl (cA, 389, .inl (fun _ => 0)))] ++ [(q2, .inl (cA, 2334, .inl (fun _ => 0)))] ++ [(q3, .inl (cA, 389, .inl (fun _ => 0)))] ++ [(q4, .inl (cA, 64, .inl (fun _ => 0)))] ++ [(q5, .inl (cA, 600, .inl (fun _ => 0)))] ++ [(q6, .inl (cA, 400, .inl (fun _ => 0)))] ++ [(q7, .inl (cA, 150, .inl (wf 78)))]) rfl ?_
  refine h_dup X dX10_init_525 (q := 526) rfl rfl ?_
  refine h_bipush X dX10_init_526 (q := 528) rfl li_b78 ?_
  refine h_bipush X dX10_init_528 (q := 530) rfl li_b114 ?_
  refine h_iastW X 7 rfl (i := (78 : Int32)) (j := 78) (by decide) (by decide) dX10_init_530 (q := 531) rfl (wf_s 78 (by decide)) (ws' := [(a, .inr (10, [.int 0, .ref q1, .ref q2, .int 0, .ref q3, .int 0, .int 0, .int 0, .int 0, .ref q4, .ref q5, .ref q6, .int 0, .int 0, .int 0, .int 0, .int 0, .null, .null, .null, .null, .null, .null, .null, .null, .int 0, .int 0, .int 0, .null, .int 0, .int 0, .int 0, .int 0, .int 0, .int 0, .null, .int 0, .null, .int 0, .int 0, .int 0, .null, .int 0, .null, .null, .null, .int 0, .null, .int 0, .int 0, .int 0, .int 0, .int 0, .null]))] ++ [(q1, .inl (cA, 389, .inl (fun _ => 0)))] ++ [(q2, .inl (cA, 2334, .inl (fun _ => 0)))] ++ [(q3, .inl (cA, 389, .inl (fun _ => 0)))] ++ [(q4, .inl (cA, 64, .inl (fun _ => 0)))] ++ [(q5, .inl (cA, 600, .inl (fun _ => 0)))] ++ [(q6, .inl (cA, 400, .inl (fun _ => 0)))] ++ [(q7, .inl (cA, 150, .inl (wf 79)))]) rfl ?_
  refine h_dup X dX10_init_531 (q := 532) rfl rfl ?_
  refine h_bipush X dX10_init_532 (q := 534) rfl li_b79 ?_
  refine h_bipush X dX10_init_534 (q := 536) rfl li_b101 ?_
  refine h_iastW X 7 rfl (i := (79 : Int32)) (j := 79) (by decide) (by decide) dX10_init_536 (q := 537) rfl (wf_s 79 (by decide)) (ws' := [(a, .inr (10, [.int 0, .ref q1, .ref q2, .int 0, .ref q3, .int 0, .int 0, .int 0, .int 0, .ref q4, .ref q5, .ref q6, .int 0, .int 0, .int 0, .int 0, .int 0, .null, .null, .null, .null, .null, .null, .null, .null, .int 0, .int 0, .int 0, .null, .int 0, .int 0, .int 0, .int 0, .int 0, .int 0, .null, .int 0, .null, .int 0, .int 0, .int 0, .null, .int 0, .null, .null, .null, .int 0, .null, .int 0, .int 0, .int 0, .int 0, .int 0, .null]))] ++ [(q1, .inl (cA, 389, .inl (fun _ => 0)))] ++ [(q2, .inl (cA, 2334, .inl (fun _ => 0)))] ++ [(q3, .inl (cA, 389, .inl (fun _ => 0)))] ++ [(q4, .inl (cA, 64, .inl (fun _ => 0)))] ++ [(q5, .inl (cA, 600, .inl (fun _ => 0)))] ++ [(q6, .inl (cA, 400, .inl (fun _ => 0)))] ++ [(q7, .inl (cA, 150, .inl (wf 80)))]) rfl ?_
  refine h_dup X dX10_init_537 (q := 538) rfl rfl ?_
  refine h_bipush X dX10_init_538 (q := 540) rfl li_b80 ?_
  refine h_bipush X dX10_init_540 (q := 542) rfl li_b97 ?_
  refine h_iastW X 7 rfl (i := (80 : Int32)) (j := 80) (by decide) (by decide) dX10_init_542 (q := 543) rfl (wf_s 80 (by decide)) (ws' := [(a, .inr (10, [.int 0, .ref q1, .ref q2, .int 0, .ref q3, .int 0, .int 0, .int 0, .int 0, .ref q4, .ref q5, .ref q6, .int 0, .int 0, .int 0, .int 0, .int 0, .null, .null, .null, .null, .null, .null, .null, .null, .int 0, .int 0, .int 0, .null, .int 0, .int 0, .int 0, .int 0, .int 0, .int 0, .null, .int 0, .null, .int 0, .int 0, .int 0, .null, .int 0, .null, .null, .null, .int 0, .null, .int 0, .int 0, .int 0, .int 0, .int 0, .null]))] ++ [(q1, .inl (cA, 389, .inl (fun _ => 0)))] ++ [(q2, .inl (cA, 2334, .inl (fun _ => 0)))] ++ [(q3, .inl (cA, 389, .inl (fun _ => 0)))] ++ [(q4, .inl (cA, 64, .inl (fun _ => 0)))] ++ [(q5, .inl (cA, 600, .inl (fun _ => 0)))] ++ [(q6, .inl (cA, 400, .inl (fun _ => 0)))] ++ [(q7, .inl (cA, 150, .inl (wf 81)))]) rfl ?_
  refine h_dup X dX10_init_543 (q := 544) rfl rfl ?_
  refine h_bipush X dX10_init_544 (q := 546) rfl li_b81 ?_
  refine h_bipush X dX10_init_546 (q := 548) rfl li_b100 ?_
  refine h_iastW X 7 rfl (i := (81 : Int32)) (j := 81) (by decide) (by decide) dX10_init_548 (q := 549) rfl (wf_s 81 (by decide)) (ws' := [(a, .inr (10, [.int 0, .ref q1, .ref q2, .int 0, .ref q3, .int 0, .int 0, .int 0, .int 0, .ref q4, .ref q5, .ref q6, .int 0, .int 0, .int 0, .int 0, .int 0, .null, .null, .null, .null, .null, .null, .null, .null, .int 0, .int 0, .int 0, .null, .int 0, .int 0, .int 0, .int 0, .int 0, .int 0, .null, .int 0, .null, .int 0, .int 0, .int 0, .null, .int 0, .null, .null, .null, .int 0, .null, .int 0, .int 0, .int 0, .int 0, .int 0, .null]))] ++ [(q1, .inl (cA, 389, .inl (fun _ => 0)))] ++ [(q2, .inl (cA, 2334, .inl (fun _ => 0)))] ++ [(q3, .inl (cA, 389, .inl (fun _ => 0)))] ++ [(q4, .inl (cA, 64, .inl (fun _ => 0)))] ++ [(q5, .inl (cA, 600, .inl (fun _ => 0)))] ++ [(q6, .inl (cA, 400, .inl (fun _ => 0)))] ++ [(q7, .inl (cA, 150, .inl (wf 82)))]) rfl ?_
  refine h_dup X dX10_init_549 (q := 550) rfl rfl ?_
  refine h_bipush X dX10_init_550 (q := 552) rfl li_b82 ?_
  refine h_bipush X dX10_init_552 (q := 554) rfl li_b32 ?_
  refine h_iastW X 7 rfl (i := (82 : Int32)) (j := 82) (by decide) (by decide) dX10_init_554 (q := 555) rfl (wf_s 82 (by decide)) (ws' := [(a, .inr (10, [.int 0, .ref q1, .ref q2, .int 0, .ref q3, .int 0, .int 0, .int 0, .int 0, .ref q4, .ref q5, .ref q6, .int 0, .int 0, .int 0, .int 0, .int 0, .null, .null, .null, .null, .null, .null, .null, .null, .int 0, .int 0, .int 0, .null, .int 0, .int 0, .int 0, .int 0, .int 0, .int 0, .null, .int 0, .null, .int 0, .int 0, .int 0, .null, .int 0, .null, .null, .null, .int 0, .null, .int 0, .int 0, .int 0, .int 0, .int 0, .null]))] ++ [(q1, .inl (cA, 389, .inl (fun _ => 0)))] ++ [(q2, .inl (cA, 2334, .inl (fun _ => 0)))] ++ [(q3, .inl (cA, 389, .inl (fun _ => 0)))] ++ [(q4, .inl (cA, 64, .inl (fun _ => 0)))] ++ [(q5, .inl (cA, 600, .inl (fun _ => 0)))] ++ [(q6, .inl (cA, 400, .inl (fun _ => 0)))] ++ [(q7, .inl (cA, 150, .inl (wf 83)))]) rfl ?_
  refine h_dup X dX10_init_555 (q := 556) rfl rfl ?_
  refine h_bipush X dX10_init_556 (q := 558) rfl li_b83 ?_
  refine h_bipush X dX10_init_558 (q := 560) rfl li_b99 ?_
  refine h_iastW X 7 rfl (i := (83 : Int32)) (j := 83) (by decide) (by decide) dX10_init_560 (q := 561) rfl (wf_s 83 (by decide)) (ws' := [(a, .inr (10, [.int 0, .ref q1, .ref q2, .int 0, .ref q3, .int 0, .int 0, .int 0, .int 0, .ref q4, .ref q5, .ref q6, .int 0, .int 0, .int 0, .int 0, .int 0, .null, .null, .null, .null, .null, .null, .null, .null, .int 0, .int 0, .int 0, .null, .int 0, .int 0, .int 0, .int 0, .int 0, .int 0, .null, .int 0, .null, .int 0, .int 0, .int 0, .null, .int 0, .null, .null, .null, .int 0, .null, .int 0, .int 0, .int 0, .int 0, .int 0, .null]))] ++ [(q1, .inl (cA, 389, .inl (fun _ => 0)))] ++ [(q2, .inl (cA, 2334, .inl (fun _ => 0)))] ++ [(q3, .inl (cA, 389, .inl (fun _ => 0)))] ++ [(q4, .inl (cA, 64, .inl (fun _ => 0)))] ++ [(q5, .inl (cA, 600, .inl (fun _ => 0)))] ++ [(q6, .inl (cA, 400, .inl (fun _ => 0)))] ++ [(q7, .inl (cA, 150, .inl (wf 84)))]) rfl ?_
  refine h_dup X dX10_init_561 (q := 562) rfl rfl ?_
  refine h_bipush X dX10_init_562 (q := 564) rfl li_b84 ?_
  refine h_bipush X dX10_init_564 (q := 566) rfl li_b114 ?_
  refine h_iastW X 7 rfl (i := (84 : Int32)) (j := 84) (by decide) (by decide) dX10_init_566 (q := 567) rfl (wf_s 84 (by decide)) (ws' := [(a, .inr (10, [.int 0, .ref q1, .ref q2, .int 0, .ref q3, .int 0, .int 0, .int 0, .int 0, .ref q4, .ref q5, .ref q6, .int 0, .int 0, .int 0, .int 0, .int 0, .null, .null, .null, .null, .null, .null, .null, .null, .int 0, .int 0, .int 0, .null, .int 0, .int 0, .int 0, .int 0, .int 0, .int 0, .null, .int 0, .null, .int 0, .int 0, .int 0, .null, .int 0, .null, .null, .null, .int 0, .null, .int 0, .int 0, .int 0, .int 0, .int 0, .null]))] ++ [(q1, .inl (cA, 389, .inl (fun _ => 0)))] ++ [(q2, .inl (cA, 2334, .inl (fun _ => 0)))] ++ [(q3, .inl (cA, 389, .inl (fun _ => 0)))] ++ [(q4, .inl (cA, 64, .inl (fun _ => 0)))] ++ [(q5, .inl (cA, 600, .inl (fun _ => 0)))] ++ [(q6, .inl (cA, 400, .inl (fun _ => 0)))] ++ [(q7, .inl (cA, 150, .inl (wf 85)))]) rfl ?_
  refine h_dup X dX10_init_567 (q := 568) rfl rfl ?_
  refine h_bipush X dX10_init_568 (q := 570) rfl li_b85 ?_
  refine h_bipush X dX10_init_570 (q := 572) rfl li_b111 ?_
  refine h_iastW X 7 rfl (i := (85 : Int32)) (j := 85) (by decide) (by decide) dX10_init_572 (q := 573) rfl (wf_s 85 (by decide)) (ws' := [(a, .inr (10, [.int 0, .ref q1, .ref q2, .int 0, .ref q3, .int 0, .int 0, .int 0, .int 0, .ref q4, .ref q5, .ref q6, .int 0, .int 0, .int 0, .int 0, .int 0, .null, .null, .null, .null, .null, .null, .null, .null, .int 0, .int 0, .int 0, .null, .int 0, .int 0, .int 0, .int 0, .int 0, .int 0, .null, .int 0, .null, .int 0, .int 0, .int 0, .null, .int 0, .null, .null, .null, .int 0, .null, .int 0, .int 0, .int 0, .int 0, .int 0, .null]))] ++ [(q1, .inl (cA, 389, .inl (fun _ => 0)))] ++ [(q2, .inl (cA, 2334, .inl (fun _ => 0)))] ++ [(q3, .inl (cA, 389, .inl (fun _ => 0)))] ++ [(q4, .inl (cA, 64, .inl (fun _ => 0)))] ++ [(q5, .inl (cA, 600, .inl (fun _ => 0)))] ++ [(q6, .inl (cA, 400, .inl (fun _ => 0)))] ++ [(q7, .inl (cA, 150, .inl (wf 86)))]) rfl ?_
  refine h_dup X dX10_init_573 (q := 574) rfl rfl ?_
  refine h_bipush X dX10_init_574 (q := 576) rfl li_b86 ?_
  refine h_bipush X dX10_init_576 (q := 578) rfl li_b115 ?_
  refine h_iastW X 7 rfl (i := (86 : Int32)) (j := 86) (by decide) (by decide) dX10_init_578 (q := 579) rfl (wf_s 86 (by decide)) (ws' := [(a, .inr (10, [.int 0, .ref q1, .ref q2, .int 0, .ref q3, .int 0, .int 0, .int 0, .int 0, .ref q4, .ref q5, .ref q6, .int 0, .int 0, .int 0, .int 0, .int 0, .null, .null, .null, .null, .null, .null, .null, .null, .int 0, .int 0, .int 0, .null, .int 0, .int 0, .int 0, .int 0, .int 0, .int 0, .null, .int 0, .null, .int 0, .int 0, .int 0, .null, .int 0, .null, .null, .null, .int 0, .null, .int 0, .int 0, .int 0, .int 0, .int 0, .null]))] ++ [(q1, .inl (cA, 389, .inl (fun _ => 0)))] ++ [(q2, .inl (cA, 2334, .inl (fun _ => 0)))] ++ [(q3, .inl (cA, 389, .inl (fun _ => 0)))] ++ [(q4, .inl (cA, 64, .inl (fun _ => 0)))] ++ [(q5, .inl (cA, 600, .inl (fun _ => 0)))] ++ [(q6, .inl (cA, 400, .inl (fun _ => 0)))] ++ [(q7, .inl (cA, 150, .inl (wf 87)))]) rfl ?_
  refine h_dup X dX10_init_579 (q := 580) rfl rfl ?_
  refine h_bipush X dX10_init_580 (q := 582) rfl li_b87 ?_
  refine h_bipush X dX10_init_582 (q := 584) rfl li_b115 ?_
  refine h_iastW X 7 rfl (i := (87 : Int32)) (j := 87) (by decide) (by decide) dX10_init_584 (q := 585) rfl (wf_s 87 (by decide)) (ws' := [(a, .inr (10, [.int 0, .ref q1, .ref q2, .int 0, .ref q3, .int 0, .int 0, .int 0, .int 0, .ref q4, .ref q5, .ref q6, .int 0, .int 0, .int 0, .int 0, .int 0, .null, .null, .null, .null, .null, .null, .null, .null, .int 0, .int 0, .int 0, .null, .int 0, .int 0, .int 0, .int 0, .int 0, .int 0, .null, .int 0, .null, .int 0, .int 0, .int 0, .null, .int 0, .null, .null, .null, .int 0, .null, .int 0, .int 0, .int 0, .int 0, .int 0, .null]))] ++ [(q1, .inl (cA, 389, .inl (fun _ => 0)))] ++ [(q2, .inl (cA, 2334, .inl (fun _ => 0)))] ++ [(q3, .inl (cA, 389, .inl (fun _ => 0)))] ++ [(q4, .inl (cA, 64, .inl (fun _ => 0)))] ++ [(q5, .inl (cA, 600, .inl (fun _ => 0)))] ++ [(q6, .inl (cA, 400, .inl (fun _ => 0)))] ++ [(q7, .inl (cA, 150, .inl (wf 88)))]) rfl ?_
  refine h_dup X dX10_init_585 (q := 586) rfl rfl ?_
  refine h_bipush X dX10_init_586 (q := 588) rfl li_b88 ?_
  refine h_bipush X dX10_init_588 (q := 590) rfl li_b32 ?_
  refine h_iastW X 7 rfl (i := (88 : Int32)) (j := 88) (by decide) (by decide) dX10_init_590 (q := 591) rfl (wf_s 88 (by decide)) (ws' := [(a, .inr (10, [.int 0, .ref q1, .ref q2, .int 0, .ref q3, .int 0, .int 0, .int 0, .int 0, .ref q4, .ref q5, .ref q6, .int 0, .int 0, .int 0, .int 0, .int 0, .null, .null, .null, .null, .null, .null, .null, .null, .int 0, .int 0, .int 0, .null, .int 0, .int 0, .int 0, .int 0, .int 0, .int 0, .null, .int 0, .null, .int 0, .int 0, .int 0, .null, .int 0, .null, .null, .null, .int 0, .null, .int 0, .int 0, .int 0, .int 0, .int 0, .null]))] ++ [(q1, .inl (cA, 389, .inl (fun _ => 0)))] ++ [(q2, .inl (cA, 2334, .inl (fun _ => 0)))] ++ [(q3, .inl (cA, 389, .inl (fun _ => 0)))] ++ [(q4, .inl (cA, 64, .inl (fun _ => 0)))] ++ [(q5, .inl (cA, 600, .inl (fun _ => 0)))] ++ [(q6, .inl (cA, 400, .inl (fun _ => 0)))] ++ [(q7, .inl (cA, 150, .inl (wf 89)))]) rfl ?_
  refine h_dup X dX10_init_591 (q := 592) rfl rfl ?_
  refine h_bipush X dX10_init_592 (q := 594) rfl li_b89 ?_
  refine h_bipush X dX10_init_594 (q := 596) rfl li_b119 ?_
  refine h_iastW X 7 rfl (i := (89 : Int32)) (j := 89) (by decide) (by decide) dX10_init_596 (q := 597) rfl (wf_s 89 (by decide)) (ws' := [(a, .inr (10, [.int 0, .ref q1, .ref q2, .int 0, .ref q3, .int 0, .int 0, .int 0, .int 0, .ref q4, .ref q5, .ref q6, .int 0, .int 0, .int 0, .int 0, .int 0, .null, .null, .null, .null, .null, .null, .null, .null, .int 0, .int 0, .int 0, .null, .int 0, .int 0, .int 0, .int 0, .int 0, .int 0, .null, .int 0, .null, .int 0, .int 0, .int 0, .null, .int 0, .null, .null, .null, .int 0, .null, .int 0, .int 0, .int 0, .int 0, .int 0, .null]))] ++ [(q1, .inl (cA, 389, .inl (fun _ => 0)))] ++ [(q2, .inl (cA, 2334, .inl (fun _ => 0)))] ++ [(q3, .inl (cA, 389, .inl (fun _ => 0)))] ++ [(q4, .inl (cA, 64, .inl (fun _ => 0)))] ++ [(q5, .inl (cA, 600, .inl (fun _ => 0)))] ++ [(q6, .inl (cA, 400, .inl (fun _ => 0)))] ++ [(q7, .inl (cA, 150, .inl (wf 90)))]) rfl ?_
  refine h_dup X dX10_init_597 (q := 598) rfl rfl ?_
  refine h_bipush X dX10_init_598 (q := 600) rfl li_b90 ?_
  refine h_bipush X dX10_init_600 (q := 602) rfl li_b105 ?_
  refine h_iastW X 7 rfl (i := (90 : Int32)) (j := 90) (by decide) (by decide) dX10_init_602 (q := 603) rfl (wf_s 90 (by decide)) (ws' := [(a, .inr (10, [.int 0, .ref q1, .ref q2, .int 0, .ref q3, .int 0, .int 0, .int 0, .int 0, .ref q4, .ref q5, .ref q6, .int 0, .int 0, .int 0, .int 0, .int 0, .null, .null, .null, .null, .null, .null, .null, .null, .int 0, .int 0, .int 0, .null, .int 0, .int 0, .int 0, .int 0, .int 0, .int 0, .null, .int 0, .null, .int 0, .int 0, .int 0, .null, .int 0, .null, .null, .null, .int 0, .null, .int 0, .int 0, .int 0, .int 0, .int 0, .null]))] ++ [(q1, .inl (cA, 389, .inl (fun _ => 0)))] ++ [(q2, .inl (cA, 2334, .inl (fun _ => 0)))] ++ [(q3, .inl (cA, 389, .inl (fun _ => 0)))] ++ [(q4, .inl (cA, 64, .inl (fun _ => 0)))] ++ [(q5, .inl (cA, 600, .inl (fun _ => 0)))] ++ [(q6, .inl (cA, 400, .inl (fun _ => 0)))] ++ [(q7, .inl (cA, 150, .inl (wf 91)))]) rfl ?_
  refine h_dup X dX10_init_603 (q := 604) rfl rfl ?_
  refine h_bipush X dX10_init_604 (q := 606) rfl li_b91 ?_
  refine h_bipush X dX10_init_606 (q := 608) rfl li_b116 ?_
  refine h_iastW X 7 rfl (i := (91 : Int32)) (j := 91) (by decide) (by decide) dX10_init_608 (q := 609) rfl (wf_s 91 (by decide)) (ws' := [(a, .inr (10, [.int 0, .ref q1, .ref q2, .int 0, .ref q3, .int 0, .int 0, .int 0, .int 0, .ref q4, .ref q5, .ref q6, .int 0, .int 0, .int 0, .int 0, .int 0, .null, .null, .null, .null, .null, .null, .null, .null, .int 0, .int 0, .int 0, .null, .int 0, .int 0, .int 0, .int 0, .int 0, .int 0, .null, .int 0, .null, .int 0, .int 0, .int 0, .null, .int 0, .null, .null, .null, .int 0, .null, .int 0, .int 0, .int 0, .int 0, .int 0, .null]))] ++ [(q1, .inl (cA, 389, .inl (fun _ => 0)))] ++ [(q2, .inl (cA, 2334, .inl (fun _ => 0)))] ++ [(q3, .inl (cA, 389, .inl (fun _ => 0)))] ++ [(q4, .inl (cA, 64, .inl (fun _ => 0)))] ++ [(q5, .inl (cA, 600, .inl (fun _ => 0)))] ++ [(q6, .inl (cA, 400, .inl (fun _ => 0)))] ++ [(q7, .inl (cA, 150, .inl (wf 92)))]) rfl ?_
  refine h_dup X dX10_init_609 (q := 610) rfl rfl ?_
  refine h_bipush X dX10_init_610 (q := 612) rfl li_b92 ?_
  refine h_bipush X dX10_init_612 (q := 614) rfl li_b104 ?_
  refine h_iastW X 7 rfl (i := (92 : Int32)) (j := 92) (by decide) (by decide) dX10_init_614 (q := 615) rfl (wf_s 92 (by decide)) (ws' := [(a, .inr (10, [.int 0, .ref q1, .ref q2, .int 0, .ref q3, .int 0, .int 0, .int 0, .int 0, .ref q4, .ref q5, .ref q6, .int 0, .int 0, .int 0, .int 0, .int 0, .null, .null, .null, .null, .null, .null, .null, .null, .int 0, .int 0, .int 0, .null, .int 0, .int 0, .int 0, .int 0, .int 0, .int 0, .null, .int 0, .null, .int 0, .int 0, .int 0, .null, .int 0, .null, .null, .null, .int 0, .null, .int 0, .int 0, .int 0, .int 0, .int 0, .null]))] ++ [(q1, .inl (cA, 389, .inl (fun _ => 0)))] ++ [(q2, .inl (cA, 2334, .inl (fun _ => 0)))] ++ [(q3, .inl (cA, 389, .inl (fun _ => 0)))] ++ [(q4, .inl (cA, 64, .inl (fun _ => 0)))] ++ [(q5, .inl (cA, 600, .inl (fun _ => 0)))] ++ [(q6, .inl (cA, 400, .inl (fun _ => 0)))] ++ [(q7, .inl (cA, 150, .inl (wf 93)))]) rfl ?_
  refine h_dup X dX10_init_615 (q := 616) rfl rfl ?_
  refine h_bipush X dX10_init_616 (q := 618) rfl li_b93 ?_
  refine h_bipush X dX10_init_618 (q := 620) rfl li_b32 ?_
  refine h_iastW X 7 rfl (i := (93 : Int32)) (j := 93) (by decide) (by decide) dX10_init_620 (q := 621) rfl (wf_s 93 (by decide)) (ws' := [(a, .inr (10, [.int 0, .ref q1, .ref q2, .int 0, .ref q3, .int 0, .int 0, .int 0, .int 0, .ref q4, .ref q5, .ref q6, .int 0, .int 0, .int 0, .int 0, .int 0, .null, .null, .null, .null, .null, .null, .null, .null, .int 0, .int 0, .int 0, .null, .int 0, .int 0, .int 0, .int 0, .int 0, .int 0, .null, .int 0, .null, .int 0, .int 0, .int 0, .null, .int 0, .null, .null, .null, .int 0, .null, .int 0, .int 0, .int 0, .int 0, .int 0, .null]))] ++ [(q1, .inl (cA, 389, .inl (fun _ => 0)))] ++ [(q2, .inl (cA, 2334, .inl (fun _ => 0)))] ++ [(q3, .inl (cA, 389, .inl (fun _ => 0)))] ++ [(q4, .inl (cA, 64, .inl (fun _ => 0)))] ++ [(q5, .inl (cA, 600, .inl (fun _ => 0)))] ++ [(q6, .inl (cA, 400, .inl (fun _ => 0)))] ++ [(q7, .inl (cA, 150, .inl (wf 94)))]) rfl ?_
  refine h_dup X dX10_init_621 (q := 622) rfl rfl ?_
  refine h_bipush X dX10_init_622 (q := 624) rfl li_b94 ?_
  refine h_bipush X dX10_init_624 (q := 626) rfl li_b116 ?_
  refine h_iastW X 7 rfl (i := (94 : Int32)) (j := 94) (by decide) (by decide) dX10_init_626 (q := 627) rfl (wf_s 94 (by decide)) (ws' := [(a, .inr (10, [.int 0, .ref q1, .ref q2, .int 0, .ref q3, .int 0, .int 0, .int 0, .int 0, .ref q4, .ref q5, .ref q6, .int 0, .int 0, .int 0, .int 0, .int 0, .null, .null, .null, .null, .null, .null, .null, .null, .int 0, .int 0, .int 0, .null, .int 0, .int 0, .int 0, .int 0, .int 0, .int 0, .null, .int 0, .null, .int 0, .int 0, .int 0, .null, .int 0, .null, .null, .null, .int 0, .null, .int 0, .int 0, .int 0, .int 0, .int 0, .null]))] ++ [(q1, .inl (cA, 389, .inl (fun _ => 0)))] ++ [(q2, .inl (cA, 2334, .inl (fun _ => 0)))] ++ [(q3, .inl (cA, 389, .inl (fun _ => 0)))] ++ [(q4, .inl (cA, 64, .inl (fun _ => 0)))] ++ [(q5, .inl (cA, 600, .inl (fun _ => 0)))] ++ [(q6, .inl (cA, 400, .inl (fun _ => 0)))] ++ [(q7, .inl (cA, 150, .inl (wf 95)))]) rfl ?_
  refine h_dup X dX10_init_627 (q := 628) rfl rfl ?_
  refine h_bipush X dX10_init_628 (q := 630) rfl li_b95 ?_
  refine h_bipush X dX10_init_630 (q := 632) rfl li_b111 ?_
  refine h_iastW X 7 rfl (i := (95 : Int32)) (j := 95) (by decide) (by decide) dX10_init_632 (q := 633) rfl (wf_s 95 (by decide)) (ws' := [(a, .inr (10, [.int 0, .ref q1, .ref q2, .int 0, .ref q3, .int 0, .int 0, .int 0, .int 0, .ref q4, .ref q5, .ref q6, .int 0, .int 0, .int 0, .int 0, .int 0, .null, .null, .null, .null, .null, .null, .null, .null, .int 0, .int 0, .int 0, .null, .int 0, .int 0, .int 0, .int 0, .int 0, .int 0, .null, .int 0, .null, .int 0, .int 0, .int 0, .null, .int 0, .null, .null, .null, .int 0, .null, .int 0, .int 0, .int 0, .int 0, .int 0, .null]))] ++ [(q1, .inl (cA, 389, .inl (fun _ => 0)))] ++ [(q2, .inl (cA, 2334, .inl (fun _ => 0)))] ++ [(q3, .inl (cA, 389, .inl (fun _ => 0)))] ++ [(q4, .inl (cA, 64, .inl (fun _ => 0)))] ++ [(q5, .inl (cA, 600, .inl (fun _ => 0)))] ++ [(q6, .inl (cA, 400, .inl (fun _ => 0)))] ++ [(q7, .inl (cA, 150, .inl (wf 96)))]) rfl ?_
  refine h_dup X dX10_init_633 (q := 634) rfl rfl ?_
  refine h_bipush X dX10_init_634 (q := 636) rfl li_b96 ?_
  refine h_bipush X dX10_init_636 (q := 638) rfl li_b32 ?_
  refine h_iastW X 7 rfl (i := (96 : Int32)) (j := 96) (by decide) (by decide) dX10_init_638 (q := 639) rfl (wf_s 96 (by decide)) (ws' := [(a, .inr (10, [.int 0, .ref q1, .ref q2, .int 0, .ref q3, .int 0, .int 0, .int 0, .int 0, .ref q4, .ref q5, .ref q6, .int 0, .int 0, .int 0, .int 0, .int 0, .null, .null, .null, .null, .null, .null, .null, .null, .int 0, .int 0, .int 0, .null, .int 0, .int 0, .int 0, .int 0, .int 0, .int 0, .null, .int 0, .null, .int 0, .int 0, .int 0, .null, .int 0, .null, .null, .null, .int 0, .null, .int 0, .int 0, .int 0, .int 0, .int 0, .null]))] ++ [(q1, .inl (cA, 389, .inl (fun _ => 0)))] ++ [(q2, .inl (cA, 2334, .inl (fun _ => 0)))] ++ [(q3, .inl (cA, 389, .inl (fun _ => 0)))] ++ [(q4, .inl (cA, 64, .inl (fun _ => 0)))] ++ [(q5, .inl (cA, 600, .inl (fun _ => 0)))] ++ [(q6, .inl (cA, 400, .inl (fun _ => 0)))] ++ [(q7, .inl (cA, 150, .inl (wf 97)))]) rfl ?_
  refine h_dup X dX10_init_639 (q := 640) rfl rfl ?_
  refine h_bipush X dX10_init_640 (q := 642) rfl li_b97 ?_
  refine h_bipush X dX10_init_642 (q := 644) rfl li_b119 ?_
  refine h_iastW X 7 rfl (i := (97 : Int32)) (j := 97) (by decide) (by decide) dX10_init_644 (q := 645) rfl (wf_s 97 (by decide)) (ws' := [(a, .inr (10, [.int 0, .ref q1, .ref q2, .int 0, .ref q3, .int 0, .int 0, .int 0, .int 0, .ref q4, .ref q5, .ref q6, .int 0, .int 0, .int 0, .int 0, .int 0, .null, .null, .null, .null, .null, .null, .null, .null, .int 0, .int 0, .int 0, .null, .int 0, .int 0, .int 0, .int 0, .int 0, .int 0, .null, .int 0, .null, .int 0, .int 0, .int 0, .null, .int 0, .null, .null, .null, .int 0, .null, .int 0, .int 0, .int 0, .int 0, .int 0, .null]))] ++ [(q1, .inl (cA, 389, .inl (fun _ => 0)))] ++ [(q2, .inl (cA, 2334, .inl (fun _ => 0)))] ++ [(q3, .inl (cA, 389, .inl (fun _ => 0)))] ++ [(q4, .inl (cA, 64, .inl (fun _ => 0)))] ++ [(q5, .inl (cA, 600, .inl (fun _ => 0)))] ++ [(q6, .inl (cA, 400, .inl (fun _ => 0)))] ++ [(q7, .inl (cA, 150, .inl (wf 98)))]) rfl ?_
  refine h_dup X dX10_init_645 (q := 646) rfl rfl ?_
  refine h_bipush X dX10_init_646 (q := 648) rfl li_b98 ?_
  refine h_bipush X dX10_init_648 (q := 650) rfl li_b97 ?_
  refine h_iastW X 7 rfl (i := (98 : Int32)) (j := 98) (by decide) (by decide) dX10_init_650 (q := 651) rfl (wf_s 98 (by decide)) (ws' := [(a, .inr (10, [.int 0, .ref q1, .ref q2, .int 0, .ref q3, .int 0, .int 0, .int 0, .int 0, .ref q4, .ref q5, .ref q6, .int 0, .int 0, .int 0, .int 0, .int 0, .null, .null, .null, .null, .null, .null, .null, .null, .int 0, .int 0, .int 0, .null, .int 0, .int 0, .int 0, .int 0, .int 0, .int 0, .null, .int 0, .null, .int 0, .int 0, .int 0, .null, .int 0, .null, .null, .null, .int 0, .null, .int 0, .int 0, .int 0, .int 0, .int 0, .null]))] ++ [(q1, .inl (cA, 389, .inl (fun _ => 0)))] ++ [(q2, .inl (cA, 2334, .inl (fun _ => 0)))] ++ [(q3, .inl (cA, 389, .inl (fun _ => 0)))] ++ [(q4, .inl (cA, 64, .inl (fun _ => 0)))] ++ [(q5, .inl (cA, 600, .inl (fun _ => 0)))] ++ [(q6, .inl (cA, 400, .inl (fun _ => 0)))] ++ [(q7, .inl (cA, 150, .inl (wf 99)))]) rfl ?_
  refine h_dup X dX10_init_651 (q := 652) rfl rfl ?_
  refine h_bipush X dX10_init_652 (q := 654) rfl li_b99 ?_
  refine h_bipush X dX10_init_654 (q := 656) rfl li_b110 ?_
  refine h_iastW X 7 rfl (i := (99 : Int32)) (j := 99) (by decide) (by decide) dX10_init_656 (q := 657) rfl (wf_s 99 (by decide)) (ws' := [(a, .inr (10, [.int 0, .ref q1, .ref q2, .int 0, .ref q3, .int 0, .int 0, .int 0, .int 0, .ref q4, .ref q5, .ref q6, .int 0, .int 0, .int 0, .int 0, .int 0, .null, .null, .null, .null, .null, .null, .null, .null, .int 0, .int 0, .int 0, .null, .int 0, .int 0, .int 0, .int 0, .int 0, .int 0, .null, .int 0, .null, .int 0, .int 0, .int 0, .null, .int 0, .null, .null, .null, .int 0, .null, .int 0, .int 0, .int 0, .int 0, .int 0, .null]))] ++ [(q1, .inl (cA, 389, .inl (fun _ => 0)))] ++ [(q2, .inl (cA, 2334, .inl (fun _ => 0)))] ++ [(q3, .inl (cA, 389, .inl (fun _ => 0)))] ++ [(q4, .inl (cA, 64, .inl (fun _ => 0)))] ++ [(q5, .inl (cA, 600, .inl (fun _ => 0)))] ++ [(q6, .inl (cA, 400, .inl (fun _ => 0)))] ++ [(q7, .inl (cA, 150, .inl (wf 100)))]) rfl ?_
  refine h_dup X dX10_init_657 (q := 658) rfl rfl ?_
  refine h_bipush X dX10_init_658 (q := 660) rfl li_b100 ?_
  refine h_bipush X dX10_init_660 (q := 662) rfl li_b116 ?_
  refine h_iastW X 7 rfl (i := (100 : Int32)) (j := 100) (by decide) (by decide) dX10_init_662 (q := 663) rfl (wf_s 100 (by decide)) (ws' := [(a, .inr (10, [.int 0, .ref q1, .ref q2, .int 0, .ref q3, .int 0, .int 0, .int 0, .int 0, .ref q4, .ref q5, .ref q6, .int 0, .int 0, .int 0, .int 0, .int 0, .null, .null, .null, .null, .null, .null, .null, .null, .int 0, .int 0, .int 0, .null, .int 0, .int 0, .int 0, .int 0, .int 0, .int 0, .null, .int 0, .null, .int 0, .int 0, .int 0, .null, .int 0, .null, .null, .null, .int 0, .null, .int 0, .int 0, .int 0, .int 0, .int 0, .null]))] ++ [(q1, .inl (cA, 389, .inl (fun _ => 0)))] ++ [(q2, .inl (cA, 2334, .inl (fun _ => 0)))] ++ [(q3, .inl (cA, 389, .inl (fun _ => 0)))] ++ [(q4, .inl (cA, 64, .inl (fun _ => 0)))] ++ [(q5, .inl (cA, 600, .inl (fun _ => 0)))] ++ [(q6, .inl (cA, 400, .inl (fun _ => 0)))] ++ [(q7, .inl (cA, 150, .inl (wf 101)))]) rfl ?_
  refine h_dup X dX10_init_663 (q := 664) rfl rfl ?_
  refine h_bipush X dX10_init_664 (q := 666) rfl li_b101 ?_
  refine h_bipush X dX10_init_666 (q := 668) rfl li_b32 ?_
  refine h_iastW X 7 rfl (i := (101 : Int32)) (j := 101) (by decide) (by decide) dX10_init_668 (q := 669) rfl (wf_s 101 (by decide)) (ws' := [(a, .inr (10, [.int 0, .ref q1, .ref q2, .int 0, .ref q3, .int 0, .int 0, .int 0, .int 0, .ref q4, .ref q5, .ref q6, .int 0, .int 0, .int 0, .int 0, .int 0, .null, .null, .null, .null, .null, .null, .null, .null, .int 0, .int 0, .int 0, .null, .int 0, .int 0, .int 0, .int 0, .int 0, .int 0, .null, .int 0, .null, .int 0, .int 0, .int 0, .null, .int 0, .null, .null, .null, .int 0, .null, .int 0, .int 0, .int 0, .int 0, .int 0, .null]))] ++ [(q1, .inl (cA, 389, .inl (fun _ => 0)))] ++ [(q2, .inl (cA, 2334, .inl (fun _ => 0)))] ++ [(q3, .inl (cA, 389, .inl (fun _ => 0)))] ++ [(q4, .inl (cA, 64, .inl (fun _ => 0)))] ++ [(q5, .inl (cA, 600, .inl (fun _ => 0)))] ++ [(q6, .inl (cA, 400, .inl (fun _ => 0)))] ++ [(q7, .inl (cA, 150, .inl (wf 102)))]) rfl ?_
  refine h_dup X dX10_init_669 (q := 670) rfl rfl ?_
  refine h_bipush X dX10_init_670 (q := 672) rfl li_b102 ?_
  refine h_bipush X dX10_init_672 (q := 674) rfl li_b99 ?_
  refine h_iastW X 7 rfl (i := (102 : Int32)) (j := 102) (by decide) (by decide) dX10_init_674 (q := 675) rfl (wf_s 102 (by decide)) (ws' := [(a, .inr (10, [.int 0, .ref q1, .ref q2, .int 0, .ref q3, .int 0, .int 0, .int 0, .int 0, .ref q4, .ref q5, .ref q6, .int 0, .int 0, .int 0, .int 0, .int 0, .null, .null, .null, .null, .null, .null, .null, .null, .int 0, .int 0, .int 0, .null, .int 0, .int 0, .int 0, .int 0, .int 0, .int 0, .null, .int 0, .null, .int 0, .int 0, .int 0, .null, .int 0, .null, .null, .null, .int 0, .null, .int 0, .int 0, .int 0, .int 0, .int 0, .null]))] ++ [(q1, .inl (cA, 389, .inl (fun _ => 0)))] ++ [(q2, .inl (cA, 2334, .inl (fun _ => 0)))] ++ [(q3, .inl (cA, 389, .inl (fun _ => 0)))] ++ [(q4, .inl (cA, 64, .inl (fun _ => 0)))] ++ [(q5, .inl (cA, 600, .inl (fun _ => 0)))] ++ [(q6, .inl (cA, 400, .inl (fun _ => 0)))] ++ [(q7, .inl (cA, 150, .inl (wf 103)))]) rfl ?_
  refine h_dup X dX10_init_675 (q := 676) rfl rfl ?_
  refine h_bipush X dX10_init_676 (q := 678) rfl li_b103 ?_
  refine h_bipush X dX10_init_678 (q := 680) rfl li_b97 ?_
  refine h_iastW X 7 rfl (i := (103 : Int32)) (j := 103) (by decide) (by decide) dX10_init_680 (q := 681) rfl (wf_s 103 (by decide)) (ws' := [(a, .inr (10, [.int 0, .ref q1, .ref q2, .int 0, .ref q3, .int 0, .int 0, .int 0, .int 0, .ref q4, .ref q5, .ref q6, .int 0, .int 0, .int 0, .int 0, .int 0, .null, .null, .null, .null, .null, .null, .null, .null, .int 0, .int 0, .int 0, .null, .int 0, .int 0, .int 0, .int 0, .int 0, .int 0, .null, .int 0, .null, .int 0, .int 0, .int 0, .null, .int 0, .null, .null, .null, .int 0, .null, .int 0, .int 0, .int 0, .int 0, .int 0, .null]))] ++ [(q1, .inl (cA, 389, .inl (fun _ => 0)))] ++ [(q2, .inl (cA, 2334, .inl (fun _ => 0)))] ++ [(q3, .inl (cA, 389, .inl (fun _ => 0)))] ++ [(q4, .inl (cA, 64, .inl (fun _ => 0)))] ++ [(q5, .inl (cA, 600, .inl (fun _ => 0)))] ++ [(q6, .inl (cA, 400, .inl (fun _ => 0)))] ++ [(q7, .inl (cA, 150, .inl (wf 104)))]) rfl ?_
  refine h_dup X dX10_init_681 (q := 682) rfl rfl ?_
  refine h_bipush X dX10_init_682 (q := 684) rfl li_b104 ?_
  refine h_bipush X dX10_init_684 (q := 686) rfl li_b108 ?_
  refine h_iastW X 7 rfl (i := (104 : Int32)) (j := 104) (by decide) (by decide) dX10_init_686 (q := 687) rfl (wf_s 104 (by decide)) (ws' := [(a, .inr (10, [.int 0, .ref q1, .ref q2, .int 0, .ref q3, .int 0, .int 0, .int 0, .int 0, .ref q4, .ref q5, .ref q6, .int 0, .int 0, .int 0, .int 0, .int 0, .null, .null, .null, .null, .null, .null, .null, .null, .int 0, .int 0, .int 0, .null, .int 0, .int 0, .int 0, .int 0, .int 0, .int 0, .null, .int 0, .null, .int 0, .int 0, .int 0, .null, .int 0, .null, .null, .null, .int 0, .null, .int 0, .int 0, .int 0, .int 0, .int 0, .null]))] ++ [(q1, .inl (cA, 389, .inl (fun _ => 0)))] ++ [(q2, .inl (cA, 2334, .inl (fun _ => 0)))] ++ [(q3, .inl (cA, 389, .inl (fun _ => 0)))] ++ [(q4, .inl (cA, 64, .inl (fun _ => 0)))] ++ [(q5, .inl (cA, 600, .inl (fun _ => 0)))] ++ [(q6, .inl (cA, 400, .inl (fun _ => 0)))] ++ [(q7, .inl (cA, 150, .inl (wf 105)))]) rfl ?_
  refine h_dup X dX10_init_687 (q := 688) rfl rfl ?_
  refine h_bipush X dX10_init_688 (q := 690) rfl li_b105 ?_
  refine h_bipush X dX10_init_690 (q := 692) rfl li_b109 ?_
  refine h_iastW X 7 rfl (i := (105 : Int32)) (j := 105) (by decide) (by decide) dX10_init_692 (q := 693) rfl (wf_s 105 (by decide)) (ws' := [(a, .inr (10, [.int 0, .ref q1, .ref q2, .int 0, .ref q3, .int 0, .int 0, .int 0, .int 0, .ref q4, .ref q5, .ref q6, .int 0, .int 0, .int 0, .int 0, .int 0, .null, .null, .null, .null, .null, .null, .null, .null, .int 0, .int 0, .int 0, .null, .int 0, .int 0, .int 0, .int 0, .int 0, .int 0, .null, .int 0, .null, .int 0, .int 0, .int 0, .null, .int 0, .null, .null, .null, .int 0, .null, .int 0, .int 0, .int 0, .int 0, .int 0, .null]))] ++ [(q1, .inl (cA, 389, .inl (fun _ => 0)))] ++ [(q2, .inl (cA, 2334, .inl (fun _ => 0)))] ++ [(q3, .inl (cA, 389, .inl (fun _ => 0)))] ++ [(q4, .inl (cA, 64, .inl (fun _ => 0)))] ++ [(q5, .inl (cA, 600, .inl (fun _ => 0)))] ++ [(q6, .inl (cA, 400, .inl (fun _ => 0)))] ++ [(q7, .inl (cA, 150, .inl (wf 106)))]) rfl ?_
  refine h_dup X dX10_init_693 (q := 694) rfl rfl ?_
  refine h_bipush X dX10_init_694 (q := 696) rfl li_b106 ?_
  refine h_bipush X dX10_init_696 (q := 698) rfl li_b32 ?_
  refine h_iastW X 7 rfl (i := (106 : Int32)) (j := 106) (by decide) (by decide) dX10_init_698 (q := 699) rfl (wf_s 106 (by decide)) (ws' := [(a, .inr (10, [.int 0, .ref q1, .ref q2, .int 0, .ref q3, .int 0, .int 0, .int 0, .int 0, .ref q4, .ref q5, .ref q6, .int 0, .int 0, .int 0, .int 0, .int 0, .null, .null, .null, .null, .null, .null, .null, .null, .int 0, .int 0, .int 0, .null, .int 0, .int 0, .int 0, .int 0, .int 0, .int 0, .null, .int 0, .null, .int 0, .int 0, .int 0, .null, .int 0, .null, .null, .null, .int 0, .null, .int 0, .int 0, .int 0, .int 0, .int 0, .null]))] ++ [(q1, .inl (cA, 389, .inl (fun _ => 0)))] ++ [(q2, .inl (cA, 2334, .inl (fun _ => 0)))] ++ [(q3, .inl (cA, 389, .inl (fun _ => 0)))] ++ [(q4, .inl (cA, 64, .inl (fun _ => 0)))] ++ [(q5, .inl (cA, 600, .inl (fun _ => 0)))] ++ [(q6, .inl (cA, 400, .inl (fun _ => 0)))] ++ [(q7, .inl (cA, 150, .inl (wf 107)))]) rfl ?_
  refine h_dup X dX10_init_699 (q := 700) rfl rfl ?_
  refine h_bipush X dX10_init_700 (q := 702) rfl li_b107 ?_
  refine h_bipush X dX10_init_702 (q := 704) rfl li_b97 ?_
  refine h_iastW X 7 rfl (i := (107 : Int32)) (j := 107) (by decide) (by decide) dX10_init_704 (q := 705) rfl (wf_s 107 (by decide)) (ws' := [(a, .inr (10, [.int 0, .ref q1, .ref q2, .int 0, .ref q3, .int 0, .int 0, .int 0, .int 0, .ref q4, .ref q5, .ref q6, .int 0, .int 0, .int 0, .int 0, .int 0, .null, .null, .null, .null, .null, .null, .null, .null, .int 0, .int 0, .int 0, .null, .int 0, .int 0, .int 0, .int 0, .int 0, .int 0, .null, .int 0, .null, .int 0, .int 0, .int 0, .null, .int 0, .null, .null, .null, .int 0, .null, .int 0, .int 0, .int 0, .int 0, .int 0, .null]))] ++ [(q1, .inl (cA, 389, .inl (fun _ => 0)))] ++ [(q2, .inl (cA, 2334, .inl (fun _ => 0)))] ++ [(q3, .inl (cA, 389, .inl (fun _ => 0)))] ++ [(q4, .inl (cA, 64, .inl (fun _ => 0)))] ++ [(q5, .inl (cA, 600, .inl (fun _ => 0)))] ++ [(q6, .inl (cA, 400, .inl (fun _ => 0)))] ++ [(q7, .inl (cA, 150, .inl (wf 108)))]) rfl ?_
  refine h_dup X dX10_init_705 (q := 706) rfl rfl ?_
  refine h_bipush X dX10_init_706 (q := 708) rfl li_b108 ?_
  refine h_bipush X dX10_init_708 (q := 710) rfl li_b116 ?_
  refine h_iastW X 7 rfl (i := (108 : Int32)) (j := 108) (by decide) (by decide) dX10_init_710 (q := 711) rfl (wf_s 108 (by decide)) (ws' := [(a, .inr (10, [.int 0, .ref q1, .ref q2, .int 0, .ref q3, .int 0, .int 0, .int 0, .int 0, .ref q4, .ref q5, .ref q6, .int 0, .int 0, .int 0, .int 0, .int 0, .null, .null, .null, .null, .null, .null, .null, .null, .int 0, .int 0, .int 0, .null, .int 0, .int 0, .int 0, .int 0, .int 0, .int 0, .null, .int 0, .null, .int 0, .int 0, .int 0, .null, .int 0, .null, .null, .null, .int 0, .null, .int 0, .int 0, .int 0, .int 0, .int 0, .null]))] ++ [(q1, .inl (cA, 389, .inl (fun _ => 0)))] ++ [(q2, .inl (cA, 2334, .inl (fun _ => 0)))] ++ [(q3, .inl (cA, 389, .inl (fun _ => 0)))] ++ [(q4, .inl (cA, 64, .inl (fun _ => 0)))] ++ [(q5, .inl (cA, 600, .inl (fun _ => 0)))] ++ [(q6, .inl (cA, 400, .inl (fun _ => 0)))] ++ [(q7, .inl (cA, 150, .inl (wf 109)))]) rfl ?_
  refine h_dup X dX10_init_711 (q := 712) rfl rfl ?_
  refine h_bipush X dX10_init_712 (q := 714) rfl li_b109 ?_
  refine h_bipush X dX10_init_714 (q := 716) rfl li_b32 ?_
  refine h_iastW X 7 rfl (i := (109 : Int32)) (j := 109) (by decide) (by decide) dX10_init_716 (q := 717) rfl (wf_s 109 (by decide)) (ws' := [(a, .inr (10, [.int 0, .ref q1, .ref q2, .int 0, .ref q3, .int 0, .int 0, .int 0, .int 0, .ref q4, .ref q5, .ref q6, .int 0, .int 0, .int 0, .int 0, .int 0, .null, .null, .null, .null, .null, .null, .null, .null, .int 0, .int 0, .int 0, .null, .int 0, .int 0, .int 0, .int 0, .int 0, .int 0, .null, .int 0, .null, .int 0, .int 0, .int 0, .null, .int 0, .null, .null, .null, .int 0, .null, .int 0, .int 0, .int 0, .int 0, .int 0, .null]))] ++ [(q1, .inl (cA, 389, .inl (fun _ => 0)))] ++ [(q2, .inl (cA, 2334, .inl (fun _ => 0)))] ++ [(q3, .inl (cA, 389, .inl (fun _ => 0)))] ++ [(q4, .inl (cA, 64, .inl (fun _ => 0)))] ++ [(q5, .inl (cA, 600, .inl (fun _ => 0)))] ++ [(q6, .inl (cA, 400, .inl (fun _ => 0)))] ++ [(q7, .inl (cA, 150, .inl (wf 110)))]) rfl ?_
  refine h_dup X dX10_init_717 (q := 718) rfl rfl ?_
  refine h_bipush X dX10_init_718 (q := 720) rfl li_b110 ?_
  refine h_bipush X dX10_init_720 (q := 722) rfl li_b111 ?_
  refine h_iastW X 7 rfl (i := (110 : Int32)) (j := 110) (by decide) (by decide) dX10_init_722 (q := 723) rfl (wf_s 110 (by decide)) (ws' := [(a, .inr (10, [.int 0, .ref q1, .ref q2, .int 0, .ref q3, .int 0, .int 0, .int 0, .int 0, .ref q4, .ref q5, .ref q6, .int 0, .int 0, .int 0, .int 0, .int 0, .null, .null, .null, .null, .null, .null, .null, .null, .int 0, .int 0, .int 0, .null, .int 0, .int 0, .int 0, .int 0, .int 0, .int 0, .null, .int 0, .null, .int 0, .int 0, .int 0, .null, .int 0, .null, .null, .null, .int 0, .null, .int 0, .int 0, .int 0, .int 0, .int 0, .null]))] ++ [(q1, .inl (cA, 389, .inl (fun _ => 0)))] ++ [(q2, .inl (cA, 2334, .inl (fun _ => 0)))] ++ [(q3, .inl (cA, 389, .inl (fun _ => 0)))] ++ [(q4, .inl (cA, 64, .inl (fun _ => 0)))] ++ [(q5, .inl (cA, 600, .inl (fun _ => 0)))] ++ [(q6, .inl (cA, 400, .inl (fun _ => 0)))] ++ [(q7, .inl (cA, 150, .inl (wf 111)))]) rfl ?_
  refine h_dup X dX10_init_723 (q := 724) rfl rfl ?_
  refine h_bipush X dX10_init_724 (q := 726) rfl li_b111 ?_
  refine h_bipush X dX10_init_726 (q := 728) rfl li_b110 ?_
  refine h_iastW X 7 rfl (i := (111 : Int32)) (j := 111) (by decide) (by decide) dX10_init_728 (q := 729) rfl (wf_s 111 (by decide)) (ws' := [(a, .inr (10, [.int 0, .ref q1, .ref q2, .int 0, .ref q3, .int 0, .int 0, .int 0, .int 0, .ref q4, .ref q5, .ref q6, .int 0, .int 0, .int 0, .int 0, .int 0, .null, .null, .null, .null, .null, .null, .null, .null, .int 0, .int 0, .int 0, .null, .int 0, .int 0, .int 0, .int 0, .int 0, .int 0, .null, .int 0, .null, .int 0, .int 0, .int 0, .null, .int 0, .null, .null, .null, .int 0, .null, .int 0, .int 0, .int 0, .int 0, .int 0, .null]))] ++ [(q1, .inl (cA, 389, .inl (fun _ => 0)))] ++ [(q2, .inl (cA, 2334, .inl (fun _ => 0)))] ++ [(q3, .inl (cA, 389, .inl (fun _ => 0)))] ++ [(q4, .inl (cA, 64, .inl (fun _ => 0)))] ++ [(q5, .inl (cA, 600, .inl (fun _ => 0)))] ++ [(q6, .inl (cA, 400, .inl (fun _ => 0)))] ++ [(q7, .inl (cA, 150, .inl (wf 112)))]) rfl ?_
  refine h_dup X dX10_init_729 (q := 730) rfl rfl ?_
  refine h_bipush X dX10_init_730 (q := 732) rfl li_b112 ?_
  refine h_bipush X dX10_init_732 (q := 734) rfl li_b32 ?_
  refine h_iastW X 7 rfl (i := (112 : Int32)) (j := 112) (by decide) (by decide) dX10_init_734 (q := 735) rfl (wf_s 112 (by decide)) (ws' := [(a, .inr (10, [.int 0, .ref q1, .ref q2, .int 0, .ref q3, .int 0, .int 0, .int 0, .int 0, .ref q4, .ref q5, .ref q6, .int 0, .int 0, .int 0, .int 0, .int 0, .null, .null, .null, .null, .null, .null, .null, .null, .int 0, .int 0, .int 0, .null, .int 0, .int 0, .int 0, .int 0, .int 0, .int 0, .null, .int 0, .null, .int 0, .int 0, .int 0, .null, .int 0, .null, .null, .null, .int 0, .null, .int 0, .int 0, .int 0, .int 0, .int 0, .null]))] ++ [(q1, .inl (cA, 389, .inl (fun _ => 0)))] ++ [(q2, .inl (cA, 2334, .inl (fun _ => 0)))] ++ [(q3, .inl (cA, 389, .inl (fun _ => 0)))] ++ [(q4, .inl (cA, 64, .inl (fun _ => 0)))] ++ [(q5, .inl (cA, 600, .inl (fun _ => 0)))] ++ [(q6, .inl (cA, 400, .inl (fun _ => 0)))] ++ [(q7, .inl (cA, 150, .inl (wf 113)))]) rfl ?_
  refine h_dup X dX10_init_735 (q := 736) rfl rfl ?_
  refine h_bipush X dX10_init_736 (q := 738) rfl li_b113 ?_
  refine h_bipush X dX10_init_738 (q := 740) rfl li_b119 ?_
  refine h_iastW X 7 rfl (i := (113 : Int32)) (j := 113) (by decide) (by decide) dX10_init_740 (q := 741) rfl (wf_s 113 (by decide)) (ws' := [(a, .inr (10, [.int 0, .ref q1, .ref q2, .int 0, .ref q3, .int 0, .int 0, .int 0, .int 0, .ref q4, .ref q5, .ref q6, .int 0, .int 0, .int 0, .int 0, .int 0, .null, .null, .null, .null, .null, .null, .null, .null, .int 0, .int 0, .int 0, .null, .int 0, .int 0, .int 0, .int 0, .int 0, .int 0, .null, .int 0, .null, .int 0, .int 0, .int 0, .null, .int 0, .null, .null, .null, .int 0, .null, .int 0, .int 0, .int 0, .int 0, .int 0, .null]))] ++ [(q1, .inl (cA, 389, .inl (fun _ => 0)))] ++ [(q2, .inl (cA, 2334, .inl (fun _ => 0)))] ++ [(q3, .inl (cA, 389, .inl (fun _ => 0)))] ++ [(q4, .inl (cA, 64, .inl (fun _ => 0)))] ++ [(q5, .inl (cA, 600, .inl (fun _ => 0)))] ++ [(q6, .inl (cA, 400, .inl (fun _ => 0)))] ++ [(q7, .inl (cA, 150, .inl (wf 114)))]) rfl ?_
  refine h_dup X dX10_init_741 (q := 742) rfl rfl ?_
  refine h_bipush X dX10_init_742 (q := 744) rfl li_b114 ?_
  refine h_bipush X dX10_init_744 (q := 746) rfl li_b111 ?_
  refine h_iastW X 7 rfl (i := (114 : Int32)) (j := 114) (by decide) (by decide) dX10_init_746 (q := 747) rfl (wf_s 114 (by decide)) (ws' := [(a, .inr (10, [.int 0, .ref q1, .ref q2, .int 0, .ref q3, .int 0, .int 0, .int 0, .int 0, .ref q4, .ref q5, .ref q6, .int 0, .int 0, .int 0, .int 0, .int 0, .null, .null, .null, .null, .null, .null, .null, .null, .int 0, .int 0, .int 0, .null, .int 0, .int 0, .int 0, .int 0, .int 0, .int 0, .null, .int 0, .null, .int 0, .int 0, .int 0, .null, .int 0, .null, .null, .null, .int 0, .null, .int 0, .int 0, .int 0, .int 0, .int 0, .null]))] ++ [(q1, .inl (cA, 389, .inl (fun _ => 0)))] ++ [(q2, .inl (cA, 2334, .inl (fun _ => 0)))] ++ [(q3, .inl (cA, 389, .inl (fun _ => 0)))] ++ [(q4, .inl (cA, 64, .inl (fun _ => 0)))] ++ [(q5, .inl (cA, 600, .inl (fun _ => 0)))] ++ [(q6, .inl (cA, 400, .inl (fun _ => 0)))] ++ [(q7, .inl (cA, 150, .inl (wf 115)))]) rfl ?_
  refine h_dup X dX10_init_747 (q := 748) rfl rfl ?_
  refine h_bipush X dX10_init_748 (q := 750) rfl li_b115 ?_
  refine h_bipush X dX10_init_750 (q := 752) rfl li_b114 ?_
  refine h_iastW X 7 rfl (i := (115 : Int32)) (j := 115) (by decide) (by decide) dX10_init_752 (q := 753) rfl (wf_s 115 (by decide)) (ws' := [(a, .inr (10, [.int 0, .ref q1, .ref q2, .int 0, .ref q3, .int 0, .int 0, .int 0, .int 0, .ref q4, .ref q5, .ref q6, .int 0, .int 0, .int 0, .int 0, .int 0, .null, .null, .null, .null, .null, .null, .null, .null, .int 0, .int 0, .int 0, .null, .int 0, .int 0, .int 0, .int 0, .int 0, .int 0, .null, .int 0, .null, .int 0, .int 0, .int 0, .null, .int 0, .null, .null, .null, .int 0, .null, .int 0, .int 0, .int 0, .int 0, .int 0, .null]))] ++ [(q1, .inl (cA, 389, .inl (fun _ => 0)))] ++ [(q2, .inl (cA, 2334, .inl (fun _ => 0)))] ++ [(q3, .inl (cA, 389, .inl (fun _ => 0)))] ++ [(q4, .inl (cA, 64, .inl (fun _ => 0)))] ++ [(q5, .inl (cA, 600, .inl (fun _ => 0)))] ++ [(q6, .inl (cA, 400, .inl (fun _ => 0)))] ++ [(q7, .inl (cA, 150, .inl (wf 116)))]) rfl ?_
  refine h_dup X dX10_init_753 (q := 754) rfl rfl ?_
  refine h_bipush X dX10_init_754 (q := 756) rfl li_b116 ?_
  refine h_bipush X dX10_init_756 (q := 758) rfl li_b116 ?_
  refine h_iastW X 7 rfl (i := (116 : Int32)) (j := 116) (by decide) (by decide) dX10_init_758 (q := 759) rfl (wf_s 116 (by decide)) (ws' := [(a, .inr (10, [.int 0, .ref q1, .ref q2, .int 0, .ref q3, .int 0, .int 0, .int 0, .int 0, .ref q4, .ref q5, .ref q6, .int 0, .int 0, .int 0, .int 0, .int 0, .null, .null, .null, .null, .null, .null, .null, .null, .int 0, .int 0, .int 0, .null, .int 0, .int 0, .int 0, .int 0, .int 0, .int 0, .null, .int 0, .null, .int 0, .int 0, .int 0, .null, .int 0, .null, .null, .null, .int 0, .null, .int 0, .int 0, .int 0, .int 0, .int 0, .null]))] ++ [(q1, .inl (cA, 389, .inl (fun _ => 0)))] ++ [(q2, .inl (cA, 2334, .inl (fun _ => 0)))] ++ [(q3, .inl (cA, 389, .inl (fun _ => 0)))] ++ [(q4, .inl (cA, 64, .inl (fun _ => 0)))] ++ [(q5, .inl (cA, 600, .inl (fun _ => 0)))] ++ [(q6, .inl (cA, 400, .inl (fun _ => 0)))] ++ [(q7, .inl (cA, 150, .inl (wf 117)))]) rfl ?_
  refine h_dup X dX10_init_759 (q := 760) rfl rfl ?_
  refine h_bipush X dX10_init_760 (q := 762) rfl li_b117 ?_
  refine h_bipush X dX10_init_762 (q := 764) rfl li_b104 ?_
  refine h_iastW X 7 rfl (i := (117 : Int32)) (j := 117) (by decide) (by decide) dX10_init_764 (q := 765) rfl (wf_s 117 (by decide)) (ws' := [(a, .inr (10, [.int 0, .ref q1, .ref q2, .int 0, .ref q3, .int 0, .int 0, .int 0, .int 0, .ref q4, .ref q5, .ref q6, .int 0, .int 0, .int 0, .int 0, .int 0, .null, .null, .null, .null, .null, .null, .null, .null, .int 0, .int 0, .int 0, .null, .int 0, .int 0, .int 0, .int 0, .int 0, .int 0, .null, .int 0, .null, .int 0, .int 0, .int 0, .null, .int 0, .null, .null, .null, .int 0, .null, .int 0, .int 0, .int 0, .int 0, .int 0, .null]))] ++ [(q1, .inl (cA, 389, .inl (fun _ => 0)))] ++ [(q2, .inl (cA, 2334, .inl (fun _ => 0)))] ++ [(q3, .inl (cA, 389, .inl (fun _ => 0)))] ++ [(q4, .inl (cA, 64, .inl (fun _ => 0)))] ++ [(q5, .inl (cA, 600, .inl (fun _ => 0)))] ++ [(q6, .inl (cA, 400, .inl (fun _ => 0)))] ++ [(q7, .inl (cA, 150, .inl (wf 118)))]) rfl ?_
  refine h_dup X dX10_init_765 (q := 766) rfl rfl ?_
  refine h_bipush X dX10_init_766 (q := 768) rfl li_b118 ?_
  refine h_bipush X dX10_init_768 (q := 770) rfl li_b32 ?_
  refine h_iastW X 7 rfl (i := (118 : Int32)) (j := 118) (by decide) (by decide) dX10_init_770 (q := 771) rfl (wf_s 118 (by decide)) (ws' := [(a, .inr (10, [.int 0, .ref q1, .ref q2, .int 0, .ref q3, .int 0, .int 0, .int 0, .int 0, .ref q4, .ref q5, .ref q6, .int 0, .int 0, .int 0, .int 0, .int 0, .null, .null, .null, .null, .null, .null, .null, .null, .int 0, .int 0, .int 0, .null, .int 0, .int 0, .int 0, .int 0, .int 0, .int 0, .null, .int 0, .null, .int 0, .int 0, .int 0, .null, .int 0, .null, .null, .null, .int 0, .null, .int 0, .int 0, .int 0, .int 0, .int 0, .null]))] ++ [(q1, .inl (cA, 389, .inl (fun _ => 0)))] ++ [(q2, .inl (cA, 2334, .inl (fun _ => 0)))] ++ [(q3, .inl (cA, 389, .inl (fun _ => 0)))] ++ [(q4, .inl (cA, 64, .inl (fun _ => 0)))] ++ [(q5, .inl (cA, 600, .inl (fun _ => 0)))] ++ [(q6, .inl (cA, 400, .inl (fun _ => 0)))] ++ [(q7, .inl (cA, 150, .inl (wf 119)))]) rfl ?_
  refine h_dup X dX10_init_771 (q := 772) rfl rfl ?_
  refine h_bipush X dX10_init_772 (q := 774) rfl li_b119 ?_
  refine h_bipush X dX10_init_774 (q := 776) rfl li_b115 ?_
  refine h_iastW X 7 rfl (i := (119 : Int32)) (j := 119) (by decide) (by decide) dX10_init_776 (q := 777) rfl (wf_s 119 (by decide)) (ws' := [(a, .inr (10, [.int 0, .ref q1, .ref q2, .int 0, .ref q3, .int 0, .int 0, .int 0, .int 0, .ref q4, .ref q5, .ref q6, .int 0, .int 0, .int 0, .int 0, .int 0, .null, .null, .null, .null, .null, .null, .null, .null, .int 0, .int 0, .int 0, .null, .int 0, .int 0, .int 0, .int 0, .int 0, .int 0, .null, .int 0, .null, .int 0, .int 0, .int 0, .null, .int 0, .null, .null, .null, .int 0, .null, .int 0, .int 0, .int 0, .int 0, .int 0, .null]))] ++ [(q1, .inl (cA, 389, .inl (fun _ => 0)))] ++ [(q2, .inl (cA, 2334, .inl (fun _ => 0)))] ++ [(q3, .inl (cA, 389, .inl (fun _ => 0)))] ++ [(q4, .inl (cA, 64, .inl (fun _ => 0)))] ++ [(q5, .inl (cA, 600, .inl (fun _ => 0)))] ++ [(q6, .inl (cA, 400, .inl (fun _ => 0)))] ++ [(q7, .inl (cA, 150, .inl (wf 120)))]) rfl ?_
  refine h_dup X dX10_init_777 (q := 778) rfl rfl ?_
  refine h_bipush X dX10_init_778 (q := 780) rfl li_b120 ?_
  refine h_bipush X dX10_init_780 (q := 782) rfl li_b111 ?_
  refine h_iastW X 7 rfl (i := (120 : Int32)) (j := 120) (by decide) (by decide) dX10_init_782 (q := 783) rfl (wf_s 120 (by decide)) (ws' := [(a, .inr (10, [.int 0, .ref q1, .ref q2, .int 0, .ref q3, .int 0, .int 0, .int 0, .int 0, .ref q4, .ref q5, .ref q6, .int 0, .int 0, .int 0, .int 0, .int 0, .null, .null, .null, .null, .null, .null, .null, .null, .int 0, .int 0, .int 0, .null, .int 0, .int 0, .int 0, .int 0, .int 0, .int 0, .null, .int 0, .null, .int 0, .int 0, .int 0, .null, .int 0, .null, .null, .null, .int 0, .null, .int 0, .int 0, .int 0, .int 0, .int 0, .null]))] ++ [(q1, .inl (cA, 389, .inl (fun _ => 0)))] ++ [(q2, .inl (cA, 2334, .inl (fun _ => 0)))] ++ [(q3, .inl (cA, 389, .inl (fun _ => 0)))] ++ [(q4, .inl (cA, 64, .inl (fun _ => 0)))] ++ [(q5, .inl (cA, 600, .inl (fun _ => 0)))] ++ [(q6, .inl (cA, 400, .inl (fun _ => 0)))] ++ [(q7, .inl (cA, 150, .inl (wf 121)))]) rfl ?_
  refine h_dup X dX10_init_783 (q := 784) rfl rfl ?_
  refine h_bipush X dX10_init_784 (q := 786) rfl li_b121 ?_
  refine h_bipush X dX10_init_786 (q := 788) rfl li_b119 ?_
  refine h_iastW X 7 rfl (i := (121 : Int32)) (j := 121) (by decide) (by decide) dX10_init_788 (q := 789) rfl (wf_s 121 (by decide)) (ws' := [(a, .inr (10, [.int 0, .ref q1, .ref q2, .int 0, .ref q3, .int 0, .int 0, .int 0, .int 0, .ref q4, .ref q5, .ref q6, .int 0, .int 0, .int 0, .int 0, .int 0, .null, .null, .null, .null, .null, .null, .null, .null, .int 0, .int 0, .int 0, .null, .int 0, .int 0, .int 0, .int 0, .int 0, .int 0, .null, .int 0, .null, .int 0, .int 0, .int 0, .null, .int 0, .null, .null, .null, .int 0, .null, .int 0, .int 0, .int 0, .int 0, .int 0, .null]))] ++ [(q1, .inl (cA, 389, .inl (fun _ => 0)))] ++ [(q2, .inl (cA, 2334, .inl (fun _ => 0)))] ++ [(q3, .inl (cA, 389, .inl (fun _ => 0)))] ++ [(q4, .inl (cA, 64, .inl (fun _ => 0)))] ++ [(q5, .inl (cA, 600, .inl (fun _ => 0)))] ++ [(q6, .inl (cA, 400, .inl (fun _ => 0)))] ++ [(q7, .inl (cA, 150, .inl (wf 122)))]) rfl ?_
  refine h_dup X dX10_init_789 (q := 790) rfl rfl ?_
  refine h_bipush X dX10_init_790 (q := 792) rfl li_b122 ?_
  refine h_bipush X dX10_init_792 (q := 794) rfl li_b32 ?_
  refine h_iastW X 7 rfl (i := (122 : Int32)) (j := 122) (by decide) (by decide) dX10_init_794 (q := 795) rfl (wf_s 122 (by decide)) (ws' := [(a, .inr (10, [.int 0, .ref q1, .ref q2, .int 0, .ref q3, .int 0, .int 0, .int 0, .int 0, .ref q4, .ref q5, .ref q6, .int 0, .int 0, .int 0, .int 0, .int 0, .null, .null, .null, .null, .null, .null, .null, .null, .int 0, .int 0, .int 0, .null, .int 0, .int 0, .int 0, .int 0, .int 0, .int 0, .null, .int 0, .null, .int 0, .int 0, .int 0, .null, .int 0, .null, .null, .null, .int 0, .null, .int 0, .int 0, .int 0, .int 0, .int 0, .null]))] ++ [(q1, .inl (cA, 389, .inl (fun _ => 0)))] ++ [(q2, .inl (cA, 2334, .inl (fun _ => 0)))] ++ [(q3, .inl (cA, 389, .inl (fun _ => 0)))] ++ [(q4, .inl (cA, 64, .inl (fun _ => 0)))] ++ [(q5, .inl (cA, 600, .inl (fun _ => 0)))] ++ [(q6, .inl (cA, 400, .inl (fun _ => 0)))] ++ [(q7, .inl (cA, 150, .inl (wf 123)))]) rfl ?_
  refine h_dup X dX10_init_795 (q := 796) rfl rfl ?_
  refine h_bipush X dX10_init_796 (q := 798) rfl li_b123 ?_
  refine h_bipush X dX10_init_798 (q := 800) rfl li_b119 ?_
  refine h_iastW X 7 rfl (i := (123 : Int32)) (j := 123) (by decide) (by decide) dX10_init_800 (q := 801) rfl (wf_s 123 (by decide)) (ws' := [(a, .inr (10, [.int 0, .ref q1, .ref q2, .int 0, .ref q3, .int 0, .int 0, .int 0, .int 0, .ref q4, .ref q5, .ref q6, .int 0, .int 0, .int 0, .int 0, .int 0, .null, .null, .null, .null, .null, .null, .null, .null, .int 0, .int 0, .int 0, .null, .int 0, .int 0, .int 0, .int 0, .int 0, .int 0, .null, .int 0, .null, .int 0, .int 0, .int 0, .null, .int 0, .null, .null, .null, .int 0, .null, .int 0, .int 0, .int 0, .int 0, .int 0, .null]))] ++ [(q1, .inl (cA, 389, .inl (fun _ => 0)))] ++ [(q2, .inl (cA, 2334, .inl (fun _ => 0)))] ++ [(q3, .inl (cA, 389, .inl (fun _ => 0)))] ++ [(q4, .inl (cA, 64, .inl (fun _ => 0)))] ++ [(q5, .inl (cA, 600, .inl (fun _ => 0)))] ++ [(q6, .inl (cA, 400, .inl (fun _ => 0)))] ++ [(q7, .inl (cA, 150, .inl (wf 124)))]) rfl ?_
  refine h_dup X dX10_init_801 (q := 802) rfl rfl ?_
  refine h_bipush X dX10_init_802 (q := 804) rfl li_b124 ?_
  refine h_bipush X dX10_init_804 (q := 806) rfl li_b101 ?_
  refine h_iastW X 7 rfl (i := (124 : Int32)) (j := 124) (by decide) (by decide) dX10_init_806 (q := 807) rfl (wf_s 124 (by decide)) (ws' := [(a, .inr (10, [.int 0, .ref q1, .ref q2, .int 0, .ref q3, .int 0, .int 0, .int 0, .int 0, .ref q4, .ref q5, .ref q6, .int 0, .int 0, .int 0, .int 0, .int 0, .null, .null, .null, .null, .null, .null, .null, .null, .int 0, .int 0, .int 0, .null, .int 0, .int 0, .int 0, .int 0, .int 0, .int 0, .null, .int 0, .null, .int 0, .int 0, .int 0, .null, .int 0, .null, .null, .null, .int 0, .null, .int 0, .int 0, .int 0, .int 0, .int 0, .null]))] ++ [(q1, .inl (cA, 389, .inl (fun _ => 0)))] ++ [(q2, .inl (cA, 2334, .inl (fun _ => 0)))] ++ [(q3, .inl (cA, 389, .inl (fun _ => 0)))] ++ [(q4, .inl (cA, 64, .inl (fun _ => 0)))] ++ [(q5, .inl (cA, 600, .inl (fun _ => 0)))] ++ [(q6, .inl (cA, 400, .inl (fun _ => 0)))] ++ [(q7, .inl (cA, 150, .inl (wf 125)))]) rfl ?_
  refine h_dup X dX10_init_807 (q := 808) rfl rfl ?_
  refine h_bipush X dX10_init_808 (q := 810) rfl li_b125 ?_
  refine h_bipush X dX10_init_810 (q := 812) rfl li_b101 ?_
  refine h_iastW X 7 rfl (i := (125 : Int32)) (j := 125) (by decide) (by decide) dX10_init_812 (q := 813) rfl (wf_s 125 (by decide)) (ws' := [(a, .inr (10, [.int 0, .ref q1, .ref q2, .int 0, .ref q3, .int 0, .int 0, .int 0, .int 0, .ref q4, .ref q5, .ref q6, .int 0, .int 0, .int 0, .int 0, .int 0, .null, .null, .null, .null, .null, .null, .null, .null, .int 0, .int 0, .int 0, .null, .int 0, .int 0, .int 0, .int 0, .int 0, .int 0, .null, .int 0, .null, .int 0, .int 0, .int 0, .null, .int 0, .null, .null, .null, .int 0, .null, .int 0, .int 0, .int 0, .int 0, .int 0, .null]))] ++ [(q1, .inl (cA, 389, .inl (fun _ => 0)))] ++ [(q2, .inl (cA, 2334, .inl (fun _ => 0)))] ++ [(q3, .inl (cA, 389, .inl (fun _ => 0)))] ++ [(q4, .inl (cA, 64, .inl (fun _ => 0)))] ++ [(q5, .inl (cA, 600, .inl (fun _ => 0)))] ++ [(q6, .inl (cA, 400, .inl (fun _ => 0)))] ++ [(q7, .inl (cA, 150, .inl (wf 126)))]) rfl ?_
  refine h_dup X dX10_init_813 (q := 814) rfl rfl ?_
  refine h_bipush X dX10_init_814 (q := 816) rfl li_b126 ?_
  refine h_bipush X dX10_init_816 (q := 818) rfl li_b100 ?_
  refine h_iastW X 7 rfl (i := (126 : Int32)) (j := 126) (by decide) (by decide) dX10_init_818 (q := 819) rfl (wf_s 126 (by decide)) (ws' := [(a, .inr (10, [.int 0, .ref q1, .ref q2, .int 0, .ref q3, .int 0, .int 0, .int 0, .int 0, .ref q4, .ref q5, .ref q6, .int 0, .int 0, .int 0, .int 0, .int 0, .null, .null, .null, .null, .null, .null, .null, .null, .int 0, .int 0, .int 0, .null, .int 0, .int 0, .int 0, .int 0, .int 0, .int 0, .null, .int 0, .null, .int 0, .int 0, .int 0, .null, .int 0, .null, .null, .null, .int 0, .null, .int 0, .int 0, .int 0, .int 0, .int 0, .null]))] ++ [(q1, .inl (cA, 389, .inl (fun _ => 0)))] ++ [(q2, .inl (cA, 2334, .inl (fun _ => 0)))] ++ [(q3, .inl (cA, 389, .inl (fun _ => 0)))] ++ [(q4, .inl (cA, 64, .inl (fun _ => 0)))] ++ [(q5, .inl (cA, 600, .inl (fun _ => 0)))] ++ [(q6, .inl (cA, 400, .inl (fun _ => 0)))] ++ [(q7, .inl (cA, 150, .inl (wf 127)))]) rfl ?_
  refine h_dup X dX10_init_819 (q := 820) rfl rfl ?_
  refine h_bipush X dX10_init_820 (q := 822) rfl li_b127 ?_
  refine h_bipush X dX10_init_822 (q := 824) rfl li_b32 ?_
  refine h_iastW X 7 rfl (i := (127 : Int32)) (j := 127) (by decide) (by decide) dX10_init_824 (q := 825) rfl (wf_s 127 (by decide)) (ws' := [(a, .inr (10, [.int 0, .ref q1, .ref q2, .int 0, .ref q3, .int 0, .int 0, .int 0, .int 0, .ref q4, .ref q5, .ref q6, .int 0, .int 0, .int 0, .int 0, .int 0, .null, .null, .null, .null, .null, .null, .null, .null, .int 0, .int 0, .int 0, .null, .int 0, .int 0, .int 0, .int 0, .int 0, .int 0, .null, .int 0, .null, .int 0, .int 0, .int 0, .null, .int 0, .null, .null, .null, .int 0, .null, .int 0, .int 0, .int 0, .int 0, .int 0, .null]))] ++ [(q1, .inl (cA, 389, .inl (fun _ => 0)))] ++ [(q2, .inl (cA, 2334, .inl (fun _ => 0)))] ++ [(q3, .inl (cA, 389, .inl (fun _ => 0)))] ++ [(q4, .inl (cA, 64, .inl (fun _ => 0)))] ++ [(q5, .inl (cA, 600, .inl (fun _ => 0)))] ++ [(q6, .inl (cA, 400, .inl (fun _ => 0)))] ++ [(q7, .inl (cA, 150, .inl (wf 128)))]) rfl ?_
  refine h_dup X dX10_init_825 (q := 826) rfl rfl ?_
  refine h_sipush X dX10_init_826 (q := 829) rfl li_s128 ?_
  refine h_bipush X dX10_init_829 (q := 831) rfl li_b110 ?_
  refine h_iastW X 7 rfl (i := (128 : Int32)) (j := 128) (by decide) (by decide) dX10_init_831 (q := 832) rfl (wf_s 128 (by decide)) (ws' := [(a, .inr (10, [.int 0, .ref q1, .ref q2, .int 0, .ref q3, .int 0, .int 0, .int 0, .int 0, .ref q4, .ref q5, .ref q6, .int 0, .int 0, .int 0, .int 0, .int 0, .null, .null, .null, .null, .null, .null, .null, .null, .int 0, .int 0, .int 0, .null, .int 0, .int 0, .int 0, .int 0, .int 0, .int 0, .null, .int 0, .null, .int 0, .int 0, .int 0, .null, .int 0, .null, .null, .null, .int 0, .null, .int 0, .int 0, .int 0, .int 0, .int 0, .null]))] ++ [(q1, .inl (cA, 389, .inl (fun _ => 0)))] ++ [(q2, .inl (cA, 2334, .inl (fun _ => 0)))] ++ [(q3, .inl (cA, 389, .inl (fun _ => 0)))] ++ [(q4, .inl (cA, 64, .inl (fun _ => 0)))] ++ [(q5, .inl (cA, 600, .inl (fun _ => 0)))] ++ [(q6, .inl (cA, 400, .inl (fun _ => 0)))] ++ [(q7, .inl (cA, 150, .inl (wf 129)))]) rfl ?_
  refine h_dup X dX10_init_832 (q := 833) rfl rfl ?_
  refine h_sipush X dX10_init_833 (q := 836) rfl li_s129 ?_
  refine h_bipush X dX10_init_836 (q := 838) rfl li_b111 ?_
  refine h_iastW X 7 rfl (i := (129 : Int32)) (j := 129) (by decide) (by decide) dX10_init_838 (q := 839) rfl (wf_s 129 (by decide)) (ws' := [(a, .inr (10, [.int 0, .ref q1, .ref q2, .int 0, .ref q3, .int 0, .int 0, .int 0, .int 0, .ref q4, .ref q5, .ref q6, .int 0, .int 0, .int 0, .int 0, .int 0, .null, .null, .null, .null, .null, .null, .null, .null, .int 0, .int 0, .int 0, .null, .int 0, .int 0, .int 0, .int 0, .int 0, .int 0, .null, .int 0, .null, .int 0, .int 0, .int 0, .null, .int 0, .null, .null, .null, .int 0, .null, .int 0, .int 0, .int 0, .int 0, .int 0, .null]))] ++ [(q1, .inl (cA, 389, .inl (fun _ => 0)))] ++ [(q2, .inl (cA, 2334, .inl (fun _ => 0)))] ++ [(q3, .inl (cA, 389, .inl (fun _ => 0)))] ++ [(q4, .inl (cA, 64, .inl (fun _ => 0)))] ++ [(q5, .inl (cA, 600, .inl (fun _ => 0)))] ++ [(q6, .inl (cA, 400, .inl (fun _ => 0)))] ++ [(q7, .inl (cA, 150, .inl (wf 130)))]) rfl ?_
  refine h_dup X dX10_init_839 (q := 840) rfl rfl ?_
  refine h_sipush X dX10_init_840 (q := 843) rfl li_s130 ?_
  refine h_bipush X dX10_init_843 (q := 845) rfl li_b114 ?_
  refine h_iastW X 7 rfl (i := (130 : Int32)) (j := 130) (by decide) (by decide) dX10_init_845 (q := 846) rfl (wf_s 130 (by decide)) (ws' := [(a, .inr (10, [.int 0, .ref q1, .ref q2, .int 0, .ref q3, .int 0, .int 0, .int 0, .int 0, .ref q4, .ref q5, .ref q6, .int 0, .int 0, .int 0, .int 0, .int 0, .null, .null, .null, .null, .null, .null, .null, .null, .int 0, .int 0, .int 0, .null, .int 0, .int 0, .int 0, .int 0, .int 0, .int 0, .null, .int 0, .null, .int 0, .int 0, .int 0, .null, .int 0, .null, .null, .null, .int 0, .null, .int 0, .int 0, .int 0, .int 0, .int 0, .null]))] ++ [(q1, .inl (cA, 389, .inl (fun _ => 0)))] ++ [(q2, .inl (cA, 2334, .inl (fun _ => 0)))] ++ [(q3, .inl (cA, 389, .inl (fun _ => 0)))] ++ [(q4, .inl (cA, 64, .inl (fun _ => 0)))] ++ [(q5, .inl (cA, 600, .inl (fun _ => 0)))] ++ [(q6, .inl (cA, 400, .inl (fun _ => 0)))] ++ [(q7, .inl (cA, 150, .inl (wf 131)))]) rfl ?_
  refine h_dup X dX10_init_846 (q := 847) rfl rfl ?_
  refine h_sipush X dX10_init_847 (q := 850) rfl li_s131 ?_
  refine h_bipush X dX10_init_850 (q := 852) rfl li_b116 ?_
  refine h_iastW X 7 rfl (i := (131 : Int32)) (j := 131) (by decide) (by decide) dX10_init_852 (q := 853) rfl (wf_s 131 (by decide)) (ws' := [(a, .inr (10, [.int 0, .ref q1, .ref q2, .int 0, .ref q3, .int 0, .int 0, .int 0, .int 0, .ref q4, .ref q5, .ref q6, .int 0, .int 0, .int 0, .int 0, .int 0, .null, .null, .null, .null, .null, .null, .null, .null, .int 0, .int 0, .int 0, .null, .int 0, .int 0, .int 0, .int 0, .int 0, .int 0, .null, .int 0, .null, .int 0, .int 0, .int 0, .null, .int 0, .null, .null, .null, .int 0, .null, .int 0, .int 0, .int 0, .int 0, .int 0, .null]))] ++ [(q1, .inl (cA, 389, .inl (fun _ => 0)))] ++ [(q2, .inl (cA, 2334, .inl (fun _ => 0)))] ++ [(q3, .inl (cA, 389, .inl (fun _ => 0)))] ++ [(q4, .inl (cA, 64, .inl (fun _ => 0)))] ++ [(q5, .inl (cA, 600, .inl (fun _ => 0)))] ++ [(q6, .inl (cA, 400, .inl (fun _ => 0)))] ++ [(q7, .inl (cA, 150, .inl (wf 132)))]) rfl ?_
  refine h_dup X dX10_init_853 (q := 854) rfl rfl ?_
  refine h_sipush X dX10_init_854 (q := 857) rfl li_s132 ?_
  refine h_bipush X dX10_init_857 (q := 859) rfl li_b104 ?_
  refine h_iastW X 7 rfl (i := (132 : Int32)) (j := 132) (by decide) (by decide) dX10_init_859 (q := 860) rfl (wf_s 132 (by decide)) (ws' := [(a, .inr (10, [.int 0, .ref q1, .ref q2, .int 0, .ref q3, .int 0, .int 0, .int 0, .int 0, .ref q4, .ref q5, .ref q6, .int 0, .int 0, .int 0, .int 0, .int 0, .null, .null, .null, .null, .null, .null, .null, .null, .int 0, .int 0, .int 0, .null, .int 0, .int 0, .int 0, .int 0, .int 0, .int 0, .null, .int 0, .null, .int 0, .int 0, .int 0, .null, .int 0, .null, .null, .null, .int 0, .null, .int 0, .int 0, .int 0, .int 0, .int 0, .null]))] ++ [(q1, .inl (cA, 389, .inl (fun _ => 0)))] ++ [(q2, .inl (cA, 2334, .inl (fun _ => 0)))] ++ [(q3, .inl (cA, 389, .inl (fun _ => 0)))] ++ [(q4, .inl (cA, 64, .inl (fun _ => 0)))] ++ [(q5, .inl (cA, 600, .inl (fun _ => 0)))] ++ [(q6, .inl (cA, 400, .inl (fun _ => 0)))] ++ [(q7, .inl (cA, 150, .inl (wf 133)))]) rfl ?_
  refine h_dup X dX10_init_860 (q := 861) rfl rfl ?_
  refine h_sipush X dX10_init_861 (q := 864) rfl li_s133 ?_
  refine h_bipush X dX10_init_864 (q := 866) rfl li_b32 ?_
  refine h_iastW X 7 rfl (i := (133 : Int32)) (j := 133) (by decide) (by decide) dX10_init_866 (q := 867) rfl (wf_s 133 (by decide)) (ws' := [(a, .inr (10, [.int 0, .ref q1, .ref q2, .int 0, .ref q3, .int 0, .int 0, .int 0, .int 0, .ref q4, .ref q5, .ref q6, .int 0, .int 0, .int 0, .int 0, .int 0, .null, .null, .null, .null, .null, .null, .null, .null, .int 0, .int 0, .int 0, .null, .int 0, .int 0, .int 0, .int 0, .int 0, .int 0, .null, .int 0, .null, .int 0, .int 0, .int 0, .null, .int 0, .null, .null, .null, .int 0, .null, .int 0, .int 0, .int 0, .int 0, .int 0, .null]))] ++ [(q1, .inl (cA, 389, .inl (fun _ => 0)))] ++ [(q2, .inl (cA, 2334, .inl (fun _ => 0)))] ++ [(q3, .inl (cA, 389, .inl (fun _ => 0)))] ++ [(q4, .inl (cA, 64, .inl (fun _ => 0)))] ++ [(q5, .inl (cA, 600, .inl (fun _ => 0)))] ++ [(q6, .inl (cA, 400, .inl (fun _ => 0)))] ++ [(q7, .inl (cA, 150, .inl (wf 134)))]) rfl ?_
  refine h_dup X dX10_init_867 (q := 868) rfl rfl ?_
  refine h_sipush X dX10_init_868 (q := 871) rfl li_s134 ?_
  refine h_bipush X dX10_init_871 (q := 873) rfl li_b101 ?_
  refine h_iastW X 7 rfl (i := (134 : Int32)) (j := 134) (by decide) (by decide) dX10_init_873 (q := 874) rfl (wf_s 134 (by decide)) (ws' := [(a, .inr (10, [.int 0, .ref q1, .ref q2, .int 0, .ref q3, .int 0, .int 0, .int 0, .int 0, .ref q4, .ref q5, .ref q6, .int 0, .int 0, .int 0, .int 0, .int 0, .null, .null, .null, .null, .null, .null, .null, .null, .int 0, .int 0, .int 0, .null, .int 0, .int 0, .int 0, .int 0, .int 0, .int 0, .null, .int 0, .null, .int 0, .int 0, .int 0, .null, .int 0, .null, .null, .null, .int 0, .null, .int 0, .int 0, .int 0, .int 0, .int 0, .null]))] ++ [(q1, .inl (cA, 389, .inl (fun _ => 0)))] ++ [(q2, .inl (cA, 2334, .inl (fun _ => 0)))] ++ [(q3, .inl (cA, 389, .inl (fun _ => 0)))] ++ [(q4, .inl (cA, 64, .inl (fun _ => 0)))] ++ [(q5, .inl (cA, 600, .inl (fun _ => 0)))] ++ [(q6, .inl (cA, 400, .inl (fun _ => 0)))] ++ [(q7, .inl (cA, 150, .inl (wf 135)))]) rfl ?_
  refine h_dup X dX10_init_874 (q := 875) rfl rfl ?_
  refine h_sipush X dX10_init_875 (q := 878) rfl li_s135 ?_
  refine h_bipush X dX10_init_878 (q := 880) rfl li_b97 ?_
  refine h_iastW X 7 rfl (i := (135 : Int32)) (j := 135) (by decide) (by decide) dX10_init_880 (q := 881) rfl (wf_s 135 (by decide)) (ws' := [(a, .inr (10, [.int 0, .ref q1, .ref q2, .int 0, .ref q3, .int 0, .int 0, .int 0, .int 0, .ref q4, .ref q5, .ref q6, .int 0, .int 0, .int 0, .int 0, .int 0, .null, .null, .null, .null, .null, .null, .null, .null, .int 0, .int 0, .int 0, .null, .int 0, .int 0, .int 0, .int 0, .int 0, .int 0, .null, .int 0, .null, .int 0, .int 0, .int 0, .null, .int 0, .null, .null, .null, .int 0, .null, .int 0, .int 0, .int 0, .int 0, .int 0, .null]))] ++ [(q1, .inl (cA, 389, .inl (fun _ => 0)))] ++ [(q2, .inl (cA, 2334, .inl (fun _ => 0)))] ++ [(q3, .inl (cA, 389, .inl (fun _ => 0)))] ++ [(q4, .inl (cA, 64, .inl (fun _ => 0)))] ++ [(q5, .inl (cA, 600, .inl (fun _ => 0)))] ++ [(q6, .inl (cA, 400, .inl (fun _ => 0)))] ++ [(q7, .inl (cA, 150, .inl (wf 136)))]) rfl ?_
  refine h_dup X dX10_init_881 (q := 882) rfl rfl ?_
  refine h_sipush X dX10_init_882 (q := 885) rfl li_s136 ?_
  refine h_bipush X dX10_init_885 (q := 887) rfl li_b115 ?_
  refine h_iastW X 7 rfl (i := (136 : Int32)) (j := 136) (by decide) (by decide) dX10_init_887 (q := 888) rfl (wf_s 136 (by decide)) (ws' := [(a, .inr (10, [.int 0, .ref q1, .ref q2, .int 0, .ref q3, .int 0, .int 0, .int 0, .int 0, .ref q4, .ref q5, .ref q6, .int 0, .int 0, .int 0, .int 0, .int 0, .null, .null, .null, .null, .null, .null, .null, .null, .int 0, .int 0, .int 0, .null, .int 0, .int 0, .int 0, .int 0, .int 0, .int 0, .null, .int 0, .null, .int 0, .int 0, .int 0, .null, .int 0, .null, .null, .null, .int 0, .null, .int 0, .int 0, .int 0, .int 0, .int 0, .null]))] ++ [(q1, .inl (cA, 389, .inl (fun _ => 0)))] ++ [(q2, .inl (cA, 2334, .inl (fun _ => 0)))] ++ [(q3, .inl (cA, 389, .inl (fun _ => 0)))] ++ [(q4, .inl (cA, 64, .inl (fun _ => 0)))] ++ [(q5, .inl (cA, 600, .inl (fun _ => 0)))] ++ [(q6, .inl (cA, 400, .inl (fun _ => 0)))] ++ [(q7, .inl (cA, 150, .inl (wf 137)))]) rfl ?_
  refine h_dup X dX10_init_888 (q := 889) rfl rfl ?_
  refine h_sipush X dX10_init_889 (q := 892) rfl li_s137 ?_
  refine h_bipush X dX10_init_892 (q := 894) rfl li_b116 ?_
  refine h_iastW X 7 rfl (i := (137 : Int32)) (j := 137) (by decide) (by decide) dX10_init_894 (q := 895) rfl (wf_s 137 (by decide)) (ws' := [(a, .inr (10, [.int 0, .ref q1, .ref q2, .int 0, .ref q3, .int 0, .int 0, .int 0, .int 0, .ref q4, .ref q5, .ref q6, .int 0, .int 0, .int 0, .int 0, .int 0, .null, .null, .null, .null, .null, .null, .null, .null, .int 0, .int 0, .int 0, .null, .int 0, .int 0, .int 0, .int 0, .int 0, .int 0, .null, .int 0, .null, .int 0, .int 0, .int 0, .null, .int 0, .null, .null, .null, .int 0, .null, .int 0, .int 0, .int 0, .int 0, .int 0, .null]))] ++ [(q1, .inl (cA, 389, .inl (fun _ => 0)))] ++ [(q2, .inl (cA, 2334, .inl (fun _ => 0)))] ++ [(q3, .inl (cA, 389, .inl (fun _ => 0)))] ++ [(q4, .inl (cA, 64, .inl (fun _ => 0)))] ++ [(q5, .inl (cA, 600, .inl (fun _ => 0)))] ++ [(q6, .inl (cA, 400, .inl (fun _ => 0)))] ++ [(q7, .inl (cA, 150, .inl (wf 138)))]) rfl ?_
  refine h_dup X dX10_init_895 (q := 896) rfl rfl ?_
  refine h_sipush X dX10_init_896 (q := 899) rfl li_s138 ?_
  refine h_bipush X dX10_init_899 (q := 901) rfl li_b32 ?_
  refine h_iastW X 7 rfl (i := (138 : Int32)) (j := 138) (by decide) (by decide) dX10_init_901 (q := 902) rfl (wf_s 138 (by decide)) (ws' := [(a, .inr (10, [.int 0, .ref q1, .ref q2, .int 0, .ref q3, .int 0, .int 0, .int 0, .int 0, .ref q4, .ref q5, .ref q6, .int 0, .int 0, .int 0, .int 0, .int 0, .null, .null, .null, .null, .null, .null, .null, .null, .int 0, .int 0, .int 0, .null, .int 0, .int 0, .int 0, .int 0, .int 0, .int 0, .null, .int 0, .null, .int 0, .int 0, .int 0, .null, .int 0, .null, .null, .null, .int 0, .null, .int 0, .int 0, .int 0, .int 0, .int 0, .null]))] ++ [(q1, .inl (cA, 389, .inl (fun _ => 0)))] ++ [(q2, .inl (cA, 2334, .inl (fun _ => 0)))] ++ [(q3, .inl (cA, 389, .inl (fun _ => 0)))] ++ [(q4, .inl (cA, 64, .inl (fun _ => 0)))] ++ [(q5, .inl (cA, 600, .inl (fun _ => 0)))] ++ [(q6, .inl (cA, 400, .inl (fun _ => 0)))] ++ [(q7, .inl (cA, 150, .inl (wf 139)))]) rfl ?_
  refine h_dup X dX10_init_902 (q := 903) rfl rfl ?_
  refine h_sipush X dX10_init_903 (q := 906) rfl li_s139 ?_
  refine h_bipush X dX10_init_906 (q := 908) rfl li_b115 ?_
  refine h_iastW X 7 rfl (i := (139 : Int32)) (j := 139) (by decide) (by decide) dX10_init_908 (q := 909) rfl (wf_s 139 (by decide)) (ws' := [(a, .inr (10, [.int 0, .ref q1, .ref q2, .int 0, .ref q3, .int 0, .int 0, .int 0, .int 0, .ref q4, .ref q5, .ref q6, .int 0, .int 0, .int 0, .int 0, .int 0, .null, .null, .null, .null, .null, .null, .null, .null, .int 0, .int 0, .int 0, .null, .int 0, .int 0, .int 0, .int 0, .int 0, .int 0, .null, .int 0, .null, .int 0, .int 0, .int 0, .null, .int 0, .null, .null, .null, .int 0, .null, .int 0, .int 0, .int 0, .int 0, .int 0, .null]))] ++ [(q1, .inl (cA, 389, .inl (fun _ => 0)))] ++ [(q2, .inl (cA, 2334, .inl (fun _ => 0)))] ++ [(q3, .inl (cA, 389, .inl (fun _ => 0)))] ++ [(q4, .inl (cA, 64, .inl (fun _ => 0)))] ++ [(q5, .inl (cA, 600, .inl (fun _ => 0)))] ++ [(q6, .inl (cA, 400, .inl (fun _ => 0)))] ++ [(q7, .inl (cA, 150, .inl (wf 140)))]) rfl ?_
  refine h_dup X dX10_init_909 (q := 910) rfl rfl ?_
  refine h_sipush X dX10_init_910 (q := 913) rfl li_s140 ?_
  refine h_bipush X dX10_init_913 (q := 915) rfl li_b111 ?_
  refine h_iastW X 7 rfl (i := (140 : Int32)) (j := 140) (by decide) (by decide) dX10_init_915 (q := 916) rfl (wf_s 140 (by decide)) (ws' := [(a, .inr (10, [.int 0, .ref q1, .ref q2, .int 0, .ref q3, .int 0, .int 0, .int 0, .int 0, .ref q4, .ref q5, .ref q6, .int 0, .int 0, .int 0, .int 0, .int 0, .null, .null, .null, .null, .null, .null, .null, .null, .int 0, .int 0, .int 0, .null, .int 0, .int 0, .int 0, .int 0, .int 0, .int 0, .null, .int 0, .null, .int 0, .int 0, .int 0, .null, .int 0, .null, .null, .null, .int 0, .null, .int 0, .int 0, .int 0, .int 0, .int 0, .null]))] ++ [(q1, .inl (cA, 389, .inl (fun _ => 0)))] ++ [(q2, .inl (cA, 2334, .inl (fun _ => 0)))] ++ [(q3, .inl (cA, 389, .inl (fun _ => 0)))] ++ [(q4, .inl (cA, 64, .inl (fun _ => 0)))] ++ [(q5, .inl (cA, 600, .inl (fun _ => 0)))] ++ [(q6, .inl (cA, 400, .inl (fun _ => 0)))] ++ [(q7, .inl (cA, 150, .inl (wf 141)))]) rfl ?_
  refine h_dup X dX10_init_916 (q := 917) rfl rfl ?_
  refine h_sipush X dX10_init_917 (q := 920) rfl li_s141 ?_
  refine h_bipush X dX10_init_920 (q := 922) rfl li_b117 ?_
  refine h_iastW X 7 rfl (i := (141 : Int32)) (j := 141) (by decide) (by decide) dX10_init_922 (q := 923) rfl (wf_s 141 (by decide)) (ws' := [(a, .inr (10, [.int 0, .ref q1, .ref q2, .int 0, .ref q3, .int 0, .int 0, .int 0, .int 0, .ref q4, .ref q5, .ref q6, .int 0, .int 0, .int 0, .int 0, .int 0, .null, .null, .null, .null, .null, .null, .null, .null, .int 0, .int 0, .int 0, .null, .int 0, .int 0, .int 0, .int 0, .int 0, .int 0, .null, .int 0, .null, .int 0, .int 0, .int 0, .null, .int 0, .null, .null, .null, .int 0, .null, .int 0, .int 0, .int 0, .int 0, .int 0, .null]))] ++ [(q1, .inl (cA, 389, .inl (fun _ => 0)))] ++ [(q2, .inl (cA, 2334, .inl (fun _ => 0)))] ++ [(q3, .inl (cA, 389, .inl (fun _ => 0)))] ++ [(q4, .inl (cA, 64, .inl (fun _ => 0)))] ++ [(q5, .inl (cA, 600, .inl (fun _ => 0)))] ++ [(q6, .inl (cA, 400, .inl (fun _ => 0)))] ++ [(q7, .inl (cA, 150, .inl (wf 142)))]) rfl ?_
  refine h_dup X dX10_init_923 (q := 924) rfl rfl ?_
  refine h_sipush X dX10_init_924 (q := 927) rfl li_s142 ?_
  refine h_bipush X dX10_init_927 (q := 929) rfl li_b116 ?_
  refine h_iastW X 7 rfl (i := (142 : Int32)) (j := 142) (by decide) (by decide) dX10_init_929 (q := 930) rfl (wf_s 142 (by decide)) (ws' := [(a, .inr (10, [.int 0, .ref q1, .ref q2, .int 0, .ref q3, .int 0, .int 0, .int 0, .int 0, .ref q4, .ref q5, .ref q6, .int 0, .int 0, .int 0, .int 0, .int 0, .null, .null, .null, .null, .null, .null, .null, .null, .int 0, .int 0, .int 0, .null, .int 0, .int 0, .int 0, .int 0, .int 0, .int 0, .null, .int 0, .null, .int 0, .int 0, .int 0, .null, .int 0, .null, .null, .null, .int 0, .null, .int 0, .int 0, .int 0, .int 0, .int 0, .null]))] ++ [(q1, .inl (cA, 389, .inl (fun _ => 0)))] ++ [(q2, .inl (cA, 2334, .inl (fun _ => 0)))] ++ [(q3, .inl (cA, 389, .inl (fun _ => 0)))] ++ [(q4, .inl (cA, 64, .inl (fun _ => 0)))] ++ [(q5, .inl (cA, 600, .inl (fun _ => 0)))] ++ [(q6, .inl (cA, 400, .inl (fun _ => 0)))] ++ [(q7, .inl (cA, 150, .inl (wf 143)))]) rfl ?_
  refine h_dup X dX10_init_930 (q := 931) rfl rfl ?_
  refine h_sipush X dX10_init_931 (q := 934) rfl li_s143 ?_
  refine h_bipush X dX10_init_934 (q := 936) rfl li_b104 ?_
  refine h_iastW X 7 rfl (i := (143 : Int32)) (j := 143) (by decide) (by decide) dX10_init_936 (q := 937) rfl (wf_s 143 (by decide)) (ws' := [(a, .inr (10, [.int 0, .ref q1, .ref q2, .int 0, .ref q3, .int 0, .int 0, .int 0, .int 0, .ref q4, .ref q5, .ref q6, .int 0, .int 0, .int 0, .int 0, .int 0, .null, .null, .null, .null, .null, .null, .null, .null, .int 0, .int 0, .int 0, .null, .int 0, .int 0, .int 0, .int 0, .int 0, .int 0, .null, .int 0, .null, .int 0, .int 0, .int 0, .null, .int 0, .null, .null, .null, .int 0, .null, .int 0, .int 0, .int 0, .int 0, .int 0, .null]))] ++ [(q1, .inl (cA, 389, .inl (fun _ => 0)))] ++ [(q2, .inl (cA, 2334, .inl (fun _ => 0)))] ++ [(q3, .inl (cA, 389, .inl (fun _ => 0)))] ++ [(q4, .inl (cA, 64, .inl (fun _ => 0)))] ++ [(q5, .inl (cA, 600, .inl (fun _ => 0)))] ++ [(q6, .inl (cA, 400, .inl (fun _ => 0)))] ++ [(q7, .inl (cA, 150, .inl (wf 144)))]) rfl ?_
  refine h_dup X dX10_init_937 (q := 938) rfl rfl ?_
  refine h_sipush X dX10_init_938 (q := 941) rfl li_s144 ?_
  refine h_bipush X dX10_init_941 (q := 943) rfl li_b32 ?_
  refine h_iastW X 7 rfl (i := (144 : Int32)) (j := 144) (by decide) (by decide) dX10_init_943 (q := 944) rfl (wf_s 144 (by decide)) (ws' := [(a, .inr (10, [.int 0, .ref q1, .ref q2, .int 0, .ref q3, .int 0, .int 0, .int 0, .int 0, .ref q4, .ref q5, .ref q6, .int 0, .int 0, .int 0, .int 0, .int 0, .null, .null, .null, .null, .null, .null, .null, .null, .int 0, .int 0, .int 0, .null, .int 0, .int 0, .int 0, .int 0, .int 0, .int 0, .null, .int 0, .null, .int 0, .int 0, .int 0, .null, .int 0, .null, .null, .null, .int 0, .null, .int 0, .int 0, .int 0, .int 0, .int 0, .null]))] ++ [(q1, .inl (cA, 389, .inl (fun _ => 0)))] ++ [(q2, .inl (cA, 2334, .inl (fun _ => 0)))] ++ [(q3, .inl (cA, 389, .inl (fun _ => 0)))] ++ [(q4, .inl (cA, 64, .inl (fun _ => 0)))] ++ [(q5, .inl (cA, 600, .inl (fun _ => 0)))] ++ [(q6, .inl (cA, 400, .inl (fun _ => 0)))] ++ [(q7, .inl (cA, 150, .inl (wf 145)))]) rfl ?_
  refine h_dup X dX10_init_944 (q := 945) rfl rfl ?_
  refine h_sipush X dX10_init_945 (q := 948) rfl li_s145 ?_
  refine h_bipush X dX10_init_948 (q := 950) rfl li_b119 ?_
  refine h_iastW X 7 rfl (i := (145 : Int32)) (j := 145) (by decide) (by decide) dX10_init_950 (q := 951) rfl (wf_s 145 (by decide)) (ws' := [(a, .inr (10, [.int 0, .ref q1, .ref q2, .int 0, .ref q3, .int 0, .int 0, .int 0, .int 0, .ref q4, .ref q5, .ref q6, .int 0, .int 0, .int 0, .int 0, .int 0, .null, .null, .null, .null, .null, .null, .null, .null, .int 0, .int 0, .int 0, .null, .int 0, .int 0, .int 0, .int 0, .int 0, .int 0, .null, .int 0, .null, .int 0, .int 0, .int 0, .null, .int 0, .null, .null, .null, .int 0, .null, .int 0, .int 0, .int 0, .int 0, .int 0, .null]))] ++ [(q1, .inl (cA, 389, .inl (fun _ => 0)))] ++ [(q2, .inl (cA, 2334, .inl (fun _ => 0)))] ++ [(q3, .inl (cA, 389, .inl (fun _ => 0)))] ++ [(q4, .inl (cA, 64, .inl (fun _ => 0)))] ++ [(q5, .inl (cA, 600, .inl (fun _ => 0)))] ++ [(q6, .inl (cA, 400, .inl (fun _ => 0)))] ++ [(q7, .inl (cA, 150, .inl (wf 146)))]) rfl ?_
  refine h_dup X dX10_init_951 (q := 952) rfl rfl ?_
  refine h_sipush X dX10_init_952 (q := 955) rfl li_s146 ?_
  refine h_bipush X dX10_init_955 (q := 957) rfl li_b101 ?_
  refine h_iastW X 7 rfl (i := (146 : Int32)) (j := 146) (by decide) (by decide) dX10_init_957 (q := 958) rfl (wf_s 146 (by decide)) (ws' := [(a, .inr (10, [.int 0, .ref q1, .ref q2, .int 0, .ref q3, .int 0, .int 0, .int 0, .int 0, .ref q4, .ref q5, .ref q6, .int 0, .int 0, .int 0, .int 0, .int 0, .null, .null, .null, .null, .null, .null, .null, .null, .int 0, .int 0, .int 0, .null, .int 0, .int 0, .int 0, .int 0, .int 0, .int 0, .null, .int 0, .null, .int 0, .int 0, .int 0, .null, .int 0, .null, .null, .null, .int 0, .null, .int 0, .int 0, .int 0, .int 0, .int 0, .null]))] ++ [(q1, .inl (cA, 389, .inl (fun _ => 0)))] ++ [(q2, .inl (cA, 2334, .inl (fun _ => 0)))] ++ [(q3, .inl (cA, 389, .inl (fun _ => 0)))] ++ [(q4, .inl (cA, 64, .inl (fun _ => 0)))] ++ [(q5, .inl (cA, 600, .inl (fun _ => 0)))] ++ [(q6, .inl (cA, 400, .inl (fun _ => 0)))] ++ [(q7, .inl (cA, 150, .inl (wf 147)))]) rfl ?_
  refine h_dup X dX10_init_958 (q := 959) rfl rfl ?_
  refine h_sipush X dX10_init_959 (q := 962) rfl li_s147 ?_
  refine h_bipush X dX10_init_962 (q := 964) rfl li_b115 ?_
  refine h_iastW X 7 rfl (i := (147 : Int32)) (j := 147) (by decide) (by decide) dX10_init_964 (q := 965) rfl (wf_s 147 (by decide)) (ws' := [(a, .inr (10, [.int 0, .ref q1, .ref q2, .int 0, .ref q3, .int 0, .int 0, .int 0, .int 0, .ref q4, .ref q5, .ref q6, .int 0, .int 0, .int 0, .int 0, .int 0, .null, .null, .null, .null, .null, .null, .null, .null, .int 0, .int 0, .int 0, .null, .int 0, .int 0, .int 0, .int 0, .int 0, .int 0, .null, .int 0, .null, .int 0, .int 0, .int 0, .null, .int 0, .null, .null, .null, .int 0, .null, .int 0, .int 0, .int 0, .int 0, .int 0, .null]))] ++ [(q1, .inl (cA, 389, .inl (fun _ => 0)))] ++ [(q2, .inl (cA, 2334, .inl (fun _ => 0)))] ++ [(q3, .inl (cA, 389, .inl (fun _ => 0)))] ++ [(q4, .inl (cA, 64, .inl (fun _ => 0)))] ++ [(q5, .inl (cA, 600, .inl (fun _ => 0)))] ++ [(q6, .inl (cA, 400, .inl (fun _ => 0)))] ++ [(q7, .inl (cA, 150, .inl (wf 148)))]) rfl ?_
  refine h_dup X dX10_init_965 (q := 966) rfl rfl ?_
  refine h_sipush X dX10_init_966 (q := 969) rfl li_s148 ?_
  refine h_bipush X dX10_init_969 (q := 971) rfl li_b116 ?_
  refine h_iastW X 7 rfl (i := (148 : Int32)) (j := 148) (by decide) (by decide) dX10_init_971 (q := 972) rfl (wf_s 148 (by decide)) (ws' := [(a, .inr (10, [.int 0, .ref q1, .ref q2, .int 0, .ref q3, .int 0, .int 0, .int 0, .int 0, .ref q4, .ref q5, .ref q6, .int 0, .int 0, .int 0, .int 0, .int 0, .null, .null, .null, .null, .null, .null, .null, .null, .int 0, .int 0, .int 0, .null, .int 0, .int 0, .int 0, .int 0, .int 0, .int 0, .null, .int 0, .null, .int 0, .int 0, .int 0, .null, .int 0, .null, .null, .null, .int 0, .null, .int 0, .int 0, .int 0, .int 0, .int 0, .null]))] ++ [(q1, .inl (cA, 389, .inl (fun _ => 0)))] ++ [(q2, .inl (cA, 2334, .inl (fun _ => 0)))] ++ [(q3, .inl (cA, 389, .inl (fun _ => 0)))] ++ [(q4, .inl (cA, 64, .inl (fun _ => 0)))] ++ [(q5, .inl (cA, 600, .inl (fun _ => 0)))] ++ [(q6, .inl (cA, 400, .inl (fun _ => 0)))] ++ [(q7, .inl (cA, 150, .inl (wf 149)))]) rfl ?_
  refine h_dup X dX10_init_972 (q := 973) rfl rfl ?_
  refine h_sipush X dX10_init_973 (q := 976) rfl li_s149 ?_
  refine h_bipush X dX10_init_976 (q := 978) rfl li_b32 ?_
  refine h_iastW X 7 rfl (i := (149 : Int32)) (j := 149) (by decide) (by decide) dX10_init_978 (q := 979) rfl (wf_s 149 (by decide)) (ws' := [(a, .inr (10, [.int 0, .ref q1, .ref q2, .int 0, .ref q3, .int 0, .int 0, .int 0, .int 0, .ref q4, .ref q5, .ref q6, .int 0, .int 0, .int 0, .int 0, .int 0, .null, .null, .null, .null, .null, .null, .null, .null, .int 0, .int 0, .int 0, .null, .int 0, .int 0, .int 0, .int 0, .int 0, .int 0, .null, .int 0, .null, .int 0, .int 0, .int 0, .null, .int 0, .null, .null, .null, .int 0, .null, .int 0, .int 0, .int 0, .int 0, .int 0, .null]))] ++ [(q1, .inl (cA, 389, .inl (fun _ => 0)))] ++ [(q2, .inl (cA, 2334, .inl (fun _ => 0)))] ++ [(q3, .inl (cA, 389, .inl (fun _ => 0)))] ++ [(q4, .inl (cA, 64, .inl (fun _ => 0)))] ++ [(q5, .inl (cA, 600, .inl (fun _ => 0)))] ++ [(q6, .inl (cA, 400, .inl (fun _ => 0)))] ++ [(q7, .inl (cA, 150, .inl (wf 150)))]) rfl ?_
  refine h_putF X 0 10 rfl rfl inX10 17 (Nat.le_of_ble_eq_true rfl) rfl (gt_of 1301 (by decide +kernel) rfl) tyX10 tyX10_ok nmX10 rfl rfl (ty := (.array .int)) rfl rfl rfl (Nat.le_of_ble_eq_true rfl) (ws' := [(a, .inr (10, [.int 0, .ref q1, .ref q2, .int 0, .ref q3, .int 0, .int 0, .int 0, .int 0, .ref q4, .ref q5, .ref q6, .int 0, .int 0, .int 0, .int 0, .int 0, .ref q7, .null, .null, .null, .null, .null, .null, .null, .int 0, .int 0, .int 0, .null, .int 0, .int 0, .int 0, .int 0, .int 0, .int 0, .null, .int 0, .null, .int 0, .int 0, .int 0, .null, .int 0, .null, .null, .null, .int 0, .null, .int 0, .int 0, .int 0, .int 0, .int 0, .null]))] ++ [(q1, .inl (cA, 389, .inl (fun _ => 0)))] ++ [(q2, .inl (cA, 2334, .inl (fun _ => 0)))] ++ [(q3, .inl (cA, 389, .inl (fun _ => 0)))] ++ [(q4, .inl (cA, 64, .inl (fun _ => 0)))] ++ [(q5, .inl (cA, 600, .inl (fun _ => 0)))] ++ [(q6, .inl (cA, 400, .inl (fun _ => 0)))] ++ [(q7, .inl (cA, 150, .inl (wf 150)))]) rfl dX10_init_979 (q := 982) rfl ?_
  refine h_aload_n X dX10_init_982 (q := 983) rfl 0 rfl ?_
  refine h_iconst X dX10_init_983 (q := 984) rfl li_i2 ?_
  refine h_newa X (by decide) (N := 2) (by decide) (Nat.le_of_ble_eq_true rfl) (Nat.le_of_ble_eq_true rfl) (Nat.le_of_ble_eq_true rfl) (ce2 := 8) (sl2 := 4328) rfl rfl dX10_init_984 (q := 986) rfl (fun q8 => ?_)
  refine h_putF X 0 10 rfl rfl inX10 18 (Nat.le_of_ble_eq_true rfl) rfl (gt_of 1302 (by decide +kernel) rfl) tyX10 tyX10_ok nmX10 rfl rfl (ty := (.array .int)) rfl rfl rfl (Nat.le_of_ble_eq_true rfl) (ws' := [(a, .inr (10, [.int 0, .ref q1, .ref q2, .int 0, .ref q3, .int 0, .int 0, .int 0, .int 0, .ref q4, .ref q5, .ref q6, .int 0, .int 0, .int 0, .int 0, .int 0, .ref q7, .ref q8, .null, .null, .null, .null, .null, .null, .int 0, .int 0, .int 0, .null, .int 0, .int 0, .int 0, .int 0, .int 0, .int 0, .null, .int 0, .null, .int 0, .int 0, .int 0, .null, .int 0, .null, .null, .null, .int 0, .null, .int 0, .int 0, .int 0, .int 0, .int 0, .null]))] ++ [(q1, .inl (cA, 389, .inl (fun _ => 0)))] ++ [(q2, .inl (cA, 2334, .inl (fun _ => 0)))] ++ [(q3, .inl (cA, 389, .inl (fun _ => 0)))] ++ [(q4, .inl (cA, 64, .inl (fun _ => 0)))] ++ [(q5, .inl (cA, 600, .inl (fun _ => 0)))] ++ [(q6, .inl (cA, 400, .inl (fun _ => 0)))] ++ [(q7, .inl (cA, 150, .inl (wf 150)))] ++ [(q8, .inl (cA, 2, .inl (fun _ => 0)))]) rfl dX10_init_986 (q := 989) rfl ?_
  refine h_aload_n X dX10_init_989 (q := 990) rfl 0 rfl ?_
  refine h_bipush X dX10_init_990 (q := 992) rfl li_b48 ?_
  refine h_newa X (by decide) (N := 48) (by decide) (Nat.le_of_ble_eq_true rfl) (Nat.le_of_ble_eq_true rfl) (Nat.le_of_ble_eq_true rfl) (ce2 := 9) (sl2 := 4376) rfl rfl dX10_init_992 (q := 994) rfl (fun q9 => ?_)
  refine h_putF X 0 10 rfl rfl inX10 19 (Nat.le_of_ble_eq_true rfl) rfl (gt_of 1303 (by decide +kernel) rfl) tyX10 tyX10_ok nmX10 rfl rfl (ty := (.array .int)) rfl rfl rfl (Nat.le_of_ble_eq_true rfl) (ws' := [(a, .inr (10, [.int 0, .ref q1, .ref q2, .int 0, .ref q3, .int 0, .int 0, .int 0, .int 0, .ref q4, .ref q5, .ref q6, .int 0, .int 0, .int 0, .int 0, .int 0, .ref q7, .ref q8, .ref q9, .null, .null, .null, .null, .null, .int 0, .int 0, .int 0, .null, .int 0, .int 0, .int 0, .int 0, .int 0, .int 0, .null, .int 0, .null, .int 0, .int 0, .int 0, .null, .int 0, .null, .null, .null, .int 0, .null, .int 0, .int 0, .int 0, .int 0, .int 0, .null]))] ++ [(q1, .inl (cA, 389, .inl (fun _ => 0)))] ++ [(q2, .inl (cA, 2334, .inl (fun _ => 0)))] ++ [(q3, .inl (cA, 389, .inl (fun _ => 0)))] ++ [(q4, .inl (cA, 64, .inl (fun _ => 0)))] ++ [(q5, .inl (cA, 600, .inl (fun _ => 0)))] ++ [(q6, .inl (cA, 400, .inl (fun _ => 0)))] ++ [(q7, .inl (cA, 150, .inl (wf 150)))] ++ [(q8, .inl (cA, 2, .inl (fun _ => 0)))] ++ [(q9, .inl (cA, 48, .inl (fun _ => 0)))]) rfl dX10_init_994 (q := 997) rfl ?_
  refine h_aload_n X dX10_init_997 (q := 998) rfl 0 rfl ?_
  refine h_bipush X dX10_init_998 (q := 1000) rfl li_b48 ?_
  refine h_newa X (by decide) (N := 48) (by decide) (Nat.le_of_ble_eq_true rfl) (Nat.le_of_ble_eq_true rfl) (Nat.le_of_ble_eq_true rfl) (ce2 := 10) (sl2 := 4424) rfl rfl dX10_init_1000 (q := 1002) rfl (fun q10 => ?_)
  refine h_putF X 0 10 rfl rfl inX10 20 (Nat.le_of_ble_eq_true rfl) rfl (gt_of 1304 (by decide +kernel) rfl) tyX10 tyX10_ok nmX10 rfl rfl (ty := (.array .int)) rfl rfl rfl (Nat.le_of_ble_eq_true rfl) (ws' := [(a, .inr (10, [.int 0, .ref q1, .ref q2, .int 0, .ref q3, .int 0, .int 0, .int 0, .int 0, .ref q4, .ref q5, .ref q6, .int 0, .int 0, .int 0, .int 0, .int 0, .ref q7, .ref q8, .ref q9, .ref q10, .null, .null, .null, .null, .int 0, .int 0, .int 0, .null, .int 0, .int 0, .int 0, .int 0, .int 0, .int 0, .null, .int 0, .null, .int 0, .int 0, .int 0, .null, .int 0, .null, .null, .null, .int 0, .null, .int 0, .int 0, .int 0, .int 0, .int 0, .null]))] ++ [(q1, .inl (cA, 389, .inl (fun _ => 0)))] ++ [(q2, .inl (cA, 2334, .inl (fun _ => 0)))] ++ [(q3, .inl (cA, 389, .inl (fun _ => 0)))] ++ [(q4, .inl (cA, 64, .inl (fun _ => 0)))] ++ [(q5, .inl (cA, 600, .inl (fun _ => 0)))] ++ [(q6, .inl (cA, 400, .inl (fun _ => 0)))] ++ [(q7, .inl (cA, 150, .inl (wf 150)))] ++ [(q8, .inl (cA, 2, .inl (fun _ => 0)))] ++ [(q9, .inl (cA, 48, .inl (fun _ => 0)))] ++ [(q10, .inl (cA, 48, .inl (fun _ => 0)))]) rfl dX10_init_1002 (q := 1005) rfl ?_
  refine h_aload_n X dX10_init_1005 (q := 1006) rfl 0 rfl ?_
  refine h_bipush X dX10_init_1006 (q := 1008) rfl li_b48 ?_
  refine h_newa X (by decide) (N := 48) (by decide) (Nat.le_of_ble_eq_true rfl) (Nat.le_of_ble_eq_true rfl) (Nat.le_of_ble_eq_true rfl) (ce2 := 11) (sl2 := 4472) rfl rfl dX10_init_1008 (q := 1010) rfl (fun q11 => ?_)
  refine h_putF X 0 10 rfl rfl inX10 21 (Nat.le_of_ble_eq_true rfl) rfl (gt_of 1305 (by decide +kernel) rfl) tyX10 tyX10_ok nmX10 rfl rfl (ty := (.array .int)) rfl rfl rfl (Nat.le_of_ble_eq_true rfl) (ws' := [(a, .inr (10, [.int 0, .ref q1, .ref q2, .int 0, .ref q3, .int 0, .int 0, .int 0, .int 0, .ref q4, .ref q5, .ref q6, .int 0, .int 0, .int 0, .int 0, .int 0, .ref q7, .ref q8, .ref q9, .ref q10, .ref q11, .null, .null, .null, .int 0, .int 0, .int 0, .null, .int 0, .int 0, .int 0, .int 0, .int 0, .int 0, .null, .int 0, .null, .int 0, .int 0, .int 0, .null, .int 0, .null, .null, .null, .int 0, .null, .int 0, .int 0, .int 0, .int 0, .int 0, .null]))] ++ [(q1, .inl (cA, 389, .inl (fun _ => 0)))] ++ [(q2, .inl (cA, 2334, .inl (fun _ => 0)))] ++ [(q3, .inl (cA, 389, .inl (fun _ => 0)))] ++ [(q4, .inl (cA, 64, .inl (fun _ => 0)))] ++ [(q5, .inl (cA, 600, .inl (fun _ => 0)))] ++ [(q6, .inl (cA, 400, .inl (fun _ => 0)))] ++ [(q7, .inl (cA, 150, .inl (wf 150)))] ++ [(q8, .inl (cA, 2, .inl (fun _ => 0)))] ++ [(q9, .inl (cA, 48, .inl (fun _ => 0)))] ++ [(q10, .inl (cA, 48, .inl (fun _ => 0)))] ++ [(q11, .inl (cA, 48, .inl (fun _ => 0)))]) rfl dX10_init_1010 (q := 1013) rfl ?_
  refine h_aload_n X dX10_init_1013 (q := 1014) rfl 0 rfl ?_
  refine h_bipush X dX10_init_1014 (q := 1016) rfl li_b48 ?_
  refine h_newa X (by decide) (N := 48) (by decide) (Nat.le_of_ble_eq_true rfl) (Nat.le_of_ble_eq_true rfl) (Nat.le_of_ble_eq_true rfl) (ce2 := 12) (sl2 := 4520) rfl rfl dX10_init_1016 (q := 1018) rfl (fun q12 => ?_)
  refine h_putF X 0 10 rfl rfl inX10 22 (Nat.le_of_ble_eq_true rfl) rfl (gt_of 1306 (by decide +kernel) rfl) tyX10 tyX10_ok nmX10 rfl rfl (ty := (.array .int)) rfl rfl rfl (Nat.le_of_ble_eq_true rfl) (ws' := [(a, .inr (10, [.int 0, .ref q1, .ref q2, .int 0, .ref q3, .int 0, .int 0, .int 0, .int 0, .ref q4, .ref q5, .ref q6, .int 0, .int 0, .int 0, .int 0, .int 0, .ref q7, .ref q8, .ref q9, .ref q10, .ref q11, .ref q12, .null, .null, .int 0, .int 0, .int 0, .null, .int 0, .int 0, .int 0, .int 0, .int 0, .int 0, .null, .int 0, .null, .int 0, .int 0, .int 0, .null, .int 0, .null, .null, .null, .int 0, .null, .int 0, .int 0, .int 0, .int 0, .int 0, .null]))] ++ [(q1, .inl (cA, 389, .inl (fun _ => 0)))] ++ [(q2, .inl (cA, 2334, .inl (fun _ => 0)))] ++ [(q3, .inl (cA, 389, .inl (fun _ => 0)))] ++ [(q4, .inl (cA, 64, .inl (fun _ => 0)))] ++ [(q5, .inl (cA, 600, .inl (fun _ => 0)))] ++ [(q6, .inl (cA, 400, .inl (fun _ => 0)))] ++ [(q7, .inl (cA, 150, .inl (wf 150)))] ++ [(q8, .inl (cA, 2, .inl (fun _ => 0)))] ++ [(q9, .inl (cA, 48, .inl (fun _ => 0)))] ++ [(q10, .inl (cA, 48, .inl (fun _ => 0)))] ++ [(q11, .inl (cA, 48, .inl (fun _ => 0)))] ++ [(q12, .inl (cA, 48, .inl (fun _ => 0)))]) rfl dX10_init_1018 (q := 1021) rfl ?_
  refine h_aload_n X dX10_init_1021 (q := 1022) rfl 0 rfl ?_
  refine h_sipush X dX10_init_1022 (q := 1025) rfl li_s1200 ?_
  refine h_newa X (by decide) (N := 1200) (by decide) (Nat.le_of_ble_eq_true rfl) (Nat.le_of_ble_eq_true rfl) (Nat.le_of_ble_eq_true rfl) (ce2 := 13) (sl2 := 5720) rfl rfl dX10_init_1025 (q := 1027) rfl (fun q13 => ?_)
  refine h_putF X 0 10 rfl rfl inX10 23 (Nat.le_of_ble_eq_true rfl) rfl (gt_of 1307 (by decide +kernel) rfl) tyX10 tyX10_ok nmX10 rfl rfl (ty := (.array .int)) rfl rfl rfl (Nat.le_of_ble_eq_true rfl) (ws' := [(a, .inr (10, [.int 0, .ref q1, .ref q2, .int 0, .ref q3, .int 0, .int 0, .int 0, .int 0, .ref q4, .ref q5, .ref q6, .int 0, .int 0, .int 0, .int 0, .int 0, .ref q7, .ref q8, .ref q9, .ref q10, .ref q11, .ref q12, .ref q13, .null, .int 0, .int 0, .int 0, .null, .int 0, .int 0, .int 0, .int 0, .int 0, .int 0, .null, .int 0, .null, .int 0, .int 0, .int 0, .null, .int 0, .null, .null, .null, .int 0, .null, .int 0, .int 0, .int 0, .int 0, .int 0, .null]))] ++ [(q1, .inl (cA, 389, .inl (fun _ => 0)))] ++ [(q2, .inl (cA, 2334, .inl (fun _ => 0)))] ++ [(q3, .inl (cA, 389, .inl (fun _ => 0)))] ++ [(q4, .inl (cA, 64, .inl (fun _ => 0)))] ++ [(q5, .inl (cA, 600, .inl (fun _ => 0)))] ++ [(q6, .inl (cA, 400, .inl (fun _ => 0)))] ++ [(q7, .inl (cA, 150, .inl (wf 150)))] ++ [(q8, .inl (cA, 2, .inl (fun _ => 0)))] ++ [(q9, .inl (cA, 48, .inl (fun _ => 0)))] ++ [(q10, .inl (cA, 48, .inl (fun _ => 0)))] ++ [(q11, .inl (cA, 48, .inl (fun _ => 0)))] ++ [(q12, .inl (cA, 48, .inl (fun _ => 0)))] ++ [(q13, .inl (cA, 1200, .inl (fun _ => 0)))]) rfl dX10_init_1027 (q := 1030) rfl ?_
  refine h_aload_n X dX10_init_1030 (q := 1031) rfl 0 rfl ?_
  refine h_sipush X dX10_init_1031 (q := 1034) rfl li_s1200 ?_
  refine h_newa X (by decide) (N := 1200) (by decide) (Nat.le_of_ble_eq_true rfl) (Nat.le_of_ble_eq_true rfl) (Nat.le_of_ble_eq_true rfl) (ce2 := 14) (sl2 := 6920) rfl rfl dX10_init_1034 (q := 1036) rfl (fun q14 => ?_)
  refine h_putF X 0 10 rfl rfl inX10 24 (Nat.le_of_ble_eq_true rfl) rfl (gt_of 1308 (by decide +kernel) rfl) tyX10 tyX10_ok nmX10 rfl rfl (ty := (.array .int)) rfl rfl rfl (Nat.le_of_ble_eq_true rfl) (ws' := [(a, .inr (10, [.int 0, .ref q1, .ref q2, .int 0, .ref q3, .int 0, .int 0, .int 0, .int 0, .ref q4, .ref q5, .ref q6, .int 0, .int 0, .int 0, .int 0, .int 0, .ref q7, .ref q8, .ref q9, .ref q10, .ref q11, .ref q12, .ref q13, .ref q14, .int 0, .int 0, .int 0, .null, .int 0, .int 0, .int 0, .int 0, .int 0, .int 0, .null, .int 0, .null, .int 0, .int 0, .int 0, .null, .int 0, .null, .null, .null, .int 0, .null, .int 0, .int 0, .int 0, .int 0, .int 0, .null]))] ++ [(q1, .inl (cA, 389, .inl (fun _ => 0)))] ++ [(q2, .inl (cA, 2334, .inl (fun _ => 0)))] ++ [(q3, .inl (cA, 389, .inl (fun _ => 0)))] ++ [(q4, .inl (cA, 64, .inl (fun _ => 0)))] ++ [(q5, .inl (cA, 600, .inl (fun _ => 0)))] ++ [(q6, .inl (cA, 400, .inl (fun _ => 0)))] ++ [(q7, .inl (cA, 150, .inl (wf 150)))] ++ [(q8, .inl (cA, 2, .inl (fun _ => 0)))] ++ [(q9, .inl (cA, 48, .inl (fun _ => 0)))] ++ [(q10, .inl (cA, 48, .inl (fun _ => 0)))] ++ [(q11, .inl (cA, 48, .inl (fun _ => 0)))] ++ [(q12, .inl (cA, 48, .inl (fun _ => 0)))] ++ [(q13, .inl (cA, 1200, .inl (fun _ => 0)))] ++ [(q14, .inl (cA, 1200, .inl (fun _ => 0)))]) rfl dX10_init_1036 (q := 1039) rfl ?_
  refine h_aload_n X dX10_init_1039 (q := 1040) rfl 0 rfl ?_
  refine h_bipush X dX10_init_1040 (q := 1042) rfl li_b40 ?_
  refine h_newa X (by decide) (N := 40) (by decide) (Nat.le_of_ble_eq_true rfl) (Nat.le_of_ble_eq_true rfl) (Nat.le_of_ble_eq_true rfl) (ce2 := 15) (sl2 := 6960) rfl rfl dX10_init_1042 (q := 1044) rfl (fun q15 => ?_)
  refine h_putF X 0 10 rfl rfl inX10 28 (Nat.le_of_ble_eq_true rfl) rfl (gt_of 1312 (by decide +kernel) rfl) tyX10 tyX10_ok nmX10 rfl rfl (ty := (.array .int)) rfl rfl rfl (Nat.le_of_ble_eq_true rfl) (ws' := [(a, .inr (10, [.int 0, .ref q1, .ref q2, .int 0, .ref q3, .int 0, .int 0, .int 0, .int 0, .ref q4, .ref q5, .ref q6, .int 0, .int 0, .int 0, .int 0, .int 0, .ref q7, .ref q8, .ref q9, .ref q10, .ref q11, .ref q12, .ref q13, .ref q14, .int 0, .int 0, .int 0, .ref q15, .int 0, .int 0, .int 0, .int 0, .int 0, .int 0, .null, .int 0, .null, .int 0, .int 0, .int 0, .null, .int 0, .null, .null, .null, .int 0, .null, .int 0, .int 0, .int 0, .int 0, .int 0, .null]))] ++ [(q1, .inl (cA, 389, .inl (fun _ => 0)))] ++ [(q2, .inl (cA, 2334, .inl (fun _ => 0)))] ++ [(q3, .inl (cA, 389, .inl (fun _ => 0)))] ++ [(q4, .inl (cA, 64, .inl (fun _ => 0)))] ++ [(q5, .inl (cA, 600, .inl (fun _ => 0)))] ++ [(q6, .inl (cA, 400, .inl (fun _ => 0)))] ++ [(q7, .inl (cA, 150, .inl (wf 150)))] ++ [(q8, .inl (cA, 2, .inl (fun _ => 0)))] ++ [(q9, .inl (cA, 48, .inl (fun _ => 0)))] ++ [(q10, .inl (cA, 48, .inl (fun _ => 0)))] ++ [(q11, .inl (cA, 48, .inl (fun _ => 0)))] ++ [(q12, .inl (cA, 48, .inl (fun _ => 0)))] ++ [(q13, .inl (cA, 1200, .inl (fun _ => 0)))] ++ [(q14, .inl (cA, 1200, .inl (fun _ => 0)))] ++ [(q15, .inl (cA, 40, .inl (fun _ => 0)))]) rfl dX10_init_1044 (q := 1047) rfl ?_
  refine h_aload_n X dX10_init_1047 (q := 1048) rfl 0 rfl ?_
  refine h_iconst X dX10_init_1048 (q := 1049) rfl li_im1 ?_
  refine h_put X 0 10 rfl rfl inX10 33 (Nat.le_of_ble_eq_true rfl) rfl (gt_of 1317 (by decide +kernel) rfl) tyX10 tyX10_ok nmX10 rfl (ty := .int) rfl rfl rfl (Nat.le_of_ble_eq_true rfl) (ws' := [(a, .inr (10, [.int 0, .ref q1, .ref q2, .int 0, .ref q3, .int 0, .int 0, .int 0, .int 0, .ref q4, .ref q5, .ref q6, .int 0, .int 0, .int 0, .int 0, .int 0, .ref q7, .ref q8, .ref q9, .ref q10, .ref q11, .ref q12, .ref q13, .ref q14, .int 0, .int 0, .int 0, .ref q15, .int 0, .int 0, .int 0, .int 0, .int (-1 : Int32), .int 0, .null, .int 0, .null, .int 0, .int 0, .int 0, .null, .int 0, .null, .null, .null, .int 0, .null, .int 0, .int 0, .int 0, .int 0, .int 0, .null]))] ++ [(q1, .inl (cA, 389, .inl (fun _ => 0)))] ++ [(q2, .inl (cA, 2334, .inl (fun _ => 0)))] ++ [(q3, .inl (cA, 389, .inl (fun _ => 0)))] ++ [(q4, .inl (cA, 64, .inl (fun _ => 0)))] ++ [(q5, .inl (cA, 600, .inl (fun _ => 0)))] ++ [(q6, .inl (cA, 400, .inl (fun _ => 0)))] ++ [(q7, .inl (cA, 150, .inl (wf 150)))] ++ [(q8, .inl (cA, 2, .inl (fun _ => 0)))] ++ [(q9, .inl (cA, 48, .inl (fun _ => 0)))] ++ [(q10, .inl (cA, 48, .inl (fun _ => 0)))] ++ [(q11, .inl (cA, 48, .inl (fun _ => 0)))] ++ [(q12, .inl (cA, 48, .inl (fun _ => 0)))] ++ [(q13, .inl (cA, 1200, .inl (fun _ => 0)))] ++ [(q14, .inl (cA, 1200, .inl (fun _ => 0)))] ++ [(q15, .inl (cA, 40, .inl (fun _ => 0)))]) rfl dX10_init_1049 (q := 1052) rfl ?_
  refine h_aload_n X dX10_init_1052 (q := 1053) rfl 0 rfl ?_
  refine h_bipush X dX10_init_1053 (q := 1055) rfl li_b48 ?_
  refine h_newa X (by decide) (N := 48) (by decide) (Nat.le_of_ble_eq_true rfl) (Nat.le_of_ble_eq_true rfl) (Nat.le_of_ble_eq_true rfl) (ce2 := 16) (sl2 := 7008) rfl rfl dX10_init_1055 (q := 1057) rfl (fun q16 => ?_)
  refine h_putF X 0 10 rfl rfl inX10 35 (Nat.le_of_ble_eq_true rfl) rfl (gt_of 1319 (by decide +kernel) rfl) tyX10 tyX10_ok nmX10 rfl rfl (ty := (.array .int)) rfl rfl rfl (Nat.le_of_ble_eq_true rfl) (ws' := [(a, .inr (10, [.int 0, .ref q1, .ref q2, .int 0, .ref q3, .int 0, .int 0, .int 0, .int 0, .ref q4, .ref q5, .ref q6, .int 0, .int 0, .int 0, .int 0, .int 0, .ref q7, .ref q8, .ref q9, .ref q10, .ref q11, .ref q12, .ref q13, .ref q14, .int 0, .int 0, .int 0, .ref q15, .int 0, .int 0, .int 0, .int 0, .int (-1 : Int32), .int 0, .ref q16, .int 0, .null, .int 0, .int 0, .int 0, .null, .int 0, .null, .null, .null, .int 0, .null, .int 0, .int 0, .int 0, .int 0, .int 0, .null]))] ++ [(q1, .inl (cA, 389, .inl (fun _ => 0)))] ++ [(q2, .inl (cA, 2334, .inl (fun _ => 0)))] ++ [(q3, .inl (cA, 389, .inl (fun _ => 0)))] ++ [(q4, .inl (cA, 64, .inl (fun _ => 0)))] ++ [(q5, .inl (cA, 600, .inl (fun _ => 0)))] ++ [(q6, .inl (cA, 400, .inl (fun _ => 0)))] ++ [(q7, .inl (cA, 150, .inl (wf 150)))] ++ [(q8, .inl (cA, 2, .inl (fun _ => 0)))] ++ [(q9, .inl (cA, 48, .inl (fun _ => 0)))] ++ [(q10, .inl (cA, 48, .inl (fun _ => 0)))] ++ [(q11, .inl (cA, 48, .inl (fun _ => 0)))] ++ [(q12, .inl (cA, 48, .inl (fun _ => 0)))] ++ [(q13, .inl (cA, 1200, .inl (fun _ => 0)))] ++ [(q14, .inl (cA, 1200, .inl (fun _ => 0)))] ++ [(q15, .inl (cA, 40, .inl (fun _ => 0)))] ++ [(q16, .inl (cA, 48, .inl (fun _ => 0)))]) rfl dX10_init_1057 (q := 1060) rfl ?_
  refine h_aload_n X dX10_init_1060 (q := 1061) rfl 0 rfl ?_
  refine h_bipush X dX10_init_1061 (q := 1063) rfl li_b60 ?_
  refine h_newa X (by decide) (N := 60) (by decide) (Nat.le_of_ble_eq_true rfl) (Nat.le_of_ble_eq_true rfl) (Nat.le_of_ble_eq_true rfl) (ce2 := 17) (sl2 := 7068) rfl rfl dX10_init_1063 (q := 1065) rfl (fun q17 => ?_)
  refine h_putF X 0 10 rfl rfl inX10 37 (Nat.le_of_ble_eq_true rfl) rfl (gt_of 1321 (by decide +kernel) rfl) tyX10 tyX10_ok nmX10 rfl rfl (ty := (.array .int)) rfl rfl rfl (Nat.le_of_ble_eq_true rfl) (ws' := [(a, .inr (10, [.int 0, .ref q1, .ref q2, .int 0, .ref q3, .int 0, .int 0, .int 0, .int 0, .ref q4, .ref q5, .ref q6, .int 0, .int 0, .int 0, .int 0, .int 0, .ref q7, .ref q8, .ref q9, .ref q10, .ref q11, .ref q12, .ref q13, .ref q14, .int 0, .int 0, .int 0, .ref q15, .int 0, .int 0, .int 0, .int 0, .int (-1 : Int32), .int 0, .ref q16, .int 0, .ref q17, .int 0, .int 0, .int 0, .null, .int 0, .null, .null, .null, .int 0, .null, .int 0, .int 0, .int 0, .int 0, .int 0, .null]))] ++ [(q1, .inl (cA, 389, .inl (fun _ => 0)))] ++ [(q2, .inl (cA, 2334, .inl (fun _ => 0)))] ++ [(q3, .inl (cA, 389, .inl (fun _ => 0)))] ++ [(q4, .inl (cA, 64, .inl (fun _ => 0)))] ++ [(q5, .inl (cA, 600, .inl (fun _ => 0)))] ++ [(q6, .inl (cA, 400, .inl (fun _ => 0)))] ++ [(q7, .inl (cA, 150, .inl (wf 150)))] ++ [(q8, .inl (cA, 2, .inl (fun _ => 0)))] ++ [(q9, .inl (cA, 48, .inl (fun _ => 0)))] ++ [(q10, .inl (cA, 48, .inl (fun _ => 0)))] ++ [(q11, .inl (cA, 48, .inl (fun _ => 0)))] ++ [(q12, .inl (cA, 48, .inl (fun _ => 0)))] ++ [(q13, .inl (cA, 1200, .inl (fun _ => 0)))] ++ [(q14, .inl (cA, 1200, .inl (fun _ => 0)))] ++ [(q15, .inl (cA, 40, .inl (fun _ => 0)))] ++ [(q16, .inl (cA, 48, .inl (fun _ => 0)))] ++ [(q17, .inl (cA, 60, .inl (fun _ => 0)))]) rfl dX10_init_1065 (q := 1068) rfl ?_
  refine h_aload_n X dX10_init_1068 (q := 1069) rfl 0 rfl ?_
  refine h_bipush X dX10_init_1069 (q := 1071) rfl li_b80 ?_
  refine h_newa X (by decide) (N := 80) (by decide) (Nat.le_of_ble_eq_true rfl) (Nat.le_of_ble_eq_true rfl) (Nat.le_of_ble_eq_true rfl) (ce2 := 18) (sl2 := 7148) rfl rfl dX10_init_1071 (q := 1073) rfl (fun q18 => ?_)
  refine h_putF X 0 10 rfl rfl inX10 41 (Nat.le_of_ble_eq_true rfl) rfl (gt_of 1325 (by decide +kernel) rfl) tyX10 tyX10_ok nmX10 rfl rfl (ty := (.array .int)) rfl rfl rfl (Nat.le_of_ble_eq_true rfl) (ws' := [(a, .inr (10, [.int 0, .ref q1, .ref q2, .int 0, .ref q3, .int 0, .int 0, .int 0, .int 0, .ref q4, .ref q5, .ref q6, .int 0, .int 0, .int 0, .int 0, .int 0, .ref q7, .ref q8, .ref q9, .ref q10, .ref q11, .ref q12, .ref q13, .ref q14, .int 0, .int 0, .int 0, .ref q15, .int 0, .int 0, .int 0, .int 0, .int (-1 : Int32), .int 0, .ref q16, .int 0, .ref q17, .int 0, .int 0, .int 0, .ref q18, .int 0, .null, .null, .null, .int 0, .null, .int 0, .int 0, .int 0, .int 0, .int 0, .null]))] ++ [(q1, .inl (cA, 389, .inl (fun _ => 0)))] ++ [(q2, .inl (cA, 2334, .inl (fun _ => 0)))] ++ [(q3, .inl (cA, 389, .inl (fun _ => 0)))] ++ [(q4, .inl (cA, 64, .inl (fun _ => 0)))] ++ [(q5, .inl (cA, 600, .inl (fun _ => 0)))] ++ [(q6, .inl (cA, 400, .inl (fun _ => 0)))] ++ [(q7, .inl (cA, 150, .inl (wf 150)))] ++ [(q8, .inl (cA, 2, .inl (fun _ => 0)))] ++ [(q9, .inl (cA, 48, .inl (fun _ => 0)))] ++ [(q10, .inl (cA, 48, .inl (fun _ => 0)))] ++ [(q11, .inl (cA, 48, .inl (fun _ => 0)))] ++ [(q12, .inl (cA, 48, .inl (fun _ => 0)))] ++ [(q13, .inl (cA, 1200, .inl (fun _ => 0)))] ++ [(q14, .inl (cA, 1200, .inl (fun _ => 0)))] ++ [(q15, .inl (cA, 40, .inl (fun _ => 0)))] ++ [(q16, .inl (cA, 48, .inl (fun _ => 0)))] ++ [(q17, .inl (cA, 60, .inl (fun _ => 0)))] ++ [(q18, .inl (cA, 80, .inl (fun _ => 0)))]) rfl dX10_init_1073 (q := 1076) rfl ?_
  refine h_aload_n X dX10_init_1076 (q := 1077) rfl 0 rfl ?_
  refine h_sipush X dX10_init_1077 (q := 1080) rfl li_s128 ?_
  refine h_newa X (by decide) (N := 128) (by decide) (Nat.le_of_ble_eq_true rfl) (Nat.le_of_ble_eq_true rfl) (Nat.le_of_ble_eq_true rfl) (ce2 := 19) (sl2 := 7276) rfl rfl dX10_init_1080 (q := 1082) rfl (fun q19 => ?_)
  refine h_putF X 0 10 rfl rfl inX10 43 (Nat.le_of_ble_eq_true rfl) rfl (gt_of 1327 (by decide +kernel) rfl) tyX10 tyX10_ok nmX10 rfl rfl (ty := (.array .int)) rfl rfl rfl (Nat.le_of_ble_eq_true rfl) (ws' := [(a, .inr (10, [.int 0, .ref q1, .ref q2, .int 0, .ref q3, .int 0, .int 0, .int 0, .int 0, .ref q4, .ref q5, .ref q6, .int 0, .int 0, .int 0, .int 0, .int 0, .ref q7, .ref q8, .ref q9, .ref q10, .ref q11, .ref q12, .ref q13, .ref q14, .int 0, .int 0, .int 0, .ref q15, .int 0, .int 0, .int 0, .int 0, .int (-1 : Int32), .int 0, .ref q16, .int 0, .ref q17, .int 0, .int 0, .int 0, .ref q18, .int 0, .ref q19, .null, .null, .int 0, .null, .int 0, .int 0, .int 0, .int 0, .int 0, .null]))] ++ [(q1, .inl (cA, 389, .inl (fun _ => 0)))] ++ [(q2, .inl (cA, 2334, .inl (fun _ => 0)))] ++ [(q3, .inl (cA, 389, .inl (fun _ => 0)))] ++ [(q4, .inl (cA, 64, .inl (fun _ => 0)))] ++ [(q5, .inl (cA, 600, .inl (fun _ => 0)))] ++ [(q6, .inl (cA, 400, .inl (fun _ => 0)))] ++ [(q7, .inl (cA, 150, .inl (wf 150)))] ++ [(q8, .inl (cA, 2, .inl (fun _ => 0)))] ++ [(q9, .inl (cA, 48, .inl (fun _ => 0)))] ++ [(q10, .inl (cA, 48, .inl (fun _ => 0)))] ++ [(q11, .inl (cA, 48, .inl (fun _ => 0)))] ++ [(q12, .inl (cA, 48, .inl (fun _ => 0)))] ++ [(q13, .inl (cA, 1200, .inl (fun _ => 0)))] ++ [(q14, .inl (cA, 1200, .inl (fun _ => 0)))] ++ [(q15, .inl (cA, 40, .inl (fun _ => 0)))] ++ [(q16, .inl (cA, 48, .inl (fun _ => 0)))] ++ [(q17, .inl (cA, 60, .inl (fun _ => 0)))] ++ [(q18, .inl (cA, 80, .inl (fun _ => 0)))] ++ [(q19, .inl (cA, 128, .inl (fun _ => 0)))]) rfl dX10_init_1082 (q := 1085) rfl ?_
  refine h_aload_n X dX10_init_1085 (q := 1086) rfl 0 rfl ?_
  refine h_bipush X dX10_init_1086 (q := 1088) rfl li_b8 ?_
  refine h_newa X (by decide) (N := 8) (by decide) (Nat.le_of_ble_eq_true rfl) (Nat.le_of_ble_eq_true rfl) (Nat.le_of_ble_eq_true rfl) (ce2 := 20) (sl2 := 7284) rfl rfl dX10_init_1088 (q := 1090) rfl (fun q20 => ?_)
  refine h_putF X 0 10 rfl rfl inX10 44 (Nat.le_of_ble_eq_true rfl) rfl (gt_of 1328 (by decide +kernel) rfl) tyX10 tyX10_ok nmX10 rfl rfl (ty := (.array .int)) rfl rfl rfl (Nat.le_of_ble_eq_true rfl) (ws' := [(a, .inr (10, [.int 0, .ref q1, .ref q2, .int 0, .ref q3, .int 0, .int 0, .int 0, .int 0, .ref q4, .ref q5, .ref q6, .int 0, .int 0, .int 0, .int 0, .int 0, .ref q7, .ref q8, .ref q9, .ref q10, .ref q11, .ref q12, .ref q13, .ref q14, .int 0, .int 0, .int 0, .ref q15, .int 0, .int 0, .int 0, .int 0, .int (-1 : Int32), .int 0, .ref q16, .int 0, .ref q17, .int 0, .int 0, .int 0, .ref q18, .int 0, .ref q19, .ref q20, .null, .int 0, .null, .int 0, .int 0, .int 0, .int 0, .int 0, .null]))] ++ [(q1, .inl (cA, 389, .inl (fun _ => 0)))] ++ [(q2, .inl (cA, 2334, .inl (fun _ => 0)))] ++ [(q3, .inl (cA, 389, .inl (fun _ => 0)))] ++ [(q4, .inl (cA, 64, .inl (fun _ => 0)))] ++ [(q5, .inl (cA, 600, .inl (fun _ => 0)))] ++ [(q6, .inl (cA, 400, .inl (fun _ => 0)))] ++ [(q7, .inl (cA, 150, .inl (wf 150)))] ++ [(q8, .inl (cA, 2, .inl (fun _ => 0)))] ++ [(q9, .inl (cA, 48, .inl (fun _ => 0)))] ++ [(q10, .inl (cA, 48, .inl (fun _ => 0)))] ++ [(q11, .inl (cA, 48, .inl (fun _ => 0)))] ++ [(q12, .inl (cA, 48, .inl (fun _ => 0)))] ++ [(q13, .inl (cA, 1200, .inl (fun _ => 0)))] ++ [(q14, .inl (cA, 1200, .inl (fun _ => 0)))] ++ [(q15, .inl (cA, 40, .inl (fun _ => 0)))] ++ [(q16, .inl (cA, 48, .inl (fun _ => 0)))] ++ [(q17, .inl (cA, 60, .inl (fun _ => 0)))] ++ [(q18, .inl (cA, 80, .inl (fun _ => 0)))] ++ [(q19, .inl (cA, 128, .inl (fun _ => 0)))] ++ [(q20, .inl (cA, 8, .inl (fun _ => 0)))]) rfl dX10_init_1090 (q := 1093) rfl ?_
  refine h_aload_n X dX10_init_1093 (q := 1094) rfl 0 rfl ?_
  refine h_sipush X dX10_init_1094 (q := 1097) rfl li_s420 ?_
  refine h_newa X (by decide) (N := 420) (by decide) (Nat.le_of_ble_eq_true rfl) (Nat.le_of_ble_eq_true rfl) (Nat.le_of_ble_eq_true rfl) (ce2 := 21) (sl2 := 7704) rfl rfl dX10_init_1097 (q := 1099) rfl (fun q21 => ?_)
  refine h_putF X 0 10 rfl rfl inX10 45 (Nat.le_of_ble_eq_true rfl) rfl (gt_of 1329 (by decide +kernel) rfl) tyX10 tyX10_ok nmX10 rfl rfl (ty := (.array .int)) rfl rfl rfl (Nat.le_of_ble_eq_true rfl) (ws' := [(a, .inr (10, [.int 0, .ref q1, .ref q2, .int 0, .ref q3, .int 0, .int 0, .int 0, .int 0, .ref q4, .ref q5, .ref q6, .int 0, .int 0, .int 0, .int 0, .int 0, .ref q7, .ref q8, .ref q9, .ref q10, .ref q11, .ref q12, .ref q13, .ref q14, .int 0, .int 0, .int 0, .ref q15, .int 0, .int 0, .int 0, .int 0, .int (-1 : Int32), .int 0, .ref q16, .int 0, .ref q17, .int 0, .int 0, .int 0, .ref q18, .int 0, .ref q19, .ref q20, .ref q21, .int 0, .null, .int 0, .int 0, .int 0, .int 0, .int 0, .null]))] ++ [(q1, .inl (cA, 389, .inl (fun _ => 0)))] ++ [(q2, .inl (cA, 2334, .inl (fun _ => 0)))] ++ [(q3, .inl (cA, 389, .inl (fun _ => 0)))] ++ [(q4, .inl (cA, 64, .inl (fun _ => 0)))] ++ [(q5, .inl (cA, 600, .inl (fun _ => 0)))] ++ [(q6, .inl (cA, 400, .inl (fun _ => 0)))] ++ [(q7, .inl (cA, 150, .inl (wf 150)))] ++ [(q8, .inl (cA, 2, .inl (fun _ => 0)))] ++ [(q9, .inl (cA, 48, .inl (fun _ => 0)))] ++ [(q10, .inl (cA, 48, .inl (fun _ => 0)))] ++ [(q11, .inl (cA, 48, .inl (fun _ => 0)))] ++ [(q12, .inl (cA, 48, .inl (fun _ => 0)))] ++ [(q13, .inl (cA, 1200, .inl (fun _ => 0)))] ++ [(q14, .inl (cA, 1200, .inl (fun _ => 0)))] ++ [(q15, .inl (cA, 40, .inl (fun _ => 0)))] ++ [(q16, .inl (cA, 48, .inl (fun _ => 0)))] ++ [(q17, .inl (cA, 60, .inl (fun _ => 0)))] ++ [(q18, .inl (cA, 80, .inl (fun _ => 0)))] ++ [(q19, .inl (cA, 128, .inl (fun _ => 0)))] ++ [(q20, .inl (cA, 8, .inl (fun _ => 0)))] ++ [(q21, .inl (cA, 420, .inl (fun _ => 0)))]) rfl dX10_init_1099 (q := 1102) rfl ?_
  refine h_aload_n X dX10_init_1102 (q := 1103) rfl 0 rfl ?_
  refine h_bipush X dX10_init_1103 (q := 1105) rfl li_b10 ?_
  refine h_newa X (by decide) (N := 10) (by decide) (Nat.le_of_ble_eq_true rfl) (Nat.le_of_ble_eq_true rfl) (Nat.le_of_ble_eq_true rfl) (ce2 := 22) (sl2 := 7714) rfl rfl dX10_init_1105 (q := 1107) rfl (fun q22 => ?_)
  refine h_putF X 0 10 rfl rfl inX10 47 (Nat.le_of_ble_eq_true rfl) rfl (gt_of 1331 (by decide +kernel) rfl) tyX10 tyX10_ok nmX10 rfl rfl (ty := (.array .int)) rfl rfl rfl (Nat.le_of_ble_eq_true rfl) (ws' := [(a, .inr (10, [.int 0, .ref q1, .ref q2, .int 0, .ref q3, .int 0, .int 0, .int 0, .int 0, .ref q4, .ref q5, .ref q6, .int 0, .int 0, .int 0, .int 0, .int 0, .ref q7, .ref q8, .ref q9, .ref q10, .ref q11, .ref q12, .ref q13, .ref q14, .int 0, .int 0, .int 0, .ref q15, .int 0, .int 0, .int 0, .int 0, .int (-1 : Int32), .int 0, .ref q16, .int 0, .ref q17, .int 0, .int 0, .int 0, .ref q18, .int 0, .ref q19, .ref q20, .ref q21, .int 0, .ref q22, .int 0, .int 0, .int 0, .int 0, .int 0, .null]))] ++ [(q1, .inl (cA, 389, .inl (fun _ => 0)))] ++ [(q2, .inl (cA, 2334, .inl (fun _ => 0)))] ++ [(q3, .inl (cA, 389, .inl (fun _ => 0)))] ++ [(q4, .inl (cA, 64, .inl (fun _ => 0)))] ++ [(q5, .inl (cA, 600, .inl (fun _ => 0)))] ++ [(q6, .inl (cA, 400, .inl (fun _ => 0)))] ++ [(q7, .inl (cA, 150, .inl (wf 150)))] ++ [(q8, .inl (cA, 2, .inl (fun _ => 0)))] ++ [(q9, .inl (cA, 48, .inl (fun _ => 0)))] ++ [(q10, .inl (cA, 48, .inl (fun _ => 0)))] ++ [(q11, .inl (cA, 48, .inl (fun _ => 0)))] ++ [(q12, .inl (cA, 48, .inl (fun _ => 0)))] ++ [(q13, .inl (cA, 1200, .inl (fun _ => 0)))] ++ [(q14, .inl (cA, 1200, .inl (fun _ => 0)))] ++ [(q15, .inl (cA, 40, .inl (fun _ => 0)))] ++ [(q16, .inl (cA, 48, .inl (fun _ => 0)))] ++ [(q17, .inl (cA, 60, .inl (fun _ => 0)))] ++ [(q18, .inl (cA, 80, .inl (fun _ => 0)))] ++ [(q19, .inl (cA, 128, .inl (fun _ => 0)))] ++ [(q20, .inl (cA, 8, .inl (fun _ => 0)))] ++ [(q21, .inl (cA, 420, .inl (fun _ => 0)))] ++ [(q22, .inl (cA, 10, .inl (fun _ => 0)))]) rfl dX10_init_1107 (q := 1110) rfl ?_
  refine h_aload_n X dX10_init_1110 (q := 1111) rfl 0 rfl ?_
  refine h_sipush X dX10_init_1111 (q := 1114) rfl li_s2300 ?_
  refine h_newa X (by decide) (N := 2300) (by decide) (Nat.le_of_ble_eq_true rfl) (Nat.le_of_ble_eq_true rfl) (Nat.le_of_ble_eq_true rfl) (ce2 := 23) (sl2 := 10014) rfl rfl dX10_init_1114 (q := 1116) rfl (fun q23 => ?_)
  refine h_putF X 0 10 rfl rfl inX10 53 (Nat.le_of_ble_eq_true rfl) rfl (gt_of 1337 (by decide +kernel) rfl) tyX10 tyX10_ok nmX10 rfl rfl (ty := (.array .int)) rfl rfl rfl (Nat.le_of_ble_eq_true rfl) (ws' := [(a, .inr (10, [.int 0, .ref q1, .ref q2, .int 0, .ref q3, .int 0, .int 0, .int 0, .int 0, .ref q4, .ref q5, .ref q6, .int 0, .int 0, .int 0, .int 0, .int 0, .ref q7, .ref q8, .ref q9, .ref q10, .ref q11, .ref q12, .ref q13, .ref q14, .int 0, .int 0, .int 0, .ref q15, .int 0, .int 0, .int 0, .int 0, .int (-1 : Int32), .int 0, .ref q16, .int 0, .ref q17, .int 0, .int 0, .int 0, .ref q18, .int 0, .ref q19, .ref q20, .ref q21, .int 0, .ref q22, .int 0, .int 0, .int 0, .int 0, .int 0, .ref q23]))] ++ [(q1, .inl (cA, 389, .inl (fun _ => 0)))] ++ [(q2, .inl (cA, 2334, .inl (fun _ => 0)))] ++ [(q3, .inl (cA, 389, .inl (fun _ => 0)))] ++ [(q4, .inl (cA, 64, .inl (fun _ => 0)))] ++ [(q5, .inl (cA, 600, .inl (fun _ => 0)))] ++ [(q6, .inl (cA, 400, .inl (fun _ => 0)))] ++ [(q7, .inl (cA, 150, .inl (wf 150)))] ++ [(q8, .inl (cA, 2, .inl (fun _ => 0)))] ++ [(q9, .inl (cA, 48, .inl (fun _ => 0)))] ++ [(q10, .inl (cA, 48, .inl (fun _ => 0)))] ++ [(q11, .inl (cA, 48, .inl (fun _ => 0)))] ++ [(q12, .inl (cA, 48, .inl (fun _ => 0)))] ++ [(q13, .inl (cA, 1200, .inl (fun _ => 0)))] ++ [(q14, .inl (cA, 1200, .inl (fun _ => 0)))] ++ [(q15, .inl (cA, 40, .inl (fun _ => 0)))] ++ [(q16, .inl (cA, 48, .inl (fun _ => 0)))] ++ [(q17, .inl (cA, 60, .inl (fun _ => 0)))] ++ [(q18, .inl (cA, 80, .inl (fun _ => 0)))] ++ [(q19, .inl (cA, 128, .inl (fun _ => 0)))] ++ [(q20, .inl (cA, 8, .inl (fun _ => 0)))] ++ [(q21, .inl (cA, 420, .inl (fun _ => 0)))] ++ [(q22, .inl (cA, 10, .inl (fun _ => 0)))] ++ [(q23, .inl (cA, 2300, .inl (fun _ => 0)))]) rfl dX10_init_1116 (q := 1119) rfl ?_
  exact RI 1119 _ (fun i => ([q1, q2, q3, q4, q5, q6, q7, q8, q9, q10, q11, q12, q13, q14, q15, q16, q17, q18, q19, q20, q21, q22, q23] : List Nat).getD i 0) dX10_init_1119
