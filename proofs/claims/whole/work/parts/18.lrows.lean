theorem dL_law_0 : decode cL_law 0 = .ok (.new 7, 3) := by decide +kernel
theorem dL_law_3 : decode cL_law 3 = .ok (.dup, 1) := by decide +kernel
theorem dL_law_4 : decode cL_law 4 = .ok (.invokespecial 9, 3) := by decide +kernel
theorem dL_law_7 : decode cL_law 7 = .ok (.astore_n 1, 1) := by decide +kernel
theorem dL_law_8 : decode cL_law 8 = .ok (.new 10, 3) := by decide +kernel
theorem dL_law_11 : decode cL_law 11 = .ok (.dup, 1) := by decide +kernel
theorem dL_law_12 : decode cL_law 12 = .ok (.invokespecial 12, 3) := by decide +kernel
theorem dL_law_15 : decode cL_law 15 = .ok (.astore_n 2, 1) := by decide +kernel
theorem dL_law_16 : decode cL_law 16 = .ok (.iconst 0, 1) := by decide +kernel
theorem dL_law_17 : decode cL_law 17 = .ok (.istore_n 3, 1) := by decide +kernel
theorem dL_law_18 : decode cL_law 18 = .ok (.iload_n 3, 1) := by decide +kernel
theorem dL_law_19 : decode cL_law 19 = .ok (.aload_n 0, 1) := by decide +kernel
theorem dL_law_20 : decode cL_law 20 = .ok (.arraylength, 1) := by decide +kernel
theorem dL_law_21 : decode cL_law 21 = .ok (.bipush 6, 2) := by decide +kernel
theorem dL_law_23 : decode cL_law 23 = .ok (.isub, 1) := by decide +kernel
theorem dL_law_24 : decode cL_law 24 = .ok (.if_icmp .gt 1192, 3) := by decide +kernel
theorem dL_law_27 : decode cL_law 27 = .ok (.aload_n 0, 1) := by decide +kernel
theorem dL_law_28 : decode cL_law 28 = .ok (.iload_n 3, 1) := by decide +kernel
theorem dL_law_29 : decode cL_law 29 = .ok (.iaload, 1) := by decide +kernel
theorem dL_law_30 : decode cL_law 30 = .ok (.bipush 31, 2) := by decide +kernel
theorem dL_law_32 : decode cL_law 32 = .ok (.iand, 1) := by decide +kernel
theorem dL_law_33 : decode cL_law 33 = .ok (.tableswitch 1177 0 31 #[143, 166, 199, 242, 305, 328, 351, 374, 407, 430, 453, 476, 509, 542, 575, 618, 651, 675, 698, 721, 754, 797, 871, 894, 927, 970, 1013, 1046, 1079, 1102, 1115, 1154], 143) := by decide +kernel
theorem dL_law_176 : decode cL_law 176 = .ok (.aload_n 1, 1) := by decide +kernel
theorem dL_law_177 : decode cL_law 177 = .ok (.aload_n 0, 1) := by decide +kernel
theorem dL_law_178 : decode cL_law 178 = .ok (.iload_n 3, 1) := by decide +kernel
theorem dL_law_179 : decode cL_law 179 = .ok (.iconst 1, 1) := by decide +kernel
theorem dL_law_180 : decode cL_law 180 = .ok (.iadd, 1) := by decide +kernel
theorem dL_law_181 : decode cL_law 181 = .ok (.iaload, 1) := by decide +kernel
theorem dL_law_182 : decode cL_law 182 = .ok (.invokevirtual 13, 3) := by decide +kernel
theorem dL_law_185 : decode cL_law 185 = .ok (.aload_n 2, 1) := by decide +kernel
theorem dL_law_186 : decode cL_law 186 = .ok (.aload_n 0, 1) := by decide +kernel
theorem dL_law_187 : decode cL_law 187 = .ok (.iload_n 3, 1) := by decide +kernel
theorem dL_law_188 : decode cL_law 188 = .ok (.iconst 1, 1) := by decide +kernel
theorem dL_law_189 : decode cL_law 189 = .ok (.iadd, 1) := by decide +kernel
theorem dL_law_190 : decode cL_law 190 = .ok (.iaload, 1) := by decide +kernel
theorem dL_law_191 : decode cL_law 191 = .ok (.invokevirtual 17, 3) := by decide +kernel
theorem dL_law_194 : decode cL_law 194 = .ok (.if_icmp .eq 1016, 3) := by decide +kernel
theorem dL_law_197 : decode cL_law 197 = .ok (.iconst 0, 1) := by decide +kernel
theorem dL_law_198 : decode cL_law 198 = .ok (.ireturn, 1) := by decide +kernel
theorem dL_law_199 : decode cL_law 199 = .ok (.aload_n 1, 1) := by decide +kernel
theorem dL_law_200 : decode cL_law 200 = .ok (.aload_n 0, 1) := by decide +kernel
theorem dL_law_201 : decode cL_law 201 = .ok (.iload_n 3, 1) := by decide +kernel
theorem dL_law_202 : decode cL_law 202 = .ok (.iconst 1, 1) := by decide +kernel
theorem dL_law_203 : decode cL_law 203 = .ok (.iadd, 1) := by decide +kernel
theorem dL_law_204 : decode cL_law 204 = .ok (.iaload, 1) := by decide +kernel
theorem dL_law_205 : decode cL_law 205 = .ok (.aload_n 0, 1) := by decide +kernel
theorem dL_law_206 : decode cL_law 206 = .ok (.iload_n 3, 1) := by decide +kernel
theorem dL_law_207 : decode cL_law 207 = .ok (.iconst 2, 1) := by decide +kernel
theorem dL_law_208 : decode cL_law 208 = .ok (.iadd, 1) := by decide +kernel
theorem dL_law_209 : decode cL_law 209 = .ok (.iaload, 1) := by decide +kernel
theorem dL_law_210 : decode cL_law 210 = .ok (.invokevirtual 18, 3) := by decide +kernel
theorem dL_law_213 : decode cL_law 213 = .ok (.aload_n 2, 1) := by decide +kernel
theorem dL_law_214 : decode cL_law 214 = .ok (.aload_n 0, 1) := by decide +kernel
theorem dL_law_215 : decode cL_law 215 = .ok (.iload_n 3, 1) := by decide +kernel
theorem dL_law_216 : decode cL_law 216 = .ok (.iconst 1, 1) := by decide +kernel
theorem dL_law_217 : decode cL_law 217 = .ok (.iadd, 1) := by decide +kernel
theorem dL_law_218 : decode cL_law 218 = .ok (.iaload, 1) := by decide +kernel
theorem dL_law_219 : decode cL_law 219 = .ok (.aload_n 0, 1) := by decide +kernel
theorem dL_law_220 : decode cL_law 220 = .ok (.iload_n 3, 1) := by decide +kernel
theorem dL_law_221 : decode cL_law 221 = .ok (.iconst 2, 1) := by decide +kernel
theorem dL_law_222 : decode cL_law 222 = .ok (.iadd, 1) := by decide +kernel
theorem dL_law_223 : decode cL_law 223 = .ok (.iaload, 1) := by decide +kernel
theorem dL_law_224 : decode cL_law 224 = .ok (.invokevirtual 22, 3) := by decide +kernel
theorem dL_law_227 : decode cL_law 227 = .ok (.if_icmp .eq 983, 3) := by decide +kernel
theorem dL_law_230 : decode cL_law 230 = .ok (.iconst 0, 1) := by decide +kernel
theorem dL_law_231 : decode cL_law 231 = .ok (.ireturn, 1) := by decide +kernel
theorem dL_law_232 : decode cL_law 232 = .ok (.aload_n 1, 1) := by decide +kernel
theorem dL_law_233 : decode cL_law 233 = .ok (.aload_n 0, 1) := by decide +kernel
theorem dL_law_234 : decode cL_law 234 = .ok (.iload_n 3, 1) := by decide +kernel
theorem dL_law_235 : decode cL_law 235 = .ok (.iconst 1, 1) := by decide +kernel
theorem dL_law_236 : decode cL_law 236 = .ok (.iadd, 1) := by decide +kernel
theorem dL_law_237 : decode cL_law 237 = .ok (.iaload, 1) := by decide +kernel
theorem dL_law_238 : decode cL_law 238 = .ok (.aload_n 0, 1) := by decide +kernel
theorem dL_law_239 : decode cL_law 239 = .ok (.iload_n 3, 1) := by decide +kernel
theorem dL_law_240 : decode cL_law 240 = .ok (.iconst 2, 1) := by decide +kernel
theorem dL_law_241 : decode cL_law 241 = .ok (.iadd, 1) := by decide +kernel
theorem dL_law_242 : decode cL_law 242 = .ok (.iaload, 1) := by decide +kernel
theorem dL_law_243 : decode cL_law 243 = .ok (.aload_n 0, 1) := by decide +kernel
theorem dL_law_244 : decode cL_law 244 = .ok (.iload_n 3, 1) := by decide +kernel
theorem dL_law_245 : decode cL_law 245 = .ok (.iconst 3, 1) := by decide +kernel
theorem dL_law_246 : decode cL_law 246 = .ok (.iadd, 1) := by decide +kernel
theorem dL_law_247 : decode cL_law 247 = .ok (.iaload, 1) := by decide +kernel
theorem dL_law_248 : decode cL_law 248 = .ok (.invokevirtual 23, 3) := by decide +kernel
theorem dL_law_251 : decode cL_law 251 = .ok (.aload_n 2, 1) := by decide +kernel
theorem dL_law_252 : decode cL_law 252 = .ok (.aload_n 0, 1) := by decide +kernel
theorem dL_law_253 : decode cL_law 253 = .ok (.iload_n 3, 1) := by decide +kernel
theorem dL_law_254 : decode cL_law 254 = .ok (.iconst 1, 1) := by decide +kernel
theorem dL_law_255 : decode cL_law 255 = .ok (.iadd, 1) := by decide +kernel
theorem dL_law_256 : decode cL_law 256 = .ok (.iaload, 1) := by decide +kernel
theorem dL_law_257 : decode cL_law 257 = .ok (.aload_n 0, 1) := by decide +kernel
theorem dL_law_258 : decode cL_law 258 = .ok (.iload_n 3, 1) := by decide +kernel
theorem dL_law_259 : decode cL_law 259 = .ok (.iconst 2, 1) := by decide +kernel
theorem dL_law_260 : decode cL_law 260 = .ok (.iadd, 1) := by decide +kernel
theorem dL_law_261 : decode cL_law 261 = .ok (.iaload, 1) := by decide +kernel
theorem dL_law_262 : decode cL_law 262 = .ok (.aload_n 0, 1) := by decide +kernel
theorem dL_law_263 : decode cL_law 263 = .ok (.iload_n 3, 1) := by decide +kernel
theorem dL_law_264 : decode cL_law 264 = .ok (.iconst 3, 1) := by decide +kernel
theorem dL_law_265 : decode cL_law 265 = .ok (.iadd, 1) := by decide +kernel
theorem dL_law_266 : decode cL_law 266 = .ok (.iaload, 1) := by decide +kernel
theorem dL_law_267 : decode cL_law 267 = .ok (.invokevirtual 27, 3) := by decide +kernel
theorem dL_law_270 : decode cL_law 270 = .ok (.if_icmp .eq 940, 3) := by decide +kernel
theorem dL_law_273 : decode cL_law 273 = .ok (.iconst 0, 1) := by decide +kernel
theorem dL_law_274 : decode cL_law 274 = .ok (.ireturn, 1) := by decide +kernel
theorem dL_law_275 : decode cL_law 275 = .ok (.aload_n 1, 1) := by decide +kernel
theorem dL_law_276 : decode cL_law 276 = .ok (.aload_n 0, 1) := by decide +kernel
theorem dL_law_277 : decode cL_law 277 = .ok (.iload_n 3, 1) := by decide +kernel
theorem dL_law_278 : decode cL_law 278 = .ok (.iconst 1, 1) := by decide +kernel
theorem dL_law_279 : decode cL_law 279 = .ok (.iadd, 1) := by decide +kernel
theorem dL_law_280 : decode cL_law 280 = .ok (.iaload, 1) := by decide +kernel
theorem dL_law_281 : decode cL_law 281 = .ok (.aload_n 0, 1) := by decide +kernel
theorem dL_law_282 : decode cL_law 282 = .ok (.iload_n 3, 1) := by decide +kernel
theorem dL_law_283 : decode cL_law 283 = .ok (.iconst 2, 1) := by decide +kernel
theorem dL_law_284 : decode cL_law 284 = .ok (.iadd, 1) := by decide +kernel
theorem dL_law_285 : decode cL_law 285 = .ok (.iaload, 1) := by decide +kernel
theorem dL_law_286 : decode cL_law 286 = .ok (.aload_n 0, 1) := by decide +kernel
theorem dL_law_287 : decode cL_law 287 = .ok (.iload_n 3, 1) := by decide +kernel
theorem dL_law_288 : decode cL_law 288 = .ok (.iconst 3, 1) := by decide +kernel
theorem dL_law_289 : decode cL_law 289 = .ok (.iadd, 1) := by decide +kernel
theorem dL_law_290 : decode cL_law 290 = .ok (.iaload, 1) := by decide +kernel
theorem dL_law_291 : decode cL_law 291 = .ok (.aload_n 0, 1) := by decide +kernel
theorem dL_law_292 : decode cL_law 292 = .ok (.iload_n 3, 1) := by decide +kernel
theorem dL_law_293 : decode cL_law 293 = .ok (.iconst 4, 1) := by decide +kernel
theorem dL_law_294 : decode cL_law 294 = .ok (.iadd, 1) := by decide +kernel
theorem dL_law_295 : decode cL_law 295 = .ok (.iaload, 1) := by decide +kernel
theorem dL_law_296 : decode cL_law 296 = .ok (.aload_n 0, 1) := by decide +kernel
theorem dL_law_297 : decode cL_law 297 = .ok (.iload_n 3, 1) := by decide +kernel
theorem dL_law_298 : decode cL_law 298 = .ok (.iconst 5, 1) := by decide +kernel
theorem dL_law_299 : decode cL_law 299 = .ok (.iadd, 1) := by decide +kernel
theorem dL_law_300 : decode cL_law 300 = .ok (.iaload, 1) := by decide +kernel
theorem dL_law_301 : decode cL_law 301 = .ok (.invokevirtual 28, 3) := by decide +kernel
theorem dL_law_304 : decode cL_law 304 = .ok (.aload_n 2, 1) := by decide +kernel
theorem dL_law_305 : decode cL_law 305 = .ok (.aload_n 0, 1) := by decide +kernel
theorem dL_law_306 : decode cL_law 306 = .ok (.iload_n 3, 1) := by decide +kernel
theorem dL_law_307 : decode cL_law 307 = .ok (.iconst 1, 1) := by decide +kernel
theorem dL_law_308 : decode cL_law 308 = .ok (.iadd, 1) := by decide +kernel
theorem dL_law_309 : decode cL_law 309 = .ok (.iaload, 1) := by decide +kernel
theorem dL_law_310 : decode cL_law 310 = .ok (.aload_n 0, 1) := by decide +kernel
theorem dL_law_311 : decode cL_law 311 = .ok (.iload_n 3, 1) := by decide +kernel
theorem dL_law_312 : decode cL_law 312 = .ok (.iconst 2, 1) := by decide +kernel
theorem dL_law_313 : decode cL_law 313 = .ok (.iadd, 1) := by decide +kernel
theorem dL_law_314 : decode cL_law 314 = .ok (.iaload, 1) := by decide +kernel
theorem dL_law_315 : decode cL_law 315 = .ok (.aload_n 0, 1) := by decide +kernel
theorem dL_law_316 : decode cL_law 316 = .ok (.iload_n 3, 1) := by decide +kernel
theorem dL_law_317 : decode cL_law 317 = .ok (.iconst 3, 1) := by decide +kernel
theorem dL_law_318 : decode cL_law 318 = .ok (.iadd, 1) := by decide +kernel
theorem dL_law_319 : decode cL_law 319 = .ok (.iaload, 1) := by decide +kernel
theorem dL_law_320 : decode cL_law 320 = .ok (.aload_n 0, 1) := by decide +kernel
theorem dL_law_321 : decode cL_law 321 = .ok (.iload_n 3, 1) := by decide +kernel
theorem dL_law_322 : decode cL_law 322 = .ok (.iconst 4, 1) := by decide +kernel
theorem dL_law_323 : decode cL_law 323 = .ok (.iadd, 1) := by decide +kernel
theorem dL_law_324 : decode cL_law 324 = .ok (.iaload, 1) := by decide +kernel
theorem dL_law_325 : decode cL_law 325 = .ok (.aload_n 0, 1) := by decide +kernel
theorem dL_law_326 : decode cL_law 326 = .ok (.iload_n 3, 1) := by decide +kernel
theorem dL_law_327 : decode cL_law 327 = .ok (.iconst 5, 1) := by decide +kernel
theorem dL_law_328 : decode cL_law 328 = .ok (.iadd, 1) := by decide +kernel
theorem dL_law_329 : decode cL_law 329 = .ok (.iaload, 1) := by decide +kernel
theorem dL_law_330 : decode cL_law 330 = .ok (.invokevirtual 32, 3) := by decide +kernel
theorem dL_law_333 : decode cL_law 333 = .ok (.if_icmp .eq 877, 3) := by decide +kernel
theorem dL_law_336 : decode cL_law 336 = .ok (.iconst 0, 1) := by decide +kernel
theorem dL_law_337 : decode cL_law 337 = .ok (.ireturn, 1) := by decide +kernel
theorem dL_law_338 : decode cL_law 338 = .ok (.aload_n 1, 1) := by decide +kernel
theorem dL_law_339 : decode cL_law 339 = .ok (.aload_n 0, 1) := by decide +kernel
theorem dL_law_340 : decode cL_law 340 = .ok (.iload_n 3, 1) := by decide +kernel
theorem dL_law_341 : decode cL_law 341 = .ok (.iconst 1, 1) := by decide +kernel
theorem dL_law_342 : decode cL_law 342 = .ok (.iadd, 1) := by decide +kernel
theorem dL_law_343 : decode cL_law 343 = .ok (.iaload, 1) := by decide +kernel
theorem dL_law_344 : decode cL_law 344 = .ok (.invokevirtual 33, 3) := by decide +kernel
theorem dL_law_347 : decode cL_law 347 = .ok (.aload_n 2, 1) := by decide +kernel
theorem dL_law_348 : decode cL_law 348 = .ok (.aload_n 0, 1) := by decide +kernel
theorem dL_law_349 : decode cL_law 349 = .ok (.iload_n 3, 1) := by decide +kernel
theorem dL_law_350 : decode cL_law 350 = .ok (.iconst 1, 1) := by decide +kernel
theorem dL_law_351 : decode cL_law 351 = .ok (.iadd, 1) := by decide +kernel
theorem dL_law_352 : decode cL_law 352 = .ok (.iaload, 1) := by decide +kernel
theorem dL_law_353 : decode cL_law 353 = .ok (.invokevirtual 37, 3) := by decide +kernel
theorem dL_law_356 : decode cL_law 356 = .ok (.if_icmp .eq 854, 3) := by decide +kernel
theorem dL_law_359 : decode cL_law 359 = .ok (.iconst 0, 1) := by decide +kernel
theorem dL_law_360 : decode cL_law 360 = .ok (.ireturn, 1) := by decide +kernel
theorem dL_law_361 : decode cL_law 361 = .ok (.aload_n 1, 1) := by decide +kernel
theorem dL_law_362 : decode cL_law 362 = .ok (.aload_n 0, 1) := by decide +kernel
theorem dL_law_363 : decode cL_law 363 = .ok (.iload_n 3, 1) := by decide +kernel
theorem dL_law_364 : decode cL_law 364 = .ok (.iconst 1, 1) := by decide +kernel
theorem dL_law_365 : decode cL_law 365 = .ok (.iadd, 1) := by decide +kernel
theorem dL_law_366 : decode cL_law 366 = .ok (.iaload, 1) := by decide +kernel
theorem dL_law_367 : decode cL_law 367 = .ok (.invokevirtual 38, 3) := by decide +kernel
theorem dL_law_370 : decode cL_law 370 = .ok (.aload_n 2, 1) := by decide +kernel
theorem dL_law_371 : decode cL_law 371 = .ok (.aload_n 0, 1) := by decide +kernel
theorem dL_law_372 : decode cL_law 372 = .ok (.iload_n 3, 1) := by decide +kernel
theorem dL_law_373 : decode cL_law 373 = .ok (.iconst 1, 1) := by decide +kernel
theorem dL_law_374 : decode cL_law 374 = .ok (.iadd, 1) := by decide +kernel
theorem dL_law_375 : decode cL_law 375 = .ok (.iaload, 1) := by decide +kernel
theorem dL_law_376 : decode cL_law 376 = .ok (.invokevirtual 41, 3) := by decide +kernel
theorem dL_law_379 : decode cL_law 379 = .ok (.if_icmp .eq 831, 3) := by decide +kernel
theorem dL_law_382 : decode cL_law 382 = .ok (.iconst 0, 1) := by decide +kernel
theorem dL_law_383 : decode cL_law 383 = .ok (.ireturn, 1) := by decide +kernel
theorem dL_law_384 : decode cL_law 384 = .ok (.aload_n 1, 1) := by decide +kernel
theorem dL_law_385 : decode cL_law 385 = .ok (.aload_n 0, 1) := by decide +kernel
theorem dL_law_386 : decode cL_law 386 = .ok (.iload_n 3, 1) := by decide +kernel
theorem dL_law_387 : decode cL_law 387 = .ok (.iconst 1, 1) := by decide +kernel
theorem dL_law_388 : decode cL_law 388 = .ok (.iadd, 1) := by decide +kernel
theorem dL_law_389 : decode cL_law 389 = .ok (.iaload, 1) := by decide +kernel
theorem dL_law_390 : decode cL_law 390 = .ok (.invokevirtual 42, 3) := by decide +kernel
theorem dL_law_393 : decode cL_law 393 = .ok (.aload_n 2, 1) := by decide +kernel
theorem dL_law_394 : decode cL_law 394 = .ok (.aload_n 0, 1) := by decide +kernel
theorem dL_law_395 : decode cL_law 395 = .ok (.iload_n 3, 1) := by decide +kernel
theorem dL_law_396 : decode cL_law 396 = .ok (.iconst 1, 1) := by decide +kernel
theorem dL_law_397 : decode cL_law 397 = .ok (.iadd, 1) := by decide +kernel
theorem dL_law_398 : decode cL_law 398 = .ok (.iaload, 1) := by decide +kernel
theorem dL_law_399 : decode cL_law 399 = .ok (.invokevirtual 45, 3) := by decide +kernel
theorem dL_law_402 : decode cL_law 402 = .ok (.if_icmp .eq 808, 3) := by decide +kernel
theorem dL_law_405 : decode cL_law 405 = .ok (.iconst 0, 1) := by decide +kernel
theorem dL_law_406 : decode cL_law 406 = .ok (.ireturn, 1) := by decide +kernel
theorem dL_law_407 : decode cL_law 407 = .ok (.aload_n 1, 1) := by decide +kernel
theorem dL_law_408 : decode cL_law 408 = .ok (.aload_n 0, 1) := by decide +kernel
theorem dL_law_409 : decode cL_law 409 = .ok (.iload_n 3, 1) := by decide +kernel
theorem dL_law_410 : decode cL_law 410 = .ok (.iconst 1, 1) := by decide +kernel
theorem dL_law_411 : decode cL_law 411 = .ok (.iadd, 1) := by decide +kernel
theorem dL_law_412 : decode cL_law 412 = .ok (.iaload, 1) := by decide +kernel
theorem dL_law_413 : decode cL_law 413 = .ok (.aload_n 0, 1) := by decide +kernel
theorem dL_law_414 : decode cL_law 414 = .ok (.iload_n 3, 1) := by decide +kernel
theorem dL_law_415 : decode cL_law 415 = .ok (.iconst 2, 1) := by decide +kernel
theorem dL_law_416 : decode cL_law 416 = .ok (.iadd, 1) := by decide +kernel
theorem dL_law_417 : decode cL_law 417 = .ok (.iaload, 1) := by decide +kernel
theorem dL_law_418 : decode cL_law 418 = .ok (.invokevirtual 46, 3) := by decide +kernel
theorem dL_law_421 : decode cL_law 421 = .ok (.aload_n 2, 1) := by decide +kernel
theorem dL_law_422 : decode cL_law 422 = .ok (.aload_n 0, 1) := by decide +kernel
theorem dL_law_423 : decode cL_law 423 = .ok (.iload_n 3, 1) := by decide +kernel
theorem dL_law_424 : decode cL_law 424 = .ok (.iconst 1, 1) := by decide +kernel
theorem dL_law_425 : decode cL_law 425 = .ok (.iadd, 1) := by decide +kernel
theorem dL_law_426 : decode cL_law 426 = .ok (.iaload, 1) := by decide +kernel
theorem dL_law_427 : decode cL_law 427 = .ok (.aload_n 0, 1) := by decide +kernel
theorem dL_law_428 : decode cL_law 428 = .ok (.iload_n 3, 1) := by decide +kernel
theorem dL_law_429 : decode cL_law 429 = .ok (.iconst 2, 1) := by decide +kernel
theorem dL_law_430 : decode cL_law 430 = .ok (.iadd, 1) := by decide +kernel
theorem dL_law_431 : decode cL_law 431 = .ok (.iaload, 1) := by decide +kernel
theorem dL_law_432 : decode cL_law 432 = .ok (.invokevirtual 49, 3) := by decide +kernel
theorem dL_law_435 : decode cL_law 435 = .ok (.if_icmp .eq 775, 3) := by decide +kernel
theorem dL_law_438 : decode cL_law 438 = .ok (.iconst 0, 1) := by decide +kernel
theorem dL_law_439 : decode cL_law 439 = .ok (.ireturn, 1) := by decide +kernel
theorem dL_law_440 : decode cL_law 440 = .ok (.aload_n 1, 1) := by decide +kernel
theorem dL_law_441 : decode cL_law 441 = .ok (.aload_n 0, 1) := by decide +kernel
theorem dL_law_442 : decode cL_law 442 = .ok (.iload_n 3, 1) := by decide +kernel
theorem dL_law_443 : decode cL_law 443 = .ok (.iconst 1, 1) := by decide +kernel
theorem dL_law_444 : decode cL_law 444 = .ok (.iadd, 1) := by decide +kernel
theorem dL_law_445 : decode cL_law 445 = .ok (.iaload, 1) := by decide +kernel
theorem dL_law_446 : decode cL_law 446 = .ok (.invokevirtual 50, 3) := by decide +kernel
theorem dL_law_449 : decode cL_law 449 = .ok (.aload_n 2, 1) := by decide +kernel
theorem dL_law_450 : decode cL_law 450 = .ok (.aload_n 0, 1) := by decide +kernel
theorem dL_law_451 : decode cL_law 451 = .ok (.iload_n 3, 1) := by decide +kernel
theorem dL_law_452 : decode cL_law 452 = .ok (.iconst 1, 1) := by decide +kernel
theorem dL_law_453 : decode cL_law 453 = .ok (.iadd, 1) := by decide +kernel
theorem dL_law_454 : decode cL_law 454 = .ok (.iaload, 1) := by decide +kernel
theorem dL_law_455 : decode cL_law 455 = .ok (.invokevirtual 53, 3) := by decide +kernel
theorem dL_law_458 : decode cL_law 458 = .ok (.if_icmp .eq 752, 3) := by decide +kernel
theorem dL_law_461 : decode cL_law 461 = .ok (.iconst 0, 1) := by decide +kernel
theorem dL_law_462 : decode cL_law 462 = .ok (.ireturn, 1) := by decide +kernel
theorem dL_law_463 : decode cL_law 463 = .ok (.aload_n 1, 1) := by decide +kernel
theorem dL_law_464 : decode cL_law 464 = .ok (.aload_n 0, 1) := by decide +kernel
theorem dL_law_465 : decode cL_law 465 = .ok (.iload_n 3, 1) := by decide +kernel
theorem dL_law_466 : decode cL_law 466 = .ok (.iconst 1, 1) := by decide +kernel
theorem dL_law_467 : decode cL_law 467 = .ok (.iadd, 1) := by decide +kernel
theorem dL_law_468 : decode cL_law 468 = .ok (.iaload, 1) := by decide +kernel
theorem dL_law_469 : decode cL_law 469 = .ok (.invokevirtual 54, 3) := by decide +kernel
theorem dL_law_472 : decode cL_law 472 = .ok (.aload_n 2, 1) := by decide +kernel
theorem dL_law_473 : decode cL_law 473 = .ok (.aload_n 0, 1) := by decide +kernel
theorem dL_law_474 : decode cL_law 474 = .ok (.iload_n 3, 1) := by decide +kernel
theorem dL_law_475 : decode cL_law 475 = .ok (.iconst 1, 1) := by decide +kernel
theorem dL_law_476 : decode cL_law 476 = .ok (.iadd, 1) := by decide +kernel
theorem dL_law_477 : decode cL_law 477 = .ok (.iaload, 1) := by decide +kernel
theorem dL_law_478 : decode cL_law 478 = .ok (.invokevirtual 57, 3) := by decide +kernel
theorem dL_law_481 : decode cL_law 481 = .ok (.if_icmp .eq 729, 3) := by decide +kernel
theorem dL_law_484 : decode cL_law 484 = .ok (.iconst 0, 1) := by decide +kernel
theorem dL_law_485 : decode cL_law 485 = .ok (.ireturn, 1) := by decide +kernel
theorem dL_law_486 : decode cL_law 486 = .ok (.aload_n 1, 1) := by decide +kernel
theorem dL_law_487 : decode cL_law 487 = .ok (.aload_n 0, 1) := by decide +kernel
theorem dL_law_488 : decode cL_law 488 = .ok (.iload_n 3, 1) := by decide +kernel
theorem dL_law_489 : decode cL_law 489 = .ok (.iconst 1, 1) := by decide +kernel
theorem dL_law_490 : decode cL_law 490 = .ok (.iadd, 1) := by decide +kernel
theorem dL_law_491 : decode cL_law 491 = .ok (.iaload, 1) := by decide +kernel
theorem dL_law_492 : decode cL_law 492 = .ok (.invokevirtual 58, 3) := by decide +kernel
theorem dL_law_495 : decode cL_law 495 = .ok (.aload_n 2, 1) := by decide +kernel
theorem dL_law_496 : decode cL_law 496 = .ok (.aload_n 0, 1) := by decide +kernel
theorem dL_law_497 : decode cL_law 497 = .ok (.iload_n 3, 1) := by decide +kernel
theorem dL_law_498 : decode cL_law 498 = .ok (.iconst 1, 1) := by decide +kernel
theorem dL_law_499 : decode cL_law 499 = .ok (.iadd, 1) := by decide +kernel
theorem dL_law_500 : decode cL_law 500 = .ok (.iaload, 1) := by decide +kernel
theorem dL_law_501 : decode cL_law 501 = .ok (.invokevirtual 61, 3) := by decide +kernel
theorem dL_law_504 : decode cL_law 504 = .ok (.if_icmp .eq 706, 3) := by decide +kernel
theorem dL_law_507 : decode cL_law 507 = .ok (.iconst 0, 1) := by decide +kernel
theorem dL_law_508 : decode cL_law 508 = .ok (.ireturn, 1) := by decide +kernel
theorem dL_law_509 : decode cL_law 509 = .ok (.aload_n 1, 1) := by decide +kernel
theorem dL_law_510 : decode cL_law 510 = .ok (.aload_n 0, 1) := by decide +kernel
theorem dL_law_511 : decode cL_law 511 = .ok (.iload_n 3, 1) := by decide +kernel
theorem dL_law_512 : decode cL_law 512 = .ok (.iconst 1, 1) := by decide +kernel
theorem dL_law_513 : decode cL_law 513 = .ok (.iadd, 1) := by decide +kernel
theorem dL_law_514 : decode cL_law 514 = .ok (.iaload, 1) := by decide +kernel
theorem dL_law_515 : decode cL_law 515 = .ok (.aload_n 0, 1) := by decide +kernel
theorem dL_law_516 : decode cL_law 516 = .ok (.iload_n 3, 1) := by decide +kernel
theorem dL_law_517 : decode cL_law 517 = .ok (.iconst 2, 1) := by decide +kernel
theorem dL_law_518 : decode cL_law 518 = .ok (.iadd, 1) := by decide +kernel
theorem dL_law_519 : decode cL_law 519 = .ok (.iaload, 1) := by decide +kernel
theorem dL_law_520 : decode cL_law 520 = .ok (.invokevirtual 62, 3) := by decide +kernel
theorem dL_law_523 : decode cL_law 523 = .ok (.aload_n 2, 1) := by decide +kernel
theorem dL_law_524 : decode cL_law 524 = .ok (.aload_n 0, 1) := by decide +kernel
theorem dL_law_525 : decode cL_law 525 = .ok (.iload_n 3, 1) := by decide +kernel
theorem dL_law_526 : decode cL_law 526 = .ok (.iconst 1, 1) := by decide +kernel
theorem dL_law_527 : decode cL_law 527 = .ok (.iadd, 1) := by decide +kernel
theorem dL_law_528 : decode cL_law 528 = .ok (.iaload, 1) := by decide +kernel
theorem dL_law_529 : decode cL_law 529 = .ok (.aload_n 0, 1) := by decide +kernel
theorem dL_law_530 : decode cL_law 530 = .ok (.iload_n 3, 1) := by decide +kernel
theorem dL_law_531 : decode cL_law 531 = .ok (.iconst 2, 1) := by decide +kernel
theorem dL_law_532 : decode cL_law 532 = .ok (.iadd, 1) := by decide +kernel
theorem dL_law_533 : decode cL_law 533 = .ok (.iaload, 1) := by decide +kernel
theorem dL_law_534 : decode cL_law 534 = .ok (.invokevirtual 66, 3) := by decide +kernel
theorem dL_law_537 : decode cL_law 537 = .ok (.if_icmp .eq 673, 3) := by decide +kernel
theorem dL_law_540 : decode cL_law 540 = .ok (.iconst 0, 1) := by decide +kernel
theorem dL_law_541 : decode cL_law 541 = .ok (.ireturn, 1) := by decide +kernel
theorem dL_law_542 : decode cL_law 542 = .ok (.aload_n 1, 1) := by decide +kernel
theorem dL_law_543 : decode cL_law 543 = .ok (.aload_n 0, 1) := by decide +kernel
theorem dL_law_544 : decode cL_law 544 = .ok (.iload_n 3, 1) := by decide +kernel
theorem dL_law_545 : decode cL_law 545 = .ok (.iconst 1, 1) := by decide +kernel
theorem dL_law_546 : decode cL_law 546 = .ok (.iadd, 1) := by decide +kernel
theorem dL_law_547 : decode cL_law 547 = .ok (.iaload, 1) := by decide +kernel
theorem dL_law_548 : decode cL_law 548 = .ok (.aload_n 0, 1) := by decide +kernel
theorem dL_law_549 : decode cL_law 549 = .ok (.iload_n 3, 1) := by decide +kernel
theorem dL_law_550 : decode cL_law 550 = .ok (.iconst 2, 1) := by decide +kernel
theorem dL_law_551 : decode cL_law 551 = .ok (.iadd, 1) := by decide +kernel
theorem dL_law_552 : decode cL_law 552 = .ok (.iaload, 1) := by decide +kernel
theorem dL_law_553 : decode cL_law 553 = .ok (.invokevirtual 67, 3) := by decide +kernel
theorem dL_law_556 : decode cL_law 556 = .ok (.aload_n 2, 1) := by decide +kernel
theorem dL_law_557 : decode cL_law 557 = .ok (.aload_n 0, 1) := by decide +kernel
theorem dL_law_558 : decode cL_law 558 = .ok (.iload_n 3, 1) := by decide +kernel
theorem dL_law_559 : decode cL_law 559 = .ok (.iconst 1, 1) := by decide +kernel
theorem dL_law_560 : decode cL_law 560 = .ok (.iadd, 1) := by decide +kernel
theorem dL_law_561 : decode cL_law 561 = .ok (.iaload, 1) := by decide +kernel
theorem dL_law_562 : decode cL_law 562 = .ok (.aload_n 0, 1) := by decide +kernel
theorem dL_law_563 : decode cL_law 563 = .ok (.iload_n 3, 1) := by decide +kernel
theorem dL_law_564 : decode cL_law 564 = .ok (.iconst 2, 1) := by decide +kernel
theorem dL_law_565 : decode cL_law 565 = .ok (.iadd, 1) := by decide +kernel
theorem dL_law_566 : decode cL_law 566 = .ok (.iaload, 1) := by decide +kernel
theorem dL_law_567 : decode cL_law 567 = .ok (.invokevirtual 70, 3) := by decide +kernel
theorem dL_law_570 : decode cL_law 570 = .ok (.if_icmp .eq 640, 3) := by decide +kernel
theorem dL_law_573 : decode cL_law 573 = .ok (.iconst 0, 1) := by decide +kernel
theorem dL_law_574 : decode cL_law 574 = .ok (.ireturn, 1) := by decide +kernel
theorem dL_law_575 : decode cL_law 575 = .ok (.aload_n 1, 1) := by decide +kernel
theorem dL_law_576 : decode cL_law 576 = .ok (.aload_n 0, 1) := by decide +kernel
theorem dL_law_577 : decode cL_law 577 = .ok (.iload_n 3, 1) := by decide +kernel
theorem dL_law_578 : decode cL_law 578 = .ok (.iconst 1, 1) := by decide +kernel
theorem dL_law_579 : decode cL_law 579 = .ok (.iadd, 1) := by decide +kernel
theorem dL_law_580 : decode cL_law 580 = .ok (.iaload, 1) := by decide +kernel
theorem dL_law_581 : decode cL_law 581 = .ok (.aload_n 0, 1) := by decide +kernel
theorem dL_law_582 : decode cL_law 582 = .ok (.iload_n 3, 1) := by decide +kernel
theorem dL_law_583 : decode cL_law 583 = .ok (.iconst 2, 1) := by decide +kernel
theorem dL_law_584 : decode cL_law 584 = .ok (.iadd, 1) := by decide +kernel
theorem dL_law_585 : decode cL_law 585 = .ok (.iaload, 1) := by decide +kernel
theorem dL_law_586 : decode cL_law 586 = .ok (.invokevirtual 71, 3) := by decide +kernel
theorem dL_law_589 : decode cL_law 589 = .ok (.aload_n 2, 1) := by decide +kernel
theorem dL_law_590 : decode cL_law 590 = .ok (.aload_n 0, 1) := by decide +kernel
theorem dL_law_591 : decode cL_law 591 = .ok (.iload_n 3, 1) := by decide +kernel
theorem dL_law_592 : decode cL_law 592 = .ok (.iconst 1, 1) := by decide +kernel
theorem dL_law_593 : decode cL_law 593 = .ok (.iadd, 1) := by decide +kernel
theorem dL_law_594 : decode cL_law 594 = .ok (.iaload, 1) := by decide +kernel
theorem dL_law_595 : decode cL_law 595 = .ok (.aload_n 0, 1) := by decide +kernel
theorem dL_law_596 : decode cL_law 596 = .ok (.iload_n 3, 1) := by decide +kernel
theorem dL_law_597 : decode cL_law 597 = .ok (.iconst 2, 1) := by decide +kernel
theorem dL_law_598 : decode cL_law 598 = .ok (.iadd, 1) := by decide +kernel
theorem dL_law_599 : decode cL_law 599 = .ok (.iaload, 1) := by decide +kernel
theorem dL_law_600 : decode cL_law 600 = .ok (.invokevirtual 74, 3) := by decide +kernel
theorem dL_law_603 : decode cL_law 603 = .ok (.if_icmp .eq 607, 3) := by decide +kernel
theorem dL_law_606 : decode cL_law 606 = .ok (.iconst 0, 1) := by decide +kernel
theorem dL_law_607 : decode cL_law 607 = .ok (.ireturn, 1) := by decide +kernel
theorem dL_law_608 : decode cL_law 608 = .ok (.aload_n 1, 1) := by decide +kernel
theorem dL_law_609 : decode cL_law 609 = .ok (.aload_n 0, 1) := by decide +kernel
theorem dL_law_610 : decode cL_law 610 = .ok (.iload_n 3, 1) := by decide +kernel
theorem dL_law_611 : decode cL_law 611 = .ok (.iconst 1, 1) := by decide +kernel
theorem dL_law_612 : decode cL_law 612 = .ok (.iadd, 1) := by decide +kernel
theorem dL_law_613 : decode cL_law 613 = .ok (.iaload, 1) := by decide +kernel
theorem dL_law_614 : decode cL_law 614 = .ok (.aload_n 0, 1) := by decide +kernel
theorem dL_law_615 : decode cL_law 615 = .ok (.iload_n 3, 1) := by decide +kernel
theorem dL_law_616 : decode cL_law 616 = .ok (.iconst 2, 1) := by decide +kernel
theorem dL_law_617 : decode cL_law 617 = .ok (.iadd, 1) := by decide +kernel
theorem dL_law_618 : decode cL_law 618 = .ok (.iaload, 1) := by decide +kernel
theorem dL_law_619 : decode cL_law 619 = .ok (.aload_n 0, 1) := by decide +kernel
theorem dL_law_620 : decode cL_law 620 = .ok (.iload_n 3, 1) := by decide +kernel
theorem dL_law_621 : decode cL_law 621 = .ok (.iconst 3, 1) := by decide +kernel
theorem dL_law_622 : decode cL_law 622 = .ok (.iadd, 1) := by decide +kernel
theorem dL_law_623 : decode cL_law 623 = .ok (.iaload, 1) := by decide +kernel
theorem dL_law_624 : decode cL_law 624 = .ok (.invokevirtual 75, 3) := by decide +kernel
theorem dL_law_627 : decode cL_law 627 = .ok (.aload_n 2, 1) := by decide +kernel
theorem dL_law_628 : decode cL_law 628 = .ok (.aload_n 0, 1) := by decide +kernel
theorem dL_law_629 : decode cL_law 629 = .ok (.iload_n 3, 1) := by decide +kernel
theorem dL_law_630 : decode cL_law 630 = .ok (.iconst 1, 1) := by decide +kernel
theorem dL_law_631 : decode cL_law 631 = .ok (.iadd, 1) := by decide +kernel
theorem dL_law_632 : decode cL_law 632 = .ok (.iaload, 1) := by decide +kernel
theorem dL_law_633 : decode cL_law 633 = .ok (.aload_n 0, 1) := by decide +kernel
theorem dL_law_634 : decode cL_law 634 = .ok (.iload_n 3, 1) := by decide +kernel
theorem dL_law_635 : decode cL_law 635 = .ok (.iconst 2, 1) := by decide +kernel
theorem dL_law_636 : decode cL_law 636 = .ok (.iadd, 1) := by decide +kernel
theorem dL_law_637 : decode cL_law 637 = .ok (.iaload, 1) := by decide +kernel
theorem dL_law_638 : decode cL_law 638 = .ok (.aload_n 0, 1) := by decide +kernel
theorem dL_law_639 : decode cL_law 639 = .ok (.iload_n 3, 1) := by decide +kernel
theorem dL_law_640 : decode cL_law 640 = .ok (.iconst 3, 1) := by decide +kernel
theorem dL_law_641 : decode cL_law 641 = .ok (.iadd, 1) := by decide +kernel
theorem dL_law_642 : decode cL_law 642 = .ok (.iaload, 1) := by decide +kernel
theorem dL_law_643 : decode cL_law 643 = .ok (.invokevirtual 79, 3) := by decide +kernel
theorem dL_law_646 : decode cL_law 646 = .ok (.if_icmp .eq 564, 3) := by decide +kernel
theorem dL_law_649 : decode cL_law 649 = .ok (.iconst 0, 1) := by decide +kernel
theorem dL_law_650 : decode cL_law 650 = .ok (.ireturn, 1) := by decide +kernel
theorem dL_law_651 : decode cL_law 651 = .ok (.aload_n 1, 1) := by decide +kernel
theorem dL_law_652 : decode cL_law 652 = .ok (.aload_n 0, 1) := by decide +kernel
theorem dL_law_653 : decode cL_law 653 = .ok (.iload_n 3, 1) := by decide +kernel
theorem dL_law_654 : decode cL_law 654 = .ok (.iconst 1, 1) := by decide +kernel
theorem dL_law_655 : decode cL_law 655 = .ok (.iadd, 1) := by decide +kernel
theorem dL_law_656 : decode cL_law 656 = .ok (.iaload, 1) := by decide +kernel
theorem dL_law_657 : decode cL_law 657 = .ok (.aload_n 0, 1) := by decide +kernel
theorem dL_law_658 : decode cL_law 658 = .ok (.iload_n 3, 1) := by decide +kernel
theorem dL_law_659 : decode cL_law 659 = .ok (.iconst 2, 1) := by decide +kernel
theorem dL_law_660 : decode cL_law 660 = .ok (.iadd, 1) := by decide +kernel
theorem dL_law_661 : decode cL_law 661 = .ok (.iaload, 1) := by decide +kernel
theorem dL_law_662 : decode cL_law 662 = .ok (.invokevirtual 80, 3) := by decide +kernel
theorem dL_law_665 : decode cL_law 665 = .ok (.aload_n 2, 1) := by decide +kernel
theorem dL_law_666 : decode cL_law 666 = .ok (.aload_n 0, 1) := by decide +kernel
theorem dL_law_667 : decode cL_law 667 = .ok (.iload_n 3, 1) := by decide +kernel
theorem dL_law_668 : decode cL_law 668 = .ok (.iconst 1, 1) := by decide +kernel
theorem dL_law_669 : decode cL_law 669 = .ok (.iadd, 1) := by decide +kernel
theorem dL_law_670 : decode cL_law 670 = .ok (.iaload, 1) := by decide +kernel
theorem dL_law_671 : decode cL_law 671 = .ok (.aload_n 0, 1) := by decide +kernel
theorem dL_law_672 : decode cL_law 672 = .ok (.iload_n 3, 1) := by decide +kernel
theorem dL_law_673 : decode cL_law 673 = .ok (.iconst 2, 1) := by decide +kernel
theorem dL_law_674 : decode cL_law 674 = .ok (.iadd, 1) := by decide +kernel
theorem dL_law_675 : decode cL_law 675 = .ok (.iaload, 1) := by decide +kernel
theorem dL_law_676 : decode cL_law 676 = .ok (.invokevirtual 83, 3) := by decide +kernel
theorem dL_law_679 : decode cL_law 679 = .ok (.if_icmp .eq 531, 3) := by decide +kernel
theorem dL_law_682 : decode cL_law 682 = .ok (.iconst 0, 1) := by decide +kernel
theorem dL_law_683 : decode cL_law 683 = .ok (.ireturn, 1) := by decide +kernel
theorem dL_law_684 : decode cL_law 684 = .ok (.aload_n 1, 1) := by decide +kernel
theorem dL_law_685 : decode cL_law 685 = .ok (.aload_n 0, 1) := by decide +kernel
theorem dL_law_686 : decode cL_law 686 = .ok (.iload_n 3, 1) := by decide +kernel
theorem dL_law_687 : decode cL_law 687 = .ok (.iconst 1, 1) := by decide +kernel
theorem dL_law_688 : decode cL_law 688 = .ok (.iadd, 1) := by decide +kernel
theorem dL_law_689 : decode cL_law 689 = .ok (.iaload, 1) := by decide +kernel
theorem dL_law_690 : decode cL_law 690 = .ok (.invokevirtual 84, 3) := by decide +kernel
theorem dL_law_693 : decode cL_law 693 = .ok (.aload_n 2, 1) := by decide +kernel
theorem dL_law_694 : decode cL_law 694 = .ok (.aload_n 0, 1) := by decide +kernel
theorem dL_law_695 : decode cL_law 695 = .ok (.iload_n 3, 1) := by decide +kernel
theorem dL_law_696 : decode cL_law 696 = .ok (.iconst 1, 1) := by decide +kernel
theorem dL_law_697 : decode cL_law 697 = .ok (.iadd, 1) := by decide +kernel
theorem dL_law_698 : decode cL_law 698 = .ok (.iaload, 1) := by decide +kernel
theorem dL_law_699 : decode cL_law 699 = .ok (.invokevirtual 88, 3) := by decide +kernel
theorem dL_law_702 : decode cL_law 702 = .ok (.lcmp, 1) := by decide +kernel
theorem dL_law_703 : decode cL_law 703 = .ok (.ifCond .eq 507, 3) := by decide +kernel
theorem dL_law_706 : decode cL_law 706 = .ok (.iconst 0, 1) := by decide +kernel
theorem dL_law_707 : decode cL_law 707 = .ok (.ireturn, 1) := by decide +kernel
theorem dL_law_708 : decode cL_law 708 = .ok (.aload_n 1, 1) := by decide +kernel
theorem dL_law_709 : decode cL_law 709 = .ok (.aload_n 0, 1) := by decide +kernel
theorem dL_law_710 : decode cL_law 710 = .ok (.iload_n 3, 1) := by decide +kernel
theorem dL_law_711 : decode cL_law 711 = .ok (.iconst 1, 1) := by decide +kernel
theorem dL_law_712 : decode cL_law 712 = .ok (.iadd, 1) := by decide +kernel
theorem dL_law_713 : decode cL_law 713 = .ok (.iaload, 1) := by decide +kernel
theorem dL_law_714 : decode cL_law 714 = .ok (.invokevirtual 89, 3) := by decide +kernel
theorem dL_law_717 : decode cL_law 717 = .ok (.aload_n 2, 1) := by decide +kernel
theorem dL_law_718 : decode cL_law 718 = .ok (.aload_n 0, 1) := by decide +kernel
theorem dL_law_719 : decode cL_law 719 = .ok (.iload_n 3, 1) := by decide +kernel
theorem dL_law_720 : decode cL_law 720 = .ok (.iconst 1, 1) := by decide +kernel
theorem dL_law_721 : decode cL_law 721 = .ok (.iadd, 1) := by decide +kernel
theorem dL_law_722 : decode cL_law 722 = .ok (.iaload, 1) := by decide +kernel
theorem dL_law_723 : decode cL_law 723 = .ok (.invokevirtual 92, 3) := by decide +kernel
theorem dL_law_726 : decode cL_law 726 = .ok (.if_icmp .eq 484, 3) := by decide +kernel
theorem dL_law_729 : decode cL_law 729 = .ok (.iconst 0, 1) := by decide +kernel
theorem dL_law_730 : decode cL_law 730 = .ok (.ireturn, 1) := by decide +kernel
theorem dL_law_731 : decode cL_law 731 = .ok (.aload_n 1, 1) := by decide +kernel
theorem dL_law_732 : decode cL_law 732 = .ok (.aload_n 0, 1) := by decide +kernel
theorem dL_law_733 : decode cL_law 733 = .ok (.iload_n 3, 1) := by decide +kernel
theorem dL_law_734 : decode cL_law 734 = .ok (.iconst 1, 1) := by decide +kernel
theorem dL_law_735 : decode cL_law 735 = .ok (.iadd, 1) := by decide +kernel
theorem dL_law_736 : decode cL_law 736 = .ok (.iaload, 1) := by decide +kernel
theorem dL_law_737 : decode cL_law 737 = .ok (.invokevirtual 93, 3) := by decide +kernel
theorem dL_law_740 : decode cL_law 740 = .ok (.aload_n 2, 1) := by decide +kernel
theorem dL_law_741 : decode cL_law 741 = .ok (.aload_n 0, 1) := by decide +kernel
theorem dL_law_742 : decode cL_law 742 = .ok (.iload_n 3, 1) := by decide +kernel
theorem dL_law_743 : decode cL_law 743 = .ok (.iconst 1, 1) := by decide +kernel
theorem dL_law_744 : decode cL_law 744 = .ok (.iadd, 1) := by decide +kernel
theorem dL_law_745 : decode cL_law 745 = .ok (.iaload, 1) := by decide +kernel
theorem dL_law_746 : decode cL_law 746 = .ok (.invokevirtual 96, 3) := by decide +kernel
theorem dL_law_749 : decode cL_law 749 = .ok (.if_icmp .eq 461, 3) := by decide +kernel
theorem dL_law_752 : decode cL_law 752 = .ok (.iconst 0, 1) := by decide +kernel
theorem dL_law_753 : decode cL_law 753 = .ok (.ireturn, 1) := by decide +kernel
theorem dL_law_754 : decode cL_law 754 = .ok (.aload_n 1, 1) := by decide +kernel
theorem dL_law_755 : decode cL_law 755 = .ok (.aload_n 0, 1) := by decide +kernel
theorem dL_law_756 : decode cL_law 756 = .ok (.iload_n 3, 1) := by decide +kernel
theorem dL_law_757 : decode cL_law 757 = .ok (.iconst 1, 1) := by decide +kernel
theorem dL_law_758 : decode cL_law 758 = .ok (.iadd, 1) := by decide +kernel
theorem dL_law_759 : decode cL_law 759 = .ok (.iaload, 1) := by decide +kernel
theorem dL_law_760 : decode cL_law 760 = .ok (.aload_n 0, 1) := by decide +kernel
theorem dL_law_761 : decode cL_law 761 = .ok (.iload_n 3, 1) := by decide +kernel
theorem dL_law_762 : decode cL_law 762 = .ok (.iconst 2, 1) := by decide +kernel
theorem dL_law_763 : decode cL_law 763 = .ok (.iadd, 1) := by decide +kernel
theorem dL_law_764 : decode cL_law 764 = .ok (.iaload, 1) := by decide +kernel
theorem dL_law_765 : decode cL_law 765 = .ok (.invokevirtual 97, 3) := by decide +kernel
theorem dL_law_768 : decode cL_law 768 = .ok (.aload_n 2, 1) := by decide +kernel
theorem dL_law_769 : decode cL_law 769 = .ok (.aload_n 0, 1) := by decide +kernel
theorem dL_law_770 : decode cL_law 770 = .ok (.iload_n 3, 1) := by decide +kernel
theorem dL_law_771 : decode cL_law 771 = .ok (.iconst 1, 1) := by decide +kernel
theorem dL_law_772 : decode cL_law 772 = .ok (.iadd, 1) := by decide +kernel
theorem dL_law_773 : decode cL_law 773 = .ok (.iaload, 1) := by decide +kernel
theorem dL_law_774 : decode cL_law 774 = .ok (.aload_n 0, 1) := by decide +kernel
theorem dL_law_775 : decode cL_law 775 = .ok (.iload_n 3, 1) := by decide +kernel
theorem dL_law_776 : decode cL_law 776 = .ok (.iconst 2, 1) := by decide +kernel
theorem dL_law_777 : decode cL_law 777 = .ok (.iadd, 1) := by decide +kernel
theorem dL_law_778 : decode cL_law 778 = .ok (.iaload, 1) := by decide +kernel
theorem dL_law_779 : decode cL_law 779 = .ok (.invokevirtual 100, 3) := by decide +kernel
theorem dL_law_782 : decode cL_law 782 = .ok (.if_icmp .eq 428, 3) := by decide +kernel
theorem dL_law_785 : decode cL_law 785 = .ok (.iconst 0, 1) := by decide +kernel
theorem dL_law_786 : decode cL_law 786 = .ok (.ireturn, 1) := by decide +kernel
theorem dL_law_787 : decode cL_law 787 = .ok (.aload_n 1, 1) := by decide +kernel
theorem dL_law_788 : decode cL_law 788 = .ok (.aload_n 0, 1) := by decide +kernel
theorem dL_law_789 : decode cL_law 789 = .ok (.iload_n 3, 1) := by decide +kernel
theorem dL_law_790 : decode cL_law 790 = .ok (.iconst 1, 1) := by decide +kernel
theorem dL_law_791 : decode cL_law 791 = .ok (.iadd, 1) := by decide +kernel
theorem dL_law_792 : decode cL_law 792 = .ok (.iaload, 1) := by decide +kernel
theorem dL_law_793 : decode cL_law 793 = .ok (.aload_n 0, 1) := by decide +kernel
theorem dL_law_794 : decode cL_law 794 = .ok (.iload_n 3, 1) := by decide +kernel
theorem dL_law_795 : decode cL_law 795 = .ok (.iconst 2, 1) := by decide +kernel
theorem dL_law_796 : decode cL_law 796 = .ok (.iadd, 1) := by decide +kernel
theorem dL_law_797 : decode cL_law 797 = .ok (.iaload, 1) := by decide +kernel
theorem dL_law_798 : decode cL_law 798 = .ok (.aload_n 0, 1) := by decide +kernel
theorem dL_law_799 : decode cL_law 799 = .ok (.iload_n 3, 1) := by decide +kernel
theorem dL_law_800 : decode cL_law 800 = .ok (.iconst 3, 1) := by decide +kernel
theorem dL_law_801 : decode cL_law 801 = .ok (.iadd, 1) := by decide +kernel
theorem dL_law_802 : decode cL_law 802 = .ok (.iaload, 1) := by decide +kernel
theorem dL_law_803 : decode cL_law 803 = .ok (.invokevirtual 101, 3) := by decide +kernel
theorem dL_law_806 : decode cL_law 806 = .ok (.aload_n 2, 1) := by decide +kernel
theorem dL_law_807 : decode cL_law 807 = .ok (.aload_n 0, 1) := by decide +kernel
theorem dL_law_808 : decode cL_law 808 = .ok (.iload_n 3, 1) := by decide +kernel
theorem dL_law_809 : decode cL_law 809 = .ok (.iconst 1, 1) := by decide +kernel
theorem dL_law_810 : decode cL_law 810 = .ok (.iadd, 1) := by decide +kernel
theorem dL_law_811 : decode cL_law 811 = .ok (.iaload, 1) := by decide +kernel
theorem dL_law_812 : decode cL_law 812 = .ok (.aload_n 0, 1) := by decide +kernel
theorem dL_law_813 : decode cL_law 813 = .ok (.iload_n 3, 1) := by decide +kernel
theorem dL_law_814 : decode cL_law 814 = .ok (.iconst 2, 1) := by decide +kernel
theorem dL_law_815 : decode cL_law 815 = .ok (.iadd, 1) := by decide +kernel
theorem dL_law_816 : decode cL_law 816 = .ok (.iaload, 1) := by decide +kernel
theorem dL_law_817 : decode cL_law 817 = .ok (.aload_n 0, 1) := by decide +kernel
theorem dL_law_818 : decode cL_law 818 = .ok (.iload_n 3, 1) := by decide +kernel
theorem dL_law_819 : decode cL_law 819 = .ok (.iconst 3, 1) := by decide +kernel
theorem dL_law_820 : decode cL_law 820 = .ok (.iadd, 1) := by decide +kernel
theorem dL_law_821 : decode cL_law 821 = .ok (.iaload, 1) := by decide +kernel
theorem dL_law_822 : decode cL_law 822 = .ok (.invokevirtual 104, 3) := by decide +kernel
theorem dL_law_825 : decode cL_law 825 = .ok (.if_icmp .eq 385, 3) := by decide +kernel
theorem dL_law_828 : decode cL_law 828 = .ok (.iconst 0, 1) := by decide +kernel
theorem dL_law_829 : decode cL_law 829 = .ok (.ireturn, 1) := by decide +kernel
theorem dL_law_830 : decode cL_law 830 = .ok (.aload_n 1, 1) := by decide +kernel
theorem dL_law_831 : decode cL_law 831 = .ok (.aload_n 0, 1) := by decide +kernel
theorem dL_law_832 : decode cL_law 832 = .ok (.iload_n 3, 1) := by decide +kernel
theorem dL_law_833 : decode cL_law 833 = .ok (.iconst 1, 1) := by decide +kernel
theorem dL_law_834 : decode cL_law 834 = .ok (.iadd, 1) := by decide +kernel
theorem dL_law_835 : decode cL_law 835 = .ok (.iaload, 1) := by decide +kernel
theorem dL_law_836 : decode cL_law 836 = .ok (.i2l, 1) := by decide +kernel
theorem dL_law_837 : decode cL_law 837 = .ok (.bipush 32, 2) := by decide +kernel
theorem dL_law_839 : decode cL_law 839 = .ok (.lshl, 1) := by decide +kernel
theorem dL_law_840 : decode cL_law 840 = .ok (.aload_n 0, 1) := by decide +kernel
theorem dL_law_841 : decode cL_law 841 = .ok (.iload_n 3, 1) := by decide +kernel
theorem dL_law_842 : decode cL_law 842 = .ok (.iconst 2, 1) := by decide +kernel
theorem dL_law_843 : decode cL_law 843 = .ok (.iadd, 1) := by decide +kernel
theorem dL_law_844 : decode cL_law 844 = .ok (.iaload, 1) := by decide +kernel
theorem dL_law_845 : decode cL_law 845 = .ok (.i2l, 1) := by decide +kernel
theorem dL_law_846 : decode cL_law 846 = .ok (.ldc2_w 105, 3) := by decide +kernel
theorem dL_law_849 : decode cL_law 849 = .ok (.land, 1) := by decide +kernel
theorem dL_law_850 : decode cL_law 850 = .ok (.lor, 1) := by decide +kernel
theorem dL_law_851 : decode cL_law 851 = .ok (.aload_n 0, 1) := by decide +kernel
theorem dL_law_852 : decode cL_law 852 = .ok (.iload_n 3, 1) := by decide +kernel
theorem dL_law_853 : decode cL_law 853 = .ok (.iconst 3, 1) := by decide +kernel
theorem dL_law_854 : decode cL_law 854 = .ok (.iadd, 1) := by decide +kernel
theorem dL_law_855 : decode cL_law 855 = .ok (.iaload, 1) := by decide +kernel
theorem dL_law_856 : decode cL_law 856 = .ok (.aload_n 0, 1) := by decide +kernel
theorem dL_law_857 : decode cL_law 857 = .ok (.iload_n 3, 1) := by decide +kernel
theorem dL_law_858 : decode cL_law 858 = .ok (.iconst 4, 1) := by decide +kernel
theorem dL_law_859 : decode cL_law 859 = .ok (.iadd, 1) := by decide +kernel
theorem dL_law_860 : decode cL_law 860 = .ok (.iaload, 1) := by decide +kernel
theorem dL_law_861 : decode cL_law 861 = .ok (.invokevirtual 107, 3) := by decide +kernel
theorem dL_law_864 : decode cL_law 864 = .ok (.aload_n 2, 1) := by decide +kernel
theorem dL_law_865 : decode cL_law 865 = .ok (.aload_n 0, 1) := by decide +kernel
theorem dL_law_866 : decode cL_law 866 = .ok (.iload_n 3, 1) := by decide +kernel
theorem dL_law_867 : decode cL_law 867 = .ok (.iconst 1, 1) := by decide +kernel
theorem dL_law_868 : decode cL_law 868 = .ok (.iadd, 1) := by decide +kernel
theorem dL_law_869 : decode cL_law 869 = .ok (.iaload, 1) := by decide +kernel
theorem dL_law_870 : decode cL_law 870 = .ok (.i2l, 1) := by decide +kernel
theorem dL_law_871 : decode cL_law 871 = .ok (.bipush 32, 2) := by decide +kernel
theorem dL_law_873 : decode cL_law 873 = .ok (.lshl, 1) := by decide +kernel
theorem dL_law_874 : decode cL_law 874 = .ok (.aload_n 0, 1) := by decide +kernel
theorem dL_law_875 : decode cL_law 875 = .ok (.iload_n 3, 1) := by decide +kernel
theorem dL_law_876 : decode cL_law 876 = .ok (.iconst 2, 1) := by decide +kernel
theorem dL_law_877 : decode cL_law 877 = .ok (.iadd, 1) := by decide +kernel
theorem dL_law_878 : decode cL_law 878 = .ok (.iaload, 1) := by decide +kernel
theorem dL_law_879 : decode cL_law 879 = .ok (.i2l, 1) := by decide +kernel
theorem dL_law_880 : decode cL_law 880 = .ok (.ldc2_w 105, 3) := by decide +kernel
theorem dL_law_883 : decode cL_law 883 = .ok (.land, 1) := by decide +kernel
theorem dL_law_884 : decode cL_law 884 = .ok (.lor, 1) := by decide +kernel
theorem dL_law_885 : decode cL_law 885 = .ok (.aload_n 0, 1) := by decide +kernel
theorem dL_law_886 : decode cL_law 886 = .ok (.iload_n 3, 1) := by decide +kernel
theorem dL_law_887 : decode cL_law 887 = .ok (.iconst 3, 1) := by decide +kernel
theorem dL_law_888 : decode cL_law 888 = .ok (.iadd, 1) := by decide +kernel
theorem dL_law_889 : decode cL_law 889 = .ok (.iaload, 1) := by decide +kernel
theorem dL_law_890 : decode cL_law 890 = .ok (.aload_n 0, 1) := by decide +kernel
theorem dL_law_891 : decode cL_law 891 = .ok (.iload_n 3, 1) := by decide +kernel
theorem dL_law_892 : decode cL_law 892 = .ok (.iconst 4, 1) := by decide +kernel
theorem dL_law_893 : decode cL_law 893 = .ok (.iadd, 1) := by decide +kernel
theorem dL_law_894 : decode cL_law 894 = .ok (.iaload, 1) := by decide +kernel
theorem dL_law_895 : decode cL_law 895 = .ok (.invokevirtual 111, 3) := by decide +kernel
theorem dL_law_898 : decode cL_law 898 = .ok (.lcmp, 1) := by decide +kernel
theorem dL_law_899 : decode cL_law 899 = .ok (.ifCond .eq 311, 3) := by decide +kernel
theorem dL_law_902 : decode cL_law 902 = .ok (.iconst 0, 1) := by decide +kernel
theorem dL_law_903 : decode cL_law 903 = .ok (.ireturn, 1) := by decide +kernel
theorem dL_law_904 : decode cL_law 904 = .ok (.aload_n 1, 1) := by decide +kernel
theorem dL_law_905 : decode cL_law 905 = .ok (.aload_n 0, 1) := by decide +kernel
theorem dL_law_906 : decode cL_law 906 = .ok (.iload_n 3, 1) := by decide +kernel
theorem dL_law_907 : decode cL_law 907 = .ok (.iconst 1, 1) := by decide +kernel
theorem dL_law_908 : decode cL_law 908 = .ok (.iadd, 1) := by decide +kernel
theorem dL_law_909 : decode cL_law 909 = .ok (.iaload, 1) := by decide +kernel
theorem dL_law_910 : decode cL_law 910 = .ok (.invokevirtual 112, 3) := by decide +kernel
theorem dL_law_913 : decode cL_law 913 = .ok (.aload_n 2, 1) := by decide +kernel
theorem dL_law_914 : decode cL_law 914 = .ok (.aload_n 0, 1) := by decide +kernel
theorem dL_law_915 : decode cL_law 915 = .ok (.iload_n 3, 1) := by decide +kernel
theorem dL_law_916 : decode cL_law 916 = .ok (.iconst 1, 1) := by decide +kernel
theorem dL_law_917 : decode cL_law 917 = .ok (.iadd, 1) := by decide +kernel
theorem dL_law_918 : decode cL_law 918 = .ok (.iaload, 1) := by decide +kernel
theorem dL_law_919 : decode cL_law 919 = .ok (.invokevirtual 115, 3) := by decide +kernel
theorem dL_law_922 : decode cL_law 922 = .ok (.if_icmp .eq 288, 3) := by decide +kernel
theorem dL_law_925 : decode cL_law 925 = .ok (.iconst 0, 1) := by decide +kernel
theorem dL_law_926 : decode cL_law 926 = .ok (.ireturn, 1) := by decide +kernel
theorem dL_law_927 : decode cL_law 927 = .ok (.aload_n 1, 1) := by decide +kernel
theorem dL_law_928 : decode cL_law 928 = .ok (.aload_n 0, 1) := by decide +kernel
theorem dL_law_929 : decode cL_law 929 = .ok (.iload_n 3, 1) := by decide +kernel
theorem dL_law_930 : decode cL_law 930 = .ok (.iconst 1, 1) := by decide +kernel
theorem dL_law_931 : decode cL_law 931 = .ok (.iadd, 1) := by decide +kernel
theorem dL_law_932 : decode cL_law 932 = .ok (.iaload, 1) := by decide +kernel
theorem dL_law_933 : decode cL_law 933 = .ok (.aload_n 0, 1) := by decide +kernel
theorem dL_law_934 : decode cL_law 934 = .ok (.iload_n 3, 1) := by decide +kernel
theorem dL_law_935 : decode cL_law 935 = .ok (.iconst 2, 1) := by decide +kernel
theorem dL_law_936 : decode cL_law 936 = .ok (.iadd, 1) := by decide +kernel
theorem dL_law_937 : decode cL_law 937 = .ok (.iaload, 1) := by decide +kernel
theorem dL_law_938 : decode cL_law 938 = .ok (.invokevirtual 116, 3) := by decide +kernel
theorem dL_law_941 : decode cL_law 941 = .ok (.aload_n 2, 1) := by decide +kernel
theorem dL_law_942 : decode cL_law 942 = .ok (.aload_n 0, 1) := by decide +kernel
theorem dL_law_943 : decode cL_law 943 = .ok (.iload_n 3, 1) := by decide +kernel
theorem dL_law_944 : decode cL_law 944 = .ok (.iconst 1, 1) := by decide +kernel
theorem dL_law_945 : decode cL_law 945 = .ok (.iadd, 1) := by decide +kernel
theorem dL_law_946 : decode cL_law 946 = .ok (.iaload, 1) := by decide +kernel
theorem dL_law_947 : decode cL_law 947 = .ok (.aload_n 0, 1) := by decide +kernel
theorem dL_law_948 : decode cL_law 948 = .ok (.iload_n 3, 1) := by decide +kernel
theorem dL_law_949 : decode cL_law 949 = .ok (.iconst 2, 1) := by decide +kernel
theorem dL_law_950 : decode cL_law 950 = .ok (.iadd, 1) := by decide +kernel
theorem dL_law_951 : decode cL_law 951 = .ok (.iaload, 1) := by decide +kernel
theorem dL_law_952 : decode cL_law 952 = .ok (.invokevirtual 119, 3) := by decide +kernel
theorem dL_law_955 : decode cL_law 955 = .ok (.if_icmp .eq 255, 3) := by decide +kernel
theorem dL_law_958 : decode cL_law 958 = .ok (.iconst 0, 1) := by decide +kernel
theorem dL_law_959 : decode cL_law 959 = .ok (.ireturn, 1) := by decide +kernel
theorem dL_law_960 : decode cL_law 960 = .ok (.aload_n 1, 1) := by decide +kernel
theorem dL_law_961 : decode cL_law 961 = .ok (.aload_n 0, 1) := by decide +kernel
theorem dL_law_962 : decode cL_law 962 = .ok (.iload_n 3, 1) := by decide +kernel
theorem dL_law_963 : decode cL_law 963 = .ok (.iconst 1, 1) := by decide +kernel
theorem dL_law_964 : decode cL_law 964 = .ok (.iadd, 1) := by decide +kernel
theorem dL_law_965 : decode cL_law 965 = .ok (.iaload, 1) := by decide +kernel
theorem dL_law_966 : decode cL_law 966 = .ok (.aload_n 0, 1) := by decide +kernel
theorem dL_law_967 : decode cL_law 967 = .ok (.iload_n 3, 1) := by decide +kernel
theorem dL_law_968 : decode cL_law 968 = .ok (.iconst 2, 1) := by decide +kernel
theorem dL_law_969 : decode cL_law 969 = .ok (.iadd, 1) := by decide +kernel
theorem dL_law_970 : decode cL_law 970 = .ok (.iaload, 1) := by decide +kernel
theorem dL_law_971 : decode cL_law 971 = .ok (.aload_n 0, 1) := by decide +kernel
theorem dL_law_972 : decode cL_law 972 = .ok (.iload_n 3, 1) := by decide +kernel
theorem dL_law_973 : decode cL_law 973 = .ok (.iconst 3, 1) := by decide +kernel
theorem dL_law_974 : decode cL_law 974 = .ok (.iadd, 1) := by decide +kernel
theorem dL_law_975 : decode cL_law 975 = .ok (.iaload, 1) := by decide +kernel
theorem dL_law_976 : decode cL_law 976 = .ok (.invokevirtual 120, 3) := by decide +kernel
theorem dL_law_979 : decode cL_law 979 = .ok (.aload_n 2, 1) := by decide +kernel
theorem dL_law_980 : decode cL_law 980 = .ok (.aload_n 0, 1) := by decide +kernel
theorem dL_law_981 : decode cL_law 981 = .ok (.iload_n 3, 1) := by decide +kernel
theorem dL_law_982 : decode cL_law 982 = .ok (.iconst 1, 1) := by decide +kernel
theorem dL_law_983 : decode cL_law 983 = .ok (.iadd, 1) := by decide +kernel
theorem dL_law_984 : decode cL_law 984 = .ok (.iaload, 1) := by decide +kernel
theorem dL_law_985 : decode cL_law 985 = .ok (.aload_n 0, 1) := by decide +kernel
theorem dL_law_986 : decode cL_law 986 = .ok (.iload_n 3, 1) := by decide +kernel
theorem dL_law_987 : decode cL_law 987 = .ok (.iconst 2, 1) := by decide +kernel
theorem dL_law_988 : decode cL_law 988 = .ok (.iadd, 1) := by decide +kernel
theorem dL_law_989 : decode cL_law 989 = .ok (.iaload, 1) := by decide +kernel
theorem dL_law_990 : decode cL_law 990 = .ok (.aload_n 0, 1) := by decide +kernel
theorem dL_law_991 : decode cL_law 991 = .ok (.iload_n 3, 1) := by decide +kernel
theorem dL_law_992 : decode cL_law 992 = .ok (.iconst 3, 1) := by decide +kernel
theorem dL_law_993 : decode cL_law 993 = .ok (.iadd, 1) := by decide +kernel
theorem dL_law_994 : decode cL_law 994 = .ok (.iaload, 1) := by decide +kernel
theorem dL_law_995 : decode cL_law 995 = .ok (.invokevirtual 123, 3) := by decide +kernel
theorem dL_law_998 : decode cL_law 998 = .ok (.if_icmp .eq 212, 3) := by decide +kernel
theorem dL_law_1001 : decode cL_law 1001 = .ok (.iconst 0, 1) := by decide +kernel
theorem dL_law_1002 : decode cL_law 1002 = .ok (.ireturn, 1) := by decide +kernel
theorem dL_law_1003 : decode cL_law 1003 = .ok (.aload_n 1, 1) := by decide +kernel
theorem dL_law_1004 : decode cL_law 1004 = .ok (.aload_n 0, 1) := by decide +kernel
theorem dL_law_1005 : decode cL_law 1005 = .ok (.iload_n 3, 1) := by decide +kernel
theorem dL_law_1006 : decode cL_law 1006 = .ok (.iconst 1, 1) := by decide +kernel
theorem dL_law_1007 : decode cL_law 1007 = .ok (.iadd, 1) := by decide +kernel
theorem dL_law_1008 : decode cL_law 1008 = .ok (.iaload, 1) := by decide +kernel
theorem dL_law_1009 : decode cL_law 1009 = .ok (.aload_n 0, 1) := by decide +kernel
theorem dL_law_1010 : decode cL_law 1010 = .ok (.iload_n 3, 1) := by decide +kernel
theorem dL_law_1011 : decode cL_law 1011 = .ok (.iconst 2, 1) := by decide +kernel
theorem dL_law_1012 : decode cL_law 1012 = .ok (.iadd, 1) := by decide +kernel
theorem dL_law_1013 : decode cL_law 1013 = .ok (.iaload, 1) := by decide +kernel
theorem dL_law_1014 : decode cL_law 1014 = .ok (.aload_n 0, 1) := by decide +kernel
theorem dL_law_1015 : decode cL_law 1015 = .ok (.iload_n 3, 1) := by decide +kernel
theorem dL_law_1016 : decode cL_law 1016 = .ok (.iconst 3, 1) := by decide +kernel
theorem dL_law_1017 : decode cL_law 1017 = .ok (.iadd, 1) := by decide +kernel
theorem dL_law_1018 : decode cL_law 1018 = .ok (.iaload, 1) := by decide +kernel
theorem dL_law_1019 : decode cL_law 1019 = .ok (.invokevirtual 124, 3) := by decide +kernel
theorem dL_law_1022 : decode cL_law 1022 = .ok (.aload_n 2, 1) := by decide +kernel
theorem dL_law_1023 : decode cL_law 1023 = .ok (.aload_n 0, 1) := by decide +kernel
theorem dL_law_1024 : decode cL_law 1024 = .ok (.iload_n 3, 1) := by decide +kernel
theorem dL_law_1025 : decode cL_law 1025 = .ok (.iconst 1, 1) := by decide +kernel
theorem dL_law_1026 : decode cL_law 1026 = .ok (.iadd, 1) := by decide +kernel
theorem dL_law_1027 : decode cL_law 1027 = .ok (.iaload, 1) := by decide +kernel
theorem dL_law_1028 : decode cL_law 1028 = .ok (.aload_n 0, 1) := by decide +kernel
theorem dL_law_1029 : decode cL_law 1029 = .ok (.iload_n 3, 1) := by decide +kernel
theorem dL_law_1030 : decode cL_law 1030 = .ok (.iconst 2, 1) := by decide +kernel
theorem dL_law_1031 : decode cL_law 1031 = .ok (.iadd, 1) := by decide +kernel
theorem dL_law_1032 : decode cL_law 1032 = .ok (.iaload, 1) := by decide +kernel
theorem dL_law_1033 : decode cL_law 1033 = .ok (.aload_n 0, 1) := by decide +kernel
theorem dL_law_1034 : decode cL_law 1034 = .ok (.iload_n 3, 1) := by decide +kernel
theorem dL_law_1035 : decode cL_law 1035 = .ok (.iconst 3, 1) := by decide +kernel
theorem dL_law_1036 : decode cL_law 1036 = .ok (.iadd, 1) := by decide +kernel
theorem dL_law_1037 : decode cL_law 1037 = .ok (.iaload, 1) := by decide +kernel
theorem dL_law_1038 : decode cL_law 1038 = .ok (.invokevirtual 127, 3) := by decide +kernel
theorem dL_law_1041 : decode cL_law 1041 = .ok (.if_icmp .eq 169, 3) := by decide +kernel
theorem dL_law_1044 : decode cL_law 1044 = .ok (.iconst 0, 1) := by decide +kernel
theorem dL_law_1045 : decode cL_law 1045 = .ok (.ireturn, 1) := by decide +kernel
theorem dL_law_1046 : decode cL_law 1046 = .ok (.aload_n 1, 1) := by decide +kernel
theorem dL_law_1047 : decode cL_law 1047 = .ok (.aload_n 0, 1) := by decide +kernel
theorem dL_law_1048 : decode cL_law 1048 = .ok (.iload_n 3, 1) := by decide +kernel
theorem dL_law_1049 : decode cL_law 1049 = .ok (.iconst 1, 1) := by decide +kernel
theorem dL_law_1050 : decode cL_law 1050 = .ok (.iadd, 1) := by decide +kernel
theorem dL_law_1051 : decode cL_law 1051 = .ok (.iaload, 1) := by decide +kernel
theorem dL_law_1052 : decode cL_law 1052 = .ok (.aload_n 0, 1) := by decide +kernel
theorem dL_law_1053 : decode cL_law 1053 = .ok (.iload_n 3, 1) := by decide +kernel
theorem dL_law_1054 : decode cL_law 1054 = .ok (.iconst 2, 1) := by decide +kernel
theorem dL_law_1055 : decode cL_law 1055 = .ok (.iadd, 1) := by decide +kernel
theorem dL_law_1056 : decode cL_law 1056 = .ok (.iaload, 1) := by decide +kernel
theorem dL_law_1057 : decode cL_law 1057 = .ok (.invokevirtual 128, 3) := by decide +kernel
theorem dL_law_1060 : decode cL_law 1060 = .ok (.aload_n 2, 1) := by decide +kernel
theorem dL_law_1061 : decode cL_law 1061 = .ok (.aload_n 0, 1) := by decide +kernel
theorem dL_law_1062 : decode cL_law 1062 = .ok (.iload_n 3, 1) := by decide +kernel
theorem dL_law_1063 : decode cL_law 1063 = .ok (.iconst 1, 1) := by decide +kernel
theorem dL_law_1064 : decode cL_law 1064 = .ok (.iadd, 1) := by decide +kernel
theorem dL_law_1065 : decode cL_law 1065 = .ok (.iaload, 1) := by decide +kernel
theorem dL_law_1066 : decode cL_law 1066 = .ok (.aload_n 0, 1) := by decide +kernel
theorem dL_law_1067 : decode cL_law 1067 = .ok (.iload_n 3, 1) := by decide +kernel
theorem dL_law_1068 : decode cL_law 1068 = .ok (.iconst 2, 1) := by decide +kernel
theorem dL_law_1069 : decode cL_law 1069 = .ok (.iadd, 1) := by decide +kernel
theorem dL_law_1070 : decode cL_law 1070 = .ok (.iaload, 1) := by decide +kernel
theorem dL_law_1071 : decode cL_law 1071 = .ok (.invokevirtual 131, 3) := by decide +kernel
theorem dL_law_1074 : decode cL_law 1074 = .ok (.if_icmp .eq 136, 3) := by decide +kernel
theorem dL_law_1077 : decode cL_law 1077 = .ok (.iconst 0, 1) := by decide +kernel
theorem dL_law_1078 : decode cL_law 1078 = .ok (.ireturn, 1) := by decide +kernel
theorem dL_law_1079 : decode cL_law 1079 = .ok (.aload_n 1, 1) := by decide +kernel
theorem dL_law_1080 : decode cL_law 1080 = .ok (.aload_n 0, 1) := by decide +kernel
theorem dL_law_1081 : decode cL_law 1081 = .ok (.iload_n 3, 1) := by decide +kernel
theorem dL_law_1082 : decode cL_law 1082 = .ok (.iconst 1, 1) := by decide +kernel
theorem dL_law_1083 : decode cL_law 1083 = .ok (.iadd, 1) := by decide +kernel
theorem dL_law_1084 : decode cL_law 1084 = .ok (.iaload, 1) := by decide +kernel
theorem dL_law_1085 : decode cL_law 1085 = .ok (.aload_n 0, 1) := by decide +kernel
theorem dL_law_1086 : decode cL_law 1086 = .ok (.iload_n 3, 1) := by decide +kernel
theorem dL_law_1087 : decode cL_law 1087 = .ok (.iconst 2, 1) := by decide +kernel
theorem dL_law_1088 : decode cL_law 1088 = .ok (.iadd, 1) := by decide +kernel
theorem dL_law_1089 : decode cL_law 1089 = .ok (.iaload, 1) := by decide +kernel
theorem dL_law_1090 : decode cL_law 1090 = .ok (.invokevirtual 132, 3) := by decide +kernel
theorem dL_law_1093 : decode cL_law 1093 = .ok (.aload_n 2, 1) := by decide +kernel
theorem dL_law_1094 : decode cL_law 1094 = .ok (.aload_n 0, 1) := by decide +kernel
theorem dL_law_1095 : decode cL_law 1095 = .ok (.iload_n 3, 1) := by decide +kernel
theorem dL_law_1096 : decode cL_law 1096 = .ok (.iconst 1, 1) := by decide +kernel
theorem dL_law_1097 : decode cL_law 1097 = .ok (.iadd, 1) := by decide +kernel
theorem dL_law_1098 : decode cL_law 1098 = .ok (.iaload, 1) := by decide +kernel
theorem dL_law_1099 : decode cL_law 1099 = .ok (.aload_n 0, 1) := by decide +kernel
theorem dL_law_1100 : decode cL_law 1100 = .ok (.iload_n 3, 1) := by decide +kernel
theorem dL_law_1101 : decode cL_law 1101 = .ok (.iconst 2, 1) := by decide +kernel
theorem dL_law_1102 : decode cL_law 1102 = .ok (.iadd, 1) := by decide +kernel
theorem dL_law_1103 : decode cL_law 1103 = .ok (.iaload, 1) := by decide +kernel
theorem dL_law_1104 : decode cL_law 1104 = .ok (.invokevirtual 135, 3) := by decide +kernel
theorem dL_law_1107 : decode cL_law 1107 = .ok (.if_icmp .eq 103, 3) := by decide +kernel
theorem dL_law_1110 : decode cL_law 1110 = .ok (.iconst 0, 1) := by decide +kernel
theorem dL_law_1111 : decode cL_law 1111 = .ok (.ireturn, 1) := by decide +kernel
theorem dL_law_1112 : decode cL_law 1112 = .ok (.aload_n 1, 1) := by decide +kernel
theorem dL_law_1113 : decode cL_law 1113 = .ok (.aload_n 0, 1) := by decide +kernel
theorem dL_law_1114 : decode cL_law 1114 = .ok (.iload_n 3, 1) := by decide +kernel
theorem dL_law_1115 : decode cL_law 1115 = .ok (.iconst 1, 1) := by decide +kernel
theorem dL_law_1116 : decode cL_law 1116 = .ok (.iadd, 1) := by decide +kernel
theorem dL_law_1117 : decode cL_law 1117 = .ok (.iaload, 1) := by decide +kernel
theorem dL_law_1118 : decode cL_law 1118 = .ok (.invokevirtual 136, 3) := by decide +kernel
theorem dL_law_1121 : decode cL_law 1121 = .ok (.aload_n 2, 1) := by decide +kernel
theorem dL_law_1122 : decode cL_law 1122 = .ok (.aload_n 0, 1) := by decide +kernel
theorem dL_law_1123 : decode cL_law 1123 = .ok (.iload_n 3, 1) := by decide +kernel
theorem dL_law_1124 : decode cL_law 1124 = .ok (.iconst 1, 1) := by decide +kernel
theorem dL_law_1125 : decode cL_law 1125 = .ok (.iadd, 1) := by decide +kernel
theorem dL_law_1126 : decode cL_law 1126 = .ok (.iaload, 1) := by decide +kernel
theorem dL_law_1127 : decode cL_law 1127 = .ok (.invokevirtual 139, 3) := by decide +kernel
theorem dL_law_1130 : decode cL_law 1130 = .ok (.if_icmp .eq 80, 3) := by decide +kernel
theorem dL_law_1133 : decode cL_law 1133 = .ok (.iconst 0, 1) := by decide +kernel
theorem dL_law_1134 : decode cL_law 1134 = .ok (.ireturn, 1) := by decide +kernel
theorem dL_law_1135 : decode cL_law 1135 = .ok (.aload_n 1, 1) := by decide +kernel
theorem dL_law_1136 : decode cL_law 1136 = .ok (.invokevirtual 140, 3) := by decide +kernel
theorem dL_law_1139 : decode cL_law 1139 = .ok (.aload_n 2, 1) := by decide +kernel
theorem dL_law_1140 : decode cL_law 1140 = .ok (.invokevirtual 144, 3) := by decide +kernel
theorem dL_law_1143 : decode cL_law 1143 = .ok (.if_icmp .eq 67, 3) := by decide +kernel
theorem dL_law_1146 : decode cL_law 1146 = .ok (.iconst 0, 1) := by decide +kernel
theorem dL_law_1147 : decode cL_law 1147 = .ok (.ireturn, 1) := by decide +kernel
theorem dL_law_1148 : decode cL_law 1148 = .ok (.aload_n 1, 1) := by decide +kernel
theorem dL_law_1149 : decode cL_law 1149 = .ok (.aload_n 0, 1) := by decide +kernel
theorem dL_law_1150 : decode cL_law 1150 = .ok (.iload_n 3, 1) := by decide +kernel
theorem dL_law_1151 : decode cL_law 1151 = .ok (.iconst 1, 1) := by decide +kernel
theorem dL_law_1152 : decode cL_law 1152 = .ok (.iadd, 1) := by decide +kernel
theorem dL_law_1153 : decode cL_law 1153 = .ok (.iaload, 1) := by decide +kernel
theorem dL_law_1154 : decode cL_law 1154 = .ok (.ifCond .eq 7, 3) := by decide +kernel
theorem dL_law_1157 : decode cL_law 1157 = .ok (.iconst 1, 1) := by decide +kernel
theorem dL_law_1158 : decode cL_law 1158 = .ok (.goto 4, 3) := by decide +kernel
theorem dL_law_1161 : decode cL_law 1161 = .ok (.iconst 0, 1) := by decide +kernel
theorem dL_law_1162 : decode cL_law 1162 = .ok (.invokevirtual 145, 3) := by decide +kernel
theorem dL_law_1165 : decode cL_law 1165 = .ok (.aload_n 2, 1) := by decide +kernel
theorem dL_law_1166 : decode cL_law 1166 = .ok (.aload_n 0, 1) := by decide +kernel
theorem dL_law_1167 : decode cL_law 1167 = .ok (.iload_n 3, 1) := by decide +kernel
theorem dL_law_1168 : decode cL_law 1168 = .ok (.iconst 1, 1) := by decide +kernel
theorem dL_law_1169 : decode cL_law 1169 = .ok (.iadd, 1) := by decide +kernel
theorem dL_law_1170 : decode cL_law 1170 = .ok (.iaload, 1) := by decide +kernel
theorem dL_law_1171 : decode cL_law 1171 = .ok (.ifCond .eq 7, 3) := by decide +kernel
theorem dL_law_1174 : decode cL_law 1174 = .ok (.iconst 1, 1) := by decide +kernel
theorem dL_law_1175 : decode cL_law 1175 = .ok (.goto 4, 3) := by decide +kernel
theorem dL_law_1178 : decode cL_law 1178 = .ok (.iconst 0, 1) := by decide +kernel
theorem dL_law_1179 : decode cL_law 1179 = .ok (.invokevirtual 149, 3) := by decide +kernel
theorem dL_law_1182 : decode cL_law 1182 = .ok (.if_icmp .eq 28, 3) := by decide +kernel
theorem dL_law_1185 : decode cL_law 1185 = .ok (.iconst 0, 1) := by decide +kernel
theorem dL_law_1186 : decode cL_law 1186 = .ok (.ireturn, 1) := by decide +kernel
theorem dL_law_1187 : decode cL_law 1187 = .ok (.aload_n 1, 1) := by decide +kernel
theorem dL_law_1188 : decode cL_law 1188 = .ok (.aload_n 0, 1) := by decide +kernel
theorem dL_law_1189 : decode cL_law 1189 = .ok (.iload_n 3, 1) := by decide +kernel
theorem dL_law_1190 : decode cL_law 1190 = .ok (.iconst 1, 1) := by decide +kernel
theorem dL_law_1191 : decode cL_law 1191 = .ok (.iadd, 1) := by decide +kernel
theorem dL_law_1192 : decode cL_law 1192 = .ok (.iaload, 1) := by decide +kernel
theorem dL_law_1193 : decode cL_law 1193 = .ok (.invokevirtual 150, 3) := by decide +kernel
theorem dL_law_1196 : decode cL_law 1196 = .ok (.aload_n 2, 1) := by decide +kernel
theorem dL_law_1197 : decode cL_law 1197 = .ok (.aload_n 0, 1) := by decide +kernel
theorem dL_law_1198 : decode cL_law 1198 = .ok (.iload_n 3, 1) := by decide +kernel
theorem dL_law_1199 : decode cL_law 1199 = .ok (.iconst 1, 1) := by decide +kernel
theorem dL_law_1200 : decode cL_law 1200 = .ok (.iadd, 1) := by decide +kernel
theorem dL_law_1201 : decode cL_law 1201 = .ok (.iaload, 1) := by decide +kernel
theorem dL_law_1202 : decode cL_law 1202 = .ok (.invokevirtual 153, 3) := by decide +kernel
theorem dL_law_1205 : decode cL_law 1205 = .ok (.if_icmp .eq 5, 3) := by decide +kernel
theorem dL_law_1208 : decode cL_law 1208 = .ok (.iconst 0, 1) := by decide +kernel
theorem dL_law_1209 : decode cL_law 1209 = .ok (.ireturn, 1) := by decide +kernel
theorem dL_law_1210 : decode cL_law 1210 = .ok (.iinc 3 6, 3) := by decide +kernel
theorem dL_law_1213 : decode cL_law 1213 = .ok (.goto (-1195), 3) := by decide +kernel
theorem dL_law_1216 : decode cL_law 1216 = .ok (.iconst 1, 1) := by decide +kernel
theorem dL_law_1217 : decode cL_law 1217 = .ok (.ireturn, 1) := by decide +kernel
def LX (K1 K2 : KT) (p : Program) (st : State) (m : MethodId) (c : Code) (b L : Nat) (xs : Nat → Int32) : Prop :=
  CallFix p m c cL_law 4 st #[.ref b] GT RL ∧ (va_K (kD K1) vwCl (kT K1) st ∧ va_K (kD K2) vwCl (kT K2) st) ∧ (kJ K1 ∧ kJ K2) ∧ (kZ K1 st st.heap ∧ kZ K2 st st.heap) ∧ ((∀ q, kA K1 q → st.heap.size ≤ q) ∧ (∀ q, kA K2 q → st.heap.size ≤ q) ∧ ∀ q, kA K1 q → ¬ kA K2 q) ∧ va_X b L xs st st.heap ∧ b < st.heap.size
def LG (K1 K2 : KT) (p : Program) (l : Launch) (e : Env) (st : State) (m : MethodId) (b : Nat) (below : List Frame) (meth : Method) (c : Code) (Q : State → Prop) (ce sl : Nat) (s1 s2 : ST) (pc : Nat) (lv : List (Nat × Value)) (stk : List Value) : Prop :=
  ∀ (H : Heap) (locs : List Loc) (ls : Array Slot), va_P (kD K1) vwCl (kW K1 s1) H → va_P (kD K2) vwCl (kW K2 s2) H → va_S (fun q => st.heap.size ≤ q) st.heap H locs → lv_has ls 4 lv → W p l e room_1 st m #[.ref b] below meth c H locs ce sl Q (F0 m pc ls stk)
theorem kW_old {K K' : KT} {s : ST} {H H1 : Heap} (hP : va_P (kD K) vwCl (kW K s) H) (hk : ∀ q : Nat, q < H.size → ¬ kA K' q → H1[q]? = H[q]?) (hd : ∀ q, kA K q → ¬ kA K' q) : va_P (kD K) vwCl (kW K s) H1 :=
  hP.kept fun k x hx => by
    have hl : k < kN K := by rw [← kW_len (s := s)]; exact (List.getElem?_eq_some_iff.mp hx).1
    refine hk x.1 (hP k x hx).lt (hd x.1 ⟨k, hl, ?_⟩)
    rw [kW_get hl] at hx
    cases hx
    rfl
section LR
variable {K1 K2 : KT} {p : Program} {l : Launch} {e : Env} {st : State} {m : MethodId} {b L : Nat} {xs : Nat → Int32} {below : List Frame} {meth : Method} {c : Code} {Q : State → Prop} {ce sl : Nat} {s1 s2 : ST} {pc q : Nat} {lv lv' : List (Nat × Value)} {rest : List Value}
theorem l_iconst (X : LX K1 K2 p st m c b L xs) {n : Int} {v : Int32} (d : decode cL_law pc = .ok (.iconst n, 1)) (hq : pc + 1 = q) (hv : Int32.ofInt n = v) (k : LG K1 K2 p l e st m b below meth c Q ce sl s1 s2 q lv (.int v :: rest)) : LG K1 K2 p l e st m b below meth c Q ce sl s1 s2 pc lv (rest) := by
  subst hq
  exact fun H locs ls hP1 hP2 hS hl => lv_iconst X.1.1 X.1.2.1 d hv (k H locs ls hP1 hP2 hS hl)
theorem l_bipush (X : LX K1 K2 p st m c b L xs) {n : Int} {v : Int32} (d : decode cL_law pc = .ok (.bipush n, 2)) (hq : pc + 2 = q) (hv : (Int8.ofInt n).toInt32 = v) (k : LG K1 K2 p l e st m b below meth c Q ce sl s1 s2 q lv (.int v :: rest)) : LG K1 K2 p l e st m b below meth c Q ce sl s1 s2 pc lv (rest) := by
  subst hq
  exact fun H locs ls hP1 hP2 hS hl => lv_bipush X.1.1 X.1.2.1 d hv (k H locs ls hP1 hP2 hS hl)
theorem l_iload_n (X : LX K1 K2 p st m c b L xs) {n : Fin 4} {x : Int32} (d : decode cL_law pc = .ok (.iload_n n, 1)) (hq : pc + 1 = q) (a : Nat) (ha : lv[a]? = some ((n : Nat), .int x)) (k : LG K1 K2 p l e st m b below meth c Q ce sl s1 s2 q lv (.int x :: rest)) : LG K1 K2 p l e st m b below meth c Q ce sl s1 s2 pc lv (rest) := by
  subst hq
  exact fun H locs ls hP1 hP2 hS hl => lv_iload_n X.1.1 X.1.2.1 d rfl (lv_at hl a ha) (k H locs ls hP1 hP2 hS hl)
theorem l_aload_n (X : LX K1 K2 p st m c b L xs) {n : Fin 4} {x : Nat} (d : decode cL_law pc = .ok (.aload_n n, 1)) (hq : pc + 1 = q) (a : Nat) (ha : lv[a]? = some ((n : Nat), .ref x)) (k : LG K1 K2 p l e st m b below meth c Q ce sl s1 s2 q lv (.ref x :: rest)) : LG K1 K2 p l e st m b below meth c Q ce sl s1 s2 pc lv (rest) := by
  subst hq
  exact fun H locs ls hP1 hP2 hS hl => lv_aload_n X.1.1 X.1.2.1 d rfl (lv_at hl a ha) (k H locs ls hP1 hP2 hS hl)
theorem l_iadd (X : LX K1 K2 p st m c b L xs) {x y : Int32} (d : decode cL_law pc = .ok (.iadd, 1)) (hq : pc + 1 = q)  (k : LG K1 K2 p l e st m b below meth c Q ce sl s1 s2 q lv (.int (x + y) :: rest)) : LG K1 K2 p l e st m b below meth c Q ce sl s1 s2 pc lv (.int y :: .int x :: rest) := by
  subst hq
  exact fun H locs ls hP1 hP2 hS hl => lv_iadd X.1.1 X.1.2.1 d (k H locs ls hP1 hP2 hS hl)
theorem l_isub (X : LX K1 K2 p st m c b L xs) {x y : Int32} (d : decode cL_law pc = .ok (.isub, 1)) (hq : pc + 1 = q)  (k : LG K1 K2 p l e st m b below meth c Q ce sl s1 s2 q lv (.int (x - y) :: rest)) : LG K1 K2 p l e st m b below meth c Q ce sl s1 s2 pc lv (.int y :: .int x :: rest) := by
  subst hq
  exact fun H locs ls hP1 hP2 hS hl => lv_isub X.1.1 X.1.2.1 d (k H locs ls hP1 hP2 hS hl)
theorem l_iand (X : LX K1 K2 p st m c b L xs) {x y : Int32} (d : decode cL_law pc = .ok (.iand, 1)) (hq : pc + 1 = q)  (k : LG K1 K2 p l e st m b below meth c Q ce sl s1 s2 q lv (.int (x &&& y) :: rest)) : LG K1 K2 p l e st m b below meth c Q ce sl s1 s2 pc lv (.int y :: .int x :: rest) := by
  subst hq
  exact fun H locs ls hP1 hP2 hS hl => lv_iand X.1.1 X.1.2.1 d (k H locs ls hP1 hP2 hS hl)
theorem l_land (X : LX K1 K2 p st m c b L xs) {x y : Int64} (d : decode cL_law pc = .ok (.land, 1)) (hq : pc + 1 = q)  (k : LG K1 K2 p l e st m b below meth c Q ce sl s1 s2 q lv (.long (x &&& y) :: rest)) : LG K1 K2 p l e st m b below meth c Q ce sl s1 s2 pc lv (.long y :: .long x :: rest) := by
  subst hq
  exact fun H locs ls hP1 hP2 hS hl => lv_land X.1.1 X.1.2.1 d (k H locs ls hP1 hP2 hS hl)
theorem l_lor (X : LX K1 K2 p st m c b L xs) {x y : Int64} (d : decode cL_law pc = .ok (.lor, 1)) (hq : pc + 1 = q)  (k : LG K1 K2 p l e st m b below meth c Q ce sl s1 s2 q lv (.long (x ||| y) :: rest)) : LG K1 K2 p l e st m b below meth c Q ce sl s1 s2 pc lv (.long y :: .long x :: rest) := by
  subst hq
  exact fun H locs ls hP1 hP2 hS hl => lv_lor X.1.1 X.1.2.1 d (k H locs ls hP1 hP2 hS hl)
theorem l_i2l (X : LX K1 K2 p st m c b L xs) {x : Int32} (d : decode cL_law pc = .ok (.i2l, 1)) (hq : pc + 1 = q)  (k : LG K1 K2 p l e st m b below meth c Q ce sl s1 s2 q lv (.long x.toInt64 :: rest)) : LG K1 K2 p l e st m b below meth c Q ce sl s1 s2 pc lv (.int x :: rest) := by
  subst hq
  exact fun H locs ls hP1 hP2 hS hl => lv_i2l X.1.1 X.1.2.1 d rfl (k H locs ls hP1 hP2 hS hl)
theorem l_lshl (X : LX K1 K2 p st m c b L xs) {x : Int64} {y : Int32} (d : decode cL_law pc = .ok (.lshl, 1)) (hq : pc + 1 = q)  (k : LG K1 K2 p l e st m b below meth c Q ce sl s1 s2 q lv (.long (x <<< (y.toInt64 &&& 63)) :: rest)) : LG K1 K2 p l e st m b below meth c Q ce sl s1 s2 pc lv (.int y :: .long x :: rest) := by
  subst hq
  exact fun H locs ls hP1 hP2 hS hl => lv_lshl X.1.1 X.1.2.1 d rfl (k H locs ls hP1 hP2 hS hl)
theorem l_ldc2_w (X : LX K1 K2 p st m c b L xs) {v : Int64} {i : Nat} (d : decode cL_law pc = .ok (.ldc2_w i, 3)) (hq : pc + 3 = q) (hc : Cond.constantLong RL i v ∈ GT) (k : LG K1 K2 p l e st m b below meth c Q ce sl s1 s2 q lv (.long v :: rest)) : LG K1 K2 p l e st m b below meth c Q ce sl s1 s2 pc lv (rest) := by
  subst hq
  exact fun H locs ls hP1 hP2 hS hl => lv_ldc2 X.1.1 X.1.2.1 X.1.2.2.2.1 (X.1.2.2.2.2 _ hc) d (k H locs ls hP1 hP2 hS hl)
theorem l_iinc (X : LX K1 K2 p st m c b L xs) {i : Nat} {n : Int} {x v : Int32} (d : decode cL_law pc = .ok (.iinc i n, 3)) (hq : pc + 3 = q) (a : Nat) (ha : lv[a]? = some (i, .int x)) (hv : x + Int32.ofInt n = v) (hn : i < 4) (hl' : (i, Value.int v) :: lv.filter (fun q => !(q.1 == i) && !(q.1 + 1 == i && q.2.category == 2)) = lv') (k : LG K1 K2 p l e st m b below meth c Q ce sl s1 s2 q lv' (rest)) : LG K1 K2 p l e st m b below meth c Q ce sl s1 s2 pc lv (rest) := by
  subst hq
  exact fun H locs ls hP1 hP2 hS hl => lv_iinc X.1.1 X.1.2.1 d hl ha hv hn hl' (fun ls' h' => k H locs ls' hP1 hP2 hS h')
theorem l_len (X : LX K1 K2 p st m c b L xs)  (d : decode cL_law pc = .ok (.arraylength, 1)) (hq : pc + 1 = q)  (k : LG K1 K2 p l e st m b below meth c Q ce sl s1 s2 q lv (.int (Int32.ofNat L) :: rest)) : LG K1 K2 p l e st m b below meth c Q ce sl s1 s2 pc lv (.ref b :: rest) := by
  subst hq
  exact fun H locs ls hP1 hP2 hS hl => va_slen X.1.1 X.1.2.1 X.2.2.2.2.2.1 X.2.2.2.2.2.2 (Nat.not_le.mpr X.2.2.2.2.2.2) hS d (k H locs ls hP1 hP2 hS hl)
theorem l_sld (X : LX K1 K2 p st m c b L xs) {i : Int32} (d : decode cL_law pc = .ok (.iaload, 1)) (hq : pc + 1 = q) (hi : vp_in i L) (k : LG K1 K2 p l e st m b below meth c Q ce sl s1 s2 q lv (.int (xs i.toNatClampNeg) :: rest)) : LG K1 K2 p l e st m b below meth c Q ce sl s1 s2 pc lv (.int i :: .ref b :: rest) := by
  subst hq
  exact fun H locs ls hP1 hP2 hS hl => va_sld X.1.1 X.1.2.1 X.2.2.2.2.2.1 X.2.2.2.2.2.2 (Nat.not_le.mpr X.2.2.2.2.2.2) hS hi d (k H locs ls hP1 hP2 hS hl)
theorem l_goto (X : LX K1 K2 p st m c b L xs) {off : Int} {tgt : Nat} (d : decode cL_law pc = .ok (.goto off, 3)) (ht : (pc : Int) + off = (tgt : Int)) (k : LG K1 K2 p l e st m b below meth c Q ce sl s1 s2 tgt lv (rest)) : LG K1 K2 p l e st m b below meth c Q ce sl s1 s2 pc lv (rest) := fun H locs ls hP1 hP2 hS hl => lv_goto X.1.1 X.1.2.1 d ht (k H locs ls hP1 hP2 hS hl)
theorem l_gt (X : LX K1 K2 p st m c b L xs) {x y : Int32} {off : Int} {tgt : Nat} (d : decode cL_law pc = .ok (.if_icmp .gt off, 3)) (hq : pc + 3 = q) (ht : (pc : Int) + off = (tgt : Int)) (kt : y < x → LG K1 K2 p l e st m b below meth c Q ce sl s1 s2 tgt lv (rest)) (kf : ¬ y < x → LG K1 K2 p l e st m b below meth c Q ce sl s1 s2 q lv (rest)) : LG K1 K2 p l e st m b below meth c Q ce sl s1 s2 pc lv (.int y :: .int x :: rest) := by
  subst hq
  exact fun H locs ls hP1 hP2 hS hl => lv_icmp_gt X.1.1 X.1.2.1 d ht (fun h => kt h H locs ls hP1 hP2 hS hl) (fun h => kf h H locs ls hP1 hP2 hS hl)
theorem l_ifeq (X : LX K1 K2 p st m c b L xs) {x : Int32} {off : Int} {tgt : Nat} (d : decode cL_law pc = .ok (.ifCond .eq off, 3)) (hq : pc + 3 = q) (ht : (pc : Int) + off = (tgt : Int)) (kt : x = 0 → LG K1 K2 p l e st m b below meth c Q ce sl s1 s2 tgt lv (rest)) (kf : ¬ x = 0 → LG K1 K2 p l e st m b below meth c Q ce sl s1 s2 q lv (rest)) : LG K1 K2 p l e st m b below meth c Q ce sl s1 s2 pc lv (.int x :: rest) := by
  subst hq
  exact fun H locs ls hP1 hP2 hS hl => lv_if_eq X.1.1 X.1.2.1 d ht (fun h => kt h H locs ls hP1 hP2 hS hl) (fun h => kf h H locs ls hP1 hP2 hS hl)
theorem l_same (X : LX K1 K2 p st m c b L xs) {x : Int32} {off : Int} {tgt : Nat} (d : decode cL_law pc = .ok (.if_icmp .eq off, 3)) (ht : (pc : Int) + off = (tgt : Int)) (k : LG K1 K2 p l e st m b below meth c Q ce sl s1 s2 tgt lv (rest)) : LG K1 K2 p l e st m b below meth c Q ce sl s1 s2 pc lv (.int x :: .int x :: rest) := fun H locs ls hP1 hP2 hS hl => lv_icmp_eq X.1.1 X.1.2.1 d ht (fun _ => (k H locs ls hP1 hP2 hS hl)) (fun h => absurd rfl h)
theorem l_sameL (X : LX K1 K2 p st m c b L xs) {x : Int64} {off : Int} {pc2 tgt : Nat} (d : decode cL_law pc = .ok (.lcmp, 1)) (hq : pc + 1 = pc2) (d2 : decode cL_law pc2 = .ok (.ifCond .eq off, 3)) (ht : (pc2 : Int) + off = (tgt : Int)) (k : LG K1 K2 p l e st m b below meth c Q ce sl s1 s2 tgt lv (rest)) : LG K1 K2 p l e st m b below meth c Q ce sl s1 s2 pc lv (.long x :: .long x :: rest) := by
  subst hq
  exact fun H locs ls hP1 hP2 hS hl => W.lcmp X.1.1 X.1.2.1 d (lv_if_eq X.1.1 X.1.2.1 d2 ht (fun _ => (k H locs ls hP1 hP2 hS hl)) (fun h => absurd (by simp [lg_cmp]) h))
theorem l_tsw (X : LX K1 K2 p st m c b L xs) {dflt lo hi off : Int} {offs : Array Int} {len : Nat} {x z : Int32} {tgt : Nat} (d : decode cL_law pc = .ok (.tableswitch dflt lo hi offs, len)) (ho : offs[(z.toInt - lo).toNat]? = some off) (h1 : ¬ z.toInt < lo) (h2 : ¬ hi < z.toInt) (ht : (pc : Int) + off = (tgt : Int)) (kt : LG K1 K2 p l e st m b below meth c Q ce sl s1 s2 tgt lv (rest)) (kf : ¬ x = z → LG K1 K2 p l e st m b below meth c Q ce sl s1 s2 pc lv (.int x :: rest)) : LG K1 K2 p l e st m b below meth c Q ce sl s1 s2 pc lv (.int x :: rest) := by
  by_cases hx : x = z
  · subst hx
    exact fun H locs ls hP1 hP2 hS hl => lv_tableIn X.1.1 X.1.2.1 d h1 h2 ho ht (kt H locs ls hP1 hP2 hS hl)
  · exact kf hx
theorem l_tswO (X : LX K1 K2 p st m c b L xs) {dflt lo hi : Int} {offs : Array Int} {len : Nat} {x : Int32} {tgt : Nat} (d : decode cL_law pc = .ok (.tableswitch dflt lo hi offs, len)) (h : x.toInt < lo ∨ hi < x.toInt) (ht : (pc : Int) + dflt = (tgt : Int)) (k : LG K1 K2 p l e st m b below meth c Q ce sl s1 s2 tgt lv (rest)) : LG K1 K2 p l e st m b below meth c Q ce sl s1 s2 pc lv (.int x :: rest) := fun H locs ls hP1 hP2 hS hl => lv_tableOut X.1.1 X.1.2.1 d h ht (k H locs ls hP1 hP2 hS hl)
theorem l_sub {stk : List Value} (ks : List Nat) (h : lv_pick lv ks = lv') (k : LG K1 K2 p l e st m b below meth c Q ce sl s1 s2 pc lv' stk) : LG K1 K2 p l e st m b below meth c Q ce sl s1 s2 pc lv (stk) := fun H locs ls hP1 hP2 hS hl => k H locs ls hP1 hP2 hS (lv_sub hl ks h)
theorem lc1_I (X : LX K1 K2 p st m c b L xs) {y : MethodName} {b2 : ByteArray} {n2 : Nat} {ret2 : Option FieldType} {d1 idx n : Nat} {As : List Value} {r0 : Int32} {u0 : ST} (hM : MI l K1 d1 y b2 n2 ret2 s1 (.ref (kh K1 0) :: As) r0 u0) (hG : GoodIn GT (wsV RL idx y.cls y (.code y b2 n2 ret2 :: GT))) (hR : d1 + 1 ≤ 2048 ∧ 8 + (n2 + 11) + 100 * d1 ≤ 84000) (hd : y.cls ≠ "java/lang/invoke/MethodHandle" ∧ y.cls ≠ "java/lang/invoke/VarHandle" ∧ (parseMethodDescriptor y.desc).map (fun d => d.parameters.length) = some n) (hAs : As.length = n) (hrest : (rest.map fun v => v.category).sum ≤ 8) {ci : Nat} (hb0 : 0 < kN K1) {fs : List Value} {T : u_T} {N : Nat} (hg : kG K1 0 (s1.1 0) (s1.2 0) = .inr (ci, fs)) (hc : vwCl[ci]? = some (y.cls, T, N)) (hce : ce ≤ 600000 ∧ sl ≤ 7302249) {stk : List Value} (hst : stk = As.reverse ++ .ref (kh K1 0) :: rest) (dg : decode cL_law pc = .ok (.invokevirtual idx, 3)) (hq : pc + 3 = q) (k : LG K1 K2 p l e st m b below meth c Q ce sl u0 s2 q lv (.int r0 :: rest)) : LG K1 K2 p l e st m b below meth c Q ce sl s1 s2 pc lv (stk) := by
  subst hq
  subst hst
  intro H locs ls hP1 hP2 hS hl
  have hZh : kZ K1 st H := X.2.2.1.1.2.2.1 st st.heap H hS.1 (fun q h1 _ => hS.2.1 q h1 (Nat.not_le.mpr h1)) X.2.2.2.1.1
  refine va_calli (va_runV (As := As) (rest := rest) X.1 hM (cwV n X.1.2.2.2.2 hG rfl rfl rfl ⟨rfl, hd⟩ hR) ⟨blind_of, va_recv X.2.1.1 hP1 hc (by rw [kW_get hb0, hg]), fun U hU hW => ⟨rfl, by rw [hU]; exact hP1, va_K.moved hW.alike X.2.1.1, X.2.2.1.1, by rw [hU]; exact X.2.2.1.1.2.1 st U H hW hZh⟩⟩ rfl hAs hl.1 rfl (lv_room hrest) dg ⟨hce.1, hce.2⟩) hS (fun q _ h => X.2.2.2.2.1.1 q h) (fun q h => X.2.2.2.2.1.1 q h) (fun r u t H1 locs1 ht hvm hw hB hz1 hk1 hS => ?_)
  obtain ⟨rfl, rfl⟩ := hw
  have hN := kW_old hP2 hk1 (fun q h2 h1 => X.2.2.2.2.1.2.2 q h1 h2)
  have hO : va_P (kD K1) vwCl (kW K1 u) H1 := by rw [← ht]; exact hB
  exact k H1 locs1 ls hO hN hS hl
theorem lc1_L (X : LX K1 K2 p st m c b L xs) {y : MethodName} {b2 : ByteArray} {n2 : Nat} {ret2 : Option FieldType} {d1 idx n : Nat} {As : List Value} {r0 : Int64} {u0 : ST} (hM : ML l K1 d1 y b2 n2 ret2 s1 (.ref (kh K1 0) :: As) r0 u0) (hG : GoodIn GT (wsV RL idx y.cls y (.code y b2 n2 ret2 :: GT))) (hR : d1 + 1 ≤ 2048 ∧ 8 + (n2 + 11) + 100 * d1 ≤ 84000) (hd : y.cls ≠ "java/lang/invoke/MethodHandle" ∧ y.cls ≠ "java/lang/invoke/VarHandle" ∧ (parseMethodDescriptor y.desc).map (fun d => d.parameters.length) = some n) (hAs : As.length = n) (hrest : (rest.map fun v => v.category).sum ≤ 8) {ci : Nat} (hb0 : 0 < kN K1) {fs : List Value} {T : u_T} {N : Nat} (hg : kG K1 0 (s1.1 0) (s1.2 0) = .inr (ci, fs)) (hc : vwCl[ci]? = some (y.cls, T, N)) (hce : ce ≤ 600000 ∧ sl ≤ 7302249) {stk : List Value} (hst : stk = As.reverse ++ .ref (kh K1 0) :: rest) (dg : decode cL_law pc = .ok (.invokevirtual idx, 3)) (hq : pc + 3 = q) (k : LG K1 K2 p l e st m b below meth c Q ce sl u0 s2 q lv (.long r0 :: rest)) : LG K1 K2 p l e st m b below meth c Q ce sl s1 s2 pc lv (stk) := by
  subst hq
  subst hst
  intro H locs ls hP1 hP2 hS hl
  have hZh : kZ K1 st H := X.2.2.1.1.2.2.1 st st.heap H hS.1 (fun q h1 _ => hS.2.1 q h1 (Nat.not_le.mpr h1)) X.2.2.2.1.1
  refine va_calll (va_runV (As := As) (rest := rest) X.1 hM (cwV n X.1.2.2.2.2 hG rfl rfl rfl ⟨rfl, hd⟩ hR) ⟨blind_of, va_recv X.2.1.1 hP1 hc (by rw [kW_get hb0, hg]), fun U hU hW => ⟨rfl, by rw [hU]; exact hP1, va_K.moved hW.alike X.2.1.1, X.2.2.1.1, by rw [hU]; exact X.2.2.1.1.2.1 st U H hW hZh⟩⟩ rfl hAs hl.1 rfl (lv_room hrest) dg ⟨hce.1, hce.2⟩) hS (fun q _ h => X.2.2.2.2.1.1 q h) (fun q h => X.2.2.2.2.1.1 q h) (fun r u t H1 locs1 ht hvm hw hB hz1 hk1 hS => ?_)
  obtain ⟨rfl, rfl⟩ := hw
  have hN := kW_old hP2 hk1 (fun q h2 h1 => X.2.2.2.2.1.2.2 q h1 h2)
  have hO : va_P (kD K1) vwCl (kW K1 u) H1 := by rw [← ht]; exact hB
  exact k H1 locs1 ls hO hN hS hl
theorem lc2_I (X : LX K1 K2 p st m c b L xs) {y : MethodName} {b2 : ByteArray} {n2 : Nat} {ret2 : Option FieldType} {d1 idx n : Nat} {As : List Value} {r0 : Int32} {u0 : ST} (hM : MI l K2 d1 y b2 n2 ret2 s2 (.ref (kh K2 0) :: As) r0 u0) (hG : GoodIn GT (wsV RL idx y.cls y (.code y b2 n2 ret2 :: GT))) (hR : d1 + 1 ≤ 2048 ∧ 8 + (n2 + 11) + 100 * d1 ≤ 84000) (hd : y.cls ≠ "java/lang/invoke/MethodHandle" ∧ y.cls ≠ "java/lang/invoke/VarHandle" ∧ (parseMethodDescriptor y.desc).map (fun d => d.parameters.length) = some n) (hAs : As.length = n) (hrest : (rest.map fun v => v.category).sum ≤ 8) {ci : Nat} (hb0 : 0 < kN K2) {fs : List Value} {T : u_T} {N : Nat} (hg : kG K2 0 (s2.1 0) (s2.2 0) = .inr (ci, fs)) (hc : vwCl[ci]? = some (y.cls, T, N)) (hce : ce ≤ 600000 ∧ sl ≤ 7302249) {stk : List Value} (hst : stk = As.reverse ++ .ref (kh K2 0) :: rest) (dg : decode cL_law pc = .ok (.invokevirtual idx, 3)) (hq : pc + 3 = q) (k : LG K1 K2 p l e st m b below meth c Q ce sl s1 u0 q lv (.int r0 :: rest)) : LG K1 K2 p l e st m b below meth c Q ce sl s1 s2 pc lv (stk) := by
  subst hq
  subst hst
  intro H locs ls hP1 hP2 hS hl
  have hZh : kZ K2 st H := X.2.2.1.2.2.2.1 st st.heap H hS.1 (fun q h1 _ => hS.2.1 q h1 (Nat.not_le.mpr h1)) X.2.2.2.1.2
  refine va_calli (va_runV (As := As) (rest := rest) X.1 hM (cwV n X.1.2.2.2.2 hG rfl rfl rfl ⟨rfl, hd⟩ hR) ⟨blind_of, va_recv X.2.1.2 hP2 hc (by rw [kW_get hb0, hg]), fun U hU hW => ⟨rfl, by rw [hU]; exact hP2, va_K.moved hW.alike X.2.1.2, X.2.2.1.2, by rw [hU]; exact X.2.2.1.2.2.1 st U H hW hZh⟩⟩ rfl hAs hl.1 rfl (lv_room hrest) dg ⟨hce.1, hce.2⟩) hS (fun q _ h => X.2.2.2.2.1.2.1 q h) (fun q h => X.2.2.2.2.1.2.1 q h) (fun r u t H1 locs1 ht hvm hw hB hz1 hk1 hS => ?_)
  obtain ⟨rfl, rfl⟩ := hw
  have hN := kW_old hP1 hk1 (fun q h1 h2 => X.2.2.2.2.1.2.2 q h1 h2)
  have hO : va_P (kD K2) vwCl (kW K2 u) H1 := by rw [← ht]; exact hB
  exact k H1 locs1 ls hN hO hS hl
theorem lc2_L (X : LX K1 K2 p st m c b L xs) {y : MethodName} {b2 : ByteArray} {n2 : Nat} {ret2 : Option FieldType} {d1 idx n : Nat} {As : List Value} {r0 : Int64} {u0 : ST} (hM : ML l K2 d1 y b2 n2 ret2 s2 (.ref (kh K2 0) :: As) r0 u0) (hG : GoodIn GT (wsV RL idx y.cls y (.code y b2 n2 ret2 :: GT))) (hR : d1 + 1 ≤ 2048 ∧ 8 + (n2 + 11) + 100 * d1 ≤ 84000) (hd : y.cls ≠ "java/lang/invoke/MethodHandle" ∧ y.cls ≠ "java/lang/invoke/VarHandle" ∧ (parseMethodDescriptor y.desc).map (fun d => d.parameters.length) = some n) (hAs : As.length = n) (hrest : (rest.map fun v => v.category).sum ≤ 8) {ci : Nat} (hb0 : 0 < kN K2) {fs : List Value} {T : u_T} {N : Nat} (hg : kG K2 0 (s2.1 0) (s2.2 0) = .inr (ci, fs)) (hc : vwCl[ci]? = some (y.cls, T, N)) (hce : ce ≤ 600000 ∧ sl ≤ 7302249) {stk : List Value} (hst : stk = As.reverse ++ .ref (kh K2 0) :: rest) (dg : decode cL_law pc = .ok (.invokevirtual idx, 3)) (hq : pc + 3 = q) (k : LG K1 K2 p l e st m b below meth c Q ce sl s1 u0 q lv (.long r0 :: rest)) : LG K1 K2 p l e st m b below meth c Q ce sl s1 s2 pc lv (stk) := by
  subst hq
  subst hst
  intro H locs ls hP1 hP2 hS hl
  have hZh : kZ K2 st H := X.2.2.1.2.2.2.1 st st.heap H hS.1 (fun q h1 _ => hS.2.1 q h1 (Nat.not_le.mpr h1)) X.2.2.2.1.2
  refine va_calll (va_runV (As := As) (rest := rest) X.1 hM (cwV n X.1.2.2.2.2 hG rfl rfl rfl ⟨rfl, hd⟩ hR) ⟨blind_of, va_recv X.2.1.2 hP2 hc (by rw [kW_get hb0, hg]), fun U hU hW => ⟨rfl, by rw [hU]; exact hP2, va_K.moved hW.alike X.2.1.2, X.2.2.1.2, by rw [hU]; exact X.2.2.1.2.2.1 st U H hW hZh⟩⟩ rfl hAs hl.1 rfl (lv_room hrest) dg ⟨hce.1, hce.2⟩) hS (fun q _ h => X.2.2.2.2.1.2.1 q h) (fun q h => X.2.2.2.2.1.2.1 q h) (fun r u t H1 locs1 ht hvm hw hB hz1 hk1 hS => ?_)
  obtain ⟨rfl, rfl⟩ := hw
  have hN := kW_old hP1 hk1 (fun q h1 h2 => X.2.2.2.2.1.2.2 q h1 h2)
  have hO : va_P (kD K2) vwCl (kW K2 u) H1 := by rw [← ht]; exact hB
  exact k H1 locs1 ls hN hO hS hl
end LR
theorem gl_X9_state : GoodIn GT (wsV RL 13 RX9 yX9_state (.code yX9_state cX9_state 3 (some .int) :: GT)) := gt_V (gt_of 578 (by decide +kernel) rfl) (gt_of 579 (by decide +kernel) rfl) (gt_of 580 (by decide +kernel) rfl) (gt_of 196 (by decide +kernel) rfl) (gt_of 581 (by decide +kernel) rfl)
theorem gl_X10_state : GoodIn GT (wsV RL 17 RX10 yX10_state (.code yX10_state cX10_state 3 (some .int) :: GT)) := gt_V (gt_of 1451 (by decide +kernel) rfl) (gt_of 1452 (by decide +kernel) rfl) (gt_of 1453 (by decide +kernel) rfl) (gt_of 208 (by decide +kernel) rfl) (gt_of 1454 (by decide +kernel) rfl)
theorem gl_X9_land : GoodIn GT (wsV RL 18 RX9 yX9_land (.code yX9_land cX9_land 3 (some .boolean) :: GT)) := gt_V (gt_of 586 (by decide +kernel) rfl) (gt_of 587 (by decide +kernel) rfl) (gt_of 588 (by decide +kernel) rfl) (gt_of 196 (by decide +kernel) rfl) (gt_of 589 (by decide +kernel) rfl)
theorem gl_X10_land : GoodIn GT (wsV RL 22 RX10 yX10_land (.code yX10_land cX10_land 5 (some .boolean) :: GT)) := gt_V (gt_of 1455 (by decide +kernel) rfl) (gt_of 1456 (by decide +kernel) rfl) (gt_of 1457 (by decide +kernel) rfl) (gt_of 208 (by decide +kernel) rfl) (gt_of 1458 (by decide +kernel) rfl)
theorem gl_X9_set : GoodIn GT (wsV RL 23 RX9 yX9_set (.code yX9_set cX9_set 5 (some .boolean) :: GT)) := gt_V (gt_of 607 (by decide +kernel) rfl) (gt_of 608 (by decide +kernel) rfl) (gt_of 609 (by decide +kernel) rfl) (gt_of 196 (by decide +kernel) rfl) (gt_of 610 (by decide +kernel) rfl)
theorem gl_X10_set : GoodIn GT (wsV RL 27 RX10 yX10_set (.code yX10_set cX10_set 4 (some .boolean) :: GT)) := gt_V (gt_of 1463 (by decide +kernel) rfl) (gt_of 1464 (by decide +kernel) rfl) (gt_of 1465 (by decide +kernel) rfl) (gt_of 208 (by decide +kernel) rfl) (gt_of 1466 (by decide +kernel) rfl)
theorem gl_X9_feed : GoodIn GT (wsV RL 28 RX9 yX9_feed (.code yX9_feed cX9_feed 6 (some .int) :: GT)) := gt_V (gt_of 636 (by decide +kernel) rfl) (gt_of 637 (by decide +kernel) rfl) (gt_of 638 (by decide +kernel) rfl) (gt_of 196 (by decide +kernel) rfl) (gt_of 639 (by decide +kernel) rfl)
theorem gl_X10_feed : GoodIn GT (wsV RL 32 RX10 yX10_feed (.code yX10_feed cX10_feed 6 (some .int) :: GT)) := gt_V (gt_of 1487 (by decide +kernel) rfl) (gt_of 1488 (by decide +kernel) rfl) (gt_of 1489 (by decide +kernel) rfl) (gt_of 208 (by decide +kernel) rfl) (gt_of 1490 (by decide +kernel) rfl)
theorem gl_X9_end : GoodIn GT (wsV RL 33 RX9 yX9_end (.code yX9_end cX9_end 2 (some .boolean) :: GT)) := gt_V (gt_of 649 (by decide +kernel) rfl) (gt_of 650 (by decide +kernel) rfl) (gt_of 651 (by decide +kernel) rfl) (gt_of 196 (by decide +kernel) rfl) (gt_of 652 (by decide +kernel) rfl)
theorem gl_X10_end : GoodIn GT (wsV RL 37 RX10 yX10_end (.code yX10_end cX10_end 2 (some .boolean) :: GT)) := gt_V (gt_of 1495 (by decide +kernel) rfl) (gt_of 1496 (by decide +kernel) rfl) (gt_of 1497 (by decide +kernel) rfl) (gt_of 208 (by decide +kernel) rfl) (gt_of 1498 (by decide +kernel) rfl)
theorem gl_X9_text : GoodIn GT (wsV RL 38 RX9 yX9_text (.code yX9_text cX9_text 3 (some .int) :: GT)) := gt_V (gt_of 653 (by decide +kernel) rfl) (gt_of 654 (by decide +kernel) rfl) (gt_of 655 (by decide +kernel) rfl) (gt_of 196 (by decide +kernel) rfl) (gt_of 656 (by decide +kernel) rfl)
theorem gl_X10_text : GoodIn GT (wsV RL 41 RX10 yX10_text (.code yX10_text cX10_text 3 (some .int) :: GT)) := gt_V (gt_of 1499 (by decide +kernel) rfl) (gt_of 1500 (by decide +kernel) rfl) (gt_of 1501 (by decide +kernel) rfl) (gt_of 208 (by decide +kernel) rfl) (gt_of 1502 (by decide +kernel) rfl)
theorem gl_X9_fault : GoodIn GT (wsV RL 42 RX9 yX9_fault (.code yX9_fault cX9_fault 2 (some .int) :: GT)) := gt_V (gt_of 900 (by decide +kernel) rfl) (gt_of 901 (by decide +kernel) rfl) (gt_of 902 (by decide +kernel) rfl) (gt_of 196 (by decide +kernel) rfl) (gt_of 903 (by decide +kernel) rfl)
theorem gl_X10_fault : GoodIn GT (wsV RL 45 RX10 yX10_fault (.code yX10_fault cX10_fault 2 (some .int) :: GT)) := gt_V (gt_of 1647 (by decide +kernel) rfl) (gt_of 1648 (by decide +kernel) rfl) (gt_of 1649 (by decide +kernel) rfl) (gt_of 208 (by decide +kernel) rfl) (gt_of 1650 (by decide +kernel) rfl)
theorem gl_X9_sow : GoodIn GT (wsV RL 46 RX9 yX9_sow (.code yX9_sow cX9_sow 3 (some .boolean) :: GT)) := gt_V (gt_of 904 (by decide +kernel) rfl) (gt_of 905 (by decide +kernel) rfl) (gt_of 906 (by decide +kernel) rfl) (gt_of 196 (by decide +kernel) rfl) (gt_of 907 (by decide +kernel) rfl)
theorem gl_X10_sow : GoodIn GT (wsV RL 49 RX10 yX10_sow (.code yX10_sow cX10_sow 3 (some .boolean) :: GT)) := gt_V (gt_of 1651 (by decide +kernel) rfl) (gt_of 1652 (by decide +kernel) rfl) (gt_of 1653 (by decide +kernel) rfl) (gt_of 208 (by decide +kernel) rfl) (gt_of 1654 (by decide +kernel) rfl)
theorem gl_X9_weed : GoodIn GT (wsV RL 50 RX9 yX9_weed (.code yX9_weed cX9_weed 2 (some .boolean) :: GT)) := gt_V (gt_of 944 (by decide +kernel) rfl) (gt_of 945 (by decide +kernel) rfl) (gt_of 946 (by decide +kernel) rfl) (gt_of 196 (by decide +kernel) rfl) (gt_of 947 (by decide +kernel) rfl)
theorem gl_X10_weed : GoodIn GT (wsV RL 53 RX10 yX10_weed (.code yX10_weed cX10_weed 2 (some .boolean) :: GT)) := gt_V (gt_of 1671 (by decide +kernel) rfl) (gt_of 1672 (by decide +kernel) rfl) (gt_of 1673 (by decide +kernel) rfl) (gt_of 208 (by decide +kernel) rfl) (gt_of 1674 (by decide +kernel) rfl)
theorem gl_X9_turn : GoodIn GT (wsV RL 54 RX9 yX9_turn (.code yX9_turn cX9_turn 2 (some .boolean) :: GT)) := gt_V (gt_of 959 (by decide +kernel) rfl) (gt_of 960 (by decide +kernel) rfl) (gt_of 961 (by decide +kernel) rfl) (gt_of 196 (by decide +kernel) rfl) (gt_of 962 (by decide +kernel) rfl)
theorem gl_X10_turn : GoodIn GT (wsV RL 57 RX10 yX10_turn (.code yX10_turn cX10_turn 2 (some .boolean) :: GT)) := gt_V (gt_of 1683 (by decide +kernel) rfl) (gt_of 1684 (by decide +kernel) rfl) (gt_of 1685 (by decide +kernel) rfl) (gt_of 208 (by decide +kernel) rfl) (gt_of 1686 (by decide +kernel) rfl)
theorem gl_X9_days : GoodIn GT (wsV RL 58 RX9 yX9_days (.code yX9_days cX9_days 4 (some .int) :: GT)) := gt_V (gt_of 972 (by decide +kernel) rfl) (gt_of 973 (by decide +kernel) rfl) (gt_of 974 (by decide +kernel) rfl) (gt_of 196 (by decide +kernel) rfl) (gt_of 975 (by decide +kernel) rfl)
theorem gl_X10_days : GoodIn GT (wsV RL 61 RX10 yX10_days (.code yX10_days cX10_days 4 (some .int) :: GT)) := gt_V (gt_of 1695 (by decide +kernel) rfl) (gt_of 1696 (by decide +kernel) rfl) (gt_of 1697 (by decide +kernel) rfl) (gt_of 208 (by decide +kernel) rfl) (gt_of 1698 (by decide +kernel) rfl)
theorem gl_X9_at : GoodIn GT (wsV RL 62 RX9 yX9_at (.code yX9_at cX9_at 5 (some .int) :: GT)) := gt_V (gt_of 1078 (by decide +kernel) rfl) (gt_of 1079 (by decide +kernel) rfl) (gt_of 1080 (by decide +kernel) rfl) (gt_of 196 (by decide +kernel) rfl) (gt_of 1081 (by decide +kernel) rfl)
theorem gl_X10_at : GoodIn GT (wsV RL 66 RX10 yX10_at (.code yX10_at cX10_at 3 (some .int) :: GT)) := gt_V (gt_of 1805 (by decide +kernel) rfl) (gt_of 1806 (by decide +kernel) rfl) (gt_of 1807 (by decide +kernel) rfl) (gt_of 208 (by decide +kernel) rfl) (gt_of 1808 (by decide +kernel) rfl)
theorem gl_X9_kind : GoodIn GT (wsV RL 67 RX9 yX9_kind (.code yX9_kind cX9_kind 3 (some .int) :: GT)) := gt_V (gt_of 1087 (by decide +kernel) rfl) (gt_of 1088 (by decide +kernel) rfl) (gt_of 1089 (by decide +kernel) rfl) (gt_of 196 (by decide +kernel) rfl) (gt_of 1090 (by decide +kernel) rfl)
theorem gl_X10_kind : GoodIn GT (wsV RL 70 RX10 yX10_kind (.code yX10_kind cX10_kind 3 (some .int) :: GT)) := gt_V (gt_of 1809 (by decide +kernel) rfl) (gt_of 1810 (by decide +kernel) rfl) (gt_of 1811 (by decide +kernel) rfl) (gt_of 208 (by decide +kernel) rfl) (gt_of 1812 (by decide +kernel) rfl)
theorem gl_X9_cross : GoodIn GT (wsV RL 71 RX9 yX9_cross (.code yX9_cross cX9_cross 3 (some .int) :: GT)) := gt_V (gt_of 1096 (by decide +kernel) rfl) (gt_of 1097 (by decide +kernel) rfl) (gt_of 1098 (by decide +kernel) rfl) (gt_of 196 (by decide +kernel) rfl) (gt_of 1099 (by decide +kernel) rfl)
theorem gl_X10_cross : GoodIn GT (wsV RL 74 RX10 yX10_cross (.code yX10_cross cX10_cross 3 (some .int) :: GT)) := gt_V (gt_of 1817 (by decide +kernel) rfl) (gt_of 1818 (by decide +kernel) rfl) (gt_of 1819 (by decide +kernel) rfl) (gt_of 208 (by decide +kernel) rfl) (gt_of 1820 (by decide +kernel) rfl)
theorem gl_X9_gust : GoodIn GT (wsV RL 75 RX9 yX9_gust (.code yX9_gust cX9_gust 4 (some .int) :: GT)) := gt_V (gt_of 1101 (by decide +kernel) rfl) (gt_of 1102 (by decide +kernel) rfl) (gt_of 1103 (by decide +kernel) rfl) (gt_of 196 (by decide +kernel) rfl) (gt_of 1104 (by decide +kernel) rfl)
theorem gl_X10_gust : GoodIn GT (wsV RL 79 RX10 yX10_gust (.code yX10_gust cX10_gust 4 (some .int) :: GT)) := gt_V (gt_of 1821 (by decide +kernel) rfl) (gt_of 1822 (by decide +kernel) rfl) (gt_of 1823 (by decide +kernel) rfl) (gt_of 208 (by decide +kernel) rfl) (gt_of 1824 (by decide +kernel) rfl)
theorem gl_X9_book : GoodIn GT (wsV RL 80 RX9 yX9_book (.code yX9_book cX9_book 3 (some .int) :: GT)) := gt_V (gt_of 1105 (by decide +kernel) rfl) (gt_of 1106 (by decide +kernel) rfl) (gt_of 1107 (by decide +kernel) rfl) (gt_of 196 (by decide +kernel) rfl) (gt_of 1108 (by decide +kernel) rfl)
theorem gl_X10_book : GoodIn GT (wsV RL 83 RX10 yX10_book (.code yX10_book cX10_book 3 (some .int) :: GT)) := gt_V (gt_of 1825 (by decide +kernel) rfl) (gt_of 1826 (by decide +kernel) rfl) (gt_of 1827 (by decide +kernel) rfl) (gt_of 208 (by decide +kernel) rfl) (gt_of 1828 (by decide +kernel) rfl)
theorem gl_X9_blows : GoodIn GT (wsV RL 84 RX9 yX9_blows (.code yX9_blows cX9_blows 2 (some .long) :: GT)) := gt_V (gt_of 1109 (by decide +kernel) rfl) (gt_of 1110 (by decide +kernel) rfl) (gt_of 1111 (by decide +kernel) rfl) (gt_of 196 (by decide +kernel) rfl) (gt_of 1112 (by decide +kernel) rfl)
theorem gl_X10_blows : GoodIn GT (wsV RL 88 RX10 yX10_blows (.code yX10_blows cX10_blows 4 (some .long) :: GT)) := gt_V (gt_of 1829 (by decide +kernel) rfl) (gt_of 1830 (by decide +kernel) rfl) (gt_of 1831 (by decide +kernel) rfl) (gt_of 208 (by decide +kernel) rfl) (gt_of 1832 (by decide +kernel) rfl)
theorem gl_X9_harms : GoodIn GT (wsV RL 89 RX9 yX9_harms (.code yX9_harms cX9_harms 2 (some .int) :: GT)) := gt_V (gt_of 1125 (by decide +kernel) rfl) (gt_of 1126 (by decide +kernel) rfl) (gt_of 1127 (by decide +kernel) rfl) (gt_of 196 (by decide +kernel) rfl) (gt_of 1128 (by decide +kernel) rfl)
theorem gl_X10_harms : GoodIn GT (wsV RL 92 RX10 yX10_harms (.code yX10_harms cX10_harms 3 (some .int) :: GT)) := gt_V (gt_of 1858 (by decide +kernel) rfl) (gt_of 1859 (by decide +kernel) rfl) (gt_of 1860 (by decide +kernel) rfl) (gt_of 208 (by decide +kernel) rfl) (gt_of 1861 (by decide +kernel) rfl)
theorem gl_X9_meets : GoodIn GT (wsV RL 93 RX9 yX9_meets (.code yX9_meets cX9_meets 2 (some .int) :: GT)) := gt_V (gt_of 1129 (by decide +kernel) rfl) (gt_of 1130 (by decide +kernel) rfl) (gt_of 1131 (by decide +kernel) rfl) (gt_of 196 (by decide +kernel) rfl) (gt_of 1132 (by decide +kernel) rfl)
theorem gl_X10_meets : GoodIn GT (wsV RL 96 RX10 yX10_meets (.code yX10_meets cX10_meets 6 (some .int) :: GT)) := gt_V (gt_of 1862 (by decide +kernel) rfl) (gt_of 1863 (by decide +kernel) rfl) (gt_of 1864 (by decide +kernel) rfl) (gt_of 208 (by decide +kernel) rfl) (gt_of 1865 (by decide +kernel) rfl)
theorem gl_X9_sows : GoodIn GT (wsV RL 97 RX9 yX9_sows (.code yX9_sows cX9_sows 4 (some .int) :: GT)) := gt_V (gt_of 1145 (by decide +kernel) rfl) (gt_of 1146 (by decide +kernel) rfl) (gt_of 1147 (by decide +kernel) rfl) (gt_of 196 (by decide +kernel) rfl) (gt_of 1148 (by decide +kernel) rfl)
theorem gl_X10_sows : GoodIn GT (wsV RL 100 RX10 yX10_sows (.code yX10_sows cX10_sows 7 (some .int) :: GT)) := gt_V (gt_of 1878 (by decide +kernel) rfl) (gt_of 1879 (by decide +kernel) rfl) (gt_of 1880 (by decide +kernel) rfl) (gt_of 208 (by decide +kernel) rfl) (gt_of 1881 (by decide +kernel) rfl)
theorem gl_X9_gets : GoodIn GT (wsV RL 101 RX9 yX9_gets (.code yX9_gets cX9_gets 4 (some .int) :: GT)) := gt_V (gt_of 1156 (by decide +kernel) rfl) (gt_of 1157 (by decide +kernel) rfl) (gt_of 1158 (by decide +kernel) rfl) (gt_of 196 (by decide +kernel) rfl) (gt_of 1159 (by decide +kernel) rfl)
theorem gl_X10_gets : GoodIn GT (wsV RL 104 RX10 yX10_gets (.code yX10_gets cX10_gets 6 (some .int) :: GT)) := gt_V (gt_of 1886 (by decide +kernel) rfl) (gt_of 1887 (by decide +kernel) rfl) (gt_of 1888 (by decide +kernel) rfl) (gt_of 208 (by decide +kernel) rfl) (gt_of 1889 (by decide +kernel) rfl)
theorem gl_X9_weeds : GoodIn GT (wsV RL 107 RX9 yX9_weeds (.code yX9_weeds cX9_weeds 7 (some .long) :: GT)) := gt_V (gt_of 1165 (by decide +kernel) rfl) (gt_of 1166 (by decide +kernel) rfl) (gt_of 1167 (by decide +kernel) rfl) (gt_of 196 (by decide +kernel) rfl) (gt_of 1168 (by decide +kernel) rfl)
theorem gl_X10_weeds : GoodIn GT (wsV RL 111 RX10 yX10_weeds (.code yX10_weeds cX10_weeds 10 (some .long) :: GT)) := gt_V (gt_of 1890 (by decide +kernel) rfl) (gt_of 1891 (by decide +kernel) rfl) (gt_of 1892 (by decide +kernel) rfl) (gt_of 208 (by decide +kernel) rfl) (gt_of 1893 (by decide +kernel) rfl)
theorem gl_X9_have : GoodIn GT (wsV RL 112 RX9 yX9_have (.code yX9_have cX9_have 4 (some .int) :: GT)) := gt_V (gt_of 1196 (by decide +kernel) rfl) (gt_of 1197 (by decide +kernel) rfl) (gt_of 1198 (by decide +kernel) rfl) (gt_of 196 (by decide +kernel) rfl) (gt_of 1199 (by decide +kernel) rfl)
theorem gl_X10_have : GoodIn GT (wsV RL 115 RX10 yX10_have (.code yX10_have cX10_have 3 (some .int) :: GT)) := gt_V (gt_of 1910 (by decide +kernel) rfl) (gt_of 1911 (by decide +kernel) rfl) (gt_of 1912 (by decide +kernel) rfl) (gt_of 208 (by decide +kernel) rfl) (gt_of 1913 (by decide +kernel) rfl)
theorem gl_X9_generations : GoodIn GT (wsV RL 116 RX9 yX9_generations (.code yX9_generations cX9_generations 5 (some .int) :: GT)) := gt_V (gt_of 1209 (by decide +kernel) rfl) (gt_of 1210 (by decide +kernel) rfl) (gt_of 1211 (by decide +kernel) rfl) (gt_of 196 (by decide +kernel) rfl) (gt_of 1212 (by decide +kernel) rfl)
theorem gl_X10_generations : GoodIn GT (wsV RL 119 RX10 yX10_generations (.code yX10_generations cX10_generations 5 (some .int) :: GT)) := gt_V (gt_of 1918 (by decide +kernel) rfl) (gt_of 1919 (by decide +kernel) rfl) (gt_of 1920 (by decide +kernel) rfl) (gt_of 208 (by decide +kernel) rfl) (gt_of 1921 (by decide +kernel) rfl)
theorem gl_X9_who : GoodIn GT (wsV RL 120 RX9 yX9_who (.code yX9_who cX9_who 7 (some .int) :: GT)) := gt_V (gt_of 1213 (by decide +kernel) rfl) (gt_of 1214 (by decide +kernel) rfl) (gt_of 1215 (by decide +kernel) rfl) (gt_of 196 (by decide +kernel) rfl) (gt_of 1216 (by decide +kernel) rfl)
theorem gl_X10_who : GoodIn GT (wsV RL 123 RX10 yX10_who (.code yX10_who cX10_who 4 (some .int) :: GT)) := gt_V (gt_of 1922 (by decide +kernel) rfl) (gt_of 1923 (by decide +kernel) rfl) (gt_of 1924 (by decide +kernel) rfl) (gt_of 208 (by decide +kernel) rfl) (gt_of 1925 (by decide +kernel) rfl)
theorem gl_X9_calm : GoodIn GT (wsV RL 124 RX9 yX9_calm (.code yX9_calm cX9_calm 4 (some .int) :: GT)) := gt_V (gt_of 1217 (by decide +kernel) rfl) (gt_of 1218 (by decide +kernel) rfl) (gt_of 1219 (by decide +kernel) rfl) (gt_of 196 (by decide +kernel) rfl) (gt_of 1220 (by decide +kernel) rfl)
theorem gl_X10_calm : GoodIn GT (wsV RL 127 RX10 yX10_calm (.code yX10_calm cX10_calm 8 (some .int) :: GT)) := gt_V (gt_of 1930 (by decide +kernel) rfl) (gt_of 1931 (by decide +kernel) rfl) (gt_of 1932 (by decide +kernel) rfl) (gt_of 208 (by decide +kernel) rfl) (gt_of 1933 (by decide +kernel) rfl)
theorem gl_X9_good : GoodIn GT (wsV RL 128 RX9 yX9_good (.code yX9_good cX9_good 5 (some .int) :: GT)) := gt_V (gt_of 1225 (by decide +kernel) rfl) (gt_of 1226 (by decide +kernel) rfl) (gt_of 1227 (by decide +kernel) rfl) (gt_of 196 (by decide +kernel) rfl) (gt_of 1228 (by decide +kernel) rfl)
theorem gl_X10_good : GoodIn GT (wsV RL 131 RX10 yX10_good (.code yX10_good cX10_good 3 (some .int) :: GT)) := gt_V (gt_of 1934 (by decide +kernel) rfl) (gt_of 1935 (by decide +kernel) rfl) (gt_of 1936 (by decide +kernel) rfl) (gt_of 208 (by decide +kernel) rfl) (gt_of 1937 (by decide +kernel) rfl)
theorem gl_X9_open : GoodIn GT (wsV RL 132 RX9 yX9_open (.code yX9_open cX9_open 10 (some .int) :: GT)) := gt_V (gt_of 1234 (by decide +kernel) rfl) (gt_of 1235 (by decide +kernel) rfl) (gt_of 1236 (by decide +kernel) rfl) (gt_of 196 (by decide +kernel) rfl) (gt_of 1237 (by decide +kernel) rfl)
theorem gl_X10_open : GoodIn GT (wsV RL 135 RX10 yX10_open (.code yX10_open cX10_open 9 (some .int) :: GT)) := gt_V (gt_of 1944 (by decide +kernel) rfl) (gt_of 1945 (by decide +kernel) rfl) (gt_of 1946 (by decide +kernel) rfl) (gt_of 208 (by decide +kernel) rfl) (gt_of 1947 (by decide +kernel) rfl)
theorem gl_X9_game : GoodIn GT (wsV RL 136 RX9 yX9_game (.code yX9_game cX9_game 5 (some .int) :: GT)) := gt_V (gt_of 1239 (by decide +kernel) rfl) (gt_of 1240 (by decide +kernel) rfl) (gt_of 1241 (by decide +kernel) rfl) (gt_of 196 (by decide +kernel) rfl) (gt_of 1242 (by decide +kernel) rfl)
theorem gl_X10_game : GoodIn GT (wsV RL 139 RX10 yX10_game (.code yX10_game cX10_game 4 (some .int) :: GT)) := gt_V (gt_of 1949 (by decide +kernel) rfl) (gt_of 1950 (by decide +kernel) rfl) (gt_of 1951 (by decide +kernel) rfl) (gt_of 208 (by decide +kernel) rfl) (gt_of 1952 (by decide +kernel) rfl)
theorem gl_X9_undo : GoodIn GT (wsV RL 140 RX9 yX9_undo (.code yX9_undo cX9_undo 1 (some .boolean) :: GT)) := gt_V (gt_of 1249 (by decide +kernel) rfl) (gt_of 1250 (by decide +kernel) rfl) (gt_of 1251 (by decide +kernel) rfl) (gt_of 196 (by decide +kernel) rfl) (gt_of 1252 (by decide +kernel) rfl)
theorem gl_X10_undo : GoodIn GT (wsV RL 144 RX10 yX10_undo (.code yX10_undo cX10_undo 2 (some .boolean) :: GT)) := gt_V (gt_of 1447 (by decide +kernel) rfl) (gt_of 1448 (by decide +kernel) rfl) (gt_of 1449 (by decide +kernel) rfl) (gt_of 208 (by decide +kernel) rfl) (gt_of 1450 (by decide +kernel) rfl)
theorem gl_X9_image : GoodIn GT (wsV RL 145 RX9 yX9_image (.code yX9_image cX9_image 2 (some .boolean) :: GT)) := gt_V (gt_of 1261 (by decide +kernel) rfl) (gt_of 1262 (by decide +kernel) rfl) (gt_of 1263 (by decide +kernel) rfl) (gt_of 196 (by decide +kernel) rfl) (gt_of 1264 (by decide +kernel) rfl)
theorem gl_X10_image : GoodIn GT (wsV RL 149 RX10 yX10_image (.code yX10_image cX10_image 3 (some .boolean) :: GT)) := gt_V (gt_of 1957 (by decide +kernel) rfl) (gt_of 1958 (by decide +kernel) rfl) (gt_of 1959 (by decide +kernel) rfl) (gt_of 208 (by decide +kernel) rfl) (gt_of 1960 (by decide +kernel) rfl)
theorem gl_X9_look : GoodIn GT (wsV RL 150 RX9 yX9_look (.code yX9_look cX9_look 2 (some .int) :: GT)) := gt_V (gt_of 1273 (by decide +kernel) rfl) (gt_of 1274 (by decide +kernel) rfl) (gt_of 1275 (by decide +kernel) rfl) (gt_of 196 (by decide +kernel) rfl) (gt_of 1276 (by decide +kernel) rfl)
theorem gl_X10_look : GoodIn GT (wsV RL 153 RX10 yX10_look (.code yX10_look cX10_look 2 (some .int) :: GT)) := gt_V (gt_of 1973 (by decide +kernel) rfl) (gt_of 1974 (by decide +kernel) rfl) (gt_of 1975 (by decide +kernel) rfl) (gt_of 208 (by decide +kernel) rfl) (gt_of 1976 (by decide +kernel) rfl)
def Sim_state (Rel : ST → ST → Prop) : Prop := ∀ (sc sm : ST) (x1 : Int32), Rel sc sm → ∃ (r : Int32) (sc' sm' : ST), (C_X9_state sc x1 = (r, sc')) ∧ (M_state sm x1 = (r, sm')) ∧ Rel sc' sm'
def Sim_land (Rel : ST → ST → Prop) : Prop := ∀ (sc sm : ST) (x1 : Int32) (x2 : Int32), Rel sc sm → ∃ (r : Int32) (sc' sm' : ST), (C_X9_land sc x1 x2 = some (r, sc')) ∧ (M_land sm x1 x2 = some (r, sm')) ∧ Rel sc' sm'
def Sim_set (Rel : ST → ST → Prop) : Prop := ∀ (sc sm : ST) (x1 : Int32) (x2 : Int32) (x3 : Int32), Rel sc sm → ∃ (r : Int32) (sc' sm' : ST), (C_X9_set sc x1 x2 x3 = some (r, sc')) ∧ (M_set sm x1 x2 x3 = some (r, sm')) ∧ Rel sc' sm'
def Sim_feed (Rel : ST → ST → Prop) : Prop := ∀ (sc sm : ST) (x1 : Int32) (x2 : Int32) (x3 : Int32) (x4 : Int32) (x5 : Int32), Rel sc sm → ∃ (r : Int32) (sc' sm' : ST), (C_X9_feed sc x1 x2 x3 x4 x5 = some (r, sc')) ∧ (M_feed sm x1 x2 x3 x4 x5 = some (r, sm')) ∧ Rel sc' sm'
def Sim_end (Rel : ST → ST → Prop) : Prop := ∀ (sc sm : ST) (x1 : Int32), Rel sc sm → ∃ (r : Int32) (sc' sm' : ST), (C_X9_end sc x1 = (r, sc')) ∧ (M_end sm x1 = (r, sm')) ∧ Rel sc' sm'
def Sim_text (Rel : ST → ST → Prop) : Prop := ∀ (sc sm : ST) (x1 : Int32), Rel sc sm → ∃ (r : Int32) (sc' sm' : ST), (C_X9_text sc x1 = some (r, sc')) ∧ (M_text sm x1 = some (r, sm')) ∧ Rel sc' sm'
def Sim_fault (Rel : ST → ST → Prop) : Prop := ∀ (sc sm : ST) (x1 : Int32), Rel sc sm → ∃ (r : Int32) (sc' sm' : ST), (C_X9_fault sc x1 = r ∧ sc' = sc) ∧ (M_fault sm x1 = (r, sm')) ∧ Rel sc' sm'
def Sim_sow (Rel : ST → ST → Prop) : Prop := ∀ (sc sm : ST) (x1 : Int32) (x2 : Int32), Rel sc sm → ∃ (r : Int32) (sc' sm' : ST), (C_X9_sow sc x1 x2 = some (r, sc')) ∧ (M_sow sm x1 x2 = some (r, sm')) ∧ Rel sc' sm'
def Sim_weed (Rel : ST → ST → Prop) : Prop := ∀ (sc sm : ST) (x1 : Int32), Rel sc sm → ∃ (r : Int32) (sc' sm' : ST), (C_X9_weed sc x1 = some (r, sc')) ∧ (M_weed sm x1 = some (r, sm')) ∧ Rel sc' sm'
def Sim_turn (Rel : ST → ST → Prop) : Prop := ∀ (sc sm : ST) (x1 : Int32), Rel sc sm → ∃ (r : Int32) (sc' sm' : ST), (C_X9_turn sc x1 = some (r, sc')) ∧ (M_turn sm x1 = some (r, sm')) ∧ Rel sc' sm'
def Sim_days (Rel : ST → ST → Prop) : Prop := ∀ (sc sm : ST) (x1 : Int32), Rel sc sm → ∃ (r : Int32) (sc' sm' : ST), (C_X9_days sc x1 = some (r, sc')) ∧ (M_days sm x1 = some (r, sm')) ∧ Rel sc' sm'
def Sim_at (Rel : ST → ST → Prop) : Prop := ∀ (sc sm : ST) (x1 : Int32) (x2 : Int32), Rel sc sm → ∃ (r : Int32) (sc' sm' : ST), (C_X9_at sc x1 x2 = some (r, sc')) ∧ (M_at sm x1 x2 = some (r, sm')) ∧ Rel sc' sm'
def Sim_kind (Rel : ST → ST → Prop) : Prop := ∀ (sc sm : ST) (x1 : Int32) (x2 : Int32), Rel sc sm → ∃ (r : Int32) (sc' sm' : ST), (C_X9_kind sc x1 x2 = some r ∧ sc' = sc) ∧ (M_kind sm x1 x2 = some (r, sm')) ∧ Rel sc' sm'
def Sim_cross (Rel : ST → ST → Prop) : Prop := ∀ (sc sm : ST) (x1 : Int32) (x2 : Int32), Rel sc sm → ∃ (r : Int32) (sc' sm' : ST), (C_X9_cross sc x1 x2 = some r ∧ sc' = sc) ∧ (M_cross sm x1 x2 = some (r, sm')) ∧ Rel sc' sm'
def Sim_gust (Rel : ST → ST → Prop) : Prop := ∀ (sc sm : ST) (x1 : Int32) (x2 : Int32) (x3 : Int32), Rel sc sm → ∃ (r : Int32) (sc' sm' : ST), (C_X9_gust sc x1 x2 x3 = some (r, sc')) ∧ (M_gust sm x1 x2 x3 = some (r, sm')) ∧ Rel sc' sm'
def Sim_book (Rel : ST → ST → Prop) : Prop := ∀ (sc sm : ST) (x1 : Int32) (x2 : Int32), Rel sc sm → ∃ (r : Int32) (sc' sm' : ST), (C_X9_book sc x1 x2 = some r ∧ sc' = sc) ∧ (M_book sm x1 x2 = some (r, sm')) ∧ Rel sc' sm'
def Sim_blows (Rel : ST → ST → Prop) : Prop := ∀ (sc sm : ST) (x1 : Int32), Rel sc sm → ∃ (r : Int64) (sc' sm' : ST), (C_X9_blows sc x1 = some (r, sc')) ∧ (M_blows sm x1 = some (r, sm')) ∧ Rel sc' sm'
def Sim_harms (Rel : ST → ST → Prop) : Prop := ∀ (sc sm : ST) (x1 : Int32), Rel sc sm → ∃ (r : Int32) (sc' sm' : ST), (C_X9_harms sc x1 = some (r, sc')) ∧ (M_harms sm x1 = some (r, sm')) ∧ Rel sc' sm'
def Sim_meets (Rel : ST → ST → Prop) : Prop := ∀ (sc sm : ST) (x1 : Int32), Rel sc sm → ∃ (r : Int32) (sc' sm' : ST), (C_X9_meets sc x1 = some (r, sc')) ∧ (M_meets sm x1 = some (r, sm')) ∧ Rel sc' sm'
def Sim_sows (Rel : ST → ST → Prop) : Prop := ∀ (sc sm : ST) (x1 : Int32) (x2 : Int32), Rel sc sm → ∃ (r : Int32) (sc' sm' : ST), (C_X9_sows sc x1 x2 = some (r, sc')) ∧ (M_sows sm x1 x2 = some (r, sm')) ∧ Rel sc' sm'
def Sim_gets (Rel : ST → ST → Prop) : Prop := ∀ (sc sm : ST) (x1 : Int32) (x2 : Int32) (x3 : Int32), Rel sc sm → ∃ (r : Int32) (sc' sm' : ST), (C_X9_gets sc x1 x2 x3 = some (r, sc')) ∧ (M_gets sm x1 x2 x3 = some (r, sm')) ∧ Rel sc' sm'
def Sim_weeds (Rel : ST → ST → Prop) : Prop := ∀ (sc sm : ST) (x1 : Int64) (x2 : Int32) (x3 : Int32), Rel sc sm → ∃ (r : Int64) (sc' sm' : ST), (C_X9_weeds sc x1 x2 x3 = some (r, sc')) ∧ (M_weeds sm x1 x2 x3 = some (r, sm')) ∧ Rel sc' sm'
def Sim_have (Rel : ST → ST → Prop) : Prop := ∀ (sc sm : ST) (x1 : Int32), Rel sc sm → ∃ (r : Int32) (sc' sm' : ST), (C_X9_have sc x1 = some r ∧ sc' = sc) ∧ (M_have sm x1 = some (r, sm')) ∧ Rel sc' sm'
def Sim_generations (Rel : ST → ST → Prop) : Prop := ∀ (sc sm : ST) (x1 : Int32) (x2 : Int32), Rel sc sm → ∃ (r : Int32) (sc' sm' : ST), (C_X9_generations sc x1 x2 = some r ∧ sc' = sc) ∧ (M_generations sm x1 x2 = some (r, sm')) ∧ Rel sc' sm'
def Sim_who (Rel : ST → ST → Prop) : Prop := ∀ (sc sm : ST) (x1 : Int32) (x2 : Int32) (x3 : Int32), Rel sc sm → ∃ (r : Int32) (sc' sm' : ST), (C_X9_who sc x1 x2 x3 = some (r, sc')) ∧ (M_who sm x1 x2 x3 = some (r, sm')) ∧ Rel sc' sm'
def Sim_calm (Rel : ST → ST → Prop) : Prop := ∀ (sc sm : ST) (x1 : Int32) (x2 : Int32) (x3 : Int32), Rel sc sm → ∃ (r : Int32) (sc' sm' : ST), (C_X9_calm sc x1 x2 x3 = some (r, sc')) ∧ (M_calm sm x1 x2 x3 = some (r, sm')) ∧ Rel sc' sm'
def Sim_good (Rel : ST → ST → Prop) : Prop := ∀ (sc sm : ST) (x1 : Int32) (x2 : Int32), Rel sc sm → ∃ (r : Int32) (sc' sm' : ST), (C_X9_good sc x1 x2 = some r ∧ sc' = sc) ∧ (M_good sm x1 x2 = some (r, sm')) ∧ Rel sc' sm'
def Sim_open (Rel : ST → ST → Prop) : Prop := ∀ (sc sm : ST) (x1 : Int32) (x2 : Int32), Rel sc sm → ∃ (r : Int32) (sc' sm' : ST), (C_X9_open sc x1 x2 = some r ∧ sc' = sc) ∧ (M_open sm x1 x2 = some (r, sm')) ∧ Rel sc' sm'
def Sim_game (Rel : ST → ST → Prop) : Prop := ∀ (sc sm : ST) (x1 : Int32), Rel sc sm → ∃ (r : Int32) (sc' sm' : ST), (C_X9_game sc x1 = some r ∧ sc' = sc) ∧ (M_game sm x1 = some (r, sm')) ∧ Rel sc' sm'
def Sim_undo (Rel : ST → ST → Prop) : Prop := ∀ (sc sm : ST), Rel sc sm → ∃ (r : Int32) (sc' sm' : ST), (C_X9_undo sc = some (r, sc')) ∧ (M_undo sm = some (r, sm')) ∧ Rel sc' sm'
def Sim_image (Rel : ST → ST → Prop) : Prop := ∀ (sc sm : ST) (x1 : Int32), Rel sc sm → (x1 = 0 ∨ x1 = 1) → ∃ (r : Int32) (sc' sm' : ST), (C_X9_image sc x1 = some (r, sc')) ∧ (M_image sm x1 = some (r, sm')) ∧ Rel sc' sm'
def Sim_look (Rel : ST → ST → Prop) : Prop := ∀ (sc sm : ST) (x1 : Int32), Rel sc sm → ∃ (r : Int32) (sc' sm' : ST), (C_X9_look sc x1 = r ∧ sc' = sc) ∧ (M_look sm x1 = some (r, sm')) ∧ Rel sc' sm'
theorem law_lt {L j : Nat} (hL : L ≤ 3072) (h : L < 6 * j + 6) (hj : 6 * j ≤ L + 6 := by omega) : Int32.ofNat L - 6 < nI (6 * j) := by
  rw [Int32.lt_iff_toInt_lt]
  have e1 : (Int32.ofNat L - 6).toInt = (L : Int) - 6 := by
    have h1 : (Int32.ofNat L).toInt = (L : Int) := nI_toInt (n := L) (by omega)
    rw [Int32.toInt_sub, h1]
    show ((L : Int) - 6).bmod (2 ^ 32) = _
    rw [Int.bmod_def]
    omega
  rw [e1, nI_toInt (by omega)]
  omega
theorem law_ge {L j : Nat} (hL : L ≤ 3072) (hj : 6 * j ≤ L + 6) (h : ¬ Int32.ofNat L - 6 < nI (6 * j)) : 6 * j + 6 ≤ L := by
  apply Nat.le_of_not_lt
  intro q
  exact h (law_lt hL (by omega))
theorem law_in {L j k : Nat} (hL : L ≤ 3072) (hj : 6 * j + 6 ≤ L) (hk : k < 6) : vp_in (nI (6 * j + k)) L := vp_in_nI (by omega) (by omega)
theorem law_in1 {L j k : Nat} (hL : L ≤ 3072) (hj : 6 * j + 6 ≤ L) (hk : k < 6) : vp_in (nI (6 * j) + nI k) L := by
  rw [nI_add]
  exact law_in hL hj hk
theorem law_inc (j : Nat) : nI (6 * j) + Int32.ofInt 6 = nI (6 * (j + 1)) := by
  show nI (6 * j) + nI 6 = _
  rw [nI_add]
  rfl
