/-! Decode rows. Written by wip/draft/gen_names.py -/
theorem zdW_law_0 : decode code 0 = .ok (.new 7, 3) := by decide +kernel
theorem zdW_law_3 : decode code 3 = .ok (.dup, 1) := by decide +kernel
theorem zdW_law_4 : decode code 4 = .ok (.invokespecial 9, 3) := by decide +kernel
theorem zdW_law_7 : decode code 7 = .ok (.astore_n 1, 1) := by decide +kernel
theorem zdW_law_8 : decode code 8 = .ok (.new 10, 3) := by decide +kernel
theorem zdW_law_11 : decode code 11 = .ok (.dup, 1) := by decide +kernel
theorem zdW_law_12 : decode code 12 = .ok (.invokespecial 12, 3) := by decide +kernel
theorem zdW_law_15 : decode code 15 = .ok (.astore_n 2, 1) := by decide +kernel
theorem zdW_law_16 : decode code 16 = .ok (.iconst 0, 1) := by decide +kernel
theorem zdW_law_17 : decode code 17 = .ok (.istore_n 3, 1) := by decide +kernel
theorem zdW_law_18 : decode code 18 = .ok (.iload_n 3, 1) := by decide +kernel
theorem zdW_law_19 : decode code 19 = .ok (.aload_n 0, 1) := by decide +kernel
theorem zdW_law_20 : decode code 20 = .ok (.arraylength, 1) := by decide +kernel
theorem zdW_law_21 : decode code 21 = .ok (.iconst 4, 1) := by decide +kernel
theorem zdW_law_22 : decode code 22 = .ok (.isub, 1) := by decide +kernel
theorem zdW_law_23 : decode code 23 = .ok (.if_icmp .gt 490, 3) := by decide +kernel
theorem zdW_law_26 : decode code 26 = .ok (.aload_n 0, 1) := by decide +kernel
theorem zdW_law_27 : decode code 27 = .ok (.iload_n 3, 1) := by decide +kernel
theorem zdW_law_28 : decode code 28 = .ok (.iaload, 1) := by decide +kernel
theorem zdW_law_29 : decode code 29 = .ok (.bipush 31, 2) := by decide +kernel
theorem zdW_law_31 : decode code 31 = .ok (.iand, 1) := by decide +kernel
theorem zdW_law_32 : decode code 32 = .ok (.tableswitch 475 0 17 #[88, 113, 124, 147, 171, 234, 267, 280, 293, 306, 329, 352, 375, 400, 413, 426, 439, 462], 88) := by decide +kernel
theorem zdW_law_120 : decode code 120 = .ok (.aload_n 1, 1) := by decide +kernel
theorem zdW_law_121 : decode code 121 = .ok (.aload_n 0, 1) := by decide +kernel
theorem zdW_law_122 : decode code 122 = .ok (.iload_n 3, 1) := by decide +kernel
theorem zdW_law_123 : decode code 123 = .ok (.iconst 1, 1) := by decide +kernel
theorem zdW_law_124 : decode code 124 = .ok (.iadd, 1) := by decide +kernel
theorem zdW_law_125 : decode code 125 = .ok (.iaload, 1) := by decide +kernel
theorem zdW_law_126 : decode code 126 = .ok (.i2c, 1) := by decide +kernel
theorem zdW_law_127 : decode code 127 = .ok (.invokevirtual 13, 3) := by decide +kernel
theorem zdW_law_130 : decode code 130 = .ok (.aload_n 2, 1) := by decide +kernel
theorem zdW_law_131 : decode code 131 = .ok (.aload_n 0, 1) := by decide +kernel
theorem zdW_law_132 : decode code 132 = .ok (.iload_n 3, 1) := by decide +kernel
theorem zdW_law_133 : decode code 133 = .ok (.iconst 1, 1) := by decide +kernel
theorem zdW_law_134 : decode code 134 = .ok (.iadd, 1) := by decide +kernel
theorem zdW_law_135 : decode code 135 = .ok (.iaload, 1) := by decide +kernel
theorem zdW_law_136 : decode code 136 = .ok (.i2c, 1) := by decide +kernel
theorem zdW_law_137 : decode code 137 = .ok (.invokevirtual 17, 3) := by decide +kernel
theorem zdW_law_140 : decode code 140 = .ok (.if_icmp .eq 367, 3) := by decide +kernel
theorem zdW_law_143 : decode code 143 = .ok (.iconst 0, 1) := by decide +kernel
theorem zdW_law_144 : decode code 144 = .ok (.ireturn, 1) := by decide +kernel
theorem zdW_law_145 : decode code 145 = .ok (.aload_n 1, 1) := by decide +kernel
theorem zdW_law_146 : decode code 146 = .ok (.invokevirtual 18, 3) := by decide +kernel
theorem zdW_law_149 : decode code 149 = .ok (.aload_n 2, 1) := by decide +kernel
theorem zdW_law_150 : decode code 150 = .ok (.invokevirtual 21, 3) := by decide +kernel
theorem zdW_law_153 : decode code 153 = .ok (.goto 354, 3) := by decide +kernel
theorem zdW_law_156 : decode code 156 = .ok (.aload_n 1, 1) := by decide +kernel
theorem zdW_law_157 : decode code 157 = .ok (.aload_n 0, 1) := by decide +kernel
theorem zdW_law_158 : decode code 158 = .ok (.iload_n 3, 1) := by decide +kernel
theorem zdW_law_159 : decode code 159 = .ok (.iconst 1, 1) := by decide +kernel
theorem zdW_law_160 : decode code 160 = .ok (.iadd, 1) := by decide +kernel
theorem zdW_law_161 : decode code 161 = .ok (.iaload, 1) := by decide +kernel
theorem zdW_law_162 : decode code 162 = .ok (.invokevirtual 22, 3) := by decide +kernel
theorem zdW_law_165 : decode code 165 = .ok (.aload_n 2, 1) := by decide +kernel
theorem zdW_law_166 : decode code 166 = .ok (.aload_n 0, 1) := by decide +kernel
theorem zdW_law_167 : decode code 167 = .ok (.iload_n 3, 1) := by decide +kernel
theorem zdW_law_168 : decode code 168 = .ok (.iconst 1, 1) := by decide +kernel
theorem zdW_law_169 : decode code 169 = .ok (.iadd, 1) := by decide +kernel
theorem zdW_law_170 : decode code 170 = .ok (.iaload, 1) := by decide +kernel
theorem zdW_law_171 : decode code 171 = .ok (.invokevirtual 26, 3) := by decide +kernel
theorem zdW_law_174 : decode code 174 = .ok (.if_icmp .eq 333, 3) := by decide +kernel
theorem zdW_law_177 : decode code 177 = .ok (.iconst 0, 1) := by decide +kernel
theorem zdW_law_178 : decode code 178 = .ok (.ireturn, 1) := by decide +kernel
theorem zdW_law_179 : decode code 179 = .ok (.aload_n 1, 1) := by decide +kernel
theorem zdW_law_180 : decode code 180 = .ok (.aload_n 0, 1) := by decide +kernel
theorem zdW_law_181 : decode code 181 = .ok (.iload_n 3, 1) := by decide +kernel
theorem zdW_law_182 : decode code 182 = .ok (.iconst 1, 1) := by decide +kernel
theorem zdW_law_183 : decode code 183 = .ok (.iadd, 1) := by decide +kernel
theorem zdW_law_184 : decode code 184 = .ok (.iaload, 1) := by decide +kernel
theorem zdW_law_185 : decode code 185 = .ok (.invokevirtual 27, 3) := by decide +kernel
theorem zdW_law_188 : decode code 188 = .ok (.aload_n 2, 1) := by decide +kernel
theorem zdW_law_189 : decode code 189 = .ok (.aload_n 0, 1) := by decide +kernel
theorem zdW_law_190 : decode code 190 = .ok (.iload_n 3, 1) := by decide +kernel
theorem zdW_law_191 : decode code 191 = .ok (.iconst 1, 1) := by decide +kernel
theorem zdW_law_192 : decode code 192 = .ok (.iadd, 1) := by decide +kernel
theorem zdW_law_193 : decode code 193 = .ok (.iaload, 1) := by decide +kernel
theorem zdW_law_194 : decode code 194 = .ok (.invokevirtual 31, 3) := by decide +kernel
theorem zdW_law_197 : decode code 197 = .ok (.lcmp, 1) := by decide +kernel
theorem zdW_law_198 : decode code 198 = .ok (.ifCond .eq 309, 3) := by decide +kernel
theorem zdW_law_201 : decode code 201 = .ok (.iconst 0, 1) := by decide +kernel
theorem zdW_law_202 : decode code 202 = .ok (.ireturn, 1) := by decide +kernel
theorem zdW_law_203 : decode code 203 = .ok (.aload_n 1, 1) := by decide +kernel
theorem zdW_law_204 : decode code 204 = .ok (.aload_n 0, 1) := by decide +kernel
theorem zdW_law_205 : decode code 205 = .ok (.iload_n 3, 1) := by decide +kernel
theorem zdW_law_206 : decode code 206 = .ok (.iconst 1, 1) := by decide +kernel
theorem zdW_law_207 : decode code 207 = .ok (.iadd, 1) := by decide +kernel
theorem zdW_law_208 : decode code 208 = .ok (.iaload, 1) := by decide +kernel
theorem zdW_law_209 : decode code 209 = .ok (.aload_n 0, 1) := by decide +kernel
theorem zdW_law_210 : decode code 210 = .ok (.iload_n 3, 1) := by decide +kernel
theorem zdW_law_211 : decode code 211 = .ok (.iconst 2, 1) := by decide +kernel
theorem zdW_law_212 : decode code 212 = .ok (.iadd, 1) := by decide +kernel
theorem zdW_law_213 : decode code 213 = .ok (.iaload, 1) := by decide +kernel
theorem zdW_law_214 : decode code 214 = .ok (.i2l, 1) := by decide +kernel
theorem zdW_law_215 : decode code 215 = .ok (.bipush 32, 2) := by decide +kernel
theorem zdW_law_217 : decode code 217 = .ok (.lshl, 1) := by decide +kernel
theorem zdW_law_218 : decode code 218 = .ok (.aload_n 0, 1) := by decide +kernel
theorem zdW_law_219 : decode code 219 = .ok (.iload_n 3, 1) := by decide +kernel
theorem zdW_law_220 : decode code 220 = .ok (.iconst 3, 1) := by decide +kernel
theorem zdW_law_221 : decode code 221 = .ok (.iadd, 1) := by decide +kernel
theorem zdW_law_222 : decode code 222 = .ok (.iaload, 1) := by decide +kernel
theorem zdW_law_223 : decode code 223 = .ok (.i2l, 1) := by decide +kernel
theorem zdW_law_224 : decode code 224 = .ok (.ldc2_w 32, 3) := by decide +kernel
theorem zdW_law_227 : decode code 227 = .ok (.land, 1) := by decide +kernel
theorem zdW_law_228 : decode code 228 = .ok (.lor, 1) := by decide +kernel
theorem zdW_law_229 : decode code 229 = .ok (.invokevirtual 34, 3) := by decide +kernel
theorem zdW_law_232 : decode code 232 = .ok (.aload_n 2, 1) := by decide +kernel
theorem zdW_law_233 : decode code 233 = .ok (.aload_n 0, 1) := by decide +kernel
theorem zdW_law_234 : decode code 234 = .ok (.iload_n 3, 1) := by decide +kernel
theorem zdW_law_235 : decode code 235 = .ok (.iconst 1, 1) := by decide +kernel
theorem zdW_law_236 : decode code 236 = .ok (.iadd, 1) := by decide +kernel
theorem zdW_law_237 : decode code 237 = .ok (.iaload, 1) := by decide +kernel
theorem zdW_law_238 : decode code 238 = .ok (.aload_n 0, 1) := by decide +kernel
theorem zdW_law_239 : decode code 239 = .ok (.iload_n 3, 1) := by decide +kernel
theorem zdW_law_240 : decode code 240 = .ok (.iconst 2, 1) := by decide +kernel
theorem zdW_law_241 : decode code 241 = .ok (.iadd, 1) := by decide +kernel
theorem zdW_law_242 : decode code 242 = .ok (.iaload, 1) := by decide +kernel
theorem zdW_law_243 : decode code 243 = .ok (.i2l, 1) := by decide +kernel
theorem zdW_law_244 : decode code 244 = .ok (.bipush 32, 2) := by decide +kernel
theorem zdW_law_246 : decode code 246 = .ok (.lshl, 1) := by decide +kernel
theorem zdW_law_247 : decode code 247 = .ok (.aload_n 0, 1) := by decide +kernel
theorem zdW_law_248 : decode code 248 = .ok (.iload_n 3, 1) := by decide +kernel
theorem zdW_law_249 : decode code 249 = .ok (.iconst 3, 1) := by decide +kernel
theorem zdW_law_250 : decode code 250 = .ok (.iadd, 1) := by decide +kernel
theorem zdW_law_251 : decode code 251 = .ok (.iaload, 1) := by decide +kernel
theorem zdW_law_252 : decode code 252 = .ok (.i2l, 1) := by decide +kernel
theorem zdW_law_253 : decode code 253 = .ok (.ldc2_w 32, 3) := by decide +kernel
theorem zdW_law_256 : decode code 256 = .ok (.land, 1) := by decide +kernel
theorem zdW_law_257 : decode code 257 = .ok (.lor, 1) := by decide +kernel
theorem zdW_law_258 : decode code 258 = .ok (.invokevirtual 38, 3) := by decide +kernel
theorem zdW_law_261 : decode code 261 = .ok (.if_icmp .eq 246, 3) := by decide +kernel
theorem zdW_law_264 : decode code 264 = .ok (.iconst 0, 1) := by decide +kernel
theorem zdW_law_265 : decode code 265 = .ok (.ireturn, 1) := by decide +kernel
theorem zdW_law_266 : decode code 266 = .ok (.aload_n 1, 1) := by decide +kernel
theorem zdW_law_267 : decode code 267 = .ok (.aload_n 0, 1) := by decide +kernel
theorem zdW_law_268 : decode code 268 = .ok (.iload_n 3, 1) := by decide +kernel
theorem zdW_law_269 : decode code 269 = .ok (.iconst 1, 1) := by decide +kernel
theorem zdW_law_270 : decode code 270 = .ok (.iadd, 1) := by decide +kernel
theorem zdW_law_271 : decode code 271 = .ok (.iaload, 1) := by decide +kernel
theorem zdW_law_272 : decode code 272 = .ok (.aload_n 0, 1) := by decide +kernel
theorem zdW_law_273 : decode code 273 = .ok (.iload_n 3, 1) := by decide +kernel
theorem zdW_law_274 : decode code 274 = .ok (.iconst 2, 1) := by decide +kernel
theorem zdW_law_275 : decode code 275 = .ok (.iadd, 1) := by decide +kernel
theorem zdW_law_276 : decode code 276 = .ok (.iaload, 1) := by decide +kernel
theorem zdW_law_277 : decode code 277 = .ok (.invokevirtual 39, 3) := by decide +kernel
theorem zdW_law_280 : decode code 280 = .ok (.aload_n 2, 1) := by decide +kernel
theorem zdW_law_281 : decode code 281 = .ok (.aload_n 0, 1) := by decide +kernel
theorem zdW_law_282 : decode code 282 = .ok (.iload_n 3, 1) := by decide +kernel
theorem zdW_law_283 : decode code 283 = .ok (.iconst 1, 1) := by decide +kernel
theorem zdW_law_284 : decode code 284 = .ok (.iadd, 1) := by decide +kernel
theorem zdW_law_285 : decode code 285 = .ok (.iaload, 1) := by decide +kernel
theorem zdW_law_286 : decode code 286 = .ok (.aload_n 0, 1) := by decide +kernel
theorem zdW_law_287 : decode code 287 = .ok (.iload_n 3, 1) := by decide +kernel
theorem zdW_law_288 : decode code 288 = .ok (.iconst 2, 1) := by decide +kernel
theorem zdW_law_289 : decode code 289 = .ok (.iadd, 1) := by decide +kernel
theorem zdW_law_290 : decode code 290 = .ok (.iaload, 1) := by decide +kernel
theorem zdW_law_291 : decode code 291 = .ok (.invokevirtual 43, 3) := by decide +kernel
theorem zdW_law_294 : decode code 294 = .ok (.if_icmp .eq 213, 3) := by decide +kernel
theorem zdW_law_297 : decode code 297 = .ok (.iconst 0, 1) := by decide +kernel
theorem zdW_law_298 : decode code 298 = .ok (.ireturn, 1) := by decide +kernel
theorem zdW_law_299 : decode code 299 = .ok (.aload_n 1, 1) := by decide +kernel
theorem zdW_law_300 : decode code 300 = .ok (.invokevirtual 44, 3) := by decide +kernel
theorem zdW_law_303 : decode code 303 = .ok (.aload_n 2, 1) := by decide +kernel
theorem zdW_law_304 : decode code 304 = .ok (.invokevirtual 48, 3) := by decide +kernel
theorem zdW_law_307 : decode code 307 = .ok (.if_icmp .eq 200, 3) := by decide +kernel
theorem zdW_law_310 : decode code 310 = .ok (.iconst 0, 1) := by decide +kernel
theorem zdW_law_311 : decode code 311 = .ok (.ireturn, 1) := by decide +kernel
theorem zdW_law_312 : decode code 312 = .ok (.aload_n 1, 1) := by decide +kernel
theorem zdW_law_313 : decode code 313 = .ok (.invokevirtual 49, 3) := by decide +kernel
theorem zdW_law_316 : decode code 316 = .ok (.aload_n 2, 1) := by decide +kernel
theorem zdW_law_317 : decode code 317 = .ok (.invokevirtual 53, 3) := by decide +kernel
theorem zdW_law_320 : decode code 320 = .ok (.if_icmp .eq 187, 3) := by decide +kernel
theorem zdW_law_323 : decode code 323 = .ok (.iconst 0, 1) := by decide +kernel
theorem zdW_law_324 : decode code 324 = .ok (.ireturn, 1) := by decide +kernel
theorem zdW_law_325 : decode code 325 = .ok (.aload_n 1, 1) := by decide +kernel
theorem zdW_law_326 : decode code 326 = .ok (.invokevirtual 54, 3) := by decide +kernel
theorem zdW_law_329 : decode code 329 = .ok (.aload_n 2, 1) := by decide +kernel
theorem zdW_law_330 : decode code 330 = .ok (.invokevirtual 57, 3) := by decide +kernel
theorem zdW_law_333 : decode code 333 = .ok (.if_icmp .eq 174, 3) := by decide +kernel
theorem zdW_law_336 : decode code 336 = .ok (.iconst 0, 1) := by decide +kernel
theorem zdW_law_337 : decode code 337 = .ok (.ireturn, 1) := by decide +kernel
theorem zdW_law_338 : decode code 338 = .ok (.aload_n 1, 1) := by decide +kernel
theorem zdW_law_339 : decode code 339 = .ok (.aload_n 0, 1) := by decide +kernel
theorem zdW_law_340 : decode code 340 = .ok (.iload_n 3, 1) := by decide +kernel
theorem zdW_law_341 : decode code 341 = .ok (.iconst 1, 1) := by decide +kernel
theorem zdW_law_342 : decode code 342 = .ok (.iadd, 1) := by decide +kernel
theorem zdW_law_343 : decode code 343 = .ok (.iaload, 1) := by decide +kernel
theorem zdW_law_344 : decode code 344 = .ok (.invokevirtual 58, 3) := by decide +kernel
theorem zdW_law_347 : decode code 347 = .ok (.aload_n 2, 1) := by decide +kernel
theorem zdW_law_348 : decode code 348 = .ok (.aload_n 0, 1) := by decide +kernel
theorem zdW_law_349 : decode code 349 = .ok (.iload_n 3, 1) := by decide +kernel
theorem zdW_law_350 : decode code 350 = .ok (.iconst 1, 1) := by decide +kernel
theorem zdW_law_351 : decode code 351 = .ok (.iadd, 1) := by decide +kernel
theorem zdW_law_352 : decode code 352 = .ok (.iaload, 1) := by decide +kernel
theorem zdW_law_353 : decode code 353 = .ok (.invokevirtual 62, 3) := by decide +kernel
theorem zdW_law_356 : decode code 356 = .ok (.if_icmp .eq 151, 3) := by decide +kernel
theorem zdW_law_359 : decode code 359 = .ok (.iconst 0, 1) := by decide +kernel
theorem zdW_law_360 : decode code 360 = .ok (.ireturn, 1) := by decide +kernel
theorem zdW_law_361 : decode code 361 = .ok (.aload_n 1, 1) := by decide +kernel
theorem zdW_law_362 : decode code 362 = .ok (.aload_n 0, 1) := by decide +kernel
theorem zdW_law_363 : decode code 363 = .ok (.iload_n 3, 1) := by decide +kernel
theorem zdW_law_364 : decode code 364 = .ok (.iconst 1, 1) := by decide +kernel
theorem zdW_law_365 : decode code 365 = .ok (.iadd, 1) := by decide +kernel
theorem zdW_law_366 : decode code 366 = .ok (.iaload, 1) := by decide +kernel
theorem zdW_law_367 : decode code 367 = .ok (.invokevirtual 63, 3) := by decide +kernel
theorem zdW_law_370 : decode code 370 = .ok (.aload_n 2, 1) := by decide +kernel
theorem zdW_law_371 : decode code 371 = .ok (.aload_n 0, 1) := by decide +kernel
theorem zdW_law_372 : decode code 372 = .ok (.iload_n 3, 1) := by decide +kernel
theorem zdW_law_373 : decode code 373 = .ok (.iconst 1, 1) := by decide +kernel
theorem zdW_law_374 : decode code 374 = .ok (.iadd, 1) := by decide +kernel
theorem zdW_law_375 : decode code 375 = .ok (.iaload, 1) := by decide +kernel
theorem zdW_law_376 : decode code 376 = .ok (.invokevirtual 66, 3) := by decide +kernel
theorem zdW_law_379 : decode code 379 = .ok (.if_icmp .eq 128, 3) := by decide +kernel
theorem zdW_law_382 : decode code 382 = .ok (.iconst 0, 1) := by decide +kernel
theorem zdW_law_383 : decode code 383 = .ok (.ireturn, 1) := by decide +kernel
theorem zdW_law_384 : decode code 384 = .ok (.aload_n 1, 1) := by decide +kernel
theorem zdW_law_385 : decode code 385 = .ok (.aload_n 0, 1) := by decide +kernel
theorem zdW_law_386 : decode code 386 = .ok (.iload_n 3, 1) := by decide +kernel
theorem zdW_law_387 : decode code 387 = .ok (.iconst 1, 1) := by decide +kernel
theorem zdW_law_388 : decode code 388 = .ok (.iadd, 1) := by decide +kernel
theorem zdW_law_389 : decode code 389 = .ok (.iaload, 1) := by decide +kernel
theorem zdW_law_390 : decode code 390 = .ok (.invokevirtual 67, 3) := by decide +kernel
theorem zdW_law_393 : decode code 393 = .ok (.aload_n 2, 1) := by decide +kernel
theorem zdW_law_394 : decode code 394 = .ok (.aload_n 0, 1) := by decide +kernel
theorem zdW_law_395 : decode code 395 = .ok (.iload_n 3, 1) := by decide +kernel
theorem zdW_law_396 : decode code 396 = .ok (.iconst 1, 1) := by decide +kernel
theorem zdW_law_397 : decode code 397 = .ok (.iadd, 1) := by decide +kernel
theorem zdW_law_398 : decode code 398 = .ok (.iaload, 1) := by decide +kernel
theorem zdW_law_399 : decode code 399 = .ok (.invokevirtual 70, 3) := by decide +kernel
theorem zdW_law_402 : decode code 402 = .ok (.if_icmp .eq 105, 3) := by decide +kernel
theorem zdW_law_405 : decode code 405 = .ok (.iconst 0, 1) := by decide +kernel
theorem zdW_law_406 : decode code 406 = .ok (.ireturn, 1) := by decide +kernel
theorem zdW_law_407 : decode code 407 = .ok (.aload_n 1, 1) := by decide +kernel
theorem zdW_law_408 : decode code 408 = .ok (.aload_n 0, 1) := by decide +kernel
theorem zdW_law_409 : decode code 409 = .ok (.iload_n 3, 1) := by decide +kernel
theorem zdW_law_410 : decode code 410 = .ok (.iconst 1, 1) := by decide +kernel
theorem zdW_law_411 : decode code 411 = .ok (.iadd, 1) := by decide +kernel
theorem zdW_law_412 : decode code 412 = .ok (.iaload, 1) := by decide +kernel
theorem zdW_law_413 : decode code 413 = .ok (.i2c, 1) := by decide +kernel
theorem zdW_law_414 : decode code 414 = .ok (.invokevirtual 71, 3) := by decide +kernel
theorem zdW_law_417 : decode code 417 = .ok (.aload_n 2, 1) := by decide +kernel
theorem zdW_law_418 : decode code 418 = .ok (.aload_n 0, 1) := by decide +kernel
theorem zdW_law_419 : decode code 419 = .ok (.iload_n 3, 1) := by decide +kernel
theorem zdW_law_420 : decode code 420 = .ok (.iconst 1, 1) := by decide +kernel
theorem zdW_law_421 : decode code 421 = .ok (.iadd, 1) := by decide +kernel
theorem zdW_law_422 : decode code 422 = .ok (.iaload, 1) := by decide +kernel
theorem zdW_law_423 : decode code 423 = .ok (.i2c, 1) := by decide +kernel
theorem zdW_law_424 : decode code 424 = .ok (.invokevirtual 74, 3) := by decide +kernel
theorem zdW_law_427 : decode code 427 = .ok (.if_icmp .eq 80, 3) := by decide +kernel
theorem zdW_law_430 : decode code 430 = .ok (.iconst 0, 1) := by decide +kernel
theorem zdW_law_431 : decode code 431 = .ok (.ireturn, 1) := by decide +kernel
theorem zdW_law_432 : decode code 432 = .ok (.aload_n 1, 1) := by decide +kernel
theorem zdW_law_433 : decode code 433 = .ok (.invokevirtual 75, 3) := by decide +kernel
theorem zdW_law_436 : decode code 436 = .ok (.aload_n 2, 1) := by decide +kernel
theorem zdW_law_437 : decode code 437 = .ok (.invokevirtual 78, 3) := by decide +kernel
theorem zdW_law_440 : decode code 440 = .ok (.if_icmp .eq 67, 3) := by decide +kernel
theorem zdW_law_443 : decode code 443 = .ok (.iconst 0, 1) := by decide +kernel
theorem zdW_law_444 : decode code 444 = .ok (.ireturn, 1) := by decide +kernel
theorem zdW_law_445 : decode code 445 = .ok (.aload_n 1, 1) := by decide +kernel
theorem zdW_law_446 : decode code 446 = .ok (.invokevirtual 79, 3) := by decide +kernel
theorem zdW_law_449 : decode code 449 = .ok (.aload_n 2, 1) := by decide +kernel
theorem zdW_law_450 : decode code 450 = .ok (.invokevirtual 82, 3) := by decide +kernel
theorem zdW_law_453 : decode code 453 = .ok (.if_icmp .eq 54, 3) := by decide +kernel
theorem zdW_law_456 : decode code 456 = .ok (.iconst 0, 1) := by decide +kernel
theorem zdW_law_457 : decode code 457 = .ok (.ireturn, 1) := by decide +kernel
theorem zdW_law_458 : decode code 458 = .ok (.aload_n 1, 1) := by decide +kernel
theorem zdW_law_459 : decode code 459 = .ok (.invokevirtual 83, 3) := by decide +kernel
theorem zdW_law_462 : decode code 462 = .ok (.aload_n 2, 1) := by decide +kernel
theorem zdW_law_463 : decode code 463 = .ok (.invokevirtual 86, 3) := by decide +kernel
theorem zdW_law_466 : decode code 466 = .ok (.if_icmp .eq 41, 3) := by decide +kernel
theorem zdW_law_469 : decode code 469 = .ok (.iconst 0, 1) := by decide +kernel
theorem zdW_law_470 : decode code 470 = .ok (.ireturn, 1) := by decide +kernel
theorem zdW_law_471 : decode code 471 = .ok (.aload_n 1, 1) := by decide +kernel
theorem zdW_law_472 : decode code 472 = .ok (.aload_n 0, 1) := by decide +kernel
theorem zdW_law_473 : decode code 473 = .ok (.iload_n 3, 1) := by decide +kernel
theorem zdW_law_474 : decode code 474 = .ok (.iconst 1, 1) := by decide +kernel
theorem zdW_law_475 : decode code 475 = .ok (.iadd, 1) := by decide +kernel
theorem zdW_law_476 : decode code 476 = .ok (.iaload, 1) := by decide +kernel
theorem zdW_law_477 : decode code 477 = .ok (.invokevirtual 87, 3) := by decide +kernel
theorem zdW_law_480 : decode code 480 = .ok (.aload_n 2, 1) := by decide +kernel
theorem zdW_law_481 : decode code 481 = .ok (.aload_n 0, 1) := by decide +kernel
theorem zdW_law_482 : decode code 482 = .ok (.iload_n 3, 1) := by decide +kernel
theorem zdW_law_483 : decode code 483 = .ok (.iconst 1, 1) := by decide +kernel
theorem zdW_law_484 : decode code 484 = .ok (.iadd, 1) := by decide +kernel
theorem zdW_law_485 : decode code 485 = .ok (.iaload, 1) := by decide +kernel
theorem zdW_law_486 : decode code 486 = .ok (.invokevirtual 90, 3) := by decide +kernel
theorem zdW_law_489 : decode code 489 = .ok (.if_icmp .eq 18, 3) := by decide +kernel
theorem zdW_law_492 : decode code 492 = .ok (.iconst 0, 1) := by decide +kernel
theorem zdW_law_493 : decode code 493 = .ok (.ireturn, 1) := by decide +kernel
theorem zdW_law_494 : decode code 494 = .ok (.aload_n 1, 1) := by decide +kernel
theorem zdW_law_495 : decode code 495 = .ok (.invokevirtual 91, 3) := by decide +kernel
theorem zdW_law_498 : decode code 498 = .ok (.aload_n 2, 1) := by decide +kernel
theorem zdW_law_499 : decode code 499 = .ok (.invokevirtual 94, 3) := by decide +kernel
theorem zdW_law_502 : decode code 502 = .ok (.if_icmp .eq 5, 3) := by decide +kernel
theorem zdW_law_505 : decode code 505 = .ok (.iconst 0, 1) := by decide +kernel
theorem zdW_law_506 : decode code 506 = .ok (.ireturn, 1) := by decide +kernel
theorem zdW_law_507 : decode code 507 = .ok (.iinc 3 4, 3) := by decide +kernel
theorem zdW_law_510 : decode code 510 = .ok (.goto (-492), 3) := by decide +kernel
theorem zdW_law_513 : decode code 513 = .ok (.iconst 1, 1) := by decide +kernel
theorem zdW_law_514 : decode code 514 = .ok (.ireturn, 1) := by decide +kernel
