theorem dL_0 : decode code 0 = .ok (.new 7, 3) := by decide +kernel
theorem dL_3 : decode code 3 = .ok (.dup, 1) := by decide +kernel
theorem dL_4 : decode code 4 = .ok (.invokespecial 9, 3) := by decide +kernel
theorem dL_7 : decode code 7 = .ok (.astore_n 1, 1) := by decide +kernel
theorem dL_8 : decode code 8 = .ok (.new 10, 3) := by decide +kernel
theorem dL_11 : decode code 11 = .ok (.dup, 1) := by decide +kernel
theorem dL_12 : decode code 12 = .ok (.invokespecial 12, 3) := by decide +kernel
theorem dL_15 : decode code 15 = .ok (.astore_n 2, 1) := by decide +kernel
theorem dL_16 : decode code 16 = .ok (.iconst 0, 1) := by decide +kernel
theorem dL_17 : decode code 17 = .ok (.istore_n 3, 1) := by decide +kernel
theorem dL_18 : decode code 18 = .ok (.iload_n 3, 1) := by decide +kernel
theorem dL_19 : decode code 19 = .ok (.aload_n 0, 1) := by decide +kernel
theorem dL_20 : decode code 20 = .ok (.arraylength, 1) := by decide +kernel
theorem dL_21 : decode code 21 = .ok (.iconst 4, 1) := by decide +kernel
theorem dL_22 : decode code 22 = .ok (.isub, 1) := by decide +kernel
theorem dL_23 : decode code 23 = .ok (.if_icmp .gt 582, 3) := by decide +kernel
theorem dL_26 : decode code 26 = .ok (.aload_n 0, 1) := by decide +kernel
theorem dL_27 : decode code 27 = .ok (.iload_n 3, 1) := by decide +kernel
theorem dL_28 : decode code 28 = .ok (.iaload, 1) := by decide +kernel
theorem dL_29 : decode code 29 = .ok (.bipush 15, 2) := by decide +kernel
theorem dL_31 : decode code 31 = .ok (.iand, 1) := by decide +kernel
theorem dL_32 : decode code 32 = .ok (.tableswitch 567 0 14 #[76, 99, 148, 181, 214, 277, 300, 343, 376, 409, 422, 435, 468, 511, 544], 76) := by decide +kernel
theorem dL_108 : decode code 108 = .ok (.aload_n 1, 1) := by decide +kernel
theorem dL_109 : decode code 109 = .ok (.aload_n 0, 1) := by decide +kernel
theorem dL_110 : decode code 110 = .ok (.iload_n 3, 1) := by decide +kernel
theorem dL_111 : decode code 111 = .ok (.iconst 1, 1) := by decide +kernel
theorem dL_112 : decode code 112 = .ok (.iadd, 1) := by decide +kernel
theorem dL_113 : decode code 113 = .ok (.iaload, 1) := by decide +kernel
theorem dL_114 : decode code 114 = .ok (.invokevirtual 13, 3) := by decide +kernel
theorem dL_117 : decode code 117 = .ok (.aload_n 2, 1) := by decide +kernel
theorem dL_118 : decode code 118 = .ok (.aload_n 0, 1) := by decide +kernel
theorem dL_119 : decode code 119 = .ok (.iload_n 3, 1) := by decide +kernel
theorem dL_120 : decode code 120 = .ok (.iconst 1, 1) := by decide +kernel
theorem dL_121 : decode code 121 = .ok (.iadd, 1) := by decide +kernel
theorem dL_122 : decode code 122 = .ok (.iaload, 1) := by decide +kernel
theorem dL_123 : decode code 123 = .ok (.invokevirtual 17, 3) := by decide +kernel
theorem dL_126 : decode code 126 = .ok (.if_icmp .eq 473, 3) := by decide +kernel
theorem dL_129 : decode code 129 = .ok (.iconst 0, 1) := by decide +kernel
theorem dL_130 : decode code 130 = .ok (.ireturn, 1) := by decide +kernel
theorem dL_131 : decode code 131 = .ok (.aload_n 1, 1) := by decide +kernel
theorem dL_132 : decode code 132 = .ok (.aload_n 0, 1) := by decide +kernel
theorem dL_133 : decode code 133 = .ok (.iload_n 3, 1) := by decide +kernel
theorem dL_134 : decode code 134 = .ok (.iconst 1, 1) := by decide +kernel
theorem dL_135 : decode code 135 = .ok (.iadd, 1) := by decide +kernel
theorem dL_136 : decode code 136 = .ok (.iaload, 1) := by decide +kernel
theorem dL_137 : decode code 137 = .ok (.aload_n 0, 1) := by decide +kernel
theorem dL_138 : decode code 138 = .ok (.iload_n 3, 1) := by decide +kernel
theorem dL_139 : decode code 139 = .ok (.iconst 2, 1) := by decide +kernel
theorem dL_140 : decode code 140 = .ok (.iadd, 1) := by decide +kernel
theorem dL_141 : decode code 141 = .ok (.iaload, 1) := by decide +kernel
theorem dL_142 : decode code 142 = .ok (.ifCond .eq 7, 3) := by decide +kernel
theorem dL_145 : decode code 145 = .ok (.iconst 1, 1) := by decide +kernel
theorem dL_146 : decode code 146 = .ok (.goto 4, 3) := by decide +kernel
theorem dL_149 : decode code 149 = .ok (.iconst 0, 1) := by decide +kernel
theorem dL_150 : decode code 150 = .ok (.invokevirtual 18, 3) := by decide +kernel
theorem dL_153 : decode code 153 = .ok (.aload_n 2, 1) := by decide +kernel
theorem dL_154 : decode code 154 = .ok (.aload_n 0, 1) := by decide +kernel
theorem dL_155 : decode code 155 = .ok (.iload_n 3, 1) := by decide +kernel
theorem dL_156 : decode code 156 = .ok (.iconst 1, 1) := by decide +kernel
theorem dL_157 : decode code 157 = .ok (.iadd, 1) := by decide +kernel
theorem dL_158 : decode code 158 = .ok (.iaload, 1) := by decide +kernel
theorem dL_159 : decode code 159 = .ok (.aload_n 0, 1) := by decide +kernel
theorem dL_160 : decode code 160 = .ok (.iload_n 3, 1) := by decide +kernel
theorem dL_161 : decode code 161 = .ok (.iconst 2, 1) := by decide +kernel
theorem dL_162 : decode code 162 = .ok (.iadd, 1) := by decide +kernel
theorem dL_163 : decode code 163 = .ok (.iaload, 1) := by decide +kernel
theorem dL_164 : decode code 164 = .ok (.ifCond .eq 7, 3) := by decide +kernel
theorem dL_167 : decode code 167 = .ok (.iconst 1, 1) := by decide +kernel
theorem dL_168 : decode code 168 = .ok (.goto 4, 3) := by decide +kernel
theorem dL_171 : decode code 171 = .ok (.iconst 0, 1) := by decide +kernel
theorem dL_172 : decode code 172 = .ok (.invokevirtual 22, 3) := by decide +kernel
theorem dL_175 : decode code 175 = .ok (.if_icmp .eq 424, 3) := by decide +kernel
theorem dL_178 : decode code 178 = .ok (.iconst 0, 1) := by decide +kernel
theorem dL_179 : decode code 179 = .ok (.ireturn, 1) := by decide +kernel
theorem dL_180 : decode code 180 = .ok (.aload_n 1, 1) := by decide +kernel
theorem dL_181 : decode code 181 = .ok (.aload_n 0, 1) := by decide +kernel
theorem dL_182 : decode code 182 = .ok (.iload_n 3, 1) := by decide +kernel
theorem dL_183 : decode code 183 = .ok (.iconst 1, 1) := by decide +kernel
theorem dL_184 : decode code 184 = .ok (.iadd, 1) := by decide +kernel
theorem dL_185 : decode code 185 = .ok (.iaload, 1) := by decide +kernel
theorem dL_186 : decode code 186 = .ok (.aload_n 0, 1) := by decide +kernel
theorem dL_187 : decode code 187 = .ok (.iload_n 3, 1) := by decide +kernel
theorem dL_188 : decode code 188 = .ok (.iconst 2, 1) := by decide +kernel
theorem dL_189 : decode code 189 = .ok (.iadd, 1) := by decide +kernel
theorem dL_190 : decode code 190 = .ok (.iaload, 1) := by decide +kernel
theorem dL_191 : decode code 191 = .ok (.invokevirtual 23, 3) := by decide +kernel
theorem dL_194 : decode code 194 = .ok (.aload_n 2, 1) := by decide +kernel
theorem dL_195 : decode code 195 = .ok (.aload_n 0, 1) := by decide +kernel
theorem dL_196 : decode code 196 = .ok (.iload_n 3, 1) := by decide +kernel
theorem dL_197 : decode code 197 = .ok (.iconst 1, 1) := by decide +kernel
theorem dL_198 : decode code 198 = .ok (.iadd, 1) := by decide +kernel
theorem dL_199 : decode code 199 = .ok (.iaload, 1) := by decide +kernel
theorem dL_200 : decode code 200 = .ok (.aload_n 0, 1) := by decide +kernel
theorem dL_201 : decode code 201 = .ok (.iload_n 3, 1) := by decide +kernel
theorem dL_202 : decode code 202 = .ok (.iconst 2, 1) := by decide +kernel
theorem dL_203 : decode code 203 = .ok (.iadd, 1) := by decide +kernel
theorem dL_204 : decode code 204 = .ok (.iaload, 1) := by decide +kernel
theorem dL_205 : decode code 205 = .ok (.invokevirtual 27, 3) := by decide +kernel
theorem dL_208 : decode code 208 = .ok (.if_icmp .eq 391, 3) := by decide +kernel
theorem dL_211 : decode code 211 = .ok (.iconst 0, 1) := by decide +kernel
theorem dL_212 : decode code 212 = .ok (.ireturn, 1) := by decide +kernel
theorem dL_213 : decode code 213 = .ok (.aload_n 1, 1) := by decide +kernel
theorem dL_214 : decode code 214 = .ok (.aload_n 0, 1) := by decide +kernel
theorem dL_215 : decode code 215 = .ok (.iload_n 3, 1) := by decide +kernel
theorem dL_216 : decode code 216 = .ok (.iconst 1, 1) := by decide +kernel
theorem dL_217 : decode code 217 = .ok (.iadd, 1) := by decide +kernel
theorem dL_218 : decode code 218 = .ok (.iaload, 1) := by decide +kernel
theorem dL_219 : decode code 219 = .ok (.aload_n 0, 1) := by decide +kernel
theorem dL_220 : decode code 220 = .ok (.iload_n 3, 1) := by decide +kernel
theorem dL_221 : decode code 221 = .ok (.iconst 2, 1) := by decide +kernel
theorem dL_222 : decode code 222 = .ok (.iadd, 1) := by decide +kernel
theorem dL_223 : decode code 223 = .ok (.iaload, 1) := by decide +kernel
theorem dL_224 : decode code 224 = .ok (.invokevirtual 28, 3) := by decide +kernel
theorem dL_227 : decode code 227 = .ok (.aload_n 2, 1) := by decide +kernel
theorem dL_228 : decode code 228 = .ok (.aload_n 0, 1) := by decide +kernel
theorem dL_229 : decode code 229 = .ok (.iload_n 3, 1) := by decide +kernel
theorem dL_230 : decode code 230 = .ok (.iconst 1, 1) := by decide +kernel
theorem dL_231 : decode code 231 = .ok (.iadd, 1) := by decide +kernel
theorem dL_232 : decode code 232 = .ok (.iaload, 1) := by decide +kernel
theorem dL_233 : decode code 233 = .ok (.aload_n 0, 1) := by decide +kernel
theorem dL_234 : decode code 234 = .ok (.iload_n 3, 1) := by decide +kernel
theorem dL_235 : decode code 235 = .ok (.iconst 2, 1) := by decide +kernel
theorem dL_236 : decode code 236 = .ok (.iadd, 1) := by decide +kernel
theorem dL_237 : decode code 237 = .ok (.iaload, 1) := by decide +kernel
theorem dL_238 : decode code 238 = .ok (.invokevirtual 31, 3) := by decide +kernel
theorem dL_241 : decode code 241 = .ok (.if_icmp .eq 358, 3) := by decide +kernel
theorem dL_244 : decode code 244 = .ok (.iconst 0, 1) := by decide +kernel
theorem dL_245 : decode code 245 = .ok (.ireturn, 1) := by decide +kernel
theorem dL_246 : decode code 246 = .ok (.aload_n 1, 1) := by decide +kernel
theorem dL_247 : decode code 247 = .ok (.aload_n 0, 1) := by decide +kernel
theorem dL_248 : decode code 248 = .ok (.iload_n 3, 1) := by decide +kernel
theorem dL_249 : decode code 249 = .ok (.iconst 1, 1) := by decide +kernel
theorem dL_250 : decode code 250 = .ok (.iadd, 1) := by decide +kernel
theorem dL_251 : decode code 251 = .ok (.iaload, 1) := by decide +kernel
theorem dL_252 : decode code 252 = .ok (.aload_n 0, 1) := by decide +kernel
theorem dL_253 : decode code 253 = .ok (.iload_n 3, 1) := by decide +kernel
theorem dL_254 : decode code 254 = .ok (.iconst 2, 1) := by decide +kernel
theorem dL_255 : decode code 255 = .ok (.iadd, 1) := by decide +kernel
theorem dL_256 : decode code 256 = .ok (.iaload, 1) := by decide +kernel
theorem dL_257 : decode code 257 = .ok (.i2l, 1) := by decide +kernel
theorem dL_258 : decode code 258 = .ok (.bipush 32, 2) := by decide +kernel
theorem dL_260 : decode code 260 = .ok (.lshl, 1) := by decide +kernel
theorem dL_261 : decode code 261 = .ok (.aload_n 0, 1) := by decide +kernel
theorem dL_262 : decode code 262 = .ok (.iload_n 3, 1) := by decide +kernel
theorem dL_263 : decode code 263 = .ok (.iconst 3, 1) := by decide +kernel
theorem dL_264 : decode code 264 = .ok (.iadd, 1) := by decide +kernel
theorem dL_265 : decode code 265 = .ok (.iaload, 1) := by decide +kernel
theorem dL_266 : decode code 266 = .ok (.i2l, 1) := by decide +kernel
theorem dL_267 : decode code 267 = .ok (.ldc2_w 32, 3) := by decide +kernel
theorem dL_270 : decode code 270 = .ok (.land, 1) := by decide +kernel
theorem dL_271 : decode code 271 = .ok (.lor, 1) := by decide +kernel
theorem dL_272 : decode code 272 = .ok (.invokevirtual 34, 3) := by decide +kernel
theorem dL_275 : decode code 275 = .ok (.aload_n 2, 1) := by decide +kernel
theorem dL_276 : decode code 276 = .ok (.aload_n 0, 1) := by decide +kernel
theorem dL_277 : decode code 277 = .ok (.iload_n 3, 1) := by decide +kernel
theorem dL_278 : decode code 278 = .ok (.iconst 1, 1) := by decide +kernel
theorem dL_279 : decode code 279 = .ok (.iadd, 1) := by decide +kernel
theorem dL_280 : decode code 280 = .ok (.iaload, 1) := by decide +kernel
theorem dL_281 : decode code 281 = .ok (.aload_n 0, 1) := by decide +kernel
theorem dL_282 : decode code 282 = .ok (.iload_n 3, 1) := by decide +kernel
theorem dL_283 : decode code 283 = .ok (.iconst 2, 1) := by decide +kernel
theorem dL_284 : decode code 284 = .ok (.iadd, 1) := by decide +kernel
theorem dL_285 : decode code 285 = .ok (.iaload, 1) := by decide +kernel
theorem dL_286 : decode code 286 = .ok (.i2l, 1) := by decide +kernel
theorem dL_287 : decode code 287 = .ok (.bipush 32, 2) := by decide +kernel
theorem dL_289 : decode code 289 = .ok (.lshl, 1) := by decide +kernel
theorem dL_290 : decode code 290 = .ok (.aload_n 0, 1) := by decide +kernel
theorem dL_291 : decode code 291 = .ok (.iload_n 3, 1) := by decide +kernel
theorem dL_292 : decode code 292 = .ok (.iconst 3, 1) := by decide +kernel
theorem dL_293 : decode code 293 = .ok (.iadd, 1) := by decide +kernel
theorem dL_294 : decode code 294 = .ok (.iaload, 1) := by decide +kernel
theorem dL_295 : decode code 295 = .ok (.i2l, 1) := by decide +kernel
theorem dL_296 : decode code 296 = .ok (.ldc2_w 32, 3) := by decide +kernel
theorem dL_299 : decode code 299 = .ok (.land, 1) := by decide +kernel
theorem dL_300 : decode code 300 = .ok (.lor, 1) := by decide +kernel
theorem dL_301 : decode code 301 = .ok (.invokevirtual 38, 3) := by decide +kernel
theorem dL_304 : decode code 304 = .ok (.if_icmp .eq 295, 3) := by decide +kernel
theorem dL_307 : decode code 307 = .ok (.iconst 0, 1) := by decide +kernel
theorem dL_308 : decode code 308 = .ok (.ireturn, 1) := by decide +kernel
theorem dL_309 : decode code 309 = .ok (.aload_n 1, 1) := by decide +kernel
theorem dL_310 : decode code 310 = .ok (.aload_n 0, 1) := by decide +kernel
theorem dL_311 : decode code 311 = .ok (.iload_n 3, 1) := by decide +kernel
theorem dL_312 : decode code 312 = .ok (.iconst 1, 1) := by decide +kernel
theorem dL_313 : decode code 313 = .ok (.iadd, 1) := by decide +kernel
theorem dL_314 : decode code 314 = .ok (.iaload, 1) := by decide +kernel
theorem dL_315 : decode code 315 = .ok (.invokevirtual 39, 3) := by decide +kernel
theorem dL_318 : decode code 318 = .ok (.aload_n 2, 1) := by decide +kernel
theorem dL_319 : decode code 319 = .ok (.aload_n 0, 1) := by decide +kernel
theorem dL_320 : decode code 320 = .ok (.iload_n 3, 1) := by decide +kernel
theorem dL_321 : decode code 321 = .ok (.iconst 1, 1) := by decide +kernel
theorem dL_322 : decode code 322 = .ok (.iadd, 1) := by decide +kernel
theorem dL_323 : decode code 323 = .ok (.iaload, 1) := by decide +kernel
theorem dL_324 : decode code 324 = .ok (.invokevirtual 42, 3) := by decide +kernel
theorem dL_327 : decode code 327 = .ok (.if_icmp .eq 272, 3) := by decide +kernel
theorem dL_330 : decode code 330 = .ok (.iconst 0, 1) := by decide +kernel
theorem dL_331 : decode code 331 = .ok (.ireturn, 1) := by decide +kernel
theorem dL_332 : decode code 332 = .ok (.aload_n 1, 1) := by decide +kernel
theorem dL_333 : decode code 333 = .ok (.aload_n 0, 1) := by decide +kernel
theorem dL_334 : decode code 334 = .ok (.iload_n 3, 1) := by decide +kernel
theorem dL_335 : decode code 335 = .ok (.iconst 1, 1) := by decide +kernel
theorem dL_336 : decode code 336 = .ok (.iadd, 1) := by decide +kernel
theorem dL_337 : decode code 337 = .ok (.iaload, 1) := by decide +kernel
theorem dL_338 : decode code 338 = .ok (.aload_n 0, 1) := by decide +kernel
theorem dL_339 : decode code 339 = .ok (.iload_n 3, 1) := by decide +kernel
theorem dL_340 : decode code 340 = .ok (.iconst 2, 1) := by decide +kernel
theorem dL_341 : decode code 341 = .ok (.iadd, 1) := by decide +kernel
theorem dL_342 : decode code 342 = .ok (.iaload, 1) := by decide +kernel
theorem dL_343 : decode code 343 = .ok (.aload_n 0, 1) := by decide +kernel
theorem dL_344 : decode code 344 = .ok (.iload_n 3, 1) := by decide +kernel
theorem dL_345 : decode code 345 = .ok (.iconst 3, 1) := by decide +kernel
theorem dL_346 : decode code 346 = .ok (.iadd, 1) := by decide +kernel
theorem dL_347 : decode code 347 = .ok (.iaload, 1) := by decide +kernel
theorem dL_348 : decode code 348 = .ok (.invokevirtual 43, 3) := by decide +kernel
theorem dL_351 : decode code 351 = .ok (.aload_n 2, 1) := by decide +kernel
theorem dL_352 : decode code 352 = .ok (.aload_n 0, 1) := by decide +kernel
theorem dL_353 : decode code 353 = .ok (.iload_n 3, 1) := by decide +kernel
theorem dL_354 : decode code 354 = .ok (.iconst 1, 1) := by decide +kernel
theorem dL_355 : decode code 355 = .ok (.iadd, 1) := by decide +kernel
theorem dL_356 : decode code 356 = .ok (.iaload, 1) := by decide +kernel
theorem dL_357 : decode code 357 = .ok (.aload_n 0, 1) := by decide +kernel
theorem dL_358 : decode code 358 = .ok (.iload_n 3, 1) := by decide +kernel
theorem dL_359 : decode code 359 = .ok (.iconst 2, 1) := by decide +kernel
theorem dL_360 : decode code 360 = .ok (.iadd, 1) := by decide +kernel
theorem dL_361 : decode code 361 = .ok (.iaload, 1) := by decide +kernel
theorem dL_362 : decode code 362 = .ok (.aload_n 0, 1) := by decide +kernel
theorem dL_363 : decode code 363 = .ok (.iload_n 3, 1) := by decide +kernel
theorem dL_364 : decode code 364 = .ok (.iconst 3, 1) := by decide +kernel
theorem dL_365 : decode code 365 = .ok (.iadd, 1) := by decide +kernel
theorem dL_366 : decode code 366 = .ok (.iaload, 1) := by decide +kernel
theorem dL_367 : decode code 367 = .ok (.invokevirtual 47, 3) := by decide +kernel
theorem dL_370 : decode code 370 = .ok (.if_icmp .eq 229, 3) := by decide +kernel
theorem dL_373 : decode code 373 = .ok (.iconst 0, 1) := by decide +kernel
theorem dL_374 : decode code 374 = .ok (.ireturn, 1) := by decide +kernel
theorem dL_375 : decode code 375 = .ok (.aload_n 1, 1) := by decide +kernel
theorem dL_376 : decode code 376 = .ok (.aload_n 0, 1) := by decide +kernel
theorem dL_377 : decode code 377 = .ok (.iload_n 3, 1) := by decide +kernel
theorem dL_378 : decode code 378 = .ok (.iconst 1, 1) := by decide +kernel
theorem dL_379 : decode code 379 = .ok (.iadd, 1) := by decide +kernel
theorem dL_380 : decode code 380 = .ok (.iaload, 1) := by decide +kernel
theorem dL_381 : decode code 381 = .ok (.aload_n 0, 1) := by decide +kernel
theorem dL_382 : decode code 382 = .ok (.iload_n 3, 1) := by decide +kernel
theorem dL_383 : decode code 383 = .ok (.iconst 2, 1) := by decide +kernel
theorem dL_384 : decode code 384 = .ok (.iadd, 1) := by decide +kernel
theorem dL_385 : decode code 385 = .ok (.iaload, 1) := by decide +kernel
theorem dL_386 : decode code 386 = .ok (.invokevirtual 48, 3) := by decide +kernel
theorem dL_389 : decode code 389 = .ok (.aload_n 2, 1) := by decide +kernel
theorem dL_390 : decode code 390 = .ok (.aload_n 0, 1) := by decide +kernel
theorem dL_391 : decode code 391 = .ok (.iload_n 3, 1) := by decide +kernel
theorem dL_392 : decode code 392 = .ok (.iconst 1, 1) := by decide +kernel
theorem dL_393 : decode code 393 = .ok (.iadd, 1) := by decide +kernel
theorem dL_394 : decode code 394 = .ok (.iaload, 1) := by decide +kernel
theorem dL_395 : decode code 395 = .ok (.aload_n 0, 1) := by decide +kernel
theorem dL_396 : decode code 396 = .ok (.iload_n 3, 1) := by decide +kernel
theorem dL_397 : decode code 397 = .ok (.iconst 2, 1) := by decide +kernel
theorem dL_398 : decode code 398 = .ok (.iadd, 1) := by decide +kernel
theorem dL_399 : decode code 399 = .ok (.iaload, 1) := by decide +kernel
theorem dL_400 : decode code 400 = .ok (.invokevirtual 51, 3) := by decide +kernel
theorem dL_403 : decode code 403 = .ok (.if_icmp .eq 196, 3) := by decide +kernel
theorem dL_406 : decode code 406 = .ok (.iconst 0, 1) := by decide +kernel
theorem dL_407 : decode code 407 = .ok (.ireturn, 1) := by decide +kernel
theorem dL_408 : decode code 408 = .ok (.aload_n 1, 1) := by decide +kernel
theorem dL_409 : decode code 409 = .ok (.aload_n 0, 1) := by decide +kernel
theorem dL_410 : decode code 410 = .ok (.iload_n 3, 1) := by decide +kernel
theorem dL_411 : decode code 411 = .ok (.iconst 1, 1) := by decide +kernel
theorem dL_412 : decode code 412 = .ok (.iadd, 1) := by decide +kernel
theorem dL_413 : decode code 413 = .ok (.iaload, 1) := by decide +kernel
theorem dL_414 : decode code 414 = .ok (.aload_n 0, 1) := by decide +kernel
theorem dL_415 : decode code 415 = .ok (.iload_n 3, 1) := by decide +kernel
theorem dL_416 : decode code 416 = .ok (.iconst 2, 1) := by decide +kernel
theorem dL_417 : decode code 417 = .ok (.iadd, 1) := by decide +kernel
theorem dL_418 : decode code 418 = .ok (.iaload, 1) := by decide +kernel
theorem dL_419 : decode code 419 = .ok (.invokevirtual 52, 3) := by decide +kernel
theorem dL_422 : decode code 422 = .ok (.aload_n 2, 1) := by decide +kernel
theorem dL_423 : decode code 423 = .ok (.aload_n 0, 1) := by decide +kernel
theorem dL_424 : decode code 424 = .ok (.iload_n 3, 1) := by decide +kernel
theorem dL_425 : decode code 425 = .ok (.iconst 1, 1) := by decide +kernel
theorem dL_426 : decode code 426 = .ok (.iadd, 1) := by decide +kernel
theorem dL_427 : decode code 427 = .ok (.iaload, 1) := by decide +kernel
theorem dL_428 : decode code 428 = .ok (.aload_n 0, 1) := by decide +kernel
theorem dL_429 : decode code 429 = .ok (.iload_n 3, 1) := by decide +kernel
theorem dL_430 : decode code 430 = .ok (.iconst 2, 1) := by decide +kernel
theorem dL_431 : decode code 431 = .ok (.iadd, 1) := by decide +kernel
theorem dL_432 : decode code 432 = .ok (.iaload, 1) := by decide +kernel
theorem dL_433 : decode code 433 = .ok (.invokevirtual 55, 3) := by decide +kernel
theorem dL_436 : decode code 436 = .ok (.if_icmp .eq 163, 3) := by decide +kernel
theorem dL_439 : decode code 439 = .ok (.iconst 0, 1) := by decide +kernel
theorem dL_440 : decode code 440 = .ok (.ireturn, 1) := by decide +kernel
theorem dL_441 : decode code 441 = .ok (.aload_n 1, 1) := by decide +kernel
theorem dL_442 : decode code 442 = .ok (.invokevirtual 56, 3) := by decide +kernel
theorem dL_445 : decode code 445 = .ok (.aload_n 2, 1) := by decide +kernel
theorem dL_446 : decode code 446 = .ok (.invokevirtual 60, 3) := by decide +kernel
theorem dL_449 : decode code 449 = .ok (.if_icmp .eq 150, 3) := by decide +kernel
theorem dL_452 : decode code 452 = .ok (.iconst 0, 1) := by decide +kernel
theorem dL_453 : decode code 453 = .ok (.ireturn, 1) := by decide +kernel
theorem dL_454 : decode code 454 = .ok (.aload_n 1, 1) := by decide +kernel
theorem dL_455 : decode code 455 = .ok (.invokevirtual 61, 3) := by decide +kernel
theorem dL_458 : decode code 458 = .ok (.aload_n 2, 1) := by decide +kernel
theorem dL_459 : decode code 459 = .ok (.invokevirtual 64, 3) := by decide +kernel
theorem dL_462 : decode code 462 = .ok (.if_icmp .eq 137, 3) := by decide +kernel
theorem dL_465 : decode code 465 = .ok (.iconst 0, 1) := by decide +kernel
theorem dL_466 : decode code 466 = .ok (.ireturn, 1) := by decide +kernel
theorem dL_467 : decode code 467 = .ok (.aload_n 1, 1) := by decide +kernel
theorem dL_468 : decode code 468 = .ok (.aload_n 0, 1) := by decide +kernel
theorem dL_469 : decode code 469 = .ok (.iload_n 3, 1) := by decide +kernel
theorem dL_470 : decode code 470 = .ok (.iconst 1, 1) := by decide +kernel
theorem dL_471 : decode code 471 = .ok (.iadd, 1) := by decide +kernel
theorem dL_472 : decode code 472 = .ok (.iaload, 1) := by decide +kernel
theorem dL_473 : decode code 473 = .ok (.aload_n 0, 1) := by decide +kernel
theorem dL_474 : decode code 474 = .ok (.iload_n 3, 1) := by decide +kernel
theorem dL_475 : decode code 475 = .ok (.iconst 2, 1) := by decide +kernel
theorem dL_476 : decode code 476 = .ok (.iadd, 1) := by decide +kernel
theorem dL_477 : decode code 477 = .ok (.iaload, 1) := by decide +kernel
theorem dL_478 : decode code 478 = .ok (.invokevirtual 65, 3) := by decide +kernel
theorem dL_481 : decode code 481 = .ok (.aload_n 2, 1) := by decide +kernel
theorem dL_482 : decode code 482 = .ok (.aload_n 0, 1) := by decide +kernel
theorem dL_483 : decode code 483 = .ok (.iload_n 3, 1) := by decide +kernel
theorem dL_484 : decode code 484 = .ok (.iconst 1, 1) := by decide +kernel
theorem dL_485 : decode code 485 = .ok (.iadd, 1) := by decide +kernel
theorem dL_486 : decode code 486 = .ok (.iaload, 1) := by decide +kernel
theorem dL_487 : decode code 487 = .ok (.aload_n 0, 1) := by decide +kernel
theorem dL_488 : decode code 488 = .ok (.iload_n 3, 1) := by decide +kernel
theorem dL_489 : decode code 489 = .ok (.iconst 2, 1) := by decide +kernel
theorem dL_490 : decode code 490 = .ok (.iadd, 1) := by decide +kernel
theorem dL_491 : decode code 491 = .ok (.iaload, 1) := by decide +kernel
theorem dL_492 : decode code 492 = .ok (.invokevirtual 68, 3) := by decide +kernel
theorem dL_495 : decode code 495 = .ok (.if_icmp .eq 104, 3) := by decide +kernel
theorem dL_498 : decode code 498 = .ok (.iconst 0, 1) := by decide +kernel
theorem dL_499 : decode code 499 = .ok (.ireturn, 1) := by decide +kernel
theorem dL_500 : decode code 500 = .ok (.aload_n 1, 1) := by decide +kernel
theorem dL_501 : decode code 501 = .ok (.aload_n 0, 1) := by decide +kernel
theorem dL_502 : decode code 502 = .ok (.iload_n 3, 1) := by decide +kernel
theorem dL_503 : decode code 503 = .ok (.iconst 1, 1) := by decide +kernel
theorem dL_504 : decode code 504 = .ok (.iadd, 1) := by decide +kernel
theorem dL_505 : decode code 505 = .ok (.iaload, 1) := by decide +kernel
theorem dL_506 : decode code 506 = .ok (.aload_n 0, 1) := by decide +kernel
theorem dL_507 : decode code 507 = .ok (.iload_n 3, 1) := by decide +kernel
theorem dL_508 : decode code 508 = .ok (.iconst 2, 1) := by decide +kernel
theorem dL_509 : decode code 509 = .ok (.iadd, 1) := by decide +kernel
theorem dL_510 : decode code 510 = .ok (.iaload, 1) := by decide +kernel
theorem dL_511 : decode code 511 = .ok (.aload_n 0, 1) := by decide +kernel
theorem dL_512 : decode code 512 = .ok (.iload_n 3, 1) := by decide +kernel
theorem dL_513 : decode code 513 = .ok (.iconst 3, 1) := by decide +kernel
theorem dL_514 : decode code 514 = .ok (.iadd, 1) := by decide +kernel
theorem dL_515 : decode code 515 = .ok (.iaload, 1) := by decide +kernel
theorem dL_516 : decode code 516 = .ok (.invokevirtual 69, 3) := by decide +kernel
theorem dL_519 : decode code 519 = .ok (.aload_n 2, 1) := by decide +kernel
theorem dL_520 : decode code 520 = .ok (.aload_n 0, 1) := by decide +kernel
theorem dL_521 : decode code 521 = .ok (.iload_n 3, 1) := by decide +kernel
theorem dL_522 : decode code 522 = .ok (.iconst 1, 1) := by decide +kernel
theorem dL_523 : decode code 523 = .ok (.iadd, 1) := by decide +kernel
theorem dL_524 : decode code 524 = .ok (.iaload, 1) := by decide +kernel
theorem dL_525 : decode code 525 = .ok (.aload_n 0, 1) := by decide +kernel
theorem dL_526 : decode code 526 = .ok (.iload_n 3, 1) := by decide +kernel
theorem dL_527 : decode code 527 = .ok (.iconst 2, 1) := by decide +kernel
theorem dL_528 : decode code 528 = .ok (.iadd, 1) := by decide +kernel
theorem dL_529 : decode code 529 = .ok (.iaload, 1) := by decide +kernel
theorem dL_530 : decode code 530 = .ok (.aload_n 0, 1) := by decide +kernel
theorem dL_531 : decode code 531 = .ok (.iload_n 3, 1) := by decide +kernel
theorem dL_532 : decode code 532 = .ok (.iconst 3, 1) := by decide +kernel
theorem dL_533 : decode code 533 = .ok (.iadd, 1) := by decide +kernel
theorem dL_534 : decode code 534 = .ok (.iaload, 1) := by decide +kernel
theorem dL_535 : decode code 535 = .ok (.invokevirtual 72, 3) := by decide +kernel
theorem dL_538 : decode code 538 = .ok (.if_icmp .eq 61, 3) := by decide +kernel
theorem dL_541 : decode code 541 = .ok (.iconst 0, 1) := by decide +kernel
theorem dL_542 : decode code 542 = .ok (.ireturn, 1) := by decide +kernel
theorem dL_543 : decode code 543 = .ok (.aload_n 1, 1) := by decide +kernel
theorem dL_544 : decode code 544 = .ok (.aload_n 0, 1) := by decide +kernel
theorem dL_545 : decode code 545 = .ok (.iload_n 3, 1) := by decide +kernel
theorem dL_546 : decode code 546 = .ok (.iconst 1, 1) := by decide +kernel
theorem dL_547 : decode code 547 = .ok (.iadd, 1) := by decide +kernel
theorem dL_548 : decode code 548 = .ok (.iaload, 1) := by decide +kernel
theorem dL_549 : decode code 549 = .ok (.aload_n 0, 1) := by decide +kernel
theorem dL_550 : decode code 550 = .ok (.iload_n 3, 1) := by decide +kernel
theorem dL_551 : decode code 551 = .ok (.iconst 2, 1) := by decide +kernel
theorem dL_552 : decode code 552 = .ok (.iadd, 1) := by decide +kernel
theorem dL_553 : decode code 553 = .ok (.iaload, 1) := by decide +kernel
theorem dL_554 : decode code 554 = .ok (.invokevirtual 73, 3) := by decide +kernel
theorem dL_557 : decode code 557 = .ok (.aload_n 2, 1) := by decide +kernel
theorem dL_558 : decode code 558 = .ok (.aload_n 0, 1) := by decide +kernel
theorem dL_559 : decode code 559 = .ok (.iload_n 3, 1) := by decide +kernel
theorem dL_560 : decode code 560 = .ok (.iconst 1, 1) := by decide +kernel
theorem dL_561 : decode code 561 = .ok (.iadd, 1) := by decide +kernel
theorem dL_562 : decode code 562 = .ok (.iaload, 1) := by decide +kernel
theorem dL_563 : decode code 563 = .ok (.aload_n 0, 1) := by decide +kernel
theorem dL_564 : decode code 564 = .ok (.iload_n 3, 1) := by decide +kernel
theorem dL_565 : decode code 565 = .ok (.iconst 2, 1) := by decide +kernel
theorem dL_566 : decode code 566 = .ok (.iadd, 1) := by decide +kernel
theorem dL_567 : decode code 567 = .ok (.iaload, 1) := by decide +kernel
theorem dL_568 : decode code 568 = .ok (.invokevirtual 76, 3) := by decide +kernel
theorem dL_571 : decode code 571 = .ok (.if_icmp .eq 28, 3) := by decide +kernel
theorem dL_574 : decode code 574 = .ok (.iconst 0, 1) := by decide +kernel
theorem dL_575 : decode code 575 = .ok (.ireturn, 1) := by decide +kernel
theorem dL_576 : decode code 576 = .ok (.aload_n 1, 1) := by decide +kernel
theorem dL_577 : decode code 577 = .ok (.aload_n 0, 1) := by decide +kernel
theorem dL_578 : decode code 578 = .ok (.iload_n 3, 1) := by decide +kernel
theorem dL_579 : decode code 579 = .ok (.iconst 1, 1) := by decide +kernel
theorem dL_580 : decode code 580 = .ok (.iadd, 1) := by decide +kernel
theorem dL_581 : decode code 581 = .ok (.iaload, 1) := by decide +kernel
theorem dL_582 : decode code 582 = .ok (.invokevirtual 77, 3) := by decide +kernel
theorem dL_585 : decode code 585 = .ok (.aload_n 2, 1) := by decide +kernel
theorem dL_586 : decode code 586 = .ok (.aload_n 0, 1) := by decide +kernel
theorem dL_587 : decode code 587 = .ok (.iload_n 3, 1) := by decide +kernel
theorem dL_588 : decode code 588 = .ok (.iconst 1, 1) := by decide +kernel
theorem dL_589 : decode code 589 = .ok (.iadd, 1) := by decide +kernel
theorem dL_590 : decode code 590 = .ok (.iaload, 1) := by decide +kernel
theorem dL_591 : decode code 591 = .ok (.invokevirtual 80, 3) := by decide +kernel
theorem dL_594 : decode code 594 = .ok (.if_icmp .eq 5, 3) := by decide +kernel
theorem dL_597 : decode code 597 = .ok (.iconst 0, 1) := by decide +kernel
theorem dL_598 : decode code 598 = .ok (.ireturn, 1) := by decide +kernel
theorem dL_599 : decode code 599 = .ok (.iinc 3 4, 3) := by decide +kernel
theorem dL_602 : decode code 602 = .ok (.goto (-584), 3) := by decide +kernel
theorem dL_605 : decode code 605 = .ok (.iconst 1, 1) := by decide +kernel
theorem dL_606 : decode code 606 = .ok (.ireturn, 1) := by decide +kernel
def R_law : String := "PronounOrdersLaw"
theorem lw_E {args : Array Value} {s : State} (hts : ∀ w ∈ lw_tbl, w.before args s = true) : xE s := by
  refine ⟨va_AO.of (hts _ (by decide +kernel)), fun w hw hn => ?_⟩
  refine va_Nw.of ?_ (hts w hw)
  cases w <;> first | (simp [xnest] at hn; done) | rfl
section
variable {p : Program} {l : Launch} {e : Env} {s : State} {m : MethodId} {args : Array Value} {below : List Frame} {meth : Method} {c : Code} {H : Heap} {locs : List Loc} {cells slots : Nat} {Q : State → Prop}
variable {D : va_G} {B aS : Nat} {cA : Nat → ClassId} {Z : State → Prop} {M : xM} {ls : Array Slot}
/-- a call from the law: no cell is made -/
theorem law_call {a idx pc o t nA : Nat} {me' : xMe} {av rest : List Value} {z : Int32} {M2 : xM} {sh : xSh} {q : vw_C} (hx : p.tables.exec = Jvm.exec) (hb : c.code = code) (hml : c.maxLocals = 4) (hown : s.vm.findClass R_law = some m.cls) (hts : ∀ w ∈ lw_tbl, w.before args s = true) (hB : B ≤ s.heap.size) (hmet : xMetAll l Z D B aS cA 10) (hZ : xZok Z B) (hZs : Z s) (hK : va_K D vwCl (xtys cA) s)
    (hme : xmt[a]? = some me') (hok : xokM me' = true) (hk1 : me'.2.2.2.2.2.1 = 1) (hq : vwCl[t]? = some q) (hqc : q.1 = me'.1.cls) (ho : M.1[o]? = some sh) (hsh : sh.1 = t) (hl : Cond.methodLink R_law idx me'.1 ∈ lw_tbl) (hpar : (parseMethodDescriptor me'.1.desc).map (fun d => d.parameters.length) = some nA) (hnA : av.length = nA) (hfl : (xflat (.ref o :: av)).length ≤ me'.2.2.1)
    (hw : wp 10 me' 0 (xentry me'.2.2.1 (.ref o :: av)) [] M (fun r M' => r = some (.int z) ∧ M' = M2)) (h1 : M2.1 = M.1) (hSt : xSt D B cA M s H locs) (hsz : H.size = B + M.1.length) (hce : cells ≤ 600000) (hsl : slots ≤ 7302250) (hls : ls.size = 4) (hcat : (rest.map fun v => v.category).sum ≤ 8) (hd : decode code pc = .ok (.invokevirtual idx, 3))
    (kk : ∀ (H1 : Heap) (locs1 : List Loc), xSt D B cA M2 s H1 locs1 → H1.size = B + M2.1.length → W p l e room_1 s m args below meth c H1 locs1 cells slots Q (F0 m (pc + 3) ls (.int z :: rest))) :
    W p l e room_1 s m args below meth c H locs cells slots Q (F0 m pc ls ((av.map (xlf B aS)).reverse ++ .ref (B + o) :: rest)) := by
  obtain ⟨n, r, M', hev, rfl, rfl⟩ := hw
  subst hnA
  have hM := hmet n me' (.ref o :: av) M M' (some (.int z)) 0 0 (List.mem_of_getElem? hme) hfl hev (by rw [h1]; omega) (by unfold xsl; rw [h1]; omega)
  have hok2 := hok
  unfold xokM xokH at hok2
  simp only [Bool.and_eq_true, decide_eq_true_eq] at hok2
  obtain ⟨⟨hcode, hini, -, -, hmh, h21, hkind⟩, -⟩ := hok2
  rw [if_neg (by rw [hk1]; decide), if_pos hk1] at hkind
  simp only [Bool.and_eq_true, decide_eq_true_eq] at hkind
  have hgood := xgood me' hok lw_tbl (fun w hw => (List.mem_filter.mp hw).1)
  obtain ⟨h50, -⟩ := xcl t q hq
  have he := xwl_get (B := B) (cA := cA) ho
  rw [xcell, if_pos (by rw [hsh]; exact h50), hsh] at he
  have hrecv := va_recv hK hSt.1 hq he
  rw [hqc] at hrecv
  have hE := lw_E hts
  have hpre : ∀ U : State, U.heap = H → s.WarmedH U.vm → xPc Z D B aS cA (.ref o :: av) M (Value.ref (B + o) :: av.map (xlf B aS)).toArray U := fun U hU hW =>
    ⟨rfl, by rw [hU]; exact hsz, by rw [hU]; exact hSt.1, va_K.moved hW.alike hK, hE.warm hW, hZ.1 s U hZs hW (fun q hq => by rw [hU]; exact hSt.2.2.1 q (by omega) (by omega))⟩
  have hrun := va_runV (p := p) (l := l) (e := e) (R := room_1) (m := m) (below := below) (meth := meth) (c := c) (locs := locs) (cells := cells) (slots := slots) (As := av.map (xlf B aS)) (rest := rest) (g := F0 m pc ls ((av.map (xlf B aS)).reverse ++ .ref (B + o) :: rest)) ⟨hx, hb, hml, hown, hts⟩ hM ⟨callB_of av.length hts hgood rfl rfl rfl (hts _ hini) (hts _ hl) ⟨hmh.1, hmh.2, hpar⟩ ⟨by decide, by show 8 + (me'.2.2.1 + 11) + 40 * 11 ≤ 480; omega⟩, hts _ hkind.1, hts _ hkind.2⟩ ⟨xPc_blind hZ, hrecv, hpre⟩ rfl (by simp) hls rfl (lv_room hcat) hd ⟨by show cells + 0 ≤ 600000; omega, by show slots + 0 ≤ 7302250; omega⟩
  intro T hT X
  obtain ⟨v, st₀, t', T', L, h0, X', hL, e1, e2, ⟨hv, hz, hp, hk⟩, st⟩ := hrun T hT X
  cases hv
  rw [h0] at hk
  obtain ⟨t2, a1, b1⟩ := kk T'.heap (locs ++ L) ⟨by rw [e1]; exact hp, Nat.le_trans hSt.2.1 (by rw [e1, hz, h1, hsz]; exact Nat.le_refl _), fun q h1 h2 => by
      rw [e1, hk q (Nat.lt_of_not_le h2)]; exact hSt.2.2.1 q h1 h2, fun q hq => by
      rcases List.mem_append.mp hq with h | h
      · exact hSt.2.2.2 q h
      · exact hL q h⟩ (by rw [e1]; exact hz) T' rfl X'
  exact ⟨t2, st t2 a1, b1⟩
end

