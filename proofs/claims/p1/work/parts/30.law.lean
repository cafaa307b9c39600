theorem dL_0 : decode code 0 = .ok (.new 7, 3) := by decide +kernel
theorem dL_3 : decode code 3 = .ok (.dup, 1) := by decide +kernel
theorem dL_4 : decode code 4 = .ok (.invokespecial 9, 3) := by decide +kernel
theorem dL_7 : decode code 7 = .ok (.astore_n 1, 1) := by decide +kernel
theorem dL_8 : decode code 8 = .ok (.new 10, 3) := by decide +kernel
theorem dL_11 : decode code 11 = .ok (.dup, 1) := by decide +kernel
theorem dL_12 : decode code 12 = .ok (.invokespecial 12, 3) := by decide +kernel
theorem dL_15 : decode code 15 = .ok (.astore_n 2, 1) := by decide +kernel
theorem dL_16 : decode code 16 = .ok (.iconst 0, 1) := by decide +kernel
theorem dL_17 : decode code 17 = .ok (.istore_n 3, 1) := by decide +kernel
theorem dL_18 : decode code 18 = .ok (.iload_n 3, 1) := by decide +kernel
theorem dL_19 : decode code 19 = .ok (.aload_n 0, 1) := by decide +kernel
theorem dL_20 : decode code 20 = .ok (.arraylength, 1) := by decide +kernel
theorem dL_21 : decode code 21 = .ok (.bipush 6, 2) := by decide +kernel
theorem dL_23 : decode code 23 = .ok (.isub, 1) := by decide +kernel
theorem dL_24 : decode code 24 = .ok (.if_icmp .gt 704, 3) := by decide +kernel
theorem dL_27 : decode code 27 = .ok (.aload_n 0, 1) := by decide +kernel
theorem dL_28 : decode code 28 = .ok (.iload_n 3, 1) := by decide +kernel
theorem dL_29 : decode code 29 = .ok (.iaload, 1) := by decide +kernel
theorem dL_30 : decode code 30 = .ok (.bipush 31, 2) := by decide +kernel
theorem dL_32 : decode code 32 = .ok (.iand, 1) := by decide +kernel
theorem dL_33 : decode code 33 = .ok (.tableswitch 689 0 21 #[103, 166, 189, 202, 225, 248, 281, 314, 347, 370, 383, 416, 449, 462, 495, 508, 531, 554, 577, 600, 633, 666], 103) := by decide +kernel
theorem dL_136 : decode code 136 = .ok (.aload_n 1, 1) := by decide +kernel
theorem dL_137 : decode code 137 = .ok (.aload_n 0, 1) := by decide +kernel
theorem dL_138 : decode code 138 = .ok (.iload_n 3, 1) := by decide +kernel
theorem dL_139 : decode code 139 = .ok (.iconst 1, 1) := by decide +kernel
theorem dL_140 : decode code 140 = .ok (.iadd, 1) := by decide +kernel
theorem dL_141 : decode code 141 = .ok (.iaload, 1) := by decide +kernel
theorem dL_142 : decode code 142 = .ok (.aload_n 0, 1) := by decide +kernel
theorem dL_143 : decode code 143 = .ok (.iload_n 3, 1) := by decide +kernel
theorem dL_144 : decode code 144 = .ok (.iconst 2, 1) := by decide +kernel
theorem dL_145 : decode code 145 = .ok (.iadd, 1) := by decide +kernel
theorem dL_146 : decode code 146 = .ok (.iaload, 1) := by decide +kernel
theorem dL_147 : decode code 147 = .ok (.aload_n 0, 1) := by decide +kernel
theorem dL_148 : decode code 148 = .ok (.iload_n 3, 1) := by decide +kernel
theorem dL_149 : decode code 149 = .ok (.iconst 3, 1) := by decide +kernel
theorem dL_150 : decode code 150 = .ok (.iadd, 1) := by decide +kernel
theorem dL_151 : decode code 151 = .ok (.iaload, 1) := by decide +kernel
theorem dL_152 : decode code 152 = .ok (.aload_n 0, 1) := by decide +kernel
theorem dL_153 : decode code 153 = .ok (.iload_n 3, 1) := by decide +kernel
theorem dL_154 : decode code 154 = .ok (.iconst 4, 1) := by decide +kernel
theorem dL_155 : decode code 155 = .ok (.iadd, 1) := by decide +kernel
theorem dL_156 : decode code 156 = .ok (.iaload, 1) := by decide +kernel
theorem dL_157 : decode code 157 = .ok (.aload_n 0, 1) := by decide +kernel
theorem dL_158 : decode code 158 = .ok (.iload_n 3, 1) := by decide +kernel
theorem dL_159 : decode code 159 = .ok (.iconst 5, 1) := by decide +kernel
theorem dL_160 : decode code 160 = .ok (.iadd, 1) := by decide +kernel
theorem dL_161 : decode code 161 = .ok (.iaload, 1) := by decide +kernel
theorem dL_162 : decode code 162 = .ok (.invokevirtual 13, 3) := by decide +kernel
theorem dL_165 : decode code 165 = .ok (.aload_n 2, 1) := by decide +kernel
theorem dL_166 : decode code 166 = .ok (.aload_n 0, 1) := by decide +kernel
theorem dL_167 : decode code 167 = .ok (.iload_n 3, 1) := by decide +kernel
theorem dL_168 : decode code 168 = .ok (.iconst 1, 1) := by decide +kernel
theorem dL_169 : decode code 169 = .ok (.iadd, 1) := by decide +kernel
theorem dL_170 : decode code 170 = .ok (.iaload, 1) := by decide +kernel
theorem dL_171 : decode code 171 = .ok (.aload_n 0, 1) := by decide +kernel
theorem dL_172 : decode code 172 = .ok (.iload_n 3, 1) := by decide +kernel
theorem dL_173 : decode code 173 = .ok (.iconst 2, 1) := by decide +kernel
theorem dL_174 : decode code 174 = .ok (.iadd, 1) := by decide +kernel
theorem dL_175 : decode code 175 = .ok (.iaload, 1) := by decide +kernel
theorem dL_176 : decode code 176 = .ok (.aload_n 0, 1) := by decide +kernel
theorem dL_177 : decode code 177 = .ok (.iload_n 3, 1) := by decide +kernel
theorem dL_178 : decode code 178 = .ok (.iconst 3, 1) := by decide +kernel
theorem dL_179 : decode code 179 = .ok (.iadd, 1) := by decide +kernel
theorem dL_180 : decode code 180 = .ok (.iaload, 1) := by decide +kernel
theorem dL_181 : decode code 181 = .ok (.aload_n 0, 1) := by decide +kernel
theorem dL_182 : decode code 182 = .ok (.iload_n 3, 1) := by decide +kernel
theorem dL_183 : decode code 183 = .ok (.iconst 4, 1) := by decide +kernel
theorem dL_184 : decode code 184 = .ok (.iadd, 1) := by decide +kernel
theorem dL_185 : decode code 185 = .ok (.iaload, 1) := by decide +kernel
theorem dL_186 : decode code 186 = .ok (.aload_n 0, 1) := by decide +kernel
theorem dL_187 : decode code 187 = .ok (.iload_n 3, 1) := by decide +kernel
theorem dL_188 : decode code 188 = .ok (.iconst 5, 1) := by decide +kernel
theorem dL_189 : decode code 189 = .ok (.iadd, 1) := by decide +kernel
theorem dL_190 : decode code 190 = .ok (.iaload, 1) := by decide +kernel
theorem dL_191 : decode code 191 = .ok (.invokevirtual 17, 3) := by decide +kernel
theorem dL_194 : decode code 194 = .ok (.if_icmp .eq 528, 3) := by decide +kernel
theorem dL_197 : decode code 197 = .ok (.iconst 0, 1) := by decide +kernel
theorem dL_198 : decode code 198 = .ok (.ireturn, 1) := by decide +kernel
theorem dL_199 : decode code 199 = .ok (.aload_n 1, 1) := by decide +kernel
theorem dL_200 : decode code 200 = .ok (.aload_n 0, 1) := by decide +kernel
theorem dL_201 : decode code 201 = .ok (.iload_n 3, 1) := by decide +kernel
theorem dL_202 : decode code 202 = .ok (.iconst 1, 1) := by decide +kernel
theorem dL_203 : decode code 203 = .ok (.iadd, 1) := by decide +kernel
theorem dL_204 : decode code 204 = .ok (.iaload, 1) := by decide +kernel
theorem dL_205 : decode code 205 = .ok (.invokevirtual 18, 3) := by decide +kernel
theorem dL_208 : decode code 208 = .ok (.aload_n 2, 1) := by decide +kernel
theorem dL_209 : decode code 209 = .ok (.aload_n 0, 1) := by decide +kernel
theorem dL_210 : decode code 210 = .ok (.iload_n 3, 1) := by decide +kernel
theorem dL_211 : decode code 211 = .ok (.iconst 1, 1) := by decide +kernel
theorem dL_212 : decode code 212 = .ok (.iadd, 1) := by decide +kernel
theorem dL_213 : decode code 213 = .ok (.iaload, 1) := by decide +kernel
theorem dL_214 : decode code 214 = .ok (.invokevirtual 22, 3) := by decide +kernel
theorem dL_217 : decode code 217 = .ok (.if_icmp .eq 505, 3) := by decide +kernel
theorem dL_220 : decode code 220 = .ok (.iconst 0, 1) := by decide +kernel
theorem dL_221 : decode code 221 = .ok (.ireturn, 1) := by decide +kernel
theorem dL_222 : decode code 222 = .ok (.aload_n 1, 1) := by decide +kernel
theorem dL_223 : decode code 223 = .ok (.invokevirtual 23, 3) := by decide +kernel
theorem dL_226 : decode code 226 = .ok (.aload_n 2, 1) := by decide +kernel
theorem dL_227 : decode code 227 = .ok (.invokevirtual 27, 3) := by decide +kernel
theorem dL_230 : decode code 230 = .ok (.if_icmp .eq 492, 3) := by decide +kernel
theorem dL_233 : decode code 233 = .ok (.iconst 0, 1) := by decide +kernel
theorem dL_234 : decode code 234 = .ok (.ireturn, 1) := by decide +kernel
theorem dL_235 : decode code 235 = .ok (.aload_n 1, 1) := by decide +kernel
theorem dL_236 : decode code 236 = .ok (.aload_n 0, 1) := by decide +kernel
theorem dL_237 : decode code 237 = .ok (.iload_n 3, 1) := by decide +kernel
theorem dL_238 : decode code 238 = .ok (.iconst 1, 1) := by decide +kernel
theorem dL_239 : decode code 239 = .ok (.iadd, 1) := by decide +kernel
theorem dL_240 : decode code 240 = .ok (.iaload, 1) := by decide +kernel
theorem dL_241 : decode code 241 = .ok (.invokevirtual 28, 3) := by decide +kernel
theorem dL_244 : decode code 244 = .ok (.aload_n 2, 1) := by decide +kernel
theorem dL_245 : decode code 245 = .ok (.aload_n 0, 1) := by decide +kernel
theorem dL_246 : decode code 246 = .ok (.iload_n 3, 1) := by decide +kernel
theorem dL_247 : decode code 247 = .ok (.iconst 1, 1) := by decide +kernel
theorem dL_248 : decode code 248 = .ok (.iadd, 1) := by decide +kernel
theorem dL_249 : decode code 249 = .ok (.iaload, 1) := by decide +kernel
theorem dL_250 : decode code 250 = .ok (.invokevirtual 31, 3) := by decide +kernel
theorem dL_253 : decode code 253 = .ok (.if_icmp .eq 469, 3) := by decide +kernel
theorem dL_256 : decode code 256 = .ok (.iconst 0, 1) := by decide +kernel
theorem dL_257 : decode code 257 = .ok (.ireturn, 1) := by decide +kernel
theorem dL_258 : decode code 258 = .ok (.aload_n 1, 1) := by decide +kernel
theorem dL_259 : decode code 259 = .ok (.aload_n 0, 1) := by decide +kernel
theorem dL_260 : decode code 260 = .ok (.iload_n 3, 1) := by decide +kernel
theorem dL_261 : decode code 261 = .ok (.iconst 1, 1) := by decide +kernel
theorem dL_262 : decode code 262 = .ok (.iadd, 1) := by decide +kernel
theorem dL_263 : decode code 263 = .ok (.iaload, 1) := by decide +kernel
theorem dL_264 : decode code 264 = .ok (.invokevirtual 32, 3) := by decide +kernel
theorem dL_267 : decode code 267 = .ok (.aload_n 2, 1) := by decide +kernel
theorem dL_268 : decode code 268 = .ok (.aload_n 0, 1) := by decide +kernel
theorem dL_269 : decode code 269 = .ok (.iload_n 3, 1) := by decide +kernel
theorem dL_270 : decode code 270 = .ok (.iconst 1, 1) := by decide +kernel
theorem dL_271 : decode code 271 = .ok (.iadd, 1) := by decide +kernel
theorem dL_272 : decode code 272 = .ok (.iaload, 1) := by decide +kernel
theorem dL_273 : decode code 273 = .ok (.invokevirtual 35, 3) := by decide +kernel
theorem dL_276 : decode code 276 = .ok (.if_icmp .eq 446, 3) := by decide +kernel
theorem dL_279 : decode code 279 = .ok (.iconst 0, 1) := by decide +kernel
theorem dL_280 : decode code 280 = .ok (.ireturn, 1) := by decide +kernel
theorem dL_281 : decode code 281 = .ok (.aload_n 1, 1) := by decide +kernel
theorem dL_282 : decode code 282 = .ok (.aload_n 0, 1) := by decide +kernel
theorem dL_283 : decode code 283 = .ok (.iload_n 3, 1) := by decide +kernel
theorem dL_284 : decode code 284 = .ok (.iconst 1, 1) := by decide +kernel
theorem dL_285 : decode code 285 = .ok (.iadd, 1) := by decide +kernel
theorem dL_286 : decode code 286 = .ok (.iaload, 1) := by decide +kernel
theorem dL_287 : decode code 287 = .ok (.aload_n 0, 1) := by decide +kernel
theorem dL_288 : decode code 288 = .ok (.iload_n 3, 1) := by decide +kernel
theorem dL_289 : decode code 289 = .ok (.iconst 2, 1) := by decide +kernel
theorem dL_290 : decode code 290 = .ok (.iadd, 1) := by decide +kernel
theorem dL_291 : decode code 291 = .ok (.iaload, 1) := by decide +kernel
theorem dL_292 : decode code 292 = .ok (.invokevirtual 36, 3) := by decide +kernel
theorem dL_295 : decode code 295 = .ok (.aload_n 2, 1) := by decide +kernel
theorem dL_296 : decode code 296 = .ok (.aload_n 0, 1) := by decide +kernel
theorem dL_297 : decode code 297 = .ok (.iload_n 3, 1) := by decide +kernel
theorem dL_298 : decode code 298 = .ok (.iconst 1, 1) := by decide +kernel
theorem dL_299 : decode code 299 = .ok (.iadd, 1) := by decide +kernel
theorem dL_300 : decode code 300 = .ok (.iaload, 1) := by decide +kernel
theorem dL_301 : decode code 301 = .ok (.aload_n 0, 1) := by decide +kernel
theorem dL_302 : decode code 302 = .ok (.iload_n 3, 1) := by decide +kernel
theorem dL_303 : decode code 303 = .ok (.iconst 2, 1) := by decide +kernel
theorem dL_304 : decode code 304 = .ok (.iadd, 1) := by decide +kernel
theorem dL_305 : decode code 305 = .ok (.iaload, 1) := by decide +kernel
theorem dL_306 : decode code 306 = .ok (.invokevirtual 40, 3) := by decide +kernel
theorem dL_309 : decode code 309 = .ok (.if_icmp .eq 413, 3) := by decide +kernel
theorem dL_312 : decode code 312 = .ok (.iconst 0, 1) := by decide +kernel
theorem dL_313 : decode code 313 = .ok (.ireturn, 1) := by decide +kernel
theorem dL_314 : decode code 314 = .ok (.aload_n 1, 1) := by decide +kernel
theorem dL_315 : decode code 315 = .ok (.aload_n 0, 1) := by decide +kernel
theorem dL_316 : decode code 316 = .ok (.iload_n 3, 1) := by decide +kernel
theorem dL_317 : decode code 317 = .ok (.iconst 1, 1) := by decide +kernel
theorem dL_318 : decode code 318 = .ok (.iadd, 1) := by decide +kernel
theorem dL_319 : decode code 319 = .ok (.iaload, 1) := by decide +kernel
theorem dL_320 : decode code 320 = .ok (.aload_n 0, 1) := by decide +kernel
theorem dL_321 : decode code 321 = .ok (.iload_n 3, 1) := by decide +kernel
theorem dL_322 : decode code 322 = .ok (.iconst 2, 1) := by decide +kernel
theorem dL_323 : decode code 323 = .ok (.iadd, 1) := by decide +kernel
theorem dL_324 : decode code 324 = .ok (.iaload, 1) := by decide +kernel
theorem dL_325 : decode code 325 = .ok (.invokevirtual 41, 3) := by decide +kernel
theorem dL_328 : decode code 328 = .ok (.aload_n 2, 1) := by decide +kernel
theorem dL_329 : decode code 329 = .ok (.aload_n 0, 1) := by decide +kernel
theorem dL_330 : decode code 330 = .ok (.iload_n 3, 1) := by decide +kernel
theorem dL_331 : decode code 331 = .ok (.iconst 1, 1) := by decide +kernel
theorem dL_332 : decode code 332 = .ok (.iadd, 1) := by decide +kernel
theorem dL_333 : decode code 333 = .ok (.iaload, 1) := by decide +kernel
theorem dL_334 : decode code 334 = .ok (.aload_n 0, 1) := by decide +kernel
theorem dL_335 : decode code 335 = .ok (.iload_n 3, 1) := by decide +kernel
theorem dL_336 : decode code 336 = .ok (.iconst 2, 1) := by decide +kernel
theorem dL_337 : decode code 337 = .ok (.iadd, 1) := by decide +kernel
theorem dL_338 : decode code 338 = .ok (.iaload, 1) := by decide +kernel
theorem dL_339 : decode code 339 = .ok (.invokevirtual 44, 3) := by decide +kernel
theorem dL_342 : decode code 342 = .ok (.if_icmp .eq 380, 3) := by decide +kernel
theorem dL_345 : decode code 345 = .ok (.iconst 0, 1) := by decide +kernel
theorem dL_346 : decode code 346 = .ok (.ireturn, 1) := by decide +kernel
theorem dL_347 : decode code 347 = .ok (.aload_n 1, 1) := by decide +kernel
theorem dL_348 : decode code 348 = .ok (.aload_n 0, 1) := by decide +kernel
theorem dL_349 : decode code 349 = .ok (.iload_n 3, 1) := by decide +kernel
theorem dL_350 : decode code 350 = .ok (.iconst 1, 1) := by decide +kernel
theorem dL_351 : decode code 351 = .ok (.iadd, 1) := by decide +kernel
theorem dL_352 : decode code 352 = .ok (.iaload, 1) := by decide +kernel
theorem dL_353 : decode code 353 = .ok (.aload_n 0, 1) := by decide +kernel
theorem dL_354 : decode code 354 = .ok (.iload_n 3, 1) := by decide +kernel
theorem dL_355 : decode code 355 = .ok (.iconst 2, 1) := by decide +kernel
theorem dL_356 : decode code 356 = .ok (.iadd, 1) := by decide +kernel
theorem dL_357 : decode code 357 = .ok (.iaload, 1) := by decide +kernel
theorem dL_358 : decode code 358 = .ok (.invokevirtual 45, 3) := by decide +kernel
theorem dL_361 : decode code 361 = .ok (.aload_n 2, 1) := by decide +kernel
theorem dL_362 : decode code 362 = .ok (.aload_n 0, 1) := by decide +kernel
theorem dL_363 : decode code 363 = .ok (.iload_n 3, 1) := by decide +kernel
theorem dL_364 : decode code 364 = .ok (.iconst 1, 1) := by decide +kernel
theorem dL_365 : decode code 365 = .ok (.iadd, 1) := by decide +kernel
theorem dL_366 : decode code 366 = .ok (.iaload, 1) := by decide +kernel
theorem dL_367 : decode code 367 = .ok (.aload_n 0, 1) := by decide +kernel
theorem dL_368 : decode code 368 = .ok (.iload_n 3, 1) := by decide +kernel
theorem dL_369 : decode code 369 = .ok (.iconst 2, 1) := by decide +kernel
theorem dL_370 : decode code 370 = .ok (.iadd, 1) := by decide +kernel
theorem dL_371 : decode code 371 = .ok (.iaload, 1) := by decide +kernel
theorem dL_372 : decode code 372 = .ok (.invokevirtual 48, 3) := by decide +kernel
theorem dL_375 : decode code 375 = .ok (.if_icmp .eq 347, 3) := by decide +kernel
theorem dL_378 : decode code 378 = .ok (.iconst 0, 1) := by decide +kernel
theorem dL_379 : decode code 379 = .ok (.ireturn, 1) := by decide +kernel
theorem dL_380 : decode code 380 = .ok (.aload_n 1, 1) := by decide +kernel
theorem dL_381 : decode code 381 = .ok (.aload_n 0, 1) := by decide +kernel
theorem dL_382 : decode code 382 = .ok (.iload_n 3, 1) := by decide +kernel
theorem dL_383 : decode code 383 = .ok (.iconst 1, 1) := by decide +kernel
theorem dL_384 : decode code 384 = .ok (.iadd, 1) := by decide +kernel
theorem dL_385 : decode code 385 = .ok (.iaload, 1) := by decide +kernel
theorem dL_386 : decode code 386 = .ok (.invokevirtual 49, 3) := by decide +kernel
theorem dL_389 : decode code 389 = .ok (.aload_n 2, 1) := by decide +kernel
theorem dL_390 : decode code 390 = .ok (.aload_n 0, 1) := by decide +kernel
theorem dL_391 : decode code 391 = .ok (.iload_n 3, 1) := by decide +kernel
theorem dL_392 : decode code 392 = .ok (.iconst 1, 1) := by decide +kernel
theorem dL_393 : decode code 393 = .ok (.iadd, 1) := by decide +kernel
theorem dL_394 : decode code 394 = .ok (.iaload, 1) := by decide +kernel
theorem dL_395 : decode code 395 = .ok (.invokevirtual 52, 3) := by decide +kernel
theorem dL_398 : decode code 398 = .ok (.if_icmp .eq 324, 3) := by decide +kernel
theorem dL_401 : decode code 401 = .ok (.iconst 0, 1) := by decide +kernel
theorem dL_402 : decode code 402 = .ok (.ireturn, 1) := by decide +kernel
theorem dL_403 : decode code 403 = .ok (.aload_n 1, 1) := by decide +kernel
theorem dL_404 : decode code 404 = .ok (.invokevirtual 53, 3) := by decide +kernel
theorem dL_407 : decode code 407 = .ok (.aload_n 2, 1) := by decide +kernel
theorem dL_408 : decode code 408 = .ok (.invokevirtual 56, 3) := by decide +kernel
theorem dL_411 : decode code 411 = .ok (.if_icmp .eq 311, 3) := by decide +kernel
theorem dL_414 : decode code 414 = .ok (.iconst 0, 1) := by decide +kernel
theorem dL_415 : decode code 415 = .ok (.ireturn, 1) := by decide +kernel
theorem dL_416 : decode code 416 = .ok (.aload_n 1, 1) := by decide +kernel
theorem dL_417 : decode code 417 = .ok (.aload_n 0, 1) := by decide +kernel
theorem dL_418 : decode code 418 = .ok (.iload_n 3, 1) := by decide +kernel
theorem dL_419 : decode code 419 = .ok (.iconst 1, 1) := by decide +kernel
theorem dL_420 : decode code 420 = .ok (.iadd, 1) := by decide +kernel
theorem dL_421 : decode code 421 = .ok (.iaload, 1) := by decide +kernel
theorem dL_422 : decode code 422 = .ok (.aload_n 0, 1) := by decide +kernel
theorem dL_423 : decode code 423 = .ok (.iload_n 3, 1) := by decide +kernel
theorem dL_424 : decode code 424 = .ok (.iconst 2, 1) := by decide +kernel
theorem dL_425 : decode code 425 = .ok (.iadd, 1) := by decide +kernel
theorem dL_426 : decode code 426 = .ok (.iaload, 1) := by decide +kernel
theorem dL_427 : decode code 427 = .ok (.invokevirtual 57, 3) := by decide +kernel
theorem dL_430 : decode code 430 = .ok (.aload_n 2, 1) := by decide +kernel
theorem dL_431 : decode code 431 = .ok (.aload_n 0, 1) := by decide +kernel
theorem dL_432 : decode code 432 = .ok (.iload_n 3, 1) := by decide +kernel
theorem dL_433 : decode code 433 = .ok (.iconst 1, 1) := by decide +kernel
theorem dL_434 : decode code 434 = .ok (.iadd, 1) := by decide +kernel
theorem dL_435 : decode code 435 = .ok (.iaload, 1) := by decide +kernel
theorem dL_436 : decode code 436 = .ok (.aload_n 0, 1) := by decide +kernel
theorem dL_437 : decode code 437 = .ok (.iload_n 3, 1) := by decide +kernel
theorem dL_438 : decode code 438 = .ok (.iconst 2, 1) := by decide +kernel
theorem dL_439 : decode code 439 = .ok (.iadd, 1) := by decide +kernel
theorem dL_440 : decode code 440 = .ok (.iaload, 1) := by decide +kernel
theorem dL_441 : decode code 441 = .ok (.invokevirtual 61, 3) := by decide +kernel
theorem dL_444 : decode code 444 = .ok (.if_icmp .eq 278, 3) := by decide +kernel
theorem dL_447 : decode code 447 = .ok (.iconst 0, 1) := by decide +kernel
theorem dL_448 : decode code 448 = .ok (.ireturn, 1) := by decide +kernel
theorem dL_449 : decode code 449 = .ok (.aload_n 1, 1) := by decide +kernel
theorem dL_450 : decode code 450 = .ok (.aload_n 0, 1) := by decide +kernel
theorem dL_451 : decode code 451 = .ok (.iload_n 3, 1) := by decide +kernel
theorem dL_452 : decode code 452 = .ok (.iconst 1, 1) := by decide +kernel
theorem dL_453 : decode code 453 = .ok (.iadd, 1) := by decide +kernel
theorem dL_454 : decode code 454 = .ok (.iaload, 1) := by decide +kernel
theorem dL_455 : decode code 455 = .ok (.aload_n 0, 1) := by decide +kernel
theorem dL_456 : decode code 456 = .ok (.iload_n 3, 1) := by decide +kernel
theorem dL_457 : decode code 457 = .ok (.iconst 2, 1) := by decide +kernel
theorem dL_458 : decode code 458 = .ok (.iadd, 1) := by decide +kernel
theorem dL_459 : decode code 459 = .ok (.iaload, 1) := by decide +kernel
theorem dL_460 : decode code 460 = .ok (.invokevirtual 62, 3) := by decide +kernel
theorem dL_463 : decode code 463 = .ok (.aload_n 2, 1) := by decide +kernel
theorem dL_464 : decode code 464 = .ok (.aload_n 0, 1) := by decide +kernel
theorem dL_465 : decode code 465 = .ok (.iload_n 3, 1) := by decide +kernel
theorem dL_466 : decode code 466 = .ok (.iconst 1, 1) := by decide +kernel
theorem dL_467 : decode code 467 = .ok (.iadd, 1) := by decide +kernel
theorem dL_468 : decode code 468 = .ok (.iaload, 1) := by decide +kernel
theorem dL_469 : decode code 469 = .ok (.aload_n 0, 1) := by decide +kernel
theorem dL_470 : decode code 470 = .ok (.iload_n 3, 1) := by decide +kernel
theorem dL_471 : decode code 471 = .ok (.iconst 2, 1) := by decide +kernel
theorem dL_472 : decode code 472 = .ok (.iadd, 1) := by decide +kernel
theorem dL_473 : decode code 473 = .ok (.iaload, 1) := by decide +kernel
theorem dL_474 : decode code 474 = .ok (.invokevirtual 65, 3) := by decide +kernel
theorem dL_477 : decode code 477 = .ok (.if_icmp .eq 245, 3) := by decide +kernel
theorem dL_480 : decode code 480 = .ok (.iconst 0, 1) := by decide +kernel
theorem dL_481 : decode code 481 = .ok (.ireturn, 1) := by decide +kernel
theorem dL_482 : decode code 482 = .ok (.aload_n 1, 1) := by decide +kernel
theorem dL_483 : decode code 483 = .ok (.invokevirtual 66, 3) := by decide +kernel
theorem dL_486 : decode code 486 = .ok (.aload_n 2, 1) := by decide +kernel
theorem dL_487 : decode code 487 = .ok (.invokevirtual 69, 3) := by decide +kernel
theorem dL_490 : decode code 490 = .ok (.if_icmp .eq 232, 3) := by decide +kernel
theorem dL_493 : decode code 493 = .ok (.iconst 0, 1) := by decide +kernel
theorem dL_494 : decode code 494 = .ok (.ireturn, 1) := by decide +kernel
theorem dL_495 : decode code 495 = .ok (.aload_n 1, 1) := by decide +kernel
theorem dL_496 : decode code 496 = .ok (.aload_n 0, 1) := by decide +kernel
theorem dL_497 : decode code 497 = .ok (.iload_n 3, 1) := by decide +kernel
theorem dL_498 : decode code 498 = .ok (.iconst 1, 1) := by decide +kernel
theorem dL_499 : decode code 499 = .ok (.iadd, 1) := by decide +kernel
theorem dL_500 : decode code 500 = .ok (.iaload, 1) := by decide +kernel
theorem dL_501 : decode code 501 = .ok (.aload_n 0, 1) := by decide +kernel
theorem dL_502 : decode code 502 = .ok (.iload_n 3, 1) := by decide +kernel
theorem dL_503 : decode code 503 = .ok (.iconst 2, 1) := by decide +kernel
theorem dL_504 : decode code 504 = .ok (.iadd, 1) := by decide +kernel
theorem dL_505 : decode code 505 = .ok (.iaload, 1) := by decide +kernel
theorem dL_506 : decode code 506 = .ok (.invokevirtual 70, 3) := by decide +kernel
theorem dL_509 : decode code 509 = .ok (.aload_n 2, 1) := by decide +kernel
theorem dL_510 : decode code 510 = .ok (.aload_n 0, 1) := by decide +kernel
theorem dL_511 : decode code 511 = .ok (.iload_n 3, 1) := by decide +kernel
theorem dL_512 : decode code 512 = .ok (.iconst 1, 1) := by decide +kernel
theorem dL_513 : decode code 513 = .ok (.iadd, 1) := by decide +kernel
theorem dL_514 : decode code 514 = .ok (.iaload, 1) := by decide +kernel
theorem dL_515 : decode code 515 = .ok (.aload_n 0, 1) := by decide +kernel
theorem dL_516 : decode code 516 = .ok (.iload_n 3, 1) := by decide +kernel
theorem dL_517 : decode code 517 = .ok (.iconst 2, 1) := by decide +kernel
theorem dL_518 : decode code 518 = .ok (.iadd, 1) := by decide +kernel
theorem dL_519 : decode code 519 = .ok (.iaload, 1) := by decide +kernel
theorem dL_520 : decode code 520 = .ok (.invokevirtual 73, 3) := by decide +kernel
theorem dL_523 : decode code 523 = .ok (.if_icmp .eq 199, 3) := by decide +kernel
theorem dL_526 : decode code 526 = .ok (.iconst 0, 1) := by decide +kernel
theorem dL_527 : decode code 527 = .ok (.ireturn, 1) := by decide +kernel
theorem dL_528 : decode code 528 = .ok (.aload_n 1, 1) := by decide +kernel
theorem dL_529 : decode code 529 = .ok (.invokevirtual 74, 3) := by decide +kernel
theorem dL_532 : decode code 532 = .ok (.aload_n 2, 1) := by decide +kernel
theorem dL_533 : decode code 533 = .ok (.invokevirtual 77, 3) := by decide +kernel
theorem dL_536 : decode code 536 = .ok (.if_icmp .eq 186, 3) := by decide +kernel
theorem dL_539 : decode code 539 = .ok (.iconst 0, 1) := by decide +kernel
theorem dL_540 : decode code 540 = .ok (.ireturn, 1) := by decide +kernel
theorem dL_541 : decode code 541 = .ok (.aload_n 1, 1) := by decide +kernel
theorem dL_542 : decode code 542 = .ok (.aload_n 0, 1) := by decide +kernel
theorem dL_543 : decode code 543 = .ok (.iload_n 3, 1) := by decide +kernel
theorem dL_544 : decode code 544 = .ok (.iconst 1, 1) := by decide +kernel
theorem dL_545 : decode code 545 = .ok (.iadd, 1) := by decide +kernel
theorem dL_546 : decode code 546 = .ok (.iaload, 1) := by decide +kernel
theorem dL_547 : decode code 547 = .ok (.invokevirtual 78, 3) := by decide +kernel
theorem dL_550 : decode code 550 = .ok (.aload_n 2, 1) := by decide +kernel
theorem dL_551 : decode code 551 = .ok (.aload_n 0, 1) := by decide +kernel
theorem dL_552 : decode code 552 = .ok (.iload_n 3, 1) := by decide +kernel
theorem dL_553 : decode code 553 = .ok (.iconst 1, 1) := by decide +kernel
theorem dL_554 : decode code 554 = .ok (.iadd, 1) := by decide +kernel
theorem dL_555 : decode code 555 = .ok (.iaload, 1) := by decide +kernel
theorem dL_556 : decode code 556 = .ok (.invokevirtual 81, 3) := by decide +kernel
theorem dL_559 : decode code 559 = .ok (.if_icmp .eq 163, 3) := by decide +kernel
theorem dL_562 : decode code 562 = .ok (.iconst 0, 1) := by decide +kernel
theorem dL_563 : decode code 563 = .ok (.ireturn, 1) := by decide +kernel
theorem dL_564 : decode code 564 = .ok (.aload_n 1, 1) := by decide +kernel
theorem dL_565 : decode code 565 = .ok (.aload_n 0, 1) := by decide +kernel
theorem dL_566 : decode code 566 = .ok (.iload_n 3, 1) := by decide +kernel
theorem dL_567 : decode code 567 = .ok (.iconst 1, 1) := by decide +kernel
theorem dL_568 : decode code 568 = .ok (.iadd, 1) := by decide +kernel
theorem dL_569 : decode code 569 = .ok (.iaload, 1) := by decide +kernel
theorem dL_570 : decode code 570 = .ok (.invokevirtual 82, 3) := by decide +kernel
theorem dL_573 : decode code 573 = .ok (.aload_n 2, 1) := by decide +kernel
theorem dL_574 : decode code 574 = .ok (.aload_n 0, 1) := by decide +kernel
theorem dL_575 : decode code 575 = .ok (.iload_n 3, 1) := by decide +kernel
theorem dL_576 : decode code 576 = .ok (.iconst 1, 1) := by decide +kernel
theorem dL_577 : decode code 577 = .ok (.iadd, 1) := by decide +kernel
theorem dL_578 : decode code 578 = .ok (.iaload, 1) := by decide +kernel
theorem dL_579 : decode code 579 = .ok (.invokevirtual 86, 3) := by decide +kernel
theorem dL_582 : decode code 582 = .ok (.if_icmp .eq 140, 3) := by decide +kernel
theorem dL_585 : decode code 585 = .ok (.iconst 0, 1) := by decide +kernel
theorem dL_586 : decode code 586 = .ok (.ireturn, 1) := by decide +kernel
theorem dL_587 : decode code 587 = .ok (.aload_n 1, 1) := by decide +kernel
theorem dL_588 : decode code 588 = .ok (.aload_n 0, 1) := by decide +kernel
theorem dL_589 : decode code 589 = .ok (.iload_n 3, 1) := by decide +kernel
theorem dL_590 : decode code 590 = .ok (.iconst 1, 1) := by decide +kernel
theorem dL_591 : decode code 591 = .ok (.iadd, 1) := by decide +kernel
theorem dL_592 : decode code 592 = .ok (.iaload, 1) := by decide +kernel
theorem dL_593 : decode code 593 = .ok (.invokevirtual 87, 3) := by decide +kernel
theorem dL_596 : decode code 596 = .ok (.aload_n 2, 1) := by decide +kernel
theorem dL_597 : decode code 597 = .ok (.aload_n 0, 1) := by decide +kernel
theorem dL_598 : decode code 598 = .ok (.iload_n 3, 1) := by decide +kernel
theorem dL_599 : decode code 599 = .ok (.iconst 1, 1) := by decide +kernel
theorem dL_600 : decode code 600 = .ok (.iadd, 1) := by decide +kernel
theorem dL_601 : decode code 601 = .ok (.iaload, 1) := by decide +kernel
theorem dL_602 : decode code 602 = .ok (.invokevirtual 90, 3) := by decide +kernel
theorem dL_605 : decode code 605 = .ok (.if_icmp .eq 117, 3) := by decide +kernel
theorem dL_608 : decode code 608 = .ok (.iconst 0, 1) := by decide +kernel
theorem dL_609 : decode code 609 = .ok (.ireturn, 1) := by decide +kernel
theorem dL_610 : decode code 610 = .ok (.aload_n 1, 1) := by decide +kernel
theorem dL_611 : decode code 611 = .ok (.aload_n 0, 1) := by decide +kernel
theorem dL_612 : decode code 612 = .ok (.iload_n 3, 1) := by decide +kernel
theorem dL_613 : decode code 613 = .ok (.iconst 1, 1) := by decide +kernel
theorem dL_614 : decode code 614 = .ok (.iadd, 1) := by decide +kernel
theorem dL_615 : decode code 615 = .ok (.iaload, 1) := by decide +kernel
theorem dL_616 : decode code 616 = .ok (.invokevirtual 91, 3) := by decide +kernel
theorem dL_619 : decode code 619 = .ok (.aload_n 2, 1) := by decide +kernel
theorem dL_620 : decode code 620 = .ok (.aload_n 0, 1) := by decide +kernel
theorem dL_621 : decode code 621 = .ok (.iload_n 3, 1) := by decide +kernel
theorem dL_622 : decode code 622 = .ok (.iconst 1, 1) := by decide +kernel
theorem dL_623 : decode code 623 = .ok (.iadd, 1) := by decide +kernel
theorem dL_624 : decode code 624 = .ok (.iaload, 1) := by decide +kernel
theorem dL_625 : decode code 625 = .ok (.invokevirtual 94, 3) := by decide +kernel
theorem dL_628 : decode code 628 = .ok (.if_icmp .eq 94, 3) := by decide +kernel
theorem dL_631 : decode code 631 = .ok (.iconst 0, 1) := by decide +kernel
theorem dL_632 : decode code 632 = .ok (.ireturn, 1) := by decide +kernel
theorem dL_633 : decode code 633 = .ok (.aload_n 1, 1) := by decide +kernel
theorem dL_634 : decode code 634 = .ok (.aload_n 0, 1) := by decide +kernel
theorem dL_635 : decode code 635 = .ok (.iload_n 3, 1) := by decide +kernel
theorem dL_636 : decode code 636 = .ok (.iconst 1, 1) := by decide +kernel
theorem dL_637 : decode code 637 = .ok (.iadd, 1) := by decide +kernel
theorem dL_638 : decode code 638 = .ok (.iaload, 1) := by decide +kernel
theorem dL_639 : decode code 639 = .ok (.aload_n 0, 1) := by decide +kernel
theorem dL_640 : decode code 640 = .ok (.iload_n 3, 1) := by decide +kernel
theorem dL_641 : decode code 641 = .ok (.iconst 2, 1) := by decide +kernel
theorem dL_642 : decode code 642 = .ok (.iadd, 1) := by decide +kernel
theorem dL_643 : decode code 643 = .ok (.iaload, 1) := by decide +kernel
theorem dL_644 : decode code 644 = .ok (.invokevirtual 95, 3) := by decide +kernel
theorem dL_647 : decode code 647 = .ok (.aload_n 2, 1) := by decide +kernel
theorem dL_648 : decode code 648 = .ok (.aload_n 0, 1) := by decide +kernel
theorem dL_649 : decode code 649 = .ok (.iload_n 3, 1) := by decide +kernel
theorem dL_650 : decode code 650 = .ok (.iconst 1, 1) := by decide +kernel
theorem dL_651 : decode code 651 = .ok (.iadd, 1) := by decide +kernel
theorem dL_652 : decode code 652 = .ok (.iaload, 1) := by decide +kernel
theorem dL_653 : decode code 653 = .ok (.aload_n 0, 1) := by decide +kernel
theorem dL_654 : decode code 654 = .ok (.iload_n 3, 1) := by decide +kernel
theorem dL_655 : decode code 655 = .ok (.iconst 2, 1) := by decide +kernel
theorem dL_656 : decode code 656 = .ok (.iadd, 1) := by decide +kernel
theorem dL_657 : decode code 657 = .ok (.iaload, 1) := by decide +kernel
theorem dL_658 : decode code 658 = .ok (.invokevirtual 98, 3) := by decide +kernel
theorem dL_661 : decode code 661 = .ok (.if_icmp .eq 61, 3) := by decide +kernel
theorem dL_664 : decode code 664 = .ok (.iconst 0, 1) := by decide +kernel
theorem dL_665 : decode code 665 = .ok (.ireturn, 1) := by decide +kernel
theorem dL_666 : decode code 666 = .ok (.aload_n 1, 1) := by decide +kernel
theorem dL_667 : decode code 667 = .ok (.aload_n 0, 1) := by decide +kernel
theorem dL_668 : decode code 668 = .ok (.iload_n 3, 1) := by decide +kernel
theorem dL_669 : decode code 669 = .ok (.iconst 1, 1) := by decide +kernel
theorem dL_670 : decode code 670 = .ok (.iadd, 1) := by decide +kernel
theorem dL_671 : decode code 671 = .ok (.iaload, 1) := by decide +kernel
theorem dL_672 : decode code 672 = .ok (.aload_n 0, 1) := by decide +kernel
theorem dL_673 : decode code 673 = .ok (.iload_n 3, 1) := by decide +kernel
theorem dL_674 : decode code 674 = .ok (.iconst 2, 1) := by decide +kernel
theorem dL_675 : decode code 675 = .ok (.iadd, 1) := by decide +kernel
theorem dL_676 : decode code 676 = .ok (.iaload, 1) := by decide +kernel
theorem dL_677 : decode code 677 = .ok (.invokevirtual 99, 3) := by decide +kernel
theorem dL_680 : decode code 680 = .ok (.aload_n 2, 1) := by decide +kernel
theorem dL_681 : decode code 681 = .ok (.aload_n 0, 1) := by decide +kernel
theorem dL_682 : decode code 682 = .ok (.iload_n 3, 1) := by decide +kernel
theorem dL_683 : decode code 683 = .ok (.iconst 1, 1) := by decide +kernel
theorem dL_684 : decode code 684 = .ok (.iadd, 1) := by decide +kernel
theorem dL_685 : decode code 685 = .ok (.iaload, 1) := by decide +kernel
theorem dL_686 : decode code 686 = .ok (.aload_n 0, 1) := by decide +kernel
theorem dL_687 : decode code 687 = .ok (.iload_n 3, 1) := by decide +kernel
theorem dL_688 : decode code 688 = .ok (.iconst 2, 1) := by decide +kernel
theorem dL_689 : decode code 689 = .ok (.iadd, 1) := by decide +kernel
theorem dL_690 : decode code 690 = .ok (.iaload, 1) := by decide +kernel
theorem dL_691 : decode code 691 = .ok (.invokevirtual 102, 3) := by decide +kernel
theorem dL_694 : decode code 694 = .ok (.if_icmp .eq 28, 3) := by decide +kernel
theorem dL_697 : decode code 697 = .ok (.iconst 0, 1) := by decide +kernel
theorem dL_698 : decode code 698 = .ok (.ireturn, 1) := by decide +kernel
theorem dL_699 : decode code 699 = .ok (.aload_n 1, 1) := by decide +kernel
theorem dL_700 : decode code 700 = .ok (.aload_n 0, 1) := by decide +kernel
theorem dL_701 : decode code 701 = .ok (.iload_n 3, 1) := by decide +kernel
theorem dL_702 : decode code 702 = .ok (.iconst 1, 1) := by decide +kernel
theorem dL_703 : decode code 703 = .ok (.iadd, 1) := by decide +kernel
theorem dL_704 : decode code 704 = .ok (.iaload, 1) := by decide +kernel
theorem dL_705 : decode code 705 = .ok (.invokevirtual 103, 3) := by decide +kernel
theorem dL_708 : decode code 708 = .ok (.aload_n 2, 1) := by decide +kernel
theorem dL_709 : decode code 709 = .ok (.aload_n 0, 1) := by decide +kernel
theorem dL_710 : decode code 710 = .ok (.iload_n 3, 1) := by decide +kernel
theorem dL_711 : decode code 711 = .ok (.iconst 1, 1) := by decide +kernel
theorem dL_712 : decode code 712 = .ok (.iadd, 1) := by decide +kernel
theorem dL_713 : decode code 713 = .ok (.iaload, 1) := by decide +kernel
theorem dL_714 : decode code 714 = .ok (.invokevirtual 106, 3) := by decide +kernel
theorem dL_717 : decode code 717 = .ok (.if_icmp .eq 5, 3) := by decide +kernel
theorem dL_720 : decode code 720 = .ok (.iconst 0, 1) := by decide +kernel
theorem dL_721 : decode code 721 = .ok (.ireturn, 1) := by decide +kernel
theorem dL_722 : decode code 722 = .ok (.iinc 3 6, 3) := by decide +kernel
theorem dL_725 : decode code 725 = .ok (.goto (-707), 3) := by decide +kernel
theorem dL_728 : decode code 728 = .ok (.iconst 1, 1) := by decide +kernel
theorem dL_729 : decode code 729 = .ok (.ireturn, 1) := by decide +kernel
theorem Wx_sldN {b L : Nat} {xs : Nat → Int32} {n pc : Nat} {lv st : List Value} {σ : Hp} {x : Int32} (hd : decode code pc = .ok (.iaload, 1)) (j : Nat) (hx : x = nI j) (hj : j < L) (hL : L ≤ 384) (k : Wx (SL b L xs) n (pc + 1) lv (.int (xs j) :: st) σ) : Wx (SL b L xs) n pc lv (.int x :: .retAddr (b + 1) :: st) σ := by
  subst hx
  refine Wx_sld hd (vp_in_nI hj (by omega)) ?_
  rw [nI_clamp (by omega)]
  exact k
theorem nI_k (i k : Nat) {x : Int32} (h : x = nI k) : nI i + x = nI (i + k) := by rw [h, nI_add]
set_option maxRecDepth 100000 in
theorem law_c0 {b L : Nat} {xs : Nat → Int32} {i : Nat} {σ τ1 τ2 : Hp} {r : Int32} (hi : i + 6 ≤ L) (hL : L ≤ 384) (hx : Cx yX11_feed cX11_feed 6 (some .int) 900 122 122 [.ref 0, .int (xs (i + 1)), .int (xs (i + 2)), .int (xs (i + 3)), .int (xs (i + 4)), .int (xs (i + 5))] σ (fun o τ => o = .inl (some (.int r)) ∧ τ = τ1)) (hm : Cx yX14_feed cX14_feed 8 (some .int) 900 122 122 [.ref 66, .int (xs (i + 1)), .int (xs (i + 2)), .int (xs (i + 3)), .int (xs (i + 4)), .int (xs (i + 5))] τ1 (fun o τ => o = .inl (some (.int r)) ∧ τ = τ2)) (k : Wx (SL b L xs) 122 18 [.retAddr (b + 1), .ref 0, .ref 66, .int (nI (i + 6))] [] τ2) : Wx (SL b L xs) 122 136 [.retAddr (b + 1), .ref 0, .ref 66, .int (nI i)] [] σ := by
  refine Wx_aload1 dL_136 ?_
  refine Wx_aload0X dL_137 ?_
  refine Wx_iload3 dL_138 ?_
  refine Wx_iconst (v := 1) dL_139 (by decide) ?_
  refine Wx_iadd dL_140 ?_
  refine Wx_sldN dL_141 (i + 1) (nI_k i 1 (by decide)) (by omega) hL ?_
  refine Wx_aload0X dL_142 ?_
  refine Wx_iload3 dL_143 ?_
  refine Wx_iconst (v := 2) dL_144 (by decide) ?_
  refine Wx_iadd dL_145 ?_
  refine Wx_sldN dL_146 (i + 2) (nI_k i 2 (by decide)) (by omega) hL ?_
  refine Wx_aload0X dL_147 ?_
  refine Wx_iload3 dL_148 ?_
  refine Wx_iconst (v := 3) dL_149 (by decide) ?_
  refine Wx_iadd dL_150 ?_
  refine Wx_sldN dL_151 (i + 3) (nI_k i 3 (by decide)) (by omega) hL ?_
  refine Wx_aload0X dL_152 ?_
  refine Wx_iload3 dL_153 ?_
  refine Wx_iconst (v := 4) dL_154 (by decide) ?_
  refine Wx_iadd dL_155 ?_
  refine Wx_sldN dL_156 (i + 4) (nI_k i 4 (by decide)) (by omega) hL ?_
  refine Wx_aload0X dL_157 ?_
  refine Wx_iload3 dL_158 ?_
  refine Wx_iconst (v := 5) dL_159 (by decide) ?_
  refine Wx_iadd dL_160 ?_
  refine Wx_sldN dL_161 (i + 5) (nI_k i 5 (by decide)) (by omega) hL ?_
  refine Wx_callV (S := SL b L xs) 0 11 [.int (xs (i + 1)), .int (xs (i + 2)), .int (xs (i + 3)), .int (xs (i + 4)), .int (xs (i + 5))] 5 m_X11_feed l_L_13 i_X11_feed rfl rfl (Nat.le_of_ble_eq_true rfl) dL_162 hx (show 900 + 1 ≤ 1000 by decide) (Nat.le_refl _) (show 122 ≤ 122 from Nat.le_refl _) rfl (Nat.le_of_ble_eq_true rfl) rfl (fun _ _ h => by cases h.1) (fun v τ h => ?_)
  obtain ⟨h1, rfl⟩ := h
  cases h1
  refine Wx_aload2 dL_165 ?_
  refine Wx_aload0X dL_166 ?_
  refine Wx_iload3 dL_167 ?_
  refine Wx_iconst (v := 1) dL_168 (by decide) ?_
  refine Wx_iadd dL_169 ?_
  refine Wx_sldN dL_170 (i + 1) (nI_k i 1 (by decide)) (by omega) hL ?_
  refine Wx_aload0X dL_171 ?_
  refine Wx_iload3 dL_172 ?_
  refine Wx_iconst (v := 2) dL_173 (by decide) ?_
  refine Wx_iadd dL_174 ?_
  refine Wx_sldN dL_175 (i + 2) (nI_k i 2 (by decide)) (by omega) hL ?_
  refine Wx_aload0X dL_176 ?_
  refine Wx_iload3 dL_177 ?_
  refine Wx_iconst (v := 3) dL_178 (by decide) ?_
  refine Wx_iadd dL_179 ?_
  refine Wx_sldN dL_180 (i + 3) (nI_k i 3 (by decide)) (by omega) hL ?_
  refine Wx_aload0X dL_181 ?_
  refine Wx_iload3 dL_182 ?_
  refine Wx_iconst (v := 4) dL_183 (by decide) ?_
  refine Wx_iadd dL_184 ?_
  refine Wx_sldN dL_185 (i + 4) (nI_k i 4 (by decide)) (by omega) hL ?_
  refine Wx_aload0X dL_186 ?_
  refine Wx_iload3 dL_187 ?_
  refine Wx_iconst (v := 5) dL_188 (by decide) ?_
  refine Wx_iadd dL_189 ?_
  refine Wx_sldN dL_190 (i + 5) (nI_k i 5 (by decide)) (by omega) hL ?_
  refine Wx_callV (S := SL b L xs) 66 14 [.int (xs (i + 1)), .int (xs (i + 2)), .int (xs (i + 3)), .int (xs (i + 4)), .int (xs (i + 5))] 5 m_X14_feed l_L_17 i_X14_feed rfl rfl (Nat.le_of_ble_eq_true rfl) dL_191 hm (show 900 + 1 ≤ 1000 by decide) (Nat.le_refl _) (show 122 ≤ 122 from Nat.le_refl _) rfl (Nat.le_of_ble_eq_true rfl) rfl (fun _ _ h => by cases h.1) (fun v τ h => ?_)
  obtain ⟨h1, rfl⟩ := h
  cases h1
  refine Wx_icmp_eq 722 dL_194 (by decide) (fun _ => ?_) (fun q => absurd rfl q)
  refine Wx_iinc3 dL_722 rfl (Nat.le_of_ble_eq_true rfl) ?_
  refine Wx_goto 18 dL_725 (by decide) ?_
  rw [nI_k i 6 (by decide)]
  exact k
set_option maxRecDepth 100000 in
theorem law_c1 {b L : Nat} {xs : Nat → Int32} {i : Nat} {σ τ1 τ2 : Hp} {r : Int32} (hi : i + 6 ≤ L) (hL : L ≤ 384) (hx : Cx yX11_end cX11_end 2 (some .int) 900 122 122 [.ref 0, .int (xs (i + 1))] σ (fun o τ => o = .inl (some (.int r)) ∧ τ = τ1)) (hm : Cx yX14_end cX14_end 2 (some .int) 900 122 122 [.ref 66, .int (xs (i + 1))] τ1 (fun o τ => o = .inl (some (.int r)) ∧ τ = τ2)) (k : Wx (SL b L xs) 122 18 [.retAddr (b + 1), .ref 0, .ref 66, .int (nI (i + 6))] [] τ2) : Wx (SL b L xs) 122 199 [.retAddr (b + 1), .ref 0, .ref 66, .int (nI i)] [] σ := by
  refine Wx_aload1 dL_199 ?_
  refine Wx_aload0X dL_200 ?_
  refine Wx_iload3 dL_201 ?_
  refine Wx_iconst (v := 1) dL_202 (by decide) ?_
  refine Wx_iadd dL_203 ?_
  refine Wx_sldN dL_204 (i + 1) (nI_k i 1 (by decide)) (by omega) hL ?_
  refine Wx_callV (S := SL b L xs) 0 11 [.int (xs (i + 1))] 1 m_X11_end l_L_18 i_X11_end rfl rfl (Nat.le_of_ble_eq_true rfl) dL_205 hx (show 900 + 1 ≤ 1000 by decide) (Nat.le_refl _) (show 122 ≤ 122 from Nat.le_refl _) rfl (Nat.le_of_ble_eq_true rfl) rfl (fun _ _ h => by cases h.1) (fun v τ h => ?_)
  obtain ⟨h1, rfl⟩ := h
  cases h1
  refine Wx_aload2 dL_208 ?_
  refine Wx_aload0X dL_209 ?_
  refine Wx_iload3 dL_210 ?_
  refine Wx_iconst (v := 1) dL_211 (by decide) ?_
  refine Wx_iadd dL_212 ?_
  refine Wx_sldN dL_213 (i + 1) (nI_k i 1 (by decide)) (by omega) hL ?_
  refine Wx_callV (S := SL b L xs) 66 14 [.int (xs (i + 1))] 1 m_X14_end l_L_22 i_X14_end rfl rfl (Nat.le_of_ble_eq_true rfl) dL_214 hm (show 900 + 1 ≤ 1000 by decide) (Nat.le_refl _) (show 122 ≤ 122 from Nat.le_refl _) rfl (Nat.le_of_ble_eq_true rfl) rfl (fun _ _ h => by cases h.1) (fun v τ h => ?_)
  obtain ⟨h1, rfl⟩ := h
  cases h1
  refine Wx_icmp_eq 722 dL_217 (by decide) (fun _ => ?_) (fun q => absurd rfl q)
  refine Wx_iinc3 dL_722 rfl (Nat.le_of_ble_eq_true rfl) ?_
  refine Wx_goto 18 dL_725 (by decide) ?_
  rw [nI_k i 6 (by decide)]
  exact k
set_option maxRecDepth 100000 in
theorem law_c2 {b L : Nat} {xs : Nat → Int32} {i : Nat} {σ τ1 τ2 : Hp} {r : Int32} (hi : i + 6 ≤ L) (hL : L ≤ 384) (hx : Cx yX11_grammar cX11_grammar 4 (some .int) 900 122 122 [.ref 0] σ (fun o τ => o = .inl (some (.int r)) ∧ τ = τ1)) (hm : ∀ (pc : Nat) (lv st : List Value), decode code pc = .ok (.invokevirtual 27, 3) → wsum st ≤ 8 → Wx (SL b L xs) 122 (pc + 3) lv (.int r :: st) τ2 → Wx (SL b L xs) 122 pc lv (.ref 66 :: st) τ1) (k : Wx (SL b L xs) 122 18 [.retAddr (b + 1), .ref 0, .ref 66, .int (nI (i + 6))] [] τ2) : Wx (SL b L xs) 122 222 [.retAddr (b + 1), .ref 0, .ref 66, .int (nI i)] [] σ := by
  refine Wx_aload1 dL_222 ?_
  refine Wx_callV (S := SL b L xs) 0 11 [] 0 m_X11_grammar l_L_23 i_X11_grammar rfl rfl (Nat.le_of_ble_eq_true rfl) dL_223 hx (show 900 + 1 ≤ 1000 by decide) (Nat.le_refl _) (show 122 ≤ 122 from Nat.le_refl _) rfl (Nat.le_of_ble_eq_true rfl) rfl (fun _ _ h => by cases h.1) (fun v τ h => ?_)
  obtain ⟨h1, rfl⟩ := h
  cases h1
  refine Wx_aload2 dL_226 ?_
  refine hm _ _ _ dL_227 (Nat.le_of_ble_eq_true rfl) ?_
  refine Wx_icmp_eq 722 dL_230 (by decide) (fun _ => ?_) (fun q => absurd rfl q)
  refine Wx_iinc3 dL_722 rfl (Nat.le_of_ble_eq_true rfl) ?_
  refine Wx_goto 18 dL_725 (by decide) ?_
  rw [nI_k i 6 (by decide)]
  exact k
set_option maxRecDepth 100000 in
theorem law_c3 {b L : Nat} {xs : Nat → Int32} {i : Nat} {σ τ1 τ2 : Hp} {r : Int32} (hi : i + 6 ≤ L) (hL : L ≤ 384) (hx : Cx yX11_fault cX11_fault 2 (some .int) 900 122 122 [.ref 0, .int (xs (i + 1))] σ (fun o τ => o = .inl (some (.int r)) ∧ τ = τ1)) (hm : Cx yX14_fault_ cX14_fault_ 2 (some .int) 900 122 122 [.ref 66, .int (xs (i + 1))] τ1 (fun o τ => o = .inl (some (.int r)) ∧ τ = τ2)) (k : Wx (SL b L xs) 122 18 [.retAddr (b + 1), .ref 0, .ref 66, .int (nI (i + 6))] [] τ2) : Wx (SL b L xs) 122 235 [.retAddr (b + 1), .ref 0, .ref 66, .int (nI i)] [] σ := by
  refine Wx_aload1 dL_235 ?_
  refine Wx_aload0X dL_236 ?_
  refine Wx_iload3 dL_237 ?_
  refine Wx_iconst (v := 1) dL_238 (by decide) ?_
  refine Wx_iadd dL_239 ?_
  refine Wx_sldN dL_240 (i + 1) (nI_k i 1 (by decide)) (by omega) hL ?_
  refine Wx_callV (S := SL b L xs) 0 11 [.int (xs (i + 1))] 1 m_X11_fault l_L_28 i_X11_fault rfl rfl (Nat.le_of_ble_eq_true rfl) dL_241 hx (show 900 + 1 ≤ 1000 by decide) (Nat.le_refl _) (show 122 ≤ 122 from Nat.le_refl _) rfl (Nat.le_of_ble_eq_true rfl) rfl (fun _ _ h => by cases h.1) (fun v τ h => ?_)
  obtain ⟨h1, rfl⟩ := h
  cases h1
  refine Wx_aload2 dL_244 ?_
  refine Wx_aload0X dL_245 ?_
  refine Wx_iload3 dL_246 ?_
  refine Wx_iconst (v := 1) dL_247 (by decide) ?_
  refine Wx_iadd dL_248 ?_
  refine Wx_sldN dL_249 (i + 1) (nI_k i 1 (by decide)) (by omega) hL ?_
  refine Wx_callV (S := SL b L xs) 66 14 [.int (xs (i + 1))] 1 m_X14_fault_ l_L_31 i_X14_fault_ rfl rfl (Nat.le_of_ble_eq_true rfl) dL_250 hm (show 900 + 1 ≤ 1000 by decide) (Nat.le_refl _) (show 122 ≤ 122 from Nat.le_refl _) rfl (Nat.le_of_ble_eq_true rfl) rfl (fun _ _ h => by cases h.1) (fun v τ h => ?_)
  obtain ⟨h1, rfl⟩ := h
  cases h1
  refine Wx_icmp_eq 722 dL_253 (by decide) (fun _ => ?_) (fun q => absurd rfl q)
  refine Wx_iinc3 dL_722 rfl (Nat.le_of_ble_eq_true rfl) ?_
  refine Wx_goto 18 dL_725 (by decide) ?_
  rw [nI_k i 6 (by decide)]
  exact k
set_option maxRecDepth 100000 in
theorem law_c4 {b L : Nat} {xs : Nat → Int32} {i : Nat} {σ τ1 τ2 : Hp} {r : Int32} (hi : i + 6 ≤ L) (hL : L ≤ 384) (hx : Cx yX11_count cX11_count 2 (some .int) 900 122 122 [.ref 0, .int (xs (i + 1))] σ (fun o τ => o = .inl (some (.int r)) ∧ τ = τ1)) (hm : Cx yX14_count cX14_count 2 (some .int) 900 122 122 [.ref 66, .int (xs (i + 1))] τ1 (fun o τ => o = .inl (some (.int r)) ∧ τ = τ2)) (k : Wx (SL b L xs) 122 18 [.retAddr (b + 1), .ref 0, .ref 66, .int (nI (i + 6))] [] τ2) : Wx (SL b L xs) 122 258 [.retAddr (b + 1), .ref 0, .ref 66, .int (nI i)] [] σ := by
  refine Wx_aload1 dL_258 ?_
  refine Wx_aload0X dL_259 ?_
  refine Wx_iload3 dL_260 ?_
  refine Wx_iconst (v := 1) dL_261 (by decide) ?_
  refine Wx_iadd dL_262 ?_
  refine Wx_sldN dL_263 (i + 1) (nI_k i 1 (by decide)) (by omega) hL ?_
  refine Wx_callV (S := SL b L xs) 0 11 [.int (xs (i + 1))] 1 m_X11_count l_L_32 i_X11_count rfl rfl (Nat.le_of_ble_eq_true rfl) dL_264 hx (show 900 + 1 ≤ 1000 by decide) (Nat.le_refl _) (show 122 ≤ 122 from Nat.le_refl _) rfl (Nat.le_of_ble_eq_true rfl) rfl (fun _ _ h => by cases h.1) (fun v τ h => ?_)
  obtain ⟨h1, rfl⟩ := h
  cases h1
  refine Wx_aload2 dL_267 ?_
  refine Wx_aload0X dL_268 ?_
  refine Wx_iload3 dL_269 ?_
  refine Wx_iconst (v := 1) dL_270 (by decide) ?_
  refine Wx_iadd dL_271 ?_
  refine Wx_sldN dL_272 (i + 1) (nI_k i 1 (by decide)) (by omega) hL ?_
  refine Wx_callV (S := SL b L xs) 66 14 [.int (xs (i + 1))] 1 m_X14_count l_L_35 i_X14_count rfl rfl (Nat.le_of_ble_eq_true rfl) dL_273 hm (show 900 + 1 ≤ 1000 by decide) (Nat.le_refl _) (show 122 ≤ 122 from Nat.le_refl _) rfl (Nat.le_of_ble_eq_true rfl) rfl (fun _ _ h => by cases h.1) (fun v τ h => ?_)
  obtain ⟨h1, rfl⟩ := h
  cases h1
  refine Wx_icmp_eq 722 dL_276 (by decide) (fun _ => ?_) (fun q => absurd rfl q)
  refine Wx_iinc3 dL_722 rfl (Nat.le_of_ble_eq_true rfl) ?_
  refine Wx_goto 18 dL_725 (by decide) ?_
  rw [nI_k i 6 (by decide)]
  exact k
set_option maxRecDepth 100000 in
theorem law_c5 {b L : Nat} {xs : Nat → Int32} {i : Nat} {σ τ1 τ2 : Hp} {r : Int32} (hi : i + 6 ≤ L) (hL : L ≤ 384) (hx : Cx yX11_rule cX11_rule 3 (some .int) 900 122 122 [.ref 0, .int (xs (i + 1)), .int (xs (i + 2))] σ (fun o τ => o = .inl (some (.int r)) ∧ τ = τ1)) (hm : Cx yX14_rule cX14_rule 3 (some .int) 900 122 122 [.ref 66, .int (xs (i + 1)), .int (xs (i + 2))] τ1 (fun o τ => o = .inl (some (.int r)) ∧ τ = τ2)) (k : Wx (SL b L xs) 122 18 [.retAddr (b + 1), .ref 0, .ref 66, .int (nI (i + 6))] [] τ2) : Wx (SL b L xs) 122 281 [.retAddr (b + 1), .ref 0, .ref 66, .int (nI i)] [] σ := by
  refine Wx_aload1 dL_281 ?_
  refine Wx_aload0X dL_282 ?_
  refine Wx_iload3 dL_283 ?_
  refine Wx_iconst (v := 1) dL_284 (by decide) ?_
  refine Wx_iadd dL_285 ?_
  refine Wx_sldN dL_286 (i + 1) (nI_k i 1 (by decide)) (by omega) hL ?_
  refine Wx_aload0X dL_287 ?_
  refine Wx_iload3 dL_288 ?_
  refine Wx_iconst (v := 2) dL_289 (by decide) ?_
  refine Wx_iadd dL_290 ?_
  refine Wx_sldN dL_291 (i + 2) (nI_k i 2 (by decide)) (by omega) hL ?_
  refine Wx_callV (S := SL b L xs) 0 11 [.int (xs (i + 1)), .int (xs (i + 2))] 2 m_X11_rule l_L_36 i_X11_rule rfl rfl (Nat.le_of_ble_eq_true rfl) dL_292 hx (show 900 + 1 ≤ 1000 by decide) (Nat.le_refl _) (show 122 ≤ 122 from Nat.le_refl _) rfl (Nat.le_of_ble_eq_true rfl) rfl (fun _ _ h => by cases h.1) (fun v τ h => ?_)
  obtain ⟨h1, rfl⟩ := h
  cases h1
  refine Wx_aload2 dL_295 ?_
  refine Wx_aload0X dL_296 ?_
  refine Wx_iload3 dL_297 ?_
  refine Wx_iconst (v := 1) dL_298 (by decide) ?_
  refine Wx_iadd dL_299 ?_
  refine Wx_sldN dL_300 (i + 1) (nI_k i 1 (by decide)) (by omega) hL ?_
  refine Wx_aload0X dL_301 ?_
  refine Wx_iload3 dL_302 ?_
  refine Wx_iconst (v := 2) dL_303 (by decide) ?_
  refine Wx_iadd dL_304 ?_
  refine Wx_sldN dL_305 (i + 2) (nI_k i 2 (by decide)) (by omega) hL ?_
  refine Wx_callV (S := SL b L xs) 66 14 [.int (xs (i + 1)), .int (xs (i + 2))] 2 m_X14_rule l_L_40 i_X14_rule rfl rfl (Nat.le_of_ble_eq_true rfl) dL_306 hm (show 900 + 1 ≤ 1000 by decide) (Nat.le_refl _) (show 122 ≤ 122 from Nat.le_refl _) rfl (Nat.le_of_ble_eq_true rfl) rfl (fun _ _ h => by cases h.1) (fun v τ h => ?_)
  obtain ⟨h1, rfl⟩ := h
  cases h1
  refine Wx_icmp_eq 722 dL_309 (by decide) (fun _ => ?_) (fun q => absurd rfl q)
  refine Wx_iinc3 dL_722 rfl (Nat.le_of_ble_eq_true rfl) ?_
  refine Wx_goto 18 dL_725 (by decide) ?_
  rw [nI_k i 6 (by decide)]
  exact k
set_option maxRecDepth 100000 in
theorem law_c6 {b L : Nat} {xs : Nat → Int32} {i : Nat} {σ τ1 τ2 : Hp} {r : Int32} (hi : i + 6 ≤ L) (hL : L ≤ 384) (hx : Cx yX11_program cX11_program 3 (some .int) 900 122 122 [.ref 0, .int (xs (i + 1)), .int (xs (i + 2))] σ (fun o τ => o = .inl (some (.int r)) ∧ τ = τ1)) (hm : Cx yX14_program cX14_program 3 (some .int) 900 122 122 [.ref 66, .int (xs (i + 1)), .int (xs (i + 2))] τ1 (fun o τ => o = .inl (some (.int r)) ∧ τ = τ2)) (k : Wx (SL b L xs) 122 18 [.retAddr (b + 1), .ref 0, .ref 66, .int (nI (i + 6))] [] τ2) : Wx (SL b L xs) 122 314 [.retAddr (b + 1), .ref 0, .ref 66, .int (nI i)] [] σ := by
  refine Wx_aload1 dL_314 ?_
  refine Wx_aload0X dL_315 ?_
  refine Wx_iload3 dL_316 ?_
  refine Wx_iconst (v := 1) dL_317 (by decide) ?_
  refine Wx_iadd dL_318 ?_
  refine Wx_sldN dL_319 (i + 1) (nI_k i 1 (by decide)) (by omega) hL ?_
  refine Wx_aload0X dL_320 ?_
  refine Wx_iload3 dL_321 ?_
  refine Wx_iconst (v := 2) dL_322 (by decide) ?_
  refine Wx_iadd dL_323 ?_
  refine Wx_sldN dL_324 (i + 2) (nI_k i 2 (by decide)) (by omega) hL ?_
  refine Wx_callV (S := SL b L xs) 0 11 [.int (xs (i + 1)), .int (xs (i + 2))] 2 m_X11_program l_L_41 i_X11_program rfl rfl (Nat.le_of_ble_eq_true rfl) dL_325 hx (show 900 + 1 ≤ 1000 by decide) (Nat.le_refl _) (show 122 ≤ 122 from Nat.le_refl _) rfl (Nat.le_of_ble_eq_true rfl) rfl (fun _ _ h => by cases h.1) (fun v τ h => ?_)
  obtain ⟨h1, rfl⟩ := h
  cases h1
  refine Wx_aload2 dL_328 ?_
  refine Wx_aload0X dL_329 ?_
  refine Wx_iload3 dL_330 ?_
  refine Wx_iconst (v := 1) dL_331 (by decide) ?_
  refine Wx_iadd dL_332 ?_
  refine Wx_sldN dL_333 (i + 1) (nI_k i 1 (by decide)) (by omega) hL ?_
  refine Wx_aload0X dL_334 ?_
  refine Wx_iload3 dL_335 ?_
  refine Wx_iconst (v := 2) dL_336 (by decide) ?_
  refine Wx_iadd dL_337 ?_
  refine Wx_sldN dL_338 (i + 2) (nI_k i 2 (by decide)) (by omega) hL ?_
  refine Wx_callV (S := SL b L xs) 66 14 [.int (xs (i + 1)), .int (xs (i + 2))] 2 m_X14_program l_L_44 i_X14_program rfl rfl (Nat.le_of_ble_eq_true rfl) dL_339 hm (show 900 + 1 ≤ 1000 by decide) (Nat.le_refl _) (show 122 ≤ 122 from Nat.le_refl _) rfl (Nat.le_of_ble_eq_true rfl) rfl (fun _ _ h => by cases h.1) (fun v τ h => ?_)
  obtain ⟨h1, rfl⟩ := h
  cases h1
  refine Wx_icmp_eq 722 dL_342 (by decide) (fun _ => ?_) (fun q => absurd rfl q)
  refine Wx_iinc3 dL_722 rfl (Nat.le_of_ble_eq_true rfl) ?_
  refine Wx_goto 18 dL_725 (by decide) ?_
  rw [nI_k i 6 (by decide)]
  exact k
set_option maxRecDepth 100000 in
theorem law_c7 {b L : Nat} {xs : Nat → Int32} {i : Nat} {σ τ1 τ2 : Hp} {r : Int32} (hi : i + 6 ≤ L) (hL : L ≤ 384) (hx : Cx yX11_set cX11_set 3 (some .int) 900 122 122 [.ref 0, .int (xs (i + 1)), .int (xs (i + 2))] σ (fun o τ => o = .inl (some (.int r)) ∧ τ = τ1)) (hm : Cx yX14_set cX14_set 3 (some .int) 900 122 122 [.ref 66, .int (xs (i + 1)), .int (xs (i + 2))] τ1 (fun o τ => o = .inl (some (.int r)) ∧ τ = τ2)) (k : Wx (SL b L xs) 122 18 [.retAddr (b + 1), .ref 0, .ref 66, .int (nI (i + 6))] [] τ2) : Wx (SL b L xs) 122 347 [.retAddr (b + 1), .ref 0, .ref 66, .int (nI i)] [] σ := by
  refine Wx_aload1 dL_347 ?_
  refine Wx_aload0X dL_348 ?_
  refine Wx_iload3 dL_349 ?_
  refine Wx_iconst (v := 1) dL_350 (by decide) ?_
  refine Wx_iadd dL_351 ?_
  refine Wx_sldN dL_352 (i + 1) (nI_k i 1 (by decide)) (by omega) hL ?_
  refine Wx_aload0X dL_353 ?_
  refine Wx_iload3 dL_354 ?_
  refine Wx_iconst (v := 2) dL_355 (by decide) ?_
  refine Wx_iadd dL_356 ?_
  refine Wx_sldN dL_357 (i + 2) (nI_k i 2 (by decide)) (by omega) hL ?_
  refine Wx_callV (S := SL b L xs) 0 11 [.int (xs (i + 1)), .int (xs (i + 2))] 2 m_X11_set l_L_45 i_X11_set rfl rfl (Nat.le_of_ble_eq_true rfl) dL_358 hx (show 900 + 1 ≤ 1000 by decide) (Nat.le_refl _) (show 122 ≤ 122 from Nat.le_refl _) rfl (Nat.le_of_ble_eq_true rfl) rfl (fun _ _ h => by cases h.1) (fun v τ h => ?_)
  obtain ⟨h1, rfl⟩ := h
  cases h1
  refine Wx_aload2 dL_361 ?_
  refine Wx_aload0X dL_362 ?_
  refine Wx_iload3 dL_363 ?_
  refine Wx_iconst (v := 1) dL_364 (by decide) ?_
  refine Wx_iadd dL_365 ?_
  refine Wx_sldN dL_366 (i + 1) (nI_k i 1 (by decide)) (by omega) hL ?_
  refine Wx_aload0X dL_367 ?_
  refine Wx_iload3 dL_368 ?_
  refine Wx_iconst (v := 2) dL_369 (by decide) ?_
  refine Wx_iadd dL_370 ?_
  refine Wx_sldN dL_371 (i + 2) (nI_k i 2 (by decide)) (by omega) hL ?_
  refine Wx_callV (S := SL b L xs) 66 14 [.int (xs (i + 1)), .int (xs (i + 2))] 2 m_X14_set l_L_48 i_X14_set rfl rfl (Nat.le_of_ble_eq_true rfl) dL_372 hm (show 900 + 1 ≤ 1000 by decide) (Nat.le_refl _) (show 122 ≤ 122 from Nat.le_refl _) rfl (Nat.le_of_ble_eq_true rfl) rfl (fun _ _ h => by cases h.1) (fun v τ h => ?_)
  obtain ⟨h1, rfl⟩ := h
  cases h1
  refine Wx_icmp_eq 722 dL_375 (by decide) (fun _ => ?_) (fun q => absurd rfl q)
  refine Wx_iinc3 dL_722 rfl (Nat.le_of_ble_eq_true rfl) ?_
  refine Wx_goto 18 dL_725 (by decide) ?_
  rw [nI_k i 6 (by decide)]
  exact k
set_option maxRecDepth 100000 in
theorem law_c8 {b L : Nat} {xs : Nat → Int32} {i : Nat} {σ τ1 τ2 : Hp} {r : Int32} (hi : i + 6 ≤ L) (hL : L ≤ 384) (hx : Cx yX11_image cX11_image 2 (some .int) 900 122 122 [.ref 0, .int (xs (i + 1))] σ (fun o τ => o = .inl (some (.int r)) ∧ τ = τ1)) (hm : Cx yX14_image_ cX14_image_ 2 (some .int) 900 122 122 [.ref 66, .int (xs (i + 1))] τ1 (fun o τ => o = .inl (some (.int r)) ∧ τ = τ2)) (k : Wx (SL b L xs) 122 18 [.retAddr (b + 1), .ref 0, .ref 66, .int (nI (i + 6))] [] τ2) : Wx (SL b L xs) 122 380 [.retAddr (b + 1), .ref 0, .ref 66, .int (nI i)] [] σ := by
  refine Wx_aload1 dL_380 ?_
  refine Wx_aload0X dL_381 ?_
  refine Wx_iload3 dL_382 ?_
  refine Wx_iconst (v := 1) dL_383 (by decide) ?_
  refine Wx_iadd dL_384 ?_
  refine Wx_sldN dL_385 (i + 1) (nI_k i 1 (by decide)) (by omega) hL ?_
  refine Wx_callV (S := SL b L xs) 0 11 [.int (xs (i + 1))] 1 m_X11_image l_L_49 i_X11_image rfl rfl (Nat.le_of_ble_eq_true rfl) dL_386 hx (show 900 + 1 ≤ 1000 by decide) (Nat.le_refl _) (show 122 ≤ 122 from Nat.le_refl _) rfl (Nat.le_of_ble_eq_true rfl) rfl (fun _ _ h => by cases h.1) (fun v τ h => ?_)
  obtain ⟨h1, rfl⟩ := h
  cases h1
  refine Wx_aload2 dL_389 ?_
  refine Wx_aload0X dL_390 ?_
  refine Wx_iload3 dL_391 ?_
  refine Wx_iconst (v := 1) dL_392 (by decide) ?_
  refine Wx_iadd dL_393 ?_
  refine Wx_sldN dL_394 (i + 1) (nI_k i 1 (by decide)) (by omega) hL ?_
  refine Wx_callV (S := SL b L xs) 66 14 [.int (xs (i + 1))] 1 m_X14_image_ l_L_52 i_X14_image_ rfl rfl (Nat.le_of_ble_eq_true rfl) dL_395 hm (show 900 + 1 ≤ 1000 by decide) (Nat.le_refl _) (show 122 ≤ 122 from Nat.le_refl _) rfl (Nat.le_of_ble_eq_true rfl) rfl (fun _ _ h => by cases h.1) (fun v τ h => ?_)
  obtain ⟨h1, rfl⟩ := h
  cases h1
  refine Wx_icmp_eq 722 dL_398 (by decide) (fun _ => ?_) (fun q => absurd rfl q)
  refine Wx_iinc3 dL_722 rfl (Nat.le_of_ble_eq_true rfl) ?_
  refine Wx_goto 18 dL_725 (by decide) ?_
  rw [nI_k i 6 (by decide)]
  exact k
set_option maxRecDepth 100000 in
theorem law_c9 {b L : Nat} {xs : Nat → Int32} {i : Nat} {σ τ1 τ2 : Hp} {r : Int32} (hi : i + 6 ≤ L) (hL : L ≤ 384) (hx : Cx yX11_subject cX11_subject 1 (some .int) 900 122 122 [.ref 0] σ (fun o τ => o = .inl (some (.int r)) ∧ τ = τ1)) (hm : Cx yX14_subject cX14_subject 2 (some .int) 900 122 122 [.ref 66] τ1 (fun o τ => o = .inl (some (.int r)) ∧ τ = τ2)) (k : Wx (SL b L xs) 122 18 [.retAddr (b + 1), .ref 0, .ref 66, .int (nI (i + 6))] [] τ2) : Wx (SL b L xs) 122 403 [.retAddr (b + 1), .ref 0, .ref 66, .int (nI i)] [] σ := by
  refine Wx_aload1 dL_403 ?_
  refine Wx_callV (S := SL b L xs) 0 11 [] 0 m_X11_subject l_L_53 i_X11_subject rfl rfl (Nat.le_of_ble_eq_true rfl) dL_404 hx (show 900 + 1 ≤ 1000 by decide) (Nat.le_refl _) (show 122 ≤ 122 from Nat.le_refl _) rfl (Nat.le_of_ble_eq_true rfl) rfl (fun _ _ h => by cases h.1) (fun v τ h => ?_)
  obtain ⟨h1, rfl⟩ := h
  cases h1
  refine Wx_aload2 dL_407 ?_
  refine Wx_callV (S := SL b L xs) 66 14 [] 0 m_X14_subject l_L_56 i_X14_subject rfl rfl (Nat.le_of_ble_eq_true rfl) dL_408 hm (show 900 + 1 ≤ 1000 by decide) (Nat.le_refl _) (show 122 ≤ 122 from Nat.le_refl _) rfl (Nat.le_of_ble_eq_true rfl) rfl (fun _ _ h => by cases h.1) (fun v τ h => ?_)
  obtain ⟨h1, rfl⟩ := h
  cases h1
  refine Wx_icmp_eq 722 dL_411 (by decide) (fun _ => ?_) (fun q => absurd rfl q)
  refine Wx_iinc3 dL_722 rfl (Nat.le_of_ble_eq_true rfl) ?_
  refine Wx_goto 18 dL_725 (by decide) ?_
  rw [nI_k i 6 (by decide)]
  exact k
set_option maxRecDepth 100000 in
theorem law_c10 {b L : Nat} {xs : Nat → Int32} {i : Nat} {σ τ1 τ2 : Hp} {r : Int32} (hi : i + 6 ≤ L) (hL : L ≤ 384) (hx : Cx yX11_arm cX11_arm 4 (some .boolean) 900 122 122 [.ref 0, .int (xs (i + 1)), .int (xs (i + 2))] σ (fun o τ => o = .inl (some (.int r)) ∧ τ = τ1)) (hm : Cx yX14_arm cX14_arm 4 (some .boolean) 900 122 122 [.ref 66, .int (xs (i + 1)), .int (xs (i + 2))] τ1 (fun o τ => o = .inl (some (.int r)) ∧ τ = τ2)) (k : Wx (SL b L xs) 122 18 [.retAddr (b + 1), .ref 0, .ref 66, .int (nI (i + 6))] [] τ2) : Wx (SL b L xs) 122 416 [.retAddr (b + 1), .ref 0, .ref 66, .int (nI i)] [] σ := by
  refine Wx_aload1 dL_416 ?_
  refine Wx_aload0X dL_417 ?_
  refine Wx_iload3 dL_418 ?_
  refine Wx_iconst (v := 1) dL_419 (by decide) ?_
  refine Wx_iadd dL_420 ?_
  refine Wx_sldN dL_421 (i + 1) (nI_k i 1 (by decide)) (by omega) hL ?_
  refine Wx_aload0X dL_422 ?_
  refine Wx_iload3 dL_423 ?_
  refine Wx_iconst (v := 2) dL_424 (by decide) ?_
  refine Wx_iadd dL_425 ?_
  refine Wx_sldN dL_426 (i + 2) (nI_k i 2 (by decide)) (by omega) hL ?_
  refine Wx_callV (S := SL b L xs) 0 11 [.int (xs (i + 1)), .int (xs (i + 2))] 2 m_X11_arm l_L_57 i_X11_arm rfl rfl (Nat.le_of_ble_eq_true rfl) dL_427 hx (show 900 + 1 ≤ 1000 by decide) (Nat.le_refl _) (show 122 ≤ 122 from Nat.le_refl _) rfl (Nat.le_of_ble_eq_true rfl) rfl (fun _ _ h => by cases h.1) (fun v τ h => ?_)
  obtain ⟨h1, rfl⟩ := h
  cases h1
  refine Wx_aload2 dL_430 ?_
  refine Wx_aload0X dL_431 ?_
  refine Wx_iload3 dL_432 ?_
  refine Wx_iconst (v := 1) dL_433 (by decide) ?_
  refine Wx_iadd dL_434 ?_
  refine Wx_sldN dL_435 (i + 1) (nI_k i 1 (by decide)) (by omega) hL ?_
  refine Wx_aload0X dL_436 ?_
  refine Wx_iload3 dL_437 ?_
  refine Wx_iconst (v := 2) dL_438 (by decide) ?_
  refine Wx_iadd dL_439 ?_
  refine Wx_sldN dL_440 (i + 2) (nI_k i 2 (by decide)) (by omega) hL ?_
  refine Wx_callV (S := SL b L xs) 66 14 [.int (xs (i + 1)), .int (xs (i + 2))] 2 m_X14_arm l_L_61 i_X14_arm rfl rfl (Nat.le_of_ble_eq_true rfl) dL_441 hm (show 900 + 1 ≤ 1000 by decide) (Nat.le_refl _) (show 122 ≤ 122 from Nat.le_refl _) rfl (Nat.le_of_ble_eq_true rfl) rfl (fun _ _ h => by cases h.1) (fun v τ h => ?_)
  obtain ⟨h1, rfl⟩ := h
  cases h1
  refine Wx_icmp_eq 722 dL_444 (by decide) (fun _ => ?_) (fun q => absurd rfl q)
  refine Wx_iinc3 dL_722 rfl (Nat.le_of_ble_eq_true rfl) ?_
  refine Wx_goto 18 dL_725 (by decide) ?_
  rw [nI_k i 6 (by decide)]
  exact k
set_option maxRecDepth 100000 in
theorem law_c11 {b L : Nat} {xs : Nat → Int32} {i : Nat} {σ τ1 τ2 : Hp} {r : Int32} (hi : i + 6 ≤ L) (hL : L ≤ 384) (hx : Cx yX11_match cX11_match 3 (some .int) 900 122 122 [.ref 0, .int (xs (i + 1)), .int (xs (i + 2))] σ (fun o τ => o = .inl (some (.int r)) ∧ τ = τ1)) (hm : Cx yX14_match cX14_match 5 (some .int) 900 122 122 [.ref 66, .int (xs (i + 1)), .int (xs (i + 2))] τ1 (fun o τ => o = .inl (some (.int r)) ∧ τ = τ2)) (k : Wx (SL b L xs) 122 18 [.retAddr (b + 1), .ref 0, .ref 66, .int (nI (i + 6))] [] τ2) : Wx (SL b L xs) 122 449 [.retAddr (b + 1), .ref 0, .ref 66, .int (nI i)] [] σ := by
  refine Wx_aload1 dL_449 ?_
  refine Wx_aload0X dL_450 ?_
  refine Wx_iload3 dL_451 ?_
  refine Wx_iconst (v := 1) dL_452 (by decide) ?_
  refine Wx_iadd dL_453 ?_
  refine Wx_sldN dL_454 (i + 1) (nI_k i 1 (by decide)) (by omega) hL ?_
  refine Wx_aload0X dL_455 ?_
  refine Wx_iload3 dL_456 ?_
  refine Wx_iconst (v := 2) dL_457 (by decide) ?_
  refine Wx_iadd dL_458 ?_
  refine Wx_sldN dL_459 (i + 2) (nI_k i 2 (by decide)) (by omega) hL ?_
  refine Wx_callV (S := SL b L xs) 0 11 [.int (xs (i + 1)), .int (xs (i + 2))] 2 m_X11_match l_L_62 i_X11_match rfl rfl (Nat.le_of_ble_eq_true rfl) dL_460 hx (show 900 + 1 ≤ 1000 by decide) (Nat.le_refl _) (show 122 ≤ 122 from Nat.le_refl _) rfl (Nat.le_of_ble_eq_true rfl) rfl (fun _ _ h => by cases h.1) (fun v τ h => ?_)
  obtain ⟨h1, rfl⟩ := h
  cases h1
  refine Wx_aload2 dL_463 ?_
  refine Wx_aload0X dL_464 ?_
  refine Wx_iload3 dL_465 ?_
  refine Wx_iconst (v := 1) dL_466 (by decide) ?_
  refine Wx_iadd dL_467 ?_
  refine Wx_sldN dL_468 (i + 1) (nI_k i 1 (by decide)) (by omega) hL ?_
  refine Wx_aload0X dL_469 ?_
  refine Wx_iload3 dL_470 ?_
  refine Wx_iconst (v := 2) dL_471 (by decide) ?_
  refine Wx_iadd dL_472 ?_
  refine Wx_sldN dL_473 (i + 2) (nI_k i 2 (by decide)) (by omega) hL ?_
  refine Wx_callV (S := SL b L xs) 66 14 [.int (xs (i + 1)), .int (xs (i + 2))] 2 m_X14_match l_L_65 i_X14_match rfl rfl (Nat.le_of_ble_eq_true rfl) dL_474 hm (show 900 + 1 ≤ 1000 by decide) (Nat.le_refl _) (show 122 ≤ 122 from Nat.le_refl _) rfl (Nat.le_of_ble_eq_true rfl) rfl (fun _ _ h => by cases h.1) (fun v τ h => ?_)
  obtain ⟨h1, rfl⟩ := h
  cases h1
  refine Wx_icmp_eq 722 dL_477 (by decide) (fun _ => ?_) (fun q => absurd rfl q)
  refine Wx_iinc3 dL_722 rfl (Nat.le_of_ble_eq_true rfl) ?_
  refine Wx_goto 18 dL_725 (by decide) ?_
  rw [nI_k i 6 (by decide)]
  exact k
set_option maxRecDepth 100000 in
theorem law_c12 {b L : Nat} {xs : Nat → Int32} {i : Nat} {σ τ1 τ2 : Hp} {r : Int32} (hi : i + 6 ≤ L) (hL : L ≤ 384) (hx : Cx yX11_peak cX11_peak 1 (some .int) 900 122 122 [.ref 0] σ (fun o τ => o = .inl (some (.int r)) ∧ τ = τ1)) (hm : Cx yX14_peak cX14_peak 1 (some .int) 900 122 122 [.ref 66] τ1 (fun o τ => o = .inl (some (.int r)) ∧ τ = τ2)) (k : Wx (SL b L xs) 122 18 [.retAddr (b + 1), .ref 0, .ref 66, .int (nI (i + 6))] [] τ2) : Wx (SL b L xs) 122 482 [.retAddr (b + 1), .ref 0, .ref 66, .int (nI i)] [] σ := by
  refine Wx_aload1 dL_482 ?_
  refine Wx_callV (S := SL b L xs) 0 11 [] 0 m_X11_peak l_L_66 i_X11_peak rfl rfl (Nat.le_of_ble_eq_true rfl) dL_483 hx (show 900 + 1 ≤ 1000 by decide) (Nat.le_refl _) (show 122 ≤ 122 from Nat.le_refl _) rfl (Nat.le_of_ble_eq_true rfl) rfl (fun _ _ h => by cases h.1) (fun v τ h => ?_)
  obtain ⟨h1, rfl⟩ := h
  cases h1
  refine Wx_aload2 dL_486 ?_
  refine Wx_callV (S := SL b L xs) 66 14 [] 0 m_X14_peak l_L_69 i_X14_peak rfl rfl (Nat.le_of_ble_eq_true rfl) dL_487 hm (show 900 + 1 ≤ 1000 by decide) (Nat.le_refl _) (show 122 ≤ 122 from Nat.le_refl _) rfl (Nat.le_of_ble_eq_true rfl) rfl (fun _ _ h => by cases h.1) (fun v τ h => ?_)
  obtain ⟨h1, rfl⟩ := h
  cases h1
  refine Wx_icmp_eq 722 dL_490 (by decide) (fun _ => ?_) (fun q => absurd rfl q)
  refine Wx_iinc3 dL_722 rfl (Nat.le_of_ble_eq_true rfl) ?_
  refine Wx_goto 18 dL_725 (by decide) ?_
  rw [nI_k i 6 (by decide)]
  exact k
set_option maxRecDepth 100000 in
theorem law_c13 {b L : Nat} {xs : Nat → Int32} {i : Nat} {σ τ1 τ2 : Hp} {r : Int32} (hi : i + 6 ≤ L) (hL : L ≤ 384) (hx : Cx yX11_event cX11_event 3 (some .int) 900 122 122 [.ref 0, .int (xs (i + 1)), .int (xs (i + 2))] σ (fun o τ => o = .inl (some (.int r)) ∧ τ = τ1)) (hm : Cx yX14_event cX14_event 3 (some .int) 900 122 122 [.ref 66, .int (xs (i + 1)), .int (xs (i + 2))] τ1 (fun o τ => o = .inl (some (.int r)) ∧ τ = τ2)) (k : Wx (SL b L xs) 122 18 [.retAddr (b + 1), .ref 0, .ref 66, .int (nI (i + 6))] [] τ2) : Wx (SL b L xs) 122 495 [.retAddr (b + 1), .ref 0, .ref 66, .int (nI i)] [] σ := by
  refine Wx_aload1 dL_495 ?_
  refine Wx_aload0X dL_496 ?_
  refine Wx_iload3 dL_497 ?_
  refine Wx_iconst (v := 1) dL_498 (by decide) ?_
  refine Wx_iadd dL_499 ?_
  refine Wx_sldN dL_500 (i + 1) (nI_k i 1 (by decide)) (by omega) hL ?_
  refine Wx_aload0X dL_501 ?_
  refine Wx_iload3 dL_502 ?_
  refine Wx_iconst (v := 2) dL_503 (by decide) ?_
  refine Wx_iadd dL_504 ?_
  refine Wx_sldN dL_505 (i + 2) (nI_k i 2 (by decide)) (by omega) hL ?_
  refine Wx_callV (S := SL b L xs) 0 11 [.int (xs (i + 1)), .int (xs (i + 2))] 2 m_X11_event l_L_70 i_X11_event rfl rfl (Nat.le_of_ble_eq_true rfl) dL_506 hx (show 900 + 1 ≤ 1000 by decide) (Nat.le_refl _) (show 122 ≤ 122 from Nat.le_refl _) rfl (Nat.le_of_ble_eq_true rfl) rfl (fun _ _ h => by cases h.1) (fun v τ h => ?_)
  obtain ⟨h1, rfl⟩ := h
  cases h1
  refine Wx_aload2 dL_509 ?_
  refine Wx_aload0X dL_510 ?_
  refine Wx_iload3 dL_511 ?_
  refine Wx_iconst (v := 1) dL_512 (by decide) ?_
  refine Wx_iadd dL_513 ?_
  refine Wx_sldN dL_514 (i + 1) (nI_k i 1 (by decide)) (by omega) hL ?_
  refine Wx_aload0X dL_515 ?_
  refine Wx_iload3 dL_516 ?_
  refine Wx_iconst (v := 2) dL_517 (by decide) ?_
  refine Wx_iadd dL_518 ?_
  refine Wx_sldN dL_519 (i + 2) (nI_k i 2 (by decide)) (by omega) hL ?_
  refine Wx_callV (S := SL b L xs) 66 14 [.int (xs (i + 1)), .int (xs (i + 2))] 2 m_X14_event l_L_73 i_X14_event rfl rfl (Nat.le_of_ble_eq_true rfl) dL_520 hm (show 900 + 1 ≤ 1000 by decide) (Nat.le_refl _) (show 122 ≤ 122 from Nat.le_refl _) rfl (Nat.le_of_ble_eq_true rfl) rfl (fun _ _ h => by cases h.1) (fun v τ h => ?_)
  obtain ⟨h1, rfl⟩ := h
  cases h1
  refine Wx_icmp_eq 722 dL_523 (by decide) (fun _ => ?_) (fun q => absurd rfl q)
  refine Wx_iinc3 dL_722 rfl (Nat.le_of_ble_eq_true rfl) ?_
  refine Wx_goto 18 dL_725 (by decide) ?_
  rw [nI_k i 6 (by decide)]
  exact k
set_option maxRecDepth 100000 in
theorem law_c14 {b L : Nat} {xs : Nat → Int32} {i : Nat} {σ τ1 τ2 : Hp} {r : Int32} (hi : i + 6 ≤ L) (hL : L ≤ 384) (hx : Cx yX11_place cX11_place 2 (some .int) 900 122 122 [.ref 0] σ (fun o τ => o = .inl (some (.int r)) ∧ τ = τ1)) (hm : Cx yX14_place cX14_place 2 (some .int) 900 122 122 [.ref 66] τ1 (fun o τ => o = .inl (some (.int r)) ∧ τ = τ2)) (k : Wx (SL b L xs) 122 18 [.retAddr (b + 1), .ref 0, .ref 66, .int (nI (i + 6))] [] τ2) : Wx (SL b L xs) 122 528 [.retAddr (b + 1), .ref 0, .ref 66, .int (nI i)] [] σ := by
  refine Wx_aload1 dL_528 ?_
  refine Wx_callV (S := SL b L xs) 0 11 [] 0 m_X11_place l_L_74 i_X11_place rfl rfl (Nat.le_of_ble_eq_true rfl) dL_529 hx (show 900 + 1 ≤ 1000 by decide) (Nat.le_refl _) (show 122 ≤ 122 from Nat.le_refl _) rfl (Nat.le_of_ble_eq_true rfl) rfl (fun _ _ h => by cases h.1) (fun v τ h => ?_)
  obtain ⟨h1, rfl⟩ := h
  cases h1
  refine Wx_aload2 dL_532 ?_
  refine Wx_callV (S := SL b L xs) 66 14 [] 0 m_X14_place l_L_77 i_X14_place rfl rfl (Nat.le_of_ble_eq_true rfl) dL_533 hm (show 900 + 1 ≤ 1000 by decide) (Nat.le_refl _) (show 122 ≤ 122 from Nat.le_refl _) rfl (Nat.le_of_ble_eq_true rfl) rfl (fun _ _ h => by cases h.1) (fun v τ h => ?_)
  obtain ⟨h1, rfl⟩ := h
  cases h1
  refine Wx_icmp_eq 722 dL_536 (by decide) (fun _ => ?_) (fun q => absurd rfl q)
  refine Wx_iinc3 dL_722 rfl (Nat.le_of_ble_eq_true rfl) ?_
  refine Wx_goto 18 dL_725 (by decide) ?_
  rw [nI_k i 6 (by decide)]
  exact k
set_option maxRecDepth 100000 in
theorem law_c15 {b L : Nat} {xs : Nat → Int32} {i : Nat} {σ τ1 τ2 : Hp} {r : Int32} (hi : i + 6 ≤ L) (hL : L ≤ 384) (hx : Cx yX11_check cX11_check 2 (some .int) 900 122 122 [.ref 0, .int (xs (i + 1))] σ (fun o τ => o = .inl (some (.int r)) ∧ τ = τ1)) (hm : Cx yX14_check cX14_check 3 (some .int) 900 122 122 [.ref 66, .int (xs (i + 1))] τ1 (fun o τ => o = .inl (some (.int r)) ∧ τ = τ2)) (k : Wx (SL b L xs) 122 18 [.retAddr (b + 1), .ref 0, .ref 66, .int (nI (i + 6))] [] τ2) : Wx (SL b L xs) 122 541 [.retAddr (b + 1), .ref 0, .ref 66, .int (nI i)] [] σ := by
  refine Wx_aload1 dL_541 ?_
  refine Wx_aload0X dL_542 ?_
  refine Wx_iload3 dL_543 ?_
  refine Wx_iconst (v := 1) dL_544 (by decide) ?_
  refine Wx_iadd dL_545 ?_
  refine Wx_sldN dL_546 (i + 1) (nI_k i 1 (by decide)) (by omega) hL ?_
  refine Wx_callV (S := SL b L xs) 0 11 [.int (xs (i + 1))] 1 m_X11_check l_L_78 i_X11_check rfl rfl (Nat.le_of_ble_eq_true rfl) dL_547 hx (show 900 + 1 ≤ 1000 by decide) (Nat.le_refl _) (show 122 ≤ 122 from Nat.le_refl _) rfl (Nat.le_of_ble_eq_true rfl) rfl (fun _ _ h => by cases h.1) (fun v τ h => ?_)
  obtain ⟨h1, rfl⟩ := h
  cases h1
  refine Wx_aload2 dL_550 ?_
  refine Wx_aload0X dL_551 ?_
  refine Wx_iload3 dL_552 ?_
  refine Wx_iconst (v := 1) dL_553 (by decide) ?_
  refine Wx_iadd dL_554 ?_
  refine Wx_sldN dL_555 (i + 1) (nI_k i 1 (by decide)) (by omega) hL ?_
  refine Wx_callV (S := SL b L xs) 66 14 [.int (xs (i + 1))] 1 m_X14_check l_L_81 i_X14_check rfl rfl (Nat.le_of_ble_eq_true rfl) dL_556 hm (show 900 + 1 ≤ 1000 by decide) (Nat.le_refl _) (show 122 ≤ 122 from Nat.le_refl _) rfl (Nat.le_of_ble_eq_true rfl) rfl (fun _ _ h => by cases h.1) (fun v τ h => ?_)
  obtain ⟨h1, rfl⟩ := h
  cases h1
  refine Wx_icmp_eq 722 dL_559 (by decide) (fun _ => ?_) (fun q => absurd rfl q)
  refine Wx_iinc3 dL_722 rfl (Nat.le_of_ble_eq_true rfl) ?_
  refine Wx_goto 18 dL_725 (by decide) ?_
  rw [nI_k i 6 (by decide)]
  exact k
set_option maxRecDepth 100000 in
theorem law_c16 {b L : Nat} {xs : Nat → Int32} {i : Nat} {σ τ1 τ2 : Hp} {r : Int32} (hi : i + 6 ≤ L) (hL : L ≤ 384) (hx : Cx yX11_begin cX11_begin 2 (some .boolean) 900 122 122 [.ref 0, .int (xs (i + 1))] σ (fun o τ => o = .inl (some (.int r)) ∧ τ = τ1)) (hm : Cx yX14_begin cX14_begin 2 (some .boolean) 900 122 122 [.ref 66, .int (xs (i + 1))] τ1 (fun o τ => o = .inl (some (.int r)) ∧ τ = τ2)) (k : Wx (SL b L xs) 122 18 [.retAddr (b + 1), .ref 0, .ref 66, .int (nI (i + 6))] [] τ2) : Wx (SL b L xs) 122 564 [.retAddr (b + 1), .ref 0, .ref 66, .int (nI i)] [] σ := by
  refine Wx_aload1 dL_564 ?_
  refine Wx_aload0X dL_565 ?_
  refine Wx_iload3 dL_566 ?_
  refine Wx_iconst (v := 1) dL_567 (by decide) ?_
  refine Wx_iadd dL_568 ?_
  refine Wx_sldN dL_569 (i + 1) (nI_k i 1 (by decide)) (by omega) hL ?_
  refine Wx_callV (S := SL b L xs) 0 11 [.int (xs (i + 1))] 1 m_X11_begin l_L_82 i_X11_begin rfl rfl (Nat.le_of_ble_eq_true rfl) dL_570 hx (show 900 + 1 ≤ 1000 by decide) (Nat.le_refl _) (show 122 ≤ 122 from Nat.le_refl _) rfl (Nat.le_of_ble_eq_true rfl) rfl (fun _ _ h => by cases h.1) (fun v τ h => ?_)
  obtain ⟨h1, rfl⟩ := h
  cases h1
  refine Wx_aload2 dL_573 ?_
  refine Wx_aload0X dL_574 ?_
  refine Wx_iload3 dL_575 ?_
  refine Wx_iconst (v := 1) dL_576 (by decide) ?_
  refine Wx_iadd dL_577 ?_
  refine Wx_sldN dL_578 (i + 1) (nI_k i 1 (by decide)) (by omega) hL ?_
  refine Wx_callV (S := SL b L xs) 66 14 [.int (xs (i + 1))] 1 m_X14_begin l_L_86 i_X14_begin rfl rfl (Nat.le_of_ble_eq_true rfl) dL_579 hm (show 900 + 1 ≤ 1000 by decide) (Nat.le_refl _) (show 122 ≤ 122 from Nat.le_refl _) rfl (Nat.le_of_ble_eq_true rfl) rfl (fun _ _ h => by cases h.1) (fun v τ h => ?_)
  obtain ⟨h1, rfl⟩ := h
  cases h1
  refine Wx_icmp_eq 722 dL_582 (by decide) (fun _ => ?_) (fun q => absurd rfl q)
  refine Wx_iinc3 dL_722 rfl (Nat.le_of_ble_eq_true rfl) ?_
  refine Wx_goto 18 dL_725 (by decide) ?_
  rw [nI_k i 6 (by decide)]
  exact k
set_option maxRecDepth 100000 in
theorem law_c17 {b L : Nat} {xs : Nat → Int32} {i : Nat} {σ τ1 τ2 : Hp} {r : Int32} (hi : i + 6 ≤ L) (hL : L ≤ 384) (hx : Cx yX11_run cX11_run 2 (some .int) 900 122 122 [.ref 0, .int (xs (i + 1))] σ (fun o τ => o = .inl (some (.int r)) ∧ τ = τ1)) (hm : Cx yX14_run cX14_run 3 (some .int) 900 122 122 [.ref 66, .int (xs (i + 1))] τ1 (fun o τ => o = .inl (some (.int r)) ∧ τ = τ2)) (k : Wx (SL b L xs) 122 18 [.retAddr (b + 1), .ref 0, .ref 66, .int (nI (i + 6))] [] τ2) : Wx (SL b L xs) 122 587 [.retAddr (b + 1), .ref 0, .ref 66, .int (nI i)] [] σ := by
  refine Wx_aload1 dL_587 ?_
  refine Wx_aload0X dL_588 ?_
  refine Wx_iload3 dL_589 ?_
  refine Wx_iconst (v := 1) dL_590 (by decide) ?_
  refine Wx_iadd dL_591 ?_
  refine Wx_sldN dL_592 (i + 1) (nI_k i 1 (by decide)) (by omega) hL ?_
  refine Wx_callV (S := SL b L xs) 0 11 [.int (xs (i + 1))] 1 m_X11_run l_L_87 i_X11_run rfl rfl (Nat.le_of_ble_eq_true rfl) dL_593 hx (show 900 + 1 ≤ 1000 by decide) (Nat.le_refl _) (show 122 ≤ 122 from Nat.le_refl _) rfl (Nat.le_of_ble_eq_true rfl) rfl (fun _ _ h => by cases h.1) (fun v τ h => ?_)
  obtain ⟨h1, rfl⟩ := h
  cases h1
  refine Wx_aload2 dL_596 ?_
  refine Wx_aload0X dL_597 ?_
  refine Wx_iload3 dL_598 ?_
  refine Wx_iconst (v := 1) dL_599 (by decide) ?_
  refine Wx_iadd dL_600 ?_
  refine Wx_sldN dL_601 (i + 1) (nI_k i 1 (by decide)) (by omega) hL ?_
  refine Wx_callV (S := SL b L xs) 66 14 [.int (xs (i + 1))] 1 m_X14_run l_L_90 i_X14_run rfl rfl (Nat.le_of_ble_eq_true rfl) dL_602 hm (show 900 + 1 ≤ 1000 by decide) (Nat.le_refl _) (show 122 ≤ 122 from Nat.le_refl _) rfl (Nat.le_of_ble_eq_true rfl) rfl (fun _ _ h => by cases h.1) (fun v τ h => ?_)
  obtain ⟨h1, rfl⟩ := h
  cases h1
  refine Wx_icmp_eq 722 dL_605 (by decide) (fun _ => ?_) (fun q => absurd rfl q)
  refine Wx_iinc3 dL_722 rfl (Nat.le_of_ble_eq_true rfl) ?_
  refine Wx_goto 18 dL_725 (by decide) ?_
  rw [nI_k i 6 (by decide)]
  exact k
set_option maxRecDepth 100000 in
theorem law_c18 {b L : Nat} {xs : Nat → Int32} {i : Nat} {σ τ1 τ2 : Hp} {r : Int32} (hi : i + 6 ≤ L) (hL : L ≤ 384) (hx : Cx yX11_get cX11_get 2 (some .int) 900 122 122 [.ref 0, .int (xs (i + 1))] σ (fun o τ => o = .inl (some (.int r)) ∧ τ = τ1)) (hm : Cx yX14_get cX14_get 2 (some .int) 900 122 122 [.ref 66, .int (xs (i + 1))] τ1 (fun o τ => o = .inl (some (.int r)) ∧ τ = τ2)) (k : Wx (SL b L xs) 122 18 [.retAddr (b + 1), .ref 0, .ref 66, .int (nI (i + 6))] [] τ2) : Wx (SL b L xs) 122 610 [.retAddr (b + 1), .ref 0, .ref 66, .int (nI i)] [] σ := by
  refine Wx_aload1 dL_610 ?_
  refine Wx_aload0X dL_611 ?_
  refine Wx_iload3 dL_612 ?_
  refine Wx_iconst (v := 1) dL_613 (by decide) ?_
  refine Wx_iadd dL_614 ?_
  refine Wx_sldN dL_615 (i + 1) (nI_k i 1 (by decide)) (by omega) hL ?_
  refine Wx_callV (S := SL b L xs) 0 11 [.int (xs (i + 1))] 1 m_X11_get l_L_91 i_X11_get rfl rfl (Nat.le_of_ble_eq_true rfl) dL_616 hx (show 900 + 1 ≤ 1000 by decide) (Nat.le_refl _) (show 122 ≤ 122 from Nat.le_refl _) rfl (Nat.le_of_ble_eq_true rfl) rfl (fun _ _ h => by cases h.1) (fun v τ h => ?_)
  obtain ⟨h1, rfl⟩ := h
  cases h1
  refine Wx_aload2 dL_619 ?_
  refine Wx_aload0X dL_620 ?_
  refine Wx_iload3 dL_621 ?_
  refine Wx_iconst (v := 1) dL_622 (by decide) ?_
  refine Wx_iadd dL_623 ?_
  refine Wx_sldN dL_624 (i + 1) (nI_k i 1 (by decide)) (by omega) hL ?_
  refine Wx_callV (S := SL b L xs) 66 14 [.int (xs (i + 1))] 1 m_X14_get l_L_94 i_X14_get rfl rfl (Nat.le_of_ble_eq_true rfl) dL_625 hm (show 900 + 1 ≤ 1000 by decide) (Nat.le_refl _) (show 122 ≤ 122 from Nat.le_refl _) rfl (Nat.le_of_ble_eq_true rfl) rfl (fun _ _ h => by cases h.1) (fun v τ h => ?_)
  obtain ⟨h1, rfl⟩ := h
  cases h1
  refine Wx_icmp_eq 722 dL_628 (by decide) (fun _ => ?_) (fun q => absurd rfl q)
  refine Wx_iinc3 dL_722 rfl (Nat.le_of_ble_eq_true rfl) ?_
  refine Wx_goto 18 dL_725 (by decide) ?_
  rw [nI_k i 6 (by decide)]
  exact k
set_option maxRecDepth 100000 in
theorem law_c19 {b L : Nat} {xs : Nat → Int32} {i : Nat} {σ τ1 τ2 : Hp} {r : Int32} (hi : i + 6 ≤ L) (hL : L ≤ 384) (hx : Cx yX11_put cX11_put 3 (some .boolean) 900 122 122 [.ref 0, .int (xs (i + 1)), .int (xs (i + 2))] σ (fun o τ => o = .inl (some (.int r)) ∧ τ = τ1)) (hm : Cx yX14_put cX14_put 3 (some .boolean) 900 122 122 [.ref 66, .int (xs (i + 1)), .int (xs (i + 2))] τ1 (fun o τ => o = .inl (some (.int r)) ∧ τ = τ2)) (k : Wx (SL b L xs) 122 18 [.retAddr (b + 1), .ref 0, .ref 66, .int (nI (i + 6))] [] τ2) : Wx (SL b L xs) 122 633 [.retAddr (b + 1), .ref 0, .ref 66, .int (nI i)] [] σ := by
  refine Wx_aload1 dL_633 ?_
  refine Wx_aload0X dL_634 ?_
  refine Wx_iload3 dL_635 ?_
  refine Wx_iconst (v := 1) dL_636 (by decide) ?_
  refine Wx_iadd dL_637 ?_
  refine Wx_sldN dL_638 (i + 1) (nI_k i 1 (by decide)) (by omega) hL ?_
  refine Wx_aload0X dL_639 ?_
  refine Wx_iload3 dL_640 ?_
  refine Wx_iconst (v := 2) dL_641 (by decide) ?_
  refine Wx_iadd dL_642 ?_
  refine Wx_sldN dL_643 (i + 2) (nI_k i 2 (by decide)) (by omega) hL ?_
  refine Wx_callV (S := SL b L xs) 0 11 [.int (xs (i + 1)), .int (xs (i + 2))] 2 m_X11_put l_L_95 i_X11_put rfl rfl (Nat.le_of_ble_eq_true rfl) dL_644 hx (show 900 + 1 ≤ 1000 by decide) (Nat.le_refl _) (show 122 ≤ 122 from Nat.le_refl _) rfl (Nat.le_of_ble_eq_true rfl) rfl (fun _ _ h => by cases h.1) (fun v τ h => ?_)
  obtain ⟨h1, rfl⟩ := h
  cases h1
  refine Wx_aload2 dL_647 ?_
  refine Wx_aload0X dL_648 ?_
  refine Wx_iload3 dL_649 ?_
  refine Wx_iconst (v := 1) dL_650 (by decide) ?_
  refine Wx_iadd dL_651 ?_
  refine Wx_sldN dL_652 (i + 1) (nI_k i 1 (by decide)) (by omega) hL ?_
  refine Wx_aload0X dL_653 ?_
  refine Wx_iload3 dL_654 ?_
  refine Wx_iconst (v := 2) dL_655 (by decide) ?_
  refine Wx_iadd dL_656 ?_
  refine Wx_sldN dL_657 (i + 2) (nI_k i 2 (by decide)) (by omega) hL ?_
  refine Wx_callV (S := SL b L xs) 66 14 [.int (xs (i + 1)), .int (xs (i + 2))] 2 m_X14_put l_L_98 i_X14_put rfl rfl (Nat.le_of_ble_eq_true rfl) dL_658 hm (show 900 + 1 ≤ 1000 by decide) (Nat.le_refl _) (show 122 ≤ 122 from Nat.le_refl _) rfl (Nat.le_of_ble_eq_true rfl) rfl (fun _ _ h => by cases h.1) (fun v τ h => ?_)
  obtain ⟨h1, rfl⟩ := h
  cases h1
  refine Wx_icmp_eq 722 dL_661 (by decide) (fun _ => ?_) (fun q => absurd rfl q)
  refine Wx_iinc3 dL_722 rfl (Nat.le_of_ble_eq_true rfl) ?_
  refine Wx_goto 18 dL_725 (by decide) ?_
  rw [nI_k i 6 (by decide)]
  exact k
set_option maxRecDepth 100000 in
theorem law_c20 {b L : Nat} {xs : Nat → Int32} {i : Nat} {σ τ1 τ2 : Hp} {r : Int32} (hi : i + 6 ≤ L) (hL : L ≤ 384) (hx : Cx yX11_store cX11_store 3 (some .boolean) 900 122 122 [.ref 0, .int (xs (i + 1)), .int (xs (i + 2))] σ (fun o τ => o = .inl (some (.int r)) ∧ τ = τ1)) (hm : Cx yX14_store cX14_store 3 (some .boolean) 900 122 122 [.ref 66, .int (xs (i + 1)), .int (xs (i + 2))] τ1 (fun o τ => o = .inl (some (.int r)) ∧ τ = τ2)) (k : Wx (SL b L xs) 122 18 [.retAddr (b + 1), .ref 0, .ref 66, .int (nI (i + 6))] [] τ2) : Wx (SL b L xs) 122 666 [.retAddr (b + 1), .ref 0, .ref 66, .int (nI i)] [] σ := by
  refine Wx_aload1 dL_666 ?_
  refine Wx_aload0X dL_667 ?_
  refine Wx_iload3 dL_668 ?_
  refine Wx_iconst (v := 1) dL_669 (by decide) ?_
  refine Wx_iadd dL_670 ?_
  refine Wx_sldN dL_671 (i + 1) (nI_k i 1 (by decide)) (by omega) hL ?_
  refine Wx_aload0X dL_672 ?_
  refine Wx_iload3 dL_673 ?_
  refine Wx_iconst (v := 2) dL_674 (by decide) ?_
  refine Wx_iadd dL_675 ?_
  refine Wx_sldN dL_676 (i + 2) (nI_k i 2 (by decide)) (by omega) hL ?_
  refine Wx_callV (S := SL b L xs) 0 11 [.int (xs (i + 1)), .int (xs (i + 2))] 2 m_X11_store l_L_99 i_X11_store rfl rfl (Nat.le_of_ble_eq_true rfl) dL_677 hx (show 900 + 1 ≤ 1000 by decide) (Nat.le_refl _) (show 122 ≤ 122 from Nat.le_refl _) rfl (Nat.le_of_ble_eq_true rfl) rfl (fun _ _ h => by cases h.1) (fun v τ h => ?_)
  obtain ⟨h1, rfl⟩ := h
  cases h1
  refine Wx_aload2 dL_680 ?_
  refine Wx_aload0X dL_681 ?_
  refine Wx_iload3 dL_682 ?_
  refine Wx_iconst (v := 1) dL_683 (by decide) ?_
  refine Wx_iadd dL_684 ?_
  refine Wx_sldN dL_685 (i + 1) (nI_k i 1 (by decide)) (by omega) hL ?_
  refine Wx_aload0X dL_686 ?_
  refine Wx_iload3 dL_687 ?_
  refine Wx_iconst (v := 2) dL_688 (by decide) ?_
  refine Wx_iadd dL_689 ?_
  refine Wx_sldN dL_690 (i + 2) (nI_k i 2 (by decide)) (by omega) hL ?_
  refine Wx_callV (S := SL b L xs) 66 14 [.int (xs (i + 1)), .int (xs (i + 2))] 2 m_X14_store l_L_102 i_X14_store rfl rfl (Nat.le_of_ble_eq_true rfl) dL_691 hm (show 900 + 1 ≤ 1000 by decide) (Nat.le_refl _) (show 122 ≤ 122 from Nat.le_refl _) rfl (Nat.le_of_ble_eq_true rfl) rfl (fun _ _ h => by cases h.1) (fun v τ h => ?_)
  obtain ⟨h1, rfl⟩ := h
  cases h1
  refine Wx_icmp_eq 722 dL_694 (by decide) (fun _ => ?_) (fun q => absurd rfl q)
  refine Wx_iinc3 dL_722 rfl (Nat.le_of_ble_eq_true rfl) ?_
  refine Wx_goto 18 dL_725 (by decide) ?_
  rw [nI_k i 6 (by decide)]
  exact k
set_option maxRecDepth 100000 in
theorem law_c21 {b L : Nat} {xs : Nat → Int32} {i : Nat} {σ τ1 τ2 : Hp} {r : Int32} (hi : i + 6 ≤ L) (hL : L ≤ 384) (hx : Cx yX11_load cX11_load 2 (some .int) 900 122 122 [.ref 0, .int (xs (i + 1))] σ (fun o τ => o = .inl (some (.int r)) ∧ τ = τ1)) (hm : Cx yX14_load_ cX14_load_ 2 (some .int) 900 122 122 [.ref 66, .int (xs (i + 1))] τ1 (fun o τ => o = .inl (some (.int r)) ∧ τ = τ2)) (k : Wx (SL b L xs) 122 18 [.retAddr (b + 1), .ref 0, .ref 66, .int (nI (i + 6))] [] τ2) : Wx (SL b L xs) 122 699 [.retAddr (b + 1), .ref 0, .ref 66, .int (nI i)] [] σ := by
  refine Wx_aload1 dL_699 ?_
  refine Wx_aload0X dL_700 ?_
  refine Wx_iload3 dL_701 ?_
  refine Wx_iconst (v := 1) dL_702 (by decide) ?_
  refine Wx_iadd dL_703 ?_
  refine Wx_sldN dL_704 (i + 1) (nI_k i 1 (by decide)) (by omega) hL ?_
  refine Wx_callV (S := SL b L xs) 0 11 [.int (xs (i + 1))] 1 m_X11_load l_L_103 i_X11_load rfl rfl (Nat.le_of_ble_eq_true rfl) dL_705 hx (show 900 + 1 ≤ 1000 by decide) (Nat.le_refl _) (show 122 ≤ 122 from Nat.le_refl _) rfl (Nat.le_of_ble_eq_true rfl) rfl (fun _ _ h => by cases h.1) (fun v τ h => ?_)
  obtain ⟨h1, rfl⟩ := h
  cases h1
  refine Wx_aload2 dL_708 ?_
  refine Wx_aload0X dL_709 ?_
  refine Wx_iload3 dL_710 ?_
  refine Wx_iconst (v := 1) dL_711 (by decide) ?_
  refine Wx_iadd dL_712 ?_
  refine Wx_sldN dL_713 (i + 1) (nI_k i 1 (by decide)) (by omega) hL ?_
  refine Wx_callV (S := SL b L xs) 66 14 [.int (xs (i + 1))] 1 m_X14_load_ l_L_106 i_X14_load_ rfl rfl (Nat.le_of_ble_eq_true rfl) dL_714 hm (show 900 + 1 ≤ 1000 by decide) (Nat.le_refl _) (show 122 ≤ 122 from Nat.le_refl _) rfl (Nat.le_of_ble_eq_true rfl) rfl (fun _ _ h => by cases h.1) (fun v τ h => ?_)
  obtain ⟨h1, rfl⟩ := h
  cases h1
  refine Wx_icmp_eq 722 dL_717 (by decide) (fun _ => ?_) (fun q => absurd rfl q)
  refine Wx_iinc3 dL_722 rfl (Nat.le_of_ble_eq_true rfl) ?_
  refine Wx_goto 18 dL_725 (by decide) ?_
  rw [nI_k i 6 (by decide)]
  exact k
def Ob0 (I : Hp → Prop) (σ : Hp) : Prop := ∀ a1 a2 a3 a4 a5 : Int32, ∃ (r : Int32) (τ1 τ2 : Hp), (Cx yX11_feed cX11_feed 6 (some .int) 900 122 122 [.ref 0, .int a1, .int a2, .int a3, .int a4, .int a5] σ (fun o τ => o = .inl (some (.int r)) ∧ τ = τ1)) ∧ (Cx yX14_feed cX14_feed 8 (some .int) 900 122 122 [.ref 66, .int a1, .int a2, .int a3, .int a4, .int a5] τ1 (fun o τ => o = .inl (some (.int r)) ∧ τ = τ2)) ∧ I τ2
def Ob1 (I : Hp → Prop) (σ : Hp) : Prop := ∀ a1 : Int32, ∃ (r : Int32) (τ1 τ2 : Hp), (Cx yX11_end cX11_end 2 (some .int) 900 122 122 [.ref 0, .int a1] σ (fun o τ => o = .inl (some (.int r)) ∧ τ = τ1)) ∧ (Cx yX14_end cX14_end 2 (some .int) 900 122 122 [.ref 66, .int a1] τ1 (fun o τ => o = .inl (some (.int r)) ∧ τ = τ2)) ∧ I τ2
def Ob2 (I : Hp → Prop) (σ : Hp) : Prop := ∃ (r : Int32) (τ1 τ2 : Hp), (Cx yX11_grammar cX11_grammar 4 (some .int) 900 122 122 [.ref 0] σ (fun o τ => o = .inl (some (.int r)) ∧ τ = τ1)) ∧ (∀ (b L : Nat) (xs : Nat → Int32) (pc : Nat) (lv st : List Value), decode code pc = .ok (.invokevirtual 27, 3) → wsum st ≤ 8 → Wx (SL b L xs) 122 (pc + 3) lv (.int r :: st) τ2 → Wx (SL b L xs) 122 pc lv (.ref 66 :: st) τ1) ∧ I τ2
def Ob3 (I : Hp → Prop) (σ : Hp) : Prop := ∀ a1 : Int32, ∃ (r : Int32) (τ1 τ2 : Hp), (Cx yX11_fault cX11_fault 2 (some .int) 900 122 122 [.ref 0, .int a1] σ (fun o τ => o = .inl (some (.int r)) ∧ τ = τ1)) ∧ (Cx yX14_fault_ cX14_fault_ 2 (some .int) 900 122 122 [.ref 66, .int a1] τ1 (fun o τ => o = .inl (some (.int r)) ∧ τ = τ2)) ∧ I τ2
def Ob4 (I : Hp → Prop) (σ : Hp) : Prop := ∀ a1 : Int32, ∃ (r : Int32) (τ1 τ2 : Hp), (Cx yX11_count cX11_count 2 (some .int) 900 122 122 [.ref 0, .int a1] σ (fun o τ => o = .inl (some (.int r)) ∧ τ = τ1)) ∧ (Cx yX14_count cX14_count 2 (some .int) 900 122 122 [.ref 66, .int a1] τ1 (fun o τ => o = .inl (some (.int r)) ∧ τ = τ2)) ∧ I τ2
def Ob5 (I : Hp → Prop) (σ : Hp) : Prop := ∀ a1 a2 : Int32, ∃ (r : Int32) (τ1 τ2 : Hp), (Cx yX11_rule cX11_rule 3 (some .int) 900 122 122 [.ref 0, .int a1, .int a2] σ (fun o τ => o = .inl (some (.int r)) ∧ τ = τ1)) ∧ (Cx yX14_rule cX14_rule 3 (some .int) 900 122 122 [.ref 66, .int a1, .int a2] τ1 (fun o τ => o = .inl (some (.int r)) ∧ τ = τ2)) ∧ I τ2
def Ob6 (I : Hp → Prop) (σ : Hp) : Prop := ∀ a1 a2 : Int32, ∃ (r : Int32) (τ1 τ2 : Hp), (Cx yX11_program cX11_program 3 (some .int) 900 122 122 [.ref 0, .int a1, .int a2] σ (fun o τ => o = .inl (some (.int r)) ∧ τ = τ1)) ∧ (Cx yX14_program cX14_program 3 (some .int) 900 122 122 [.ref 66, .int a1, .int a2] τ1 (fun o τ => o = .inl (some (.int r)) ∧ τ = τ2)) ∧ I τ2
def Ob7 (I : Hp → Prop) (σ : Hp) : Prop := ∀ a1 a2 : Int32, ∃ (r : Int32) (τ1 τ2 : Hp), (Cx yX11_set cX11_set 3 (some .int) 900 122 122 [.ref 0, .int a1, .int a2] σ (fun o τ => o = .inl (some (.int r)) ∧ τ = τ1)) ∧ (Cx yX14_set cX14_set 3 (some .int) 900 122 122 [.ref 66, .int a1, .int a2] τ1 (fun o τ => o = .inl (some (.int r)) ∧ τ = τ2)) ∧ I τ2
def Ob8 (I : Hp → Prop) (σ : Hp) : Prop := ∀ a1 : Int32, ∃ (r : Int32) (τ1 τ2 : Hp), (Cx yX11_image cX11_image 2 (some .int) 900 122 122 [.ref 0, .int a1] σ (fun o τ => o = .inl (some (.int r)) ∧ τ = τ1)) ∧ (Cx yX14_image_ cX14_image_ 2 (some .int) 900 122 122 [.ref 66, .int a1] τ1 (fun o τ => o = .inl (some (.int r)) ∧ τ = τ2)) ∧ I τ2
def Ob9 (I : Hp → Prop) (σ : Hp) : Prop := ∃ (r : Int32) (τ1 τ2 : Hp), (Cx yX11_subject cX11_subject 1 (some .int) 900 122 122 [.ref 0] σ (fun o τ => o = .inl (some (.int r)) ∧ τ = τ1)) ∧ (Cx yX14_subject cX14_subject 2 (some .int) 900 122 122 [.ref 66] τ1 (fun o τ => o = .inl (some (.int r)) ∧ τ = τ2)) ∧ I τ2
def Ob10 (I : Hp → Prop) (σ : Hp) : Prop := ∀ a1 a2 : Int32, ∃ (r : Int32) (τ1 τ2 : Hp), (Cx yX11_arm cX11_arm 4 (some .boolean) 900 122 122 [.ref 0, .int a1, .int a2] σ (fun o τ => o = .inl (some (.int r)) ∧ τ = τ1)) ∧ (Cx yX14_arm cX14_arm 4 (some .boolean) 900 122 122 [.ref 66, .int a1, .int a2] τ1 (fun o τ => o = .inl (some (.int r)) ∧ τ = τ2)) ∧ I τ2
def Ob11 (I : Hp → Prop) (σ : Hp) : Prop := ∀ a1 a2 : Int32, ∃ (r : Int32) (τ1 τ2 : Hp), (Cx yX11_match cX11_match 3 (some .int) 900 122 122 [.ref 0, .int a1, .int a2] σ (fun o τ => o = .inl (some (.int r)) ∧ τ = τ1)) ∧ (Cx yX14_match cX14_match 5 (some .int) 900 122 122 [.ref 66, .int a1, .int a2] τ1 (fun o τ => o = .inl (some (.int r)) ∧ τ = τ2)) ∧ I τ2
def Ob12 (I : Hp → Prop) (σ : Hp) : Prop := ∃ (r : Int32) (τ1 τ2 : Hp), (Cx yX11_peak cX11_peak 1 (some .int) 900 122 122 [.ref 0] σ (fun o τ => o = .inl (some (.int r)) ∧ τ = τ1)) ∧ (Cx yX14_peak cX14_peak 1 (some .int) 900 122 122 [.ref 66] τ1 (fun o τ => o = .inl (some (.int r)) ∧ τ = τ2)) ∧ I τ2
def Ob13 (I : Hp → Prop) (σ : Hp) : Prop := ∀ a1 a2 : Int32, ∃ (r : Int32) (τ1 τ2 : Hp), (Cx yX11_event cX11_event 3 (some .int) 900 122 122 [.ref 0, .int a1, .int a2] σ (fun o τ => o = .inl (some (.int r)) ∧ τ = τ1)) ∧ (Cx yX14_event cX14_event 3 (some .int) 900 122 122 [.ref 66, .int a1, .int a2] τ1 (fun o τ => o = .inl (some (.int r)) ∧ τ = τ2)) ∧ I τ2
def Ob14 (I : Hp → Prop) (σ : Hp) : Prop := ∃ (r : Int32) (τ1 τ2 : Hp), (Cx yX11_place cX11_place 2 (some .int) 900 122 122 [.ref 0] σ (fun o τ => o = .inl (some (.int r)) ∧ τ = τ1)) ∧ (Cx yX14_place cX14_place 2 (some .int) 900 122 122 [.ref 66] τ1 (fun o τ => o = .inl (some (.int r)) ∧ τ = τ2)) ∧ I τ2
def Ob15 (I : Hp → Prop) (σ : Hp) : Prop := ∀ a1 : Int32, ∃ (r : Int32) (τ1 τ2 : Hp), (Cx yX11_check cX11_check 2 (some .int) 900 122 122 [.ref 0, .int a1] σ (fun o τ => o = .inl (some (.int r)) ∧ τ = τ1)) ∧ (Cx yX14_check cX14_check 3 (some .int) 900 122 122 [.ref 66, .int a1] τ1 (fun o τ => o = .inl (some (.int r)) ∧ τ = τ2)) ∧ I τ2
def Ob16 (I : Hp → Prop) (σ : Hp) : Prop := ∀ a1 : Int32, ∃ (r : Int32) (τ1 τ2 : Hp), (Cx yX11_begin cX11_begin 2 (some .boolean) 900 122 122 [.ref 0, .int a1] σ (fun o τ => o = .inl (some (.int r)) ∧ τ = τ1)) ∧ (Cx yX14_begin cX14_begin 2 (some .boolean) 900 122 122 [.ref 66, .int a1] τ1 (fun o τ => o = .inl (some (.int r)) ∧ τ = τ2)) ∧ I τ2
def Ob17 (I : Hp → Prop) (σ : Hp) : Prop := ∀ a1 : Int32, ∃ (r : Int32) (τ1 τ2 : Hp), (Cx yX11_run cX11_run 2 (some .int) 900 122 122 [.ref 0, .int a1] σ (fun o τ => o = .inl (some (.int r)) ∧ τ = τ1)) ∧ (Cx yX14_run cX14_run 3 (some .int) 900 122 122 [.ref 66, .int a1] τ1 (fun o τ => o = .inl (some (.int r)) ∧ τ = τ2)) ∧ I τ2
def Ob18 (I : Hp → Prop) (σ : Hp) : Prop := ∀ a1 : Int32, ∃ (r : Int32) (τ1 τ2 : Hp), (Cx yX11_get cX11_get 2 (some .int) 900 122 122 [.ref 0, .int a1] σ (fun o τ => o = .inl (some (.int r)) ∧ τ = τ1)) ∧ (Cx yX14_get cX14_get 2 (some .int) 900 122 122 [.ref 66, .int a1] τ1 (fun o τ => o = .inl (some (.int r)) ∧ τ = τ2)) ∧ I τ2
def Ob19 (I : Hp → Prop) (σ : Hp) : Prop := ∀ a1 a2 : Int32, ∃ (r : Int32) (τ1 τ2 : Hp), (Cx yX11_put cX11_put 3 (some .boolean) 900 122 122 [.ref 0, .int a1, .int a2] σ (fun o τ => o = .inl (some (.int r)) ∧ τ = τ1)) ∧ (Cx yX14_put cX14_put 3 (some .boolean) 900 122 122 [.ref 66, .int a1, .int a2] τ1 (fun o τ => o = .inl (some (.int r)) ∧ τ = τ2)) ∧ I τ2
def Ob20 (I : Hp → Prop) (σ : Hp) : Prop := ∀ a1 a2 : Int32, ∃ (r : Int32) (τ1 τ2 : Hp), (Cx yX11_store cX11_store 3 (some .boolean) 900 122 122 [.ref 0, .int a1, .int a2] σ (fun o τ => o = .inl (some (.int r)) ∧ τ = τ1)) ∧ (Cx yX14_store cX14_store 3 (some .boolean) 900 122 122 [.ref 66, .int a1, .int a2] τ1 (fun o τ => o = .inl (some (.int r)) ∧ τ = τ2)) ∧ I τ2
def Ob21 (I : Hp → Prop) (σ : Hp) : Prop := ∀ a1 : Int32, ∃ (r : Int32) (τ1 τ2 : Hp), (Cx yX11_load cX11_load 2 (some .int) 900 122 122 [.ref 0, .int a1] σ (fun o τ => o = .inl (some (.int r)) ∧ τ = τ1)) ∧ (Cx yX14_load_ cX14_load_ 2 (some .int) 900 122 122 [.ref 66, .int a1] τ1 (fun o τ => o = .inl (some (.int r)) ∧ τ = τ2)) ∧ I τ2
def Obs (I J : Hp → Prop) : Prop := ∀ σ, I σ → Ob0 J σ ∧ Ob1 J σ ∧ Ob2 J σ ∧ Ob3 J σ ∧ Ob4 J σ ∧ Ob5 J σ ∧ Ob6 J σ ∧ Ob7 J σ ∧ Ob8 J σ ∧ Ob9 J σ ∧ Ob10 J σ ∧ Ob11 J σ ∧ Ob12 J σ ∧ Ob13 J σ ∧ Ob14 J σ ∧ Ob15 J σ ∧ Ob16 J σ ∧ Ob17 J σ ∧ Ob18 J σ ∧ Ob19 J σ ∧ Ob20 J σ ∧ Ob21 J σ ∧ J σ
set_option maxRecDepth 100000 in
theorem law_loop {b L : Nat} {xs : Nat → Int32} (hL : L ≤ 384) (N : Nat) (hN2 : N ≤ 1000) (hN : L < 6 * (N + 1)) (I : Nat → Hp → Prop) (hob : ∀ j, j < N → Obs (I j) (I (j + 1))) : ∀ (q j : Nat) (σ : Hp), N - j ≤ q → j ≤ N → I j σ → Wx (SL b L xs) 122 18 [.retAddr (b + 1), .ref 0, .ref 66, .int (nI (6 * j))] [] σ := by
  intro q
  induction q with
  | zero =>
    intro j σ hq hj hI
    refine Wx_iload3 dL_18 ?_
    refine Wx_aload0X dL_19 ?_
    refine Wx_slen dL_20 ?_
    refine Wx_bipush (v := 6) dL_21 (by decide) ?_
    refine Wx_isub dL_23 ?_
    refine Wx_icmp_gt 728 dL_24 (by decide) (fun _ => ?_) (fun h => ?_)
    · refine Wx_iconst (v := 1) dL_728 (by decide) ?_
      exact Wx_zreturn dL_729 rfl (Or.inr rfl) rfl rfl
    · exfalso
      have e1 : (nI (6 * j)).toInt = ((6 * j : Nat) : Int) := nI_toInt (by omega)
      have e2 : (Int32.ofNat L - 6).toInt = (L : Int) - 6 := pk_sub_toInt (a := L) (b := 6) (by omega) (by omega)
      rw [Int32.lt_iff_toInt_lt, e1, e2] at h
      omega
  | succ q ih =>
    intro j σ hq hj hI
    refine Wx_iload3 dL_18 ?_
    refine Wx_aload0X dL_19 ?_
    refine Wx_slen dL_20 ?_
    refine Wx_bipush (v := 6) dL_21 (by decide) ?_
    refine Wx_isub dL_23 ?_
    refine Wx_icmp_gt 728 dL_24 (by decide) (fun _ => ?_) (fun h => ?_)
    · refine Wx_iconst (v := 1) dL_728 (by decide) ?_
      exact Wx_zreturn dL_729 rfl (Or.inr rfl) rfl rfl
    · have hi : 6 * j + 6 ≤ L := by
        have e1 : (nI (6 * j)).toInt = ((6 * j : Nat) : Int) := nI_toInt (by omega)
        have e2 : (Int32.ofNat L - 6).toInt = (L : Int) - 6 := pk_sub_toInt (a := L) (b := 6) (by omega) (by omega)
        rw [Int32.lt_iff_toInt_lt, e1, e2] at h
        omega
      have hjN : j < N := by omega
      have ho := hob j hjN σ hI
      have next : ∀ τ, I (j + 1) τ → Wx (SL b L xs) 122 18 [.retAddr (b + 1), .ref 0, .ref 66, .int (nI (6 * j + 6))] [] τ := fun τ hτ => ih (j + 1) τ (by omega) (by omega) hτ
      refine Wx_aload0X dL_27 ?_
      refine Wx_iload3 dL_28 ?_
      refine Wx_sldN dL_29 (6 * j) rfl (by omega) hL ?_
      refine Wx_bipush (v := 31) dL_30 (by decide) ?_
      refine Wx_iand dL_32 ?_
      obtain ⟨c, hc, hx⟩ := pk_andE (xs (6 * j)) (m := 31) 5 (by decide)
      rw [hx]
      clear hx
      match c, hc with
      | 0, _ =>
        refine Wx_tableIn 136 dL_33 (by decide) (by decide) rfl (by decide) ?_
        obtain ⟨r, τ1, τ2, h1, h2, h3⟩ := ho.1 (xs (6 * j + 1)) (xs (6 * j + 2)) (xs (6 * j + 3)) (xs (6 * j + 4)) (xs (6 * j + 5))
        exact law_c0 hi hL h1 h2 (next τ2 h3)
      | 1, _ =>
        refine Wx_tableIn 199 dL_33 (by decide) (by decide) rfl (by decide) ?_
        obtain ⟨r, τ1, τ2, h1, h2, h3⟩ := ho.2.1 (xs (6 * j + 1))
        exact law_c1 hi hL h1 h2 (next τ2 h3)
      | 2, _ =>
        refine Wx_tableIn 222 dL_33 (by decide) (by decide) rfl (by decide) ?_
        obtain ⟨r, τ1, τ2, h1, h2, h3⟩ := ho.2.2.1
        exact law_c2 hi hL h1 (h2 b L xs) (next τ2 h3)
      | 3, _ =>
        refine Wx_tableIn 235 dL_33 (by decide) (by decide) rfl (by decide) ?_
        obtain ⟨r, τ1, τ2, h1, h2, h3⟩ := ho.2.2.2.1 (xs (6 * j + 1))
        exact law_c3 hi hL h1 h2 (next τ2 h3)
      | 4, _ =>
        refine Wx_tableIn 258 dL_33 (by decide) (by decide) rfl (by decide) ?_
        obtain ⟨r, τ1, τ2, h1, h2, h3⟩ := ho.2.2.2.2.1 (xs (6 * j + 1))
        exact law_c4 hi hL h1 h2 (next τ2 h3)
      | 5, _ =>
        refine Wx_tableIn 281 dL_33 (by decide) (by decide) rfl (by decide) ?_
        obtain ⟨r, τ1, τ2, h1, h2, h3⟩ := ho.2.2.2.2.2.1 (xs (6 * j + 1)) (xs (6 * j + 2))
        exact law_c5 hi hL h1 h2 (next τ2 h3)
      | 6, _ =>
        refine Wx_tableIn 314 dL_33 (by decide) (by decide) rfl (by decide) ?_
        obtain ⟨r, τ1, τ2, h1, h2, h3⟩ := ho.2.2.2.2.2.2.1 (xs (6 * j + 1)) (xs (6 * j + 2))
        exact law_c6 hi hL h1 h2 (next τ2 h3)
      | 7, _ =>
        refine Wx_tableIn 347 dL_33 (by decide) (by decide) rfl (by decide) ?_
        obtain ⟨r, τ1, τ2, h1, h2, h3⟩ := ho.2.2.2.2.2.2.2.1 (xs (6 * j + 1)) (xs (6 * j + 2))
        exact law_c7 hi hL h1 h2 (next τ2 h3)
      | 8, _ =>
        refine Wx_tableIn 380 dL_33 (by decide) (by decide) rfl (by decide) ?_
        obtain ⟨r, τ1, τ2, h1, h2, h3⟩ := ho.2.2.2.2.2.2.2.2.1 (xs (6 * j + 1))
        exact law_c8 hi hL h1 h2 (next τ2 h3)
      | 9, _ =>
        refine Wx_tableIn 403 dL_33 (by decide) (by decide) rfl (by decide) ?_
        obtain ⟨r, τ1, τ2, h1, h2, h3⟩ := ho.2.2.2.2.2.2.2.2.2.1
        exact law_c9 hi hL h1 h2 (next τ2 h3)
      | 10, _ =>
        refine Wx_tableIn 416 dL_33 (by decide) (by decide) rfl (by decide) ?_
        obtain ⟨r, τ1, τ2, h1, h2, h3⟩ := ho.2.2.2.2.2.2.2.2.2.2.1 (xs (6 * j + 1)) (xs (6 * j + 2))
        exact law_c10 hi hL h1 h2 (next τ2 h3)
      | 11, _ =>
        refine Wx_tableIn 449 dL_33 (by decide) (by decide) rfl (by decide) ?_
        obtain ⟨r, τ1, τ2, h1, h2, h3⟩ := ho.2.2.2.2.2.2.2.2.2.2.2.1 (xs (6 * j + 1)) (xs (6 * j + 2))
        exact law_c11 hi hL h1 h2 (next τ2 h3)
      | 12, _ =>
        refine Wx_tableIn 482 dL_33 (by decide) (by decide) rfl (by decide) ?_
        obtain ⟨r, τ1, τ2, h1, h2, h3⟩ := ho.2.2.2.2.2.2.2.2.2.2.2.2.1
        exact law_c12 hi hL h1 h2 (next τ2 h3)
      | 13, _ =>
        refine Wx_tableIn 495 dL_33 (by decide) (by decide) rfl (by decide) ?_
        obtain ⟨r, τ1, τ2, h1, h2, h3⟩ := ho.2.2.2.2.2.2.2.2.2.2.2.2.2.1 (xs (6 * j + 1)) (xs (6 * j + 2))
        exact law_c13 hi hL h1 h2 (next τ2 h3)
      | 14, _ =>
        refine Wx_tableIn 528 dL_33 (by decide) (by decide) rfl (by decide) ?_
        obtain ⟨r, τ1, τ2, h1, h2, h3⟩ := ho.2.2.2.2.2.2.2.2.2.2.2.2.2.2.1
        exact law_c14 hi hL h1 h2 (next τ2 h3)
      | 15, _ =>
        refine Wx_tableIn 541 dL_33 (by decide) (by decide) rfl (by decide) ?_
        obtain ⟨r, τ1, τ2, h1, h2, h3⟩ := ho.2.2.2.2.2.2.2.2.2.2.2.2.2.2.2.1 (xs (6 * j + 1))
        exact law_c15 hi hL h1 h2 (next τ2 h3)
      | 16, _ =>
        refine Wx_tableIn 564 dL_33 (by decide) (by decide) rfl (by decide) ?_
        obtain ⟨r, τ1, τ2, h1, h2, h3⟩ := ho.2.2.2.2.2.2.2.2.2.2.2.2.2.2.2.2.1 (xs (6 * j + 1))
        exact law_c16 hi hL h1 h2 (next τ2 h3)
      | 17, _ =>
        refine Wx_tableIn 587 dL_33 (by decide) (by decide) rfl (by decide) ?_
        obtain ⟨r, τ1, τ2, h1, h2, h3⟩ := ho.2.2.2.2.2.2.2.2.2.2.2.2.2.2.2.2.2.1 (xs (6 * j + 1))
        exact law_c17 hi hL h1 h2 (next τ2 h3)
      | 18, _ =>
        refine Wx_tableIn 610 dL_33 (by decide) (by decide) rfl (by decide) ?_
        obtain ⟨r, τ1, τ2, h1, h2, h3⟩ := ho.2.2.2.2.2.2.2.2.2.2.2.2.2.2.2.2.2.2.1 (xs (6 * j + 1))
        exact law_c18 hi hL h1 h2 (next τ2 h3)
      | 19, _ =>
        refine Wx_tableIn 633 dL_33 (by decide) (by decide) rfl (by decide) ?_
        obtain ⟨r, τ1, τ2, h1, h2, h3⟩ := ho.2.2.2.2.2.2.2.2.2.2.2.2.2.2.2.2.2.2.2.1 (xs (6 * j + 1)) (xs (6 * j + 2))
        exact law_c19 hi hL h1 h2 (next τ2 h3)
      | 20, _ =>
        refine Wx_tableIn 666 dL_33 (by decide) (by decide) rfl (by decide) ?_
        obtain ⟨r, τ1, τ2, h1, h2, h3⟩ := ho.2.2.2.2.2.2.2.2.2.2.2.2.2.2.2.2.2.2.2.2.1 (xs (6 * j + 1)) (xs (6 * j + 2))
        exact law_c20 hi hL h1 h2 (next τ2 h3)
      | 21, _ =>
        refine Wx_tableIn 699 dL_33 (by decide) (by decide) rfl (by decide) ?_
        obtain ⟨r, τ1, τ2, h1, h2, h3⟩ := ho.2.2.2.2.2.2.2.2.2.2.2.2.2.2.2.2.2.2.2.2.2.1 (xs (6 * j + 1))
        exact law_c21 hi hL h1 h2 (next τ2 h3)
      | c + 22, hc =>
        have e : (nI (c + 22)).toInt = ((c + 22 : Nat) : Int) := nI_toInt (by omega)
        refine Wx_tableOut 722 dL_33 (Or.inr (by rw [e]; omega)) (by decide) ?_
        refine Wx_iinc3 dL_722 rfl (Nat.le_of_ble_eq_true rfl) ?_
        refine Wx_goto 18 dL_725 (by decide) ?_
        rw [nI_k (6 * j) 6 (by decide)]
        exact next σ ho.2.2.2.2.2.2.2.2.2.2.2.2.2.2.2.2.2.2.2.2.2.2
/-- what both objects are behind their constructors -/
def σF : Hp := t_66 (nO (t_0 (nO σ0 0)) 66)
set_option maxRecDepth 100000 in
theorem law_body {b L : Nat} {xs : Nat → Int32} (hL : L ≤ 384) (N : Nat) (hN2 : N ≤ 1000) (hN : L < 6 * (N + 1)) (I : Nat → Hp → Prop) (h0 : I 0 σF) (hob : ∀ j, j < N → Obs (I j) (I (j + 1))) : Wx (SL b L xs) 0 0 [.retAddr (b + 1), .retAddr 0, .retAddr 0, .retAddr 0] [] σ0 := by
  refine Wx_new 11 dL_0 rfl cl_L_7 in_X11 it_X11 rfl (Nat.le_of_ble_eq_true rfl) (by decide) ?_
  refine Wx_dup dL_3 rfl ?_
  refine Wx_ctor 0 [] 0 m_X11_init l_L_9 im_X11_init rfl dL_4 (c_0 _) (Nat.le_of_ble_eq_true rfl) (Nat.le_of_ble_eq_true rfl) (Nat.le_of_ble_eq_true rfl) rfl (Nat.le_of_ble_eq_true rfl) rfl ?_
  refine Wx_astore1 dL_7 rfl (Nat.le_of_ble_eq_true rfl) ?_
  refine Wx_new 14 dL_8 rfl cl_L_10 in_X14 it_X14 rfl (Nat.le_of_ble_eq_true rfl) (by decide) ?_
  refine Wx_dup dL_11 rfl ?_
  refine Wx_ctor 66 [] 0 m_X14_init l_L_12 im_X14_init rfl dL_12 (c_66 _) (Nat.le_of_ble_eq_true rfl) (Nat.le_of_ble_eq_true rfl) (Nat.le_of_ble_eq_true rfl) rfl (Nat.le_of_ble_eq_true rfl) rfl ?_
  refine Wx_astore2 dL_15 rfl (Nat.le_of_ble_eq_true rfl) ?_
  refine Wx_iconst (v := 0) dL_16 (by decide) ?_
  refine Wx_istore3 dL_17 rfl (Nat.le_of_ble_eq_true rfl) ?_
  exact law_loop hL N hN2 hN I hob N 0 σF (by omega) (by omega) h0
