theorem i_274_18 : aIns 274 18 = some (.iload_n 3, 1, 0, 0, .null) := by decide +kernel
theorem i_274_19 : aIns 274 19 = some (.aload_n 0, 1, 0, 0, .null) := by decide +kernel
theorem i_274_20 : aIns 274 20 = some (.arraylength, 1, 0, 0, .null) := by decide +kernel
theorem i_274_21 : aIns 274 21 = some (.bipush 6, 2, 0, 0, .int (6)) := by decide +kernel
theorem i_274_23 : aIns 274 23 = some (.isub, 1, 0, 0, .null) := by decide +kernel
theorem i_274_24 : aIns 274 24 = some (.if_icmp .gt 1142, 3, 0, 0, .null) := by decide +kernel
theorem i_274_27 : aIns 274 27 = some (.aload_n 0, 1, 0, 0, .null) := by decide +kernel
theorem i_274_28 : aIns 274 28 = some (.iload_n 3, 1, 0, 0, .null) := by decide +kernel
theorem i_274_29 : aIns 274 29 = some (.iaload, 1, 0, 0, .null) := by decide +kernel
theorem i_274_30 : aIns 274 30 = some (.bipush 63, 2, 0, 0, .int (63)) := by decide +kernel
theorem i_274_32 : aIns 274 32 = some (.iand, 1, 0, 0, .null) := by decide +kernel
theorem i_274_33 : aIns 274 33 = some (.tableswitch 1127 0 35 #[159, 222, 245, 258, 271, 294, 327, 360, 393, 436, 459, 482, 505, 528, 551, 574, 587, 610, 623, 636, 659, 682, 705, 728, 751, 774, 797, 840, 893, 916, 959, 992, 1015, 1058, 1081, 1104], 159, 0, 0, .null) := by decide +kernel
theorem i_274_192 : aIns 274 192 = some (.aload_n 1, 1, 0, 0, .null) := by decide +kernel
theorem i_274_193 : aIns 274 193 = some (.aload_n 0, 1, 0, 0, .null) := by decide +kernel
theorem i_274_194 : aIns 274 194 = some (.iload_n 3, 1, 0, 0, .null) := by decide +kernel
theorem i_274_195 : aIns 274 195 = some (.iconst 1, 1, 0, 0, .int (1)) := by decide +kernel
theorem i_274_196 : aIns 274 196 = some (.iadd, 1, 0, 0, .null) := by decide +kernel
theorem i_274_197 : aIns 274 197 = some (.iaload, 1, 0, 0, .null) := by decide +kernel
theorem i_274_198 : aIns 274 198 = some (.aload_n 0, 1, 0, 0, .null) := by decide +kernel
theorem i_274_199 : aIns 274 199 = some (.iload_n 3, 1, 0, 0, .null) := by decide +kernel
theorem i_274_200 : aIns 274 200 = some (.iconst 2, 1, 0, 0, .int (2)) := by decide +kernel
theorem i_274_201 : aIns 274 201 = some (.iadd, 1, 0, 0, .null) := by decide +kernel
theorem i_274_202 : aIns 274 202 = some (.iaload, 1, 0, 0, .null) := by decide +kernel
theorem i_274_203 : aIns 274 203 = some (.aload_n 0, 1, 0, 0, .null) := by decide +kernel
theorem i_274_204 : aIns 274 204 = some (.iload_n 3, 1, 0, 0, .null) := by decide +kernel
theorem i_274_205 : aIns 274 205 = some (.iconst 3, 1, 0, 0, .int (3)) := by decide +kernel
theorem i_274_206 : aIns 274 206 = some (.iadd, 1, 0, 0, .null) := by decide +kernel
theorem i_274_207 : aIns 274 207 = some (.iaload, 1, 0, 0, .null) := by decide +kernel
theorem i_274_208 : aIns 274 208 = some (.aload_n 0, 1, 0, 0, .null) := by decide +kernel
theorem i_274_209 : aIns 274 209 = some (.iload_n 3, 1, 0, 0, .null) := by decide +kernel
theorem i_274_210 : aIns 274 210 = some (.iconst 4, 1, 0, 0, .int (4)) := by decide +kernel
theorem i_274_211 : aIns 274 211 = some (.iadd, 1, 0, 0, .null) := by decide +kernel
theorem i_274_212 : aIns 274 212 = some (.iaload, 1, 0, 0, .null) := by decide +kernel
theorem i_274_213 : aIns 274 213 = some (.aload_n 0, 1, 0, 0, .null) := by decide +kernel
theorem i_274_214 : aIns 274 214 = some (.iload_n 3, 1, 0, 0, .null) := by decide +kernel
theorem i_274_215 : aIns 274 215 = some (.iconst 5, 1, 0, 0, .int (5)) := by decide +kernel
theorem i_274_216 : aIns 274 216 = some (.iadd, 1, 0, 0, .null) := by decide +kernel
theorem i_274_217 : aIns 274 217 = some (.iaload, 1, 0, 0, .null) := by decide +kernel
theorem i_274_218 : aIns 274 218 = some (.invokevirtual 13, 3, 102, 5, .int 11) := by decide +kernel
theorem i_274_221 : aIns 274 221 = some (.aload_n 2, 1, 0, 0, .null) := by decide +kernel
theorem i_274_222 : aIns 274 222 = some (.aload_n 0, 1, 0, 0, .null) := by decide +kernel
theorem i_274_223 : aIns 274 223 = some (.iload_n 3, 1, 0, 0, .null) := by decide +kernel
theorem i_274_224 : aIns 274 224 = some (.iconst 1, 1, 0, 0, .int (1)) := by decide +kernel
theorem i_274_225 : aIns 274 225 = some (.iadd, 1, 0, 0, .null) := by decide +kernel
theorem i_274_226 : aIns 274 226 = some (.iaload, 1, 0, 0, .null) := by decide +kernel
theorem i_274_227 : aIns 274 227 = some (.aload_n 0, 1, 0, 0, .null) := by decide +kernel
theorem i_274_228 : aIns 274 228 = some (.iload_n 3, 1, 0, 0, .null) := by decide +kernel
theorem i_274_229 : aIns 274 229 = some (.iconst 2, 1, 0, 0, .int (2)) := by decide +kernel
theorem i_274_230 : aIns 274 230 = some (.iadd, 1, 0, 0, .null) := by decide +kernel
theorem i_274_231 : aIns 274 231 = some (.iaload, 1, 0, 0, .null) := by decide +kernel
theorem i_274_232 : aIns 274 232 = some (.aload_n 0, 1, 0, 0, .null) := by decide +kernel
theorem i_274_233 : aIns 274 233 = some (.iload_n 3, 1, 0, 0, .null) := by decide +kernel
theorem i_274_234 : aIns 274 234 = some (.iconst 3, 1, 0, 0, .int (3)) := by decide +kernel
theorem i_274_235 : aIns 274 235 = some (.iadd, 1, 0, 0, .null) := by decide +kernel
theorem i_274_236 : aIns 274 236 = some (.iaload, 1, 0, 0, .null) := by decide +kernel
theorem i_274_237 : aIns 274 237 = some (.aload_n 0, 1, 0, 0, .null) := by decide +kernel
theorem i_274_238 : aIns 274 238 = some (.iload_n 3, 1, 0, 0, .null) := by decide +kernel
theorem i_274_239 : aIns 274 239 = some (.iconst 4, 1, 0, 0, .int (4)) := by decide +kernel
theorem i_274_240 : aIns 274 240 = some (.iadd, 1, 0, 0, .null) := by decide +kernel
theorem i_274_241 : aIns 274 241 = some (.iaload, 1, 0, 0, .null) := by decide +kernel
theorem i_274_242 : aIns 274 242 = some (.aload_n 0, 1, 0, 0, .null) := by decide +kernel
theorem i_274_243 : aIns 274 243 = some (.iload_n 3, 1, 0, 0, .null) := by decide +kernel
theorem i_274_244 : aIns 274 244 = some (.iconst 5, 1, 0, 0, .int (5)) := by decide +kernel
theorem i_274_245 : aIns 274 245 = some (.iadd, 1, 0, 0, .null) := by decide +kernel
theorem i_274_246 : aIns 274 246 = some (.iaload, 1, 0, 0, .null) := by decide +kernel
theorem i_274_247 : aIns 274 247 = some (.invokevirtual 17, 3, 143, 5, .int 12) := by decide +kernel
theorem i_274_250 : aIns 274 250 = some (.if_icmp .eq 910, 3, 0, 0, .null) := by decide +kernel
theorem i_274_255 : aIns 274 255 = some (.aload_n 1, 1, 0, 0, .null) := by decide +kernel
theorem i_274_256 : aIns 274 256 = some (.aload_n 0, 1, 0, 0, .null) := by decide +kernel
theorem i_274_257 : aIns 274 257 = some (.iload_n 3, 1, 0, 0, .null) := by decide +kernel
theorem i_274_258 : aIns 274 258 = some (.iconst 1, 1, 0, 0, .int (1)) := by decide +kernel
theorem i_274_259 : aIns 274 259 = some (.iadd, 1, 0, 0, .null) := by decide +kernel
theorem i_274_260 : aIns 274 260 = some (.iaload, 1, 0, 0, .null) := by decide +kernel
theorem i_274_261 : aIns 274 261 = some (.invokevirtual 18, 3, 103, 1, .int 11) := by decide +kernel
theorem i_274_264 : aIns 274 264 = some (.aload_n 2, 1, 0, 0, .null) := by decide +kernel
theorem i_274_265 : aIns 274 265 = some (.aload_n 0, 1, 0, 0, .null) := by decide +kernel
theorem i_274_266 : aIns 274 266 = some (.iload_n 3, 1, 0, 0, .null) := by decide +kernel
theorem i_274_267 : aIns 274 267 = some (.iconst 1, 1, 0, 0, .int (1)) := by decide +kernel
theorem i_274_268 : aIns 274 268 = some (.iadd, 1, 0, 0, .null) := by decide +kernel
theorem i_274_269 : aIns 274 269 = some (.iaload, 1, 0, 0, .null) := by decide +kernel
theorem i_274_270 : aIns 274 270 = some (.invokevirtual 22, 3, 144, 1, .int 12) := by decide +kernel
theorem i_274_273 : aIns 274 273 = some (.if_icmp .eq 887, 3, 0, 0, .null) := by decide +kernel
theorem i_274_278 : aIns 274 278 = some (.aload_n 1, 1, 0, 0, .null) := by decide +kernel
theorem i_274_279 : aIns 274 279 = some (.invokevirtual 23, 3, 104, 0, .int 11) := by decide +kernel
theorem i_274_282 : aIns 274 282 = some (.aload_n 2, 1, 0, 0, .null) := by decide +kernel
theorem i_274_283 : aIns 274 283 = some (.invokevirtual 27, 3, 181, 0, .int 12) := by decide +kernel
theorem i_274_286 : aIns 274 286 = some (.if_icmp .eq 874, 3, 0, 0, .null) := by decide +kernel
theorem i_274_291 : aIns 274 291 = some (.aload_n 1, 1, 0, 0, .null) := by decide +kernel
theorem i_274_292 : aIns 274 292 = some (.invokevirtual 28, 3, 105, 0, .int 11) := by decide +kernel
theorem i_274_295 : aIns 274 295 = some (.aload_n 2, 1, 0, 0, .null) := by decide +kernel
theorem i_274_296 : aIns 274 296 = some (.invokevirtual 31, 3, 180, 0, .int 12) := by decide +kernel
theorem i_274_299 : aIns 274 299 = some (.if_icmp .eq 861, 3, 0, 0, .null) := by decide +kernel
theorem i_274_304 : aIns 274 304 = some (.aload_n 1, 1, 0, 0, .null) := by decide +kernel
theorem i_274_305 : aIns 274 305 = some (.aload_n 0, 1, 0, 0, .null) := by decide +kernel
theorem i_274_306 : aIns 274 306 = some (.iload_n 3, 1, 0, 0, .null) := by decide +kernel
theorem i_274_307 : aIns 274 307 = some (.iconst 1, 1, 0, 0, .int (1)) := by decide +kernel
theorem i_274_308 : aIns 274 308 = some (.iadd, 1, 0, 0, .null) := by decide +kernel
theorem i_274_309 : aIns 274 309 = some (.iaload, 1, 0, 0, .null) := by decide +kernel
theorem i_274_310 : aIns 274 310 = some (.invokevirtual 32, 3, 106, 1, .int 11) := by decide +kernel
theorem i_274_313 : aIns 274 313 = some (.aload_n 2, 1, 0, 0, .null) := by decide +kernel
theorem i_274_314 : aIns 274 314 = some (.aload_n 0, 1, 0, 0, .null) := by decide +kernel
theorem i_274_315 : aIns 274 315 = some (.iload_n 3, 1, 0, 0, .null) := by decide +kernel
theorem i_274_316 : aIns 274 316 = some (.iconst 1, 1, 0, 0, .int (1)) := by decide +kernel
theorem i_274_317 : aIns 274 317 = some (.iadd, 1, 0, 0, .null) := by decide +kernel
theorem i_274_318 : aIns 274 318 = some (.iaload, 1, 0, 0, .null) := by decide +kernel
theorem i_274_319 : aIns 274 319 = some (.invokevirtual 35, 3, 196, 1, .int 12) := by decide +kernel
theorem i_274_322 : aIns 274 322 = some (.if_icmp .eq 838, 3, 0, 0, .null) := by decide +kernel
theorem i_274_327 : aIns 274 327 = some (.aload_n 1, 1, 0, 0, .null) := by decide +kernel
theorem i_274_328 : aIns 274 328 = some (.aload_n 0, 1, 0, 0, .null) := by decide +kernel
theorem i_274_329 : aIns 274 329 = some (.iload_n 3, 1, 0, 0, .null) := by decide +kernel
theorem i_274_330 : aIns 274 330 = some (.iconst 1, 1, 0, 0, .int (1)) := by decide +kernel
theorem i_274_331 : aIns 274 331 = some (.iadd, 1, 0, 0, .null) := by decide +kernel
theorem i_274_332 : aIns 274 332 = some (.iaload, 1, 0, 0, .null) := by decide +kernel
theorem i_274_333 : aIns 274 333 = some (.aload_n 0, 1, 0, 0, .null) := by decide +kernel
theorem i_274_334 : aIns 274 334 = some (.iload_n 3, 1, 0, 0, .null) := by decide +kernel
theorem i_274_335 : aIns 274 335 = some (.iconst 2, 1, 0, 0, .int (2)) := by decide +kernel
theorem i_274_336 : aIns 274 336 = some (.iadd, 1, 0, 0, .null) := by decide +kernel
theorem i_274_337 : aIns 274 337 = some (.iaload, 1, 0, 0, .null) := by decide +kernel
theorem i_274_338 : aIns 274 338 = some (.invokevirtual 36, 3, 107, 2, .int 11) := by decide +kernel
theorem i_274_341 : aIns 274 341 = some (.aload_n 2, 1, 0, 0, .null) := by decide +kernel
theorem i_274_342 : aIns 274 342 = some (.aload_n 0, 1, 0, 0, .null) := by decide +kernel
theorem i_274_343 : aIns 274 343 = some (.iload_n 3, 1, 0, 0, .null) := by decide +kernel
theorem i_274_344 : aIns 274 344 = some (.iconst 1, 1, 0, 0, .int (1)) := by decide +kernel
theorem i_274_345 : aIns 274 345 = some (.iadd, 1, 0, 0, .null) := by decide +kernel
theorem i_274_346 : aIns 274 346 = some (.iaload, 1, 0, 0, .null) := by decide +kernel
theorem i_274_347 : aIns 274 347 = some (.aload_n 0, 1, 0, 0, .null) := by decide +kernel
theorem i_274_348 : aIns 274 348 = some (.iload_n 3, 1, 0, 0, .null) := by decide +kernel
theorem i_274_349 : aIns 274 349 = some (.iconst 2, 1, 0, 0, .int (2)) := by decide +kernel
theorem i_274_350 : aIns 274 350 = some (.iadd, 1, 0, 0, .null) := by decide +kernel
theorem i_274_351 : aIns 274 351 = some (.iaload, 1, 0, 0, .null) := by decide +kernel
theorem i_274_352 : aIns 274 352 = some (.invokevirtual 40, 3, 201, 2, .int 12) := by decide +kernel
theorem i_274_355 : aIns 274 355 = some (.if_icmp .eq 805, 3, 0, 0, .null) := by decide +kernel
theorem i_274_360 : aIns 274 360 = some (.aload_n 1, 1, 0, 0, .null) := by decide +kernel
theorem i_274_361 : aIns 274 361 = some (.aload_n 0, 1, 0, 0, .null) := by decide +kernel
theorem i_274_362 : aIns 274 362 = some (.iload_n 3, 1, 0, 0, .null) := by decide +kernel
theorem i_274_363 : aIns 274 363 = some (.iconst 1, 1, 0, 0, .int (1)) := by decide +kernel
theorem i_274_364 : aIns 274 364 = some (.iadd, 1, 0, 0, .null) := by decide +kernel
theorem i_274_365 : aIns 274 365 = some (.iaload, 1, 0, 0, .null) := by decide +kernel
theorem i_274_366 : aIns 274 366 = some (.aload_n 0, 1, 0, 0, .null) := by decide +kernel
theorem i_274_367 : aIns 274 367 = some (.iload_n 3, 1, 0, 0, .null) := by decide +kernel
theorem i_274_368 : aIns 274 368 = some (.iconst 2, 1, 0, 0, .int (2)) := by decide +kernel
theorem i_274_369 : aIns 274 369 = some (.iadd, 1, 0, 0, .null) := by decide +kernel
theorem i_274_370 : aIns 274 370 = some (.iaload, 1, 0, 0, .null) := by decide +kernel
theorem i_274_371 : aIns 274 371 = some (.invokevirtual 41, 3, 108, 2, .int 11) := by decide +kernel
theorem i_274_374 : aIns 274 374 = some (.aload_n 2, 1, 0, 0, .null) := by decide +kernel
theorem i_274_375 : aIns 274 375 = some (.aload_n 0, 1, 0, 0, .null) := by decide +kernel
theorem i_274_376 : aIns 274 376 = some (.iload_n 3, 1, 0, 0, .null) := by decide +kernel
theorem i_274_377 : aIns 274 377 = some (.iconst 1, 1, 0, 0, .int (1)) := by decide +kernel
theorem i_274_378 : aIns 274 378 = some (.iadd, 1, 0, 0, .null) := by decide +kernel
theorem i_274_379 : aIns 274 379 = some (.iaload, 1, 0, 0, .null) := by decide +kernel
theorem i_274_380 : aIns 274 380 = some (.aload_n 0, 1, 0, 0, .null) := by decide +kernel
theorem i_274_381 : aIns 274 381 = some (.iload_n 3, 1, 0, 0, .null) := by decide +kernel
theorem i_274_382 : aIns 274 382 = some (.iconst 2, 1, 0, 0, .int (2)) := by decide +kernel
theorem i_274_383 : aIns 274 383 = some (.iadd, 1, 0, 0, .null) := by decide +kernel
theorem i_274_384 : aIns 274 384 = some (.iaload, 1, 0, 0, .null) := by decide +kernel
theorem i_274_385 : aIns 274 385 = some (.invokevirtual 44, 3, 203, 2, .int 12) := by decide +kernel
theorem i_274_388 : aIns 274 388 = some (.if_icmp .eq 772, 3, 0, 0, .null) := by decide +kernel
theorem i_274_393 : aIns 274 393 = some (.aload_n 1, 1, 0, 0, .null) := by decide +kernel
theorem i_274_394 : aIns 274 394 = some (.aload_n 0, 1, 0, 0, .null) := by decide +kernel
theorem i_274_395 : aIns 274 395 = some (.iload_n 3, 1, 0, 0, .null) := by decide +kernel
theorem i_274_396 : aIns 274 396 = some (.iconst 1, 1, 0, 0, .int (1)) := by decide +kernel
theorem i_274_397 : aIns 274 397 = some (.iadd, 1, 0, 0, .null) := by decide +kernel
theorem i_274_398 : aIns 274 398 = some (.iaload, 1, 0, 0, .null) := by decide +kernel
theorem i_274_399 : aIns 274 399 = some (.aload_n 0, 1, 0, 0, .null) := by decide +kernel
theorem i_274_400 : aIns 274 400 = some (.iload_n 3, 1, 0, 0, .null) := by decide +kernel
theorem i_274_401 : aIns 274 401 = some (.iconst 2, 1, 0, 0, .int (2)) := by decide +kernel
theorem i_274_402 : aIns 274 402 = some (.iadd, 1, 0, 0, .null) := by decide +kernel
theorem i_274_403 : aIns 274 403 = some (.iaload, 1, 0, 0, .null) := by decide +kernel
theorem i_274_404 : aIns 274 404 = some (.invokevirtual 45, 3, 109, 2, .int 11) := by decide +kernel
theorem i_274_407 : aIns 274 407 = some (.aload_n 2, 1, 0, 0, .null) := by decide +kernel
theorem i_274_408 : aIns 274 408 = some (.aload_n 0, 1, 0, 0, .null) := by decide +kernel
theorem i_274_409 : aIns 274 409 = some (.iload_n 3, 1, 0, 0, .null) := by decide +kernel
theorem i_274_410 : aIns 274 410 = some (.iconst 1, 1, 0, 0, .int (1)) := by decide +kernel
theorem i_274_411 : aIns 274 411 = some (.iadd, 1, 0, 0, .null) := by decide +kernel
theorem i_274_412 : aIns 274 412 = some (.iaload, 1, 0, 0, .null) := by decide +kernel
theorem i_274_413 : aIns 274 413 = some (.aload_n 0, 1, 0, 0, .null) := by decide +kernel
theorem i_274_414 : aIns 274 414 = some (.iload_n 3, 1, 0, 0, .null) := by decide +kernel
theorem i_274_415 : aIns 274 415 = some (.iconst 2, 1, 0, 0, .int (2)) := by decide +kernel
theorem i_274_416 : aIns 274 416 = some (.iadd, 1, 0, 0, .null) := by decide +kernel
theorem i_274_417 : aIns 274 417 = some (.iaload, 1, 0, 0, .null) := by decide +kernel
theorem i_274_418 : aIns 274 418 = some (.invokevirtual 48, 3, 204, 2, .int 12) := by decide +kernel
theorem i_274_421 : aIns 274 421 = some (.if_icmp .eq 739, 3, 0, 0, .null) := by decide +kernel
theorem i_274_426 : aIns 274 426 = some (.aload_n 1, 1, 0, 0, .null) := by decide +kernel
theorem i_274_427 : aIns 274 427 = some (.aload_n 0, 1, 0, 0, .null) := by decide +kernel
theorem i_274_428 : aIns 274 428 = some (.iload_n 3, 1, 0, 0, .null) := by decide +kernel
theorem i_274_429 : aIns 274 429 = some (.iconst 1, 1, 0, 0, .int (1)) := by decide +kernel
theorem i_274_430 : aIns 274 430 = some (.iadd, 1, 0, 0, .null) := by decide +kernel
theorem i_274_431 : aIns 274 431 = some (.iaload, 1, 0, 0, .null) := by decide +kernel
theorem i_274_432 : aIns 274 432 = some (.aload_n 0, 1, 0, 0, .null) := by decide +kernel
theorem i_274_433 : aIns 274 433 = some (.iload_n 3, 1, 0, 0, .null) := by decide +kernel
theorem i_274_434 : aIns 274 434 = some (.iconst 2, 1, 0, 0, .int (2)) := by decide +kernel
theorem i_274_435 : aIns 274 435 = some (.iadd, 1, 0, 0, .null) := by decide +kernel
theorem i_274_436 : aIns 274 436 = some (.iaload, 1, 0, 0, .null) := by decide +kernel
theorem i_274_437 : aIns 274 437 = some (.aload_n 0, 1, 0, 0, .null) := by decide +kernel
theorem i_274_438 : aIns 274 438 = some (.iload_n 3, 1, 0, 0, .null) := by decide +kernel
theorem i_274_439 : aIns 274 439 = some (.iconst 3, 1, 0, 0, .int (3)) := by decide +kernel
theorem i_274_440 : aIns 274 440 = some (.iadd, 1, 0, 0, .null) := by decide +kernel
theorem i_274_441 : aIns 274 441 = some (.iaload, 1, 0, 0, .null) := by decide +kernel
theorem i_274_442 : aIns 274 442 = some (.invokevirtual 49, 3, 110, 3, .int 11) := by decide +kernel
theorem i_274_445 : aIns 274 445 = some (.aload_n 2, 1, 0, 0, .null) := by decide +kernel
theorem i_274_446 : aIns 274 446 = some (.aload_n 0, 1, 0, 0, .null) := by decide +kernel
theorem i_274_447 : aIns 274 447 = some (.iload_n 3, 1, 0, 0, .null) := by decide +kernel
theorem i_274_448 : aIns 274 448 = some (.iconst 1, 1, 0, 0, .int (1)) := by decide +kernel
theorem i_274_449 : aIns 274 449 = some (.iadd, 1, 0, 0, .null) := by decide +kernel
theorem i_274_450 : aIns 274 450 = some (.iaload, 1, 0, 0, .null) := by decide +kernel
theorem i_274_451 : aIns 274 451 = some (.aload_n 0, 1, 0, 0, .null) := by decide +kernel
theorem i_274_452 : aIns 274 452 = some (.iload_n 3, 1, 0, 0, .null) := by decide +kernel
theorem i_274_453 : aIns 274 453 = some (.iconst 2, 1, 0, 0, .int (2)) := by decide +kernel
theorem i_274_454 : aIns 274 454 = some (.iadd, 1, 0, 0, .null) := by decide +kernel
theorem i_274_455 : aIns 274 455 = some (.iaload, 1, 0, 0, .null) := by decide +kernel
theorem i_274_456 : aIns 274 456 = some (.aload_n 0, 1, 0, 0, .null) := by decide +kernel
theorem i_274_457 : aIns 274 457 = some (.iload_n 3, 1, 0, 0, .null) := by decide +kernel
theorem i_274_458 : aIns 274 458 = some (.iconst 3, 1, 0, 0, .int (3)) := by decide +kernel
theorem i_274_459 : aIns 274 459 = some (.iadd, 1, 0, 0, .null) := by decide +kernel
theorem i_274_460 : aIns 274 460 = some (.iaload, 1, 0, 0, .null) := by decide +kernel
theorem i_274_461 : aIns 274 461 = some (.invokevirtual 53, 3, 205, 3, .int 12) := by decide +kernel
theorem i_274_464 : aIns 274 464 = some (.if_icmp .eq 696, 3, 0, 0, .null) := by decide +kernel
theorem i_274_469 : aIns 274 469 = some (.aload_n 1, 1, 0, 0, .null) := by decide +kernel
theorem i_274_470 : aIns 274 470 = some (.aload_n 0, 1, 0, 0, .null) := by decide +kernel
theorem i_274_471 : aIns 274 471 = some (.iload_n 3, 1, 0, 0, .null) := by decide +kernel
theorem i_274_472 : aIns 274 472 = some (.iconst 1, 1, 0, 0, .int (1)) := by decide +kernel
theorem i_274_473 : aIns 274 473 = some (.iadd, 1, 0, 0, .null) := by decide +kernel
theorem i_274_474 : aIns 274 474 = some (.iaload, 1, 0, 0, .null) := by decide +kernel
theorem i_274_475 : aIns 274 475 = some (.invokevirtual 54, 3, 111, 1, .int 11) := by decide +kernel
theorem i_274_478 : aIns 274 478 = some (.aload_n 2, 1, 0, 0, .null) := by decide +kernel
theorem i_274_479 : aIns 274 479 = some (.aload_n 0, 1, 0, 0, .null) := by decide +kernel
theorem i_274_480 : aIns 274 480 = some (.iload_n 3, 1, 0, 0, .null) := by decide +kernel
theorem i_274_481 : aIns 274 481 = some (.iconst 1, 1, 0, 0, .int (1)) := by decide +kernel
theorem i_274_482 : aIns 274 482 = some (.iadd, 1, 0, 0, .null) := by decide +kernel
theorem i_274_483 : aIns 274 483 = some (.iaload, 1, 0, 0, .null) := by decide +kernel
theorem i_274_484 : aIns 274 484 = some (.invokevirtual 57, 3, 213, 1, .int 12) := by decide +kernel
theorem i_274_487 : aIns 274 487 = some (.if_icmp .eq 673, 3, 0, 0, .null) := by decide +kernel
theorem i_274_492 : aIns 274 492 = some (.aload_n 1, 1, 0, 0, .null) := by decide +kernel
theorem i_274_493 : aIns 274 493 = some (.aload_n 0, 1, 0, 0, .null) := by decide +kernel
theorem i_274_494 : aIns 274 494 = some (.iload_n 3, 1, 0, 0, .null) := by decide +kernel
theorem i_274_495 : aIns 274 495 = some (.iconst 1, 1, 0, 0, .int (1)) := by decide +kernel
theorem i_274_496 : aIns 274 496 = some (.iadd, 1, 0, 0, .null) := by decide +kernel
theorem i_274_497 : aIns 274 497 = some (.iaload, 1, 0, 0, .null) := by decide +kernel
theorem i_274_498 : aIns 274 498 = some (.invokevirtual 58, 3, 112, 1, .int 11) := by decide +kernel
theorem i_274_501 : aIns 274 501 = some (.aload_n 2, 1, 0, 0, .null) := by decide +kernel
theorem i_274_502 : aIns 274 502 = some (.aload_n 0, 1, 0, 0, .null) := by decide +kernel
theorem i_274_503 : aIns 274 503 = some (.iload_n 3, 1, 0, 0, .null) := by decide +kernel
theorem i_274_504 : aIns 274 504 = some (.iconst 1, 1, 0, 0, .int (1)) := by decide +kernel
theorem i_274_505 : aIns 274 505 = some (.iadd, 1, 0, 0, .null) := by decide +kernel
theorem i_274_506 : aIns 274 506 = some (.iaload, 1, 0, 0, .null) := by decide +kernel
theorem i_274_507 : aIns 274 507 = some (.invokevirtual 61, 3, 218, 1, .int 12) := by decide +kernel
theorem i_274_510 : aIns 274 510 = some (.if_icmp .eq 650, 3, 0, 0, .null) := by decide +kernel
theorem i_274_515 : aIns 274 515 = some (.aload_n 1, 1, 0, 0, .null) := by decide +kernel
theorem i_274_516 : aIns 274 516 = some (.aload_n 0, 1, 0, 0, .null) := by decide +kernel
theorem i_274_517 : aIns 274 517 = some (.iload_n 3, 1, 0, 0, .null) := by decide +kernel
theorem i_274_518 : aIns 274 518 = some (.iconst 1, 1, 0, 0, .int (1)) := by decide +kernel
theorem i_274_519 : aIns 274 519 = some (.iadd, 1, 0, 0, .null) := by decide +kernel
theorem i_274_520 : aIns 274 520 = some (.iaload, 1, 0, 0, .null) := by decide +kernel
theorem i_274_521 : aIns 274 521 = some (.invokevirtual 62, 3, 113, 1, .int 11) := by decide +kernel
theorem i_274_524 : aIns 274 524 = some (.aload_n 2, 1, 0, 0, .null) := by decide +kernel
theorem i_274_525 : aIns 274 525 = some (.aload_n 0, 1, 0, 0, .null) := by decide +kernel
theorem i_274_526 : aIns 274 526 = some (.iload_n 3, 1, 0, 0, .null) := by decide +kernel
theorem i_274_527 : aIns 274 527 = some (.iconst 1, 1, 0, 0, .int (1)) := by decide +kernel
theorem i_274_528 : aIns 274 528 = some (.iadd, 1, 0, 0, .null) := by decide +kernel
theorem i_274_529 : aIns 274 529 = some (.iaload, 1, 0, 0, .null) := by decide +kernel
theorem i_274_530 : aIns 274 530 = some (.invokevirtual 65, 3, 219, 1, .int 12) := by decide +kernel
theorem i_274_533 : aIns 274 533 = some (.if_icmp .eq 627, 3, 0, 0, .null) := by decide +kernel
theorem i_274_538 : aIns 274 538 = some (.aload_n 1, 1, 0, 0, .null) := by decide +kernel
theorem i_274_539 : aIns 274 539 = some (.aload_n 0, 1, 0, 0, .null) := by decide +kernel
theorem i_274_540 : aIns 274 540 = some (.iload_n 3, 1, 0, 0, .null) := by decide +kernel
theorem i_274_541 : aIns 274 541 = some (.iconst 1, 1, 0, 0, .int (1)) := by decide +kernel
theorem i_274_542 : aIns 274 542 = some (.iadd, 1, 0, 0, .null) := by decide +kernel
theorem i_274_543 : aIns 274 543 = some (.iaload, 1, 0, 0, .null) := by decide +kernel
theorem i_274_544 : aIns 274 544 = some (.invokevirtual 66, 3, 114, 1, .int 11) := by decide +kernel
theorem i_274_547 : aIns 274 547 = some (.aload_n 2, 1, 0, 0, .null) := by decide +kernel
theorem i_274_548 : aIns 274 548 = some (.aload_n 0, 1, 0, 0, .null) := by decide +kernel
theorem i_274_549 : aIns 274 549 = some (.iload_n 3, 1, 0, 0, .null) := by decide +kernel
theorem i_274_550 : aIns 274 550 = some (.iconst 1, 1, 0, 0, .int (1)) := by decide +kernel
theorem i_274_551 : aIns 274 551 = some (.iadd, 1, 0, 0, .null) := by decide +kernel
theorem i_274_552 : aIns 274 552 = some (.iaload, 1, 0, 0, .null) := by decide +kernel
theorem i_274_553 : aIns 274 553 = some (.invokevirtual 69, 3, 221, 1, .int 12) := by decide +kernel
theorem i_274_556 : aIns 274 556 = some (.if_icmp .eq 604, 3, 0, 0, .null) := by decide +kernel
theorem i_274_561 : aIns 274 561 = some (.aload_n 1, 1, 0, 0, .null) := by decide +kernel
theorem i_274_562 : aIns 274 562 = some (.aload_n 0, 1, 0, 0, .null) := by decide +kernel
theorem i_274_563 : aIns 274 563 = some (.iload_n 3, 1, 0, 0, .null) := by decide +kernel
theorem i_274_564 : aIns 274 564 = some (.iconst 1, 1, 0, 0, .int (1)) := by decide +kernel
theorem i_274_565 : aIns 274 565 = some (.iadd, 1, 0, 0, .null) := by decide +kernel
theorem i_274_566 : aIns 274 566 = some (.iaload, 1, 0, 0, .null) := by decide +kernel
theorem i_274_567 : aIns 274 567 = some (.invokevirtual 70, 3, 115, 1, .int 11) := by decide +kernel
theorem i_274_570 : aIns 274 570 = some (.aload_n 2, 1, 0, 0, .null) := by decide +kernel
theorem i_274_571 : aIns 274 571 = some (.aload_n 0, 1, 0, 0, .null) := by decide +kernel
theorem i_274_572 : aIns 274 572 = some (.iload_n 3, 1, 0, 0, .null) := by decide +kernel
theorem i_274_573 : aIns 274 573 = some (.iconst 1, 1, 0, 0, .int (1)) := by decide +kernel
theorem i_274_574 : aIns 274 574 = some (.iadd, 1, 0, 0, .null) := by decide +kernel
theorem i_274_575 : aIns 274 575 = some (.iaload, 1, 0, 0, .null) := by decide +kernel
theorem i_274_576 : aIns 274 576 = some (.invokevirtual 73, 3, 222, 1, .int 12) := by decide +kernel
theorem i_274_579 : aIns 274 579 = some (.if_icmp .eq 581, 3, 0, 0, .null) := by decide +kernel
theorem i_274_584 : aIns 274 584 = some (.aload_n 1, 1, 0, 0, .null) := by decide +kernel
theorem i_274_585 : aIns 274 585 = some (.aload_n 0, 1, 0, 0, .null) := by decide +kernel
theorem i_274_586 : aIns 274 586 = some (.iload_n 3, 1, 0, 0, .null) := by decide +kernel
theorem i_274_587 : aIns 274 587 = some (.iconst 1, 1, 0, 0, .int (1)) := by decide +kernel
theorem i_274_588 : aIns 274 588 = some (.iadd, 1, 0, 0, .null) := by decide +kernel
theorem i_274_589 : aIns 274 589 = some (.iaload, 1, 0, 0, .null) := by decide +kernel
theorem i_274_590 : aIns 274 590 = some (.invokevirtual 74, 3, 116, 1, .int 11) := by decide +kernel
theorem i_274_593 : aIns 274 593 = some (.aload_n 2, 1, 0, 0, .null) := by decide +kernel
theorem i_274_594 : aIns 274 594 = some (.aload_n 0, 1, 0, 0, .null) := by decide +kernel
theorem i_274_595 : aIns 274 595 = some (.iload_n 3, 1, 0, 0, .null) := by decide +kernel
theorem i_274_596 : aIns 274 596 = some (.iconst 1, 1, 0, 0, .int (1)) := by decide +kernel
theorem i_274_597 : aIns 274 597 = some (.iadd, 1, 0, 0, .null) := by decide +kernel
theorem i_274_598 : aIns 274 598 = some (.iaload, 1, 0, 0, .null) := by decide +kernel
theorem i_274_599 : aIns 274 599 = some (.invokevirtual 77, 3, 224, 1, .int 12) := by decide +kernel
theorem i_274_602 : aIns 274 602 = some (.if_icmp .eq 558, 3, 0, 0, .null) := by decide +kernel
theorem i_274_607 : aIns 274 607 = some (.aload_n 1, 1, 0, 0, .null) := by decide +kernel
theorem i_274_608 : aIns 274 608 = some (.invokevirtual 78, 3, 117, 0, .int 11) := by decide +kernel
theorem i_274_611 : aIns 274 611 = some (.aload_n 2, 1, 0, 0, .null) := by decide +kernel
theorem i_274_612 : aIns 274 612 = some (.invokevirtual 81, 3, 225, 0, .int 12) := by decide +kernel
theorem i_274_615 : aIns 274 615 = some (.if_icmp .eq 545, 3, 0, 0, .null) := by decide +kernel
theorem i_274_620 : aIns 274 620 = some (.aload_n 1, 1, 0, 0, .null) := by decide +kernel
theorem i_274_621 : aIns 274 621 = some (.aload_n 0, 1, 0, 0, .null) := by decide +kernel
theorem i_274_622 : aIns 274 622 = some (.iload_n 3, 1, 0, 0, .null) := by decide +kernel
theorem i_274_623 : aIns 274 623 = some (.iconst 1, 1, 0, 0, .int (1)) := by decide +kernel
theorem i_274_624 : aIns 274 624 = some (.iadd, 1, 0, 0, .null) := by decide +kernel
theorem i_274_625 : aIns 274 625 = some (.iaload, 1, 0, 0, .null) := by decide +kernel
theorem i_274_626 : aIns 274 626 = some (.invokevirtual 82, 3, 118, 1, .int 11) := by decide +kernel
theorem i_274_629 : aIns 274 629 = some (.aload_n 2, 1, 0, 0, .null) := by decide +kernel
theorem i_274_630 : aIns 274 630 = some (.aload_n 0, 1, 0, 0, .null) := by decide +kernel
theorem i_274_631 : aIns 274 631 = some (.iload_n 3, 1, 0, 0, .null) := by decide +kernel
theorem i_274_632 : aIns 274 632 = some (.iconst 1, 1, 0, 0, .int (1)) := by decide +kernel
theorem i_274_633 : aIns 274 633 = some (.iadd, 1, 0, 0, .null) := by decide +kernel
theorem i_274_634 : aIns 274 634 = some (.iaload, 1, 0, 0, .null) := by decide +kernel
theorem i_274_635 : aIns 274 635 = some (.invokevirtual 85, 3, 229, 1, .int 12) := by decide +kernel
theorem i_274_638 : aIns 274 638 = some (.if_icmp .eq 522, 3, 0, 0, .null) := by decide +kernel
theorem i_274_643 : aIns 274 643 = some (.aload_n 1, 1, 0, 0, .null) := by decide +kernel
theorem i_274_644 : aIns 274 644 = some (.invokevirtual 86, 3, 119, 0, .int 11) := by decide +kernel
theorem i_274_647 : aIns 274 647 = some (.aload_n 2, 1, 0, 0, .null) := by decide +kernel
theorem i_274_648 : aIns 274 648 = some (.invokevirtual 89, 3, 230, 0, .int 12) := by decide +kernel
theorem i_274_651 : aIns 274 651 = some (.if_icmp .eq 509, 3, 0, 0, .null) := by decide +kernel
theorem i_274_656 : aIns 274 656 = some (.aload_n 1, 1, 0, 0, .null) := by decide +kernel
theorem i_274_657 : aIns 274 657 = some (.invokevirtual 90, 3, 120, 0, .int 11) := by decide +kernel
theorem i_274_660 : aIns 274 660 = some (.aload_n 2, 1, 0, 0, .null) := by decide +kernel
theorem i_274_661 : aIns 274 661 = some (.invokevirtual 93, 3, 215, 0, .int 12) := by decide +kernel
theorem i_274_664 : aIns 274 664 = some (.if_icmp .eq 496, 3, 0, 0, .null) := by decide +kernel
theorem i_274_669 : aIns 274 669 = some (.aload_n 1, 1, 0, 0, .null) := by decide +kernel
theorem i_274_670 : aIns 274 670 = some (.aload_n 0, 1, 0, 0, .null) := by decide +kernel
theorem i_274_671 : aIns 274 671 = some (.iload_n 3, 1, 0, 0, .null) := by decide +kernel
theorem i_274_672 : aIns 274 672 = some (.iconst 1, 1, 0, 0, .int (1)) := by decide +kernel
theorem i_274_673 : aIns 274 673 = some (.iadd, 1, 0, 0, .null) := by decide +kernel
theorem i_274_674 : aIns 274 674 = some (.iaload, 1, 0, 0, .null) := by decide +kernel
theorem i_274_675 : aIns 274 675 = some (.invokevirtual 94, 3, 121, 1, .int 11) := by decide +kernel
theorem i_274_678 : aIns 274 678 = some (.aload_n 2, 1, 0, 0, .null) := by decide +kernel
theorem i_274_679 : aIns 274 679 = some (.aload_n 0, 1, 0, 0, .null) := by decide +kernel
theorem i_274_680 : aIns 274 680 = some (.iload_n 3, 1, 0, 0, .null) := by decide +kernel
theorem i_274_681 : aIns 274 681 = some (.iconst 1, 1, 0, 0, .int (1)) := by decide +kernel
theorem i_274_682 : aIns 274 682 = some (.iadd, 1, 0, 0, .null) := by decide +kernel
theorem i_274_683 : aIns 274 683 = some (.iaload, 1, 0, 0, .null) := by decide +kernel
theorem i_274_684 : aIns 274 684 = some (.invokevirtual 97, 3, 234, 1, .int 12) := by decide +kernel
theorem i_274_687 : aIns 274 687 = some (.if_icmp .eq 473, 3, 0, 0, .null) := by decide +kernel
theorem i_274_692 : aIns 274 692 = some (.aload_n 1, 1, 0, 0, .null) := by decide +kernel
theorem i_274_693 : aIns 274 693 = some (.aload_n 0, 1, 0, 0, .null) := by decide +kernel
theorem i_274_694 : aIns 274 694 = some (.iload_n 3, 1, 0, 0, .null) := by decide +kernel
theorem i_274_695 : aIns 274 695 = some (.iconst 1, 1, 0, 0, .int (1)) := by decide +kernel
theorem i_274_696 : aIns 274 696 = some (.iadd, 1, 0, 0, .null) := by decide +kernel
theorem i_274_697 : aIns 274 697 = some (.iaload, 1, 0, 0, .null) := by decide +kernel
theorem i_274_698 : aIns 274 698 = some (.invokevirtual 98, 3, 122, 1, .int 11) := by decide +kernel
theorem i_274_701 : aIns 274 701 = some (.aload_n 2, 1, 0, 0, .null) := by decide +kernel
theorem i_274_702 : aIns 274 702 = some (.aload_n 0, 1, 0, 0, .null) := by decide +kernel
theorem i_274_703 : aIns 274 703 = some (.iload_n 3, 1, 0, 0, .null) := by decide +kernel
theorem i_274_704 : aIns 274 704 = some (.iconst 1, 1, 0, 0, .int (1)) := by decide +kernel
theorem i_274_705 : aIns 274 705 = some (.iadd, 1, 0, 0, .null) := by decide +kernel
theorem i_274_706 : aIns 274 706 = some (.iaload, 1, 0, 0, .null) := by decide +kernel
theorem i_274_707 : aIns 274 707 = some (.invokevirtual 101, 3, 239, 1, .int 12) := by decide +kernel
theorem i_274_710 : aIns 274 710 = some (.if_icmp .eq 450, 3, 0, 0, .null) := by decide +kernel
theorem i_274_715 : aIns 274 715 = some (.aload_n 1, 1, 0, 0, .null) := by decide +kernel
theorem i_274_716 : aIns 274 716 = some (.aload_n 0, 1, 0, 0, .null) := by decide +kernel
theorem i_274_717 : aIns 274 717 = some (.iload_n 3, 1, 0, 0, .null) := by decide +kernel
theorem i_274_718 : aIns 274 718 = some (.iconst 1, 1, 0, 0, .int (1)) := by decide +kernel
theorem i_274_719 : aIns 274 719 = some (.iadd, 1, 0, 0, .null) := by decide +kernel
theorem i_274_720 : aIns 274 720 = some (.iaload, 1, 0, 0, .null) := by decide +kernel
theorem i_274_721 : aIns 274 721 = some (.invokevirtual 102, 3, 123, 1, .int 11) := by decide +kernel
theorem i_274_724 : aIns 274 724 = some (.aload_n 2, 1, 0, 0, .null) := by decide +kernel
theorem i_274_725 : aIns 274 725 = some (.aload_n 0, 1, 0, 0, .null) := by decide +kernel
theorem i_274_726 : aIns 274 726 = some (.iload_n 3, 1, 0, 0, .null) := by decide +kernel
theorem i_274_727 : aIns 274 727 = some (.iconst 1, 1, 0, 0, .int (1)) := by decide +kernel
theorem i_274_728 : aIns 274 728 = some (.iadd, 1, 0, 0, .null) := by decide +kernel
theorem i_274_729 : aIns 274 729 = some (.iaload, 1, 0, 0, .null) := by decide +kernel
theorem i_274_730 : aIns 274 730 = some (.invokevirtual 105, 3, 245, 1, .int 12) := by decide +kernel
theorem i_274_733 : aIns 274 733 = some (.if_icmp .eq 427, 3, 0, 0, .null) := by decide +kernel
theorem i_274_738 : aIns 274 738 = some (.aload_n 1, 1, 0, 0, .null) := by decide +kernel
theorem i_274_739 : aIns 274 739 = some (.aload_n 0, 1, 0, 0, .null) := by decide +kernel
theorem i_274_740 : aIns 274 740 = some (.iload_n 3, 1, 0, 0, .null) := by decide +kernel
theorem i_274_741 : aIns 274 741 = some (.iconst 1, 1, 0, 0, .int (1)) := by decide +kernel
theorem i_274_742 : aIns 274 742 = some (.iadd, 1, 0, 0, .null) := by decide +kernel
theorem i_274_743 : aIns 274 743 = some (.iaload, 1, 0, 0, .null) := by decide +kernel
theorem i_274_744 : aIns 274 744 = some (.invokevirtual 106, 3, 124, 1, .int 11) := by decide +kernel
theorem i_274_747 : aIns 274 747 = some (.aload_n 2, 1, 0, 0, .null) := by decide +kernel
theorem i_274_748 : aIns 274 748 = some (.aload_n 0, 1, 0, 0, .null) := by decide +kernel
theorem i_274_749 : aIns 274 749 = some (.iload_n 3, 1, 0, 0, .null) := by decide +kernel
theorem i_274_750 : aIns 274 750 = some (.iconst 1, 1, 0, 0, .int (1)) := by decide +kernel
theorem i_274_751 : aIns 274 751 = some (.iadd, 1, 0, 0, .null) := by decide +kernel
theorem i_274_752 : aIns 274 752 = some (.iaload, 1, 0, 0, .null) := by decide +kernel
theorem i_274_753 : aIns 274 753 = some (.invokevirtual 109, 3, 249, 1, .int 12) := by decide +kernel
theorem i_274_756 : aIns 274 756 = some (.if_icmp .eq 404, 3, 0, 0, .null) := by decide +kernel
theorem i_274_761 : aIns 274 761 = some (.aload_n 1, 1, 0, 0, .null) := by decide +kernel
theorem i_274_762 : aIns 274 762 = some (.aload_n 0, 1, 0, 0, .null) := by decide +kernel
theorem i_274_763 : aIns 274 763 = some (.iload_n 3, 1, 0, 0, .null) := by decide +kernel
theorem i_274_764 : aIns 274 764 = some (.iconst 1, 1, 0, 0, .int (1)) := by decide +kernel
theorem i_274_765 : aIns 274 765 = some (.iadd, 1, 0, 0, .null) := by decide +kernel
theorem i_274_766 : aIns 274 766 = some (.iaload, 1, 0, 0, .null) := by decide +kernel
theorem i_274_767 : aIns 274 767 = some (.invokevirtual 110, 3, 125, 1, .int 11) := by decide +kernel
theorem i_274_770 : aIns 274 770 = some (.aload_n 2, 1, 0, 0, .null) := by decide +kernel
theorem i_274_771 : aIns 274 771 = some (.aload_n 0, 1, 0, 0, .null) := by decide +kernel
theorem i_274_772 : aIns 274 772 = some (.iload_n 3, 1, 0, 0, .null) := by decide +kernel
theorem i_274_773 : aIns 274 773 = some (.iconst 1, 1, 0, 0, .int (1)) := by decide +kernel
theorem i_274_774 : aIns 274 774 = some (.iadd, 1, 0, 0, .null) := by decide +kernel
theorem i_274_775 : aIns 274 775 = some (.iaload, 1, 0, 0, .null) := by decide +kernel
theorem i_274_776 : aIns 274 776 = some (.invokevirtual 113, 3, 255, 1, .int 12) := by decide +kernel
theorem i_274_779 : aIns 274 779 = some (.if_icmp .eq 381, 3, 0, 0, .null) := by decide +kernel
theorem i_274_784 : aIns 274 784 = some (.aload_n 1, 1, 0, 0, .null) := by decide +kernel
theorem i_274_785 : aIns 274 785 = some (.aload_n 0, 1, 0, 0, .null) := by decide +kernel
theorem i_274_786 : aIns 274 786 = some (.iload_n 3, 1, 0, 0, .null) := by decide +kernel
theorem i_274_787 : aIns 274 787 = some (.iconst 1, 1, 0, 0, .int (1)) := by decide +kernel
theorem i_274_788 : aIns 274 788 = some (.iadd, 1, 0, 0, .null) := by decide +kernel
theorem i_274_789 : aIns 274 789 = some (.iaload, 1, 0, 0, .null) := by decide +kernel
theorem i_274_790 : aIns 274 790 = some (.invokevirtual 114, 3, 126, 1, .int 11) := by decide +kernel
theorem i_274_793 : aIns 274 793 = some (.aload_n 2, 1, 0, 0, .null) := by decide +kernel
theorem i_274_794 : aIns 274 794 = some (.aload_n 0, 1, 0, 0, .null) := by decide +kernel
theorem i_274_795 : aIns 274 795 = some (.iload_n 3, 1, 0, 0, .null) := by decide +kernel
theorem i_274_796 : aIns 274 796 = some (.iconst 1, 1, 0, 0, .int (1)) := by decide +kernel
theorem i_274_797 : aIns 274 797 = some (.iadd, 1, 0, 0, .null) := by decide +kernel
theorem i_274_798 : aIns 274 798 = some (.iaload, 1, 0, 0, .null) := by decide +kernel
theorem i_274_799 : aIns 274 799 = some (.invokevirtual 117, 3, 256, 1, .int 12) := by decide +kernel
theorem i_274_802 : aIns 274 802 = some (.if_icmp .eq 358, 3, 0, 0, .null) := by decide +kernel
theorem i_274_807 : aIns 274 807 = some (.aload_n 1, 1, 0, 0, .null) := by decide +kernel
theorem i_274_808 : aIns 274 808 = some (.aload_n 0, 1, 0, 0, .null) := by decide +kernel
theorem i_274_809 : aIns 274 809 = some (.iload_n 3, 1, 0, 0, .null) := by decide +kernel
theorem i_274_810 : aIns 274 810 = some (.iconst 1, 1, 0, 0, .int (1)) := by decide +kernel
theorem i_274_811 : aIns 274 811 = some (.iadd, 1, 0, 0, .null) := by decide +kernel
theorem i_274_812 : aIns 274 812 = some (.iaload, 1, 0, 0, .null) := by decide +kernel
theorem i_274_813 : aIns 274 813 = some (.invokevirtual 118, 3, 127, 1, .int 11) := by decide +kernel
theorem i_274_816 : aIns 274 816 = some (.aload_n 2, 1, 0, 0, .null) := by decide +kernel
theorem i_274_817 : aIns 274 817 = some (.aload_n 0, 1, 0, 0, .null) := by decide +kernel
theorem i_274_818 : aIns 274 818 = some (.iload_n 3, 1, 0, 0, .null) := by decide +kernel
theorem i_274_819 : aIns 274 819 = some (.iconst 1, 1, 0, 0, .int (1)) := by decide +kernel
theorem i_274_820 : aIns 274 820 = some (.iadd, 1, 0, 0, .null) := by decide +kernel
theorem i_274_821 : aIns 274 821 = some (.iaload, 1, 0, 0, .null) := by decide +kernel
theorem i_274_822 : aIns 274 822 = some (.invokevirtual 121, 3, 257, 1, .int 12) := by decide +kernel
theorem i_274_825 : aIns 274 825 = some (.if_icmp .eq 335, 3, 0, 0, .null) := by decide +kernel
theorem i_274_830 : aIns 274 830 = some (.aload_n 1, 1, 0, 0, .null) := by decide +kernel
theorem i_274_831 : aIns 274 831 = some (.aload_n 0, 1, 0, 0, .null) := by decide +kernel
theorem i_274_832 : aIns 274 832 = some (.iload_n 3, 1, 0, 0, .null) := by decide +kernel
theorem i_274_833 : aIns 274 833 = some (.iconst 1, 1, 0, 0, .int (1)) := by decide +kernel
theorem i_274_834 : aIns 274 834 = some (.iadd, 1, 0, 0, .null) := by decide +kernel
theorem i_274_835 : aIns 274 835 = some (.iaload, 1, 0, 0, .null) := by decide +kernel
theorem i_274_836 : aIns 274 836 = some (.aload_n 0, 1, 0, 0, .null) := by decide +kernel
theorem i_274_837 : aIns 274 837 = some (.iload_n 3, 1, 0, 0, .null) := by decide +kernel
theorem i_274_838 : aIns 274 838 = some (.iconst 2, 1, 0, 0, .int (2)) := by decide +kernel
theorem i_274_839 : aIns 274 839 = some (.iadd, 1, 0, 0, .null) := by decide +kernel
theorem i_274_840 : aIns 274 840 = some (.iaload, 1, 0, 0, .null) := by decide +kernel
theorem i_274_841 : aIns 274 841 = some (.aload_n 0, 1, 0, 0, .null) := by decide +kernel
theorem i_274_842 : aIns 274 842 = some (.iload_n 3, 1, 0, 0, .null) := by decide +kernel
theorem i_274_843 : aIns 274 843 = some (.iconst 3, 1, 0, 0, .int (3)) := by decide +kernel
theorem i_274_844 : aIns 274 844 = some (.iadd, 1, 0, 0, .null) := by decide +kernel
theorem i_274_845 : aIns 274 845 = some (.iaload, 1, 0, 0, .null) := by decide +kernel
theorem i_274_846 : aIns 274 846 = some (.invokevirtual 122, 3, 128, 3, .int 11) := by decide +kernel
theorem i_274_849 : aIns 274 849 = some (.aload_n 2, 1, 0, 0, .null) := by decide +kernel
theorem i_274_850 : aIns 274 850 = some (.aload_n 0, 1, 0, 0, .null) := by decide +kernel
theorem i_274_851 : aIns 274 851 = some (.iload_n 3, 1, 0, 0, .null) := by decide +kernel
theorem i_274_852 : aIns 274 852 = some (.iconst 1, 1, 0, 0, .int (1)) := by decide +kernel
theorem i_274_853 : aIns 274 853 = some (.iadd, 1, 0, 0, .null) := by decide +kernel
theorem i_274_854 : aIns 274 854 = some (.iaload, 1, 0, 0, .null) := by decide +kernel
theorem i_274_855 : aIns 274 855 = some (.aload_n 0, 1, 0, 0, .null) := by decide +kernel
theorem i_274_856 : aIns 274 856 = some (.iload_n 3, 1, 0, 0, .null) := by decide +kernel
theorem i_274_857 : aIns 274 857 = some (.iconst 2, 1, 0, 0, .int (2)) := by decide +kernel
theorem i_274_858 : aIns 274 858 = some (.iadd, 1, 0, 0, .null) := by decide +kernel
theorem i_274_859 : aIns 274 859 = some (.iaload, 1, 0, 0, .null) := by decide +kernel
theorem i_274_860 : aIns 274 860 = some (.aload_n 0, 1, 0, 0, .null) := by decide +kernel
theorem i_274_861 : aIns 274 861 = some (.iload_n 3, 1, 0, 0, .null) := by decide +kernel
theorem i_274_862 : aIns 274 862 = some (.iconst 3, 1, 0, 0, .int (3)) := by decide +kernel
theorem i_274_863 : aIns 274 863 = some (.iadd, 1, 0, 0, .null) := by decide +kernel
theorem i_274_864 : aIns 274 864 = some (.iaload, 1, 0, 0, .null) := by decide +kernel
theorem i_274_865 : aIns 274 865 = some (.invokevirtual 125, 3, 259, 3, .int 12) := by decide +kernel
theorem i_274_868 : aIns 274 868 = some (.if_icmp .eq 292, 3, 0, 0, .null) := by decide +kernel
theorem i_274_873 : aIns 274 873 = some (.aload_n 1, 1, 0, 0, .null) := by decide +kernel
theorem i_274_874 : aIns 274 874 = some (.aload_n 0, 1, 0, 0, .null) := by decide +kernel
theorem i_274_875 : aIns 274 875 = some (.iload_n 3, 1, 0, 0, .null) := by decide +kernel
theorem i_274_876 : aIns 274 876 = some (.iconst 1, 1, 0, 0, .int (1)) := by decide +kernel
theorem i_274_877 : aIns 274 877 = some (.iadd, 1, 0, 0, .null) := by decide +kernel
theorem i_274_878 : aIns 274 878 = some (.iaload, 1, 0, 0, .null) := by decide +kernel
theorem i_274_879 : aIns 274 879 = some (.aload_n 0, 1, 0, 0, .null) := by decide +kernel
theorem i_274_880 : aIns 274 880 = some (.iload_n 3, 1, 0, 0, .null) := by decide +kernel
theorem i_274_881 : aIns 274 881 = some (.iconst 2, 1, 0, 0, .int (2)) := by decide +kernel
theorem i_274_882 : aIns 274 882 = some (.iadd, 1, 0, 0, .null) := by decide +kernel
theorem i_274_883 : aIns 274 883 = some (.iaload, 1, 0, 0, .null) := by decide +kernel
theorem i_274_884 : aIns 274 884 = some (.aload_n 0, 1, 0, 0, .null) := by decide +kernel
theorem i_274_885 : aIns 274 885 = some (.iload_n 3, 1, 0, 0, .null) := by decide +kernel
theorem i_274_886 : aIns 274 886 = some (.iconst 3, 1, 0, 0, .int (3)) := by decide +kernel
theorem i_274_887 : aIns 274 887 = some (.iadd, 1, 0, 0, .null) := by decide +kernel
theorem i_274_888 : aIns 274 888 = some (.iaload, 1, 0, 0, .null) := by decide +kernel
theorem i_274_889 : aIns 274 889 = some (.aload_n 0, 1, 0, 0, .null) := by decide +kernel
theorem i_274_890 : aIns 274 890 = some (.iload_n 3, 1, 0, 0, .null) := by decide +kernel
theorem i_274_891 : aIns 274 891 = some (.iconst 4, 1, 0, 0, .int (4)) := by decide +kernel
theorem i_274_892 : aIns 274 892 = some (.iadd, 1, 0, 0, .null) := by decide +kernel
theorem i_274_893 : aIns 274 893 = some (.iaload, 1, 0, 0, .null) := by decide +kernel
theorem i_274_894 : aIns 274 894 = some (.invokevirtual 126, 3, 129, 4, .int 11) := by decide +kernel
theorem i_274_897 : aIns 274 897 = some (.aload_n 2, 1, 0, 0, .null) := by decide +kernel
theorem i_274_898 : aIns 274 898 = some (.aload_n 0, 1, 0, 0, .null) := by decide +kernel
theorem i_274_899 : aIns 274 899 = some (.iload_n 3, 1, 0, 0, .null) := by decide +kernel
theorem i_274_900 : aIns 274 900 = some (.iconst 1, 1, 0, 0, .int (1)) := by decide +kernel
theorem i_274_901 : aIns 274 901 = some (.iadd, 1, 0, 0, .null) := by decide +kernel
theorem i_274_902 : aIns 274 902 = some (.iaload, 1, 0, 0, .null) := by decide +kernel
theorem i_274_903 : aIns 274 903 = some (.aload_n 0, 1, 0, 0, .null) := by decide +kernel
theorem i_274_904 : aIns 274 904 = some (.iload_n 3, 1, 0, 0, .null) := by decide +kernel
theorem i_274_905 : aIns 274 905 = some (.iconst 2, 1, 0, 0, .int (2)) := by decide +kernel
theorem i_274_906 : aIns 274 906 = some (.iadd, 1, 0, 0, .null) := by decide +kernel
theorem i_274_907 : aIns 274 907 = some (.iaload, 1, 0, 0, .null) := by decide +kernel
theorem i_274_908 : aIns 274 908 = some (.aload_n 0, 1, 0, 0, .null) := by decide +kernel
theorem i_274_909 : aIns 274 909 = some (.iload_n 3, 1, 0, 0, .null) := by decide +kernel
theorem i_274_910 : aIns 274 910 = some (.iconst 3, 1, 0, 0, .int (3)) := by decide +kernel
theorem i_274_911 : aIns 274 911 = some (.iadd, 1, 0, 0, .null) := by decide +kernel
theorem i_274_912 : aIns 274 912 = some (.iaload, 1, 0, 0, .null) := by decide +kernel
theorem i_274_913 : aIns 274 913 = some (.aload_n 0, 1, 0, 0, .null) := by decide +kernel
theorem i_274_914 : aIns 274 914 = some (.iload_n 3, 1, 0, 0, .null) := by decide +kernel
theorem i_274_915 : aIns 274 915 = some (.iconst 4, 1, 0, 0, .int (4)) := by decide +kernel
theorem i_274_916 : aIns 274 916 = some (.iadd, 1, 0, 0, .null) := by decide +kernel
theorem i_274_917 : aIns 274 917 = some (.iaload, 1, 0, 0, .null) := by decide +kernel
theorem i_274_918 : aIns 274 918 = some (.invokevirtual 130, 3, 260, 4, .int 12) := by decide +kernel
theorem i_274_921 : aIns 274 921 = some (.if_icmp .eq 239, 3, 0, 0, .null) := by decide +kernel
theorem i_274_926 : aIns 274 926 = some (.aload_n 1, 1, 0, 0, .null) := by decide +kernel
theorem i_274_927 : aIns 274 927 = some (.aload_n 0, 1, 0, 0, .null) := by decide +kernel
theorem i_274_928 : aIns 274 928 = some (.iload_n 3, 1, 0, 0, .null) := by decide +kernel
theorem i_274_929 : aIns 274 929 = some (.iconst 1, 1, 0, 0, .int (1)) := by decide +kernel
theorem i_274_930 : aIns 274 930 = some (.iadd, 1, 0, 0, .null) := by decide +kernel
theorem i_274_931 : aIns 274 931 = some (.iaload, 1, 0, 0, .null) := by decide +kernel
theorem i_274_932 : aIns 274 932 = some (.invokevirtual 131, 3, 130, 1, .int 11) := by decide +kernel
theorem i_274_935 : aIns 274 935 = some (.aload_n 2, 1, 0, 0, .null) := by decide +kernel
theorem i_274_936 : aIns 274 936 = some (.aload_n 0, 1, 0, 0, .null) := by decide +kernel
theorem i_274_937 : aIns 274 937 = some (.iload_n 3, 1, 0, 0, .null) := by decide +kernel
theorem i_274_938 : aIns 274 938 = some (.iconst 1, 1, 0, 0, .int (1)) := by decide +kernel
theorem i_274_939 : aIns 274 939 = some (.iadd, 1, 0, 0, .null) := by decide +kernel
theorem i_274_940 : aIns 274 940 = some (.iaload, 1, 0, 0, .null) := by decide +kernel
theorem i_274_941 : aIns 274 941 = some (.invokevirtual 134, 3, 262, 1, .int 12) := by decide +kernel
theorem i_274_944 : aIns 274 944 = some (.if_icmp .eq 216, 3, 0, 0, .null) := by decide +kernel
theorem i_274_949 : aIns 274 949 = some (.aload_n 1, 1, 0, 0, .null) := by decide +kernel
theorem i_274_950 : aIns 274 950 = some (.aload_n 0, 1, 0, 0, .null) := by decide +kernel
theorem i_274_951 : aIns 274 951 = some (.iload_n 3, 1, 0, 0, .null) := by decide +kernel
theorem i_274_952 : aIns 274 952 = some (.iconst 1, 1, 0, 0, .int (1)) := by decide +kernel
theorem i_274_953 : aIns 274 953 = some (.iadd, 1, 0, 0, .null) := by decide +kernel
theorem i_274_954 : aIns 274 954 = some (.iaload, 1, 0, 0, .null) := by decide +kernel
theorem i_274_955 : aIns 274 955 = some (.aload_n 0, 1, 0, 0, .null) := by decide +kernel
theorem i_274_956 : aIns 274 956 = some (.iload_n 3, 1, 0, 0, .null) := by decide +kernel
theorem i_274_957 : aIns 274 957 = some (.iconst 2, 1, 0, 0, .int (2)) := by decide +kernel
theorem i_274_958 : aIns 274 958 = some (.iadd, 1, 0, 0, .null) := by decide +kernel
theorem i_274_959 : aIns 274 959 = some (.iaload, 1, 0, 0, .null) := by decide +kernel
theorem i_274_960 : aIns 274 960 = some (.aload_n 0, 1, 0, 0, .null) := by decide +kernel
theorem i_274_961 : aIns 274 961 = some (.iload_n 3, 1, 0, 0, .null) := by decide +kernel
theorem i_274_962 : aIns 274 962 = some (.iconst 3, 1, 0, 0, .int (3)) := by decide +kernel
theorem i_274_963 : aIns 274 963 = some (.iadd, 1, 0, 0, .null) := by decide +kernel
theorem i_274_964 : aIns 274 964 = some (.iaload, 1, 0, 0, .null) := by decide +kernel
theorem i_274_965 : aIns 274 965 = some (.invokevirtual 135, 3, 131, 3, .int 11) := by decide +kernel
theorem i_274_968 : aIns 274 968 = some (.aload_n 2, 1, 0, 0, .null) := by decide +kernel
theorem i_274_969 : aIns 274 969 = some (.aload_n 0, 1, 0, 0, .null) := by decide +kernel
theorem i_274_970 : aIns 274 970 = some (.iload_n 3, 1, 0, 0, .null) := by decide +kernel
theorem i_274_971 : aIns 274 971 = some (.iconst 1, 1, 0, 0, .int (1)) := by decide +kernel
theorem i_274_972 : aIns 274 972 = some (.iadd, 1, 0, 0, .null) := by decide +kernel
theorem i_274_973 : aIns 274 973 = some (.iaload, 1, 0, 0, .null) := by decide +kernel
theorem i_274_974 : aIns 274 974 = some (.aload_n 0, 1, 0, 0, .null) := by decide +kernel
theorem i_274_975 : aIns 274 975 = some (.iload_n 3, 1, 0, 0, .null) := by decide +kernel
theorem i_274_976 : aIns 274 976 = some (.iconst 2, 1, 0, 0, .int (2)) := by decide +kernel
theorem i_274_977 : aIns 274 977 = some (.iadd, 1, 0, 0, .null) := by decide +kernel
theorem i_274_978 : aIns 274 978 = some (.iaload, 1, 0, 0, .null) := by decide +kernel
theorem i_274_979 : aIns 274 979 = some (.aload_n 0, 1, 0, 0, .null) := by decide +kernel
theorem i_274_980 : aIns 274 980 = some (.iload_n 3, 1, 0, 0, .null) := by decide +kernel
theorem i_274_981 : aIns 274 981 = some (.iconst 3, 1, 0, 0, .int (3)) := by decide +kernel
theorem i_274_982 : aIns 274 982 = some (.iadd, 1, 0, 0, .null) := by decide +kernel
theorem i_274_983 : aIns 274 983 = some (.iaload, 1, 0, 0, .null) := by decide +kernel
theorem i_274_984 : aIns 274 984 = some (.invokevirtual 138, 3, 264, 3, .int 12) := by decide +kernel
theorem i_274_987 : aIns 274 987 = some (.if_icmp .eq 173, 3, 0, 0, .null) := by decide +kernel
theorem i_274_992 : aIns 274 992 = some (.aload_n 1, 1, 0, 0, .null) := by decide +kernel
theorem i_274_993 : aIns 274 993 = some (.aload_n 0, 1, 0, 0, .null) := by decide +kernel
theorem i_274_994 : aIns 274 994 = some (.iload_n 3, 1, 0, 0, .null) := by decide +kernel
theorem i_274_995 : aIns 274 995 = some (.iconst 1, 1, 0, 0, .int (1)) := by decide +kernel
theorem i_274_996 : aIns 274 996 = some (.iadd, 1, 0, 0, .null) := by decide +kernel
theorem i_274_997 : aIns 274 997 = some (.iaload, 1, 0, 0, .null) := by decide +kernel
theorem i_274_998 : aIns 274 998 = some (.aload_n 0, 1, 0, 0, .null) := by decide +kernel
theorem i_274_999 : aIns 274 999 = some (.iload_n 3, 1, 0, 0, .null) := by decide +kernel
theorem i_274_1000 : aIns 274 1000 = some (.iconst 2, 1, 0, 0, .int (2)) := by decide +kernel
theorem i_274_1001 : aIns 274 1001 = some (.iadd, 1, 0, 0, .null) := by decide +kernel
theorem i_274_1002 : aIns 274 1002 = some (.iaload, 1, 0, 0, .null) := by decide +kernel
theorem i_274_1003 : aIns 274 1003 = some (.invokevirtual 139, 3, 132, 2, .int 11) := by decide +kernel
theorem i_274_1006 : aIns 274 1006 = some (.aload_n 2, 1, 0, 0, .null) := by decide +kernel
theorem i_274_1007 : aIns 274 1007 = some (.aload_n 0, 1, 0, 0, .null) := by decide +kernel
theorem i_274_1008 : aIns 274 1008 = some (.iload_n 3, 1, 0, 0, .null) := by decide +kernel
theorem i_274_1009 : aIns 274 1009 = some (.iconst 1, 1, 0, 0, .int (1)) := by decide +kernel
theorem i_274_1010 : aIns 274 1010 = some (.iadd, 1, 0, 0, .null) := by decide +kernel
theorem i_274_1011 : aIns 274 1011 = some (.iaload, 1, 0, 0, .null) := by decide +kernel
theorem i_274_1012 : aIns 274 1012 = some (.aload_n 0, 1, 0, 0, .null) := by decide +kernel
theorem i_274_1013 : aIns 274 1013 = some (.iload_n 3, 1, 0, 0, .null) := by decide +kernel
theorem i_274_1014 : aIns 274 1014 = some (.iconst 2, 1, 0, 0, .int (2)) := by decide +kernel
theorem i_274_1015 : aIns 274 1015 = some (.iadd, 1, 0, 0, .null) := by decide +kernel
theorem i_274_1016 : aIns 274 1016 = some (.iaload, 1, 0, 0, .null) := by decide +kernel
theorem i_274_1017 : aIns 274 1017 = some (.invokevirtual 142, 3, 265, 2, .int 12) := by decide +kernel
theorem i_274_1020 : aIns 274 1020 = some (.if_icmp .eq 140, 3, 0, 0, .null) := by decide +kernel
theorem i_274_1025 : aIns 274 1025 = some (.aload_n 1, 1, 0, 0, .null) := by decide +kernel
theorem i_274_1026 : aIns 274 1026 = some (.aload_n 0, 1, 0, 0, .null) := by decide +kernel
theorem i_274_1027 : aIns 274 1027 = some (.iload_n 3, 1, 0, 0, .null) := by decide +kernel
theorem i_274_1028 : aIns 274 1028 = some (.iconst 1, 1, 0, 0, .int (1)) := by decide +kernel
theorem i_274_1029 : aIns 274 1029 = some (.iadd, 1, 0, 0, .null) := by decide +kernel
theorem i_274_1030 : aIns 274 1030 = some (.iaload, 1, 0, 0, .null) := by decide +kernel
theorem i_274_1031 : aIns 274 1031 = some (.invokevirtual 143, 3, 133, 1, .int 11) := by decide +kernel
theorem i_274_1034 : aIns 274 1034 = some (.aload_n 2, 1, 0, 0, .null) := by decide +kernel
theorem i_274_1035 : aIns 274 1035 = some (.aload_n 0, 1, 0, 0, .null) := by decide +kernel
theorem i_274_1036 : aIns 274 1036 = some (.iload_n 3, 1, 0, 0, .null) := by decide +kernel
theorem i_274_1037 : aIns 274 1037 = some (.iconst 1, 1, 0, 0, .int (1)) := by decide +kernel
theorem i_274_1038 : aIns 274 1038 = some (.iadd, 1, 0, 0, .null) := by decide +kernel
theorem i_274_1039 : aIns 274 1039 = some (.iaload, 1, 0, 0, .null) := by decide +kernel
theorem i_274_1040 : aIns 274 1040 = some (.invokevirtual 146, 3, 266, 1, .int 12) := by decide +kernel
theorem i_274_1043 : aIns 274 1043 = some (.if_icmp .eq 117, 3, 0, 0, .null) := by decide +kernel
theorem i_274_1048 : aIns 274 1048 = some (.aload_n 1, 1, 0, 0, .null) := by decide +kernel
theorem i_274_1049 : aIns 274 1049 = some (.aload_n 0, 1, 0, 0, .null) := by decide +kernel
theorem i_274_1050 : aIns 274 1050 = some (.iload_n 3, 1, 0, 0, .null) := by decide +kernel
theorem i_274_1051 : aIns 274 1051 = some (.iconst 1, 1, 0, 0, .int (1)) := by decide +kernel
theorem i_274_1052 : aIns 274 1052 = some (.iadd, 1, 0, 0, .null) := by decide +kernel
theorem i_274_1053 : aIns 274 1053 = some (.iaload, 1, 0, 0, .null) := by decide +kernel
theorem i_274_1054 : aIns 274 1054 = some (.aload_n 0, 1, 0, 0, .null) := by decide +kernel
theorem i_274_1055 : aIns 274 1055 = some (.iload_n 3, 1, 0, 0, .null) := by decide +kernel
theorem i_274_1056 : aIns 274 1056 = some (.iconst 2, 1, 0, 0, .int (2)) := by decide +kernel
theorem i_274_1057 : aIns 274 1057 = some (.iadd, 1, 0, 0, .null) := by decide +kernel
theorem i_274_1058 : aIns 274 1058 = some (.iaload, 1, 0, 0, .null) := by decide +kernel
theorem i_274_1059 : aIns 274 1059 = some (.aload_n 0, 1, 0, 0, .null) := by decide +kernel
theorem i_274_1060 : aIns 274 1060 = some (.iload_n 3, 1, 0, 0, .null) := by decide +kernel
theorem i_274_1061 : aIns 274 1061 = some (.iconst 3, 1, 0, 0, .int (3)) := by decide +kernel
theorem i_274_1062 : aIns 274 1062 = some (.iadd, 1, 0, 0, .null) := by decide +kernel
theorem i_274_1063 : aIns 274 1063 = some (.iaload, 1, 0, 0, .null) := by decide +kernel
theorem i_274_1064 : aIns 274 1064 = some (.invokevirtual 147, 3, 134, 3, .int 11) := by decide +kernel
theorem i_274_1067 : aIns 274 1067 = some (.aload_n 2, 1, 0, 0, .null) := by decide +kernel
theorem i_274_1068 : aIns 274 1068 = some (.aload_n 0, 1, 0, 0, .null) := by decide +kernel
theorem i_274_1069 : aIns 274 1069 = some (.iload_n 3, 1, 0, 0, .null) := by decide +kernel
theorem i_274_1070 : aIns 274 1070 = some (.iconst 1, 1, 0, 0, .int (1)) := by decide +kernel
theorem i_274_1071 : aIns 274 1071 = some (.iadd, 1, 0, 0, .null) := by decide +kernel
theorem i_274_1072 : aIns 274 1072 = some (.iaload, 1, 0, 0, .null) := by decide +kernel
theorem i_274_1073 : aIns 274 1073 = some (.aload_n 0, 1, 0, 0, .null) := by decide +kernel
theorem i_274_1074 : aIns 274 1074 = some (.iload_n 3, 1, 0, 0, .null) := by decide +kernel
theorem i_274_1075 : aIns 274 1075 = some (.iconst 2, 1, 0, 0, .int (2)) := by decide +kernel
theorem i_274_1076 : aIns 274 1076 = some (.iadd, 1, 0, 0, .null) := by decide +kernel
theorem i_274_1077 : aIns 274 1077 = some (.iaload, 1, 0, 0, .null) := by decide +kernel
theorem i_274_1078 : aIns 274 1078 = some (.aload_n 0, 1, 0, 0, .null) := by decide +kernel
theorem i_274_1079 : aIns 274 1079 = some (.iload_n 3, 1, 0, 0, .null) := by decide +kernel
theorem i_274_1080 : aIns 274 1080 = some (.iconst 3, 1, 0, 0, .int (3)) := by decide +kernel
theorem i_274_1081 : aIns 274 1081 = some (.iadd, 1, 0, 0, .null) := by decide +kernel
theorem i_274_1082 : aIns 274 1082 = some (.iaload, 1, 0, 0, .null) := by decide +kernel
theorem i_274_1083 : aIns 274 1083 = some (.invokevirtual 150, 3, 269, 3, .int 12) := by decide +kernel
theorem i_274_1086 : aIns 274 1086 = some (.if_icmp .eq 74, 3, 0, 0, .null) := by decide +kernel
theorem i_274_1091 : aIns 274 1091 = some (.aload_n 1, 1, 0, 0, .null) := by decide +kernel
theorem i_274_1092 : aIns 274 1092 = some (.aload_n 0, 1, 0, 0, .null) := by decide +kernel
theorem i_274_1093 : aIns 274 1093 = some (.iload_n 3, 1, 0, 0, .null) := by decide +kernel
theorem i_274_1094 : aIns 274 1094 = some (.iconst 1, 1, 0, 0, .int (1)) := by decide +kernel
theorem i_274_1095 : aIns 274 1095 = some (.iadd, 1, 0, 0, .null) := by decide +kernel
theorem i_274_1096 : aIns 274 1096 = some (.iaload, 1, 0, 0, .null) := by decide +kernel
theorem i_274_1097 : aIns 274 1097 = some (.invokevirtual 151, 3, 135, 1, .int 11) := by decide +kernel
theorem i_274_1100 : aIns 274 1100 = some (.aload_n 2, 1, 0, 0, .null) := by decide +kernel
theorem i_274_1101 : aIns 274 1101 = some (.aload_n 0, 1, 0, 0, .null) := by decide +kernel
theorem i_274_1102 : aIns 274 1102 = some (.iload_n 3, 1, 0, 0, .null) := by decide +kernel
theorem i_274_1103 : aIns 274 1103 = some (.iconst 1, 1, 0, 0, .int (1)) := by decide +kernel
theorem i_274_1104 : aIns 274 1104 = some (.iadd, 1, 0, 0, .null) := by decide +kernel
theorem i_274_1105 : aIns 274 1105 = some (.iaload, 1, 0, 0, .null) := by decide +kernel
theorem i_274_1106 : aIns 274 1106 = some (.invokevirtual 154, 3, 270, 1, .int 12) := by decide +kernel
theorem i_274_1109 : aIns 274 1109 = some (.if_icmp .eq 51, 3, 0, 0, .null) := by decide +kernel
theorem i_274_1114 : aIns 274 1114 = some (.aload_n 1, 1, 0, 0, .null) := by decide +kernel
theorem i_274_1115 : aIns 274 1115 = some (.aload_n 0, 1, 0, 0, .null) := by decide +kernel
theorem i_274_1116 : aIns 274 1116 = some (.iload_n 3, 1, 0, 0, .null) := by decide +kernel
theorem i_274_1117 : aIns 274 1117 = some (.iconst 1, 1, 0, 0, .int (1)) := by decide +kernel
theorem i_274_1118 : aIns 274 1118 = some (.iadd, 1, 0, 0, .null) := by decide +kernel
theorem i_274_1119 : aIns 274 1119 = some (.iaload, 1, 0, 0, .null) := by decide +kernel
theorem i_274_1120 : aIns 274 1120 = some (.invokevirtual 155, 3, 136, 1, .int 11) := by decide +kernel
theorem i_274_1123 : aIns 274 1123 = some (.aload_n 2, 1, 0, 0, .null) := by decide +kernel
theorem i_274_1124 : aIns 274 1124 = some (.aload_n 0, 1, 0, 0, .null) := by decide +kernel
theorem i_274_1125 : aIns 274 1125 = some (.iload_n 3, 1, 0, 0, .null) := by decide +kernel
theorem i_274_1126 : aIns 274 1126 = some (.iconst 1, 1, 0, 0, .int (1)) := by decide +kernel
theorem i_274_1127 : aIns 274 1127 = some (.iadd, 1, 0, 0, .null) := by decide +kernel
theorem i_274_1128 : aIns 274 1128 = some (.iaload, 1, 0, 0, .null) := by decide +kernel
theorem i_274_1129 : aIns 274 1129 = some (.invokevirtual 158, 3, 271, 1, .int 12) := by decide +kernel
theorem i_274_1132 : aIns 274 1132 = some (.if_icmp .eq 28, 3, 0, 0, .null) := by decide +kernel
theorem i_274_1137 : aIns 274 1137 = some (.aload_n 1, 1, 0, 0, .null) := by decide +kernel
theorem i_274_1138 : aIns 274 1138 = some (.aload_n 0, 1, 0, 0, .null) := by decide +kernel
theorem i_274_1139 : aIns 274 1139 = some (.iload_n 3, 1, 0, 0, .null) := by decide +kernel
theorem i_274_1140 : aIns 274 1140 = some (.iconst 1, 1, 0, 0, .int (1)) := by decide +kernel
theorem i_274_1141 : aIns 274 1141 = some (.iadd, 1, 0, 0, .null) := by decide +kernel
theorem i_274_1142 : aIns 274 1142 = some (.iaload, 1, 0, 0, .null) := by decide +kernel
theorem i_274_1143 : aIns 274 1143 = some (.invokevirtual 159, 3, 137, 1, .int 11) := by decide +kernel
theorem i_274_1146 : aIns 274 1146 = some (.aload_n 2, 1, 0, 0, .null) := by decide +kernel
theorem i_274_1147 : aIns 274 1147 = some (.aload_n 0, 1, 0, 0, .null) := by decide +kernel
theorem i_274_1148 : aIns 274 1148 = some (.iload_n 3, 1, 0, 0, .null) := by decide +kernel
theorem i_274_1149 : aIns 274 1149 = some (.iconst 1, 1, 0, 0, .int (1)) := by decide +kernel
theorem i_274_1150 : aIns 274 1150 = some (.iadd, 1, 0, 0, .null) := by decide +kernel
theorem i_274_1151 : aIns 274 1151 = some (.iaload, 1, 0, 0, .null) := by decide +kernel
theorem i_274_1152 : aIns 274 1152 = some (.invokevirtual 162, 3, 272, 1, .int 12) := by decide +kernel
theorem i_274_1155 : aIns 274 1155 = some (.if_icmp .eq 5, 3, 0, 0, .null) := by decide +kernel
theorem i_274_1160 : aIns 274 1160 = some (.iinc 3 6, 3, 0, 0, .null) := by decide +kernel
theorem i_274_1163 : aIns 274 1163 = some (.goto (-1145), 3, 0, 0, .null) := by decide +kernel
theorem i_274_1166 : aIns 274 1166 = some (.iconst 1, 1, 0, 0, .int (1)) := by decide +kernel
theorem i_274_1167 : aIns 274 1167 = some (.ireturn, 1, 1, 0, .null) := by decide +kernel
theorem wp_s {X : aX} {d M pc : Nat} {lv : aL} {st : List Value} {h : aH} {Q : Option Value → aH → Prop} {r : aI} (p1 : Nat) (lv1 : aL) (st1 : List Value) (h1 : aH) (hi : aIns M pc = some r) (hs : aStep X r pc lv st h = some (.inl (p1, lv1, st1, h1))) (k : aWp X d M p1 lv1 st1 h1 Q) : aWp X d M pc lv st h Q := wp_step (p1, lv1, st1, h1) hi hs k
/-- one call on both: the same answer, and I afterwards -/
def aSame (X : aX) (I : aH → Prop) (Mc Mr Lc Lr : Nat) (vs : List Value) (h : aH) : Prop := aWp X 90 Mc 0 (aEntL (.ref 0 :: vs) Lc) [] h (fun v h1 => ∃ (r : Int32) (gs : List Value), v = some (.int r) ∧ h1[382]? = some (.inr (12, gs)) ∧ aWp X 90 Mr 0 (aEntL (.ref 382 :: vs) Lr) [] h1 (fun v2 h2 => v2 = some (.int r) ∧ I h2))
/-- each of the 36 calls -/
def aSteps (X : aX) (I : aH → Prop) (h : aH) : Prop := (∀ a b c d e : Int32, aSame X I 102 143 6 6 [.int a, .int b, .int c, .int d, .int e] h) ∧ (∀ a : Int32, aSame X I 103 144 2 2 [.int a] h) ∧ (aSame X I 104 181 3 2 [] h) ∧ (aSame X I 105 180 2 1 [] h) ∧ (∀ a : Int32, aSame X I 106 196 3 3 [.int a] h) ∧ (∀ a b : Int32, aSame X I 107 201 4 3 [.int a, .int b] h) ∧ (∀ a b : Int32, aSame X I 108 203 4 3 [.int a, .int b] h) ∧ (∀ a b : Int32, aSame X I 109 204 3 3 [.int a, .int b] h) ∧ (∀ a b c : Int32, aSame X I 110 205 4 4 [.int a, .int b, .int c] h) ∧ (∀ a : Int32, aSame X I 111 213 3 3 [.int a] h) ∧ (∀ a : Int32, aSame X I 112 218 3 2 [.int a] h) ∧ (∀ a : Int32, aSame X I 113 219 3 2 [.int a] h) ∧ (∀ a : Int32, aSame X I 114 221 3 2 [.int a] h) ∧ (∀ a : Int32, aSame X I 115 222 5 3 [.int a] h) ∧ (∀ a : Int32, aSame X I 116 224 2 2 [.int a] h) ∧ (aSame X I 117 225 4 3 [] h) ∧ (∀ a : Int32, aSame X I 118 229 4 2 [.int a] h) ∧ (aSame X I 119 230 1 1 [] h) ∧ (aSame X I 120 215 1 2 [] h) ∧ (∀ a : Int32, aSame X I 121 234 2 2 [.int a] h) ∧ (∀ a : Int32, aSame X I 122 239 2 2 [.int a] h) ∧ (∀ a : Int32, aSame X I 123 245 2 5 [.int a] h) ∧ (∀ a : Int32, aSame X I 124 249 2 3 [.int a] h) ∧ (∀ a : Int32, aSame X I 125 255 2 6 [.int a] h) ∧ (∀ a : Int32, aSame X I 126 256 5 3 [.int a] h) ∧ (∀ a : Int32, aSame X I 127 257 2 7 [.int a] h) ∧ (∀ a b c : Int32, aSame X I 128 259 4 6 [.int a, .int b, .int c] h) ∧ (∀ a b c d : Int32, aSame X I 129 260 5 6 [.int a, .int b, .int c, .int d] h) ∧ (∀ a : Int32, aSame X I 130 262 2 5 [.int a] h) ∧ (∀ a b c : Int32, aSame X I 131 264 4 8 [.int a, .int b, .int c] h) ∧ (∀ a b : Int32, aSame X I 132 265 3 5 [.int a, .int b] h) ∧ (∀ a : Int32, aSame X I 133 266 3 3 [.int a] h) ∧ (∀ a b c : Int32, aSame X I 134 269 4 6 [.int a, .int b, .int c] h) ∧ (∀ a : Int32, aSame X I 135 270 2 2 [.int a] h) ∧ (∀ a : Int32, aSame X I 136 271 2 3 [.int a] h) ∧ (∀ a : Int32, aSame X I 137 272 2 3 [.int a] h)
theorem aIn_sc1 {k L : Nat} (hk : 6 * k + 6 ≤ L) (hL : L ≤ 3072) : aIn (nI (6 * k) + 1) L = true := by
  rw [show nI (6 * k) + 1 = nI (6 * k + 1) from nI_add (6 * k) 1]
  unfold aIn
  rw [nI_clamp (by omega)]
  simp only [decide_eq_true (nI_pos (show 6 * k + 1 < 2 ^ 31 by omega)), decide_eq_true (show 6 * k + 1 < L by omega), Bool.and_self]
theorem aIn_sc2 {k L : Nat} (hk : 6 * k + 6 ≤ L) (hL : L ≤ 3072) : aIn (nI (6 * k) + 2) L = true := by
  rw [show nI (6 * k) + 2 = nI (6 * k + 2) from nI_add (6 * k) 2]
  unfold aIn
  rw [nI_clamp (by omega)]
  simp only [decide_eq_true (nI_pos (show 6 * k + 2 < 2 ^ 31 by omega)), decide_eq_true (show 6 * k + 2 < L by omega), Bool.and_self]
theorem aIn_sc3 {k L : Nat} (hk : 6 * k + 6 ≤ L) (hL : L ≤ 3072) : aIn (nI (6 * k) + 3) L = true := by
  rw [show nI (6 * k) + 3 = nI (6 * k + 3) from nI_add (6 * k) 3]
  unfold aIn
  rw [nI_clamp (by omega)]
  simp only [decide_eq_true (nI_pos (show 6 * k + 3 < 2 ^ 31 by omega)), decide_eq_true (show 6 * k + 3 < L by omega), Bool.and_self]
theorem aIn_sc4 {k L : Nat} (hk : 6 * k + 6 ≤ L) (hL : L ≤ 3072) : aIn (nI (6 * k) + 4) L = true := by
  rw [show nI (6 * k) + 4 = nI (6 * k + 4) from nI_add (6 * k) 4]
  unfold aIn
  rw [nI_clamp (by omega)]
  simp only [decide_eq_true (nI_pos (show 6 * k + 4 < 2 ^ 31 by omega)), decide_eq_true (show 6 * k + 4 < L by omega), Bool.and_self]
theorem aIn_sc5 {k L : Nat} (hk : 6 * k + 6 ≤ L) (hL : L ≤ 3072) : aIn (nI (6 * k) + 5) L = true := by
  rw [show nI (6 * k) + 5 = nI (6 * k + 5) from nI_add (6 * k) 5]
  unfold aIn
  rw [nI_clamp (by omega)]
  simp only [decide_eq_true (nI_pos (show 6 * k + 5 < 2 ^ 31 by omega)), decide_eq_true (show 6 * k + 5 < L by omega), Bool.and_self]
theorem aIn_sc0 {k L : Nat} (hk : 6 * k + 6 ≤ L) (hL : L ≤ 3072) : aIn (nI (6 * k)) L = true := by
  unfold aIn
  rw [nI_clamp (by omega)]
  simp only [decide_eq_true (nI_pos (show 6 * k < 2 ^ 31 by omega)), decide_eq_true (show 6 * k < L by omega), Bool.and_self]
theorem aL_end {k L : Nat} (hL : L ≤ 3072) (hk : 6 * k ≤ 3072) : Int32.ofNat L - 6 < nI (6 * k) ↔ L < 6 * k + 6 := by
  have e1 : (Int32.ofNat L - 6).toInt = (L : Int) - 6 := pk_sub_toInt (a := L) (b := 6) (by omega) (by decide)
  rw [Int32.lt_iff_toInt_lt, e1, nI_toInt (show 6 * k < 2 ^ 31 by omega)]
  omega
set_option maxHeartbeats 4000000 in
set_option maxRecDepth 100000 in
theorem law_c0 {X : aX} {I : Nat → aH → Prop} {k : Nat} {h : aH} {fs : List Value} (hL : X.1 ≤ 3072) (hstep : ∀ k h, 6 * k + 6 ≤ X.1 → I k h → aSteps X (I (k + 1)) h) (hk : 6 * k + 6 ≤ X.1) (hI : I k h) (h0 : h[0]? = some (.inr (11, fs))) {Q : Option Value → aH → Prop} (nxt : ∀ h2, I (k + 1) h2 → aWp X 100 274 18 [some (.float 1), some (.ref 0), some (.ref 382), some (.int (nI (6 * k) + 6))] [] h2 Q) : aWp X 100 274 192 [some (.float 1), some (.ref 0), some (.ref 382), some (.int (nI (6 * k)))] [] h Q := by
  refine wp_s 193 [some (.float 1), some (.ref 0), some (.ref 382), some (.int (nI (6 * k)))] [.ref 0] h i_274_192 rfl ?_
  refine wp_s 194 [some (.float 1), some (.ref 0), some (.ref 382), some (.int (nI (6 * k)))] [.float 1, .ref 0] h i_274_193 rfl ?_
  refine wp_s 195 [some (.float 1), some (.ref 0), some (.ref 382), some (.int (nI (6 * k)))] [.int (nI (6 * k)), .float 1, .ref 0] h i_274_194 rfl ?_
  refine wp_s 196 [some (.float 1), some (.ref 0), some (.ref 382), some (.int (nI (6 * k)))] [.int (1), .int (nI (6 * k)), .float 1, .ref 0] h i_274_195 rfl ?_
  refine wp_s 197 [some (.float 1), some (.ref 0), some (.ref 382), some (.int (nI (6 * k)))] [.int ((nI (6 * k)) + 1), .float 1, .ref 0] h i_274_196 rfl ?_
  refine wp_sld 198 rfl i_274_197 (aIn_sc1 hk hL) ?_
  refine wp_s 199 [some (.float 1), some (.ref 0), some (.ref 382), some (.int (nI (6 * k)))] [.float 1, .int (X.2 ((nI (6 * k)) + 1).toNatClampNeg), .ref 0] h i_274_198 rfl ?_
  refine wp_s 200 [some (.float 1), some (.ref 0), some (.ref 382), some (.int (nI (6 * k)))] [.int (nI (6 * k)), .float 1, .int (X.2 ((nI (6 * k)) + 1).toNatClampNeg), .ref 0] h i_274_199 rfl ?_
  refine wp_s 201 [some (.float 1), some (.ref 0), some (.ref 382), some (.int (nI (6 * k)))] [.int (2), .int (nI (6 * k)), .float 1, .int (X.2 ((nI (6 * k)) + 1).toNatClampNeg), .ref 0] h i_274_200 rfl ?_
  refine wp_s 202 [some (.float 1), some (.ref 0), some (.ref 382), some (.int (nI (6 * k)))] [.int ((nI (6 * k)) + 2), .float 1, .int (X.2 ((nI (6 * k)) + 1).toNatClampNeg), .ref 0] h i_274_201 rfl ?_
  refine wp_sld 203 rfl i_274_202 (aIn_sc2 hk hL) ?_
  refine wp_s 204 [some (.float 1), some (.ref 0), some (.ref 382), some (.int (nI (6 * k)))] [.float 1, .int (X.2 ((nI (6 * k)) + 2).toNatClampNeg), .int (X.2 ((nI (6 * k)) + 1).toNatClampNeg), .ref 0] h i_274_203 rfl ?_
  refine wp_s 205 [some (.float 1), some (.ref 0), some (.ref 382), some (.int (nI (6 * k)))] [.int (nI (6 * k)), .float 1, .int (X.2 ((nI (6 * k)) + 2).toNatClampNeg), .int (X.2 ((nI (6 * k)) + 1).toNatClampNeg), .ref 0] h i_274_204 rfl ?_
  refine wp_s 206 [some (.float 1), some (.ref 0), some (.ref 382), some (.int (nI (6 * k)))] [.int (3), .int (nI (6 * k)), .float 1, .int (X.2 ((nI (6 * k)) + 2).toNatClampNeg), .int (X.2 ((nI (6 * k)) + 1).toNatClampNeg), .ref 0] h i_274_205 rfl ?_
  refine wp_s 207 [some (.float 1), some (.ref 0), some (.ref 382), some (.int (nI (6 * k)))] [.int ((nI (6 * k)) + 3), .float 1, .int (X.2 ((nI (6 * k)) + 2).toNatClampNeg), .int (X.2 ((nI (6 * k)) + 1).toNatClampNeg), .ref 0] h i_274_206 rfl ?_
  refine wp_sld 208 rfl i_274_207 (aIn_sc3 hk hL) ?_
  refine wp_s 209 [some (.float 1), some (.ref 0), some (.ref 382), some (.int (nI (6 * k)))] [.float 1, .int (X.2 ((nI (6 * k)) + 3).toNatClampNeg), .int (X.2 ((nI (6 * k)) + 2).toNatClampNeg), .int (X.2 ((nI (6 * k)) + 1).toNatClampNeg), .ref 0] h i_274_208 rfl ?_
  refine wp_s 210 [some (.float 1), some (.ref 0), some (.ref 382), some (.int (nI (6 * k)))] [.int (nI (6 * k)), .float 1, .int (X.2 ((nI (6 * k)) + 3).toNatClampNeg), .int (X.2 ((nI (6 * k)) + 2).toNatClampNeg), .int (X.2 ((nI (6 * k)) + 1).toNatClampNeg), .ref 0] h i_274_209 rfl ?_
  refine wp_s 211 [some (.float 1), some (.ref 0), some (.ref 382), some (.int (nI (6 * k)))] [.int (4), .int (nI (6 * k)), .float 1, .int (X.2 ((nI (6 * k)) + 3).toNatClampNeg), .int (X.2 ((nI (6 * k)) + 2).toNatClampNeg), .int (X.2 ((nI (6 * k)) + 1).toNatClampNeg), .ref 0] h i_274_210 rfl ?_
  refine wp_s 212 [some (.float 1), some (.ref 0), some (.ref 382), some (.int (nI (6 * k)))] [.int ((nI (6 * k)) + 4), .float 1, .int (X.2 ((nI (6 * k)) + 3).toNatClampNeg), .int (X.2 ((nI (6 * k)) + 2).toNatClampNeg), .int (X.2 ((nI (6 * k)) + 1).toNatClampNeg), .ref 0] h i_274_211 rfl ?_
  refine wp_sld 213 rfl i_274_212 (aIn_sc4 hk hL) ?_
  refine wp_s 214 [some (.float 1), some (.ref 0), some (.ref 382), some (.int (nI (6 * k)))] [.float 1, .int (X.2 ((nI (6 * k)) + 4).toNatClampNeg), .int (X.2 ((nI (6 * k)) + 3).toNatClampNeg), .int (X.2 ((nI (6 * k)) + 2).toNatClampNeg), .int (X.2 ((nI (6 * k)) + 1).toNatClampNeg), .ref 0] h i_274_213 rfl ?_
  refine wp_s 215 [some (.float 1), some (.ref 0), some (.ref 382), some (.int (nI (6 * k)))] [.int (nI (6 * k)), .float 1, .int (X.2 ((nI (6 * k)) + 4).toNatClampNeg), .int (X.2 ((nI (6 * k)) + 3).toNatClampNeg), .int (X.2 ((nI (6 * k)) + 2).toNatClampNeg), .int (X.2 ((nI (6 * k)) + 1).toNatClampNeg), .ref 0] h i_274_214 rfl ?_
  refine wp_s 216 [some (.float 1), some (.ref 0), some (.ref 382), some (.int (nI (6 * k)))] [.int (5), .int (nI (6 * k)), .float 1, .int (X.2 ((nI (6 * k)) + 4).toNatClampNeg), .int (X.2 ((nI (6 * k)) + 3).toNatClampNeg), .int (X.2 ((nI (6 * k)) + 2).toNatClampNeg), .int (X.2 ((nI (6 * k)) + 1).toNatClampNeg), .ref 0] h i_274_215 rfl ?_
  refine wp_s 217 [some (.float 1), some (.ref 0), some (.ref 382), some (.int (nI (6 * k)))] [.int ((nI (6 * k)) + 5), .float 1, .int (X.2 ((nI (6 * k)) + 4).toNatClampNeg), .int (X.2 ((nI (6 * k)) + 3).toNatClampNeg), .int (X.2 ((nI (6 * k)) + 2).toNatClampNeg), .int (X.2 ((nI (6 * k)) + 1).toNatClampNeg), .ref 0] h i_274_216 rfl ?_
  refine wp_sld 218 rfl i_274_217 (aIn_sc5 hk hL) ?_
  have hc := (hstep k h hk hI).1 ((X.2 ((nI (6 * k)) + 1).toNatClampNeg)) ((X.2 ((nI (6 * k)) + 2).toNatClampNeg)) ((X.2 ((nI (6 * k)) + 3).toNatClampNeg)) ((X.2 ((nI (6 * k)) + 4).toNatClampNeg)) ((X.2 ((nI (6 * k)) + 5).toNatClampNeg))
  refine wp_callV (d := 99) 221 rfl i_274_218 (by decide) rfl (vs := [.int (X.2 ((nI (6 * k)) + 1).toNatClampNeg), .int (X.2 ((nI (6 * k)) + 2).toNatClampNeg), .int (X.2 ((nI (6 * k)) + 3).toNatClampNeg), .int (X.2 ((nI (6 * k)) + 4).toNatClampNeg), .int (X.2 ((nI (6 * k)) + 5).toNatClampNeg)]) (rest := []) rfl rfl rfl h0 (y := m_102) rfl (Nat.le_of_ble_eq_true rfl) (hc.deep (by decide)) ?_
  intro v h1 hq
  obtain ⟨r, gs, rfl, hB, hq⟩ := hq
  refine wp_s 222 [some (.float 1), some (.ref 0), some (.ref 382), some (.int (nI (6 * k)))] [.ref 382, .int r] h1 i_274_221 rfl ?_
  refine wp_s 223 [some (.float 1), some (.ref 0), some (.ref 382), some (.int (nI (6 * k)))] [.float 1, .ref 382, .int r] h1 i_274_222 rfl ?_
  refine wp_s 224 [some (.float 1), some (.ref 0), some (.ref 382), some (.int (nI (6 * k)))] [.int (nI (6 * k)), .float 1, .ref 382, .int r] h1 i_274_223 rfl ?_
  refine wp_s 225 [some (.float 1), some (.ref 0), some (.ref 382), some (.int (nI (6 * k)))] [.int (1), .int (nI (6 * k)), .float 1, .ref 382, .int r] h1 i_274_224 rfl ?_
  refine wp_s 226 [some (.float 1), some (.ref 0), some (.ref 382), some (.int (nI (6 * k)))] [.int ((nI (6 * k)) + 1), .float 1, .ref 382, .int r] h1 i_274_225 rfl ?_
  refine wp_sld 227 rfl i_274_226 (aIn_sc1 hk hL) ?_
  refine wp_s 228 [some (.float 1), some (.ref 0), some (.ref 382), some (.int (nI (6 * k)))] [.float 1, .int (X.2 ((nI (6 * k)) + 1).toNatClampNeg), .ref 382, .int r] h1 i_274_227 rfl ?_
  refine wp_s 229 [some (.float 1), some (.ref 0), some (.ref 382), some (.int (nI (6 * k)))] [.int (nI (6 * k)), .float 1, .int (X.2 ((nI (6 * k)) + 1).toNatClampNeg), .ref 382, .int r] h1 i_274_228 rfl ?_
  refine wp_s 230 [some (.float 1), some (.ref 0), some (.ref 382), some (.int (nI (6 * k)))] [.int (2), .int (nI (6 * k)), .float 1, .int (X.2 ((nI (6 * k)) + 1).toNatClampNeg), .ref 382, .int r] h1 i_274_229 rfl ?_
  refine wp_s 231 [some (.float 1), some (.ref 0), some (.ref 382), some (.int (nI (6 * k)))] [.int ((nI (6 * k)) + 2), .float 1, .int (X.2 ((nI (6 * k)) + 1).toNatClampNeg), .ref 382, .int r] h1 i_274_230 rfl ?_
  refine wp_sld 232 rfl i_274_231 (aIn_sc2 hk hL) ?_
  refine wp_s 233 [some (.float 1), some (.ref 0), some (.ref 382), some (.int (nI (6 * k)))] [.float 1, .int (X.2 ((nI (6 * k)) + 2).toNatClampNeg), .int (X.2 ((nI (6 * k)) + 1).toNatClampNeg), .ref 382, .int r] h1 i_274_232 rfl ?_
  refine wp_s 234 [some (.float 1), some (.ref 0), some (.ref 382), some (.int (nI (6 * k)))] [.int (nI (6 * k)), .float 1, .int (X.2 ((nI (6 * k)) + 2).toNatClampNeg), .int (X.2 ((nI (6 * k)) + 1).toNatClampNeg), .ref 382, .int r] h1 i_274_233 rfl ?_
  refine wp_s 235 [some (.float 1), some (.ref 0), some (.ref 382), some (.int (nI (6 * k)))] [.int (3), .int (nI (6 * k)), .float 1, .int (X.2 ((nI (6 * k)) + 2).toNatClampNeg), .int (X.2 ((nI (6 * k)) + 1).toNatClampNeg), .ref 382, .int r] h1 i_274_234 rfl ?_
  refine wp_s 236 [some (.float 1), some (.ref 0), some (.ref 382), some (.int (nI (6 * k)))] [.int ((nI (6 * k)) + 3), .float 1, .int (X.2 ((nI (6 * k)) + 2).toNatClampNeg), .int (X.2 ((nI (6 * k)) + 1).toNatClampNeg), .ref 382, .int r] h1 i_274_235 rfl ?_
  refine wp_sld 237 rfl i_274_236 (aIn_sc3 hk hL) ?_
  refine wp_s 238 [some (.float 1), some (.ref 0), some (.ref 382), some (.int (nI (6 * k)))] [.float 1, .int (X.2 ((nI (6 * k)) + 3).toNatClampNeg), .int (X.2 ((nI (6 * k)) + 2).toNatClampNeg), .int (X.2 ((nI (6 * k)) + 1).toNatClampNeg), .ref 382, .int r] h1 i_274_237 rfl ?_
  refine wp_s 239 [some (.float 1), some (.ref 0), some (.ref 382), some (.int (nI (6 * k)))] [.int (nI (6 * k)), .float 1, .int (X.2 ((nI (6 * k)) + 3).toNatClampNeg), .int (X.2 ((nI (6 * k)) + 2).toNatClampNeg), .int (X.2 ((nI (6 * k)) + 1).toNatClampNeg), .ref 382, .int r] h1 i_274_238 rfl ?_
  refine wp_s 240 [some (.float 1), some (.ref 0), some (.ref 382), some (.int (nI (6 * k)))] [.int (4), .int (nI (6 * k)), .float 1, .int (X.2 ((nI (6 * k)) + 3).toNatClampNeg), .int (X.2 ((nI (6 * k)) + 2).toNatClampNeg), .int (X.2 ((nI (6 * k)) + 1).toNatClampNeg), .ref 382, .int r] h1 i_274_239 rfl ?_
  refine wp_s 241 [some (.float 1), some (.ref 0), some (.ref 382), some (.int (nI (6 * k)))] [.int ((nI (6 * k)) + 4), .float 1, .int (X.2 ((nI (6 * k)) + 3).toNatClampNeg), .int (X.2 ((nI (6 * k)) + 2).toNatClampNeg), .int (X.2 ((nI (6 * k)) + 1).toNatClampNeg), .ref 382, .int r] h1 i_274_240 rfl ?_
  refine wp_sld 242 rfl i_274_241 (aIn_sc4 hk hL) ?_
  refine wp_s 243 [some (.float 1), some (.ref 0), some (.ref 382), some (.int (nI (6 * k)))] [.float 1, .int (X.2 ((nI (6 * k)) + 4).toNatClampNeg), .int (X.2 ((nI (6 * k)) + 3).toNatClampNeg), .int (X.2 ((nI (6 * k)) + 2).toNatClampNeg), .int (X.2 ((nI (6 * k)) + 1).toNatClampNeg), .ref 382, .int r] h1 i_274_242 rfl ?_
  refine wp_s 244 [some (.float 1), some (.ref 0), some (.ref 382), some (.int (nI (6 * k)))] [.int (nI (6 * k)), .float 1, .int (X.2 ((nI (6 * k)) + 4).toNatClampNeg), .int (X.2 ((nI (6 * k)) + 3).toNatClampNeg), .int (X.2 ((nI (6 * k)) + 2).toNatClampNeg), .int (X.2 ((nI (6 * k)) + 1).toNatClampNeg), .ref 382, .int r] h1 i_274_243 rfl ?_
  refine wp_s 245 [some (.float 1), some (.ref 0), some (.ref 382), some (.int (nI (6 * k)))] [.int (5), .int (nI (6 * k)), .float 1, .int (X.2 ((nI (6 * k)) + 4).toNatClampNeg), .int (X.2 ((nI (6 * k)) + 3).toNatClampNeg), .int (X.2 ((nI (6 * k)) + 2).toNatClampNeg), .int (X.2 ((nI (6 * k)) + 1).toNatClampNeg), .ref 382, .int r] h1 i_274_244 rfl ?_
  refine wp_s 246 [some (.float 1), some (.ref 0), some (.ref 382), some (.int (nI (6 * k)))] [.int ((nI (6 * k)) + 5), .float 1, .int (X.2 ((nI (6 * k)) + 4).toNatClampNeg), .int (X.2 ((nI (6 * k)) + 3).toNatClampNeg), .int (X.2 ((nI (6 * k)) + 2).toNatClampNeg), .int (X.2 ((nI (6 * k)) + 1).toNatClampNeg), .ref 382, .int r] h1 i_274_245 rfl ?_
  refine wp_sld 247 rfl i_274_246 (aIn_sc5 hk hL) ?_
  refine wp_callV (d := 99) 250 rfl i_274_247 (by decide) rfl (vs := [.int (X.2 ((nI (6 * k)) + 1).toNatClampNeg), .int (X.2 ((nI (6 * k)) + 2).toNatClampNeg), .int (X.2 ((nI (6 * k)) + 3).toNatClampNeg), .int (X.2 ((nI (6 * k)) + 4).toNatClampNeg), .int (X.2 ((nI (6 * k)) + 5).toNatClampNeg)]) (rest := [.int r]) rfl rfl rfl hB (y := m_143) rfl (Nat.le_of_ble_eq_true rfl) (hq.deep (by decide)) ?_
  intro v h2 hq2
  obtain ⟨rfl, hI2⟩ := hq2
  refine wp_br (b := decide (r = r)) 1160 253 [some (.float 1), some (.ref 0), some (.ref 382), some (.int (nI (6 * k)))] [] h2 i_274_250 rfl (fun _ => ?_) (fun z => absurd rfl (of_decide_eq_false z))
  refine wp_s 1163 [some (.float 1), some (.ref 0), some (.ref 382), some (.int ((nI (6 * k)) + 6))] [] h2 i_274_1160 rfl ?_
  refine wp_s 18 [some (.float 1), some (.ref 0), some (.ref 382), some (.int ((nI (6 * k)) + 6))] [] h2 i_274_1163 rfl ?_
  exact nxt h2 hI2
set_option maxHeartbeats 4000000 in
set_option maxRecDepth 100000 in
theorem law_c1 {X : aX} {I : Nat → aH → Prop} {k : Nat} {h : aH} {fs : List Value} (hL : X.1 ≤ 3072) (hstep : ∀ k h, 6 * k + 6 ≤ X.1 → I k h → aSteps X (I (k + 1)) h) (hk : 6 * k + 6 ≤ X.1) (hI : I k h) (h0 : h[0]? = some (.inr (11, fs))) {Q : Option Value → aH → Prop} (nxt : ∀ h2, I (k + 1) h2 → aWp X 100 274 18 [some (.float 1), some (.ref 0), some (.ref 382), some (.int (nI (6 * k) + 6))] [] h2 Q) : aWp X 100 274 255 [some (.float 1), some (.ref 0), some (.ref 382), some (.int (nI (6 * k)))] [] h Q := by
  refine wp_s 256 [some (.float 1), some (.ref 0), some (.ref 382), some (.int (nI (6 * k)))] [.ref 0] h i_274_255 rfl ?_
  refine wp_s 257 [some (.float 1), some (.ref 0), some (.ref 382), some (.int (nI (6 * k)))] [.float 1, .ref 0] h i_274_256 rfl ?_
  refine wp_s 258 [some (.float 1), some (.ref 0), some (.ref 382), some (.int (nI (6 * k)))] [.int (nI (6 * k)), .float 1, .ref 0] h i_274_257 rfl ?_
  refine wp_s 259 [some (.float 1), some (.ref 0), some (.ref 382), some (.int (nI (6 * k)))] [.int (1), .int (nI (6 * k)), .float 1, .ref 0] h i_274_258 rfl ?_
  refine wp_s 260 [some (.float 1), some (.ref 0), some (.ref 382), some (.int (nI (6 * k)))] [.int ((nI (6 * k)) + 1), .float 1, .ref 0] h i_274_259 rfl ?_
  refine wp_sld 261 rfl i_274_260 (aIn_sc1 hk hL) ?_
  have hc := (hstep k h hk hI).2.1 ((X.2 ((nI (6 * k)) + 1).toNatClampNeg))
  refine wp_callV (d := 99) 264 rfl i_274_261 (by decide) rfl (vs := [.int (X.2 ((nI (6 * k)) + 1).toNatClampNeg)]) (rest := []) rfl rfl rfl h0 (y := m_103) rfl (Nat.le_of_ble_eq_true rfl) (hc.deep (by decide)) ?_
  intro v h1 hq
  obtain ⟨r, gs, rfl, hB, hq⟩ := hq
  refine wp_s 265 [some (.float 1), some (.ref 0), some (.ref 382), some (.int (nI (6 * k)))] [.ref 382, .int r] h1 i_274_264 rfl ?_
  refine wp_s 266 [some (.float 1), some (.ref 0), some (.ref 382), some (.int (nI (6 * k)))] [.float 1, .ref 382, .int r] h1 i_274_265 rfl ?_
  refine wp_s 267 [some (.float 1), some (.ref 0), some (.ref 382), some (.int (nI (6 * k)))] [.int (nI (6 * k)), .float 1, .ref 382, .int r] h1 i_274_266 rfl ?_
  refine wp_s 268 [some (.float 1), some (.ref 0), some (.ref 382), some (.int (nI (6 * k)))] [.int (1), .int (nI (6 * k)), .float 1, .ref 382, .int r] h1 i_274_267 rfl ?_
  refine wp_s 269 [some (.float 1), some (.ref 0), some (.ref 382), some (.int (nI (6 * k)))] [.int ((nI (6 * k)) + 1), .float 1, .ref 382, .int r] h1 i_274_268 rfl ?_
  refine wp_sld 270 rfl i_274_269 (aIn_sc1 hk hL) ?_
  refine wp_callV (d := 99) 273 rfl i_274_270 (by decide) rfl (vs := [.int (X.2 ((nI (6 * k)) + 1).toNatClampNeg)]) (rest := [.int r]) rfl rfl rfl hB (y := m_144) rfl (Nat.le_of_ble_eq_true rfl) (hq.deep (by decide)) ?_
  intro v h2 hq2
  obtain ⟨rfl, hI2⟩ := hq2
  refine wp_br (b := decide (r = r)) 1160 276 [some (.float 1), some (.ref 0), some (.ref 382), some (.int (nI (6 * k)))] [] h2 i_274_273 rfl (fun _ => ?_) (fun z => absurd rfl (of_decide_eq_false z))
  refine wp_s 1163 [some (.float 1), some (.ref 0), some (.ref 382), some (.int ((nI (6 * k)) + 6))] [] h2 i_274_1160 rfl ?_
  refine wp_s 18 [some (.float 1), some (.ref 0), some (.ref 382), some (.int ((nI (6 * k)) + 6))] [] h2 i_274_1163 rfl ?_
  exact nxt h2 hI2
set_option maxHeartbeats 4000000 in
set_option maxRecDepth 100000 in
theorem law_c2 {X : aX} {I : Nat → aH → Prop} {k : Nat} {h : aH} {fs : List Value} (hL : X.1 ≤ 3072) (hstep : ∀ k h, 6 * k + 6 ≤ X.1 → I k h → aSteps X (I (k + 1)) h) (hk : 6 * k + 6 ≤ X.1) (hI : I k h) (h0 : h[0]? = some (.inr (11, fs))) {Q : Option Value → aH → Prop} (nxt : ∀ h2, I (k + 1) h2 → aWp X 100 274 18 [some (.float 1), some (.ref 0), some (.ref 382), some (.int (nI (6 * k) + 6))] [] h2 Q) : aWp X 100 274 278 [some (.float 1), some (.ref 0), some (.ref 382), some (.int (nI (6 * k)))] [] h Q := by
  refine wp_s 279 [some (.float 1), some (.ref 0), some (.ref 382), some (.int (nI (6 * k)))] [.ref 0] h i_274_278 rfl ?_
  have hc := (hstep k h hk hI).2.2.1
  refine wp_callV (d := 99) 282 rfl i_274_279 (by decide) rfl (vs := []) (rest := []) rfl rfl rfl h0 (y := m_104) rfl (Nat.le_of_ble_eq_true rfl) (hc.deep (by decide)) ?_
  intro v h1 hq
  obtain ⟨r, gs, rfl, hB, hq⟩ := hq
  refine wp_s 283 [some (.float 1), some (.ref 0), some (.ref 382), some (.int (nI (6 * k)))] [.ref 382, .int r] h1 i_274_282 rfl ?_
  refine wp_callV (d := 99) 286 rfl i_274_283 (by decide) rfl (vs := []) (rest := [.int r]) rfl rfl rfl hB (y := m_181) rfl (Nat.le_of_ble_eq_true rfl) (hq.deep (by decide)) ?_
  intro v h2 hq2
  obtain ⟨rfl, hI2⟩ := hq2
  refine wp_br (b := decide (r = r)) 1160 289 [some (.float 1), some (.ref 0), some (.ref 382), some (.int (nI (6 * k)))] [] h2 i_274_286 rfl (fun _ => ?_) (fun z => absurd rfl (of_decide_eq_false z))
  refine wp_s 1163 [some (.float 1), some (.ref 0), some (.ref 382), some (.int ((nI (6 * k)) + 6))] [] h2 i_274_1160 rfl ?_
  refine wp_s 18 [some (.float 1), some (.ref 0), some (.ref 382), some (.int ((nI (6 * k)) + 6))] [] h2 i_274_1163 rfl ?_
  exact nxt h2 hI2
set_option maxHeartbeats 4000000 in
set_option maxRecDepth 100000 in
theorem law_c3 {X : aX} {I : Nat → aH → Prop} {k : Nat} {h : aH} {fs : List Value} (hL : X.1 ≤ 3072) (hstep : ∀ k h, 6 * k + 6 ≤ X.1 → I k h → aSteps X (I (k + 1)) h) (hk : 6 * k + 6 ≤ X.1) (hI : I k h) (h0 : h[0]? = some (.inr (11, fs))) {Q : Option Value → aH → Prop} (nxt : ∀ h2, I (k + 1) h2 → aWp X 100 274 18 [some (.float 1), some (.ref 0), some (.ref 382), some (.int (nI (6 * k) + 6))] [] h2 Q) : aWp X 100 274 291 [some (.float 1), some (.ref 0), some (.ref 382), some (.int (nI (6 * k)))] [] h Q := by
  refine wp_s 292 [some (.float 1), some (.ref 0), some (.ref 382), some (.int (nI (6 * k)))] [.ref 0] h i_274_291 rfl ?_
  have hc := (hstep k h hk hI).2.2.2.1
  refine wp_callV (d := 99) 295 rfl i_274_292 (by decide) rfl (vs := []) (rest := []) rfl rfl rfl h0 (y := m_105) rfl (Nat.le_of_ble_eq_true rfl) (hc.deep (by decide)) ?_
  intro v h1 hq
  obtain ⟨r, gs, rfl, hB, hq⟩ := hq
  refine wp_s 296 [some (.float 1), some (.ref 0), some (.ref 382), some (.int (nI (6 * k)))] [.ref 382, .int r] h1 i_274_295 rfl ?_
  refine wp_callV (d := 99) 299 rfl i_274_296 (by decide) rfl (vs := []) (rest := [.int r]) rfl rfl rfl hB (y := m_180) rfl (Nat.le_of_ble_eq_true rfl) (hq.deep (by decide)) ?_
  intro v h2 hq2
  obtain ⟨rfl, hI2⟩ := hq2
  refine wp_br (b := decide (r = r)) 1160 302 [some (.float 1), some (.ref 0), some (.ref 382), some (.int (nI (6 * k)))] [] h2 i_274_299 rfl (fun _ => ?_) (fun z => absurd rfl (of_decide_eq_false z))
  refine wp_s 1163 [some (.float 1), some (.ref 0), some (.ref 382), some (.int ((nI (6 * k)) + 6))] [] h2 i_274_1160 rfl ?_
  refine wp_s 18 [some (.float 1), some (.ref 0), some (.ref 382), some (.int ((nI (6 * k)) + 6))] [] h2 i_274_1163 rfl ?_
  exact nxt h2 hI2
set_option maxHeartbeats 4000000 in
set_option maxRecDepth 100000 in
theorem law_c4 {X : aX} {I : Nat → aH → Prop} {k : Nat} {h : aH} {fs : List Value} (hL : X.1 ≤ 3072) (hstep : ∀ k h, 6 * k + 6 ≤ X.1 → I k h → aSteps X (I (k + 1)) h) (hk : 6 * k + 6 ≤ X.1) (hI : I k h) (h0 : h[0]? = some (.inr (11, fs))) {Q : Option Value → aH → Prop} (nxt : ∀ h2, I (k + 1) h2 → aWp X 100 274 18 [some (.float 1), some (.ref 0), some (.ref 382), some (.int (nI (6 * k) + 6))] [] h2 Q) : aWp X 100 274 304 [some (.float 1), some (.ref 0), some (.ref 382), some (.int (nI (6 * k)))] [] h Q := by
  refine wp_s 305 [some (.float 1), some (.ref 0), some (.ref 382), some (.int (nI (6 * k)))] [.ref 0] h i_274_304 rfl ?_
  refine wp_s 306 [some (.float 1), some (.ref 0), some (.ref 382), some (.int (nI (6 * k)))] [.float 1, .ref 0] h i_274_305 rfl ?_
  refine wp_s 307 [some (.float 1), some (.ref 0), some (.ref 382), some (.int (nI (6 * k)))] [.int (nI (6 * k)), .float 1, .ref 0] h i_274_306 rfl ?_
  refine wp_s 308 [some (.float 1), some (.ref 0), some (.ref 382), some (.int (nI (6 * k)))] [.int (1), .int (nI (6 * k)), .float 1, .ref 0] h i_274_307 rfl ?_
  refine wp_s 309 [some (.float 1), some (.ref 0), some (.ref 382), some (.int (nI (6 * k)))] [.int ((nI (6 * k)) + 1), .float 1, .ref 0] h i_274_308 rfl ?_
  refine wp_sld 310 rfl i_274_309 (aIn_sc1 hk hL) ?_
  have hc := (hstep k h hk hI).2.2.2.2.1 ((X.2 ((nI (6 * k)) + 1).toNatClampNeg))
  refine wp_callV (d := 99) 313 rfl i_274_310 (by decide) rfl (vs := [.int (X.2 ((nI (6 * k)) + 1).toNatClampNeg)]) (rest := []) rfl rfl rfl h0 (y := m_106) rfl (Nat.le_of_ble_eq_true rfl) (hc.deep (by decide)) ?_
  intro v h1 hq
  obtain ⟨r, gs, rfl, hB, hq⟩ := hq
  refine wp_s 314 [some (.float 1), some (.ref 0), some (.ref 382), some (.int (nI (6 * k)))] [.ref 382, .int r] h1 i_274_313 rfl ?_
  refine wp_s 315 [some (.float 1), some (.ref 0), some (.ref 382), some (.int (nI (6 * k)))] [.float 1, .ref 382, .int r] h1 i_274_314 rfl ?_
  refine wp_s 316 [some (.float 1), some (.ref 0), some (.ref 382), some (.int (nI (6 * k)))] [.int (nI (6 * k)), .float 1, .ref 382, .int r] h1 i_274_315 rfl ?_
  refine wp_s 317 [some (.float 1), some (.ref 0), some (.ref 382), some (.int (nI (6 * k)))] [.int (1), .int (nI (6 * k)), .float 1, .ref 382, .int r] h1 i_274_316 rfl ?_
  refine wp_s 318 [some (.float 1), some (.ref 0), some (.ref 382), some (.int (nI (6 * k)))] [.int ((nI (6 * k)) + 1), .float 1, .ref 382, .int r] h1 i_274_317 rfl ?_
  refine wp_sld 319 rfl i_274_318 (aIn_sc1 hk hL) ?_
  refine wp_callV (d := 99) 322 rfl i_274_319 (by decide) rfl (vs := [.int (X.2 ((nI (6 * k)) + 1).toNatClampNeg)]) (rest := [.int r]) rfl rfl rfl hB (y := m_196) rfl (Nat.le_of_ble_eq_true rfl) (hq.deep (by decide)) ?_
  intro v h2 hq2
  obtain ⟨rfl, hI2⟩ := hq2
  refine wp_br (b := decide (r = r)) 1160 325 [some (.float 1), some (.ref 0), some (.ref 382), some (.int (nI (6 * k)))] [] h2 i_274_322 rfl (fun _ => ?_) (fun z => absurd rfl (of_decide_eq_false z))
  refine wp_s 1163 [some (.float 1), some (.ref 0), some (.ref 382), some (.int ((nI (6 * k)) + 6))] [] h2 i_274_1160 rfl ?_
  refine wp_s 18 [some (.float 1), some (.ref 0), some (.ref 382), some (.int ((nI (6 * k)) + 6))] [] h2 i_274_1163 rfl ?_
  exact nxt h2 hI2
set_option maxHeartbeats 4000000 in
set_option maxRecDepth 100000 in
theorem law_c5 {X : aX} {I : Nat → aH → Prop} {k : Nat} {h : aH} {fs : List Value} (hL : X.1 ≤ 3072) (hstep : ∀ k h, 6 * k + 6 ≤ X.1 → I k h → aSteps X (I (k + 1)) h) (hk : 6 * k + 6 ≤ X.1) (hI : I k h) (h0 : h[0]? = some (.inr (11, fs))) {Q : Option Value → aH → Prop} (nxt : ∀ h2, I (k + 1) h2 → aWp X 100 274 18 [some (.float 1), some (.ref 0), some (.ref 382), some (.int (nI (6 * k) + 6))] [] h2 Q) : aWp X 100 274 327 [some (.float 1), some (.ref 0), some (.ref 382), some (.int (nI (6 * k)))] [] h Q := by
  refine wp_s 328 [some (.float 1), some (.ref 0), some (.ref 382), some (.int (nI (6 * k)))] [.ref 0] h i_274_327 rfl ?_
  refine wp_s 329 [some (.float 1), some (.ref 0), some (.ref 382), some (.int (nI (6 * k)))] [.float 1, .ref 0] h i_274_328 rfl ?_
  refine wp_s 330 [some (.float 1), some (.ref 0), some (.ref 382), some (.int (nI (6 * k)))] [.int (nI (6 * k)), .float 1, .ref 0] h i_274_329 rfl ?_
  refine wp_s 331 [some (.float 1), some (.ref 0), some (.ref 382), some (.int (nI (6 * k)))] [.int (1), .int (nI (6 * k)), .float 1, .ref 0] h i_274_330 rfl ?_
  refine wp_s 332 [some (.float 1), some (.ref 0), some (.ref 382), some (.int (nI (6 * k)))] [.int ((nI (6 * k)) + 1), .float 1, .ref 0] h i_274_331 rfl ?_
  refine wp_sld 333 rfl i_274_332 (aIn_sc1 hk hL) ?_
  refine wp_s 334 [some (.float 1), some (.ref 0), some (.ref 382), some (.int (nI (6 * k)))] [.float 1, .int (X.2 ((nI (6 * k)) + 1).toNatClampNeg), .ref 0] h i_274_333 rfl ?_
  refine wp_s 335 [some (.float 1), some (.ref 0), some (.ref 382), some (.int (nI (6 * k)))] [.int (nI (6 * k)), .float 1, .int (X.2 ((nI (6 * k)) + 1).toNatClampNeg), .ref 0] h i_274_334 rfl ?_
  refine wp_s 336 [some (.float 1), some (.ref 0), some (.ref 382), some (.int (nI (6 * k)))] [.int (2), .int (nI (6 * k)), .float 1, .int (X.2 ((nI (6 * k)) + 1).toNatClampNeg), .ref 0] h i_274_335 rfl ?_
  refine wp_s 337 [some (.float 1), some (.ref 0), some (.ref 382), some (.int (nI (6 * k)))] [.int ((nI (6 * k)) + 2), .float 1, .int (X.2 ((nI (6 * k)) + 1).toNatClampNeg), .ref 0] h i_274_336 rfl ?_
  refine wp_sld 338 rfl i_274_337 (aIn_sc2 hk hL) ?_
  have hc := (hstep k h hk hI).2.2.2.2.2.1 ((X.2 ((nI (6 * k)) + 1).toNatClampNeg)) ((X.2 ((nI (6 * k)) + 2).toNatClampNeg))
  refine wp_callV (d := 99) 341 rfl i_274_338 (by decide) rfl (vs := [.int (X.2 ((nI (6 * k)) + 1).toNatClampNeg), .int (X.2 ((nI (6 * k)) + 2).toNatClampNeg)]) (rest := []) rfl rfl rfl h0 (y := m_107) rfl (Nat.le_of_ble_eq_true rfl) (hc.deep (by decide)) ?_
  intro v h1 hq
  obtain ⟨r, gs, rfl, hB, hq⟩ := hq
  refine wp_s 342 [some (.float 1), some (.ref 0), some (.ref 382), some (.int (nI (6 * k)))] [.ref 382, .int r] h1 i_274_341 rfl ?_
  refine wp_s 343 [some (.float 1), some (.ref 0), some (.ref 382), some (.int (nI (6 * k)))] [.float 1, .ref 382, .int r] h1 i_274_342 rfl ?_
  refine wp_s 344 [some (.float 1), some (.ref 0), some (.ref 382), some (.int (nI (6 * k)))] [.int (nI (6 * k)), .float 1, .ref 382, .int r] h1 i_274_343 rfl ?_
  refine wp_s 345 [some (.float 1), some (.ref 0), some (.ref 382), some (.int (nI (6 * k)))] [.int (1), .int (nI (6 * k)), .float 1, .ref 382, .int r] h1 i_274_344 rfl ?_
  refine wp_s 346 [some (.float 1), some (.ref 0), some (.ref 382), some (.int (nI (6 * k)))] [.int ((nI (6 * k)) + 1), .float 1, .ref 382, .int r] h1 i_274_345 rfl ?_
  refine wp_sld 347 rfl i_274_346 (aIn_sc1 hk hL) ?_
  refine wp_s 348 [some (.float 1), some (.ref 0), some (.ref 382), some (.int (nI (6 * k)))] [.float 1, .int (X.2 ((nI (6 * k)) + 1).toNatClampNeg), .ref 382, .int r] h1 i_274_347 rfl ?_
  refine wp_s 349 [some (.float 1), some (.ref 0), some (.ref 382), some (.int (nI (6 * k)))] [.int (nI (6 * k)), .float 1, .int (X.2 ((nI (6 * k)) + 1).toNatClampNeg), .ref 382, .int r] h1 i_274_348 rfl ?_
  refine wp_s 350 [some (.float 1), some (.ref 0), some (.ref 382), some (.int (nI (6 * k)))] [.int (2), .int (nI (6 * k)), .float 1, .int (X.2 ((nI (6 * k)) + 1).toNatClampNeg), .ref 382, .int r] h1 i_274_349 rfl ?_
  refine wp_s 351 [some (.float 1), some (.ref 0), some (.ref 382), some (.int (nI (6 * k)))] [.int ((nI (6 * k)) + 2), .float 1, .int (X.2 ((nI (6 * k)) + 1).toNatClampNeg), .ref 382, .int r] h1 i_274_350 rfl ?_
  refine wp_sld 352 rfl i_274_351 (aIn_sc2 hk hL) ?_
  refine wp_callV (d := 99) 355 rfl i_274_352 (by decide) rfl (vs := [.int (X.2 ((nI (6 * k)) + 1).toNatClampNeg), .int (X.2 ((nI (6 * k)) + 2).toNatClampNeg)]) (rest := [.int r]) rfl rfl rfl hB (y := m_201) rfl (Nat.le_of_ble_eq_true rfl) (hq.deep (by decide)) ?_
  intro v h2 hq2
  obtain ⟨rfl, hI2⟩ := hq2
  refine wp_br (b := decide (r = r)) 1160 358 [some (.float 1), some (.ref 0), some (.ref 382), some (.int (nI (6 * k)))] [] h2 i_274_355 rfl (fun _ => ?_) (fun z => absurd rfl (of_decide_eq_false z))
  refine wp_s 1163 [some (.float 1), some (.ref 0), some (.ref 382), some (.int ((nI (6 * k)) + 6))] [] h2 i_274_1160 rfl ?_
  refine wp_s 18 [some (.float 1), some (.ref 0), some (.ref 382), some (.int ((nI (6 * k)) + 6))] [] h2 i_274_1163 rfl ?_
  exact nxt h2 hI2
set_option maxHeartbeats 4000000 in
set_option maxRecDepth 100000 in
theorem law_c6 {X : aX} {I : Nat → aH → Prop} {k : Nat} {h : aH} {fs : List Value} (hL : X.1 ≤ 3072) (hstep : ∀ k h, 6 * k + 6 ≤ X.1 → I k h → aSteps X (I (k + 1)) h) (hk : 6 * k + 6 ≤ X.1) (hI : I k h) (h0 : h[0]? = some (.inr (11, fs))) {Q : Option Value → aH → Prop} (nxt : ∀ h2, I (k + 1) h2 → aWp X 100 274 18 [some (.float 1), some (.ref 0), some (.ref 382), some (.int (nI (6 * k) + 6))] [] h2 Q) : aWp X 100 274 360 [some (.float 1), some (.ref 0), some (.ref 382), some (.int (nI (6 * k)))] [] h Q := by
  refine wp_s 361 [some (.float 1), some (.ref 0), some (.ref 382), some (.int (nI (6 * k)))] [.ref 0] h i_274_360 rfl ?_
  refine wp_s 362 [some (.float 1), some (.ref 0), some (.ref 382), some (.int (nI (6 * k)))] [.float 1, .ref 0] h i_274_361 rfl ?_
  refine wp_s 363 [some (.float 1), some (.ref 0), some (.ref 382), some (.int (nI (6 * k)))] [.int (nI (6 * k)), .float 1, .ref 0] h i_274_362 rfl ?_
  refine wp_s 364 [some (.float 1), some (.ref 0), some (.ref 382), some (.int (nI (6 * k)))] [.int (1), .int (nI (6 * k)), .float 1, .ref 0] h i_274_363 rfl ?_
  refine wp_s 365 [some (.float 1), some (.ref 0), some (.ref 382), some (.int (nI (6 * k)))] [.int ((nI (6 * k)) + 1), .float 1, .ref 0] h i_274_364 rfl ?_
  refine wp_sld 366 rfl i_274_365 (aIn_sc1 hk hL) ?_
  refine wp_s 367 [some (.float 1), some (.ref 0), some (.ref 382), some (.int (nI (6 * k)))] [.float 1, .int (X.2 ((nI (6 * k)) + 1).toNatClampNeg), .ref 0] h i_274_366 rfl ?_
  refine wp_s 368 [some (.float 1), some (.ref 0), some (.ref 382), some (.int (nI (6 * k)))] [.int (nI (6 * k)), .float 1, .int (X.2 ((nI (6 * k)) + 1).toNatClampNeg), .ref 0] h i_274_367 rfl ?_
  refine wp_s 369 [some (.float 1), some (.ref 0), some (.ref 382), some (.int (nI (6 * k)))] [.int (2), .int (nI (6 * k)), .float 1, .int (X.2 ((nI (6 * k)) + 1).toNatClampNeg), .ref 0] h i_274_368 rfl ?_
  refine wp_s 370 [some (.float 1), some (.ref 0), some (.ref 382), some (.int (nI (6 * k)))] [.int ((nI (6 * k)) + 2), .float 1, .int (X.2 ((nI (6 * k)) + 1).toNatClampNeg), .ref 0] h i_274_369 rfl ?_
  refine wp_sld 371 rfl i_274_370 (aIn_sc2 hk hL) ?_
  have hc := (hstep k h hk hI).2.2.2.2.2.2.1 ((X.2 ((nI (6 * k)) + 1).toNatClampNeg)) ((X.2 ((nI (6 * k)) + 2).toNatClampNeg))
  refine wp_callV (d := 99) 374 rfl i_274_371 (by decide) rfl (vs := [.int (X.2 ((nI (6 * k)) + 1).toNatClampNeg), .int (X.2 ((nI (6 * k)) + 2).toNatClampNeg)]) (rest := []) rfl rfl rfl h0 (y := m_108) rfl (Nat.le_of_ble_eq_true rfl) (hc.deep (by decide)) ?_
  intro v h1 hq
  obtain ⟨r, gs, rfl, hB, hq⟩ := hq
  refine wp_s 375 [some (.float 1), some (.ref 0), some (.ref 382), some (.int (nI (6 * k)))] [.ref 382, .int r] h1 i_274_374 rfl ?_
  refine wp_s 376 [some (.float 1), some (.ref 0), some (.ref 382), some (.int (nI (6 * k)))] [.float 1, .ref 382, .int r] h1 i_274_375 rfl ?_
  refine wp_s 377 [some (.float 1), some (.ref 0), some (.ref 382), some (.int (nI (6 * k)))] [.int (nI (6 * k)), .float 1, .ref 382, .int r] h1 i_274_376 rfl ?_
  refine wp_s 378 [some (.float 1), some (.ref 0), some (.ref 382), some (.int (nI (6 * k)))] [.int (1), .int (nI (6 * k)), .float 1, .ref 382, .int r] h1 i_274_377 rfl ?_
  refine wp_s 379 [some (.float 1), some (.ref 0), some (.ref 382), some (.int (nI (6 * k)))] [.int ((nI (6 * k)) + 1), .float 1, .ref 382, .int r] h1 i_274_378 rfl ?_
  refine wp_sld 380 rfl i_274_379 (aIn_sc1 hk hL) ?_
  refine wp_s 381 [some (.float 1), some (.ref 0), some (.ref 382), some (.int (nI (6 * k)))] [.float 1, .int (X.2 ((nI (6 * k)) + 1).toNatClampNeg), .ref 382, .int r] h1 i_274_380 rfl ?_
  refine wp_s 382 [some (.float 1), some (.ref 0), some (.ref 382), some (.int (nI (6 * k)))] [.int (nI (6 * k)), .float 1, .int (X.2 ((nI (6 * k)) + 1).toNatClampNeg), .ref 382, .int r] h1 i_274_381 rfl ?_
  refine wp_s 383 [some (.float 1), some (.ref 0), some (.ref 382), some (.int (nI (6 * k)))] [.int (2), .int (nI (6 * k)), .float 1, .int (X.2 ((nI (6 * k)) + 1).toNatClampNeg), .ref 382, .int r] h1 i_274_382 rfl ?_
  refine wp_s 384 [some (.float 1), some (.ref 0), some (.ref 382), some (.int (nI (6 * k)))] [.int ((nI (6 * k)) + 2), .float 1, .int (X.2 ((nI (6 * k)) + 1).toNatClampNeg), .ref 382, .int r] h1 i_274_383 rfl ?_
  refine wp_sld 385 rfl i_274_384 (aIn_sc2 hk hL) ?_
  refine wp_callV (d := 99) 388 rfl i_274_385 (by decide) rfl (vs := [.int (X.2 ((nI (6 * k)) + 1).toNatClampNeg), .int (X.2 ((nI (6 * k)) + 2).toNatClampNeg)]) (rest := [.int r]) rfl rfl rfl hB (y := m_203) rfl (Nat.le_of_ble_eq_true rfl) (hq.deep (by decide)) ?_
  intro v h2 hq2
  obtain ⟨rfl, hI2⟩ := hq2
  refine wp_br (b := decide (r = r)) 1160 391 [some (.float 1), some (.ref 0), some (.ref 382), some (.int (nI (6 * k)))] [] h2 i_274_388 rfl (fun _ => ?_) (fun z => absurd rfl (of_decide_eq_false z))
  refine wp_s 1163 [some (.float 1), some (.ref 0), some (.ref 382), some (.int ((nI (6 * k)) + 6))] [] h2 i_274_1160 rfl ?_
  refine wp_s 18 [some (.float 1), some (.ref 0), some (.ref 382), some (.int ((nI (6 * k)) + 6))] [] h2 i_274_1163 rfl ?_
  exact nxt h2 hI2
set_option maxHeartbeats 4000000 in
set_option maxRecDepth 100000 in
theorem law_c7 {X : aX} {I : Nat → aH → Prop} {k : Nat} {h : aH} {fs : List Value} (hL : X.1 ≤ 3072) (hstep : ∀ k h, 6 * k + 6 ≤ X.1 → I k h → aSteps X (I (k + 1)) h) (hk : 6 * k + 6 ≤ X.1) (hI : I k h) (h0 : h[0]? = some (.inr (11, fs))) {Q : Option Value → aH → Prop} (nxt : ∀ h2, I (k + 1) h2 → aWp X 100 274 18 [some (.float 1), some (.ref 0), some (.ref 382), some (.int (nI (6 * k) + 6))] [] h2 Q) : aWp X 100 274 393 [some (.float 1), some (.ref 0), some (.ref 382), some (.int (nI (6 * k)))] [] h Q := by
  refine wp_s 394 [some (.float 1), some (.ref 0), some (.ref 382), some (.int (nI (6 * k)))] [.ref 0] h i_274_393 rfl ?_
  refine wp_s 395 [some (.float 1), some (.ref 0), some (.ref 382), some (.int (nI (6 * k)))] [.float 1, .ref 0] h i_274_394 rfl ?_
  refine wp_s 396 [some (.float 1), some (.ref 0), some (.ref 382), some (.int (nI (6 * k)))] [.int (nI (6 * k)), .float 1, .ref 0] h i_274_395 rfl ?_
  refine wp_s 397 [some (.float 1), some (.ref 0), some (.ref 382), some (.int (nI (6 * k)))] [.int (1), .int (nI (6 * k)), .float 1, .ref 0] h i_274_396 rfl ?_
  refine wp_s 398 [some (.float 1), some (.ref 0), some (.ref 382), some (.int (nI (6 * k)))] [.int ((nI (6 * k)) + 1), .float 1, .ref 0] h i_274_397 rfl ?_
  refine wp_sld 399 rfl i_274_398 (aIn_sc1 hk hL) ?_
  refine wp_s 400 [some (.float 1), some (.ref 0), some (.ref 382), some (.int (nI (6 * k)))] [.float 1, .int (X.2 ((nI (6 * k)) + 1).toNatClampNeg), .ref 0] h i_274_399 rfl ?_
  refine wp_s 401 [some (.float 1), some (.ref 0), some (.ref 382), some (.int (nI (6 * k)))] [.int (nI (6 * k)), .float 1, .int (X.2 ((nI (6 * k)) + 1).toNatClampNeg), .ref 0] h i_274_400 rfl ?_
  refine wp_s 402 [some (.float 1), some (.ref 0), some (.ref 382), some (.int (nI (6 * k)))] [.int (2), .int (nI (6 * k)), .float 1, .int (X.2 ((nI (6 * k)) + 1).toNatClampNeg), .ref 0] h i_274_401 rfl ?_
  refine wp_s 403 [some (.float 1), some (.ref 0), some (.ref 382), some (.int (nI (6 * k)))] [.int ((nI (6 * k)) + 2), .float 1, .int (X.2 ((nI (6 * k)) + 1).toNatClampNeg), .ref 0] h i_274_402 rfl ?_
  refine wp_sld 404 rfl i_274_403 (aIn_sc2 hk hL) ?_
  have hc := (hstep k h hk hI).2.2.2.2.2.2.2.1 ((X.2 ((nI (6 * k)) + 1).toNatClampNeg)) ((X.2 ((nI (6 * k)) + 2).toNatClampNeg))
  refine wp_callV (d := 99) 407 rfl i_274_404 (by decide) rfl (vs := [.int (X.2 ((nI (6 * k)) + 1).toNatClampNeg), .int (X.2 ((nI (6 * k)) + 2).toNatClampNeg)]) (rest := []) rfl rfl rfl h0 (y := m_109) rfl (Nat.le_of_ble_eq_true rfl) (hc.deep (by decide)) ?_
  intro v h1 hq
  obtain ⟨r, gs, rfl, hB, hq⟩ := hq
  refine wp_s 408 [some (.float 1), some (.ref 0), some (.ref 382), some (.int (nI (6 * k)))] [.ref 382, .int r] h1 i_274_407 rfl ?_
  refine wp_s 409 [some (.float 1), some (.ref 0), some (.ref 382), some (.int (nI (6 * k)))] [.float 1, .ref 382, .int r] h1 i_274_408 rfl ?_
  refine wp_s 410 [some (.float 1), some (.ref 0), some (.ref 382), some (.int (nI (6 * k)))] [.int (nI (6 * k)), .float 1, .ref 382, .int r] h1 i_274_409 rfl ?_
  refine wp_s 411 [some (.float 1), some (.ref 0), some (.ref 382), some (.int (nI (6 * k)))] [.int (1), .int (nI (6 * k)), .float 1, .ref 382, .int r] h1 i_274_410 rfl ?_
  refine wp_s 412 [some (.float 1), some (.ref 0), some (.ref 382), some (.int (nI (6 * k)))] [.int ((nI (6 * k)) + 1), .float 1, .ref 382, .int r] h1 i_274_411 rfl ?_
  refine wp_sld 413 rfl i_274_412 (aIn_sc1 hk hL) ?_
  refine wp_s 414 [some (.float 1), some (.ref 0), some (.ref 382), some (.int (nI (6 * k)))] [.float 1, .int (X.2 ((nI (6 * k)) + 1).toNatClampNeg), .ref 382, .int r] h1 i_274_413 rfl ?_
  refine wp_s 415 [some (.float 1), some (.ref 0), some (.ref 382), some (.int (nI (6 * k)))] [.int (nI (6 * k)), .float 1, .int (X.2 ((nI (6 * k)) + 1).toNatClampNeg), .ref 382, .int r] h1 i_274_414 rfl ?_
  refine wp_s 416 [some (.float 1), some (.ref 0), some (.ref 382), some (.int (nI (6 * k)))] [.int (2), .int (nI (6 * k)), .float 1, .int (X.2 ((nI (6 * k)) + 1).toNatClampNeg), .ref 382, .int r] h1 i_274_415 rfl ?_
  refine wp_s 417 [some (.float 1), some (.ref 0), some (.ref 382), some (.int (nI (6 * k)))] [.int ((nI (6 * k)) + 2), .float 1, .int (X.2 ((nI (6 * k)) + 1).toNatClampNeg), .ref 382, .int r] h1 i_274_416 rfl ?_
  refine wp_sld 418 rfl i_274_417 (aIn_sc2 hk hL) ?_
  refine wp_callV (d := 99) 421 rfl i_274_418 (by decide) rfl (vs := [.int (X.2 ((nI (6 * k)) + 1).toNatClampNeg), .int (X.2 ((nI (6 * k)) + 2).toNatClampNeg)]) (rest := [.int r]) rfl rfl rfl hB (y := m_204) rfl (Nat.le_of_ble_eq_true rfl) (hq.deep (by decide)) ?_
  intro v h2 hq2
  obtain ⟨rfl, hI2⟩ := hq2
  refine wp_br (b := decide (r = r)) 1160 424 [some (.float 1), some (.ref 0), some (.ref 382), some (.int (nI (6 * k)))] [] h2 i_274_421 rfl (fun _ => ?_) (fun z => absurd rfl (of_decide_eq_false z))
  refine wp_s 1163 [some (.float 1), some (.ref 0), some (.ref 382), some (.int ((nI (6 * k)) + 6))] [] h2 i_274_1160 rfl ?_
  refine wp_s 18 [some (.float 1), some (.ref 0), some (.ref 382), some (.int ((nI (6 * k)) + 6))] [] h2 i_274_1163 rfl ?_
  exact nxt h2 hI2
set_option maxHeartbeats 4000000 in
set_option maxRecDepth 100000 in
theorem law_c8 {X : aX} {I : Nat → aH → Prop} {k : Nat} {h : aH} {fs : List Value} (hL : X.1 ≤ 3072) (hstep : ∀ k h, 6 * k + 6 ≤ X.1 → I k h → aSteps X (I (k + 1)) h) (hk : 6 * k + 6 ≤ X.1) (hI : I k h) (h0 : h[0]? = some (.inr (11, fs))) {Q : Option Value → aH → Prop} (nxt : ∀ h2, I (k + 1) h2 → aWp X 100 274 18 [some (.float 1), some (.ref 0), some (.ref 382), some (.int (nI (6 * k) + 6))] [] h2 Q) : aWp X 100 274 426 [some (.float 1), some (.ref 0), some (.ref 382), some (.int (nI (6 * k)))] [] h Q := by
  refine wp_s 427 [some (.float 1), some (.ref 0), some (.ref 382), some (.int (nI (6 * k)))] [.ref 0] h i_274_426 rfl ?_
  refine wp_s 428 [some (.float 1), some (.ref 0), some (.ref 382), some (.int (nI (6 * k)))] [.float 1, .ref 0] h i_274_427 rfl ?_
  refine wp_s 429 [some (.float 1), some (.ref 0), some (.ref 382), some (.int (nI (6 * k)))] [.int (nI (6 * k)), .float 1, .ref 0] h i_274_428 rfl ?_
  refine wp_s 430 [some (.float 1), some (.ref 0), some (.ref 382), some (.int (nI (6 * k)))] [.int (1), .int (nI (6 * k)), .float 1, .ref 0] h i_274_429 rfl ?_
  refine wp_s 431 [some (.float 1), some (.ref 0), some (.ref 382), some (.int (nI (6 * k)))] [.int ((nI (6 * k)) + 1), .float 1, .ref 0] h i_274_430 rfl ?_
  refine wp_sld 432 rfl i_274_431 (aIn_sc1 hk hL) ?_
  refine wp_s 433 [some (.float 1), some (.ref 0), some (.ref 382), some (.int (nI (6 * k)))] [.float 1, .int (X.2 ((nI (6 * k)) + 1).toNatClampNeg), .ref 0] h i_274_432 rfl ?_
  refine wp_s 434 [some (.float 1), some (.ref 0), some (.ref 382), some (.int (nI (6 * k)))] [.int (nI (6 * k)), .float 1, .int (X.2 ((nI (6 * k)) + 1).toNatClampNeg), .ref 0] h i_274_433 rfl ?_
  refine wp_s 435 [some (.float 1), some (.ref 0), some (.ref 382), some (.int (nI (6 * k)))] [.int (2), .int (nI (6 * k)), .float 1, .int (X.2 ((nI (6 * k)) + 1).toNatClampNeg), .ref 0] h i_274_434 rfl ?_
  refine wp_s 436 [some (.float 1), some (.ref 0), some (.ref 382), some (.int (nI (6 * k)))] [.int ((nI (6 * k)) + 2), .float 1, .int (X.2 ((nI (6 * k)) + 1).toNatClampNeg), .ref 0] h i_274_435 rfl ?_
  refine wp_sld 437 rfl i_274_436 (aIn_sc2 hk hL) ?_
  refine wp_s 438 [some (.float 1), some (.ref 0), some (.ref 382), some (.int (nI (6 * k)))] [.float 1, .int (X.2 ((nI (6 * k)) + 2).toNatClampNeg), .int (X.2 ((nI (6 * k)) + 1).toNatClampNeg), .ref 0] h i_274_437 rfl ?_
  refine wp_s 439 [some (.float 1), some (.ref 0), some (.ref 382), some (.int (nI (6 * k)))] [.int (nI (6 * k)), .float 1, .int (X.2 ((nI (6 * k)) + 2).toNatClampNeg), .int (X.2 ((nI (6 * k)) + 1).toNatClampNeg), .ref 0] h i_274_438 rfl ?_
  refine wp_s 440 [some (.float 1), some (.ref 0), some (.ref 382), some (.int (nI (6 * k)))] [.int (3), .int (nI (6 * k)), .float 1, .int (X.2 ((nI (6 * k)) + 2).toNatClampNeg), .int (X.2 ((nI (6 * k)) + 1).toNatClampNeg), .ref 0] h i_274_439 rfl ?_
  refine wp_s 441 [some (.float 1), some (.ref 0), some (.ref 382), some (.int (nI (6 * k)))] [.int ((nI (6 * k)) + 3), .float 1, .int (X.2 ((nI (6 * k)) + 2).toNatClampNeg), .int (X.2 ((nI (6 * k)) + 1).toNatClampNeg), .ref 0] h i_274_440 rfl ?_
  refine wp_sld 442 rfl i_274_441 (aIn_sc3 hk hL) ?_
  have hc := (hstep k h hk hI).2.2.2.2.2.2.2.2.1 ((X.2 ((nI (6 * k)) + 1).toNatClampNeg)) ((X.2 ((nI (6 * k)) + 2).toNatClampNeg)) ((X.2 ((nI (6 * k)) + 3).toNatClampNeg))
  refine wp_callV (d := 99) 445 rfl i_274_442 (by decide) rfl (vs := [.int (X.2 ((nI (6 * k)) + 1).toNatClampNeg), .int (X.2 ((nI (6 * k)) + 2).toNatClampNeg), .int (X.2 ((nI (6 * k)) + 3).toNatClampNeg)]) (rest := []) rfl rfl rfl h0 (y := m_110) rfl (Nat.le_of_ble_eq_true rfl) (hc.deep (by decide)) ?_
  intro v h1 hq
  obtain ⟨r, gs, rfl, hB, hq⟩ := hq
  refine wp_s 446 [some (.float 1), some (.ref 0), some (.ref 382), some (.int (nI (6 * k)))] [.ref 382, .int r] h1 i_274_445 rfl ?_
  refine wp_s 447 [some (.float 1), some (.ref 0), some (.ref 382), some (.int (nI (6 * k)))] [.float 1, .ref 382, .int r] h1 i_274_446 rfl ?_
  refine wp_s 448 [some (.float 1), some (.ref 0), some (.ref 382), some (.int (nI (6 * k)))] [.int (nI (6 * k)), .float 1, .ref 382, .int r] h1 i_274_447 rfl ?_
  refine wp_s 449 [some (.float 1), some (.ref 0), some (.ref 382), some (.int (nI (6 * k)))] [.int (1), .int (nI (6 * k)), .float 1, .ref 382, .int r] h1 i_274_448 rfl ?_
  refine wp_s 450 [some (.float 1), some (.ref 0), some (.ref 382), some (.int (nI (6 * k)))] [.int ((nI (6 * k)) + 1), .float 1, .ref 382, .int r] h1 i_274_449 rfl ?_
  refine wp_sld 451 rfl i_274_450 (aIn_sc1 hk hL) ?_
  refine wp_s 452 [some (.float 1), some (.ref 0), some (.ref 382), some (.int (nI (6 * k)))] [.float 1, .int (X.2 ((nI (6 * k)) + 1).toNatClampNeg), .ref 382, .int r] h1 i_274_451 rfl ?_
  refine wp_s 453 [some (.float 1), some (.ref 0), some (.ref 382), some (.int (nI (6 * k)))] [.int (nI (6 * k)), .float 1, .int (X.2 ((nI (6 * k)) + 1).toNatClampNeg), .ref 382, .int r] h1 i_274_452 rfl ?_
  refine wp_s 454 [some (.float 1), some (.ref 0), some (.ref 382), some (.int (nI (6 * k)))] [.int (2), .int (nI (6 * k)), .float 1, .int (X.2 ((nI (6 * k)) + 1).toNatClampNeg), .ref 382, .int r] h1 i_274_453 rfl ?_
  refine wp_s 455 [some (.float 1), some (.ref 0), some (.ref 382), some (.int (nI (6 * k)))] [.int ((nI (6 * k)) + 2), .float 1, .int (X.2 ((nI (6 * k)) + 1).toNatClampNeg), .ref 382, .int r] h1 i_274_454 rfl ?_
  refine wp_sld 456 rfl i_274_455 (aIn_sc2 hk hL) ?_
  refine wp_s 457 [some (.float 1), some (.ref 0), some (.ref 382), some (.int (nI (6 * k)))] [.float 1, .int (X.2 ((nI (6 * k)) + 2).toNatClampNeg), .int (X.2 ((nI (6 * k)) + 1).toNatClampNeg), .ref 382, .int r] h1 i_274_456 rfl ?_
  refine wp_s 458 [some (.float 1), some (.ref 0), some (.ref 382), some (.int (nI (6 * k)))] [.int (nI (6 * k)), .float 1, .int (X.2 ((nI (6 * k)) + 2).toNatClampNeg), .int (X.2 ((nI (6 * k)) + 1).toNatClampNeg), .ref 382, .int r] h1 i_274_457 rfl ?_
  refine wp_s 459 [some (.float 1), some (.ref 0), some (.ref 382), some (.int (nI (6 * k)))] [.int (3), .int (nI (6 * k)), .float 1, .int (X.2 ((nI (6 * k)) + 2).toNatClampNeg), .int (X.2 ((nI (6 * k)) + 1).toNatClampNeg), .ref 382, .int r] h1 i_274_458 rfl ?_
  refine wp_s 460 [some (.float 1), some (.ref 0), some (.ref 382), some (.int (nI (6 * k)))] [.int ((nI (6 * k)) + 3), .float 1, .int (X.2 ((nI (6 * k)) + 2).toNatClampNeg), .int (X.2 ((nI (6 * k)) + 1).toNatClampNeg), .ref 382, .int r] h1 i_274_459 rfl ?_
  refine wp_sld 461 rfl i_274_460 (aIn_sc3 hk hL) ?_
  refine wp_callV (d := 99) 464 rfl i_274_461 (by decide) rfl (vs := [.int (X.2 ((nI (6 * k)) + 1).toNatClampNeg), .int (X.2 ((nI (6 * k)) + 2).toNatClampNeg), .int (X.2 ((nI (6 * k)) + 3).toNatClampNeg)]) (rest := [.int r]) rfl rfl rfl hB (y := m_205) rfl (Nat.le_of_ble_eq_true rfl) (hq.deep (by decide)) ?_
  intro v h2 hq2
  obtain ⟨rfl, hI2⟩ := hq2
  refine wp_br (b := decide (r = r)) 1160 467 [some (.float 1), some (.ref 0), some (.ref 382), some (.int (nI (6 * k)))] [] h2 i_274_464 rfl (fun _ => ?_) (fun z => absurd rfl (of_decide_eq_false z))
  refine wp_s 1163 [some (.float 1), some (.ref 0), some (.ref 382), some (.int ((nI (6 * k)) + 6))] [] h2 i_274_1160 rfl ?_
  refine wp_s 18 [some (.float 1), some (.ref 0), some (.ref 382), some (.int ((nI (6 * k)) + 6))] [] h2 i_274_1163 rfl ?_
  exact nxt h2 hI2
set_option maxHeartbeats 4000000 in
set_option maxRecDepth 100000 in
theorem law_c9 {X : aX} {I : Nat → aH → Prop} {k : Nat} {h : aH} {fs : List Value} (hL : X.1 ≤ 3072) (hstep : ∀ k h, 6 * k + 6 ≤ X.1 → I k h → aSteps X (I (k + 1)) h) (hk : 6 * k + 6 ≤ X.1) (hI : I k h) (h0 : h[0]? = some (.inr (11, fs))) {Q : Option Value → aH → Prop} (nxt : ∀ h2, I (k + 1) h2 → aWp X 100 274 18 [some (.float 1), some (.ref 0), some (.ref 382), some (.int (nI (6 * k) + 6))] [] h2 Q) : aWp X 100 274 469 [some (.float 1), some (.ref 0), some (.ref 382), some (.int (nI (6 * k)))] [] h Q := by
  refine wp_s 470 [some (.float 1), some (.ref 0), some (.ref 382), some (.int (nI (6 * k)))] [.ref 0] h i_274_469 rfl ?_
  refine wp_s 471 [some (.float 1), some (.ref 0), some (.ref 382), some (.int (nI (6 * k)))] [.float 1, .ref 0] h i_274_470 rfl ?_
  refine wp_s 472 [some (.float 1), some (.ref 0), some (.ref 382), some (.int (nI (6 * k)))] [.int (nI (6 * k)), .float 1, .ref 0] h i_274_471 rfl ?_
  refine wp_s 473 [some (.float 1), some (.ref 0), some (.ref 382), some (.int (nI (6 * k)))] [.int (1), .int (nI (6 * k)), .float 1, .ref 0] h i_274_472 rfl ?_
  refine wp_s 474 [some (.float 1), some (.ref 0), some (.ref 382), some (.int (nI (6 * k)))] [.int ((nI (6 * k)) + 1), .float 1, .ref 0] h i_274_473 rfl ?_
  refine wp_sld 475 rfl i_274_474 (aIn_sc1 hk hL) ?_
  have hc := (hstep k h hk hI).2.2.2.2.2.2.2.2.2.1 ((X.2 ((nI (6 * k)) + 1).toNatClampNeg))
  refine wp_callV (d := 99) 478 rfl i_274_475 (by decide) rfl (vs := [.int (X.2 ((nI (6 * k)) + 1).toNatClampNeg)]) (rest := []) rfl rfl rfl h0 (y := m_111) rfl (Nat.le_of_ble_eq_true rfl) (hc.deep (by decide)) ?_
  intro v h1 hq
  obtain ⟨r, gs, rfl, hB, hq⟩ := hq
  refine wp_s 479 [some (.float 1), some (.ref 0), some (.ref 382), some (.int (nI (6 * k)))] [.ref 382, .int r] h1 i_274_478 rfl ?_
  refine wp_s 480 [some (.float 1), some (.ref 0), some (.ref 382), some (.int (nI (6 * k)))] [.float 1, .ref 382, .int r] h1 i_274_479 rfl ?_
  refine wp_s 481 [some (.float 1), some (.ref 0), some (.ref 382), some (.int (nI (6 * k)))] [.int (nI (6 * k)), .float 1, .ref 382, .int r] h1 i_274_480 rfl ?_
  refine wp_s 482 [some (.float 1), some (.ref 0), some (.ref 382), some (.int (nI (6 * k)))] [.int (1), .int (nI (6 * k)), .float 1, .ref 382, .int r] h1 i_274_481 rfl ?_
  refine wp_s 483 [some (.float 1), some (.ref 0), some (.ref 382), some (.int (nI (6 * k)))] [.int ((nI (6 * k)) + 1), .float 1, .ref 382, .int r] h1 i_274_482 rfl ?_
  refine wp_sld 484 rfl i_274_483 (aIn_sc1 hk hL) ?_
  refine wp_callV (d := 99) 487 rfl i_274_484 (by decide) rfl (vs := [.int (X.2 ((nI (6 * k)) + 1).toNatClampNeg)]) (rest := [.int r]) rfl rfl rfl hB (y := m_213) rfl (Nat.le_of_ble_eq_true rfl) (hq.deep (by decide)) ?_
  intro v h2 hq2
  obtain ⟨rfl, hI2⟩ := hq2
  refine wp_br (b := decide (r = r)) 1160 490 [some (.float 1), some (.ref 0), some (.ref 382), some (.int (nI (6 * k)))] [] h2 i_274_487 rfl (fun _ => ?_) (fun z => absurd rfl (of_decide_eq_false z))
  refine wp_s 1163 [some (.float 1), some (.ref 0), some (.ref 382), some (.int ((nI (6 * k)) + 6))] [] h2 i_274_1160 rfl ?_
  refine wp_s 18 [some (.float 1), some (.ref 0), some (.ref 382), some (.int ((nI (6 * k)) + 6))] [] h2 i_274_1163 rfl ?_
  exact nxt h2 hI2
set_option maxHeartbeats 4000000 in
set_option maxRecDepth 100000 in
theorem law_c10 {X : aX} {I : Nat → aH → Prop} {k : Nat} {h : aH} {fs : List Value} (hL : X.1 ≤ 3072) (hstep : ∀ k h, 6 * k + 6 ≤ X.1 → I k h → aSteps X (I (k + 1)) h) (hk : 6 * k + 6 ≤ X.1) (hI : I k h) (h0 : h[0]? = some (.inr (11, fs))) {Q : Option Value → aH → Prop} (nxt : ∀ h2, I (k + 1) h2 → aWp X 100 274 18 [some (.float 1), some (.ref 0), some (.ref 382), some (.int (nI (6 * k) + 6))] [] h2 Q) : aWp X 100 274 492 [some (.float 1), some (.ref 0), some (.ref 382), some (.int (nI (6 * k)))] [] h Q := by
  refine wp_s 493 [some (.float 1), some (.ref 0), some (.ref 382), some (.int (nI (6 * k)))] [.ref 0] h i_274_492 rfl ?_
  refine wp_s 494 [some (.float 1), some (.ref 0), some (.ref 382), some (.int (nI (6 * k)))] [.float 1, .ref 0] h i_274_493 rfl ?_
  refine wp_s 495 [some (.float 1), some (.ref 0), some (.ref 382), some (.int (nI (6 * k)))] [.int (nI (6 * k)), .float 1, .ref 0] h i_274_494 rfl ?_
  refine wp_s 496 [some (.float 1), some (.ref 0), some (.ref 382), some (.int (nI (6 * k)))] [.int (1), .int (nI (6 * k)), .float 1, .ref 0] h i_274_495 rfl ?_
  refine wp_s 497 [some (.float 1), some (.ref 0), some (.ref 382), some (.int (nI (6 * k)))] [.int ((nI (6 * k)) + 1), .float 1, .ref 0] h i_274_496 rfl ?_
  refine wp_sld 498 rfl i_274_497 (aIn_sc1 hk hL) ?_
  have hc := (hstep k h hk hI).2.2.2.2.2.2.2.2.2.2.1 ((X.2 ((nI (6 * k)) + 1).toNatClampNeg))
  refine wp_callV (d := 99) 501 rfl i_274_498 (by decide) rfl (vs := [.int (X.2 ((nI (6 * k)) + 1).toNatClampNeg)]) (rest := []) rfl rfl rfl h0 (y := m_112) rfl (Nat.le_of_ble_eq_true rfl) (hc.deep (by decide)) ?_
  intro v h1 hq
  obtain ⟨r, gs, rfl, hB, hq⟩ := hq
  refine wp_s 502 [some (.float 1), some (.ref 0), some (.ref 382), some (.int (nI (6 * k)))] [.ref 382, .int r] h1 i_274_501 rfl ?_
  refine wp_s 503 [some (.float 1), some (.ref 0), some (.ref 382), some (.int (nI (6 * k)))] [.float 1, .ref 382, .int r] h1 i_274_502 rfl ?_
  refine wp_s 504 [some (.float 1), some (.ref 0), some (.ref 382), some (.int (nI (6 * k)))] [.int (nI (6 * k)), .float 1, .ref 382, .int r] h1 i_274_503 rfl ?_
  refine wp_s 505 [some (.float 1), some (.ref 0), some (.ref 382), some (.int (nI (6 * k)))] [.int (1), .int (nI (6 * k)), .float 1, .ref 382, .int r] h1 i_274_504 rfl ?_
  refine wp_s 506 [some (.float 1), some (.ref 0), some (.ref 382), some (.int (nI (6 * k)))] [.int ((nI (6 * k)) + 1), .float 1, .ref 382, .int r] h1 i_274_505 rfl ?_
  refine wp_sld 507 rfl i_274_506 (aIn_sc1 hk hL) ?_
  refine wp_callV (d := 99) 510 rfl i_274_507 (by decide) rfl (vs := [.int (X.2 ((nI (6 * k)) + 1).toNatClampNeg)]) (rest := [.int r]) rfl rfl rfl hB (y := m_218) rfl (Nat.le_of_ble_eq_true rfl) (hq.deep (by decide)) ?_
  intro v h2 hq2
  obtain ⟨rfl, hI2⟩ := hq2
  refine wp_br (b := decide (r = r)) 1160 513 [some (.float 1), some (.ref 0), some (.ref 382), some (.int (nI (6 * k)))] [] h2 i_274_510 rfl (fun _ => ?_) (fun z => absurd rfl (of_decide_eq_false z))
  refine wp_s 1163 [some (.float 1), some (.ref 0), some (.ref 382), some (.int ((nI (6 * k)) + 6))] [] h2 i_274_1160 rfl ?_
  refine wp_s 18 [some (.float 1), some (.ref 0), some (.ref 382), some (.int ((nI (6 * k)) + 6))] [] h2 i_274_1163 rfl ?_
  exact nxt h2 hI2
set_option maxHeartbeats 4000000 in
set_option maxRecDepth 100000 in
theorem law_c11 {X : aX} {I : Nat → aH → Prop} {k : Nat} {h : aH} {fs : List Value} (hL : X.1 ≤ 3072) (hstep : ∀ k h, 6 * k + 6 ≤ X.1 → I k h → aSteps X (I (k + 1)) h) (hk : 6 * k + 6 ≤ X.1) (hI : I k h) (h0 : h[0]? = some (.inr (11, fs))) {Q : Option Value → aH → Prop} (nxt : ∀ h2, I (k + 1) h2 → aWp X 100 274 18 [some (.float 1), some (.ref 0), some (.ref 382), some (.int (nI (6 * k) + 6))] [] h2 Q) : aWp X 100 274 515 [some (.float 1), some (.ref 0), some (.ref 382), some (.int (nI (6 * k)))] [] h Q := by
  refine wp_s 516 [some (.float 1), some (.ref 0), some (.ref 382), some (.int (nI (6 * k)))] [.ref 0] h i_274_515 rfl ?_
  refine wp_s 517 [some (.float 1), some (.ref 0), some (.ref 382), some (.int (nI (6 * k)))] [.float 1, .ref 0] h i_274_516 rfl ?_
  refine wp_s 518 [some (.float 1), some (.ref 0), some (.ref 382), some (.int (nI (6 * k)))] [.int (nI (6 * k)), .float 1, .ref 0] h i_274_517 rfl ?_
  refine wp_s 519 [some (.float 1), some (.ref 0), some (.ref 382), some (.int (nI (6 * k)))] [.int (1), .int (nI (6 * k)), .float 1, .ref 0] h i_274_518 rfl ?_
  refine wp_s 520 [some (.float 1), some (.ref 0), some (.ref 382), some (.int (nI (6 * k)))] [.int ((nI (6 * k)) + 1), .float 1, .ref 0] h i_274_519 rfl ?_
  refine wp_sld 521 rfl i_274_520 (aIn_sc1 hk hL) ?_
  have hc := (hstep k h hk hI).2.2.2.2.2.2.2.2.2.2.2.1 ((X.2 ((nI (6 * k)) + 1).toNatClampNeg))
  refine wp_callV (d := 99) 524 rfl i_274_521 (by decide) rfl (vs := [.int (X.2 ((nI (6 * k)) + 1).toNatClampNeg)]) (rest := []) rfl rfl rfl h0 (y := m_113) rfl (Nat.le_of_ble_eq_true rfl) (hc.deep (by decide)) ?_
  intro v h1 hq
  obtain ⟨r, gs, rfl, hB, hq⟩ := hq
  refine wp_s 525 [some (.float 1), some (.ref 0), some (.ref 382), some (.int (nI (6 * k)))] [.ref 382, .int r] h1 i_274_524 rfl ?_
  refine wp_s 526 [some (.float 1), some (.ref 0), some (.ref 382), some (.int (nI (6 * k)))] [.float 1, .ref 382, .int r] h1 i_274_525 rfl ?_
  refine wp_s 527 [some (.float 1), some (.ref 0), some (.ref 382), some (.int (nI (6 * k)))] [.int (nI (6 * k)), .float 1, .ref 382, .int r] h1 i_274_526 rfl ?_
  refine wp_s 528 [some (.float 1), some (.ref 0), some (.ref 382), some (.int (nI (6 * k)))] [.int (1), .int (nI (6 * k)), .float 1, .ref 382, .int r] h1 i_274_527 rfl ?_
  refine wp_s 529 [some (.float 1), some (.ref 0), some (.ref 382), some (.int (nI (6 * k)))] [.int ((nI (6 * k)) + 1), .float 1, .ref 382, .int r] h1 i_274_528 rfl ?_
  refine wp_sld 530 rfl i_274_529 (aIn_sc1 hk hL) ?_
  refine wp_callV (d := 99) 533 rfl i_274_530 (by decide) rfl (vs := [.int (X.2 ((nI (6 * k)) + 1).toNatClampNeg)]) (rest := [.int r]) rfl rfl rfl hB (y := m_219) rfl (Nat.le_of_ble_eq_true rfl) (hq.deep (by decide)) ?_
  intro v h2 hq2
  obtain ⟨rfl, hI2⟩ := hq2
  refine wp_br (b := decide (r = r)) 1160 536 [some (.float 1), some (.ref 0), some (.ref 382), some (.int (nI (6 * k)))] [] h2 i_274_533 rfl (fun _ => ?_) (fun z => absurd rfl (of_decide_eq_false z))
  refine wp_s 1163 [some (.float 1), some (.ref 0), some (.ref 382), some (.int ((nI (6 * k)) + 6))] [] h2 i_274_1160 rfl ?_
  refine wp_s 18 [some (.float 1), some (.ref 0), some (.ref 382), some (.int ((nI (6 * k)) + 6))] [] h2 i_274_1163 rfl ?_
  exact nxt h2 hI2
set_option maxHeartbeats 4000000 in
set_option maxRecDepth 100000 in
theorem law_c12 {X : aX} {I : Nat → aH → Prop} {k : Nat} {h : aH} {fs : List Value} (hL : X.1 ≤ 3072) (hstep : ∀ k h, 6 * k + 6 ≤ X.1 → I k h → aSteps X (I (k + 1)) h) (hk : 6 * k + 6 ≤ X.1) (hI : I k h) (h0 : h[0]? = some (.inr (11, fs))) {Q : Option Value → aH → Prop} (nxt : ∀ h2, I (k + 1) h2 → aWp X 100 274 18 [some (.float 1), some (.ref 0), some (.ref 382), some (.int (nI (6 * k) + 6))] [] h2 Q) : aWp X 100 274 538 [some (.float 1), some (.ref 0), some (.ref 382), some (.int (nI (6 * k)))] [] h Q := by
  refine wp_s 539 [some (.float 1), some (.ref 0), some (.ref 382), some (.int (nI (6 * k)))] [.ref 0] h i_274_538 rfl ?_
  refine wp_s 540 [some (.float 1), some (.ref 0), some (.ref 382), some (.int (nI (6 * k)))] [.float 1, .ref 0] h i_274_539 rfl ?_
  refine wp_s 541 [some (.float 1), some (.ref 0), some (.ref 382), some (.int (nI (6 * k)))] [.int (nI (6 * k)), .float 1, .ref 0] h i_274_540 rfl ?_
  refine wp_s 542 [some (.float 1), some (.ref 0), some (.ref 382), some (.int (nI (6 * k)))] [.int (1), .int (nI (6 * k)), .float 1, .ref 0] h i_274_541 rfl ?_
  refine wp_s 543 [some (.float 1), some (.ref 0), some (.ref 382), some (.int (nI (6 * k)))] [.int ((nI (6 * k)) + 1), .float 1, .ref 0] h i_274_542 rfl ?_
  refine wp_sld 544 rfl i_274_543 (aIn_sc1 hk hL) ?_
  have hc := (hstep k h hk hI).2.2.2.2.2.2.2.2.2.2.2.2.1 ((X.2 ((nI (6 * k)) + 1).toNatClampNeg))
  refine wp_callV (d := 99) 547 rfl i_274_544 (by decide) rfl (vs := [.int (X.2 ((nI (6 * k)) + 1).toNatClampNeg)]) (rest := []) rfl rfl rfl h0 (y := m_114) rfl (Nat.le_of_ble_eq_true rfl) (hc.deep (by decide)) ?_
  intro v h1 hq
  obtain ⟨r, gs, rfl, hB, hq⟩ := hq
  refine wp_s 548 [some (.float 1), some (.ref 0), some (.ref 382), some (.int (nI (6 * k)))] [.ref 382, .int r] h1 i_274_547 rfl ?_
  refine wp_s 549 [some (.float 1), some (.ref 0), some (.ref 382), some (.int (nI (6 * k)))] [.float 1, .ref 382, .int r] h1 i_274_548 rfl ?_
  refine wp_s 550 [some (.float 1), some (.ref 0), some (.ref 382), some (.int (nI (6 * k)))] [.int (nI (6 * k)), .float 1, .ref 382, .int r] h1 i_274_549 rfl ?_
  refine wp_s 551 [some (.float 1), some (.ref 0), some (.ref 382), some (.int (nI (6 * k)))] [.int (1), .int (nI (6 * k)), .float 1, .ref 382, .int r] h1 i_274_550 rfl ?_
  refine wp_s 552 [some (.float 1), some (.ref 0), some (.ref 382), some (.int (nI (6 * k)))] [.int ((nI (6 * k)) + 1), .float 1, .ref 382, .int r] h1 i_274_551 rfl ?_
  refine wp_sld 553 rfl i_274_552 (aIn_sc1 hk hL) ?_
  refine wp_callV (d := 99) 556 rfl i_274_553 (by decide) rfl (vs := [.int (X.2 ((nI (6 * k)) + 1).toNatClampNeg)]) (rest := [.int r]) rfl rfl rfl hB (y := m_221) rfl (Nat.le_of_ble_eq_true rfl) (hq.deep (by decide)) ?_
  intro v h2 hq2
  obtain ⟨rfl, hI2⟩ := hq2
  refine wp_br (b := decide (r = r)) 1160 559 [some (.float 1), some (.ref 0), some (.ref 382), some (.int (nI (6 * k)))] [] h2 i_274_556 rfl (fun _ => ?_) (fun z => absurd rfl (of_decide_eq_false z))
  refine wp_s 1163 [some (.float 1), some (.ref 0), some (.ref 382), some (.int ((nI (6 * k)) + 6))] [] h2 i_274_1160 rfl ?_
  refine wp_s 18 [some (.float 1), some (.ref 0), some (.ref 382), some (.int ((nI (6 * k)) + 6))] [] h2 i_274_1163 rfl ?_
  exact nxt h2 hI2
set_option maxHeartbeats 4000000 in
set_option maxRecDepth 100000 in
theorem law_c13 {X : aX} {I : Nat → aH → Prop} {k : Nat} {h : aH} {fs : List Value} (hL : X.1 ≤ 3072) (hstep : ∀ k h, 6 * k + 6 ≤ X.1 → I k h → aSteps X (I (k + 1)) h) (hk : 6 * k + 6 ≤ X.1) (hI : I k h) (h0 : h[0]? = some (.inr (11, fs))) {Q : Option Value → aH → Prop} (nxt : ∀ h2, I (k + 1) h2 → aWp X 100 274 18 [some (.float 1), some (.ref 0), some (.ref 382), some (.int (nI (6 * k) + 6))] [] h2 Q) : aWp X 100 274 561 [some (.float 1), some (.ref 0), some (.ref 382), some (.int (nI (6 * k)))] [] h Q := by
  refine wp_s 562 [some (.float 1), some (.ref 0), some (.ref 382), some (.int (nI (6 * k)))] [.ref 0] h i_274_561 rfl ?_
  refine wp_s 563 [some (.float 1), some (.ref 0), some (.ref 382), some (.int (nI (6 * k)))] [.float 1, .ref 0] h i_274_562 rfl ?_
  refine wp_s 564 [some (.float 1), some (.ref 0), some (.ref 382), some (.int (nI (6 * k)))] [.int (nI (6 * k)), .float 1, .ref 0] h i_274_563 rfl ?_
  refine wp_s 565 [some (.float 1), some (.ref 0), some (.ref 382), some (.int (nI (6 * k)))] [.int (1), .int (nI (6 * k)), .float 1, .ref 0] h i_274_564 rfl ?_
  refine wp_s 566 [some (.float 1), some (.ref 0), some (.ref 382), some (.int (nI (6 * k)))] [.int ((nI (6 * k)) + 1), .float 1, .ref 0] h i_274_565 rfl ?_
  refine wp_sld 567 rfl i_274_566 (aIn_sc1 hk hL) ?_
  have hc := (hstep k h hk hI).2.2.2.2.2.2.2.2.2.2.2.2.2.1 ((X.2 ((nI (6 * k)) + 1).toNatClampNeg))
  refine wp_callV (d := 99) 570 rfl i_274_567 (by decide) rfl (vs := [.int (X.2 ((nI (6 * k)) + 1).toNatClampNeg)]) (rest := []) rfl rfl rfl h0 (y := m_115) rfl (Nat.le_of_ble_eq_true rfl) (hc.deep (by decide)) ?_
  intro v h1 hq
  obtain ⟨r, gs, rfl, hB, hq⟩ := hq
  refine wp_s 571 [some (.float 1), some (.ref 0), some (.ref 382), some (.int (nI (6 * k)))] [.ref 382, .int r] h1 i_274_570 rfl ?_
  refine wp_s 572 [some (.float 1), some (.ref 0), some (.ref 382), some (.int (nI (6 * k)))] [.float 1, .ref 382, .int r] h1 i_274_571 rfl ?_
  refine wp_s 573 [some (.float 1), some (.ref 0), some (.ref 382), some (.int (nI (6 * k)))] [.int (nI (6 * k)), .float 1, .ref 382, .int r] h1 i_274_572 rfl ?_
  refine wp_s 574 [some (.float 1), some (.ref 0), some (.ref 382), some (.int (nI (6 * k)))] [.int (1), .int (nI (6 * k)), .float 1, .ref 382, .int r] h1 i_274_573 rfl ?_
  refine wp_s 575 [some (.float 1), some (.ref 0), some (.ref 382), some (.int (nI (6 * k)))] [.int ((nI (6 * k)) + 1), .float 1, .ref 382, .int r] h1 i_274_574 rfl ?_
  refine wp_sld 576 rfl i_274_575 (aIn_sc1 hk hL) ?_
  refine wp_callV (d := 99) 579 rfl i_274_576 (by decide) rfl (vs := [.int (X.2 ((nI (6 * k)) + 1).toNatClampNeg)]) (rest := [.int r]) rfl rfl rfl hB (y := m_222) rfl (Nat.le_of_ble_eq_true rfl) (hq.deep (by decide)) ?_
  intro v h2 hq2
  obtain ⟨rfl, hI2⟩ := hq2
  refine wp_br (b := decide (r = r)) 1160 582 [some (.float 1), some (.ref 0), some (.ref 382), some (.int (nI (6 * k)))] [] h2 i_274_579 rfl (fun _ => ?_) (fun z => absurd rfl (of_decide_eq_false z))
  refine wp_s 1163 [some (.float 1), some (.ref 0), some (.ref 382), some (.int ((nI (6 * k)) + 6))] [] h2 i_274_1160 rfl ?_
  refine wp_s 18 [some (.float 1), some (.ref 0), some (.ref 382), some (.int ((nI (6 * k)) + 6))] [] h2 i_274_1163 rfl ?_
  exact nxt h2 hI2
set_option maxHeartbeats 4000000 in
set_option maxRecDepth 100000 in
theorem law_c14 {X : aX} {I : Nat → aH → Prop} {k : Nat} {h : aH} {fs : List Value} (hL : X.1 ≤ 3072) (hstep : ∀ k h, 6 * k + 6 ≤ X.1 → I k h → aSteps X (I (k + 1)) h) (hk : 6 * k + 6 ≤ X.1) (hI : I k h) (h0 : h[0]? = some (.inr (11, fs))) {Q : Option Value → aH → Prop} (nxt : ∀ h2, I (k + 1) h2 → aWp X 100 274 18 [some (.float 1), some (.ref 0), some (.ref 382), some (.int (nI (6 * k) + 6))] [] h2 Q) : aWp X 100 274 584 [some (.float 1), some (.ref 0), some (.ref 382), some (.int (nI (6 * k)))] [] h Q := by
  refine wp_s 585 [some (.float 1), some (.ref 0), some (.ref 382), some (.int (nI (6 * k)))] [.ref 0] h i_274_584 rfl ?_
  refine wp_s 586 [some (.float 1), some (.ref 0), some (.ref 382), some (.int (nI (6 * k)))] [.float 1, .ref 0] h i_274_585 rfl ?_
  refine wp_s 587 [some (.float 1), some (.ref 0), some (.ref 382), some (.int (nI (6 * k)))] [.int (nI (6 * k)), .float 1, .ref 0] h i_274_586 rfl ?_
  refine wp_s 588 [some (.float 1), some (.ref 0), some (.ref 382), some (.int (nI (6 * k)))] [.int (1), .int (nI (6 * k)), .float 1, .ref 0] h i_274_587 rfl ?_
  refine wp_s 589 [some (.float 1), some (.ref 0), some (.ref 382), some (.int (nI (6 * k)))] [.int ((nI (6 * k)) + 1), .float 1, .ref 0] h i_274_588 rfl ?_
  refine wp_sld 590 rfl i_274_589 (aIn_sc1 hk hL) ?_
  have hc := (hstep k h hk hI).2.2.2.2.2.2.2.2.2.2.2.2.2.2.1 ((X.2 ((nI (6 * k)) + 1).toNatClampNeg))
  refine wp_callV (d := 99) 593 rfl i_274_590 (by decide) rfl (vs := [.int (X.2 ((nI (6 * k)) + 1).toNatClampNeg)]) (rest := []) rfl rfl rfl h0 (y := m_116) rfl (Nat.le_of_ble_eq_true rfl) (hc.deep (by decide)) ?_
  intro v h1 hq
  obtain ⟨r, gs, rfl, hB, hq⟩ := hq
  refine wp_s 594 [some (.float 1), some (.ref 0), some (.ref 382), some (.int (nI (6 * k)))] [.ref 382, .int r] h1 i_274_593 rfl ?_
  refine wp_s 595 [some (.float 1), some (.ref 0), some (.ref 382), some (.int (nI (6 * k)))] [.float 1, .ref 382, .int r] h1 i_274_594 rfl ?_
  refine wp_s 596 [some (.float 1), some (.ref 0), some (.ref 382), some (.int (nI (6 * k)))] [.int (nI (6 * k)), .float 1, .ref 382, .int r] h1 i_274_595 rfl ?_
  refine wp_s 597 [some (.float 1), some (.ref 0), some (.ref 382), some (.int (nI (6 * k)))] [.int (1), .int (nI (6 * k)), .float 1, .ref 382, .int r] h1 i_274_596 rfl ?_
  refine wp_s 598 [some (.float 1), some (.ref 0), some (.ref 382), some (.int (nI (6 * k)))] [.int ((nI (6 * k)) + 1), .float 1, .ref 382, .int r] h1 i_274_597 rfl ?_
  refine wp_sld 599 rfl i_274_598 (aIn_sc1 hk hL) ?_
  refine wp_callV (d := 99) 602 rfl i_274_599 (by decide) rfl (vs := [.int (X.2 ((nI (6 * k)) + 1).toNatClampNeg)]) (rest := [.int r]) rfl rfl rfl hB (y := m_224) rfl (Nat.le_of_ble_eq_true rfl) (hq.deep (by decide)) ?_
  intro v h2 hq2
  obtain ⟨rfl, hI2⟩ := hq2
  refine wp_br (b := decide (r = r)) 1160 605 [some (.float 1), some (.ref 0), some (.ref 382), some (.int (nI (6 * k)))] [] h2 i_274_602 rfl (fun _ => ?_) (fun z => absurd rfl (of_decide_eq_false z))
  refine wp_s 1163 [some (.float 1), some (.ref 0), some (.ref 382), some (.int ((nI (6 * k)) + 6))] [] h2 i_274_1160 rfl ?_
  refine wp_s 18 [some (.float 1), some (.ref 0), some (.ref 382), some (.int ((nI (6 * k)) + 6))] [] h2 i_274_1163 rfl ?_
  exact nxt h2 hI2
set_option maxHeartbeats 4000000 in
set_option maxRecDepth 100000 in
theorem law_c15 {X : aX} {I : Nat → aH → Prop} {k : Nat} {h : aH} {fs : List Value} (hL : X.1 ≤ 3072) (hstep : ∀ k h, 6 * k + 6 ≤ X.1 → I k h → aSteps X (I (k + 1)) h) (hk : 6 * k + 6 ≤ X.1) (hI : I k h) (h0 : h[0]? = some (.inr (11, fs))) {Q : Option Value → aH → Prop} (nxt : ∀ h2, I (k + 1) h2 → aWp X 100 274 18 [some (.float 1), some (.ref 0), some (.ref 382), some (.int (nI (6 * k) + 6))] [] h2 Q) : aWp X 100 274 607 [some (.float 1), some (.ref 0), some (.ref 382), some (.int (nI (6 * k)))] [] h Q := by
  refine wp_s 608 [some (.float 1), some (.ref 0), some (.ref 382), some (.int (nI (6 * k)))] [.ref 0] h i_274_607 rfl ?_
  have hc := (hstep k h hk hI).2.2.2.2.2.2.2.2.2.2.2.2.2.2.2.1
  refine wp_callV (d := 99) 611 rfl i_274_608 (by decide) rfl (vs := []) (rest := []) rfl rfl rfl h0 (y := m_117) rfl (Nat.le_of_ble_eq_true rfl) (hc.deep (by decide)) ?_
  intro v h1 hq
  obtain ⟨r, gs, rfl, hB, hq⟩ := hq
  refine wp_s 612 [some (.float 1), some (.ref 0), some (.ref 382), some (.int (nI (6 * k)))] [.ref 382, .int r] h1 i_274_611 rfl ?_
  refine wp_callV (d := 99) 615 rfl i_274_612 (by decide) rfl (vs := []) (rest := [.int r]) rfl rfl rfl hB (y := m_225) rfl (Nat.le_of_ble_eq_true rfl) (hq.deep (by decide)) ?_
  intro v h2 hq2
  obtain ⟨rfl, hI2⟩ := hq2
  refine wp_br (b := decide (r = r)) 1160 618 [some (.float 1), some (.ref 0), some (.ref 382), some (.int (nI (6 * k)))] [] h2 i_274_615 rfl (fun _ => ?_) (fun z => absurd rfl (of_decide_eq_false z))
  refine wp_s 1163 [some (.float 1), some (.ref 0), some (.ref 382), some (.int ((nI (6 * k)) + 6))] [] h2 i_274_1160 rfl ?_
  refine wp_s 18 [some (.float 1), some (.ref 0), some (.ref 382), some (.int ((nI (6 * k)) + 6))] [] h2 i_274_1163 rfl ?_
  exact nxt h2 hI2
set_option maxHeartbeats 4000000 in
set_option maxRecDepth 100000 in
theorem law_c16 {X : aX} {I : Nat → aH → Prop} {k : Nat} {h : aH} {fs : List Value} (hL : X.1 ≤ 3072) (hstep : ∀ k h, 6 * k + 6 ≤ X.1 → I k h → aSteps X (I (k + 1)) h) (hk : 6 * k + 6 ≤ X.1) (hI : I k h) (h0 : h[0]? = some (.inr (11, fs))) {Q : Option Value → aH → Prop} (nxt : ∀ h2, I (k + 1) h2 → aWp X 100 274 18 [some (.float 1), some (.ref 0), some (.ref 382), some (.int (nI (6 * k) + 6))] [] h2 Q) : aWp X 100 274 620 [some (.float 1), some (.ref 0), some (.ref 382), some (.int (nI (6 * k)))] [] h Q := by
  refine wp_s 621 [some (.float 1), some (.ref 0), some (.ref 382), some (.int (nI (6 * k)))] [.ref 0] h i_274_620 rfl ?_
  refine wp_s 622 [some (.float 1), some (.ref 0), some (.ref 382), some (.int (nI (6 * k)))] [.float 1, .ref 0] h i_274_621 rfl ?_
  refine wp_s 623 [some (.float 1), some (.ref 0), some (.ref 382), some (.int (nI (6 * k)))] [.int (nI (6 * k)), .float 1, .ref 0] h i_274_622 rfl ?_
  refine wp_s 624 [some (.float 1), some (.ref 0), some (.ref 382), some (.int (nI (6 * k)))] [.int (1), .int (nI (6 * k)), .float 1, .ref 0] h i_274_623 rfl ?_
  refine wp_s 625 [some (.float 1), some (.ref 0), some (.ref 382), some (.int (nI (6 * k)))] [.int ((nI (6 * k)) + 1), .float 1, .ref 0] h i_274_624 rfl ?_
  refine wp_sld 626 rfl i_274_625 (aIn_sc1 hk hL) ?_
  have hc := (hstep k h hk hI).2.2.2.2.2.2.2.2.2.2.2.2.2.2.2.2.1 ((X.2 ((nI (6 * k)) + 1).toNatClampNeg))
  refine wp_callV (d := 99) 629 rfl i_274_626 (by decide) rfl (vs := [.int (X.2 ((nI (6 * k)) + 1).toNatClampNeg)]) (rest := []) rfl rfl rfl h0 (y := m_118) rfl (Nat.le_of_ble_eq_true rfl) (hc.deep (by decide)) ?_
  intro v h1 hq
  obtain ⟨r, gs, rfl, hB, hq⟩ := hq
  refine wp_s 630 [some (.float 1), some (.ref 0), some (.ref 382), some (.int (nI (6 * k)))] [.ref 382, .int r] h1 i_274_629 rfl ?_
  refine wp_s 631 [some (.float 1), some (.ref 0), some (.ref 382), some (.int (nI (6 * k)))] [.float 1, .ref 382, .int r] h1 i_274_630 rfl ?_
  refine wp_s 632 [some (.float 1), some (.ref 0), some (.ref 382), some (.int (nI (6 * k)))] [.int (nI (6 * k)), .float 1, .ref 382, .int r] h1 i_274_631 rfl ?_
  refine wp_s 633 [some (.float 1), some (.ref 0), some (.ref 382), some (.int (nI (6 * k)))] [.int (1), .int (nI (6 * k)), .float 1, .ref 382, .int r] h1 i_274_632 rfl ?_
  refine wp_s 634 [some (.float 1), some (.ref 0), some (.ref 382), some (.int (nI (6 * k)))] [.int ((nI (6 * k)) + 1), .float 1, .ref 382, .int r] h1 i_274_633 rfl ?_
  refine wp_sld 635 rfl i_274_634 (aIn_sc1 hk hL) ?_
  refine wp_callV (d := 99) 638 rfl i_274_635 (by decide) rfl (vs := [.int (X.2 ((nI (6 * k)) + 1).toNatClampNeg)]) (rest := [.int r]) rfl rfl rfl hB (y := m_229) rfl (Nat.le_of_ble_eq_true rfl) (hq.deep (by decide)) ?_
  intro v h2 hq2
  obtain ⟨rfl, hI2⟩ := hq2
  refine wp_br (b := decide (r = r)) 1160 641 [some (.float 1), some (.ref 0), some (.ref 382), some (.int (nI (6 * k)))] [] h2 i_274_638 rfl (fun _ => ?_) (fun z => absurd rfl (of_decide_eq_false z))
  refine wp_s 1163 [some (.float 1), some (.ref 0), some (.ref 382), some (.int ((nI (6 * k)) + 6))] [] h2 i_274_1160 rfl ?_
  refine wp_s 18 [some (.float 1), some (.ref 0), some (.ref 382), some (.int ((nI (6 * k)) + 6))] [] h2 i_274_1163 rfl ?_
  exact nxt h2 hI2
set_option maxHeartbeats 4000000 in
set_option maxRecDepth 100000 in
theorem law_c17 {X : aX} {I : Nat → aH → Prop} {k : Nat} {h : aH} {fs : List Value} (hL : X.1 ≤ 3072) (hstep : ∀ k h, 6 * k + 6 ≤ X.1 → I k h → aSteps X (I (k + 1)) h) (hk : 6 * k + 6 ≤ X.1) (hI : I k h) (h0 : h[0]? = some (.inr (11, fs))) {Q : Option Value → aH → Prop} (nxt : ∀ h2, I (k + 1) h2 → aWp X 100 274 18 [some (.float 1), some (.ref 0), some (.ref 382), some (.int (nI (6 * k) + 6))] [] h2 Q) : aWp X 100 274 643 [some (.float 1), some (.ref 0), some (.ref 382), some (.int (nI (6 * k)))] [] h Q := by
  refine wp_s 644 [some (.float 1), some (.ref 0), some (.ref 382), some (.int (nI (6 * k)))] [.ref 0] h i_274_643 rfl ?_
  have hc := (hstep k h hk hI).2.2.2.2.2.2.2.2.2.2.2.2.2.2.2.2.2.1
  refine wp_callV (d := 99) 647 rfl i_274_644 (by decide) rfl (vs := []) (rest := []) rfl rfl rfl h0 (y := m_119) rfl (Nat.le_of_ble_eq_true rfl) (hc.deep (by decide)) ?_
  intro v h1 hq
  obtain ⟨r, gs, rfl, hB, hq⟩ := hq
  refine wp_s 648 [some (.float 1), some (.ref 0), some (.ref 382), some (.int (nI (6 * k)))] [.ref 382, .int r] h1 i_274_647 rfl ?_
  refine wp_callV (d := 99) 651 rfl i_274_648 (by decide) rfl (vs := []) (rest := [.int r]) rfl rfl rfl hB (y := m_230) rfl (Nat.le_of_ble_eq_true rfl) (hq.deep (by decide)) ?_
  intro v h2 hq2
  obtain ⟨rfl, hI2⟩ := hq2
  refine wp_br (b := decide (r = r)) 1160 654 [some (.float 1), some (.ref 0), some (.ref 382), some (.int (nI (6 * k)))] [] h2 i_274_651 rfl (fun _ => ?_) (fun z => absurd rfl (of_decide_eq_false z))
  refine wp_s 1163 [some (.float 1), some (.ref 0), some (.ref 382), some (.int ((nI (6 * k)) + 6))] [] h2 i_274_1160 rfl ?_
  refine wp_s 18 [some (.float 1), some (.ref 0), some (.ref 382), some (.int ((nI (6 * k)) + 6))] [] h2 i_274_1163 rfl ?_
  exact nxt h2 hI2
set_option maxHeartbeats 4000000 in
set_option maxRecDepth 100000 in
theorem law_c18 {X : aX} {I : Nat → aH → Prop} {k : Nat} {h : aH} {fs : List Value} (hL : X.1 ≤ 3072) (hstep : ∀ k h, 6 * k + 6 ≤ X.1 → I k h → aSteps X (I (k + 1)) h) (hk : 6 * k + 6 ≤ X.1) (hI : I k h) (h0 : h[0]? = some (.inr (11, fs))) {Q : Option Value → aH → Prop} (nxt : ∀ h2, I (k + 1) h2 → aWp X 100 274 18 [some (.float 1), some (.ref 0), some (.ref 382), some (.int (nI (6 * k) + 6))] [] h2 Q) : aWp X 100 274 656 [some (.float 1), some (.ref 0), some (.ref 382), some (.int (nI (6 * k)))] [] h Q := by
  refine wp_s 657 [some (.float 1), some (.ref 0), some (.ref 382), some (.int (nI (6 * k)))] [.ref 0] h i_274_656 rfl ?_
  have hc := (hstep k h hk hI).2.2.2.2.2.2.2.2.2.2.2.2.2.2.2.2.2.2.1
  refine wp_callV (d := 99) 660 rfl i_274_657 (by decide) rfl (vs := []) (rest := []) rfl rfl rfl h0 (y := m_120) rfl (Nat.le_of_ble_eq_true rfl) (hc.deep (by decide)) ?_
  intro v h1 hq
  obtain ⟨r, gs, rfl, hB, hq⟩ := hq
  refine wp_s 661 [some (.float 1), some (.ref 0), some (.ref 382), some (.int (nI (6 * k)))] [.ref 382, .int r] h1 i_274_660 rfl ?_
  refine wp_callV (d := 99) 664 rfl i_274_661 (by decide) rfl (vs := []) (rest := [.int r]) rfl rfl rfl hB (y := m_215) rfl (Nat.le_of_ble_eq_true rfl) (hq.deep (by decide)) ?_
  intro v h2 hq2
  obtain ⟨rfl, hI2⟩ := hq2
  refine wp_br (b := decide (r = r)) 1160 667 [some (.float 1), some (.ref 0), some (.ref 382), some (.int (nI (6 * k)))] [] h2 i_274_664 rfl (fun _ => ?_) (fun z => absurd rfl (of_decide_eq_false z))
  refine wp_s 1163 [some (.float 1), some (.ref 0), some (.ref 382), some (.int ((nI (6 * k)) + 6))] [] h2 i_274_1160 rfl ?_
  refine wp_s 18 [some (.float 1), some (.ref 0), some (.ref 382), some (.int ((nI (6 * k)) + 6))] [] h2 i_274_1163 rfl ?_
  exact nxt h2 hI2
set_option maxHeartbeats 4000000 in
set_option maxRecDepth 100000 in
theorem law_c19 {X : aX} {I : Nat → aH → Prop} {k : Nat} {h : aH} {fs : List Value} (hL : X.1 ≤ 3072) (hstep : ∀ k h, 6 * k + 6 ≤ X.1 → I k h → aSteps X (I (k + 1)) h) (hk : 6 * k + 6 ≤ X.1) (hI : I k h) (h0 : h[0]? = some (.inr (11, fs))) {Q : Option Value → aH → Prop} (nxt : ∀ h2, I (k + 1) h2 → aWp X 100 274 18 [some (.float 1), some (.ref 0), some (.ref 382), some (.int (nI (6 * k) + 6))] [] h2 Q) : aWp X 100 274 669 [some (.float 1), some (.ref 0), some (.ref 382), some (.int (nI (6 * k)))] [] h Q := by
  refine wp_s 670 [some (.float 1), some (.ref 0), some (.ref 382), some (.int (nI (6 * k)))] [.ref 0] h i_274_669 rfl ?_
  refine wp_s 671 [some (.float 1), some (.ref 0), some (.ref 382), some (.int (nI (6 * k)))] [.float 1, .ref 0] h i_274_670 rfl ?_
  refine wp_s 672 [some (.float 1), some (.ref 0), some (.ref 382), some (.int (nI (6 * k)))] [.int (nI (6 * k)), .float 1, .ref 0] h i_274_671 rfl ?_
  refine wp_s 673 [some (.float 1), some (.ref 0), some (.ref 382), some (.int (nI (6 * k)))] [.int (1), .int (nI (6 * k)), .float 1, .ref 0] h i_274_672 rfl ?_
  refine wp_s 674 [some (.float 1), some (.ref 0), some (.ref 382), some (.int (nI (6 * k)))] [.int ((nI (6 * k)) + 1), .float 1, .ref 0] h i_274_673 rfl ?_
  refine wp_sld 675 rfl i_274_674 (aIn_sc1 hk hL) ?_
  have hc := (hstep k h hk hI).2.2.2.2.2.2.2.2.2.2.2.2.2.2.2.2.2.2.2.1 ((X.2 ((nI (6 * k)) + 1).toNatClampNeg))
  refine wp_callV (d := 99) 678 rfl i_274_675 (by decide) rfl (vs := [.int (X.2 ((nI (6 * k)) + 1).toNatClampNeg)]) (rest := []) rfl rfl rfl h0 (y := m_121) rfl (Nat.le_of_ble_eq_true rfl) (hc.deep (by decide)) ?_
  intro v h1 hq
  obtain ⟨r, gs, rfl, hB, hq⟩ := hq
  refine wp_s 679 [some (.float 1), some (.ref 0), some (.ref 382), some (.int (nI (6 * k)))] [.ref 382, .int r] h1 i_274_678 rfl ?_
  refine wp_s 680 [some (.float 1), some (.ref 0), some (.ref 382), some (.int (nI (6 * k)))] [.float 1, .ref 382, .int r] h1 i_274_679 rfl ?_
  refine wp_s 681 [some (.float 1), some (.ref 0), some (.ref 382), some (.int (nI (6 * k)))] [.int (nI (6 * k)), .float 1, .ref 382, .int r] h1 i_274_680 rfl ?_
  refine wp_s 682 [some (.float 1), some (.ref 0), some (.ref 382), some (.int (nI (6 * k)))] [.int (1), .int (nI (6 * k)), .float 1, .ref 382, .int r] h1 i_274_681 rfl ?_
  refine wp_s 683 [some (.float 1), some (.ref 0), some (.ref 382), some (.int (nI (6 * k)))] [.int ((nI (6 * k)) + 1), .float 1, .ref 382, .int r] h1 i_274_682 rfl ?_
  refine wp_sld 684 rfl i_274_683 (aIn_sc1 hk hL) ?_
  refine wp_callV (d := 99) 687 rfl i_274_684 (by decide) rfl (vs := [.int (X.2 ((nI (6 * k)) + 1).toNatClampNeg)]) (rest := [.int r]) rfl rfl rfl hB (y := m_234) rfl (Nat.le_of_ble_eq_true rfl) (hq.deep (by decide)) ?_
  intro v h2 hq2
  obtain ⟨rfl, hI2⟩ := hq2
  refine wp_br (b := decide (r = r)) 1160 690 [some (.float 1), some (.ref 0), some (.ref 382), some (.int (nI (6 * k)))] [] h2 i_274_687 rfl (fun _ => ?_) (fun z => absurd rfl (of_decide_eq_false z))
  refine wp_s 1163 [some (.float 1), some (.ref 0), some (.ref 382), some (.int ((nI (6 * k)) + 6))] [] h2 i_274_1160 rfl ?_
  refine wp_s 18 [some (.float 1), some (.ref 0), some (.ref 382), some (.int ((nI (6 * k)) + 6))] [] h2 i_274_1163 rfl ?_
  exact nxt h2 hI2
set_option maxHeartbeats 4000000 in
set_option maxRecDepth 100000 in
theorem law_c20 {X : aX} {I : Nat → aH → Prop} {k : Nat} {h : aH} {fs : List Value} (hL : X.1 ≤ 3072) (hstep : ∀ k h, 6 * k + 6 ≤ X.1 → I k h → aSteps X (I (k + 1)) h) (hk : 6 * k + 6 ≤ X.1) (hI : I k h) (h0 : h[0]? = some (.inr (11, fs))) {Q : Option Value → aH → Prop} (nxt : ∀ h2, I (k + 1) h2 → aWp X 100 274 18 [some (.float 1), some (.ref 0), some (.ref 382), some (.int (nI (6 * k) + 6))] [] h2 Q) : aWp X 100 274 692 [some (.float 1), some (.ref 0), some (.ref 382), some (.int (nI (6 * k)))] [] h Q := by
  refine wp_s 693 [some (.float 1), some (.ref 0), some (.ref 382), some (.int (nI (6 * k)))] [.ref 0] h i_274_692 rfl ?_
  refine wp_s 694 [some (.float 1), some (.ref 0), some (.ref 382), some (.int (nI (6 * k)))] [.float 1, .ref 0] h i_274_693 rfl ?_
  refine wp_s 695 [some (.float 1), some (.ref 0), some (.ref 382), some (.int (nI (6 * k)))] [.int (nI (6 * k)), .float 1, .ref 0] h i_274_694 rfl ?_
  refine wp_s 696 [some (.float 1), some (.ref 0), some (.ref 382), some (.int (nI (6 * k)))] [.int (1), .int (nI (6 * k)), .float 1, .ref 0] h i_274_695 rfl ?_
  refine wp_s 697 [some (.float 1), some (.ref 0), some (.ref 382), some (.int (nI (6 * k)))] [.int ((nI (6 * k)) + 1), .float 1, .ref 0] h i_274_696 rfl ?_
  refine wp_sld 698 rfl i_274_697 (aIn_sc1 hk hL) ?_
  have hc := (hstep k h hk hI).2.2.2.2.2.2.2.2.2.2.2.2.2.2.2.2.2.2.2.2.1 ((X.2 ((nI (6 * k)) + 1).toNatClampNeg))
  refine wp_callV (d := 99) 701 rfl i_274_698 (by decide) rfl (vs := [.int (X.2 ((nI (6 * k)) + 1).toNatClampNeg)]) (rest := []) rfl rfl rfl h0 (y := m_122) rfl (Nat.le_of_ble_eq_true rfl) (hc.deep (by decide)) ?_
  intro v h1 hq
  obtain ⟨r, gs, rfl, hB, hq⟩ := hq
  refine wp_s 702 [some (.float 1), some (.ref 0), some (.ref 382), some (.int (nI (6 * k)))] [.ref 382, .int r] h1 i_274_701 rfl ?_
  refine wp_s 703 [some (.float 1), some (.ref 0), some (.ref 382), some (.int (nI (6 * k)))] [.float 1, .ref 382, .int r] h1 i_274_702 rfl ?_
  refine wp_s 704 [some (.float 1), some (.ref 0), some (.ref 382), some (.int (nI (6 * k)))] [.int (nI (6 * k)), .float 1, .ref 382, .int r] h1 i_274_703 rfl ?_
  refine wp_s 705 [some (.float 1), some (.ref 0), some (.ref 382), some (.int (nI (6 * k)))] [.int (1), .int (nI (6 * k)), .float 1, .ref 382, .int r] h1 i_274_704 rfl ?_
  refine wp_s 706 [some (.float 1), some (.ref 0), some (.ref 382), some (.int (nI (6 * k)))] [.int ((nI (6 * k)) + 1), .float 1, .ref 382, .int r] h1 i_274_705 rfl ?_
  refine wp_sld 707 rfl i_274_706 (aIn_sc1 hk hL) ?_
  refine wp_callV (d := 99) 710 rfl i_274_707 (by decide) rfl (vs := [.int (X.2 ((nI (6 * k)) + 1).toNatClampNeg)]) (rest := [.int r]) rfl rfl rfl hB (y := m_239) rfl (Nat.le_of_ble_eq_true rfl) (hq.deep (by decide)) ?_
  intro v h2 hq2
  obtain ⟨rfl, hI2⟩ := hq2
  refine wp_br (b := decide (r = r)) 1160 713 [some (.float 1), some (.ref 0), some (.ref 382), some (.int (nI (6 * k)))] [] h2 i_274_710 rfl (fun _ => ?_) (fun z => absurd rfl (of_decide_eq_false z))
  refine wp_s 1163 [some (.float 1), some (.ref 0), some (.ref 382), some (.int ((nI (6 * k)) + 6))] [] h2 i_274_1160 rfl ?_
  refine wp_s 18 [some (.float 1), some (.ref 0), some (.ref 382), some (.int ((nI (6 * k)) + 6))] [] h2 i_274_1163 rfl ?_
  exact nxt h2 hI2
set_option maxHeartbeats 4000000 in
set_option maxRecDepth 100000 in
theorem law_c21 {X : aX} {I : Nat → aH → Prop} {k : Nat} {h : aH} {fs : List Value} (hL : X.1 ≤ 3072) (hstep : ∀ k h, 6 * k + 6 ≤ X.1 → I k h → aSteps X (I (k + 1)) h) (hk : 6 * k + 6 ≤ X.1) (hI : I k h) (h0 : h[0]? = some (.inr (11, fs))) {Q : Option Value → aH → Prop} (nxt : ∀ h2, I (k + 1) h2 → aWp X 100 274 18 [some (.float 1), some (.ref 0), some (.ref 382), some (.int (nI (6 * k) + 6))] [] h2 Q) : aWp X 100 274 715 [some (.float 1), some (.ref 0), some (.ref 382), some (.int (nI (6 * k)))] [] h Q := by
  refine wp_s 716 [some (.float 1), some (.ref 0), some (.ref 382), some (.int (nI (6 * k)))] [.ref 0] h i_274_715 rfl ?_
  refine wp_s 717 [some (.float 1), some (.ref 0), some (.ref 382), some (.int (nI (6 * k)))] [.float 1, .ref 0] h i_274_716 rfl ?_
  refine wp_s 718 [some (.float 1), some (.ref 0), some (.ref 382), some (.int (nI (6 * k)))] [.int (nI (6 * k)), .float 1, .ref 0] h i_274_717 rfl ?_
  refine wp_s 719 [some (.float 1), some (.ref 0), some (.ref 382), some (.int (nI (6 * k)))] [.int (1), .int (nI (6 * k)), .float 1, .ref 0] h i_274_718 rfl ?_
  refine wp_s 720 [some (.float 1), some (.ref 0), some (.ref 382), some (.int (nI (6 * k)))] [.int ((nI (6 * k)) + 1), .float 1, .ref 0] h i_274_719 rfl ?_
  refine wp_sld 721 rfl i_274_720 (aIn_sc1 hk hL) ?_
  have hc := (hstep k h hk hI).2.2.2.2.2.2.2.2.2.2.2.2.2.2.2.2.2.2.2.2.2.1 ((X.2 ((nI (6 * k)) + 1).toNatClampNeg))
  refine wp_callV (d := 99) 724 rfl i_274_721 (by decide) rfl (vs := [.int (X.2 ((nI (6 * k)) + 1).toNatClampNeg)]) (rest := []) rfl rfl rfl h0 (y := m_123) rfl (Nat.le_of_ble_eq_true rfl) (hc.deep (by decide)) ?_
  intro v h1 hq
  obtain ⟨r, gs, rfl, hB, hq⟩ := hq
  refine wp_s 725 [some (.float 1), some (.ref 0), some (.ref 382), some (.int (nI (6 * k)))] [.ref 382, .int r] h1 i_274_724 rfl ?_
  refine wp_s 726 [some (.float 1), some (.ref 0), some (.ref 382), some (.int (nI (6 * k)))] [.float 1, .ref 382, .int r] h1 i_274_725 rfl ?_
  refine wp_s 727 [some (.float 1), some (.ref 0), some (.ref 382), some (.int (nI (6 * k)))] [.int (nI (6 * k)), .float 1, .ref 382, .int r] h1 i_274_726 rfl ?_
  refine wp_s 728 [some (.float 1), some (.ref 0), some (.ref 382), some (.int (nI (6 * k)))] [.int (1), .int (nI (6 * k)), .float 1, .ref 382, .int r] h1 i_274_727 rfl ?_
  refine wp_s 729 [some (.float 1), some (.ref 0), some (.ref 382), some (.int (nI (6 * k)))] [.int ((nI (6 * k)) + 1), .float 1, .ref 382, .int r] h1 i_274_728 rfl ?_
  refine wp_sld 730 rfl i_274_729 (aIn_sc1 hk hL) ?_
  refine wp_callV (d := 99) 733 rfl i_274_730 (by decide) rfl (vs := [.int (X.2 ((nI (6 * k)) + 1).toNatClampNeg)]) (rest := [.int r]) rfl rfl rfl hB (y := m_245) rfl (Nat.le_of_ble_eq_true rfl) (hq.deep (by decide)) ?_
  intro v h2 hq2
  obtain ⟨rfl, hI2⟩ := hq2
  refine wp_br (b := decide (r = r)) 1160 736 [some (.float 1), some (.ref 0), some (.ref 382), some (.int (nI (6 * k)))] [] h2 i_274_733 rfl (fun _ => ?_) (fun z => absurd rfl (of_decide_eq_false z))
  refine wp_s 1163 [some (.float 1), some (.ref 0), some (.ref 382), some (.int ((nI (6 * k)) + 6))] [] h2 i_274_1160 rfl ?_
  refine wp_s 18 [some (.float 1), some (.ref 0), some (.ref 382), some (.int ((nI (6 * k)) + 6))] [] h2 i_274_1163 rfl ?_
  exact nxt h2 hI2
set_option maxHeartbeats 4000000 in
set_option maxRecDepth 100000 in
theorem law_c22 {X : aX} {I : Nat → aH → Prop} {k : Nat} {h : aH} {fs : List Value} (hL : X.1 ≤ 3072) (hstep : ∀ k h, 6 * k + 6 ≤ X.1 → I k h → aSteps X (I (k + 1)) h) (hk : 6 * k + 6 ≤ X.1) (hI : I k h) (h0 : h[0]? = some (.inr (11, fs))) {Q : Option Value → aH → Prop} (nxt : ∀ h2, I (k + 1) h2 → aWp X 100 274 18 [some (.float 1), some (.ref 0), some (.ref 382), some (.int (nI (6 * k) + 6))] [] h2 Q) : aWp X 100 274 738 [some (.float 1), some (.ref 0), some (.ref 382), some (.int (nI (6 * k)))] [] h Q := by
  refine wp_s 739 [some (.float 1), some (.ref 0), some (.ref 382), some (.int (nI (6 * k)))] [.ref 0] h i_274_738 rfl ?_
  refine wp_s 740 [some (.float 1), some (.ref 0), some (.ref 382), some (.int (nI (6 * k)))] [.float 1, .ref 0] h i_274_739 rfl ?_
  refine wp_s 741 [some (.float 1), some (.ref 0), some (.ref 382), some (.int (nI (6 * k)))] [.int (nI (6 * k)), .float 1, .ref 0] h i_274_740 rfl ?_
  refine wp_s 742 [some (.float 1), some (.ref 0), some (.ref 382), some (.int (nI (6 * k)))] [.int (1), .int (nI (6 * k)), .float 1, .ref 0] h i_274_741 rfl ?_
  refine wp_s 743 [some (.float 1), some (.ref 0), some (.ref 382), some (.int (nI (6 * k)))] [.int ((nI (6 * k)) + 1), .float 1, .ref 0] h i_274_742 rfl ?_
  refine wp_sld 744 rfl i_274_743 (aIn_sc1 hk hL) ?_
  have hc := (hstep k h hk hI).2.2.2.2.2.2.2.2.2.2.2.2.2.2.2.2.2.2.2.2.2.2.1 ((X.2 ((nI (6 * k)) + 1).toNatClampNeg))
  refine wp_callV (d := 99) 747 rfl i_274_744 (by decide) rfl (vs := [.int (X.2 ((nI (6 * k)) + 1).toNatClampNeg)]) (rest := []) rfl rfl rfl h0 (y := m_124) rfl (Nat.le_of_ble_eq_true rfl) (hc.deep (by decide)) ?_
  intro v h1 hq
  obtain ⟨r, gs, rfl, hB, hq⟩ := hq
  refine wp_s 748 [some (.float 1), some (.ref 0), some (.ref 382), some (.int (nI (6 * k)))] [.ref 382, .int r] h1 i_274_747 rfl ?_
  refine wp_s 749 [some (.float 1), some (.ref 0), some (.ref 382), some (.int (nI (6 * k)))] [.float 1, .ref 382, .int r] h1 i_274_748 rfl ?_
  refine wp_s 750 [some (.float 1), some (.ref 0), some (.ref 382), some (.int (nI (6 * k)))] [.int (nI (6 * k)), .float 1, .ref 382, .int r] h1 i_274_749 rfl ?_
  refine wp_s 751 [some (.float 1), some (.ref 0), some (.ref 382), some (.int (nI (6 * k)))] [.int (1), .int (nI (6 * k)), .float 1, .ref 382, .int r] h1 i_274_750 rfl ?_
  refine wp_s 752 [some (.float 1), some (.ref 0), some (.ref 382), some (.int (nI (6 * k)))] [.int ((nI (6 * k)) + 1), .float 1, .ref 382, .int r] h1 i_274_751 rfl ?_
  refine wp_sld 753 rfl i_274_752 (aIn_sc1 hk hL) ?_
  refine wp_callV (d := 99) 756 rfl i_274_753 (by decide) rfl (vs := [.int (X.2 ((nI (6 * k)) + 1).toNatClampNeg)]) (rest := [.int r]) rfl rfl rfl hB (y := m_249) rfl (Nat.le_of_ble_eq_true rfl) (hq.deep (by decide)) ?_
  intro v h2 hq2
  obtain ⟨rfl, hI2⟩ := hq2
  refine wp_br (b := decide (r = r)) 1160 759 [some (.float 1), some (.ref 0), some (.ref 382), some (.int (nI (6 * k)))] [] h2 i_274_756 rfl (fun _ => ?_) (fun z => absurd rfl (of_decide_eq_false z))
  refine wp_s 1163 [some (.float 1), some (.ref 0), some (.ref 382), some (.int ((nI (6 * k)) + 6))] [] h2 i_274_1160 rfl ?_
  refine wp_s 18 [some (.float 1), some (.ref 0), some (.ref 382), some (.int ((nI (6 * k)) + 6))] [] h2 i_274_1163 rfl ?_
  exact nxt h2 hI2
set_option maxHeartbeats 4000000 in
set_option maxRecDepth 100000 in
theorem law_c23 {X : aX} {I : Nat → aH → Prop} {k : Nat} {h : aH} {fs : List Value} (hL : X.1 ≤ 3072) (hstep : ∀ k h, 6 * k + 6 ≤ X.1 → I k h → aSteps X (I (k + 1)) h) (hk : 6 * k + 6 ≤ X.1) (hI : I k h) (h0 : h[0]? = some (.inr (11, fs))) {Q : Option Value → aH → Prop} (nxt : ∀ h2, I (k + 1) h2 → aWp X 100 274 18 [some (.float 1), some (.ref 0), some (.ref 382), some (.int (nI (6 * k) + 6))] [] h2 Q) : aWp X 100 274 761 [some (.float 1), some (.ref 0), some (.ref 382), some (.int (nI (6 * k)))] [] h Q := by
  refine wp_s 762 [some (.float 1), some (.ref 0), some (.ref 382), some (.int (nI (6 * k)))] [.ref 0] h i_274_761 rfl ?_
  refine wp_s 763 [some (.float 1), some (.ref 0), some (.ref 382), some (.int (nI (6 * k)))] [.float 1, .ref 0] h i_274_762 rfl ?_
  refine wp_s 764 [some (.float 1), some (.ref 0), some (.ref 382), some (.int (nI (6 * k)))] [.int (nI (6 * k)), .float 1, .ref 0] h i_274_763 rfl ?_
  refine wp_s 765 [some (.float 1), some (.ref 0), some (.ref 382), some (.int (nI (6 * k)))] [.int (1), .int (nI (6 * k)), .float 1, .ref 0] h i_274_764 rfl ?_
  refine wp_s 766 [some (.float 1), some (.ref 0), some (.ref 382), some (.int (nI (6 * k)))] [.int ((nI (6 * k)) + 1), .float 1, .ref 0] h i_274_765 rfl ?_
  refine wp_sld 767 rfl i_274_766 (aIn_sc1 hk hL) ?_
  have hc := (hstep k h hk hI).2.2.2.2.2.2.2.2.2.2.2.2.2.2.2.2.2.2.2.2.2.2.2.1 ((X.2 ((nI (6 * k)) + 1).toNatClampNeg))
  refine wp_callV (d := 99) 770 rfl i_274_767 (by decide) rfl (vs := [.int (X.2 ((nI (6 * k)) + 1).toNatClampNeg)]) (rest := []) rfl rfl rfl h0 (y := m_125) rfl (Nat.le_of_ble_eq_true rfl) (hc.deep (by decide)) ?_
  intro v h1 hq
  obtain ⟨r, gs, rfl, hB, hq⟩ := hq
  refine wp_s 771 [some (.float 1), some (.ref 0), some (.ref 382), some (.int (nI (6 * k)))] [.ref 382, .int r] h1 i_274_770 rfl ?_
  refine wp_s 772 [some (.float 1), some (.ref 0), some (.ref 382), some (.int (nI (6 * k)))] [.float 1, .ref 382, .int r] h1 i_274_771 rfl ?_
  refine wp_s 773 [some (.float 1), some (.ref 0), some (.ref 382), some (.int (nI (6 * k)))] [.int (nI (6 * k)), .float 1, .ref 382, .int r] h1 i_274_772 rfl ?_
  refine wp_s 774 [some (.float 1), some (.ref 0), some (.ref 382), some (.int (nI (6 * k)))] [.int (1), .int (nI (6 * k)), .float 1, .ref 382, .int r] h1 i_274_773 rfl ?_
  refine wp_s 775 [some (.float 1), some (.ref 0), some (.ref 382), some (.int (nI (6 * k)))] [.int ((nI (6 * k)) + 1), .float 1, .ref 382, .int r] h1 i_274_774 rfl ?_
  refine wp_sld 776 rfl i_274_775 (aIn_sc1 hk hL) ?_
  refine wp_callV (d := 99) 779 rfl i_274_776 (by decide) rfl (vs := [.int (X.2 ((nI (6 * k)) + 1).toNatClampNeg)]) (rest := [.int r]) rfl rfl rfl hB (y := m_255) rfl (Nat.le_of_ble_eq_true rfl) (hq.deep (by decide)) ?_
  intro v h2 hq2
  obtain ⟨rfl, hI2⟩ := hq2
  refine wp_br (b := decide (r = r)) 1160 782 [some (.float 1), some (.ref 0), some (.ref 382), some (.int (nI (6 * k)))] [] h2 i_274_779 rfl (fun _ => ?_) (fun z => absurd rfl (of_decide_eq_false z))
  refine wp_s 1163 [some (.float 1), some (.ref 0), some (.ref 382), some (.int ((nI (6 * k)) + 6))] [] h2 i_274_1160 rfl ?_
  refine wp_s 18 [some (.float 1), some (.ref 0), some (.ref 382), some (.int ((nI (6 * k)) + 6))] [] h2 i_274_1163 rfl ?_
  exact nxt h2 hI2
set_option maxHeartbeats 4000000 in
set_option maxRecDepth 100000 in
theorem law_c24 {X : aX} {I : Nat → aH → Prop} {k : Nat} {h : aH} {fs : List Value} (hL : X.1 ≤ 3072) (hstep : ∀ k h, 6 * k + 6 ≤ X.1 → I k h → aSteps X (I (k + 1)) h) (hk : 6 * k + 6 ≤ X.1) (hI : I k h) (h0 : h[0]? = some (.inr (11, fs))) {Q : Option Value → aH → Prop} (nxt : ∀ h2, I (k + 1) h2 → aWp X 100 274 18 [some (.float 1), some (.ref 0), some (.ref 382), some (.int (nI (6 * k) + 6))] [] h2 Q) : aWp X 100 274 784 [some (.float 1), some (.ref 0), some (.ref 382), some (.int (nI (6 * k)))] [] h Q := by
  refine wp_s 785 [some (.float 1), some (.ref 0), some (.ref 382), some (.int (nI (6 * k)))] [.ref 0] h i_274_784 rfl ?_
  refine wp_s 786 [some (.float 1), some (.ref 0), some (.ref 382), some (.int (nI (6 * k)))] [.float 1, .ref 0] h i_274_785 rfl ?_
  refine wp_s 787 [some (.float 1), some (.ref 0), some (.ref 382), some (.int (nI (6 * k)))] [.int (nI (6 * k)), .float 1, .ref 0] h i_274_786 rfl ?_
  refine wp_s 788 [some (.float 1), some (.ref 0), some (.ref 382), some (.int (nI (6 * k)))] [.int (1), .int (nI (6 * k)), .float 1, .ref 0] h i_274_787 rfl ?_
  refine wp_s 789 [some (.float 1), some (.ref 0), some (.ref 382), some (.int (nI (6 * k)))] [.int ((nI (6 * k)) + 1), .float 1, .ref 0] h i_274_788 rfl ?_
  refine wp_sld 790 rfl i_274_789 (aIn_sc1 hk hL) ?_
  have hc := (hstep k h hk hI).2.2.2.2.2.2.2.2.2.2.2.2.2.2.2.2.2.2.2.2.2.2.2.2.1 ((X.2 ((nI (6 * k)) + 1).toNatClampNeg))
  refine wp_callV (d := 99) 793 rfl i_274_790 (by decide) rfl (vs := [.int (X.2 ((nI (6 * k)) + 1).toNatClampNeg)]) (rest := []) rfl rfl rfl h0 (y := m_126) rfl (Nat.le_of_ble_eq_true rfl) (hc.deep (by decide)) ?_
  intro v h1 hq
  obtain ⟨r, gs, rfl, hB, hq⟩ := hq
  refine wp_s 794 [some (.float 1), some (.ref 0), some (.ref 382), some (.int (nI (6 * k)))] [.ref 382, .int r] h1 i_274_793 rfl ?_
  refine wp_s 795 [some (.float 1), some (.ref 0), some (.ref 382), some (.int (nI (6 * k)))] [.float 1, .ref 382, .int r] h1 i_274_794 rfl ?_
  refine wp_s 796 [some (.float 1), some (.ref 0), some (.ref 382), some (.int (nI (6 * k)))] [.int (nI (6 * k)), .float 1, .ref 382, .int r] h1 i_274_795 rfl ?_
  refine wp_s 797 [some (.float 1), some (.ref 0), some (.ref 382), some (.int (nI (6 * k)))] [.int (1), .int (nI (6 * k)), .float 1, .ref 382, .int r] h1 i_274_796 rfl ?_
  refine wp_s 798 [some (.float 1), some (.ref 0), some (.ref 382), some (.int (nI (6 * k)))] [.int ((nI (6 * k)) + 1), .float 1, .ref 382, .int r] h1 i_274_797 rfl ?_
  refine wp_sld 799 rfl i_274_798 (aIn_sc1 hk hL) ?_
  refine wp_callV (d := 99) 802 rfl i_274_799 (by decide) rfl (vs := [.int (X.2 ((nI (6 * k)) + 1).toNatClampNeg)]) (rest := [.int r]) rfl rfl rfl hB (y := m_256) rfl (Nat.le_of_ble_eq_true rfl) (hq.deep (by decide)) ?_
  intro v h2 hq2
  obtain ⟨rfl, hI2⟩ := hq2
  refine wp_br (b := decide (r = r)) 1160 805 [some (.float 1), some (.ref 0), some (.ref 382), some (.int (nI (6 * k)))] [] h2 i_274_802 rfl (fun _ => ?_) (fun z => absurd rfl (of_decide_eq_false z))
  refine wp_s 1163 [some (.float 1), some (.ref 0), some (.ref 382), some (.int ((nI (6 * k)) + 6))] [] h2 i_274_1160 rfl ?_
  refine wp_s 18 [some (.float 1), some (.ref 0), some (.ref 382), some (.int ((nI (6 * k)) + 6))] [] h2 i_274_1163 rfl ?_
  exact nxt h2 hI2
set_option maxHeartbeats 4000000 in
set_option maxRecDepth 100000 in
theorem law_c25 {X : aX} {I : Nat → aH → Prop} {k : Nat} {h : aH} {fs : List Value} (hL : X.1 ≤ 3072) (hstep : ∀ k h, 6 * k + 6 ≤ X.1 → I k h → aSteps X (I (k + 1)) h) (hk : 6 * k + 6 ≤ X.1) (hI : I k h) (h0 : h[0]? = some (.inr (11, fs))) {Q : Option Value → aH → Prop} (nxt : ∀ h2, I (k + 1) h2 → aWp X 100 274 18 [some (.float 1), some (.ref 0), some (.ref 382), some (.int (nI (6 * k) + 6))] [] h2 Q) : aWp X 100 274 807 [some (.float 1), some (.ref 0), some (.ref 382), some (.int (nI (6 * k)))] [] h Q := by
  refine wp_s 808 [some (.float 1), some (.ref 0), some (.ref 382), some (.int (nI (6 * k)))] [.ref 0] h i_274_807 rfl ?_
  refine wp_s 809 [some (.float 1), some (.ref 0), some (.ref 382), some (.int (nI (6 * k)))] [.float 1, .ref 0] h i_274_808 rfl ?_
  refine wp_s 810 [some (.float 1), some (.ref 0), some (.ref 382), some (.int (nI (6 * k)))] [.int (nI (6 * k)), .float 1, .ref 0] h i_274_809 rfl ?_
  refine wp_s 811 [some (.float 1), some (.ref 0), some (.ref 382), some (.int (nI (6 * k)))] [.int (1), .int (nI (6 * k)), .float 1, .ref 0] h i_274_810 rfl ?_
  refine wp_s 812 [some (.float 1), some (.ref 0), some (.ref 382), some (.int (nI (6 * k)))] [.int ((nI (6 * k)) + 1), .float 1, .ref 0] h i_274_811 rfl ?_
  refine wp_sld 813 rfl i_274_812 (aIn_sc1 hk hL) ?_
  have hc := (hstep k h hk hI).2.2.2.2.2.2.2.2.2.2.2.2.2.2.2.2.2.2.2.2.2.2.2.2.2.1 ((X.2 ((nI (6 * k)) + 1).toNatClampNeg))
  refine wp_callV (d := 99) 816 rfl i_274_813 (by decide) rfl (vs := [.int (X.2 ((nI (6 * k)) + 1).toNatClampNeg)]) (rest := []) rfl rfl rfl h0 (y := m_127) rfl (Nat.le_of_ble_eq_true rfl) (hc.deep (by decide)) ?_
  intro v h1 hq
  obtain ⟨r, gs, rfl, hB, hq⟩ := hq
  refine wp_s 817 [some (.float 1), some (.ref 0), some (.ref 382), some (.int (nI (6 * k)))] [.ref 382, .int r] h1 i_274_816 rfl ?_
  refine wp_s 818 [some (.float 1), some (.ref 0), some (.ref 382), some (.int (nI (6 * k)))] [.float 1, .ref 382, .int r] h1 i_274_817 rfl ?_
  refine wp_s 819 [some (.float 1), some (.ref 0), some (.ref 382), some (.int (nI (6 * k)))] [.int (nI (6 * k)), .float 1, .ref 382, .int r] h1 i_274_818 rfl ?_
  refine wp_s 820 [some (.float 1), some (.ref 0), some (.ref 382), some (.int (nI (6 * k)))] [.int (1), .int (nI (6 * k)), .float 1, .ref 382, .int r] h1 i_274_819 rfl ?_
  refine wp_s 821 [some (.float 1), some (.ref 0), some (.ref 382), some (.int (nI (6 * k)))] [.int ((nI (6 * k)) + 1), .float 1, .ref 382, .int r] h1 i_274_820 rfl ?_
  refine wp_sld 822 rfl i_274_821 (aIn_sc1 hk hL) ?_
  refine wp_callV (d := 99) 825 rfl i_274_822 (by decide) rfl (vs := [.int (X.2 ((nI (6 * k)) + 1).toNatClampNeg)]) (rest := [.int r]) rfl rfl rfl hB (y := m_257) rfl (Nat.le_of_ble_eq_true rfl) (hq.deep (by decide)) ?_
  intro v h2 hq2
  obtain ⟨rfl, hI2⟩ := hq2
  refine wp_br (b := decide (r = r)) 1160 828 [some (.float 1), some (.ref 0), some (.ref 382), some (.int (nI (6 * k)))] [] h2 i_274_825 rfl (fun _ => ?_) (fun z => absurd rfl (of_decide_eq_false z))
  refine wp_s 1163 [some (.float 1), some (.ref 0), some (.ref 382), some (.int ((nI (6 * k)) + 6))] [] h2 i_274_1160 rfl ?_
  refine wp_s 18 [some (.float 1), some (.ref 0), some (.ref 382), some (.int ((nI (6 * k)) + 6))] [] h2 i_274_1163 rfl ?_
  exact nxt h2 hI2
set_option maxHeartbeats 4000000 in
set_option maxRecDepth 100000 in
theorem law_c26 {X : aX} {I : Nat → aH → Prop} {k : Nat} {h : aH} {fs : List Value} (hL : X.1 ≤ 3072) (hstep : ∀ k h, 6 * k + 6 ≤ X.1 → I k h → aSteps X (I (k + 1)) h) (hk : 6 * k + 6 ≤ X.1) (hI : I k h) (h0 : h[0]? = some (.inr (11, fs))) {Q : Option Value → aH → Prop} (nxt : ∀ h2, I (k + 1) h2 → aWp X 100 274 18 [some (.float 1), some (.ref 0), some (.ref 382), some (.int (nI (6 * k) + 6))] [] h2 Q) : aWp X 100 274 830 [some (.float 1), some (.ref 0), some (.ref 382), some (.int (nI (6 * k)))] [] h Q := by
  refine wp_s 831 [some (.float 1), some (.ref 0), some (.ref 382), some (.int (nI (6 * k)))] [.ref 0] h i_274_830 rfl ?_
  refine wp_s 832 [some (.float 1), some (.ref 0), some (.ref 382), some (.int (nI (6 * k)))] [.float 1, .ref 0] h i_274_831 rfl ?_
  refine wp_s 833 [some (.float 1), some (.ref 0), some (.ref 382), some (.int (nI (6 * k)))] [.int (nI (6 * k)), .float 1, .ref 0] h i_274_832 rfl ?_
  refine wp_s 834 [some (.float 1), some (.ref 0), some (.ref 382), some (.int (nI (6 * k)))] [.int (1), .int (nI (6 * k)), .float 1, .ref 0] h i_274_833 rfl ?_
  refine wp_s 835 [some (.float 1), some (.ref 0), some (.ref 382), some (.int (nI (6 * k)))] [.int ((nI (6 * k)) + 1), .float 1, .ref 0] h i_274_834 rfl ?_
  refine wp_sld 836 rfl i_274_835 (aIn_sc1 hk hL) ?_
  refine wp_s 837 [some (.float 1), some (.ref 0), some (.ref 382), some (.int (nI (6 * k)))] [.float 1, .int (X.2 ((nI (6 * k)) + 1).toNatClampNeg), .ref 0] h i_274_836 rfl ?_
  refine wp_s 838 [some (.float 1), some (.ref 0), some (.ref 382), some (.int (nI (6 * k)))] [.int (nI (6 * k)), .float 1, .int (X.2 ((nI (6 * k)) + 1).toNatClampNeg), .ref 0] h i_274_837 rfl ?_
  refine wp_s 839 [some (.float 1), some (.ref 0), some (.ref 382), some (.int (nI (6 * k)))] [.int (2), .int (nI (6 * k)), .float 1, .int (X.2 ((nI (6 * k)) + 1).toNatClampNeg), .ref 0] h i_274_838 rfl ?_
  refine wp_s 840 [some (.float 1), some (.ref 0), some (.ref 382), some (.int (nI (6 * k)))] [.int ((nI (6 * k)) + 2), .float 1, .int (X.2 ((nI (6 * k)) + 1).toNatClampNeg), .ref 0] h i_274_839 rfl ?_
  refine wp_sld 841 rfl i_274_840 (aIn_sc2 hk hL) ?_
  refine wp_s 842 [some (.float 1), some (.ref 0), some (.ref 382), some (.int (nI (6 * k)))] [.float 1, .int (X.2 ((nI (6 * k)) + 2).toNatClampNeg), .int (X.2 ((nI (6 * k)) + 1).toNatClampNeg), .ref 0] h i_274_841 rfl ?_
  refine wp_s 843 [some (.float 1), some (.ref 0), some (.ref 382), some (.int (nI (6 * k)))] [.int (nI (6 * k)), .float 1, .int (X.2 ((nI (6 * k)) + 2).toNatClampNeg), .int (X.2 ((nI (6 * k)) + 1).toNatClampNeg), .ref 0] h i_274_842 rfl ?_
  refine wp_s 844 [some (.float 1), some (.ref 0), some (.ref 382), some (.int (nI (6 * k)))] [.int (3), .int (nI (6 * k)), .float 1, .int (X.2 ((nI (6 * k)) + 2).toNatClampNeg), .int (X.2 ((nI (6 * k)) + 1).toNatClampNeg), .ref 0] h i_274_843 rfl ?_
  refine wp_s 845 [some (.float 1), some (.ref 0), some (.ref 382), some (.int (nI (6 * k)))] [.int ((nI (6 * k)) + 3), .float 1, .int (X.2 ((nI (6 * k)) + 2).toNatClampNeg), .int (X.2 ((nI (6 * k)) + 1).toNatClampNeg), .ref 0] h i_274_844 rfl ?_
  refine wp_sld 846 rfl i_274_845 (aIn_sc3 hk hL) ?_
  have hc := (hstep k h hk hI).2.2.2.2.2.2.2.2.2.2.2.2.2.2.2.2.2.2.2.2.2.2.2.2.2.2.1 ((X.2 ((nI (6 * k)) + 1).toNatClampNeg)) ((X.2 ((nI (6 * k)) + 2).toNatClampNeg)) ((X.2 ((nI (6 * k)) + 3).toNatClampNeg))
  refine wp_callV (d := 99) 849 rfl i_274_846 (by decide) rfl (vs := [.int (X.2 ((nI (6 * k)) + 1).toNatClampNeg), .int (X.2 ((nI (6 * k)) + 2).toNatClampNeg), .int (X.2 ((nI (6 * k)) + 3).toNatClampNeg)]) (rest := []) rfl rfl rfl h0 (y := m_128) rfl (Nat.le_of_ble_eq_true rfl) (hc.deep (by decide)) ?_
  intro v h1 hq
  obtain ⟨r, gs, rfl, hB, hq⟩ := hq
  refine wp_s 850 [some (.float 1), some (.ref 0), some (.ref 382), some (.int (nI (6 * k)))] [.ref 382, .int r] h1 i_274_849 rfl ?_
  refine wp_s 851 [some (.float 1), some (.ref 0), some (.ref 382), some (.int (nI (6 * k)))] [.float 1, .ref 382, .int r] h1 i_274_850 rfl ?_
  refine wp_s 852 [some (.float 1), some (.ref 0), some (.ref 382), some (.int (nI (6 * k)))] [.int (nI (6 * k)), .float 1, .ref 382, .int r] h1 i_274_851 rfl ?_
  refine wp_s 853 [some (.float 1), some (.ref 0), some (.ref 382), some (.int (nI (6 * k)))] [.int (1), .int (nI (6 * k)), .float 1, .ref 382, .int r] h1 i_274_852 rfl ?_
  refine wp_s 854 [some (.float 1), some (.ref 0), some (.ref 382), some (.int (nI (6 * k)))] [.int ((nI (6 * k)) + 1), .float 1, .ref 382, .int r] h1 i_274_853 rfl ?_
  refine wp_sld 855 rfl i_274_854 (aIn_sc1 hk hL) ?_
  refine wp_s 856 [some (.float 1), some (.ref 0), some (.ref 382), some (.int (nI (6 * k)))] [.float 1, .int (X.2 ((nI (6 * k)) + 1).toNatClampNeg), .ref 382, .int r] h1 i_274_855 rfl ?_
  refine wp_s 857 [some (.float 1), some (.ref 0), some (.ref 382), some (.int (nI (6 * k)))] [.int (nI (6 * k)), .float 1, .int (X.2 ((nI (6 * k)) + 1).toNatClampNeg), .ref 382, .int r] h1 i_274_856 rfl ?_
  refine wp_s 858 [some (.float 1), some (.ref 0), some (.ref 382), some (.int (nI (6 * k)))] [.int (2), .int (nI (6 * k)), .float 1, .int (X.2 ((nI (6 * k)) + 1).toNatClampNeg), .ref 382, .int r] h1 i_274_857 rfl ?_
  refine wp_s 859 [some (.float 1), some (.ref 0), some (.ref 382), some (.int (nI (6 * k)))] [.int ((nI (6 * k)) + 2), .float 1, .int (X.2 ((nI (6 * k)) + 1).toNatClampNeg), .ref 382, .int r] h1 i_274_858 rfl ?_
  refine wp_sld 860 rfl i_274_859 (aIn_sc2 hk hL) ?_
  refine wp_s 861 [some (.float 1), some (.ref 0), some (.ref 382), some (.int (nI (6 * k)))] [.float 1, .int (X.2 ((nI (6 * k)) + 2).toNatClampNeg), .int (X.2 ((nI (6 * k)) + 1).toNatClampNeg), .ref 382, .int r] h1 i_274_860 rfl ?_
  refine wp_s 862 [some (.float 1), some (.ref 0), some (.ref 382), some (.int (nI (6 * k)))] [.int (nI (6 * k)), .float 1, .int (X.2 ((nI (6 * k)) + 2).toNatClampNeg), .int (X.2 ((nI (6 * k)) + 1).toNatClampNeg), .ref 382, .int r] h1 i_274_861 rfl ?_
  refine wp_s 863 [some (.float 1), some (.ref 0), some (.ref 382), some (.int (nI (6 * k)))] [.int (3), .int (nI (6 * k)), .float 1, .int (X.2 ((nI (6 * k)) + 2).toNatClampNeg), .int (X.2 ((nI (6 * k)) + 1).toNatClampNeg), .ref 382, .int r] h1 i_274_862 rfl ?_
  refine wp_s 864 [some (.float 1), some (.ref 0), some (.ref 382), some (.int (nI (6 * k)))] [.int ((nI (6 * k)) + 3), .float 1, .int (X.2 ((nI (6 * k)) + 2).toNatClampNeg), .int (X.2 ((nI (6 * k)) + 1).toNatClampNeg), .ref 382, .int r] h1 i_274_863 rfl ?_
  refine wp_sld 865 rfl i_274_864 (aIn_sc3 hk hL) ?_
  refine wp_callV (d := 99) 868 rfl i_274_865 (by decide) rfl (vs := [.int (X.2 ((nI (6 * k)) + 1).toNatClampNeg), .int (X.2 ((nI (6 * k)) + 2).toNatClampNeg), .int (X.2 ((nI (6 * k)) + 3).toNatClampNeg)]) (rest := [.int r]) rfl rfl rfl hB (y := m_259) rfl (Nat.le_of_ble_eq_true rfl) (hq.deep (by decide)) ?_
  intro v h2 hq2
  obtain ⟨rfl, hI2⟩ := hq2
  refine wp_br (b := decide (r = r)) 1160 871 [some (.float 1), some (.ref 0), some (.ref 382), some (.int (nI (6 * k)))] [] h2 i_274_868 rfl (fun _ => ?_) (fun z => absurd rfl (of_decide_eq_false z))
  refine wp_s 1163 [some (.float 1), some (.ref 0), some (.ref 382), some (.int ((nI (6 * k)) + 6))] [] h2 i_274_1160 rfl ?_
  refine wp_s 18 [some (.float 1), some (.ref 0), some (.ref 382), some (.int ((nI (6 * k)) + 6))] [] h2 i_274_1163 rfl ?_
  exact nxt h2 hI2
set_option maxHeartbeats 4000000 in
set_option maxRecDepth 100000 in
theorem law_c27 {X : aX} {I : Nat → aH → Prop} {k : Nat} {h : aH} {fs : List Value} (hL : X.1 ≤ 3072) (hstep : ∀ k h, 6 * k + 6 ≤ X.1 → I k h → aSteps X (I (k + 1)) h) (hk : 6 * k + 6 ≤ X.1) (hI : I k h) (h0 : h[0]? = some (.inr (11, fs))) {Q : Option Value → aH → Prop} (nxt : ∀ h2, I (k + 1) h2 → aWp X 100 274 18 [some (.float 1), some (.ref 0), some (.ref 382), some (.int (nI (6 * k) + 6))] [] h2 Q) : aWp X 100 274 873 [some (.float 1), some (.ref 0), some (.ref 382), some (.int (nI (6 * k)))] [] h Q := by
  refine wp_s 874 [some (.float 1), some (.ref 0), some (.ref 382), some (.int (nI (6 * k)))] [.ref 0] h i_274_873 rfl ?_
  refine wp_s 875 [some (.float 1), some (.ref 0), some (.ref 382), some (.int (nI (6 * k)))] [.float 1, .ref 0] h i_274_874 rfl ?_
  refine wp_s 876 [some (.float 1), some (.ref 0), some (.ref 382), some (.int (nI (6 * k)))] [.int (nI (6 * k)), .float 1, .ref 0] h i_274_875 rfl ?_
  refine wp_s 877 [some (.float 1), some (.ref 0), some (.ref 382), some (.int (nI (6 * k)))] [.int (1), .int (nI (6 * k)), .float 1, .ref 0] h i_274_876 rfl ?_
  refine wp_s 878 [some (.float 1), some (.ref 0), some (.ref 382), some (.int (nI (6 * k)))] [.int ((nI (6 * k)) + 1), .float 1, .ref 0] h i_274_877 rfl ?_
  refine wp_sld 879 rfl i_274_878 (aIn_sc1 hk hL) ?_
  refine wp_s 880 [some (.float 1), some (.ref 0), some (.ref 382), some (.int (nI (6 * k)))] [.float 1, .int (X.2 ((nI (6 * k)) + 1).toNatClampNeg), .ref 0] h i_274_879 rfl ?_
  refine wp_s 881 [some (.float 1), some (.ref 0), some (.ref 382), some (.int (nI (6 * k)))] [.int (nI (6 * k)), .float 1, .int (X.2 ((nI (6 * k)) + 1).toNatClampNeg), .ref 0] h i_274_880 rfl ?_
  refine wp_s 882 [some (.float 1), some (.ref 0), some (.ref 382), some (.int (nI (6 * k)))] [.int (2), .int (nI (6 * k)), .float 1, .int (X.2 ((nI (6 * k)) + 1).toNatClampNeg), .ref 0] h i_274_881 rfl ?_
  refine wp_s 883 [some (.float 1), some (.ref 0), some (.ref 382), some (.int (nI (6 * k)))] [.int ((nI (6 * k)) + 2), .float 1, .int (X.2 ((nI (6 * k)) + 1).toNatClampNeg), .ref 0] h i_274_882 rfl ?_
  refine wp_sld 884 rfl i_274_883 (aIn_sc2 hk hL) ?_
  refine wp_s 885 [some (.float 1), some (.ref 0), some (.ref 382), some (.int (nI (6 * k)))] [.float 1, .int (X.2 ((nI (6 * k)) + 2).toNatClampNeg), .int (X.2 ((nI (6 * k)) + 1).toNatClampNeg), .ref 0] h i_274_884 rfl ?_
  refine wp_s 886 [some (.float 1), some (.ref 0), some (.ref 382), some (.int (nI (6 * k)))] [.int (nI (6 * k)), .float 1, .int (X.2 ((nI (6 * k)) + 2).toNatClampNeg), .int (X.2 ((nI (6 * k)) + 1).toNatClampNeg), .ref 0] h i_274_885 rfl ?_
  refine wp_s 887 [some (.float 1), some (.ref 0), some (.ref 382), some (.int (nI (6 * k)))] [.int (3), .int (nI (6 * k)), .float 1, .int (X.2 ((nI (6 * k)) + 2).toNatClampNeg), .int (X.2 ((nI (6 * k)) + 1).toNatClampNeg), .ref 0] h i_274_886 rfl ?_
  refine wp_s 888 [some (.float 1), some (.ref 0), some (.ref 382), some (.int (nI (6 * k)))] [.int ((nI (6 * k)) + 3), .float 1, .int (X.2 ((nI (6 * k)) + 2).toNatClampNeg), .int (X.2 ((nI (6 * k)) + 1).toNatClampNeg), .ref 0] h i_274_887 rfl ?_
  refine wp_sld 889 rfl i_274_888 (aIn_sc3 hk hL) ?_
  refine wp_s 890 [some (.float 1), some (.ref 0), some (.ref 382), some (.int (nI (6 * k)))] [.float 1, .int (X.2 ((nI (6 * k)) + 3).toNatClampNeg), .int (X.2 ((nI (6 * k)) + 2).toNatClampNeg), .int (X.2 ((nI (6 * k)) + 1).toNatClampNeg), .ref 0] h i_274_889 rfl ?_
  refine wp_s 891 [some (.float 1), some (.ref 0), some (.ref 382), some (.int (nI (6 * k)))] [.int (nI (6 * k)), .float 1, .int (X.2 ((nI (6 * k)) + 3).toNatClampNeg), .int (X.2 ((nI (6 * k)) + 2).toNatClampNeg), .int (X.2 ((nI (6 * k)) + 1).toNatClampNeg), .ref 0] h i_274_890 rfl ?_
  refine wp_s 892 [some (.float 1), some (.ref 0), some (.ref 382), some (.int (nI (6 * k)))] [.int (4), .int (nI (6 * k)), .float 1, .int (X.2 ((nI (6 * k)) + 3).toNatClampNeg), .int (X.2 ((nI (6 * k)) + 2).toNatClampNeg), .int (X.2 ((nI (6 * k)) + 1).toNatClampNeg), .ref 0] h i_274_891 rfl ?_
  refine wp_s 893 [some (.float 1), some (.ref 0), some (.ref 382), some (.int (nI (6 * k)))] [.int ((nI (6 * k)) + 4), .float 1, .int (X.2 ((nI (6 * k)) + 3).toNatClampNeg), .int (X.2 ((nI (6 * k)) + 2).toNatClampNeg), .int (X.2 ((nI (6 * k)) + 1).toNatClampNeg), .ref 0] h i_274_892 rfl ?_
  refine wp_sld 894 rfl i_274_893 (aIn_sc4 hk hL) ?_
  have hc := (hstep k h hk hI).2.2.2.2.2.2.2.2.2.2.2.2.2.2.2.2.2.2.2.2.2.2.2.2.2.2.2.1 ((X.2 ((nI (6 * k)) + 1).toNatClampNeg)) ((X.2 ((nI (6 * k)) + 2).toNatClampNeg)) ((X.2 ((nI (6 * k)) + 3).toNatClampNeg)) ((X.2 ((nI (6 * k)) + 4).toNatClampNeg))
  refine wp_callV (d := 99) 897 rfl i_274_894 (by decide) rfl (vs := [.int (X.2 ((nI (6 * k)) + 1).toNatClampNeg), .int (X.2 ((nI (6 * k)) + 2).toNatClampNeg), .int (X.2 ((nI (6 * k)) + 3).toNatClampNeg), .int (X.2 ((nI (6 * k)) + 4).toNatClampNeg)]) (rest := []) rfl rfl rfl h0 (y := m_129) rfl (Nat.le_of_ble_eq_true rfl) (hc.deep (by decide)) ?_
  intro v h1 hq
  obtain ⟨r, gs, rfl, hB, hq⟩ := hq
  refine wp_s 898 [some (.float 1), some (.ref 0), some (.ref 382), some (.int (nI (6 * k)))] [.ref 382, .int r] h1 i_274_897 rfl ?_
  refine wp_s 899 [some (.float 1), some (.ref 0), some (.ref 382), some (.int (nI (6 * k)))] [.float 1, .ref 382, .int r] h1 i_274_898 rfl ?_
  refine wp_s 900 [some (.float 1), some (.ref 0), some (.ref 382), some (.int (nI (6 * k)))] [.int (nI (6 * k)), .float 1, .ref 382, .int r] h1 i_274_899 rfl ?_
  refine wp_s 901 [some (.float 1), some (.ref 0), some (.ref 382), some (.int (nI (6 * k)))] [.int (1), .int (nI (6 * k)), .float 1, .ref 382, .int r] h1 i_274_900 rfl ?_
  refine wp_s 902 [some (.float 1), some (.ref 0), some (.ref 382), some (.int (nI (6 * k)))] [.int ((nI (6 * k)) + 1), .float 1, .ref 382, .int r] h1 i_274_901 rfl ?_
  refine wp_sld 903 rfl i_274_902 (aIn_sc1 hk hL) ?_
  refine wp_s 904 [some (.float 1), some (.ref 0), some (.ref 382), some (.int (nI (6 * k)))] [.float 1, .int (X.2 ((nI (6 * k)) + 1).toNatClampNeg), .ref 382, .int r] h1 i_274_903 rfl ?_
  refine wp_s 905 [some (.float 1), some (.ref 0), some (.ref 382), some (.int (nI (6 * k)))] [.int (nI (6 * k)), .float 1, .int (X.2 ((nI (6 * k)) + 1).toNatClampNeg), .ref 382, .int r] h1 i_274_904 rfl ?_
  refine wp_s 906 [some (.float 1), some (.ref 0), some (.ref 382), some (.int (nI (6 * k)))] [.int (2), .int (nI (6 * k)), .float 1, .int (X.2 ((nI (6 * k)) + 1).toNatClampNeg), .ref 382, .int r] h1 i_274_905 rfl ?_
  refine wp_s 907 [some (.float 1), some (.ref 0), some (.ref 382), some (.int (nI (6 * k)))] [.int ((nI (6 * k)) + 2), .float 1, .int (X.2 ((nI (6 * k)) + 1).toNatClampNeg), .ref 382, .int r] h1 i_274_906 rfl ?_
  refine wp_sld 908 rfl i_274_907 (aIn_sc2 hk hL) ?_
  refine wp_s 909 [some (.float 1), some (.ref 0), some (.ref 382), some (.int (nI (6 * k)))] [.float 1, .int (X.2 ((nI (6 * k)) + 2).toNatClampNeg), .int (X.2 ((nI (6 * k)) + 1).toNatClampNeg), .ref 382, .int r] h1 i_274_908 rfl ?_
  refine wp_s 910 [some (.float 1), some (.ref 0), some (.ref 382), some (.int (nI (6 * k)))] [.int (nI (6 * k)), .float 1, .int (X.2 ((nI (6 * k)) + 2).toNatClampNeg), .int (X.2 ((nI (6 * k)) + 1).toNatClampNeg), .ref 382, .int r] h1 i_274_909 rfl ?_
  refine wp_s 911 [some (.float 1), some (.ref 0), some (.ref 382), some (.int (nI (6 * k)))] [.int (3), .int (nI (6 * k)), .float 1, .int (X.2 ((nI (6 * k)) + 2).toNatClampNeg), .int (X.2 ((nI (6 * k)) + 1).toNatClampNeg), .ref 382, .int r] h1 i_274_910 rfl ?_
  refine wp_s 912 [some (.float 1), some (.ref 0), some (.ref 382), some (.int (nI (6 * k)))] [.int ((nI (6 * k)) + 3), .float 1, .int (X.2 ((nI (6 * k)) + 2).toNatClampNeg), .int (X.2 ((nI (6 * k)) + 1).toNatClampNeg), .ref 382, .int r] h1 i_274_911 rfl ?_
  refine wp_sld 913 rfl i_274_912 (aIn_sc3 hk hL) ?_
  refine wp_s 914 [some (.float 1), some (.ref 0), some (.ref 382), some (.int (nI (6 * k)))] [.float 1, .int (X.2 ((nI (6 * k)) + 3).toNatClampNeg), .int (X.2 ((nI (6 * k)) + 2).toNatClampNeg), .int (X.2 ((nI (6 * k)) + 1).toNatClampNeg), .ref 382, .int r] h1 i_274_913 rfl ?_
  refine wp_s 915 [some (.float 1), some (.ref 0), some (.ref 382), some (.int (nI (6 * k)))] [.int (nI (6 * k)), .float 1, .int (X.2 ((nI (6 * k)) + 3).toNatClampNeg), .int (X.2 ((nI (6 * k)) + 2).toNatClampNeg), .int (X.2 ((nI (6 * k)) + 1).toNatClampNeg), .ref 382, .int r] h1 i_274_914 rfl ?_
  refine wp_s 916 [some (.float 1), some (.ref 0), some (.ref 382), some (.int (nI (6 * k)))] [.int (4), .int (nI (6 * k)), .float 1, .int (X.2 ((nI (6 * k)) + 3).toNatClampNeg), .int (X.2 ((nI (6 * k)) + 2).toNatClampNeg), .int (X.2 ((nI (6 * k)) + 1).toNatClampNeg), .ref 382, .int r] h1 i_274_915 rfl ?_
  refine wp_s 917 [some (.float 1), some (.ref 0), some (.ref 382), some (.int (nI (6 * k)))] [.int ((nI (6 * k)) + 4), .float 1, .int (X.2 ((nI (6 * k)) + 3).toNatClampNeg), .int (X.2 ((nI (6 * k)) + 2).toNatClampNeg), .int (X.2 ((nI (6 * k)) + 1).toNatClampNeg), .ref 382, .int r] h1 i_274_916 rfl ?_
  refine wp_sld 918 rfl i_274_917 (aIn_sc4 hk hL) ?_
  refine wp_callV (d := 99) 921 rfl i_274_918 (by decide) rfl (vs := [.int (X.2 ((nI (6 * k)) + 1).toNatClampNeg), .int (X.2 ((nI (6 * k)) + 2).toNatClampNeg), .int (X.2 ((nI (6 * k)) + 3).toNatClampNeg), .int (X.2 ((nI (6 * k)) + 4).toNatClampNeg)]) (rest := [.int r]) rfl rfl rfl hB (y := m_260) rfl (Nat.le_of_ble_eq_true rfl) (hq.deep (by decide)) ?_
  intro v h2 hq2
  obtain ⟨rfl, hI2⟩ := hq2
  refine wp_br (b := decide (r = r)) 1160 924 [some (.float 1), some (.ref 0), some (.ref 382), some (.int (nI (6 * k)))] [] h2 i_274_921 rfl (fun _ => ?_) (fun z => absurd rfl (of_decide_eq_false z))
  refine wp_s 1163 [some (.float 1), some (.ref 0), some (.ref 382), some (.int ((nI (6 * k)) + 6))] [] h2 i_274_1160 rfl ?_
  refine wp_s 18 [some (.float 1), some (.ref 0), some (.ref 382), some (.int ((nI (6 * k)) + 6))] [] h2 i_274_1163 rfl ?_
  exact nxt h2 hI2
set_option maxHeartbeats 4000000 in
set_option maxRecDepth 100000 in
theorem law_c28 {X : aX} {I : Nat → aH → Prop} {k : Nat} {h : aH} {fs : List Value} (hL : X.1 ≤ 3072) (hstep : ∀ k h, 6 * k + 6 ≤ X.1 → I k h → aSteps X (I (k + 1)) h) (hk : 6 * k + 6 ≤ X.1) (hI : I k h) (h0 : h[0]? = some (.inr (11, fs))) {Q : Option Value → aH → Prop} (nxt : ∀ h2, I (k + 1) h2 → aWp X 100 274 18 [some (.float 1), some (.ref 0), some (.ref 382), some (.int (nI (6 * k) + 6))] [] h2 Q) : aWp X 100 274 926 [some (.float 1), some (.ref 0), some (.ref 382), some (.int (nI (6 * k)))] [] h Q := by
  refine wp_s 927 [some (.float 1), some (.ref 0), some (.ref 382), some (.int (nI (6 * k)))] [.ref 0] h i_274_926 rfl ?_
  refine wp_s 928 [some (.float 1), some (.ref 0), some (.ref 382), some (.int (nI (6 * k)))] [.float 1, .ref 0] h i_274_927 rfl ?_
  refine wp_s 929 [some (.float 1), some (.ref 0), some (.ref 382), some (.int (nI (6 * k)))] [.int (nI (6 * k)), .float 1, .ref 0] h i_274_928 rfl ?_
  refine wp_s 930 [some (.float 1), some (.ref 0), some (.ref 382), some (.int (nI (6 * k)))] [.int (1), .int (nI (6 * k)), .float 1, .ref 0] h i_274_929 rfl ?_
  refine wp_s 931 [some (.float 1), some (.ref 0), some (.ref 382), some (.int (nI (6 * k)))] [.int ((nI (6 * k)) + 1), .float 1, .ref 0] h i_274_930 rfl ?_
  refine wp_sld 932 rfl i_274_931 (aIn_sc1 hk hL) ?_
  have hc := (hstep k h hk hI).2.2.2.2.2.2.2.2.2.2.2.2.2.2.2.2.2.2.2.2.2.2.2.2.2.2.2.2.1 ((X.2 ((nI (6 * k)) + 1).toNatClampNeg))
  refine wp_callV (d := 99) 935 rfl i_274_932 (by decide) rfl (vs := [.int (X.2 ((nI (6 * k)) + 1).toNatClampNeg)]) (rest := []) rfl rfl rfl h0 (y := m_130) rfl (Nat.le_of_ble_eq_true rfl) (hc.deep (by decide)) ?_
  intro v h1 hq
  obtain ⟨r, gs, rfl, hB, hq⟩ := hq
  refine wp_s 936 [some (.float 1), some (.ref 0), some (.ref 382), some (.int (nI (6 * k)))] [.ref 382, .int r] h1 i_274_935 rfl ?_
  refine wp_s 937 [some (.float 1), some (.ref 0), some (.ref 382), some (.int (nI (6 * k)))] [.float 1, .ref 382, .int r] h1 i_274_936 rfl ?_
  refine wp_s 938 [some (.float 1), some (.ref 0), some (.ref 382), some (.int (nI (6 * k)))] [.int (nI (6 * k)), .float 1, .ref 382, .int r] h1 i_274_937 rfl ?_
  refine wp_s 939 [some (.float 1), some (.ref 0), some (.ref 382), some (.int (nI (6 * k)))] [.int (1), .int (nI (6 * k)), .float 1, .ref 382, .int r] h1 i_274_938 rfl ?_
  refine wp_s 940 [some (.float 1), some (.ref 0), some (.ref 382), some (.int (nI (6 * k)))] [.int ((nI (6 * k)) + 1), .float 1, .ref 382, .int r] h1 i_274_939 rfl ?_
  refine wp_sld 941 rfl i_274_940 (aIn_sc1 hk hL) ?_
  refine wp_callV (d := 99) 944 rfl i_274_941 (by decide) rfl (vs := [.int (X.2 ((nI (6 * k)) + 1).toNatClampNeg)]) (rest := [.int r]) rfl rfl rfl hB (y := m_262) rfl (Nat.le_of_ble_eq_true rfl) (hq.deep (by decide)) ?_
  intro v h2 hq2
  obtain ⟨rfl, hI2⟩ := hq2
  refine wp_br (b := decide (r = r)) 1160 947 [some (.float 1), some (.ref 0), some (.ref 382), some (.int (nI (6 * k)))] [] h2 i_274_944 rfl (fun _ => ?_) (fun z => absurd rfl (of_decide_eq_false z))
  refine wp_s 1163 [some (.float 1), some (.ref 0), some (.ref 382), some (.int ((nI (6 * k)) + 6))] [] h2 i_274_1160 rfl ?_
  refine wp_s 18 [some (.float 1), some (.ref 0), some (.ref 382), some (.int ((nI (6 * k)) + 6))] [] h2 i_274_1163 rfl ?_
  exact nxt h2 hI2
set_option maxHeartbeats 4000000 in
set_option maxRecDepth 100000 in
theorem law_c29 {X : aX} {I : Nat → aH → Prop} {k : Nat} {h : aH} {fs : List Value} (hL : X.1 ≤ 3072) (hstep : ∀ k h, 6 * k + 6 ≤ X.1 → I k h → aSteps X (I (k + 1)) h) (hk : 6 * k + 6 ≤ X.1) (hI : I k h) (h0 : h[0]? = some (.inr (11, fs))) {Q : Option Value → aH → Prop} (nxt : ∀ h2, I (k + 1) h2 → aWp X 100 274 18 [some (.float 1), some (.ref 0), some (.ref 382), some (.int (nI (6 * k) + 6))] [] h2 Q) : aWp X 100 274 949 [some (.float 1), some (.ref 0), some (.ref 382), some (.int (nI (6 * k)))] [] h Q := by
  refine wp_s 950 [some (.float 1), some (.ref 0), some (.ref 382), some (.int (nI (6 * k)))] [.ref 0] h i_274_949 rfl ?_
  refine wp_s 951 [some (.float 1), some (.ref 0), some (.ref 382), some (.int (nI (6 * k)))] [.float 1, .ref 0] h i_274_950 rfl ?_
  refine wp_s 952 [some (.float 1), some (.ref 0), some (.ref 382), some (.int (nI (6 * k)))] [.int (nI (6 * k)), .float 1, .ref 0] h i_274_951 rfl ?_
  refine wp_s 953 [some (.float 1), some (.ref 0), some (.ref 382), some (.int (nI (6 * k)))] [.int (1), .int (nI (6 * k)), .float 1, .ref 0] h i_274_952 rfl ?_
  refine wp_s 954 [some (.float 1), some (.ref 0), some (.ref 382), some (.int (nI (6 * k)))] [.int ((nI (6 * k)) + 1), .float 1, .ref 0] h i_274_953 rfl ?_
  refine wp_sld 955 rfl i_274_954 (aIn_sc1 hk hL) ?_
  refine wp_s 956 [some (.float 1), some (.ref 0), some (.ref 382), some (.int (nI (6 * k)))] [.float 1, .int (X.2 ((nI (6 * k)) + 1).toNatClampNeg), .ref 0] h i_274_955 rfl ?_
  refine wp_s 957 [some (.float 1), some (.ref 0), some (.ref 382), some (.int (nI (6 * k)))] [.int (nI (6 * k)), .float 1, .int (X.2 ((nI (6 * k)) + 1).toNatClampNeg), .ref 0] h i_274_956 rfl ?_
  refine wp_s 958 [some (.float 1), some (.ref 0), some (.ref 382), some (.int (nI (6 * k)))] [.int (2), .int (nI (6 * k)), .float 1, .int (X.2 ((nI (6 * k)) + 1).toNatClampNeg), .ref 0] h i_274_957 rfl ?_
  refine wp_s 959 [some (.float 1), some (.ref 0), some (.ref 382), some (.int (nI (6 * k)))] [.int ((nI (6 * k)) + 2), .float 1, .int (X.2 ((nI (6 * k)) + 1).toNatClampNeg), .ref 0] h i_274_958 rfl ?_
  refine wp_sld 960 rfl i_274_959 (aIn_sc2 hk hL) ?_
  refine wp_s 961 [some (.float 1), some (.ref 0), some (.ref 382), some (.int (nI (6 * k)))] [.float 1, .int (X.2 ((nI (6 * k)) + 2).toNatClampNeg), .int (X.2 ((nI (6 * k)) + 1).toNatClampNeg), .ref 0] h i_274_960 rfl ?_
  refine wp_s 962 [some (.float 1), some (.ref 0), some (.ref 382), some (.int (nI (6 * k)))] [.int (nI (6 * k)), .float 1, .int (X.2 ((nI (6 * k)) + 2).toNatClampNeg), .int (X.2 ((nI (6 * k)) + 1).toNatClampNeg), .ref 0] h i_274_961 rfl ?_
  refine wp_s 963 [some (.float 1), some (.ref 0), some (.ref 382), some (.int (nI (6 * k)))] [.int (3), .int (nI (6 * k)), .float 1, .int (X.2 ((nI (6 * k)) + 2).toNatClampNeg), .int (X.2 ((nI (6 * k)) + 1).toNatClampNeg), .ref 0] h i_274_962 rfl ?_
  refine wp_s 964 [some (.float 1), some (.ref 0), some (.ref 382), some (.int (nI (6 * k)))] [.int ((nI (6 * k)) + 3), .float 1, .int (X.2 ((nI (6 * k)) + 2).toNatClampNeg), .int (X.2 ((nI (6 * k)) + 1).toNatClampNeg), .ref 0] h i_274_963 rfl ?_
  refine wp_sld 965 rfl i_274_964 (aIn_sc3 hk hL) ?_
  have hc := (hstep k h hk hI).2.2.2.2.2.2.2.2.2.2.2.2.2.2.2.2.2.2.2.2.2.2.2.2.2.2.2.2.2.1 ((X.2 ((nI (6 * k)) + 1).toNatClampNeg)) ((X.2 ((nI (6 * k)) + 2).toNatClampNeg)) ((X.2 ((nI (6 * k)) + 3).toNatClampNeg))
  refine wp_callV (d := 99) 968 rfl i_274_965 (by decide) rfl (vs := [.int (X.2 ((nI (6 * k)) + 1).toNatClampNeg), .int (X.2 ((nI (6 * k)) + 2).toNatClampNeg), .int (X.2 ((nI (6 * k)) + 3).toNatClampNeg)]) (rest := []) rfl rfl rfl h0 (y := m_131) rfl (Nat.le_of_ble_eq_true rfl) (hc.deep (by decide)) ?_
  intro v h1 hq
  obtain ⟨r, gs, rfl, hB, hq⟩ := hq
  refine wp_s 969 [some (.float 1), some (.ref 0), some (.ref 382), some (.int (nI (6 * k)))] [.ref 382, .int r] h1 i_274_968 rfl ?_
  refine wp_s 970 [some (.float 1), some (.ref 0), some (.ref 382), some (.int (nI (6 * k)))] [.float 1, .ref 382, .int r] h1 i_274_969 rfl ?_
  refine wp_s 971 [some (.float 1), some (.ref 0), some (.ref 382), some (.int (nI (6 * k)))] [.int (nI (6 * k)), .float 1, .ref 382, .int r] h1 i_274_970 rfl ?_
  refine wp_s 972 [some (.float 1), some (.ref 0), some (.ref 382), some (.int (nI (6 * k)))] [.int (1), .int (nI (6 * k)), .float 1, .ref 382, .int r] h1 i_274_971 rfl ?_
  refine wp_s 973 [some (.float 1), some (.ref 0), some (.ref 382), some (.int (nI (6 * k)))] [.int ((nI (6 * k)) + 1), .float 1, .ref 382, .int r] h1 i_274_972 rfl ?_
  refine wp_sld 974 rfl i_274_973 (aIn_sc1 hk hL) ?_
  refine wp_s 975 [some (.float 1), some (.ref 0), some (.ref 382), some (.int (nI (6 * k)))] [.float 1, .int (X.2 ((nI (6 * k)) + 1).toNatClampNeg), .ref 382, .int r] h1 i_274_974 rfl ?_
  refine wp_s 976 [some (.float 1), some (.ref 0), some (.ref 382), some (.int (nI (6 * k)))] [.int (nI (6 * k)), .float 1, .int (X.2 ((nI (6 * k)) + 1).toNatClampNeg), .ref 382, .int r] h1 i_274_975 rfl ?_
  refine wp_s 977 [some (.float 1), some (.ref 0), some (.ref 382), some (.int (nI (6 * k)))] [.int (2), .int (nI (6 * k)), .float 1, .int (X.2 ((nI (6 * k)) + 1).toNatClampNeg), .ref 382, .int r] h1 i_274_976 rfl ?_
  refine wp_s 978 [some (.float 1), some (.ref 0), some (.ref 382), some (.int (nI (6 * k)))] [.int ((nI (6 * k)) + 2), .float 1, .int (X.2 ((nI (6 * k)) + 1).toNatClampNeg), .ref 382, .int r] h1 i_274_977 rfl ?_
  refine wp_sld 979 rfl i_274_978 (aIn_sc2 hk hL) ?_
  refine wp_s 980 [some (.float 1), some (.ref 0), some (.ref 382), some (.int (nI (6 * k)))] [.float 1, .int (X.2 ((nI (6 * k)) + 2).toNatClampNeg), .int (X.2 ((nI (6 * k)) + 1).toNatClampNeg), .ref 382, .int r] h1 i_274_979 rfl ?_
  refine wp_s 981 [some (.float 1), some (.ref 0), some (.ref 382), some (.int (nI (6 * k)))] [.int (nI (6 * k)), .float 1, .int (X.2 ((nI (6 * k)) + 2).toNatClampNeg), .int (X.2 ((nI (6 * k)) + 1).toNatClampNeg), .ref 382, .int r] h1 i_274_980 rfl ?_
  refine wp_s 982 [some (.float 1), some (.ref 0), some (.ref 382), some (.int (nI (6 * k)))] [.int (3), .int (nI (6 * k)), .float 1, .int (X.2 ((nI (6 * k)) + 2).toNatClampNeg), .int (X.2 ((nI (6 * k)) + 1).toNatClampNeg), .ref 382, .int r] h1 i_274_981 rfl ?_
  refine wp_s 983 [some (.float 1), some (.ref 0), some (.ref 382), some (.int (nI (6 * k)))] [.int ((nI (6 * k)) + 3), .float 1, .int (X.2 ((nI (6 * k)) + 2).toNatClampNeg), .int (X.2 ((nI (6 * k)) + 1).toNatClampNeg), .ref 382, .int r] h1 i_274_982 rfl ?_
  refine wp_sld 984 rfl i_274_983 (aIn_sc3 hk hL) ?_
  refine wp_callV (d := 99) 987 rfl i_274_984 (by decide) rfl (vs := [.int (X.2 ((nI (6 * k)) + 1).toNatClampNeg), .int (X.2 ((nI (6 * k)) + 2).toNatClampNeg), .int (X.2 ((nI (6 * k)) + 3).toNatClampNeg)]) (rest := [.int r]) rfl rfl rfl hB (y := m_264) rfl (Nat.le_of_ble_eq_true rfl) (hq.deep (by decide)) ?_
  intro v h2 hq2
  obtain ⟨rfl, hI2⟩ := hq2
  refine wp_br (b := decide (r = r)) 1160 990 [some (.float 1), some (.ref 0), some (.ref 382), some (.int (nI (6 * k)))] [] h2 i_274_987 rfl (fun _ => ?_) (fun z => absurd rfl (of_decide_eq_false z))
  refine wp_s 1163 [some (.float 1), some (.ref 0), some (.ref 382), some (.int ((nI (6 * k)) + 6))] [] h2 i_274_1160 rfl ?_
  refine wp_s 18 [some (.float 1), some (.ref 0), some (.ref 382), some (.int ((nI (6 * k)) + 6))] [] h2 i_274_1163 rfl ?_
  exact nxt h2 hI2
set_option maxHeartbeats 4000000 in
set_option maxRecDepth 100000 in
theorem law_c30 {X : aX} {I : Nat → aH → Prop} {k : Nat} {h : aH} {fs : List Value} (hL : X.1 ≤ 3072) (hstep : ∀ k h, 6 * k + 6 ≤ X.1 → I k h → aSteps X (I (k + 1)) h) (hk : 6 * k + 6 ≤ X.1) (hI : I k h) (h0 : h[0]? = some (.inr (11, fs))) {Q : Option Value → aH → Prop} (nxt : ∀ h2, I (k + 1) h2 → aWp X 100 274 18 [some (.float 1), some (.ref 0), some (.ref 382), some (.int (nI (6 * k) + 6))] [] h2 Q) : aWp X 100 274 992 [some (.float 1), some (.ref 0), some (.ref 382), some (.int (nI (6 * k)))] [] h Q := by
  refine wp_s 993 [some (.float 1), some (.ref 0), some (.ref 382), some (.int (nI (6 * k)))] [.ref 0] h i_274_992 rfl ?_
  refine wp_s 994 [some (.float 1), some (.ref 0), some (.ref 382), some (.int (nI (6 * k)))] [.float 1, .ref 0] h i_274_993 rfl ?_
  refine wp_s 995 [some (.float 1), some (.ref 0), some (.ref 382), some (.int (nI (6 * k)))] [.int (nI (6 * k)), .float 1, .ref 0] h i_274_994 rfl ?_
  refine wp_s 996 [some (.float 1), some (.ref 0), some (.ref 382), some (.int (nI (6 * k)))] [.int (1), .int (nI (6 * k)), .float 1, .ref 0] h i_274_995 rfl ?_
  refine wp_s 997 [some (.float 1), some (.ref 0), some (.ref 382), some (.int (nI (6 * k)))] [.int ((nI (6 * k)) + 1), .float 1, .ref 0] h i_274_996 rfl ?_
  refine wp_sld 998 rfl i_274_997 (aIn_sc1 hk hL) ?_
  refine wp_s 999 [some (.float 1), some (.ref 0), some (.ref 382), some (.int (nI (6 * k)))] [.float 1, .int (X.2 ((nI (6 * k)) + 1).toNatClampNeg), .ref 0] h i_274_998 rfl ?_
  refine wp_s 1000 [some (.float 1), some (.ref 0), some (.ref 382), some (.int (nI (6 * k)))] [.int (nI (6 * k)), .float 1, .int (X.2 ((nI (6 * k)) + 1).toNatClampNeg), .ref 0] h i_274_999 rfl ?_
  refine wp_s 1001 [some (.float 1), some (.ref 0), some (.ref 382), some (.int (nI (6 * k)))] [.int (2), .int (nI (6 * k)), .float 1, .int (X.2 ((nI (6 * k)) + 1).toNatClampNeg), .ref 0] h i_274_1000 rfl ?_
  refine wp_s 1002 [some (.float 1), some (.ref 0), some (.ref 382), some (.int (nI (6 * k)))] [.int ((nI (6 * k)) + 2), .float 1, .int (X.2 ((nI (6 * k)) + 1).toNatClampNeg), .ref 0] h i_274_1001 rfl ?_
  refine wp_sld 1003 rfl i_274_1002 (aIn_sc2 hk hL) ?_
  have hc := (hstep k h hk hI).2.2.2.2.2.2.2.2.2.2.2.2.2.2.2.2.2.2.2.2.2.2.2.2.2.2.2.2.2.2.1 ((X.2 ((nI (6 * k)) + 1).toNatClampNeg)) ((X.2 ((nI (6 * k)) + 2).toNatClampNeg))
  refine wp_callV (d := 99) 1006 rfl i_274_1003 (by decide) rfl (vs := [.int (X.2 ((nI (6 * k)) + 1).toNatClampNeg), .int (X.2 ((nI (6 * k)) + 2).toNatClampNeg)]) (rest := []) rfl rfl rfl h0 (y := m_132) rfl (Nat.le_of_ble_eq_true rfl) (hc.deep (by decide)) ?_
  intro v h1 hq
  obtain ⟨r, gs, rfl, hB, hq⟩ := hq
  refine wp_s 1007 [some (.float 1), some (.ref 0), some (.ref 382), some (.int (nI (6 * k)))] [.ref 382, .int r] h1 i_274_1006 rfl ?_
  refine wp_s 1008 [some (.float 1), some (.ref 0), some (.ref 382), some (.int (nI (6 * k)))] [.float 1, .ref 382, .int r] h1 i_274_1007 rfl ?_
  refine wp_s 1009 [some (.float 1), some (.ref 0), some (.ref 382), some (.int (nI (6 * k)))] [.int (nI (6 * k)), .float 1, .ref 382, .int r] h1 i_274_1008 rfl ?_
  refine wp_s 1010 [some (.float 1), some (.ref 0), some (.ref 382), some (.int (nI (6 * k)))] [.int (1), .int (nI (6 * k)), .float 1, .ref 382, .int r] h1 i_274_1009 rfl ?_
  refine wp_s 1011 [some (.float 1), some (.ref 0), some (.ref 382), some (.int (nI (6 * k)))] [.int ((nI (6 * k)) + 1), .float 1, .ref 382, .int r] h1 i_274_1010 rfl ?_
  refine wp_sld 1012 rfl i_274_1011 (aIn_sc1 hk hL) ?_
  refine wp_s 1013 [some (.float 1), some (.ref 0), some (.ref 382), some (.int (nI (6 * k)))] [.float 1, .int (X.2 ((nI (6 * k)) + 1).toNatClampNeg), .ref 382, .int r] h1 i_274_1012 rfl ?_
  refine wp_s 1014 [some (.float 1), some (.ref 0), some (.ref 382), some (.int (nI (6 * k)))] [.int (nI (6 * k)), .float 1, .int (X.2 ((nI (6 * k)) + 1).toNatClampNeg), .ref 382, .int r] h1 i_274_1013 rfl ?_
  refine wp_s 1015 [some (.float 1), some (.ref 0), some (.ref 382), some (.int (nI (6 * k)))] [.int (2), .int (nI (6 * k)), .float 1, .int (X.2 ((nI (6 * k)) + 1).toNatClampNeg), .ref 382, .int r] h1 i_274_1014 rfl ?_
  refine wp_s 1016 [some (.float 1), some (.ref 0), some (.ref 382), some (.int (nI (6 * k)))] [.int ((nI (6 * k)) + 2), .float 1, .int (X.2 ((nI (6 * k)) + 1).toNatClampNeg), .ref 382, .int r] h1 i_274_1015 rfl ?_
  refine wp_sld 1017 rfl i_274_1016 (aIn_sc2 hk hL) ?_
  refine wp_callV (d := 99) 1020 rfl i_274_1017 (by decide) rfl (vs := [.int (X.2 ((nI (6 * k)) + 1).toNatClampNeg), .int (X.2 ((nI (6 * k)) + 2).toNatClampNeg)]) (rest := [.int r]) rfl rfl rfl hB (y := m_265) rfl (Nat.le_of_ble_eq_true rfl) (hq.deep (by decide)) ?_
  intro v h2 hq2
  obtain ⟨rfl, hI2⟩ := hq2
  refine wp_br (b := decide (r = r)) 1160 1023 [some (.float 1), some (.ref 0), some (.ref 382), some (.int (nI (6 * k)))] [] h2 i_274_1020 rfl (fun _ => ?_) (fun z => absurd rfl (of_decide_eq_false z))
  refine wp_s 1163 [some (.float 1), some (.ref 0), some (.ref 382), some (.int ((nI (6 * k)) + 6))] [] h2 i_274_1160 rfl ?_
  refine wp_s 18 [some (.float 1), some (.ref 0), some (.ref 382), some (.int ((nI (6 * k)) + 6))] [] h2 i_274_1163 rfl ?_
  exact nxt h2 hI2
set_option maxHeartbeats 4000000 in
set_option maxRecDepth 100000 in
theorem law_c31 {X : aX} {I : Nat → aH → Prop} {k : Nat} {h : aH} {fs : List Value} (hL : X.1 ≤ 3072) (hstep : ∀ k h, 6 * k + 6 ≤ X.1 → I k h → aSteps X (I (k + 1)) h) (hk : 6 * k + 6 ≤ X.1) (hI : I k h) (h0 : h[0]? = some (.inr (11, fs))) {Q : Option Value → aH → Prop} (nxt : ∀ h2, I (k + 1) h2 → aWp X 100 274 18 [some (.float 1), some (.ref 0), some (.ref 382), some (.int (nI (6 * k) + 6))] [] h2 Q) : aWp X 100 274 1025 [some (.float 1), some (.ref 0), some (.ref 382), some (.int (nI (6 * k)))] [] h Q := by
  refine wp_s 1026 [some (.float 1), some (.ref 0), some (.ref 382), some (.int (nI (6 * k)))] [.ref 0] h i_274_1025 rfl ?_
  refine wp_s 1027 [some (.float 1), some (.ref 0), some (.ref 382), some (.int (nI (6 * k)))] [.float 1, .ref 0] h i_274_1026 rfl ?_
  refine wp_s 1028 [some (.float 1), some (.ref 0), some (.ref 382), some (.int (nI (6 * k)))] [.int (nI (6 * k)), .float 1, .ref 0] h i_274_1027 rfl ?_
  refine wp_s 1029 [some (.float 1), some (.ref 0), some (.ref 382), some (.int (nI (6 * k)))] [.int (1), .int (nI (6 * k)), .float 1, .ref 0] h i_274_1028 rfl ?_
  refine wp_s 1030 [some (.float 1), some (.ref 0), some (.ref 382), some (.int (nI (6 * k)))] [.int ((nI (6 * k)) + 1), .float 1, .ref 0] h i_274_1029 rfl ?_
  refine wp_sld 1031 rfl i_274_1030 (aIn_sc1 hk hL) ?_
  have hc := (hstep k h hk hI).2.2.2.2.2.2.2.2.2.2.2.2.2.2.2.2.2.2.2.2.2.2.2.2.2.2.2.2.2.2.2.1 ((X.2 ((nI (6 * k)) + 1).toNatClampNeg))
  refine wp_callV (d := 99) 1034 rfl i_274_1031 (by decide) rfl (vs := [.int (X.2 ((nI (6 * k)) + 1).toNatClampNeg)]) (rest := []) rfl rfl rfl h0 (y := m_133) rfl (Nat.le_of_ble_eq_true rfl) (hc.deep (by decide)) ?_
  intro v h1 hq
  obtain ⟨r, gs, rfl, hB, hq⟩ := hq
  refine wp_s 1035 [some (.float 1), some (.ref 0), some (.ref 382), some (.int (nI (6 * k)))] [.ref 382, .int r] h1 i_274_1034 rfl ?_
  refine wp_s 1036 [some (.float 1), some (.ref 0), some (.ref 382), some (.int (nI (6 * k)))] [.float 1, .ref 382, .int r] h1 i_274_1035 rfl ?_
  refine wp_s 1037 [some (.float 1), some (.ref 0), some (.ref 382), some (.int (nI (6 * k)))] [.int (nI (6 * k)), .float 1, .ref 382, .int r] h1 i_274_1036 rfl ?_
  refine wp_s 1038 [some (.float 1), some (.ref 0), some (.ref 382), some (.int (nI (6 * k)))] [.int (1), .int (nI (6 * k)), .float 1, .ref 382, .int r] h1 i_274_1037 rfl ?_
  refine wp_s 1039 [some (.float 1), some (.ref 0), some (.ref 382), some (.int (nI (6 * k)))] [.int ((nI (6 * k)) + 1), .float 1, .ref 382, .int r] h1 i_274_1038 rfl ?_
  refine wp_sld 1040 rfl i_274_1039 (aIn_sc1 hk hL) ?_
  refine wp_callV (d := 99) 1043 rfl i_274_1040 (by decide) rfl (vs := [.int (X.2 ((nI (6 * k)) + 1).toNatClampNeg)]) (rest := [.int r]) rfl rfl rfl hB (y := m_266) rfl (Nat.le_of_ble_eq_true rfl) (hq.deep (by decide)) ?_
  intro v h2 hq2
  obtain ⟨rfl, hI2⟩ := hq2
  refine wp_br (b := decide (r = r)) 1160 1046 [some (.float 1), some (.ref 0), some (.ref 382), some (.int (nI (6 * k)))] [] h2 i_274_1043 rfl (fun _ => ?_) (fun z => absurd rfl (of_decide_eq_false z))
  refine wp_s 1163 [some (.float 1), some (.ref 0), some (.ref 382), some (.int ((nI (6 * k)) + 6))] [] h2 i_274_1160 rfl ?_
  refine wp_s 18 [some (.float 1), some (.ref 0), some (.ref 382), some (.int ((nI (6 * k)) + 6))] [] h2 i_274_1163 rfl ?_
  exact nxt h2 hI2
set_option maxHeartbeats 4000000 in
set_option maxRecDepth 100000 in
theorem law_c32 {X : aX} {I : Nat → aH → Prop} {k : Nat} {h : aH} {fs : List Value} (hL : X.1 ≤ 3072) (hstep : ∀ k h, 6 * k + 6 ≤ X.1 → I k h → aSteps X (I (k + 1)) h) (hk : 6 * k + 6 ≤ X.1) (hI : I k h) (h0 : h[0]? = some (.inr (11, fs))) {Q : Option Value → aH → Prop} (nxt : ∀ h2, I (k + 1) h2 → aWp X 100 274 18 [some (.float 1), some (.ref 0), some (.ref 382), some (.int (nI (6 * k) + 6))] [] h2 Q) : aWp X 100 274 1048 [some (.float 1), some (.ref 0), some (.ref 382), some (.int (nI (6 * k)))] [] h Q := by
  refine wp_s 1049 [some (.float 1), some (.ref 0), some (.ref 382), some (.int (nI (6 * k)))] [.ref 0] h i_274_1048 rfl ?_
  refine wp_s 1050 [some (.float 1), some (.ref 0), some (.ref 382), some (.int (nI (6 * k)))] [.float 1, .ref 0] h i_274_1049 rfl ?_
  refine wp_s 1051 [some (.float 1), some (.ref 0), some (.ref 382), some (.int (nI (6 * k)))] [.int (nI (6 * k)), .float 1, .ref 0] h i_274_1050 rfl ?_
  refine wp_s 1052 [some (.float 1), some (.ref 0), some (.ref 382), some (.int (nI (6 * k)))] [.int (1), .int (nI (6 * k)), .float 1, .ref 0] h i_274_1051 rfl ?_
  refine wp_s 1053 [some (.float 1), some (.ref 0), some (.ref 382), some (.int (nI (6 * k)))] [.int ((nI (6 * k)) + 1), .float 1, .ref 0] h i_274_1052 rfl ?_
  refine wp_sld 1054 rfl i_274_1053 (aIn_sc1 hk hL) ?_
  refine wp_s 1055 [some (.float 1), some (.ref 0), some (.ref 382), some (.int (nI (6 * k)))] [.float 1, .int (X.2 ((nI (6 * k)) + 1).toNatClampNeg), .ref 0] h i_274_1054 rfl ?_
  refine wp_s 1056 [some (.float 1), some (.ref 0), some (.ref 382), some (.int (nI (6 * k)))] [.int (nI (6 * k)), .float 1, .int (X.2 ((nI (6 * k)) + 1).toNatClampNeg), .ref 0] h i_274_1055 rfl ?_
  refine wp_s 1057 [some (.float 1), some (.ref 0), some (.ref 382), some (.int (nI (6 * k)))] [.int (2), .int (nI (6 * k)), .float 1, .int (X.2 ((nI (6 * k)) + 1).toNatClampNeg), .ref 0] h i_274_1056 rfl ?_
  refine wp_s 1058 [some (.float 1), some (.ref 0), some (.ref 382), some (.int (nI (6 * k)))] [.int ((nI (6 * k)) + 2), .float 1, .int (X.2 ((nI (6 * k)) + 1).toNatClampNeg), .ref 0] h i_274_1057 rfl ?_
  refine wp_sld 1059 rfl i_274_1058 (aIn_sc2 hk hL) ?_
  refine wp_s 1060 [some (.float 1), some (.ref 0), some (.ref 382), some (.int (nI (6 * k)))] [.float 1, .int (X.2 ((nI (6 * k)) + 2).toNatClampNeg), .int (X.2 ((nI (6 * k)) + 1).toNatClampNeg), .ref 0] h i_274_1059 rfl ?_
  refine wp_s 1061 [some (.float 1), some (.ref 0), some (.ref 382), some (.int (nI (6 * k)))] [.int (nI (6 * k)), .float 1, .int (X.2 ((nI (6 * k)) + 2).toNatClampNeg), .int (X.2 ((nI (6 * k)) + 1).toNatClampNeg), .ref 0] h i_274_1060 rfl ?_
  refine wp_s 1062 [some (.float 1), some (.ref 0), some (.ref 382), some (.int (nI (6 * k)))] [.int (3), .int (nI (6 * k)), .float 1, .int (X.2 ((nI (6 * k)) + 2).toNatClampNeg), .int (X.2 ((nI (6 * k)) + 1).toNatClampNeg), .ref 0] h i_274_1061 rfl ?_
  refine wp_s 1063 [some (.float 1), some (.ref 0), some (.ref 382), some (.int (nI (6 * k)))] [.int ((nI (6 * k)) + 3), .float 1, .int (X.2 ((nI (6 * k)) + 2).toNatClampNeg), .int (X.2 ((nI (6 * k)) + 1).toNatClampNeg), .ref 0] h i_274_1062 rfl ?_
  refine wp_sld 1064 rfl i_274_1063 (aIn_sc3 hk hL) ?_
  have hc := (hstep k h hk hI).2.2.2.2.2.2.2.2.2.2.2.2.2.2.2.2.2.2.2.2.2.2.2.2.2.2.2.2.2.2.2.2.1 ((X.2 ((nI (6 * k)) + 1).toNatClampNeg)) ((X.2 ((nI (6 * k)) + 2).toNatClampNeg)) ((X.2 ((nI (6 * k)) + 3).toNatClampNeg))
  refine wp_callV (d := 99) 1067 rfl i_274_1064 (by decide) rfl (vs := [.int (X.2 ((nI (6 * k)) + 1).toNatClampNeg), .int (X.2 ((nI (6 * k)) + 2).toNatClampNeg), .int (X.2 ((nI (6 * k)) + 3).toNatClampNeg)]) (rest := []) rfl rfl rfl h0 (y := m_134) rfl (Nat.le_of_ble_eq_true rfl) (hc.deep (by decide)) ?_
  intro v h1 hq
  obtain ⟨r, gs, rfl, hB, hq⟩ := hq
  refine wp_s 1068 [some (.float 1), some (.ref 0), some (.ref 382), some (.int (nI (6 * k)))] [.ref 382, .int r] h1 i_274_1067 rfl ?_
  refine wp_s 1069 [some (.float 1), some (.ref 0), some (.ref 382), some (.int (nI (6 * k)))] [.float 1, .ref 382, .int r] h1 i_274_1068 rfl ?_
  refine wp_s 1070 [some (.float 1), some (.ref 0), some (.ref 382), some (.int (nI (6 * k)))] [.int (nI (6 * k)), .float 1, .ref 382, .int r] h1 i_274_1069 rfl ?_
  refine wp_s 1071 [some (.float 1), some (.ref 0), some (.ref 382), some (.int (nI (6 * k)))] [.int (1), .int (nI (6 * k)), .float 1, .ref 382, .int r] h1 i_274_1070 rfl ?_
  refine wp_s 1072 [some (.float 1), some (.ref 0), some (.ref 382), some (.int (nI (6 * k)))] [.int ((nI (6 * k)) + 1), .float 1, .ref 382, .int r] h1 i_274_1071 rfl ?_
  refine wp_sld 1073 rfl i_274_1072 (aIn_sc1 hk hL) ?_
  refine wp_s 1074 [some (.float 1), some (.ref 0), some (.ref 382), some (.int (nI (6 * k)))] [.float 1, .int (X.2 ((nI (6 * k)) + 1).toNatClampNeg), .ref 382, .int r] h1 i_274_1073 rfl ?_
  refine wp_s 1075 [some (.float 1), some (.ref 0), some (.ref 382), some (.int (nI (6 * k)))] [.int (nI (6 * k)), .float 1, .int (X.2 ((nI (6 * k)) + 1).toNatClampNeg), .ref 382, .int r] h1 i_274_1074 rfl ?_
  refine wp_s 1076 [some (.float 1), some (.ref 0), some (.ref 382), some (.int (nI (6 * k)))] [.int (2), .int (nI (6 * k)), .float 1, .int (X.2 ((nI (6 * k)) + 1).toNatClampNeg), .ref 382, .int r] h1 i_274_1075 rfl ?_
  refine wp_s 1077 [some (.float 1), some (.ref 0), some (.ref 382), some (.int (nI (6 * k)))] [.int ((nI (6 * k)) + 2), .float 1, .int (X.2 ((nI (6 * k)) + 1).toNatClampNeg), .ref 382, .int r] h1 i_274_1076 rfl ?_
  refine wp_sld 1078 rfl i_274_1077 (aIn_sc2 hk hL) ?_
  refine wp_s 1079 [some (.float 1), some (.ref 0), some (.ref 382), some (.int (nI (6 * k)))] [.float 1, .int (X.2 ((nI (6 * k)) + 2).toNatClampNeg), .int (X.2 ((nI (6 * k)) + 1).toNatClampNeg), .ref 382, .int r] h1 i_274_1078 rfl ?_
  refine wp_s 1080 [some (.float 1), some (.ref 0), some (.ref 382), some (.int (nI (6 * k)))] [.int (nI (6 * k)), .float 1, .int (X.2 ((nI (6 * k)) + 2).toNatClampNeg), .int (X.2 ((nI (6 * k)) + 1).toNatClampNeg), .ref 382, .int r] h1 i_274_1079 rfl ?_
  refine wp_s 1081 [some (.float 1), some (.ref 0), some (.ref 382), some (.int (nI (6 * k)))] [.int (3), .int (nI (6 * k)), .float 1, .int (X.2 ((nI (6 * k)) + 2).toNatClampNeg), .int (X.2 ((nI (6 * k)) + 1).toNatClampNeg), .ref 382, .int r] h1 i_274_1080 rfl ?_
  refine wp_s 1082 [some (.float 1), some (.ref 0), some (.ref 382), some (.int (nI (6 * k)))] [.int ((nI (6 * k)) + 3), .float 1, .int (X.2 ((nI (6 * k)) + 2).toNatClampNeg), .int (X.2 ((nI (6 * k)) + 1).toNatClampNeg), .ref 382, .int r] h1 i_274_1081 rfl ?_
  refine wp_sld 1083 rfl i_274_1082 (aIn_sc3 hk hL) ?_
  refine wp_callV (d := 99) 1086 rfl i_274_1083 (by decide) rfl (vs := [.int (X.2 ((nI (6 * k)) + 1).toNatClampNeg), .int (X.2 ((nI (6 * k)) + 2).toNatClampNeg), .int (X.2 ((nI (6 * k)) + 3).toNatClampNeg)]) (rest := [.int r]) rfl rfl rfl hB (y := m_269) rfl (Nat.le_of_ble_eq_true rfl) (hq.deep (by decide)) ?_
  intro v h2 hq2
  obtain ⟨rfl, hI2⟩ := hq2
  refine wp_br (b := decide (r = r)) 1160 1089 [some (.float 1), some (.ref 0), some (.ref 382), some (.int (nI (6 * k)))] [] h2 i_274_1086 rfl (fun _ => ?_) (fun z => absurd rfl (of_decide_eq_false z))
  refine wp_s 1163 [some (.float 1), some (.ref 0), some (.ref 382), some (.int ((nI (6 * k)) + 6))] [] h2 i_274_1160 rfl ?_
  refine wp_s 18 [some (.float 1), some (.ref 0), some (.ref 382), some (.int ((nI (6 * k)) + 6))] [] h2 i_274_1163 rfl ?_
  exact nxt h2 hI2
set_option maxHeartbeats 4000000 in
set_option maxRecDepth 100000 in
theorem law_c33 {X : aX} {I : Nat → aH → Prop} {k : Nat} {h : aH} {fs : List Value} (hL : X.1 ≤ 3072) (hstep : ∀ k h, 6 * k + 6 ≤ X.1 → I k h → aSteps X (I (k + 1)) h) (hk : 6 * k + 6 ≤ X.1) (hI : I k h) (h0 : h[0]? = some (.inr (11, fs))) {Q : Option Value → aH → Prop} (nxt : ∀ h2, I (k + 1) h2 → aWp X 100 274 18 [some (.float 1), some (.ref 0), some (.ref 382), some (.int (nI (6 * k) + 6))] [] h2 Q) : aWp X 100 274 1091 [some (.float 1), some (.ref 0), some (.ref 382), some (.int (nI (6 * k)))] [] h Q := by
  refine wp_s 1092 [some (.float 1), some (.ref 0), some (.ref 382), some (.int (nI (6 * k)))] [.ref 0] h i_274_1091 rfl ?_
  refine wp_s 1093 [some (.float 1), some (.ref 0), some (.ref 382), some (.int (nI (6 * k)))] [.float 1, .ref 0] h i_274_1092 rfl ?_
  refine wp_s 1094 [some (.float 1), some (.ref 0), some (.ref 382), some (.int (nI (6 * k)))] [.int (nI (6 * k)), .float 1, .ref 0] h i_274_1093 rfl ?_
  refine wp_s 1095 [some (.float 1), some (.ref 0), some (.ref 382), some (.int (nI (6 * k)))] [.int (1), .int (nI (6 * k)), .float 1, .ref 0] h i_274_1094 rfl ?_
  refine wp_s 1096 [some (.float 1), some (.ref 0), some (.ref 382), some (.int (nI (6 * k)))] [.int ((nI (6 * k)) + 1), .float 1, .ref 0] h i_274_1095 rfl ?_
  refine wp_sld 1097 rfl i_274_1096 (aIn_sc1 hk hL) ?_
  have hc := (hstep k h hk hI).2.2.2.2.2.2.2.2.2.2.2.2.2.2.2.2.2.2.2.2.2.2.2.2.2.2.2.2.2.2.2.2.2.1 ((X.2 ((nI (6 * k)) + 1).toNatClampNeg))
  refine wp_callV (d := 99) 1100 rfl i_274_1097 (by decide) rfl (vs := [.int (X.2 ((nI (6 * k)) + 1).toNatClampNeg)]) (rest := []) rfl rfl rfl h0 (y := m_135) rfl (Nat.le_of_ble_eq_true rfl) (hc.deep (by decide)) ?_
  intro v h1 hq
  obtain ⟨r, gs, rfl, hB, hq⟩ := hq
  refine wp_s 1101 [some (.float 1), some (.ref 0), some (.ref 382), some (.int (nI (6 * k)))] [.ref 382, .int r] h1 i_274_1100 rfl ?_
  refine wp_s 1102 [some (.float 1), some (.ref 0), some (.ref 382), some (.int (nI (6 * k)))] [.float 1, .ref 382, .int r] h1 i_274_1101 rfl ?_
  refine wp_s 1103 [some (.float 1), some (.ref 0), some (.ref 382), some (.int (nI (6 * k)))] [.int (nI (6 * k)), .float 1, .ref 382, .int r] h1 i_274_1102 rfl ?_
  refine wp_s 1104 [some (.float 1), some (.ref 0), some (.ref 382), some (.int (nI (6 * k)))] [.int (1), .int (nI (6 * k)), .float 1, .ref 382, .int r] h1 i_274_1103 rfl ?_
  refine wp_s 1105 [some (.float 1), some (.ref 0), some (.ref 382), some (.int (nI (6 * k)))] [.int ((nI (6 * k)) + 1), .float 1, .ref 382, .int r] h1 i_274_1104 rfl ?_
  refine wp_sld 1106 rfl i_274_1105 (aIn_sc1 hk hL) ?_
  refine wp_callV (d := 99) 1109 rfl i_274_1106 (by decide) rfl (vs := [.int (X.2 ((nI (6 * k)) + 1).toNatClampNeg)]) (rest := [.int r]) rfl rfl rfl hB (y := m_270) rfl (Nat.le_of_ble_eq_true rfl) (hq.deep (by decide)) ?_
  intro v h2 hq2
  obtain ⟨rfl, hI2⟩ := hq2
  refine wp_br (b := decide (r = r)) 1160 1112 [some (.float 1), some (.ref 0), some (.ref 382), some (.int (nI (6 * k)))] [] h2 i_274_1109 rfl (fun _ => ?_) (fun z => absurd rfl (of_decide_eq_false z))
  refine wp_s 1163 [some (.float 1), some (.ref 0), some (.ref 382), some (.int ((nI (6 * k)) + 6))] [] h2 i_274_1160 rfl ?_
  refine wp_s 18 [some (.float 1), some (.ref 0), some (.ref 382), some (.int ((nI (6 * k)) + 6))] [] h2 i_274_1163 rfl ?_
  exact nxt h2 hI2
set_option maxHeartbeats 4000000 in
set_option maxRecDepth 100000 in
theorem law_c34 {X : aX} {I : Nat → aH → Prop} {k : Nat} {h : aH} {fs : List Value} (hL : X.1 ≤ 3072) (hstep : ∀ k h, 6 * k + 6 ≤ X.1 → I k h → aSteps X (I (k + 1)) h) (hk : 6 * k + 6 ≤ X.1) (hI : I k h) (h0 : h[0]? = some (.inr (11, fs))) {Q : Option Value → aH → Prop} (nxt : ∀ h2, I (k + 1) h2 → aWp X 100 274 18 [some (.float 1), some (.ref 0), some (.ref 382), some (.int (nI (6 * k) + 6))] [] h2 Q) : aWp X 100 274 1114 [some (.float 1), some (.ref 0), some (.ref 382), some (.int (nI (6 * k)))] [] h Q := by
  refine wp_s 1115 [some (.float 1), some (.ref 0), some (.ref 382), some (.int (nI (6 * k)))] [.ref 0] h i_274_1114 rfl ?_
  refine wp_s 1116 [some (.float 1), some (.ref 0), some (.ref 382), some (.int (nI (6 * k)))] [.float 1, .ref 0] h i_274_1115 rfl ?_
  refine wp_s 1117 [some (.float 1), some (.ref 0), some (.ref 382), some (.int (nI (6 * k)))] [.int (nI (6 * k)), .float 1, .ref 0] h i_274_1116 rfl ?_
  refine wp_s 1118 [some (.float 1), some (.ref 0), some (.ref 382), some (.int (nI (6 * k)))] [.int (1), .int (nI (6 * k)), .float 1, .ref 0] h i_274_1117 rfl ?_
  refine wp_s 1119 [some (.float 1), some (.ref 0), some (.ref 382), some (.int (nI (6 * k)))] [.int ((nI (6 * k)) + 1), .float 1, .ref 0] h i_274_1118 rfl ?_
  refine wp_sld 1120 rfl i_274_1119 (aIn_sc1 hk hL) ?_
  have hc := (hstep k h hk hI).2.2.2.2.2.2.2.2.2.2.2.2.2.2.2.2.2.2.2.2.2.2.2.2.2.2.2.2.2.2.2.2.2.2.1 ((X.2 ((nI (6 * k)) + 1).toNatClampNeg))
  refine wp_callV (d := 99) 1123 rfl i_274_1120 (by decide) rfl (vs := [.int (X.2 ((nI (6 * k)) + 1).toNatClampNeg)]) (rest := []) rfl rfl rfl h0 (y := m_136) rfl (Nat.le_of_ble_eq_true rfl) (hc.deep (by decide)) ?_
  intro v h1 hq
  obtain ⟨r, gs, rfl, hB, hq⟩ := hq
  refine wp_s 1124 [some (.float 1), some (.ref 0), some (.ref 382), some (.int (nI (6 * k)))] [.ref 382, .int r] h1 i_274_1123 rfl ?_
  refine wp_s 1125 [some (.float 1), some (.ref 0), some (.ref 382), some (.int (nI (6 * k)))] [.float 1, .ref 382, .int r] h1 i_274_1124 rfl ?_
  refine wp_s 1126 [some (.float 1), some (.ref 0), some (.ref 382), some (.int (nI (6 * k)))] [.int (nI (6 * k)), .float 1, .ref 382, .int r] h1 i_274_1125 rfl ?_
  refine wp_s 1127 [some (.float 1), some (.ref 0), some (.ref 382), some (.int (nI (6 * k)))] [.int (1), .int (nI (6 * k)), .float 1, .ref 382, .int r] h1 i_274_1126 rfl ?_
  refine wp_s 1128 [some (.float 1), some (.ref 0), some (.ref 382), some (.int (nI (6 * k)))] [.int ((nI (6 * k)) + 1), .float 1, .ref 382, .int r] h1 i_274_1127 rfl ?_
  refine wp_sld 1129 rfl i_274_1128 (aIn_sc1 hk hL) ?_
  refine wp_callV (d := 99) 1132 rfl i_274_1129 (by decide) rfl (vs := [.int (X.2 ((nI (6 * k)) + 1).toNatClampNeg)]) (rest := [.int r]) rfl rfl rfl hB (y := m_271) rfl (Nat.le_of_ble_eq_true rfl) (hq.deep (by decide)) ?_
  intro v h2 hq2
  obtain ⟨rfl, hI2⟩ := hq2
  refine wp_br (b := decide (r = r)) 1160 1135 [some (.float 1), some (.ref 0), some (.ref 382), some (.int (nI (6 * k)))] [] h2 i_274_1132 rfl (fun _ => ?_) (fun z => absurd rfl (of_decide_eq_false z))
  refine wp_s 1163 [some (.float 1), some (.ref 0), some (.ref 382), some (.int ((nI (6 * k)) + 6))] [] h2 i_274_1160 rfl ?_
  refine wp_s 18 [some (.float 1), some (.ref 0), some (.ref 382), some (.int ((nI (6 * k)) + 6))] [] h2 i_274_1163 rfl ?_
  exact nxt h2 hI2
set_option maxHeartbeats 4000000 in
set_option maxRecDepth 100000 in
theorem law_c35 {X : aX} {I : Nat → aH → Prop} {k : Nat} {h : aH} {fs : List Value} (hL : X.1 ≤ 3072) (hstep : ∀ k h, 6 * k + 6 ≤ X.1 → I k h → aSteps X (I (k + 1)) h) (hk : 6 * k + 6 ≤ X.1) (hI : I k h) (h0 : h[0]? = some (.inr (11, fs))) {Q : Option Value → aH → Prop} (nxt : ∀ h2, I (k + 1) h2 → aWp X 100 274 18 [some (.float 1), some (.ref 0), some (.ref 382), some (.int (nI (6 * k) + 6))] [] h2 Q) : aWp X 100 274 1137 [some (.float 1), some (.ref 0), some (.ref 382), some (.int (nI (6 * k)))] [] h Q := by
  refine wp_s 1138 [some (.float 1), some (.ref 0), some (.ref 382), some (.int (nI (6 * k)))] [.ref 0] h i_274_1137 rfl ?_
  refine wp_s 1139 [some (.float 1), some (.ref 0), some (.ref 382), some (.int (nI (6 * k)))] [.float 1, .ref 0] h i_274_1138 rfl ?_
  refine wp_s 1140 [some (.float 1), some (.ref 0), some (.ref 382), some (.int (nI (6 * k)))] [.int (nI (6 * k)), .float 1, .ref 0] h i_274_1139 rfl ?_
  refine wp_s 1141 [some (.float 1), some (.ref 0), some (.ref 382), some (.int (nI (6 * k)))] [.int (1), .int (nI (6 * k)), .float 1, .ref 0] h i_274_1140 rfl ?_
  refine wp_s 1142 [some (.float 1), some (.ref 0), some (.ref 382), some (.int (nI (6 * k)))] [.int ((nI (6 * k)) + 1), .float 1, .ref 0] h i_274_1141 rfl ?_
  refine wp_sld 1143 rfl i_274_1142 (aIn_sc1 hk hL) ?_
  have hc := (hstep k h hk hI).2.2.2.2.2.2.2.2.2.2.2.2.2.2.2.2.2.2.2.2.2.2.2.2.2.2.2.2.2.2.2.2.2.2.2 ((X.2 ((nI (6 * k)) + 1).toNatClampNeg))
  refine wp_callV (d := 99) 1146 rfl i_274_1143 (by decide) rfl (vs := [.int (X.2 ((nI (6 * k)) + 1).toNatClampNeg)]) (rest := []) rfl rfl rfl h0 (y := m_137) rfl (Nat.le_of_ble_eq_true rfl) (hc.deep (by decide)) ?_
  intro v h1 hq
  obtain ⟨r, gs, rfl, hB, hq⟩ := hq
  refine wp_s 1147 [some (.float 1), some (.ref 0), some (.ref 382), some (.int (nI (6 * k)))] [.ref 382, .int r] h1 i_274_1146 rfl ?_
  refine wp_s 1148 [some (.float 1), some (.ref 0), some (.ref 382), some (.int (nI (6 * k)))] [.float 1, .ref 382, .int r] h1 i_274_1147 rfl ?_
  refine wp_s 1149 [some (.float 1), some (.ref 0), some (.ref 382), some (.int (nI (6 * k)))] [.int (nI (6 * k)), .float 1, .ref 382, .int r] h1 i_274_1148 rfl ?_
  refine wp_s 1150 [some (.float 1), some (.ref 0), some (.ref 382), some (.int (nI (6 * k)))] [.int (1), .int (nI (6 * k)), .float 1, .ref 382, .int r] h1 i_274_1149 rfl ?_
  refine wp_s 1151 [some (.float 1), some (.ref 0), some (.ref 382), some (.int (nI (6 * k)))] [.int ((nI (6 * k)) + 1), .float 1, .ref 382, .int r] h1 i_274_1150 rfl ?_
  refine wp_sld 1152 rfl i_274_1151 (aIn_sc1 hk hL) ?_
  refine wp_callV (d := 99) 1155 rfl i_274_1152 (by decide) rfl (vs := [.int (X.2 ((nI (6 * k)) + 1).toNatClampNeg)]) (rest := [.int r]) rfl rfl rfl hB (y := m_272) rfl (Nat.le_of_ble_eq_true rfl) (hq.deep (by decide)) ?_
  intro v h2 hq2
  obtain ⟨rfl, hI2⟩ := hq2
  refine wp_br (b := decide (r = r)) 1160 1158 [some (.float 1), some (.ref 0), some (.ref 382), some (.int (nI (6 * k)))] [] h2 i_274_1155 rfl (fun _ => ?_) (fun z => absurd rfl (of_decide_eq_false z))
  refine wp_s 1163 [some (.float 1), some (.ref 0), some (.ref 382), some (.int ((nI (6 * k)) + 6))] [] h2 i_274_1160 rfl ?_
  refine wp_s 18 [some (.float 1), some (.ref 0), some (.ref 382), some (.int ((nI (6 * k)) + 6))] [] h2 i_274_1163 rfl ?_
  exact nxt h2 hI2
set_option maxHeartbeats 4000000 in
set_option maxRecDepth 100000 in
theorem law_case {X : aX} {I : Nat → aH → Prop} {k : Nat} {h : aH} {fs : List Value} (hL : X.1 ≤ 3072) (hstep : ∀ k h, 6 * k + 6 ≤ X.1 → I k h → aSteps X (I (k + 1)) h) (hk : 6 * k + 6 ≤ X.1) (hI : I k h) (h0 : h[0]? = some (.inr (11, fs))) {Q : Option Value → aH → Prop} (nxt : ∀ h2, I (k + 1) h2 → aWp X 100 274 18 [some (.float 1), some (.ref 0), some (.ref 382), some (.int (nI (6 * k) + 6))] [] h2 Q) {j : Nat} (hj36 : j < 36) (hjx : (nI j).toInt = (j : Int)) : aWp X 100 274 33 [some (.float 1), some (.ref 0), some (.ref 382), some (.int (nI (6 * k)))] [.int (nI j)] h Q := by
  match j, hj36, hjx with
  | 0, _, hjx => exact wp_tsw 192 i_274_33 hjx (by decide) rfl rfl (law_c0 hL hstep hk hI h0 nxt)
  | 1, _, hjx => exact wp_tsw 255 i_274_33 hjx (by decide) rfl rfl (law_c1 hL hstep hk hI h0 nxt)
  | 2, _, hjx => exact wp_tsw 278 i_274_33 hjx (by decide) rfl rfl (law_c2 hL hstep hk hI h0 nxt)
  | 3, _, hjx => exact wp_tsw 291 i_274_33 hjx (by decide) rfl rfl (law_c3 hL hstep hk hI h0 nxt)
  | 4, _, hjx => exact wp_tsw 304 i_274_33 hjx (by decide) rfl rfl (law_c4 hL hstep hk hI h0 nxt)
  | 5, _, hjx => exact wp_tsw 327 i_274_33 hjx (by decide) rfl rfl (law_c5 hL hstep hk hI h0 nxt)
  | 6, _, hjx => exact wp_tsw 360 i_274_33 hjx (by decide) rfl rfl (law_c6 hL hstep hk hI h0 nxt)
  | 7, _, hjx => exact wp_tsw 393 i_274_33 hjx (by decide) rfl rfl (law_c7 hL hstep hk hI h0 nxt)
  | 8, _, hjx => exact wp_tsw 426 i_274_33 hjx (by decide) rfl rfl (law_c8 hL hstep hk hI h0 nxt)
  | 9, _, hjx => exact wp_tsw 469 i_274_33 hjx (by decide) rfl rfl (law_c9 hL hstep hk hI h0 nxt)
  | 10, _, hjx => exact wp_tsw 492 i_274_33 hjx (by decide) rfl rfl (law_c10 hL hstep hk hI h0 nxt)
  | 11, _, hjx => exact wp_tsw 515 i_274_33 hjx (by decide) rfl rfl (law_c11 hL hstep hk hI h0 nxt)
  | 12, _, hjx => exact wp_tsw 538 i_274_33 hjx (by decide) rfl rfl (law_c12 hL hstep hk hI h0 nxt)
  | 13, _, hjx => exact wp_tsw 561 i_274_33 hjx (by decide) rfl rfl (law_c13 hL hstep hk hI h0 nxt)
  | 14, _, hjx => exact wp_tsw 584 i_274_33 hjx (by decide) rfl rfl (law_c14 hL hstep hk hI h0 nxt)
  | 15, _, hjx => exact wp_tsw 607 i_274_33 hjx (by decide) rfl rfl (law_c15 hL hstep hk hI h0 nxt)
  | 16, _, hjx => exact wp_tsw 620 i_274_33 hjx (by decide) rfl rfl (law_c16 hL hstep hk hI h0 nxt)
  | 17, _, hjx => exact wp_tsw 643 i_274_33 hjx (by decide) rfl rfl (law_c17 hL hstep hk hI h0 nxt)
  | 18, _, hjx => exact wp_tsw 656 i_274_33 hjx (by decide) rfl rfl (law_c18 hL hstep hk hI h0 nxt)
  | 19, _, hjx => exact wp_tsw 669 i_274_33 hjx (by decide) rfl rfl (law_c19 hL hstep hk hI h0 nxt)
  | 20, _, hjx => exact wp_tsw 692 i_274_33 hjx (by decide) rfl rfl (law_c20 hL hstep hk hI h0 nxt)
  | 21, _, hjx => exact wp_tsw 715 i_274_33 hjx (by decide) rfl rfl (law_c21 hL hstep hk hI h0 nxt)
  | 22, _, hjx => exact wp_tsw 738 i_274_33 hjx (by decide) rfl rfl (law_c22 hL hstep hk hI h0 nxt)
  | 23, _, hjx => exact wp_tsw 761 i_274_33 hjx (by decide) rfl rfl (law_c23 hL hstep hk hI h0 nxt)
  | 24, _, hjx => exact wp_tsw 784 i_274_33 hjx (by decide) rfl rfl (law_c24 hL hstep hk hI h0 nxt)
  | 25, _, hjx => exact wp_tsw 807 i_274_33 hjx (by decide) rfl rfl (law_c25 hL hstep hk hI h0 nxt)
  | 26, _, hjx => exact wp_tsw 830 i_274_33 hjx (by decide) rfl rfl (law_c26 hL hstep hk hI h0 nxt)
  | 27, _, hjx => exact wp_tsw 873 i_274_33 hjx (by decide) rfl rfl (law_c27 hL hstep hk hI h0 nxt)
  | 28, _, hjx => exact wp_tsw 926 i_274_33 hjx (by decide) rfl rfl (law_c28 hL hstep hk hI h0 nxt)
  | 29, _, hjx => exact wp_tsw 949 i_274_33 hjx (by decide) rfl rfl (law_c29 hL hstep hk hI h0 nxt)
  | 30, _, hjx => exact wp_tsw 992 i_274_33 hjx (by decide) rfl rfl (law_c30 hL hstep hk hI h0 nxt)
  | 31, _, hjx => exact wp_tsw 1025 i_274_33 hjx (by decide) rfl rfl (law_c31 hL hstep hk hI h0 nxt)
  | 32, _, hjx => exact wp_tsw 1048 i_274_33 hjx (by decide) rfl rfl (law_c32 hL hstep hk hI h0 nxt)
  | 33, _, hjx => exact wp_tsw 1091 i_274_33 hjx (by decide) rfl rfl (law_c33 hL hstep hk hI h0 nxt)
  | 34, _, hjx => exact wp_tsw 1114 i_274_33 hjx (by decide) rfl rfl (law_c34 hL hstep hk hI h0 nxt)
  | 35, _, hjx => exact wp_tsw 1137 i_274_33 hjx (by decide) rfl rfl (law_c35 hL hstep hk hI h0 nxt)
  | n + 36, hj, _ => exact absurd hj (by omega)
set_option maxHeartbeats 16000000 in
set_option maxRecDepth 100000 in
theorem law_loop {X : aX} {N : Nat} {I : Nat → aH → Prop} (hN : N ≤ 3072) (hX : X.1 ≤ N) (h00 : ∀ k h, 6 * k + 6 ≤ X.1 → I k h → ∃ fs, h[0]? = some (.inr (11, fs))) (hstep : ∀ k h, 6 * k + 6 ≤ X.1 → I k h → aSteps X (I (k + 1)) h) (hfree : ∀ k h, 6 * k + 6 ≤ X.1 → I k h → I (k + 1) h) : ∀ (n k : Nat) (h : aH), X.1 ≤ 6 * k + n → 6 * k ≤ X.1 + 5 → I k h → aWp X 100 274 18 [some (.float 1), some (.ref 0), some (.ref 382), some (.int (nI (6 * k)))] [] h (fun v h' => v = some (.int 1) ∧ ∃ k', 6 * k' ≤ X.1 + 5 ∧ I k' h') := by
  have hL : X.1 ≤ 3072 := by omega
  intro n
  induction n using Nat.strongRecOn with
  | ind n ih =>
    intro k h hn hk5 hI
    refine wp_s 19 [some (.float 1), some (.ref 0), some (.ref 382), some (.int (nI (6 * k)))] [.int (nI (6 * k))] h i_274_18 rfl ?_
    refine wp_s 20 [some (.float 1), some (.ref 0), some (.ref 382), some (.int (nI (6 * k)))] [.float 1, .int (nI (6 * k))] h i_274_19 rfl ?_
    refine wp_s 21 [some (.float 1), some (.ref 0), some (.ref 382), some (.int (nI (6 * k)))] [.int (Int32.ofNat X.1), .int (nI (6 * k))] h i_274_20 rfl ?_
    refine wp_s 23 [some (.float 1), some (.ref 0), some (.ref 382), some (.int (nI (6 * k)))] [.int 6, .int (Int32.ofNat X.1), .int (nI (6 * k))] h i_274_21 rfl ?_
    refine wp_s 24 [some (.float 1), some (.ref 0), some (.ref 382), some (.int (nI (6 * k)))] [.int (Int32.ofNat X.1 - 6), .int (nI (6 * k))] h i_274_23 rfl ?_
    refine wp_br (b := decide (Int32.ofNat X.1 - 6 < (nI (6 * k)))) 1166 27 [some (.float 1), some (.ref 0), some (.ref 382), some (.int (nI (6 * k)))] [] h i_274_24 rfl (fun hc => ?_) (fun hc => ?_)
    · refine wp_s 1167 [some (.float 1), some (.ref 0), some (.ref 382), some (.int (nI (6 * k)))] [.int 1] h i_274_1166 rfl ?_
      exact wp_ret i_274_1167 rfl ⟨rfl, k, hk5, hI⟩
    · have hk : 6 * k + 6 ≤ X.1 := by
        have h1 := of_decide_eq_false hc
        rw [aL_end hL (by omega)] at h1
        omega
      obtain ⟨fs, h0⟩ := h00 k h hk hI
      refine wp_s 28 [some (.float 1), some (.ref 0), some (.ref 382), some (.int (nI (6 * k)))] [.float 1] h i_274_27 rfl ?_
      refine wp_s 29 [some (.float 1), some (.ref 0), some (.ref 382), some (.int (nI (6 * k)))] [.int (nI (6 * k)), .float 1] h i_274_28 rfl ?_
      refine wp_sld 30 rfl i_274_29 (aIn_sc0 hk hL) ?_
      refine wp_s 32 [some (.float 1), some (.ref 0), some (.ref 382), some (.int (nI (6 * k)))] [.int 63, .int (X.2 (nI (6 * k)).toNatClampNeg)] h i_274_30 rfl ?_
      refine wp_s 33 [some (.float 1), some (.ref 0), some (.ref 382), some (.int (nI (6 * k)))] [.int (X.2 (nI (6 * k)).toNatClampNeg &&& 63)] h i_274_32 rfl ?_
      obtain ⟨j, hj, hx⟩ := pk_andE (X.2 (nI (6 * k)).toNatClampNeg) (m := 63) 6 (by decide)
      rw [hx]
      have nxt : ∀ h2, I (k + 1) h2 → aWp X 100 274 18 [some (.float 1), some (.ref 0), some (.ref 382), some (.int ((nI (6 * k)) + 6))] [] h2 (fun v h' => v = some (.int 1) ∧ ∃ k', 6 * k' ≤ X.1 + 5 ∧ I k' h') := by
        intro h2 hI2
        have e6 : (nI (6 * k)) + 6 = nI (6 * (k + 1)) := by rw [show 6 * (k + 1) = 6 * k + 6 by omega]; exact nI_add (6 * k) 6
        rw [e6]
        exact ih (n - 6) (by omega) (k + 1) h2 (by omega) (by omega) hI2
      by_cases hj36 : j < 36
      · have hjx : (nI j).toInt = (j : Int) := nI_toInt (by omega)
        exact law_case hL hstep hk hI h0 nxt hj36 hjx
      · have hjx : (nI j).toInt = (j : Int) := nI_toInt (by omega)
        refine wp_tswD 1160 i_274_33 (Or.inr (by rw [hjx]; omega)) rfl ?_
        refine wp_s 1163 [some (.float 1), some (.ref 0), some (.ref 382), some (.int ((nI (6 * k)) + 6))] [] h i_274_1160 rfl ?_
        refine wp_s 18 [some (.float 1), some (.ref 0), some (.ref 382), some (.int ((nI (6 * k)) + 6))] [] h i_274_1163 rfl ?_
        exact nxt h (hfree k h hk hI)
