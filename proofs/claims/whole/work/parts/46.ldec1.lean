theorem tc_dL_0 : decode code 0 = .ok (.new 7, 3) := by decide +kernel
theorem tc_dL_3 : decode code 3 = .ok (.dup, 1) := by decide +kernel
theorem tc_dL_4 : decode code 4 = .ok (.invokespecial 9, 3) := by decide +kernel
theorem tc_dL_7 : decode code 7 = .ok (.astore_n 1, 1) := by decide +kernel
theorem tc_dL_8 : decode code 8 = .ok (.new 10, 3) := by decide +kernel
theorem tc_dL_11 : decode code 11 = .ok (.dup, 1) := by decide +kernel
theorem tc_dL_12 : decode code 12 = .ok (.invokespecial 12, 3) := by decide +kernel
theorem tc_dL_15 : decode code 15 = .ok (.astore_n 2, 1) := by decide +kernel
theorem tc_dL_16 : decode code 16 = .ok (.iconst 0, 1) := by decide +kernel
theorem tc_dL_17 : decode code 17 = .ok (.istore_n 3, 1) := by decide +kernel
theorem tc_dL_18 : decode code 18 = .ok (.iload_n 3, 1) := by decide +kernel
theorem tc_dL_19 : decode code 19 = .ok (.aload_n 0, 1) := by decide +kernel
theorem tc_dL_20 : decode code 20 = .ok (.arraylength, 1) := by decide +kernel
theorem tc_dL_21 : decode code 21 = .ok (.bipush 7, 2) := by decide +kernel
theorem tc_dL_23 : decode code 23 = .ok (.isub, 1) := by decide +kernel
theorem tc_dL_24 : decode code 24 = .ok (.if_icmp .gt 1341, 3) := by decide +kernel
theorem tc_dL_27 : decode code 27 = .ok (.aload_n 0, 1) := by decide +kernel
theorem tc_dL_28 : decode code 28 = .ok (.iload_n 3, 1) := by decide +kernel
theorem tc_dL_29 : decode code 29 = .ok (.iaload, 1) := by decide +kernel
theorem tc_dL_30 : decode code 30 = .ok (.bipush 63, 2) := by decide +kernel
theorem tc_dL_32 : decode code 32 = .ok (.iand, 1) := by decide +kernel
theorem tc_dL_33 : decode code 33 = .ok (.tableswitch 1326 0 36 #[163, 216, 229, 272, 305, 338, 371, 404, 417, 450, 483, 516, 539, 552, 575, 598, 621, 654, 677, 700, 723, 746, 769, 792, 805, 838, 901, 944, 987, 1062, 1075, 1088, 1101, 1154, 1177, 1220, 1263], 163) := by decide +kernel
theorem tc_dL_196 : decode code 196 = .ok (.aload_n 1, 1) := by decide +kernel
theorem tc_dL_197 : decode code 197 = .ok (.aload_n 0, 1) := by decide +kernel
theorem tc_dL_198 : decode code 198 = .ok (.iload_n 3, 1) := by decide +kernel
theorem tc_dL_199 : decode code 199 = .ok (.iconst 1, 1) := by decide +kernel
theorem tc_dL_200 : decode code 200 = .ok (.iadd, 1) := by decide +kernel
theorem tc_dL_201 : decode code 201 = .ok (.iaload, 1) := by decide +kernel
theorem tc_dL_202 : decode code 202 = .ok (.aload_n 0, 1) := by decide +kernel
theorem tc_dL_203 : decode code 203 = .ok (.iload_n 3, 1) := by decide +kernel
theorem tc_dL_204 : decode code 204 = .ok (.iconst 2, 1) := by decide +kernel
theorem tc_dL_205 : decode code 205 = .ok (.iadd, 1) := by decide +kernel
theorem tc_dL_206 : decode code 206 = .ok (.iaload, 1) := by decide +kernel
theorem tc_dL_207 : decode code 207 = .ok (.aload_n 0, 1) := by decide +kernel
theorem tc_dL_208 : decode code 208 = .ok (.iload_n 3, 1) := by decide +kernel
theorem tc_dL_209 : decode code 209 = .ok (.iconst 3, 1) := by decide +kernel
theorem tc_dL_210 : decode code 210 = .ok (.iadd, 1) := by decide +kernel
theorem tc_dL_211 : decode code 211 = .ok (.iaload, 1) := by decide +kernel
theorem tc_dL_212 : decode code 212 = .ok (.aload_n 0, 1) := by decide +kernel
theorem tc_dL_213 : decode code 213 = .ok (.iload_n 3, 1) := by decide +kernel
theorem tc_dL_214 : decode code 214 = .ok (.iconst 4, 1) := by decide +kernel
theorem tc_dL_215 : decode code 215 = .ok (.iadd, 1) := by decide +kernel
theorem tc_dL_216 : decode code 216 = .ok (.iaload, 1) := by decide +kernel
theorem tc_dL_217 : decode code 217 = .ok (.invokevirtual 13, 3) := by decide +kernel
theorem tc_dL_220 : decode code 220 = .ok (.aload_n 2, 1) := by decide +kernel
theorem tc_dL_221 : decode code 221 = .ok (.aload_n 0, 1) := by decide +kernel
theorem tc_dL_222 : decode code 222 = .ok (.iload_n 3, 1) := by decide +kernel
theorem tc_dL_223 : decode code 223 = .ok (.iconst 1, 1) := by decide +kernel
theorem tc_dL_224 : decode code 224 = .ok (.iadd, 1) := by decide +kernel
theorem tc_dL_225 : decode code 225 = .ok (.iaload, 1) := by decide +kernel
theorem tc_dL_226 : decode code 226 = .ok (.aload_n 0, 1) := by decide +kernel
theorem tc_dL_227 : decode code 227 = .ok (.iload_n 3, 1) := by decide +kernel
theorem tc_dL_228 : decode code 228 = .ok (.iconst 2, 1) := by decide +kernel
theorem tc_dL_229 : decode code 229 = .ok (.iadd, 1) := by decide +kernel
theorem tc_dL_230 : decode code 230 = .ok (.iaload, 1) := by decide +kernel
theorem tc_dL_231 : decode code 231 = .ok (.aload_n 0, 1) := by decide +kernel
theorem tc_dL_232 : decode code 232 = .ok (.iload_n 3, 1) := by decide +kernel
theorem tc_dL_233 : decode code 233 = .ok (.iconst 3, 1) := by decide +kernel
theorem tc_dL_234 : decode code 234 = .ok (.iadd, 1) := by decide +kernel
theorem tc_dL_235 : decode code 235 = .ok (.iaload, 1) := by decide +kernel
theorem tc_dL_236 : decode code 236 = .ok (.aload_n 0, 1) := by decide +kernel
theorem tc_dL_237 : decode code 237 = .ok (.iload_n 3, 1) := by decide +kernel
theorem tc_dL_238 : decode code 238 = .ok (.iconst 4, 1) := by decide +kernel
theorem tc_dL_239 : decode code 239 = .ok (.iadd, 1) := by decide +kernel
theorem tc_dL_240 : decode code 240 = .ok (.iaload, 1) := by decide +kernel
theorem tc_dL_241 : decode code 241 = .ok (.invokevirtual 17, 3) := by decide +kernel
theorem tc_dL_244 : decode code 244 = .ok (.if_icmp .eq 1115, 3) := by decide +kernel
theorem tc_dL_247 : decode code 247 = .ok (.iconst 0, 1) := by decide +kernel
theorem tc_dL_248 : decode code 248 = .ok (.ireturn, 1) := by decide +kernel
theorem tc_dL_249 : decode code 249 = .ok (.aload_n 1, 1) := by decide +kernel
theorem tc_dL_250 : decode code 250 = .ok (.invokevirtual 18, 3) := by decide +kernel
theorem tc_dL_253 : decode code 253 = .ok (.aload_n 2, 1) := by decide +kernel
theorem tc_dL_254 : decode code 254 = .ok (.invokevirtual 22, 3) := by decide +kernel
theorem tc_dL_257 : decode code 257 = .ok (.if_icmp .eq 1102, 3) := by decide +kernel
theorem tc_dL_260 : decode code 260 = .ok (.iconst 0, 1) := by decide +kernel
theorem tc_dL_261 : decode code 261 = .ok (.ireturn, 1) := by decide +kernel
theorem tc_dL_262 : decode code 262 = .ok (.aload_n 1, 1) := by decide +kernel
theorem tc_dL_263 : decode code 263 = .ok (.aload_n 0, 1) := by decide +kernel
theorem tc_dL_264 : decode code 264 = .ok (.iload_n 3, 1) := by decide +kernel
theorem tc_dL_265 : decode code 265 = .ok (.iconst 1, 1) := by decide +kernel
theorem tc_dL_266 : decode code 266 = .ok (.iadd, 1) := by decide +kernel
theorem tc_dL_267 : decode code 267 = .ok (.iaload, 1) := by decide +kernel
theorem tc_dL_268 : decode code 268 = .ok (.aload_n 0, 1) := by decide +kernel
theorem tc_dL_269 : decode code 269 = .ok (.iload_n 3, 1) := by decide +kernel
theorem tc_dL_270 : decode code 270 = .ok (.iconst 2, 1) := by decide +kernel
theorem tc_dL_271 : decode code 271 = .ok (.iadd, 1) := by decide +kernel
theorem tc_dL_272 : decode code 272 = .ok (.iaload, 1) := by decide +kernel
theorem tc_dL_273 : decode code 273 = .ok (.aload_n 0, 1) := by decide +kernel
theorem tc_dL_274 : decode code 274 = .ok (.iload_n 3, 1) := by decide +kernel
theorem tc_dL_275 : decode code 275 = .ok (.iconst 3, 1) := by decide +kernel
theorem tc_dL_276 : decode code 276 = .ok (.iadd, 1) := by decide +kernel
theorem tc_dL_277 : decode code 277 = .ok (.iaload, 1) := by decide +kernel
theorem tc_dL_278 : decode code 278 = .ok (.invokevirtual 23, 3) := by decide +kernel
theorem tc_dL_281 : decode code 281 = .ok (.aload_n 2, 1) := by decide +kernel
theorem tc_dL_282 : decode code 282 = .ok (.aload_n 0, 1) := by decide +kernel
theorem tc_dL_283 : decode code 283 = .ok (.iload_n 3, 1) := by decide +kernel
theorem tc_dL_284 : decode code 284 = .ok (.iconst 1, 1) := by decide +kernel
theorem tc_dL_285 : decode code 285 = .ok (.iadd, 1) := by decide +kernel
theorem tc_dL_286 : decode code 286 = .ok (.iaload, 1) := by decide +kernel
theorem tc_dL_287 : decode code 287 = .ok (.aload_n 0, 1) := by decide +kernel
theorem tc_dL_288 : decode code 288 = .ok (.iload_n 3, 1) := by decide +kernel
theorem tc_dL_289 : decode code 289 = .ok (.iconst 2, 1) := by decide +kernel
theorem tc_dL_290 : decode code 290 = .ok (.iadd, 1) := by decide +kernel
theorem tc_dL_291 : decode code 291 = .ok (.iaload, 1) := by decide +kernel
theorem tc_dL_292 : decode code 292 = .ok (.aload_n 0, 1) := by decide +kernel
theorem tc_dL_293 : decode code 293 = .ok (.iload_n 3, 1) := by decide +kernel
theorem tc_dL_294 : decode code 294 = .ok (.iconst 3, 1) := by decide +kernel
theorem tc_dL_295 : decode code 295 = .ok (.iadd, 1) := by decide +kernel
theorem tc_dL_296 : decode code 296 = .ok (.iaload, 1) := by decide +kernel
theorem tc_dL_297 : decode code 297 = .ok (.invokevirtual 27, 3) := by decide +kernel
theorem tc_dL_300 : decode code 300 = .ok (.if_icmp .eq 1059, 3) := by decide +kernel
theorem tc_dL_303 : decode code 303 = .ok (.iconst 0, 1) := by decide +kernel
theorem tc_dL_304 : decode code 304 = .ok (.ireturn, 1) := by decide +kernel
theorem tc_dL_305 : decode code 305 = .ok (.aload_n 1, 1) := by decide +kernel
theorem tc_dL_306 : decode code 306 = .ok (.aload_n 0, 1) := by decide +kernel
theorem tc_dL_307 : decode code 307 = .ok (.iload_n 3, 1) := by decide +kernel
theorem tc_dL_308 : decode code 308 = .ok (.iconst 1, 1) := by decide +kernel
theorem tc_dL_309 : decode code 309 = .ok (.iadd, 1) := by decide +kernel
theorem tc_dL_310 : decode code 310 = .ok (.iaload, 1) := by decide +kernel
theorem tc_dL_311 : decode code 311 = .ok (.aload_n 0, 1) := by decide +kernel
theorem tc_dL_312 : decode code 312 = .ok (.iload_n 3, 1) := by decide +kernel
theorem tc_dL_313 : decode code 313 = .ok (.iconst 2, 1) := by decide +kernel
theorem tc_dL_314 : decode code 314 = .ok (.iadd, 1) := by decide +kernel
theorem tc_dL_315 : decode code 315 = .ok (.iaload, 1) := by decide +kernel
theorem tc_dL_316 : decode code 316 = .ok (.invokevirtual 28, 3) := by decide +kernel
theorem tc_dL_319 : decode code 319 = .ok (.aload_n 2, 1) := by decide +kernel
theorem tc_dL_320 : decode code 320 = .ok (.aload_n 0, 1) := by decide +kernel
theorem tc_dL_321 : decode code 321 = .ok (.iload_n 3, 1) := by decide +kernel
theorem tc_dL_322 : decode code 322 = .ok (.iconst 1, 1) := by decide +kernel
theorem tc_dL_323 : decode code 323 = .ok (.iadd, 1) := by decide +kernel
theorem tc_dL_324 : decode code 324 = .ok (.iaload, 1) := by decide +kernel
theorem tc_dL_325 : decode code 325 = .ok (.aload_n 0, 1) := by decide +kernel
theorem tc_dL_326 : decode code 326 = .ok (.iload_n 3, 1) := by decide +kernel
theorem tc_dL_327 : decode code 327 = .ok (.iconst 2, 1) := by decide +kernel
theorem tc_dL_328 : decode code 328 = .ok (.iadd, 1) := by decide +kernel
theorem tc_dL_329 : decode code 329 = .ok (.iaload, 1) := by decide +kernel
theorem tc_dL_330 : decode code 330 = .ok (.invokevirtual 32, 3) := by decide +kernel
theorem tc_dL_333 : decode code 333 = .ok (.if_icmp .eq 1026, 3) := by decide +kernel
theorem tc_dL_336 : decode code 336 = .ok (.iconst 0, 1) := by decide +kernel
theorem tc_dL_337 : decode code 337 = .ok (.ireturn, 1) := by decide +kernel
theorem tc_dL_338 : decode code 338 = .ok (.aload_n 1, 1) := by decide +kernel
theorem tc_dL_339 : decode code 339 = .ok (.aload_n 0, 1) := by decide +kernel
theorem tc_dL_340 : decode code 340 = .ok (.iload_n 3, 1) := by decide +kernel
theorem tc_dL_341 : decode code 341 = .ok (.iconst 1, 1) := by decide +kernel
theorem tc_dL_342 : decode code 342 = .ok (.iadd, 1) := by decide +kernel
theorem tc_dL_343 : decode code 343 = .ok (.iaload, 1) := by decide +kernel
theorem tc_dL_344 : decode code 344 = .ok (.aload_n 0, 1) := by decide +kernel
theorem tc_dL_345 : decode code 345 = .ok (.iload_n 3, 1) := by decide +kernel
theorem tc_dL_346 : decode code 346 = .ok (.iconst 2, 1) := by decide +kernel
theorem tc_dL_347 : decode code 347 = .ok (.iadd, 1) := by decide +kernel
theorem tc_dL_348 : decode code 348 = .ok (.iaload, 1) := by decide +kernel
theorem tc_dL_349 : decode code 349 = .ok (.invokevirtual 33, 3) := by decide +kernel
theorem tc_dL_352 : decode code 352 = .ok (.aload_n 2, 1) := by decide +kernel
theorem tc_dL_353 : decode code 353 = .ok (.aload_n 0, 1) := by decide +kernel
theorem tc_dL_354 : decode code 354 = .ok (.iload_n 3, 1) := by decide +kernel
theorem tc_dL_355 : decode code 355 = .ok (.iconst 1, 1) := by decide +kernel
theorem tc_dL_356 : decode code 356 = .ok (.iadd, 1) := by decide +kernel
theorem tc_dL_357 : decode code 357 = .ok (.iaload, 1) := by decide +kernel
theorem tc_dL_358 : decode code 358 = .ok (.aload_n 0, 1) := by decide +kernel
theorem tc_dL_359 : decode code 359 = .ok (.iload_n 3, 1) := by decide +kernel
theorem tc_dL_360 : decode code 360 = .ok (.iconst 2, 1) := by decide +kernel
theorem tc_dL_361 : decode code 361 = .ok (.iadd, 1) := by decide +kernel
theorem tc_dL_362 : decode code 362 = .ok (.iaload, 1) := by decide +kernel
theorem tc_dL_363 : decode code 363 = .ok (.invokevirtual 36, 3) := by decide +kernel
theorem tc_dL_366 : decode code 366 = .ok (.if_icmp .eq 993, 3) := by decide +kernel
theorem tc_dL_369 : decode code 369 = .ok (.iconst 0, 1) := by decide +kernel
theorem tc_dL_370 : decode code 370 = .ok (.ireturn, 1) := by decide +kernel
theorem tc_dL_371 : decode code 371 = .ok (.aload_n 1, 1) := by decide +kernel
theorem tc_dL_372 : decode code 372 = .ok (.aload_n 0, 1) := by decide +kernel
theorem tc_dL_373 : decode code 373 = .ok (.iload_n 3, 1) := by decide +kernel
theorem tc_dL_374 : decode code 374 = .ok (.iconst 1, 1) := by decide +kernel
theorem tc_dL_375 : decode code 375 = .ok (.iadd, 1) := by decide +kernel
theorem tc_dL_376 : decode code 376 = .ok (.iaload, 1) := by decide +kernel
theorem tc_dL_377 : decode code 377 = .ok (.aload_n 0, 1) := by decide +kernel
theorem tc_dL_378 : decode code 378 = .ok (.iload_n 3, 1) := by decide +kernel
theorem tc_dL_379 : decode code 379 = .ok (.iconst 2, 1) := by decide +kernel
theorem tc_dL_380 : decode code 380 = .ok (.iadd, 1) := by decide +kernel
theorem tc_dL_381 : decode code 381 = .ok (.iaload, 1) := by decide +kernel
theorem tc_dL_382 : decode code 382 = .ok (.invokevirtual 37, 3) := by decide +kernel
theorem tc_dL_385 : decode code 385 = .ok (.aload_n 2, 1) := by decide +kernel
theorem tc_dL_386 : decode code 386 = .ok (.aload_n 0, 1) := by decide +kernel
theorem tc_dL_387 : decode code 387 = .ok (.iload_n 3, 1) := by decide +kernel
theorem tc_dL_388 : decode code 388 = .ok (.iconst 1, 1) := by decide +kernel
theorem tc_dL_389 : decode code 389 = .ok (.iadd, 1) := by decide +kernel
theorem tc_dL_390 : decode code 390 = .ok (.iaload, 1) := by decide +kernel
theorem tc_dL_391 : decode code 391 = .ok (.aload_n 0, 1) := by decide +kernel
theorem tc_dL_392 : decode code 392 = .ok (.iload_n 3, 1) := by decide +kernel
theorem tc_dL_393 : decode code 393 = .ok (.iconst 2, 1) := by decide +kernel
theorem tc_dL_394 : decode code 394 = .ok (.iadd, 1) := by decide +kernel
theorem tc_dL_395 : decode code 395 = .ok (.iaload, 1) := by decide +kernel
theorem tc_dL_396 : decode code 396 = .ok (.invokevirtual 40, 3) := by decide +kernel
theorem tc_dL_399 : decode code 399 = .ok (.if_icmp .eq 960, 3) := by decide +kernel
theorem tc_dL_402 : decode code 402 = .ok (.iconst 0, 1) := by decide +kernel
