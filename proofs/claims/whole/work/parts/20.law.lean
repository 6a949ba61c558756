theorem dd_L_law_18 : jd cL_law 18 (.iload_n 3) 1 19 := ⟨by decide +kernel, rfl⟩
theorem dd_L_law_19 : jd cL_law 19 (.aload_n 0) 1 20 := ⟨by decide +kernel, rfl⟩
theorem dd_L_law_20 : jd cL_law 20 (.arraylength) 1 21 := ⟨by decide +kernel, rfl⟩
theorem dd_L_law_21 : jd cL_law 21 (.iconst 5) 1 22 := ⟨by decide +kernel, rfl⟩
theorem dd_L_law_22 : jd cL_law 22 (.isub) 1 23 := ⟨by decide +kernel, rfl⟩
theorem dd_L_law_26 : jd cL_law 26 (.aload_n 0) 1 27 := ⟨by decide +kernel, rfl⟩
theorem dd_L_law_27 : jd cL_law 27 (.iload_n 3) 1 28 := ⟨by decide +kernel, rfl⟩
theorem dd_L_law_28 : jd cL_law 28 (.iaload) 1 29 := ⟨by decide +kernel, rfl⟩
theorem dd_L_law_29 : jd cL_law 29 (.bipush 63) 2 31 := ⟨by decide +kernel, rfl⟩
theorem dd_L_law_31 : jd cL_law 31 (.iand) 1 32 := ⟨by decide +kernel, rfl⟩
theorem dd_L_law_212 : jd cL_law 212 (.aload_n 1) 1 213 := ⟨by decide +kernel, rfl⟩
theorem dd_L_law_213 : jd cL_law 213 (.aload_n 0) 1 214 := ⟨by decide +kernel, rfl⟩
theorem dd_L_law_214 : jd cL_law 214 (.iload_n 3) 1 215 := ⟨by decide +kernel, rfl⟩
theorem dd_L_law_215 : jd cL_law 215 (.iconst 1) 1 216 := ⟨by decide +kernel, rfl⟩
theorem dd_L_law_216 : jd cL_law 216 (.iadd) 1 217 := ⟨by decide +kernel, rfl⟩
theorem dd_L_law_217 : jd cL_law 217 (.iaload) 1 218 := ⟨by decide +kernel, rfl⟩
theorem ml_RL_13 : (Cond.methodLink "MothCustomsLaw" 13 yX4_feed : Cond) ∈ jj_tb := jj_m (List.mem_of_getElem? (i := 293) (by decide +kernel)) rfl
theorem dd_L_law_218 : jd cL_law 218 (.invokevirtual 13) 3 221 := ⟨by decide +kernel, rfl⟩
theorem dd_L_law_221 : jd cL_law 221 (.aload_n 2) 1 222 := ⟨by decide +kernel, rfl⟩
theorem dd_L_law_222 : jd cL_law 222 (.aload_n 0) 1 223 := ⟨by decide +kernel, rfl⟩
theorem dd_L_law_223 : jd cL_law 223 (.iload_n 3) 1 224 := ⟨by decide +kernel, rfl⟩
theorem dd_L_law_224 : jd cL_law 224 (.iconst 1) 1 225 := ⟨by decide +kernel, rfl⟩
theorem dd_L_law_225 : jd cL_law 225 (.iadd) 1 226 := ⟨by decide +kernel, rfl⟩
theorem dd_L_law_226 : jd cL_law 226 (.iaload) 1 227 := ⟨by decide +kernel, rfl⟩
theorem ml_RL_17 : (Cond.methodLink "MothCustomsLaw" 17 yX5_feed : Cond) ∈ jj_tb := jj_m (List.mem_of_getElem? (i := 882) (by decide +kernel)) rfl
theorem dd_L_law_227 : jd cL_law 227 (.invokevirtual 17) 3 230 := ⟨by decide +kernel, rfl⟩
theorem dd_L_law_233 : jd cL_law 233 (.iconst 0) 1 234 := ⟨by decide +kernel, rfl⟩
theorem dd_L_law_234 : jd cL_law 234 (.ireturn) 1 235 := ⟨by decide +kernel, rfl⟩
theorem dd_L_law_230 : jd cL_law 230 (.if_icmp .eq 1163) 3 233 := ⟨by decide +kernel, rfl⟩
theorem dd_L_law_235 : jd cL_law 235 (.aload_n 1) 1 236 := ⟨by decide +kernel, rfl⟩
theorem dd_L_law_236 : jd cL_law 236 (.aload_n 0) 1 237 := ⟨by decide +kernel, rfl⟩
theorem dd_L_law_237 : jd cL_law 237 (.iload_n 3) 1 238 := ⟨by decide +kernel, rfl⟩
theorem dd_L_law_238 : jd cL_law 238 (.iconst 1) 1 239 := ⟨by decide +kernel, rfl⟩
theorem dd_L_law_239 : jd cL_law 239 (.iadd) 1 240 := ⟨by decide +kernel, rfl⟩
theorem dd_L_law_240 : jd cL_law 240 (.iaload) 1 241 := ⟨by decide +kernel, rfl⟩
theorem ml_RL_18 : (Cond.methodLink "MothCustomsLaw" 18 yX4_end : Cond) ∈ jj_tb := jj_m (List.mem_of_getElem? (i := 300) (by decide +kernel)) rfl
theorem dd_L_law_241 : jd cL_law 241 (.invokevirtual 18) 3 244 := ⟨by decide +kernel, rfl⟩
theorem dd_L_law_244 : jd cL_law 244 (.aload_n 2) 1 245 := ⟨by decide +kernel, rfl⟩
theorem dd_L_law_245 : jd cL_law 245 (.aload_n 0) 1 246 := ⟨by decide +kernel, rfl⟩
theorem dd_L_law_246 : jd cL_law 246 (.iload_n 3) 1 247 := ⟨by decide +kernel, rfl⟩
theorem dd_L_law_247 : jd cL_law 247 (.iconst 1) 1 248 := ⟨by decide +kernel, rfl⟩
theorem dd_L_law_248 : jd cL_law 248 (.iadd) 1 249 := ⟨by decide +kernel, rfl⟩
theorem dd_L_law_249 : jd cL_law 249 (.iaload) 1 250 := ⟨by decide +kernel, rfl⟩
theorem ml_RL_21 : (Cond.methodLink "MothCustomsLaw" 21 yX5_end : Cond) ∈ jj_tb := jj_m (List.mem_of_getElem? (i := 890) (by decide +kernel)) rfl
theorem dd_L_law_250 : jd cL_law 250 (.invokevirtual 21) 3 253 := ⟨by decide +kernel, rfl⟩
theorem dd_L_law_256 : jd cL_law 256 (.iconst 0) 1 257 := ⟨by decide +kernel, rfl⟩
theorem dd_L_law_257 : jd cL_law 257 (.ireturn) 1 258 := ⟨by decide +kernel, rfl⟩
theorem dd_L_law_253 : jd cL_law 253 (.if_icmp .eq 1140) 3 256 := ⟨by decide +kernel, rfl⟩
theorem dd_L_law_258 : jd cL_law 258 (.aload_n 1) 1 259 := ⟨by decide +kernel, rfl⟩
theorem ml_RL_22 : (Cond.methodLink "MothCustomsLaw" 22 yX4_text : Cond) ∈ jj_tb := jj_m (List.mem_of_getElem? (i := 304) (by decide +kernel)) rfl
theorem dd_L_law_259 : jd cL_law 259 (.invokevirtual 22) 3 262 := ⟨by decide +kernel, rfl⟩
theorem dd_L_law_262 : jd cL_law 262 (.aload_n 2) 1 263 := ⟨by decide +kernel, rfl⟩
theorem ml_RL_26 : (Cond.methodLink "MothCustomsLaw" 26 yX5_text : Cond) ∈ jj_tb := jj_m (List.mem_of_getElem? (i := 894) (by decide +kernel)) rfl
theorem dd_L_law_263 : jd cL_law 263 (.invokevirtual 26) 3 266 := ⟨by decide +kernel, rfl⟩
theorem dd_L_law_269 : jd cL_law 269 (.iconst 0) 1 270 := ⟨by decide +kernel, rfl⟩
theorem dd_L_law_270 : jd cL_law 270 (.ireturn) 1 271 := ⟨by decide +kernel, rfl⟩
theorem dd_L_law_266 : jd cL_law 266 (.if_icmp .eq 1127) 3 269 := ⟨by decide +kernel, rfl⟩
theorem dd_L_law_271 : jd cL_law 271 (.aload_n 1) 1 272 := ⟨by decide +kernel, rfl⟩
theorem ml_RL_27 : (Cond.methodLink "MothCustomsLaw" 27 yX4_fault : Cond) ∈ jj_tb := jj_m (List.mem_of_getElem? (i := 453) (by decide +kernel)) rfl
theorem dd_L_law_272 : jd cL_law 272 (.invokevirtual 27) 3 275 := ⟨by decide +kernel, rfl⟩
theorem dd_L_law_275 : jd cL_law 275 (.aload_n 2) 1 276 := ⟨by decide +kernel, rfl⟩
theorem ml_RL_30 : (Cond.methodLink "MothCustomsLaw" 30 yX5_fault : Cond) ∈ jj_tb := jj_m (List.mem_of_getElem? (i := 957) (by decide +kernel)) rfl
theorem dd_L_law_276 : jd cL_law 276 (.invokevirtual 30) 3 279 := ⟨by decide +kernel, rfl⟩
theorem dd_L_law_282 : jd cL_law 282 (.iconst 0) 1 283 := ⟨by decide +kernel, rfl⟩
theorem dd_L_law_283 : jd cL_law 283 (.ireturn) 1 284 := ⟨by decide +kernel, rfl⟩
theorem dd_L_law_279 : jd cL_law 279 (.if_icmp .eq 1114) 3 282 := ⟨by decide +kernel, rfl⟩
theorem dd_L_law_284 : jd cL_law 284 (.aload_n 1) 1 285 := ⟨by decide +kernel, rfl⟩
theorem dd_L_law_285 : jd cL_law 285 (.aload_n 0) 1 286 := ⟨by decide +kernel, rfl⟩
theorem dd_L_law_286 : jd cL_law 286 (.iload_n 3) 1 287 := ⟨by decide +kernel, rfl⟩
theorem dd_L_law_287 : jd cL_law 287 (.iconst 1) 1 288 := ⟨by decide +kernel, rfl⟩
theorem dd_L_law_288 : jd cL_law 288 (.iadd) 1 289 := ⟨by decide +kernel, rfl⟩
theorem dd_L_law_289 : jd cL_law 289 (.iaload) 1 290 := ⟨by decide +kernel, rfl⟩
theorem ml_RL_31 : (Cond.methodLink "MothCustomsLaw" 31 yX4_rule : Cond) ∈ jj_tb := jj_m (List.mem_of_getElem? (i := 457) (by decide +kernel)) rfl
theorem dd_L_law_290 : jd cL_law 290 (.invokevirtual 31) 3 293 := ⟨by decide +kernel, rfl⟩
theorem dd_L_law_293 : jd cL_law 293 (.aload_n 2) 1 294 := ⟨by decide +kernel, rfl⟩
theorem dd_L_law_294 : jd cL_law 294 (.aload_n 0) 1 295 := ⟨by decide +kernel, rfl⟩
theorem dd_L_law_295 : jd cL_law 295 (.iload_n 3) 1 296 := ⟨by decide +kernel, rfl⟩
theorem dd_L_law_296 : jd cL_law 296 (.iconst 1) 1 297 := ⟨by decide +kernel, rfl⟩
theorem dd_L_law_297 : jd cL_law 297 (.iadd) 1 298 := ⟨by decide +kernel, rfl⟩
theorem dd_L_law_298 : jd cL_law 298 (.iaload) 1 299 := ⟨by decide +kernel, rfl⟩
theorem ml_RL_34 : (Cond.methodLink "MothCustomsLaw" 34 yX5_rule : Cond) ∈ jj_tb := jj_m (List.mem_of_getElem? (i := 961) (by decide +kernel)) rfl
theorem dd_L_law_299 : jd cL_law 299 (.invokevirtual 34) 3 302 := ⟨by decide +kernel, rfl⟩
theorem dd_L_law_305 : jd cL_law 305 (.iconst 0) 1 306 := ⟨by decide +kernel, rfl⟩
theorem dd_L_law_306 : jd cL_law 306 (.ireturn) 1 307 := ⟨by decide +kernel, rfl⟩
theorem dd_L_law_302 : jd cL_law 302 (.if_icmp .eq 1091) 3 305 := ⟨by decide +kernel, rfl⟩
theorem dd_L_law_307 : jd cL_law 307 (.aload_n 1) 1 308 := ⟨by decide +kernel, rfl⟩
theorem dd_L_law_308 : jd cL_law 308 (.aload_n 0) 1 309 := ⟨by decide +kernel, rfl⟩
theorem dd_L_law_309 : jd cL_law 309 (.iload_n 3) 1 310 := ⟨by decide +kernel, rfl⟩
theorem dd_L_law_310 : jd cL_law 310 (.iconst 1) 1 311 := ⟨by decide +kernel, rfl⟩
theorem dd_L_law_311 : jd cL_law 311 (.iadd) 1 312 := ⟨by decide +kernel, rfl⟩
theorem dd_L_law_312 : jd cL_law 312 (.iaload) 1 313 := ⟨by decide +kernel, rfl⟩
theorem dd_L_law_313 : jd cL_law 313 (.aload_n 0) 1 314 := ⟨by decide +kernel, rfl⟩
theorem dd_L_law_314 : jd cL_law 314 (.iload_n 3) 1 315 := ⟨by decide +kernel, rfl⟩
theorem dd_L_law_315 : jd cL_law 315 (.iconst 2) 1 316 := ⟨by decide +kernel, rfl⟩
theorem dd_L_law_316 : jd cL_law 316 (.iadd) 1 317 := ⟨by decide +kernel, rfl⟩
theorem dd_L_law_317 : jd cL_law 317 (.iaload) 1 318 := ⟨by decide +kernel, rfl⟩
theorem ml_RL_35 : (Cond.methodLink "MothCustomsLaw" 35 yX4_bolt : Cond) ∈ jj_tb := jj_m (List.mem_of_getElem? (i := 469) (by decide +kernel)) rfl
theorem dd_L_law_318 : jd cL_law 318 (.invokevirtual 35) 3 321 := ⟨by decide +kernel, rfl⟩
theorem dd_L_law_321 : jd cL_law 321 (.aload_n 2) 1 322 := ⟨by decide +kernel, rfl⟩
theorem dd_L_law_322 : jd cL_law 322 (.aload_n 0) 1 323 := ⟨by decide +kernel, rfl⟩
theorem dd_L_law_323 : jd cL_law 323 (.iload_n 3) 1 324 := ⟨by decide +kernel, rfl⟩
theorem dd_L_law_324 : jd cL_law 324 (.iconst 1) 1 325 := ⟨by decide +kernel, rfl⟩
theorem dd_L_law_325 : jd cL_law 325 (.iadd) 1 326 := ⟨by decide +kernel, rfl⟩
theorem dd_L_law_326 : jd cL_law 326 (.iaload) 1 327 := ⟨by decide +kernel, rfl⟩
theorem dd_L_law_327 : jd cL_law 327 (.aload_n 0) 1 328 := ⟨by decide +kernel, rfl⟩
theorem dd_L_law_328 : jd cL_law 328 (.iload_n 3) 1 329 := ⟨by decide +kernel, rfl⟩
theorem dd_L_law_329 : jd cL_law 329 (.iconst 2) 1 330 := ⟨by decide +kernel, rfl⟩
theorem dd_L_law_330 : jd cL_law 330 (.iadd) 1 331 := ⟨by decide +kernel, rfl⟩
theorem dd_L_law_331 : jd cL_law 331 (.iaload) 1 332 := ⟨by decide +kernel, rfl⟩
theorem ml_RL_39 : (Cond.methodLink "MothCustomsLaw" 39 yX5_bolt : Cond) ∈ jj_tb := jj_m (List.mem_of_getElem? (i := 981) (by decide +kernel)) rfl
theorem dd_L_law_332 : jd cL_law 332 (.invokevirtual 39) 3 335 := ⟨by decide +kernel, rfl⟩
theorem dd_L_law_338 : jd cL_law 338 (.iconst 0) 1 339 := ⟨by decide +kernel, rfl⟩
theorem dd_L_law_339 : jd cL_law 339 (.ireturn) 1 340 := ⟨by decide +kernel, rfl⟩
theorem dd_L_law_335 : jd cL_law 335 (.if_icmp .eq 1058) 3 338 := ⟨by decide +kernel, rfl⟩
theorem dd_L_law_340 : jd cL_law 340 (.aload_n 1) 1 341 := ⟨by decide +kernel, rfl⟩
theorem dd_L_law_341 : jd cL_law 341 (.aload_n 0) 1 342 := ⟨by decide +kernel, rfl⟩
theorem dd_L_law_342 : jd cL_law 342 (.iload_n 3) 1 343 := ⟨by decide +kernel, rfl⟩
theorem dd_L_law_343 : jd cL_law 343 (.iconst 1) 1 344 := ⟨by decide +kernel, rfl⟩
theorem dd_L_law_344 : jd cL_law 344 (.iadd) 1 345 := ⟨by decide +kernel, rfl⟩
theorem dd_L_law_345 : jd cL_law 345 (.iaload) 1 346 := ⟨by decide +kernel, rfl⟩
theorem dd_L_law_346 : jd cL_law 346 (.aload_n 0) 1 347 := ⟨by decide +kernel, rfl⟩
theorem dd_L_law_347 : jd cL_law 347 (.iload_n 3) 1 348 := ⟨by decide +kernel, rfl⟩
theorem dd_L_law_348 : jd cL_law 348 (.iconst 2) 1 349 := ⟨by decide +kernel, rfl⟩
theorem dd_L_law_349 : jd cL_law 349 (.iadd) 1 350 := ⟨by decide +kernel, rfl⟩
theorem dd_L_law_350 : jd cL_law 350 (.iaload) 1 351 := ⟨by decide +kernel, rfl⟩
theorem ml_RL_40 : (Cond.methodLink "MothCustomsLaw" 40 yX4_moth : Cond) ∈ jj_tb := jj_m (List.mem_of_getElem? (i := 490) (by decide +kernel)) rfl
theorem dd_L_law_351 : jd cL_law 351 (.invokevirtual 40) 3 354 := ⟨by decide +kernel, rfl⟩
theorem dd_L_law_354 : jd cL_law 354 (.aload_n 2) 1 355 := ⟨by decide +kernel, rfl⟩
theorem dd_L_law_355 : jd cL_law 355 (.aload_n 0) 1 356 := ⟨by decide +kernel, rfl⟩
theorem dd_L_law_356 : jd cL_law 356 (.iload_n 3) 1 357 := ⟨by decide +kernel, rfl⟩
theorem dd_L_law_357 : jd cL_law 357 (.iconst 1) 1 358 := ⟨by decide +kernel, rfl⟩
theorem dd_L_law_358 : jd cL_law 358 (.iadd) 1 359 := ⟨by decide +kernel, rfl⟩
theorem dd_L_law_359 : jd cL_law 359 (.iaload) 1 360 := ⟨by decide +kernel, rfl⟩
theorem dd_L_law_360 : jd cL_law 360 (.aload_n 0) 1 361 := ⟨by decide +kernel, rfl⟩
theorem dd_L_law_361 : jd cL_law 361 (.iload_n 3) 1 362 := ⟨by decide +kernel, rfl⟩
theorem dd_L_law_362 : jd cL_law 362 (.iconst 2) 1 363 := ⟨by decide +kernel, rfl⟩
theorem dd_L_law_363 : jd cL_law 363 (.iadd) 1 364 := ⟨by decide +kernel, rfl⟩
theorem dd_L_law_364 : jd cL_law 364 (.iaload) 1 365 := ⟨by decide +kernel, rfl⟩
theorem ml_RL_43 : (Cond.methodLink "MothCustomsLaw" 43 yX5_moth : Cond) ∈ jj_tb := jj_m (List.mem_of_getElem? (i := 990) (by decide +kernel)) rfl
theorem dd_L_law_365 : jd cL_law 365 (.invokevirtual 43) 3 368 := ⟨by decide +kernel, rfl⟩
theorem dd_L_law_371 : jd cL_law 371 (.iconst 0) 1 372 := ⟨by decide +kernel, rfl⟩
theorem dd_L_law_372 : jd cL_law 372 (.ireturn) 1 373 := ⟨by decide +kernel, rfl⟩
theorem dd_L_law_368 : jd cL_law 368 (.if_icmp .eq 1025) 3 371 := ⟨by decide +kernel, rfl⟩
theorem dd_L_law_373 : jd cL_law 373 (.aload_n 1) 1 374 := ⟨by decide +kernel, rfl⟩
theorem dd_L_law_374 : jd cL_law 374 (.aload_n 0) 1 375 := ⟨by decide +kernel, rfl⟩
theorem dd_L_law_375 : jd cL_law 375 (.iload_n 3) 1 376 := ⟨by decide +kernel, rfl⟩
theorem dd_L_law_376 : jd cL_law 376 (.iconst 1) 1 377 := ⟨by decide +kernel, rfl⟩
theorem dd_L_law_377 : jd cL_law 377 (.iadd) 1 378 := ⟨by decide +kernel, rfl⟩
theorem dd_L_law_378 : jd cL_law 378 (.iaload) 1 379 := ⟨by decide +kernel, rfl⟩
theorem dd_L_law_379 : jd cL_law 379 (.aload_n 0) 1 380 := ⟨by decide +kernel, rfl⟩
theorem dd_L_law_380 : jd cL_law 380 (.iload_n 3) 1 381 := ⟨by decide +kernel, rfl⟩
theorem dd_L_law_381 : jd cL_law 381 (.iconst 2) 1 382 := ⟨by decide +kernel, rfl⟩
theorem dd_L_law_382 : jd cL_law 382 (.iadd) 1 383 := ⟨by decide +kernel, rfl⟩
theorem dd_L_law_383 : jd cL_law 383 (.iaload) 1 384 := ⟨by decide +kernel, rfl⟩
theorem ml_RL_44 : (Cond.methodLink "MothCustomsLaw" 44 yX4_bale : Cond) ∈ jj_tb := jj_m (List.mem_of_getElem? (i := 517) (by decide +kernel)) rfl
theorem dd_L_law_384 : jd cL_law 384 (.invokevirtual 44) 3 387 := ⟨by decide +kernel, rfl⟩
theorem dd_L_law_387 : jd cL_law 387 (.aload_n 2) 1 388 := ⟨by decide +kernel, rfl⟩
theorem dd_L_law_388 : jd cL_law 388 (.aload_n 0) 1 389 := ⟨by decide +kernel, rfl⟩
theorem dd_L_law_389 : jd cL_law 389 (.iload_n 3) 1 390 := ⟨by decide +kernel, rfl⟩
theorem dd_L_law_390 : jd cL_law 390 (.iconst 1) 1 391 := ⟨by decide +kernel, rfl⟩
theorem dd_L_law_391 : jd cL_law 391 (.iadd) 1 392 := ⟨by decide +kernel, rfl⟩
theorem dd_L_law_392 : jd cL_law 392 (.iaload) 1 393 := ⟨by decide +kernel, rfl⟩
theorem dd_L_law_393 : jd cL_law 393 (.aload_n 0) 1 394 := ⟨by decide +kernel, rfl⟩
theorem dd_L_law_394 : jd cL_law 394 (.iload_n 3) 1 395 := ⟨by decide +kernel, rfl⟩
theorem dd_L_law_395 : jd cL_law 395 (.iconst 2) 1 396 := ⟨by decide +kernel, rfl⟩
theorem dd_L_law_396 : jd cL_law 396 (.iadd) 1 397 := ⟨by decide +kernel, rfl⟩
theorem dd_L_law_397 : jd cL_law 397 (.iaload) 1 398 := ⟨by decide +kernel, rfl⟩
theorem ml_RL_47 : (Cond.methodLink "MothCustomsLaw" 47 yX5_bale : Cond) ∈ jj_tb := jj_m (List.mem_of_getElem? (i := 1011) (by decide +kernel)) rfl
theorem dd_L_law_398 : jd cL_law 398 (.invokevirtual 47) 3 401 := ⟨by decide +kernel, rfl⟩
theorem dd_L_law_404 : jd cL_law 404 (.iconst 0) 1 405 := ⟨by decide +kernel, rfl⟩
theorem dd_L_law_405 : jd cL_law 405 (.ireturn) 1 406 := ⟨by decide +kernel, rfl⟩
theorem dd_L_law_401 : jd cL_law 401 (.if_icmp .eq 992) 3 404 := ⟨by decide +kernel, rfl⟩
theorem dd_L_law_406 : jd cL_law 406 (.aload_n 1) 1 407 := ⟨by decide +kernel, rfl⟩
theorem dd_L_law_407 : jd cL_law 407 (.aload_n 0) 1 408 := ⟨by decide +kernel, rfl⟩
theorem dd_L_law_408 : jd cL_law 408 (.iload_n 3) 1 409 := ⟨by decide +kernel, rfl⟩
theorem dd_L_law_409 : jd cL_law 409 (.iconst 1) 1 410 := ⟨by decide +kernel, rfl⟩
theorem dd_L_law_410 : jd cL_law 410 (.iadd) 1 411 := ⟨by decide +kernel, rfl⟩
theorem dd_L_law_411 : jd cL_law 411 (.iaload) 1 412 := ⟨by decide +kernel, rfl⟩
theorem dd_L_law_412 : jd cL_law 412 (.aload_n 0) 1 413 := ⟨by decide +kernel, rfl⟩
theorem dd_L_law_413 : jd cL_law 413 (.iload_n 3) 1 414 := ⟨by decide +kernel, rfl⟩
theorem dd_L_law_414 : jd cL_law 414 (.iconst 2) 1 415 := ⟨by decide +kernel, rfl⟩
theorem dd_L_law_415 : jd cL_law 415 (.iadd) 1 416 := ⟨by decide +kernel, rfl⟩
theorem dd_L_law_416 : jd cL_law 416 (.iaload) 1 417 := ⟨by decide +kernel, rfl⟩
theorem ml_RL_48 : (Cond.methodLink "MothCustomsLaw" 48 yX4_fold : Cond) ∈ jj_tb := jj_m (List.mem_of_getElem? (i := 531) (by decide +kernel)) rfl
theorem dd_L_law_417 : jd cL_law 417 (.invokevirtual 48) 3 420 := ⟨by decide +kernel, rfl⟩
theorem dd_L_law_420 : jd cL_law 420 (.aload_n 2) 1 421 := ⟨by decide +kernel, rfl⟩
theorem dd_L_law_421 : jd cL_law 421 (.aload_n 0) 1 422 := ⟨by decide +kernel, rfl⟩
theorem dd_L_law_422 : jd cL_law 422 (.iload_n 3) 1 423 := ⟨by decide +kernel, rfl⟩
theorem dd_L_law_423 : jd cL_law 423 (.iconst 1) 1 424 := ⟨by decide +kernel, rfl⟩
theorem dd_L_law_424 : jd cL_law 424 (.iadd) 1 425 := ⟨by decide +kernel, rfl⟩
theorem dd_L_law_425 : jd cL_law 425 (.iaload) 1 426 := ⟨by decide +kernel, rfl⟩
theorem dd_L_law_426 : jd cL_law 426 (.aload_n 0) 1 427 := ⟨by decide +kernel, rfl⟩
theorem dd_L_law_427 : jd cL_law 427 (.iload_n 3) 1 428 := ⟨by decide +kernel, rfl⟩
theorem dd_L_law_428 : jd cL_law 428 (.iconst 2) 1 429 := ⟨by decide +kernel, rfl⟩
theorem dd_L_law_429 : jd cL_law 429 (.iadd) 1 430 := ⟨by decide +kernel, rfl⟩
theorem dd_L_law_430 : jd cL_law 430 (.iaload) 1 431 := ⟨by decide +kernel, rfl⟩
theorem ml_RL_51 : (Cond.methodLink "MothCustomsLaw" 51 yX5_fold : Cond) ∈ jj_tb := jj_m (List.mem_of_getElem? (i := 1032) (by decide +kernel)) rfl
theorem dd_L_law_431 : jd cL_law 431 (.invokevirtual 51) 3 434 := ⟨by decide +kernel, rfl⟩
theorem dd_L_law_437 : jd cL_law 437 (.iconst 0) 1 438 := ⟨by decide +kernel, rfl⟩
theorem dd_L_law_438 : jd cL_law 438 (.ireturn) 1 439 := ⟨by decide +kernel, rfl⟩
theorem dd_L_law_434 : jd cL_law 434 (.if_icmp .eq 959) 3 437 := ⟨by decide +kernel, rfl⟩
theorem dd_L_law_439 : jd cL_law 439 (.aload_n 1) 1 440 := ⟨by decide +kernel, rfl⟩
theorem dd_L_law_440 : jd cL_law 440 (.aload_n 0) 1 441 := ⟨by decide +kernel, rfl⟩
theorem dd_L_law_441 : jd cL_law 441 (.iload_n 3) 1 442 := ⟨by decide +kernel, rfl⟩
theorem dd_L_law_442 : jd cL_law 442 (.iconst 1) 1 443 := ⟨by decide +kernel, rfl⟩
theorem dd_L_law_443 : jd cL_law 443 (.iadd) 1 444 := ⟨by decide +kernel, rfl⟩
theorem dd_L_law_444 : jd cL_law 444 (.iaload) 1 445 := ⟨by decide +kernel, rfl⟩
theorem dd_L_law_445 : jd cL_law 445 (.aload_n 0) 1 446 := ⟨by decide +kernel, rfl⟩
theorem dd_L_law_446 : jd cL_law 446 (.iload_n 3) 1 447 := ⟨by decide +kernel, rfl⟩
theorem dd_L_law_447 : jd cL_law 447 (.iconst 2) 1 448 := ⟨by decide +kernel, rfl⟩
theorem dd_L_law_448 : jd cL_law 448 (.iadd) 1 449 := ⟨by decide +kernel, rfl⟩
theorem dd_L_law_449 : jd cL_law 449 (.iaload) 1 450 := ⟨by decide +kernel, rfl⟩
theorem ml_RL_52 : (Cond.methodLink "MothCustomsLaw" 52 yX4_under : Cond) ∈ jj_tb := jj_m (List.mem_of_getElem? (i := 543) (by decide +kernel)) rfl
theorem dd_L_law_450 : jd cL_law 450 (.invokevirtual 52) 3 453 := ⟨by decide +kernel, rfl⟩
theorem dd_L_law_453 : jd cL_law 453 (.aload_n 2) 1 454 := ⟨by decide +kernel, rfl⟩
theorem dd_L_law_454 : jd cL_law 454 (.aload_n 0) 1 455 := ⟨by decide +kernel, rfl⟩
theorem dd_L_law_455 : jd cL_law 455 (.iload_n 3) 1 456 := ⟨by decide +kernel, rfl⟩
theorem dd_L_law_456 : jd cL_law 456 (.iconst 1) 1 457 := ⟨by decide +kernel, rfl⟩
theorem dd_L_law_457 : jd cL_law 457 (.iadd) 1 458 := ⟨by decide +kernel, rfl⟩
theorem dd_L_law_458 : jd cL_law 458 (.iaload) 1 459 := ⟨by decide +kernel, rfl⟩
theorem dd_L_law_459 : jd cL_law 459 (.aload_n 0) 1 460 := ⟨by decide +kernel, rfl⟩
theorem dd_L_law_460 : jd cL_law 460 (.iload_n 3) 1 461 := ⟨by decide +kernel, rfl⟩
theorem dd_L_law_461 : jd cL_law 461 (.iconst 2) 1 462 := ⟨by decide +kernel, rfl⟩
theorem dd_L_law_462 : jd cL_law 462 (.iadd) 1 463 := ⟨by decide +kernel, rfl⟩
theorem dd_L_law_463 : jd cL_law 463 (.iaload) 1 464 := ⟨by decide +kernel, rfl⟩
theorem ml_RL_55 : (Cond.methodLink "MothCustomsLaw" 55 yX5_under : Cond) ∈ jj_tb := jj_m (List.mem_of_getElem? (i := 1052) (by decide +kernel)) rfl
theorem dd_L_law_464 : jd cL_law 464 (.invokevirtual 55) 3 467 := ⟨by decide +kernel, rfl⟩
theorem dd_L_law_470 : jd cL_law 470 (.iconst 0) 1 471 := ⟨by decide +kernel, rfl⟩
theorem dd_L_law_471 : jd cL_law 471 (.ireturn) 1 472 := ⟨by decide +kernel, rfl⟩
theorem dd_L_law_467 : jd cL_law 467 (.if_icmp .eq 926) 3 470 := ⟨by decide +kernel, rfl⟩
theorem dd_L_law_472 : jd cL_law 472 (.aload_n 1) 1 473 := ⟨by decide +kernel, rfl⟩
theorem dd_L_law_473 : jd cL_law 473 (.aload_n 0) 1 474 := ⟨by decide +kernel, rfl⟩
theorem dd_L_law_474 : jd cL_law 474 (.iload_n 3) 1 475 := ⟨by decide +kernel, rfl⟩
theorem dd_L_law_475 : jd cL_law 475 (.iconst 1) 1 476 := ⟨by decide +kernel, rfl⟩
theorem dd_L_law_476 : jd cL_law 476 (.iadd) 1 477 := ⟨by decide +kernel, rfl⟩
theorem dd_L_law_477 : jd cL_law 477 (.iaload) 1 478 := ⟨by decide +kernel, rfl⟩
theorem dd_L_law_478 : jd cL_law 478 (.aload_n 0) 1 479 := ⟨by decide +kernel, rfl⟩
theorem dd_L_law_479 : jd cL_law 479 (.iload_n 3) 1 480 := ⟨by decide +kernel, rfl⟩
theorem dd_L_law_480 : jd cL_law 480 (.iconst 2) 1 481 := ⟨by decide +kernel, rfl⟩
theorem dd_L_law_481 : jd cL_law 481 (.iadd) 1 482 := ⟨by decide +kernel, rfl⟩
theorem dd_L_law_482 : jd cL_law 482 (.iaload) 1 483 := ⟨by decide +kernel, rfl⟩
theorem ml_RL_56 : (Cond.methodLink "MothCustomsLaw" 56 yX4_swap : Cond) ∈ jj_tb := jj_m (List.mem_of_getElem? (i := 549) (by decide +kernel)) rfl
theorem dd_L_law_483 : jd cL_law 483 (.invokevirtual 56) 3 486 := ⟨by decide +kernel, rfl⟩
theorem dd_L_law_486 : jd cL_law 486 (.aload_n 2) 1 487 := ⟨by decide +kernel, rfl⟩
theorem dd_L_law_487 : jd cL_law 487 (.aload_n 0) 1 488 := ⟨by decide +kernel, rfl⟩
theorem dd_L_law_488 : jd cL_law 488 (.iload_n 3) 1 489 := ⟨by decide +kernel, rfl⟩
theorem dd_L_law_489 : jd cL_law 489 (.iconst 1) 1 490 := ⟨by decide +kernel, rfl⟩
theorem dd_L_law_490 : jd cL_law 490 (.iadd) 1 491 := ⟨by decide +kernel, rfl⟩
theorem dd_L_law_491 : jd cL_law 491 (.iaload) 1 492 := ⟨by decide +kernel, rfl⟩
theorem dd_L_law_492 : jd cL_law 492 (.aload_n 0) 1 493 := ⟨by decide +kernel, rfl⟩
theorem dd_L_law_493 : jd cL_law 493 (.iload_n 3) 1 494 := ⟨by decide +kernel, rfl⟩
theorem dd_L_law_494 : jd cL_law 494 (.iconst 2) 1 495 := ⟨by decide +kernel, rfl⟩
theorem dd_L_law_495 : jd cL_law 495 (.iadd) 1 496 := ⟨by decide +kernel, rfl⟩
theorem dd_L_law_496 : jd cL_law 496 (.iaload) 1 497 := ⟨by decide +kernel, rfl⟩
theorem ml_RL_59 : (Cond.methodLink "MothCustomsLaw" 59 yX5_swap : Cond) ∈ jj_tb := jj_m (List.mem_of_getElem? (i := 1056) (by decide +kernel)) rfl
theorem dd_L_law_497 : jd cL_law 497 (.invokevirtual 59) 3 500 := ⟨by decide +kernel, rfl⟩
theorem dd_L_law_503 : jd cL_law 503 (.iconst 0) 1 504 := ⟨by decide +kernel, rfl⟩
theorem dd_L_law_504 : jd cL_law 504 (.ireturn) 1 505 := ⟨by decide +kernel, rfl⟩
theorem dd_L_law_500 : jd cL_law 500 (.if_icmp .eq 893) 3 503 := ⟨by decide +kernel, rfl⟩
theorem dd_L_law_505 : jd cL_law 505 (.aload_n 1) 1 506 := ⟨by decide +kernel, rfl⟩
theorem dd_L_law_506 : jd cL_law 506 (.aload_n 0) 1 507 := ⟨by decide +kernel, rfl⟩
theorem dd_L_law_507 : jd cL_law 507 (.iload_n 3) 1 508 := ⟨by decide +kernel, rfl⟩
theorem dd_L_law_508 : jd cL_law 508 (.iconst 1) 1 509 := ⟨by decide +kernel, rfl⟩
theorem dd_L_law_509 : jd cL_law 509 (.iadd) 1 510 := ⟨by decide +kernel, rfl⟩
theorem dd_L_law_510 : jd cL_law 510 (.iaload) 1 511 := ⟨by decide +kernel, rfl⟩
theorem dd_L_law_511 : jd cL_law 511 (.aload_n 0) 1 512 := ⟨by decide +kernel, rfl⟩
theorem dd_L_law_512 : jd cL_law 512 (.iload_n 3) 1 513 := ⟨by decide +kernel, rfl⟩
theorem dd_L_law_513 : jd cL_law 513 (.iconst 2) 1 514 := ⟨by decide +kernel, rfl⟩
theorem dd_L_law_514 : jd cL_law 514 (.iadd) 1 515 := ⟨by decide +kernel, rfl⟩
theorem dd_L_law_515 : jd cL_law 515 (.iaload) 1 516 := ⟨by decide +kernel, rfl⟩
theorem dd_L_law_523 : jd cL_law 523 (.iconst 0) 1 524 := ⟨by decide +kernel, rfl⟩
theorem dd_L_law_519 : jd cL_law 519 (.iconst 1) 1 520 := ⟨by decide +kernel, rfl⟩
theorem dd_L_law_520 : jd cL_law 520 (.goto 4) 3 523 := ⟨by decide +kernel, rfl⟩
theorem dd_L_law_516 : jd cL_law 516 (.ifCond .eq 7) 3 519 := ⟨by decide +kernel, rfl⟩
theorem ml_RL_60 : (Cond.methodLink "MothCustomsLaw" 60 yX4_camphor : Cond) ∈ jj_tb := jj_m (List.mem_of_getElem? (i := 554) (by decide +kernel)) rfl
theorem dd_L_law_524 : jd cL_law 524 (.invokevirtual 60) 3 527 := ⟨by decide +kernel, rfl⟩
theorem dd_L_law_527 : jd cL_law 527 (.aload_n 2) 1 528 := ⟨by decide +kernel, rfl⟩
theorem dd_L_law_528 : jd cL_law 528 (.aload_n 0) 1 529 := ⟨by decide +kernel, rfl⟩
theorem dd_L_law_529 : jd cL_law 529 (.iload_n 3) 1 530 := ⟨by decide +kernel, rfl⟩
theorem dd_L_law_530 : jd cL_law 530 (.iconst 1) 1 531 := ⟨by decide +kernel, rfl⟩
theorem dd_L_law_531 : jd cL_law 531 (.iadd) 1 532 := ⟨by decide +kernel, rfl⟩
theorem dd_L_law_532 : jd cL_law 532 (.iaload) 1 533 := ⟨by decide +kernel, rfl⟩
theorem dd_L_law_533 : jd cL_law 533 (.aload_n 0) 1 534 := ⟨by decide +kernel, rfl⟩
theorem dd_L_law_534 : jd cL_law 534 (.iload_n 3) 1 535 := ⟨by decide +kernel, rfl⟩
theorem dd_L_law_535 : jd cL_law 535 (.iconst 2) 1 536 := ⟨by decide +kernel, rfl⟩
theorem dd_L_law_536 : jd cL_law 536 (.iadd) 1 537 := ⟨by decide +kernel, rfl⟩
theorem dd_L_law_537 : jd cL_law 537 (.iaload) 1 538 := ⟨by decide +kernel, rfl⟩
theorem dd_L_law_545 : jd cL_law 545 (.iconst 0) 1 546 := ⟨by decide +kernel, rfl⟩
theorem dd_L_law_541 : jd cL_law 541 (.iconst 1) 1 542 := ⟨by decide +kernel, rfl⟩
theorem dd_L_law_542 : jd cL_law 542 (.goto 4) 3 545 := ⟨by decide +kernel, rfl⟩
theorem dd_L_law_538 : jd cL_law 538 (.ifCond .eq 7) 3 541 := ⟨by decide +kernel, rfl⟩
theorem ml_RL_64 : (Cond.methodLink "MothCustomsLaw" 64 yX5_camphor : Cond) ∈ jj_tb := jj_m (List.mem_of_getElem? (i := 1064) (by decide +kernel)) rfl
theorem dd_L_law_546 : jd cL_law 546 (.invokevirtual 64) 3 549 := ⟨by decide +kernel, rfl⟩
theorem dd_L_law_552 : jd cL_law 552 (.iconst 0) 1 553 := ⟨by decide +kernel, rfl⟩
theorem dd_L_law_553 : jd cL_law 553 (.ireturn) 1 554 := ⟨by decide +kernel, rfl⟩
theorem dd_L_law_549 : jd cL_law 549 (.if_icmp .eq 844) 3 552 := ⟨by decide +kernel, rfl⟩
theorem dd_L_law_554 : jd cL_law 554 (.aload_n 1) 1 555 := ⟨by decide +kernel, rfl⟩
theorem dd_L_law_555 : jd cL_law 555 (.aload_n 0) 1 556 := ⟨by decide +kernel, rfl⟩
theorem dd_L_law_556 : jd cL_law 556 (.iload_n 3) 1 557 := ⟨by decide +kernel, rfl⟩
theorem dd_L_law_557 : jd cL_law 557 (.iconst 1) 1 558 := ⟨by decide +kernel, rfl⟩
theorem dd_L_law_558 : jd cL_law 558 (.iadd) 1 559 := ⟨by decide +kernel, rfl⟩
theorem dd_L_law_559 : jd cL_law 559 (.iaload) 1 560 := ⟨by decide +kernel, rfl⟩
theorem dd_L_law_560 : jd cL_law 560 (.aload_n 0) 1 561 := ⟨by decide +kernel, rfl⟩
theorem dd_L_law_561 : jd cL_law 561 (.iload_n 3) 1 562 := ⟨by decide +kernel, rfl⟩
theorem dd_L_law_562 : jd cL_law 562 (.iconst 2) 1 563 := ⟨by decide +kernel, rfl⟩
theorem dd_L_law_563 : jd cL_law 563 (.iadd) 1 564 := ⟨by decide +kernel, rfl⟩
theorem dd_L_law_564 : jd cL_law 564 (.iaload) 1 565 := ⟨by decide +kernel, rfl⟩
theorem ml_RL_65 : (Cond.methodLink "MothCustomsLaw" 65 yX4_patch : Cond) ∈ jj_tb := jj_m (List.mem_of_getElem? (i := 558) (by decide +kernel)) rfl
theorem dd_L_law_565 : jd cL_law 565 (.invokevirtual 65) 3 568 := ⟨by decide +kernel, rfl⟩
theorem dd_L_law_568 : jd cL_law 568 (.aload_n 2) 1 569 := ⟨by decide +kernel, rfl⟩
theorem dd_L_law_569 : jd cL_law 569 (.aload_n 0) 1 570 := ⟨by decide +kernel, rfl⟩
theorem dd_L_law_570 : jd cL_law 570 (.iload_n 3) 1 571 := ⟨by decide +kernel, rfl⟩
theorem dd_L_law_571 : jd cL_law 571 (.iconst 1) 1 572 := ⟨by decide +kernel, rfl⟩
theorem dd_L_law_572 : jd cL_law 572 (.iadd) 1 573 := ⟨by decide +kernel, rfl⟩
theorem dd_L_law_573 : jd cL_law 573 (.iaload) 1 574 := ⟨by decide +kernel, rfl⟩
theorem dd_L_law_574 : jd cL_law 574 (.aload_n 0) 1 575 := ⟨by decide +kernel, rfl⟩
theorem dd_L_law_575 : jd cL_law 575 (.iload_n 3) 1 576 := ⟨by decide +kernel, rfl⟩
theorem dd_L_law_576 : jd cL_law 576 (.iconst 2) 1 577 := ⟨by decide +kernel, rfl⟩
theorem dd_L_law_577 : jd cL_law 577 (.iadd) 1 578 := ⟨by decide +kernel, rfl⟩
theorem dd_L_law_578 : jd cL_law 578 (.iaload) 1 579 := ⟨by decide +kernel, rfl⟩
theorem ml_RL_68 : (Cond.methodLink "MothCustomsLaw" 68 yX5_patch : Cond) ∈ jj_tb := jj_m (List.mem_of_getElem? (i := 1068) (by decide +kernel)) rfl
theorem dd_L_law_579 : jd cL_law 579 (.invokevirtual 68) 3 582 := ⟨by decide +kernel, rfl⟩
theorem dd_L_law_585 : jd cL_law 585 (.iconst 0) 1 586 := ⟨by decide +kernel, rfl⟩
theorem dd_L_law_586 : jd cL_law 586 (.ireturn) 1 587 := ⟨by decide +kernel, rfl⟩
theorem dd_L_law_582 : jd cL_law 582 (.if_icmp .eq 811) 3 585 := ⟨by decide +kernel, rfl⟩
theorem dd_L_law_587 : jd cL_law 587 (.aload_n 1) 1 588 := ⟨by decide +kernel, rfl⟩
theorem dd_L_law_588 : jd cL_law 588 (.aload_n 0) 1 589 := ⟨by decide +kernel, rfl⟩
theorem dd_L_law_589 : jd cL_law 589 (.iload_n 3) 1 590 := ⟨by decide +kernel, rfl⟩
theorem dd_L_law_590 : jd cL_law 590 (.iconst 1) 1 591 := ⟨by decide +kernel, rfl⟩
theorem dd_L_law_591 : jd cL_law 591 (.iadd) 1 592 := ⟨by decide +kernel, rfl⟩
theorem dd_L_law_592 : jd cL_law 592 (.iaload) 1 593 := ⟨by decide +kernel, rfl⟩
theorem ml_RL_69 : (Cond.methodLink "MothCustomsLaw" 69 yX4_prick : Cond) ∈ jj_tb := jj_m (List.mem_of_getElem? (i := 562) (by decide +kernel)) rfl
theorem dd_L_law_593 : jd cL_law 593 (.invokevirtual 69) 3 596 := ⟨by decide +kernel, rfl⟩
theorem dd_L_law_596 : jd cL_law 596 (.aload_n 2) 1 597 := ⟨by decide +kernel, rfl⟩
theorem dd_L_law_597 : jd cL_law 597 (.aload_n 0) 1 598 := ⟨by decide +kernel, rfl⟩
theorem dd_L_law_598 : jd cL_law 598 (.iload_n 3) 1 599 := ⟨by decide +kernel, rfl⟩
theorem dd_L_law_599 : jd cL_law 599 (.iconst 1) 1 600 := ⟨by decide +kernel, rfl⟩
theorem dd_L_law_600 : jd cL_law 600 (.iadd) 1 601 := ⟨by decide +kernel, rfl⟩
theorem dd_L_law_601 : jd cL_law 601 (.iaload) 1 602 := ⟨by decide +kernel, rfl⟩
theorem ml_RL_72 : (Cond.methodLink "MothCustomsLaw" 72 yX5_prick : Cond) ∈ jj_tb := jj_m (List.mem_of_getElem? (i := 1073) (by decide +kernel)) rfl
theorem dd_L_law_602 : jd cL_law 602 (.invokevirtual 72) 3 605 := ⟨by decide +kernel, rfl⟩
theorem dd_L_law_608 : jd cL_law 608 (.iconst 0) 1 609 := ⟨by decide +kernel, rfl⟩
theorem dd_L_law_609 : jd cL_law 609 (.ireturn) 1 610 := ⟨by decide +kernel, rfl⟩
theorem dd_L_law_605 : jd cL_law 605 (.if_icmp .eq 788) 3 608 := ⟨by decide +kernel, rfl⟩
theorem dd_L_law_610 : jd cL_law 610 (.aload_n 1) 1 611 := ⟨by decide +kernel, rfl⟩
theorem dd_L_law_611 : jd cL_law 611 (.aload_n 0) 1 612 := ⟨by decide +kernel, rfl⟩
theorem dd_L_law_612 : jd cL_law 612 (.iload_n 3) 1 613 := ⟨by decide +kernel, rfl⟩
theorem dd_L_law_613 : jd cL_law 613 (.iconst 1) 1 614 := ⟨by decide +kernel, rfl⟩
theorem dd_L_law_614 : jd cL_law 614 (.iadd) 1 615 := ⟨by decide +kernel, rfl⟩
theorem dd_L_law_615 : jd cL_law 615 (.iaload) 1 616 := ⟨by decide +kernel, rfl⟩
theorem dd_L_law_616 : jd cL_law 616 (.aload_n 0) 1 617 := ⟨by decide +kernel, rfl⟩
theorem dd_L_law_617 : jd cL_law 617 (.iload_n 3) 1 618 := ⟨by decide +kernel, rfl⟩
theorem dd_L_law_618 : jd cL_law 618 (.iconst 2) 1 619 := ⟨by decide +kernel, rfl⟩
theorem dd_L_law_619 : jd cL_law 619 (.iadd) 1 620 := ⟨by decide +kernel, rfl⟩
theorem dd_L_law_620 : jd cL_law 620 (.iaload) 1 621 := ⟨by decide +kernel, rfl⟩
theorem dd_L_law_621 : jd cL_law 621 (.aload_n 0) 1 622 := ⟨by decide +kernel, rfl⟩
theorem dd_L_law_622 : jd cL_law 622 (.iload_n 3) 1 623 := ⟨by decide +kernel, rfl⟩
theorem dd_L_law_623 : jd cL_law 623 (.iconst 3) 1 624 := ⟨by decide +kernel, rfl⟩
theorem dd_L_law_624 : jd cL_law 624 (.iadd) 1 625 := ⟨by decide +kernel, rfl⟩
theorem dd_L_law_625 : jd cL_law 625 (.iaload) 1 626 := ⟨by decide +kernel, rfl⟩
theorem ml_RL_73 : (Cond.methodLink "MothCustomsLaw" 73 yX4_alter : Cond) ∈ jj_tb := jj_m (List.mem_of_getElem? (i := 566) (by decide +kernel)) rfl
theorem dd_L_law_626 : jd cL_law 626 (.invokevirtual 73) 3 629 := ⟨by decide +kernel, rfl⟩
theorem dd_L_law_629 : jd cL_law 629 (.aload_n 2) 1 630 := ⟨by decide +kernel, rfl⟩
theorem dd_L_law_630 : jd cL_law 630 (.aload_n 0) 1 631 := ⟨by decide +kernel, rfl⟩
theorem dd_L_law_631 : jd cL_law 631 (.iload_n 3) 1 632 := ⟨by decide +kernel, rfl⟩
theorem dd_L_law_632 : jd cL_law 632 (.iconst 1) 1 633 := ⟨by decide +kernel, rfl⟩
theorem dd_L_law_633 : jd cL_law 633 (.iadd) 1 634 := ⟨by decide +kernel, rfl⟩
theorem dd_L_law_634 : jd cL_law 634 (.iaload) 1 635 := ⟨by decide +kernel, rfl⟩
theorem dd_L_law_635 : jd cL_law 635 (.aload_n 0) 1 636 := ⟨by decide +kernel, rfl⟩
theorem dd_L_law_636 : jd cL_law 636 (.iload_n 3) 1 637 := ⟨by decide +kernel, rfl⟩
theorem dd_L_law_637 : jd cL_law 637 (.iconst 2) 1 638 := ⟨by decide +kernel, rfl⟩
theorem dd_L_law_638 : jd cL_law 638 (.iadd) 1 639 := ⟨by decide +kernel, rfl⟩
theorem dd_L_law_639 : jd cL_law 639 (.iaload) 1 640 := ⟨by decide +kernel, rfl⟩
theorem dd_L_law_640 : jd cL_law 640 (.aload_n 0) 1 641 := ⟨by decide +kernel, rfl⟩
theorem dd_L_law_641 : jd cL_law 641 (.iload_n 3) 1 642 := ⟨by decide +kernel, rfl⟩
theorem dd_L_law_642 : jd cL_law 642 (.iconst 3) 1 643 := ⟨by decide +kernel, rfl⟩
theorem dd_L_law_643 : jd cL_law 643 (.iadd) 1 644 := ⟨by decide +kernel, rfl⟩
theorem dd_L_law_644 : jd cL_law 644 (.iaload) 1 645 := ⟨by decide +kernel, rfl⟩
theorem ml_RL_77 : (Cond.methodLink "MothCustomsLaw" 77 yX5_alter : Cond) ∈ jj_tb := jj_m (List.mem_of_getElem? (i := 1077) (by decide +kernel)) rfl
theorem dd_L_law_645 : jd cL_law 645 (.invokevirtual 77) 3 648 := ⟨by decide +kernel, rfl⟩
theorem dd_L_law_651 : jd cL_law 651 (.iconst 0) 1 652 := ⟨by decide +kernel, rfl⟩
theorem dd_L_law_652 : jd cL_law 652 (.ireturn) 1 653 := ⟨by decide +kernel, rfl⟩
theorem dd_L_law_648 : jd cL_law 648 (.if_icmp .eq 745) 3 651 := ⟨by decide +kernel, rfl⟩
theorem dd_L_law_653 : jd cL_law 653 (.aload_n 1) 1 654 := ⟨by decide +kernel, rfl⟩
theorem dd_L_law_654 : jd cL_law 654 (.aload_n 0) 1 655 := ⟨by decide +kernel, rfl⟩
theorem dd_L_law_655 : jd cL_law 655 (.iload_n 3) 1 656 := ⟨by decide +kernel, rfl⟩
theorem dd_L_law_656 : jd cL_law 656 (.iconst 1) 1 657 := ⟨by decide +kernel, rfl⟩
theorem dd_L_law_657 : jd cL_law 657 (.iadd) 1 658 := ⟨by decide +kernel, rfl⟩
theorem dd_L_law_658 : jd cL_law 658 (.iaload) 1 659 := ⟨by decide +kernel, rfl⟩
theorem dd_L_law_659 : jd cL_law 659 (.aload_n 0) 1 660 := ⟨by decide +kernel, rfl⟩
theorem dd_L_law_660 : jd cL_law 660 (.iload_n 3) 1 661 := ⟨by decide +kernel, rfl⟩
theorem dd_L_law_661 : jd cL_law 661 (.iconst 2) 1 662 := ⟨by decide +kernel, rfl⟩
theorem dd_L_law_662 : jd cL_law 662 (.iadd) 1 663 := ⟨by decide +kernel, rfl⟩
theorem dd_L_law_663 : jd cL_law 663 (.iaload) 1 664 := ⟨by decide +kernel, rfl⟩
theorem ml_RL_78 : (Cond.methodLink "MothCustomsLaw" 78 yX4_set : Cond) ∈ jj_tb := jj_m (List.mem_of_getElem? (i := 575) (by decide +kernel)) rfl
theorem dd_L_law_664 : jd cL_law 664 (.invokevirtual 78) 3 667 := ⟨by decide +kernel, rfl⟩
theorem dd_L_law_667 : jd cL_law 667 (.aload_n 2) 1 668 := ⟨by decide +kernel, rfl⟩
theorem dd_L_law_668 : jd cL_law 668 (.aload_n 0) 1 669 := ⟨by decide +kernel, rfl⟩
theorem dd_L_law_669 : jd cL_law 669 (.iload_n 3) 1 670 := ⟨by decide +kernel, rfl⟩
theorem dd_L_law_670 : jd cL_law 670 (.iconst 1) 1 671 := ⟨by decide +kernel, rfl⟩
theorem dd_L_law_671 : jd cL_law 671 (.iadd) 1 672 := ⟨by decide +kernel, rfl⟩
theorem dd_L_law_672 : jd cL_law 672 (.iaload) 1 673 := ⟨by decide +kernel, rfl⟩
theorem dd_L_law_673 : jd cL_law 673 (.aload_n 0) 1 674 := ⟨by decide +kernel, rfl⟩
theorem dd_L_law_674 : jd cL_law 674 (.iload_n 3) 1 675 := ⟨by decide +kernel, rfl⟩
theorem dd_L_law_675 : jd cL_law 675 (.iconst 2) 1 676 := ⟨by decide +kernel, rfl⟩
theorem dd_L_law_676 : jd cL_law 676 (.iadd) 1 677 := ⟨by decide +kernel, rfl⟩
theorem dd_L_law_677 : jd cL_law 677 (.iaload) 1 678 := ⟨by decide +kernel, rfl⟩
theorem ml_RL_81 : (Cond.methodLink "MothCustomsLaw" 81 yX5_set : Cond) ∈ jj_tb := jj_m (List.mem_of_getElem? (i := 1085) (by decide +kernel)) rfl
theorem dd_L_law_678 : jd cL_law 678 (.invokevirtual 81) 3 681 := ⟨by decide +kernel, rfl⟩
theorem dd_L_law_684 : jd cL_law 684 (.iconst 0) 1 685 := ⟨by decide +kernel, rfl⟩
theorem dd_L_law_685 : jd cL_law 685 (.ireturn) 1 686 := ⟨by decide +kernel, rfl⟩
theorem dd_L_law_681 : jd cL_law 681 (.if_icmp .eq 712) 3 684 := ⟨by decide +kernel, rfl⟩
theorem dd_L_law_686 : jd cL_law 686 (.aload_n 1) 1 687 := ⟨by decide +kernel, rfl⟩
theorem dd_L_law_687 : jd cL_law 687 (.aload_n 0) 1 688 := ⟨by decide +kernel, rfl⟩
theorem dd_L_law_688 : jd cL_law 688 (.iload_n 3) 1 689 := ⟨by decide +kernel, rfl⟩
theorem dd_L_law_689 : jd cL_law 689 (.iconst 1) 1 690 := ⟨by decide +kernel, rfl⟩
theorem dd_L_law_690 : jd cL_law 690 (.iadd) 1 691 := ⟨by decide +kernel, rfl⟩
theorem dd_L_law_691 : jd cL_law 691 (.iaload) 1 692 := ⟨by decide +kernel, rfl⟩
theorem ml_RL_82 : (Cond.methodLink "MothCustomsLaw" 82 yX4_go : Cond) ∈ jj_tb := jj_m (List.mem_of_getElem? (i := 579) (by decide +kernel)) rfl
theorem dd_L_law_692 : jd cL_law 692 (.invokevirtual 82) 3 695 := ⟨by decide +kernel, rfl⟩
theorem dd_L_law_695 : jd cL_law 695 (.aload_n 2) 1 696 := ⟨by decide +kernel, rfl⟩
theorem dd_L_law_696 : jd cL_law 696 (.aload_n 0) 1 697 := ⟨by decide +kernel, rfl⟩
theorem dd_L_law_697 : jd cL_law 697 (.iload_n 3) 1 698 := ⟨by decide +kernel, rfl⟩
theorem dd_L_law_698 : jd cL_law 698 (.iconst 1) 1 699 := ⟨by decide +kernel, rfl⟩
theorem dd_L_law_699 : jd cL_law 699 (.iadd) 1 700 := ⟨by decide +kernel, rfl⟩
theorem dd_L_law_700 : jd cL_law 700 (.iaload) 1 701 := ⟨by decide +kernel, rfl⟩
theorem ml_RL_85 : (Cond.methodLink "MothCustomsLaw" 85 yX5_go : Cond) ∈ jj_tb := jj_m (List.mem_of_getElem? (i := 1092) (by decide +kernel)) rfl
theorem dd_L_law_701 : jd cL_law 701 (.invokevirtual 85) 3 704 := ⟨by decide +kernel, rfl⟩
theorem dd_L_law_707 : jd cL_law 707 (.iconst 0) 1 708 := ⟨by decide +kernel, rfl⟩
theorem dd_L_law_708 : jd cL_law 708 (.ireturn) 1 709 := ⟨by decide +kernel, rfl⟩
theorem dd_L_law_704 : jd cL_law 704 (.if_icmp .eq 689) 3 707 := ⟨by decide +kernel, rfl⟩
theorem dd_L_law_709 : jd cL_law 709 (.aload_n 1) 1 710 := ⟨by decide +kernel, rfl⟩
theorem dd_L_law_710 : jd cL_law 710 (.aload_n 0) 1 711 := ⟨by decide +kernel, rfl⟩
theorem dd_L_law_711 : jd cL_law 711 (.iload_n 3) 1 712 := ⟨by decide +kernel, rfl⟩
theorem dd_L_law_712 : jd cL_law 712 (.iconst 1) 1 713 := ⟨by decide +kernel, rfl⟩
theorem dd_L_law_713 : jd cL_law 713 (.iadd) 1 714 := ⟨by decide +kernel, rfl⟩
theorem dd_L_law_714 : jd cL_law 714 (.iaload) 1 715 := ⟨by decide +kernel, rfl⟩
theorem dd_L_law_715 : jd cL_law 715 (.aload_n 0) 1 716 := ⟨by decide +kernel, rfl⟩
theorem dd_L_law_716 : jd cL_law 716 (.iload_n 3) 1 717 := ⟨by decide +kernel, rfl⟩
theorem dd_L_law_717 : jd cL_law 717 (.iconst 2) 1 718 := ⟨by decide +kernel, rfl⟩
theorem dd_L_law_718 : jd cL_law 718 (.iadd) 1 719 := ⟨by decide +kernel, rfl⟩
theorem dd_L_law_719 : jd cL_law 719 (.iaload) 1 720 := ⟨by decide +kernel, rfl⟩
theorem ml_RL_86 : (Cond.methodLink "MothCustomsLaw" 86 yX4_ahead : Cond) ∈ jj_tb := jj_m (List.mem_of_getElem? (i := 602) (by decide +kernel)) rfl
theorem dd_L_law_720 : jd cL_law 720 (.invokevirtual 86) 3 723 := ⟨by decide +kernel, rfl⟩
theorem dd_L_law_723 : jd cL_law 723 (.aload_n 2) 1 724 := ⟨by decide +kernel, rfl⟩
theorem dd_L_law_724 : jd cL_law 724 (.aload_n 0) 1 725 := ⟨by decide +kernel, rfl⟩
theorem dd_L_law_725 : jd cL_law 725 (.iload_n 3) 1 726 := ⟨by decide +kernel, rfl⟩
theorem dd_L_law_726 : jd cL_law 726 (.iconst 1) 1 727 := ⟨by decide +kernel, rfl⟩
theorem dd_L_law_727 : jd cL_law 727 (.iadd) 1 728 := ⟨by decide +kernel, rfl⟩
theorem dd_L_law_728 : jd cL_law 728 (.iaload) 1 729 := ⟨by decide +kernel, rfl⟩
theorem dd_L_law_729 : jd cL_law 729 (.aload_n 0) 1 730 := ⟨by decide +kernel, rfl⟩
theorem dd_L_law_730 : jd cL_law 730 (.iload_n 3) 1 731 := ⟨by decide +kernel, rfl⟩
theorem dd_L_law_731 : jd cL_law 731 (.iconst 2) 1 732 := ⟨by decide +kernel, rfl⟩
theorem dd_L_law_732 : jd cL_law 732 (.iadd) 1 733 := ⟨by decide +kernel, rfl⟩
theorem dd_L_law_733 : jd cL_law 733 (.iaload) 1 734 := ⟨by decide +kernel, rfl⟩
theorem ml_RL_89 : (Cond.methodLink "MothCustomsLaw" 89 yX5_ahead : Cond) ∈ jj_tb := jj_m (List.mem_of_getElem? (i := 1117) (by decide +kernel)) rfl
theorem dd_L_law_734 : jd cL_law 734 (.invokevirtual 89) 3 737 := ⟨by decide +kernel, rfl⟩
theorem dd_L_law_740 : jd cL_law 740 (.iconst 0) 1 741 := ⟨by decide +kernel, rfl⟩
theorem dd_L_law_741 : jd cL_law 741 (.ireturn) 1 742 := ⟨by decide +kernel, rfl⟩
theorem dd_L_law_737 : jd cL_law 737 (.if_icmp .eq 656) 3 740 := ⟨by decide +kernel, rfl⟩
theorem dd_L_law_742 : jd cL_law 742 (.aload_n 1) 1 743 := ⟨by decide +kernel, rfl⟩
theorem dd_L_law_743 : jd cL_law 743 (.aload_n 0) 1 744 := ⟨by decide +kernel, rfl⟩
theorem dd_L_law_744 : jd cL_law 744 (.iload_n 3) 1 745 := ⟨by decide +kernel, rfl⟩
theorem dd_L_law_745 : jd cL_law 745 (.iconst 1) 1 746 := ⟨by decide +kernel, rfl⟩
theorem dd_L_law_746 : jd cL_law 746 (.iadd) 1 747 := ⟨by decide +kernel, rfl⟩
theorem dd_L_law_747 : jd cL_law 747 (.iaload) 1 748 := ⟨by decide +kernel, rfl⟩
theorem ml_RL_90 : (Cond.methodLink "MothCustomsLaw" 90 yX4_when : Cond) ∈ jj_tb := jj_m (List.mem_of_getElem? (i := 610) (by decide +kernel)) rfl
theorem dd_L_law_748 : jd cL_law 748 (.invokevirtual 90) 3 751 := ⟨by decide +kernel, rfl⟩
theorem dd_L_law_751 : jd cL_law 751 (.aload_n 2) 1 752 := ⟨by decide +kernel, rfl⟩
theorem dd_L_law_752 : jd cL_law 752 (.aload_n 0) 1 753 := ⟨by decide +kernel, rfl⟩
theorem dd_L_law_753 : jd cL_law 753 (.iload_n 3) 1 754 := ⟨by decide +kernel, rfl⟩
theorem dd_L_law_754 : jd cL_law 754 (.iconst 1) 1 755 := ⟨by decide +kernel, rfl⟩
theorem dd_L_law_755 : jd cL_law 755 (.iadd) 1 756 := ⟨by decide +kernel, rfl⟩
theorem dd_L_law_756 : jd cL_law 756 (.iaload) 1 757 := ⟨by decide +kernel, rfl⟩
theorem ml_RL_93 : (Cond.methodLink "MothCustomsLaw" 93 yX5_when : Cond) ∈ jj_tb := jj_m (List.mem_of_getElem? (i := 1125) (by decide +kernel)) rfl
theorem dd_L_law_757 : jd cL_law 757 (.invokevirtual 93) 3 760 := ⟨by decide +kernel, rfl⟩
theorem dd_L_law_763 : jd cL_law 763 (.iconst 0) 1 764 := ⟨by decide +kernel, rfl⟩
theorem dd_L_law_764 : jd cL_law 764 (.ireturn) 1 765 := ⟨by decide +kernel, rfl⟩
theorem dd_L_law_760 : jd cL_law 760 (.if_icmp .eq 633) 3 763 := ⟨by decide +kernel, rfl⟩
theorem dd_L_law_765 : jd cL_law 765 (.aload_n 1) 1 766 := ⟨by decide +kernel, rfl⟩
theorem dd_L_law_766 : jd cL_law 766 (.aload_n 0) 1 767 := ⟨by decide +kernel, rfl⟩
theorem dd_L_law_767 : jd cL_law 767 (.iload_n 3) 1 768 := ⟨by decide +kernel, rfl⟩
theorem dd_L_law_768 : jd cL_law 768 (.iconst 1) 1 769 := ⟨by decide +kernel, rfl⟩
theorem dd_L_law_769 : jd cL_law 769 (.iadd) 1 770 := ⟨by decide +kernel, rfl⟩
theorem dd_L_law_770 : jd cL_law 770 (.iaload) 1 771 := ⟨by decide +kernel, rfl⟩
theorem ml_RL_94 : (Cond.methodLink "MothCustomsLaw" 94 yX4_eats : Cond) ∈ jj_tb := jj_m (List.mem_of_getElem? (i := 615) (by decide +kernel)) rfl
theorem dd_L_law_771 : jd cL_law 771 (.invokevirtual 94) 3 774 := ⟨by decide +kernel, rfl⟩
theorem dd_L_law_774 : jd cL_law 774 (.aload_n 2) 1 775 := ⟨by decide +kernel, rfl⟩
theorem dd_L_law_775 : jd cL_law 775 (.aload_n 0) 1 776 := ⟨by decide +kernel, rfl⟩
theorem dd_L_law_776 : jd cL_law 776 (.iload_n 3) 1 777 := ⟨by decide +kernel, rfl⟩
theorem dd_L_law_777 : jd cL_law 777 (.iconst 1) 1 778 := ⟨by decide +kernel, rfl⟩
theorem dd_L_law_778 : jd cL_law 778 (.iadd) 1 779 := ⟨by decide +kernel, rfl⟩
theorem dd_L_law_779 : jd cL_law 779 (.iaload) 1 780 := ⟨by decide +kernel, rfl⟩
theorem ml_RL_97 : (Cond.methodLink "MothCustomsLaw" 97 yX5_eats : Cond) ∈ jj_tb := jj_m (List.mem_of_getElem? (i := 1129) (by decide +kernel)) rfl
theorem dd_L_law_780 : jd cL_law 780 (.invokevirtual 97) 3 783 := ⟨by decide +kernel, rfl⟩
theorem dd_L_law_786 : jd cL_law 786 (.iconst 0) 1 787 := ⟨by decide +kernel, rfl⟩
theorem dd_L_law_787 : jd cL_law 787 (.ireturn) 1 788 := ⟨by decide +kernel, rfl⟩
theorem dd_L_law_783 : jd cL_law 783 (.if_icmp .eq 610) 3 786 := ⟨by decide +kernel, rfl⟩
theorem dd_L_law_788 : jd cL_law 788 (.aload_n 1) 1 789 := ⟨by decide +kernel, rfl⟩
theorem dd_L_law_789 : jd cL_law 789 (.aload_n 0) 1 790 := ⟨by decide +kernel, rfl⟩
theorem dd_L_law_790 : jd cL_law 790 (.iload_n 3) 1 791 := ⟨by decide +kernel, rfl⟩
theorem dd_L_law_791 : jd cL_law 791 (.iconst 1) 1 792 := ⟨by decide +kernel, rfl⟩
theorem dd_L_law_792 : jd cL_law 792 (.iadd) 1 793 := ⟨by decide +kernel, rfl⟩
theorem dd_L_law_793 : jd cL_law 793 (.iaload) 1 794 := ⟨by decide +kernel, rfl⟩
theorem ml_RL_98 : (Cond.methodLink "MothCustomsLaw" 98 yX4_duty : Cond) ∈ jj_tb := jj_m (List.mem_of_getElem? (i := 624) (by decide +kernel)) rfl
theorem dd_L_law_794 : jd cL_law 794 (.invokevirtual 98) 3 797 := ⟨by decide +kernel, rfl⟩
theorem dd_L_law_797 : jd cL_law 797 (.aload_n 2) 1 798 := ⟨by decide +kernel, rfl⟩
theorem dd_L_law_798 : jd cL_law 798 (.aload_n 0) 1 799 := ⟨by decide +kernel, rfl⟩
theorem dd_L_law_799 : jd cL_law 799 (.iload_n 3) 1 800 := ⟨by decide +kernel, rfl⟩
theorem dd_L_law_800 : jd cL_law 800 (.iconst 1) 1 801 := ⟨by decide +kernel, rfl⟩
theorem dd_L_law_801 : jd cL_law 801 (.iadd) 1 802 := ⟨by decide +kernel, rfl⟩
theorem dd_L_law_802 : jd cL_law 802 (.iaload) 1 803 := ⟨by decide +kernel, rfl⟩
theorem ml_RL_101 : (Cond.methodLink "MothCustomsLaw" 101 yX5_duty : Cond) ∈ jj_tb := jj_m (List.mem_of_getElem? (i := 1133) (by decide +kernel)) rfl
theorem dd_L_law_803 : jd cL_law 803 (.invokevirtual 101) 3 806 := ⟨by decide +kernel, rfl⟩
theorem dd_L_law_809 : jd cL_law 809 (.iconst 0) 1 810 := ⟨by decide +kernel, rfl⟩
theorem dd_L_law_810 : jd cL_law 810 (.ireturn) 1 811 := ⟨by decide +kernel, rfl⟩
theorem dd_L_law_806 : jd cL_law 806 (.if_icmp .eq 587) 3 809 := ⟨by decide +kernel, rfl⟩
theorem dd_L_law_811 : jd cL_law 811 (.aload_n 1) 1 812 := ⟨by decide +kernel, rfl⟩
theorem dd_L_law_812 : jd cL_law 812 (.aload_n 0) 1 813 := ⟨by decide +kernel, rfl⟩
theorem dd_L_law_813 : jd cL_law 813 (.iload_n 3) 1 814 := ⟨by decide +kernel, rfl⟩
theorem dd_L_law_814 : jd cL_law 814 (.iconst 1) 1 815 := ⟨by decide +kernel, rfl⟩
theorem dd_L_law_815 : jd cL_law 815 (.iadd) 1 816 := ⟨by decide +kernel, rfl⟩
theorem dd_L_law_816 : jd cL_law 816 (.iaload) 1 817 := ⟨by decide +kernel, rfl⟩
theorem ml_RL_102 : (Cond.methodLink "MothCustomsLaw" 102 yX4_best : Cond) ∈ jj_tb := jj_m (List.mem_of_getElem? (i := 628) (by decide +kernel)) rfl
theorem dd_L_law_817 : jd cL_law 817 (.invokevirtual 102) 3 820 := ⟨by decide +kernel, rfl⟩
theorem dd_L_law_820 : jd cL_law 820 (.aload_n 2) 1 821 := ⟨by decide +kernel, rfl⟩
theorem dd_L_law_821 : jd cL_law 821 (.aload_n 0) 1 822 := ⟨by decide +kernel, rfl⟩
theorem dd_L_law_822 : jd cL_law 822 (.iload_n 3) 1 823 := ⟨by decide +kernel, rfl⟩
theorem dd_L_law_823 : jd cL_law 823 (.iconst 1) 1 824 := ⟨by decide +kernel, rfl⟩
theorem dd_L_law_824 : jd cL_law 824 (.iadd) 1 825 := ⟨by decide +kernel, rfl⟩
theorem dd_L_law_825 : jd cL_law 825 (.iaload) 1 826 := ⟨by decide +kernel, rfl⟩
theorem ml_RL_105 : (Cond.methodLink "MothCustomsLaw" 105 yX5_best : Cond) ∈ jj_tb := jj_m (List.mem_of_getElem? (i := 1137) (by decide +kernel)) rfl
theorem dd_L_law_826 : jd cL_law 826 (.invokevirtual 105) 3 829 := ⟨by decide +kernel, rfl⟩
theorem dd_L_law_832 : jd cL_law 832 (.iconst 0) 1 833 := ⟨by decide +kernel, rfl⟩
theorem dd_L_law_833 : jd cL_law 833 (.ireturn) 1 834 := ⟨by decide +kernel, rfl⟩
theorem dd_L_law_829 : jd cL_law 829 (.if_icmp .eq 564) 3 832 := ⟨by decide +kernel, rfl⟩
theorem dd_L_law_834 : jd cL_law 834 (.aload_n 1) 1 835 := ⟨by decide +kernel, rfl⟩
theorem dd_L_law_835 : jd cL_law 835 (.aload_n 0) 1 836 := ⟨by decide +kernel, rfl⟩
theorem dd_L_law_836 : jd cL_law 836 (.iload_n 3) 1 837 := ⟨by decide +kernel, rfl⟩
theorem dd_L_law_837 : jd cL_law 837 (.iconst 1) 1 838 := ⟨by decide +kernel, rfl⟩
theorem dd_L_law_838 : jd cL_law 838 (.iadd) 1 839 := ⟨by decide +kernel, rfl⟩
theorem dd_L_law_839 : jd cL_law 839 (.iaload) 1 840 := ⟨by decide +kernel, rfl⟩
theorem ml_RL_106 : (Cond.methodLink "MothCustomsLaw" 106 yX4_guard : Cond) ∈ jj_tb := jj_m (List.mem_of_getElem? (i := 648) (by decide +kernel)) rfl
theorem dd_L_law_840 : jd cL_law 840 (.invokevirtual 106) 3 843 := ⟨by decide +kernel, rfl⟩
theorem dd_L_law_843 : jd cL_law 843 (.aload_n 2) 1 844 := ⟨by decide +kernel, rfl⟩
theorem dd_L_law_844 : jd cL_law 844 (.aload_n 0) 1 845 := ⟨by decide +kernel, rfl⟩
theorem dd_L_law_845 : jd cL_law 845 (.iload_n 3) 1 846 := ⟨by decide +kernel, rfl⟩
theorem dd_L_law_846 : jd cL_law 846 (.iconst 1) 1 847 := ⟨by decide +kernel, rfl⟩
theorem dd_L_law_847 : jd cL_law 847 (.iadd) 1 848 := ⟨by decide +kernel, rfl⟩
theorem dd_L_law_848 : jd cL_law 848 (.iaload) 1 849 := ⟨by decide +kernel, rfl⟩
theorem ml_RL_109 : (Cond.methodLink "MothCustomsLaw" 109 yX5_guard : Cond) ∈ jj_tb := jj_m (List.mem_of_getElem? (i := 1166) (by decide +kernel)) rfl
theorem dd_L_law_849 : jd cL_law 849 (.invokevirtual 109) 3 852 := ⟨by decide +kernel, rfl⟩
theorem dd_L_law_855 : jd cL_law 855 (.iconst 0) 1 856 := ⟨by decide +kernel, rfl⟩
theorem dd_L_law_856 : jd cL_law 856 (.ireturn) 1 857 := ⟨by decide +kernel, rfl⟩
theorem dd_L_law_852 : jd cL_law 852 (.if_icmp .eq 541) 3 855 := ⟨by decide +kernel, rfl⟩
theorem dd_L_law_857 : jd cL_law 857 (.aload_n 1) 1 858 := ⟨by decide +kernel, rfl⟩
theorem dd_L_law_858 : jd cL_law 858 (.aload_n 0) 1 859 := ⟨by decide +kernel, rfl⟩
theorem dd_L_law_859 : jd cL_law 859 (.iload_n 3) 1 860 := ⟨by decide +kernel, rfl⟩
theorem dd_L_law_860 : jd cL_law 860 (.iconst 1) 1 861 := ⟨by decide +kernel, rfl⟩
theorem dd_L_law_861 : jd cL_law 861 (.iadd) 1 862 := ⟨by decide +kernel, rfl⟩
theorem dd_L_law_862 : jd cL_law 862 (.iaload) 1 863 := ⟨by decide +kernel, rfl⟩
theorem dd_L_law_863 : jd cL_law 863 (.aload_n 0) 1 864 := ⟨by decide +kernel, rfl⟩
theorem dd_L_law_864 : jd cL_law 864 (.iload_n 3) 1 865 := ⟨by decide +kernel, rfl⟩
theorem dd_L_law_865 : jd cL_law 865 (.iconst 2) 1 866 := ⟨by decide +kernel, rfl⟩
theorem dd_L_law_866 : jd cL_law 866 (.iadd) 1 867 := ⟨by decide +kernel, rfl⟩
theorem dd_L_law_867 : jd cL_law 867 (.iaload) 1 868 := ⟨by decide +kernel, rfl⟩
theorem ml_RL_110 : (Cond.methodLink "MothCustomsLaw" 110 yX4_send : Cond) ∈ jj_tb := jj_m (List.mem_of_getElem? (i := 656) (by decide +kernel)) rfl
theorem dd_L_law_868 : jd cL_law 868 (.invokevirtual 110) 3 871 := ⟨by decide +kernel, rfl⟩
theorem dd_L_law_871 : jd cL_law 871 (.aload_n 2) 1 872 := ⟨by decide +kernel, rfl⟩
theorem dd_L_law_872 : jd cL_law 872 (.aload_n 0) 1 873 := ⟨by decide +kernel, rfl⟩
theorem dd_L_law_873 : jd cL_law 873 (.iload_n 3) 1 874 := ⟨by decide +kernel, rfl⟩
theorem dd_L_law_874 : jd cL_law 874 (.iconst 1) 1 875 := ⟨by decide +kernel, rfl⟩
theorem dd_L_law_875 : jd cL_law 875 (.iadd) 1 876 := ⟨by decide +kernel, rfl⟩
theorem dd_L_law_876 : jd cL_law 876 (.iaload) 1 877 := ⟨by decide +kernel, rfl⟩
theorem dd_L_law_877 : jd cL_law 877 (.aload_n 0) 1 878 := ⟨by decide +kernel, rfl⟩
theorem dd_L_law_878 : jd cL_law 878 (.iload_n 3) 1 879 := ⟨by decide +kernel, rfl⟩
theorem dd_L_law_879 : jd cL_law 879 (.iconst 2) 1 880 := ⟨by decide +kernel, rfl⟩
theorem dd_L_law_880 : jd cL_law 880 (.iadd) 1 881 := ⟨by decide +kernel, rfl⟩
theorem dd_L_law_881 : jd cL_law 881 (.iaload) 1 882 := ⟨by decide +kernel, rfl⟩
theorem ml_RL_113 : (Cond.methodLink "MothCustomsLaw" 113 yX5_send : Cond) ∈ jj_tb := jj_m (List.mem_of_getElem? (i := 1170) (by decide +kernel)) rfl
theorem dd_L_law_882 : jd cL_law 882 (.invokevirtual 113) 3 885 := ⟨by decide +kernel, rfl⟩
theorem dd_L_law_888 : jd cL_law 888 (.iconst 0) 1 889 := ⟨by decide +kernel, rfl⟩
theorem dd_L_law_889 : jd cL_law 889 (.ireturn) 1 890 := ⟨by decide +kernel, rfl⟩
theorem dd_L_law_885 : jd cL_law 885 (.if_icmp .eq 508) 3 888 := ⟨by decide +kernel, rfl⟩
theorem dd_L_law_890 : jd cL_law 890 (.aload_n 1) 1 891 := ⟨by decide +kernel, rfl⟩
theorem dd_L_law_891 : jd cL_law 891 (.aload_n 0) 1 892 := ⟨by decide +kernel, rfl⟩
theorem dd_L_law_892 : jd cL_law 892 (.iload_n 3) 1 893 := ⟨by decide +kernel, rfl⟩
theorem dd_L_law_893 : jd cL_law 893 (.iconst 1) 1 894 := ⟨by decide +kernel, rfl⟩
theorem dd_L_law_894 : jd cL_law 894 (.iadd) 1 895 := ⟨by decide +kernel, rfl⟩
theorem dd_L_law_895 : jd cL_law 895 (.iaload) 1 896 := ⟨by decide +kernel, rfl⟩
theorem ml_RL_114 : (Cond.methodLink "MothCustomsLaw" 114 yX4_raise : Cond) ∈ jj_tb := jj_m (List.mem_of_getElem? (i := 660) (by decide +kernel)) rfl
theorem dd_L_law_896 : jd cL_law 896 (.invokevirtual 114) 3 899 := ⟨by decide +kernel, rfl⟩
theorem dd_L_law_899 : jd cL_law 899 (.aload_n 2) 1 900 := ⟨by decide +kernel, rfl⟩
theorem dd_L_law_900 : jd cL_law 900 (.aload_n 0) 1 901 := ⟨by decide +kernel, rfl⟩
theorem dd_L_law_901 : jd cL_law 901 (.iload_n 3) 1 902 := ⟨by decide +kernel, rfl⟩
theorem dd_L_law_902 : jd cL_law 902 (.iconst 1) 1 903 := ⟨by decide +kernel, rfl⟩
theorem dd_L_law_903 : jd cL_law 903 (.iadd) 1 904 := ⟨by decide +kernel, rfl⟩
theorem dd_L_law_904 : jd cL_law 904 (.iaload) 1 905 := ⟨by decide +kernel, rfl⟩
theorem ml_RL_117 : (Cond.methodLink "MothCustomsLaw" 117 yX5_raise : Cond) ∈ jj_tb := jj_m (List.mem_of_getElem? (i := 1174) (by decide +kernel)) rfl
theorem dd_L_law_905 : jd cL_law 905 (.invokevirtual 117) 3 908 := ⟨by decide +kernel, rfl⟩
theorem dd_L_law_911 : jd cL_law 911 (.iconst 0) 1 912 := ⟨by decide +kernel, rfl⟩
theorem dd_L_law_912 : jd cL_law 912 (.ireturn) 1 913 := ⟨by decide +kernel, rfl⟩
theorem dd_L_law_908 : jd cL_law 908 (.if_icmp .eq 485) 3 911 := ⟨by decide +kernel, rfl⟩
theorem dd_L_law_913 : jd cL_law 913 (.aload_n 1) 1 914 := ⟨by decide +kernel, rfl⟩
theorem dd_L_law_914 : jd cL_law 914 (.aload_n 0) 1 915 := ⟨by decide +kernel, rfl⟩
theorem dd_L_law_915 : jd cL_law 915 (.iload_n 3) 1 916 := ⟨by decide +kernel, rfl⟩
theorem dd_L_law_916 : jd cL_law 916 (.iconst 1) 1 917 := ⟨by decide +kernel, rfl⟩
theorem dd_L_law_917 : jd cL_law 917 (.iadd) 1 918 := ⟨by decide +kernel, rfl⟩
theorem dd_L_law_918 : jd cL_law 918 (.iaload) 1 919 := ⟨by decide +kernel, rfl⟩
theorem dd_L_law_919 : jd cL_law 919 (.aload_n 0) 1 920 := ⟨by decide +kernel, rfl⟩
theorem dd_L_law_920 : jd cL_law 920 (.iload_n 3) 1 921 := ⟨by decide +kernel, rfl⟩
theorem dd_L_law_921 : jd cL_law 921 (.iconst 2) 1 922 := ⟨by decide +kernel, rfl⟩
theorem dd_L_law_922 : jd cL_law 922 (.iadd) 1 923 := ⟨by decide +kernel, rfl⟩
theorem dd_L_law_923 : jd cL_law 923 (.iaload) 1 924 := ⟨by decide +kernel, rfl⟩
theorem ml_RL_118 : (Cond.methodLink "MothCustomsLaw" 118 yX4_mean : Cond) ∈ jj_tb := jj_m (List.mem_of_getElem? (i := 664) (by decide +kernel)) rfl
theorem dd_L_law_924 : jd cL_law 924 (.invokevirtual 118) 3 927 := ⟨by decide +kernel, rfl⟩
theorem dd_L_law_927 : jd cL_law 927 (.aload_n 2) 1 928 := ⟨by decide +kernel, rfl⟩
theorem dd_L_law_928 : jd cL_law 928 (.aload_n 0) 1 929 := ⟨by decide +kernel, rfl⟩
theorem dd_L_law_929 : jd cL_law 929 (.iload_n 3) 1 930 := ⟨by decide +kernel, rfl⟩
theorem dd_L_law_930 : jd cL_law 930 (.iconst 1) 1 931 := ⟨by decide +kernel, rfl⟩
theorem dd_L_law_931 : jd cL_law 931 (.iadd) 1 932 := ⟨by decide +kernel, rfl⟩
theorem dd_L_law_932 : jd cL_law 932 (.iaload) 1 933 := ⟨by decide +kernel, rfl⟩
theorem dd_L_law_933 : jd cL_law 933 (.aload_n 0) 1 934 := ⟨by decide +kernel, rfl⟩
theorem dd_L_law_934 : jd cL_law 934 (.iload_n 3) 1 935 := ⟨by decide +kernel, rfl⟩
theorem dd_L_law_935 : jd cL_law 935 (.iconst 2) 1 936 := ⟨by decide +kernel, rfl⟩
theorem dd_L_law_936 : jd cL_law 936 (.iadd) 1 937 := ⟨by decide +kernel, rfl⟩
theorem dd_L_law_937 : jd cL_law 937 (.iaload) 1 938 := ⟨by decide +kernel, rfl⟩
theorem ml_RL_122 : (Cond.methodLink "MothCustomsLaw" 122 yX5_mean : Cond) ∈ jj_tb := jj_m (List.mem_of_getElem? (i := 1178) (by decide +kernel)) rfl
theorem dd_L_law_938 : jd cL_law 938 (.invokevirtual 122) 3 941 := ⟨by decide +kernel, rfl⟩
theorem dd_L_law_941 : jd cL_law 941 (.lcmp) 1 942 := ⟨by decide +kernel, rfl⟩
theorem dd_L_law_945 : jd cL_law 945 (.iconst 0) 1 946 := ⟨by decide +kernel, rfl⟩
theorem dd_L_law_946 : jd cL_law 946 (.ireturn) 1 947 := ⟨by decide +kernel, rfl⟩
theorem dd_L_law_942 : jd cL_law 942 (.ifCond .eq 451) 3 945 := ⟨by decide +kernel, rfl⟩
theorem dd_L_law_947 : jd cL_law 947 (.aload_n 1) 1 948 := ⟨by decide +kernel, rfl⟩
theorem dd_L_law_948 : jd cL_law 948 (.aload_n 0) 1 949 := ⟨by decide +kernel, rfl⟩
theorem dd_L_law_949 : jd cL_law 949 (.iload_n 3) 1 950 := ⟨by decide +kernel, rfl⟩
theorem dd_L_law_950 : jd cL_law 950 (.iconst 1) 1 951 := ⟨by decide +kernel, rfl⟩
theorem dd_L_law_951 : jd cL_law 951 (.iadd) 1 952 := ⟨by decide +kernel, rfl⟩
theorem dd_L_law_952 : jd cL_law 952 (.iaload) 1 953 := ⟨by decide +kernel, rfl⟩
theorem dd_L_law_953 : jd cL_law 953 (.aload_n 0) 1 954 := ⟨by decide +kernel, rfl⟩
theorem dd_L_law_954 : jd cL_law 954 (.iload_n 3) 1 955 := ⟨by decide +kernel, rfl⟩
theorem dd_L_law_955 : jd cL_law 955 (.iconst 2) 1 956 := ⟨by decide +kernel, rfl⟩
theorem dd_L_law_956 : jd cL_law 956 (.iadd) 1 957 := ⟨by decide +kernel, rfl⟩
theorem dd_L_law_957 : jd cL_law 957 (.iaload) 1 958 := ⟨by decide +kernel, rfl⟩
theorem dd_L_law_958 : jd cL_law 958 (.aload_n 0) 1 959 := ⟨by decide +kernel, rfl⟩
theorem dd_L_law_959 : jd cL_law 959 (.iload_n 3) 1 960 := ⟨by decide +kernel, rfl⟩
theorem dd_L_law_960 : jd cL_law 960 (.iconst 3) 1 961 := ⟨by decide +kernel, rfl⟩
theorem dd_L_law_961 : jd cL_law 961 (.iadd) 1 962 := ⟨by decide +kernel, rfl⟩
theorem dd_L_law_962 : jd cL_law 962 (.iaload) 1 963 := ⟨by decide +kernel, rfl⟩
theorem ml_RL_123 : (Cond.methodLink "MothCustomsLaw" 123 yX4_luck : Cond) ∈ jj_tb := jj_m (List.mem_of_getElem? (i := 681) (by decide +kernel)) rfl
theorem dd_L_law_963 : jd cL_law 963 (.invokevirtual 123) 3 966 := ⟨by decide +kernel, rfl⟩
theorem dd_L_law_966 : jd cL_law 966 (.aload_n 2) 1 967 := ⟨by decide +kernel, rfl⟩
theorem dd_L_law_967 : jd cL_law 967 (.aload_n 0) 1 968 := ⟨by decide +kernel, rfl⟩
theorem dd_L_law_968 : jd cL_law 968 (.iload_n 3) 1 969 := ⟨by decide +kernel, rfl⟩
theorem dd_L_law_969 : jd cL_law 969 (.iconst 1) 1 970 := ⟨by decide +kernel, rfl⟩
theorem dd_L_law_970 : jd cL_law 970 (.iadd) 1 971 := ⟨by decide +kernel, rfl⟩
theorem dd_L_law_971 : jd cL_law 971 (.iaload) 1 972 := ⟨by decide +kernel, rfl⟩
theorem dd_L_law_972 : jd cL_law 972 (.aload_n 0) 1 973 := ⟨by decide +kernel, rfl⟩
theorem dd_L_law_973 : jd cL_law 973 (.iload_n 3) 1 974 := ⟨by decide +kernel, rfl⟩
theorem dd_L_law_974 : jd cL_law 974 (.iconst 2) 1 975 := ⟨by decide +kernel, rfl⟩
theorem dd_L_law_975 : jd cL_law 975 (.iadd) 1 976 := ⟨by decide +kernel, rfl⟩
theorem dd_L_law_976 : jd cL_law 976 (.iaload) 1 977 := ⟨by decide +kernel, rfl⟩
theorem dd_L_law_977 : jd cL_law 977 (.aload_n 0) 1 978 := ⟨by decide +kernel, rfl⟩
theorem dd_L_law_978 : jd cL_law 978 (.iload_n 3) 1 979 := ⟨by decide +kernel, rfl⟩
theorem dd_L_law_979 : jd cL_law 979 (.iconst 3) 1 980 := ⟨by decide +kernel, rfl⟩
theorem dd_L_law_980 : jd cL_law 980 (.iadd) 1 981 := ⟨by decide +kernel, rfl⟩
theorem dd_L_law_981 : jd cL_law 981 (.iaload) 1 982 := ⟨by decide +kernel, rfl⟩
theorem ml_RL_127 : (Cond.methodLink "MothCustomsLaw" 127 yX5_luck : Cond) ∈ jj_tb := jj_m (List.mem_of_getElem? (i := 1197) (by decide +kernel)) rfl
theorem dd_L_law_982 : jd cL_law 982 (.invokevirtual 127) 3 985 := ⟨by decide +kernel, rfl⟩
theorem dd_L_law_985 : jd cL_law 985 (.lcmp) 1 986 := ⟨by decide +kernel, rfl⟩
theorem dd_L_law_989 : jd cL_law 989 (.iconst 0) 1 990 := ⟨by decide +kernel, rfl⟩
theorem dd_L_law_990 : jd cL_law 990 (.ireturn) 1 991 := ⟨by decide +kernel, rfl⟩
theorem dd_L_law_986 : jd cL_law 986 (.ifCond .eq 407) 3 989 := ⟨by decide +kernel, rfl⟩
theorem dd_L_law_991 : jd cL_law 991 (.aload_n 1) 1 992 := ⟨by decide +kernel, rfl⟩
theorem dd_L_law_992 : jd cL_law 992 (.aload_n 0) 1 993 := ⟨by decide +kernel, rfl⟩
theorem dd_L_law_993 : jd cL_law 993 (.iload_n 3) 1 994 := ⟨by decide +kernel, rfl⟩
theorem dd_L_law_994 : jd cL_law 994 (.iconst 1) 1 995 := ⟨by decide +kernel, rfl⟩
theorem dd_L_law_995 : jd cL_law 995 (.iadd) 1 996 := ⟨by decide +kernel, rfl⟩
theorem dd_L_law_996 : jd cL_law 996 (.iaload) 1 997 := ⟨by decide +kernel, rfl⟩
theorem dd_L_law_997 : jd cL_law 997 (.aload_n 0) 1 998 := ⟨by decide +kernel, rfl⟩
theorem dd_L_law_998 : jd cL_law 998 (.iload_n 3) 1 999 := ⟨by decide +kernel, rfl⟩
theorem dd_L_law_999 : jd cL_law 999 (.iconst 2) 1 1000 := ⟨by decide +kernel, rfl⟩
theorem dd_L_law_1000 : jd cL_law 1000 (.iadd) 1 1001 := ⟨by decide +kernel, rfl⟩
theorem dd_L_law_1001 : jd cL_law 1001 (.iaload) 1 1002 := ⟨by decide +kernel, rfl⟩
theorem ml_RL_128 : (Cond.methodLink "MothCustomsLaw" 128 yX4_see : Cond) ∈ jj_tb := jj_m (List.mem_of_getElem? (i := 685) (by decide +kernel)) rfl
theorem dd_L_law_1002 : jd cL_law 1002 (.invokevirtual 128) 3 1005 := ⟨by decide +kernel, rfl⟩
theorem dd_L_law_1005 : jd cL_law 1005 (.aload_n 2) 1 1006 := ⟨by decide +kernel, rfl⟩
theorem dd_L_law_1006 : jd cL_law 1006 (.aload_n 0) 1 1007 := ⟨by decide +kernel, rfl⟩
theorem dd_L_law_1007 : jd cL_law 1007 (.iload_n 3) 1 1008 := ⟨by decide +kernel, rfl⟩
theorem dd_L_law_1008 : jd cL_law 1008 (.iconst 1) 1 1009 := ⟨by decide +kernel, rfl⟩
theorem dd_L_law_1009 : jd cL_law 1009 (.iadd) 1 1010 := ⟨by decide +kernel, rfl⟩
theorem dd_L_law_1010 : jd cL_law 1010 (.iaload) 1 1011 := ⟨by decide +kernel, rfl⟩
theorem dd_L_law_1011 : jd cL_law 1011 (.aload_n 0) 1 1012 := ⟨by decide +kernel, rfl⟩
theorem dd_L_law_1012 : jd cL_law 1012 (.iload_n 3) 1 1013 := ⟨by decide +kernel, rfl⟩
theorem dd_L_law_1013 : jd cL_law 1013 (.iconst 2) 1 1014 := ⟨by decide +kernel, rfl⟩
theorem dd_L_law_1014 : jd cL_law 1014 (.iadd) 1 1015 := ⟨by decide +kernel, rfl⟩
theorem dd_L_law_1015 : jd cL_law 1015 (.iaload) 1 1016 := ⟨by decide +kernel, rfl⟩
theorem ml_RL_131 : (Cond.methodLink "MothCustomsLaw" 131 yX5_see : Cond) ∈ jj_tb := jj_m (List.mem_of_getElem? (i := 1201) (by decide +kernel)) rfl
theorem dd_L_law_1016 : jd cL_law 1016 (.invokevirtual 131) 3 1019 := ⟨by decide +kernel, rfl⟩
theorem dd_L_law_1022 : jd cL_law 1022 (.iconst 0) 1 1023 := ⟨by decide +kernel, rfl⟩
theorem dd_L_law_1023 : jd cL_law 1023 (.ireturn) 1 1024 := ⟨by decide +kernel, rfl⟩
theorem dd_L_law_1019 : jd cL_law 1019 (.if_icmp .eq 374) 3 1022 := ⟨by decide +kernel, rfl⟩
theorem dd_L_law_1024 : jd cL_law 1024 (.aload_n 1) 1 1025 := ⟨by decide +kernel, rfl⟩
theorem dd_L_law_1025 : jd cL_law 1025 (.aload_n 0) 1 1026 := ⟨by decide +kernel, rfl⟩
theorem dd_L_law_1026 : jd cL_law 1026 (.iload_n 3) 1 1027 := ⟨by decide +kernel, rfl⟩
theorem dd_L_law_1027 : jd cL_law 1027 (.iconst 1) 1 1028 := ⟨by decide +kernel, rfl⟩
theorem dd_L_law_1028 : jd cL_law 1028 (.iadd) 1 1029 := ⟨by decide +kernel, rfl⟩
theorem dd_L_law_1029 : jd cL_law 1029 (.iaload) 1 1030 := ⟨by decide +kernel, rfl⟩
theorem ml_RL_132 : (Cond.methodLink "MothCustomsLaw" 132 yX4_forget : Cond) ∈ jj_tb := jj_m (List.mem_of_getElem? (i := 689) (by decide +kernel)) rfl
theorem dd_L_law_1030 : jd cL_law 1030 (.invokevirtual 132) 3 1033 := ⟨by decide +kernel, rfl⟩
theorem dd_L_law_1033 : jd cL_law 1033 (.aload_n 2) 1 1034 := ⟨by decide +kernel, rfl⟩
theorem dd_L_law_1034 : jd cL_law 1034 (.aload_n 0) 1 1035 := ⟨by decide +kernel, rfl⟩
theorem dd_L_law_1035 : jd cL_law 1035 (.iload_n 3) 1 1036 := ⟨by decide +kernel, rfl⟩
theorem dd_L_law_1036 : jd cL_law 1036 (.iconst 1) 1 1037 := ⟨by decide +kernel, rfl⟩
theorem dd_L_law_1037 : jd cL_law 1037 (.iadd) 1 1038 := ⟨by decide +kernel, rfl⟩
theorem dd_L_law_1038 : jd cL_law 1038 (.iaload) 1 1039 := ⟨by decide +kernel, rfl⟩
theorem ml_RL_135 : (Cond.methodLink "MothCustomsLaw" 135 yX5_forget : Cond) ∈ jj_tb := jj_m (List.mem_of_getElem? (i := 1205) (by decide +kernel)) rfl
theorem dd_L_law_1039 : jd cL_law 1039 (.invokevirtual 135) 3 1042 := ⟨by decide +kernel, rfl⟩
theorem dd_L_law_1045 : jd cL_law 1045 (.iconst 0) 1 1046 := ⟨by decide +kernel, rfl⟩
theorem dd_L_law_1046 : jd cL_law 1046 (.ireturn) 1 1047 := ⟨by decide +kernel, rfl⟩
theorem dd_L_law_1042 : jd cL_law 1042 (.if_icmp .eq 351) 3 1045 := ⟨by decide +kernel, rfl⟩
theorem dd_L_law_1047 : jd cL_law 1047 (.aload_n 1) 1 1048 := ⟨by decide +kernel, rfl⟩
theorem dd_L_law_1048 : jd cL_law 1048 (.aload_n 0) 1 1049 := ⟨by decide +kernel, rfl⟩
theorem dd_L_law_1049 : jd cL_law 1049 (.iload_n 3) 1 1050 := ⟨by decide +kernel, rfl⟩
theorem dd_L_law_1050 : jd cL_law 1050 (.iconst 1) 1 1051 := ⟨by decide +kernel, rfl⟩
theorem dd_L_law_1051 : jd cL_law 1051 (.iadd) 1 1052 := ⟨by decide +kernel, rfl⟩
theorem dd_L_law_1052 : jd cL_law 1052 (.iaload) 1 1053 := ⟨by decide +kernel, rfl⟩
theorem ml_RL_136 : (Cond.methodLink "MothCustomsLaw" 136 yX4_tastes : Cond) ∈ jj_tb := jj_m (List.mem_of_getElem? (i := 693) (by decide +kernel)) rfl
theorem dd_L_law_1053 : jd cL_law 1053 (.invokevirtual 136) 3 1056 := ⟨by decide +kernel, rfl⟩
theorem dd_L_law_1056 : jd cL_law 1056 (.aload_n 2) 1 1057 := ⟨by decide +kernel, rfl⟩
theorem dd_L_law_1057 : jd cL_law 1057 (.aload_n 0) 1 1058 := ⟨by decide +kernel, rfl⟩
theorem dd_L_law_1058 : jd cL_law 1058 (.iload_n 3) 1 1059 := ⟨by decide +kernel, rfl⟩
theorem dd_L_law_1059 : jd cL_law 1059 (.iconst 1) 1 1060 := ⟨by decide +kernel, rfl⟩
theorem dd_L_law_1060 : jd cL_law 1060 (.iadd) 1 1061 := ⟨by decide +kernel, rfl⟩
theorem dd_L_law_1061 : jd cL_law 1061 (.iaload) 1 1062 := ⟨by decide +kernel, rfl⟩
theorem ml_RL_139 : (Cond.methodLink "MothCustomsLaw" 139 yX5_tastes : Cond) ∈ jj_tb := jj_m (List.mem_of_getElem? (i := 1209) (by decide +kernel)) rfl
theorem dd_L_law_1062 : jd cL_law 1062 (.invokevirtual 139) 3 1065 := ⟨by decide +kernel, rfl⟩
theorem dd_L_law_1068 : jd cL_law 1068 (.iconst 0) 1 1069 := ⟨by decide +kernel, rfl⟩
theorem dd_L_law_1069 : jd cL_law 1069 (.ireturn) 1 1070 := ⟨by decide +kernel, rfl⟩
theorem dd_L_law_1065 : jd cL_law 1065 (.if_icmp .eq 328) 3 1068 := ⟨by decide +kernel, rfl⟩
theorem dd_L_law_1070 : jd cL_law 1070 (.aload_n 1) 1 1071 := ⟨by decide +kernel, rfl⟩
theorem ml_RL_140 : (Cond.methodLink "MothCustomsLaw" 140 yX4_bought : Cond) ∈ jj_tb := jj_m (List.mem_of_getElem? (i := 701) (by decide +kernel)) rfl
theorem dd_L_law_1071 : jd cL_law 1071 (.invokevirtual 140) 3 1074 := ⟨by decide +kernel, rfl⟩
theorem dd_L_law_1074 : jd cL_law 1074 (.aload_n 2) 1 1075 := ⟨by decide +kernel, rfl⟩
theorem ml_RL_143 : (Cond.methodLink "MothCustomsLaw" 143 yX5_bought : Cond) ∈ jj_tb := jj_m (List.mem_of_getElem? (i := 1217) (by decide +kernel)) rfl
theorem dd_L_law_1075 : jd cL_law 1075 (.invokevirtual 143) 3 1078 := ⟨by decide +kernel, rfl⟩
theorem dd_L_law_1081 : jd cL_law 1081 (.iconst 0) 1 1082 := ⟨by decide +kernel, rfl⟩
theorem dd_L_law_1082 : jd cL_law 1082 (.ireturn) 1 1083 := ⟨by decide +kernel, rfl⟩
theorem dd_L_law_1078 : jd cL_law 1078 (.if_icmp .eq 315) 3 1081 := ⟨by decide +kernel, rfl⟩
theorem dd_L_law_1083 : jd cL_law 1083 (.aload_n 1) 1 1084 := ⟨by decide +kernel, rfl⟩
theorem dd_L_law_1084 : jd cL_law 1084 (.aload_n 0) 1 1085 := ⟨by decide +kernel, rfl⟩
theorem dd_L_law_1085 : jd cL_law 1085 (.iload_n 3) 1 1086 := ⟨by decide +kernel, rfl⟩
theorem dd_L_law_1086 : jd cL_law 1086 (.iconst 1) 1 1087 := ⟨by decide +kernel, rfl⟩
theorem dd_L_law_1087 : jd cL_law 1087 (.iadd) 1 1088 := ⟨by decide +kernel, rfl⟩
theorem dd_L_law_1088 : jd cL_law 1088 (.iaload) 1 1089 := ⟨by decide +kernel, rfl⟩
theorem ml_RL_144 : (Cond.methodLink "MothCustomsLaw" 144 yX4_pricked : Cond) ∈ jj_tb := jj_m (List.mem_of_getElem? (i := 705) (by decide +kernel)) rfl
theorem dd_L_law_1089 : jd cL_law 1089 (.invokevirtual 144) 3 1092 := ⟨by decide +kernel, rfl⟩
theorem dd_L_law_1092 : jd cL_law 1092 (.aload_n 2) 1 1093 := ⟨by decide +kernel, rfl⟩
theorem dd_L_law_1093 : jd cL_law 1093 (.aload_n 0) 1 1094 := ⟨by decide +kernel, rfl⟩
theorem dd_L_law_1094 : jd cL_law 1094 (.iload_n 3) 1 1095 := ⟨by decide +kernel, rfl⟩
theorem dd_L_law_1095 : jd cL_law 1095 (.iconst 1) 1 1096 := ⟨by decide +kernel, rfl⟩
theorem dd_L_law_1096 : jd cL_law 1096 (.iadd) 1 1097 := ⟨by decide +kernel, rfl⟩
theorem dd_L_law_1097 : jd cL_law 1097 (.iaload) 1 1098 := ⟨by decide +kernel, rfl⟩
theorem ml_RL_147 : (Cond.methodLink "MothCustomsLaw" 147 yX5_pricked : Cond) ∈ jj_tb := jj_m (List.mem_of_getElem? (i := 1221) (by decide +kernel)) rfl
theorem dd_L_law_1098 : jd cL_law 1098 (.invokevirtual 147) 3 1101 := ⟨by decide +kernel, rfl⟩
theorem dd_L_law_1104 : jd cL_law 1104 (.iconst 0) 1 1105 := ⟨by decide +kernel, rfl⟩
theorem dd_L_law_1105 : jd cL_law 1105 (.ireturn) 1 1106 := ⟨by decide +kernel, rfl⟩
theorem dd_L_law_1101 : jd cL_law 1101 (.if_icmp .eq 292) 3 1104 := ⟨by decide +kernel, rfl⟩
theorem dd_L_law_1106 : jd cL_law 1106 (.aload_n 1) 1 1107 := ⟨by decide +kernel, rfl⟩
theorem dd_L_law_1107 : jd cL_law 1107 (.aload_n 0) 1 1108 := ⟨by decide +kernel, rfl⟩
theorem dd_L_law_1108 : jd cL_law 1108 (.iload_n 3) 1 1109 := ⟨by decide +kernel, rfl⟩
theorem dd_L_law_1109 : jd cL_law 1109 (.iconst 1) 1 1110 := ⟨by decide +kernel, rfl⟩
theorem dd_L_law_1110 : jd cL_law 1110 (.iadd) 1 1111 := ⟨by decide +kernel, rfl⟩
theorem dd_L_law_1111 : jd cL_law 1111 (.iaload) 1 1112 := ⟨by decide +kernel, rfl⟩
theorem ml_RL_148 : (Cond.methodLink "MothCustomsLaw" 148 yX4_lain : Cond) ∈ jj_tb := jj_m (List.mem_of_getElem? (i := 709) (by decide +kernel)) rfl
theorem dd_L_law_1112 : jd cL_law 1112 (.invokevirtual 148) 3 1115 := ⟨by decide +kernel, rfl⟩
theorem dd_L_law_1115 : jd cL_law 1115 (.aload_n 2) 1 1116 := ⟨by decide +kernel, rfl⟩
theorem dd_L_law_1116 : jd cL_law 1116 (.aload_n 0) 1 1117 := ⟨by decide +kernel, rfl⟩
theorem dd_L_law_1117 : jd cL_law 1117 (.iload_n 3) 1 1118 := ⟨by decide +kernel, rfl⟩
theorem dd_L_law_1118 : jd cL_law 1118 (.iconst 1) 1 1119 := ⟨by decide +kernel, rfl⟩
theorem dd_L_law_1119 : jd cL_law 1119 (.iadd) 1 1120 := ⟨by decide +kernel, rfl⟩
theorem dd_L_law_1120 : jd cL_law 1120 (.iaload) 1 1121 := ⟨by decide +kernel, rfl⟩
theorem ml_RL_151 : (Cond.methodLink "MothCustomsLaw" 151 yX5_lain : Cond) ∈ jj_tb := jj_m (List.mem_of_getElem? (i := 1225) (by decide +kernel)) rfl
theorem dd_L_law_1121 : jd cL_law 1121 (.invokevirtual 151) 3 1124 := ⟨by decide +kernel, rfl⟩
theorem dd_L_law_1127 : jd cL_law 1127 (.iconst 0) 1 1128 := ⟨by decide +kernel, rfl⟩
theorem dd_L_law_1128 : jd cL_law 1128 (.ireturn) 1 1129 := ⟨by decide +kernel, rfl⟩
theorem dd_L_law_1124 : jd cL_law 1124 (.if_icmp .eq 269) 3 1127 := ⟨by decide +kernel, rfl⟩
theorem dd_L_law_1129 : jd cL_law 1129 (.aload_n 1) 1 1130 := ⟨by decide +kernel, rfl⟩
theorem dd_L_law_1130 : jd cL_law 1130 (.aload_n 0) 1 1131 := ⟨by decide +kernel, rfl⟩
theorem dd_L_law_1131 : jd cL_law 1131 (.iload_n 3) 1 1132 := ⟨by decide +kernel, rfl⟩
theorem dd_L_law_1132 : jd cL_law 1132 (.iconst 1) 1 1133 := ⟨by decide +kernel, rfl⟩
theorem dd_L_law_1133 : jd cL_law 1133 (.iadd) 1 1134 := ⟨by decide +kernel, rfl⟩
theorem dd_L_law_1134 : jd cL_law 1134 (.iaload) 1 1135 := ⟨by decide +kernel, rfl⟩
theorem dd_L_law_1135 : jd cL_law 1135 (.aload_n 0) 1 1136 := ⟨by decide +kernel, rfl⟩
theorem dd_L_law_1136 : jd cL_law 1136 (.iload_n 3) 1 1137 := ⟨by decide +kernel, rfl⟩
theorem dd_L_law_1137 : jd cL_law 1137 (.iconst 2) 1 1138 := ⟨by decide +kernel, rfl⟩
theorem dd_L_law_1138 : jd cL_law 1138 (.iadd) 1 1139 := ⟨by decide +kernel, rfl⟩
theorem dd_L_law_1139 : jd cL_law 1139 (.iaload) 1 1140 := ⟨by decide +kernel, rfl⟩
theorem dd_L_law_1140 : jd cL_law 1140 (.aload_n 0) 1 1141 := ⟨by decide +kernel, rfl⟩
theorem dd_L_law_1141 : jd cL_law 1141 (.iload_n 3) 1 1142 := ⟨by decide +kernel, rfl⟩
theorem dd_L_law_1142 : jd cL_law 1142 (.iconst 3) 1 1143 := ⟨by decide +kernel, rfl⟩
theorem dd_L_law_1143 : jd cL_law 1143 (.iadd) 1 1144 := ⟨by decide +kernel, rfl⟩
theorem dd_L_law_1144 : jd cL_law 1144 (.iaload) 1 1145 := ⟨by decide +kernel, rfl⟩
theorem ml_RL_152 : (Cond.methodLink "MothCustomsLaw" 152 yX4_drift : Cond) ∈ jj_tb := jj_m (List.mem_of_getElem? (i := 724) (by decide +kernel)) rfl
theorem dd_L_law_1145 : jd cL_law 1145 (.invokevirtual 152) 3 1148 := ⟨by decide +kernel, rfl⟩
theorem dd_L_law_1148 : jd cL_law 1148 (.aload_n 2) 1 1149 := ⟨by decide +kernel, rfl⟩
theorem dd_L_law_1149 : jd cL_law 1149 (.aload_n 0) 1 1150 := ⟨by decide +kernel, rfl⟩
theorem dd_L_law_1150 : jd cL_law 1150 (.iload_n 3) 1 1151 := ⟨by decide +kernel, rfl⟩
theorem dd_L_law_1151 : jd cL_law 1151 (.iconst 1) 1 1152 := ⟨by decide +kernel, rfl⟩
theorem dd_L_law_1152 : jd cL_law 1152 (.iadd) 1 1153 := ⟨by decide +kernel, rfl⟩
theorem dd_L_law_1153 : jd cL_law 1153 (.iaload) 1 1154 := ⟨by decide +kernel, rfl⟩
theorem dd_L_law_1154 : jd cL_law 1154 (.aload_n 0) 1 1155 := ⟨by decide +kernel, rfl⟩
theorem dd_L_law_1155 : jd cL_law 1155 (.iload_n 3) 1 1156 := ⟨by decide +kernel, rfl⟩
theorem dd_L_law_1156 : jd cL_law 1156 (.iconst 2) 1 1157 := ⟨by decide +kernel, rfl⟩
theorem dd_L_law_1157 : jd cL_law 1157 (.iadd) 1 1158 := ⟨by decide +kernel, rfl⟩
theorem dd_L_law_1158 : jd cL_law 1158 (.iaload) 1 1159 := ⟨by decide +kernel, rfl⟩
theorem dd_L_law_1159 : jd cL_law 1159 (.aload_n 0) 1 1160 := ⟨by decide +kernel, rfl⟩
theorem dd_L_law_1160 : jd cL_law 1160 (.iload_n 3) 1 1161 := ⟨by decide +kernel, rfl⟩
theorem dd_L_law_1161 : jd cL_law 1161 (.iconst 3) 1 1162 := ⟨by decide +kernel, rfl⟩
theorem dd_L_law_1162 : jd cL_law 1162 (.iadd) 1 1163 := ⟨by decide +kernel, rfl⟩
theorem dd_L_law_1163 : jd cL_law 1163 (.iaload) 1 1164 := ⟨by decide +kernel, rfl⟩
theorem ml_RL_155 : (Cond.methodLink "MothCustomsLaw" 155 yX5_drift : Cond) ∈ jj_tb := jj_m (List.mem_of_getElem? (i := 1233) (by decide +kernel)) rfl
theorem dd_L_law_1164 : jd cL_law 1164 (.invokevirtual 155) 3 1167 := ⟨by decide +kernel, rfl⟩
theorem dd_L_law_1170 : jd cL_law 1170 (.iconst 0) 1 1171 := ⟨by decide +kernel, rfl⟩
theorem dd_L_law_1171 : jd cL_law 1171 (.ireturn) 1 1172 := ⟨by decide +kernel, rfl⟩
theorem dd_L_law_1167 : jd cL_law 1167 (.if_icmp .eq 226) 3 1170 := ⟨by decide +kernel, rfl⟩
theorem dd_L_law_1172 : jd cL_law 1172 (.aload_n 1) 1 1173 := ⟨by decide +kernel, rfl⟩
theorem dd_L_law_1173 : jd cL_law 1173 (.aload_n 0) 1 1174 := ⟨by decide +kernel, rfl⟩
theorem dd_L_law_1174 : jd cL_law 1174 (.iload_n 3) 1 1175 := ⟨by decide +kernel, rfl⟩
theorem dd_L_law_1175 : jd cL_law 1175 (.iconst 1) 1 1176 := ⟨by decide +kernel, rfl⟩
theorem dd_L_law_1176 : jd cL_law 1176 (.iadd) 1 1177 := ⟨by decide +kernel, rfl⟩
theorem dd_L_law_1177 : jd cL_law 1177 (.iaload) 1 1178 := ⟨by decide +kernel, rfl⟩
theorem ml_RL_156 : (Cond.methodLink "MothCustomsLaw" 156 yX4_keep : Cond) ∈ jj_tb := jj_m (List.mem_of_getElem? (i := 729) (by decide +kernel)) rfl
theorem dd_L_law_1178 : jd cL_law 1178 (.invokevirtual 156) 3 1181 := ⟨by decide +kernel, rfl⟩
theorem dd_L_law_1181 : jd cL_law 1181 (.aload_n 2) 1 1182 := ⟨by decide +kernel, rfl⟩
theorem dd_L_law_1182 : jd cL_law 1182 (.aload_n 0) 1 1183 := ⟨by decide +kernel, rfl⟩
theorem dd_L_law_1183 : jd cL_law 1183 (.iload_n 3) 1 1184 := ⟨by decide +kernel, rfl⟩
theorem dd_L_law_1184 : jd cL_law 1184 (.iconst 1) 1 1185 := ⟨by decide +kernel, rfl⟩
theorem dd_L_law_1185 : jd cL_law 1185 (.iadd) 1 1186 := ⟨by decide +kernel, rfl⟩
theorem dd_L_law_1186 : jd cL_law 1186 (.iaload) 1 1187 := ⟨by decide +kernel, rfl⟩
theorem ml_RL_159 : (Cond.methodLink "MothCustomsLaw" 159 yX5_keep : Cond) ∈ jj_tb := jj_m (List.mem_of_getElem? (i := 1238) (by decide +kernel)) rfl
theorem dd_L_law_1187 : jd cL_law 1187 (.invokevirtual 159) 3 1190 := ⟨by decide +kernel, rfl⟩
theorem dd_L_law_1193 : jd cL_law 1193 (.iconst 0) 1 1194 := ⟨by decide +kernel, rfl⟩
theorem dd_L_law_1194 : jd cL_law 1194 (.ireturn) 1 1195 := ⟨by decide +kernel, rfl⟩
theorem dd_L_law_1190 : jd cL_law 1190 (.if_icmp .eq 203) 3 1193 := ⟨by decide +kernel, rfl⟩
theorem dd_L_law_1195 : jd cL_law 1195 (.aload_n 1) 1 1196 := ⟨by decide +kernel, rfl⟩
theorem dd_L_law_1196 : jd cL_law 1196 (.aload_n 0) 1 1197 := ⟨by decide +kernel, rfl⟩
theorem dd_L_law_1197 : jd cL_law 1197 (.iload_n 3) 1 1198 := ⟨by decide +kernel, rfl⟩
theorem dd_L_law_1198 : jd cL_law 1198 (.iconst 1) 1 1199 := ⟨by decide +kernel, rfl⟩
theorem dd_L_law_1199 : jd cL_law 1199 (.iadd) 1 1200 := ⟨by decide +kernel, rfl⟩
theorem dd_L_law_1200 : jd cL_law 1200 (.iaload) 1 1201 := ⟨by decide +kernel, rfl⟩
theorem ml_RL_160 : (Cond.methodLink "MothCustomsLaw" 160 yX4_back : Cond) ∈ jj_tb := jj_m (List.mem_of_getElem? (i := 733) (by decide +kernel)) rfl
theorem dd_L_law_1201 : jd cL_law 1201 (.invokevirtual 160) 3 1204 := ⟨by decide +kernel, rfl⟩
theorem dd_L_law_1204 : jd cL_law 1204 (.aload_n 2) 1 1205 := ⟨by decide +kernel, rfl⟩
theorem dd_L_law_1205 : jd cL_law 1205 (.aload_n 0) 1 1206 := ⟨by decide +kernel, rfl⟩
theorem dd_L_law_1206 : jd cL_law 1206 (.iload_n 3) 1 1207 := ⟨by decide +kernel, rfl⟩
theorem dd_L_law_1207 : jd cL_law 1207 (.iconst 1) 1 1208 := ⟨by decide +kernel, rfl⟩
theorem dd_L_law_1208 : jd cL_law 1208 (.iadd) 1 1209 := ⟨by decide +kernel, rfl⟩
theorem dd_L_law_1209 : jd cL_law 1209 (.iaload) 1 1210 := ⟨by decide +kernel, rfl⟩
theorem ml_RL_163 : (Cond.methodLink "MothCustomsLaw" 163 yX5_back : Cond) ∈ jj_tb := jj_m (List.mem_of_getElem? (i := 1246) (by decide +kernel)) rfl
theorem dd_L_law_1210 : jd cL_law 1210 (.invokevirtual 163) 3 1213 := ⟨by decide +kernel, rfl⟩
theorem dd_L_law_1216 : jd cL_law 1216 (.iconst 0) 1 1217 := ⟨by decide +kernel, rfl⟩
theorem dd_L_law_1217 : jd cL_law 1217 (.ireturn) 1 1218 := ⟨by decide +kernel, rfl⟩
theorem dd_L_law_1213 : jd cL_law 1213 (.if_icmp .eq 180) 3 1216 := ⟨by decide +kernel, rfl⟩
theorem dd_L_law_1218 : jd cL_law 1218 (.aload_n 1) 1 1219 := ⟨by decide +kernel, rfl⟩
theorem dd_L_law_1219 : jd cL_law 1219 (.aload_n 0) 1 1220 := ⟨by decide +kernel, rfl⟩
theorem dd_L_law_1220 : jd cL_law 1220 (.iload_n 3) 1 1221 := ⟨by decide +kernel, rfl⟩
theorem dd_L_law_1221 : jd cL_law 1221 (.iconst 1) 1 1222 := ⟨by decide +kernel, rfl⟩
theorem dd_L_law_1222 : jd cL_law 1222 (.iadd) 1 1223 := ⟨by decide +kernel, rfl⟩
theorem dd_L_law_1223 : jd cL_law 1223 (.iaload) 1 1224 := ⟨by decide +kernel, rfl⟩
theorem dd_L_law_1224 : jd cL_law 1224 (.aload_n 0) 1 1225 := ⟨by decide +kernel, rfl⟩
theorem dd_L_law_1225 : jd cL_law 1225 (.iload_n 3) 1 1226 := ⟨by decide +kernel, rfl⟩
theorem dd_L_law_1226 : jd cL_law 1226 (.iconst 2) 1 1227 := ⟨by decide +kernel, rfl⟩
theorem dd_L_law_1227 : jd cL_law 1227 (.iadd) 1 1228 := ⟨by decide +kernel, rfl⟩
theorem dd_L_law_1228 : jd cL_law 1228 (.iaload) 1 1229 := ⟨by decide +kernel, rfl⟩
theorem dd_L_law_1229 : jd cL_law 1229 (.aload_n 0) 1 1230 := ⟨by decide +kernel, rfl⟩
theorem dd_L_law_1230 : jd cL_law 1230 (.iload_n 3) 1 1231 := ⟨by decide +kernel, rfl⟩
theorem dd_L_law_1231 : jd cL_law 1231 (.iconst 3) 1 1232 := ⟨by decide +kernel, rfl⟩
theorem dd_L_law_1232 : jd cL_law 1232 (.iadd) 1 1233 := ⟨by decide +kernel, rfl⟩
theorem dd_L_law_1233 : jd cL_law 1233 (.iaload) 1 1234 := ⟨by decide +kernel, rfl⟩
theorem ml_RL_164 : (Cond.methodLink "MothCustomsLaw" 164 yX4_sheet : Cond) ∈ jj_tb := jj_m (List.mem_of_getElem? (i := 737) (by decide +kernel)) rfl
theorem dd_L_law_1234 : jd cL_law 1234 (.invokevirtual 164) 3 1237 := ⟨by decide +kernel, rfl⟩
theorem dd_L_law_1237 : jd cL_law 1237 (.aload_n 2) 1 1238 := ⟨by decide +kernel, rfl⟩
theorem dd_L_law_1238 : jd cL_law 1238 (.aload_n 0) 1 1239 := ⟨by decide +kernel, rfl⟩
theorem dd_L_law_1239 : jd cL_law 1239 (.iload_n 3) 1 1240 := ⟨by decide +kernel, rfl⟩
theorem dd_L_law_1240 : jd cL_law 1240 (.iconst 1) 1 1241 := ⟨by decide +kernel, rfl⟩
theorem dd_L_law_1241 : jd cL_law 1241 (.iadd) 1 1242 := ⟨by decide +kernel, rfl⟩
theorem dd_L_law_1242 : jd cL_law 1242 (.iaload) 1 1243 := ⟨by decide +kernel, rfl⟩
theorem dd_L_law_1243 : jd cL_law 1243 (.aload_n 0) 1 1244 := ⟨by decide +kernel, rfl⟩
theorem dd_L_law_1244 : jd cL_law 1244 (.iload_n 3) 1 1245 := ⟨by decide +kernel, rfl⟩
theorem dd_L_law_1245 : jd cL_law 1245 (.iconst 2) 1 1246 := ⟨by decide +kernel, rfl⟩
theorem dd_L_law_1246 : jd cL_law 1246 (.iadd) 1 1247 := ⟨by decide +kernel, rfl⟩
theorem dd_L_law_1247 : jd cL_law 1247 (.iaload) 1 1248 := ⟨by decide +kernel, rfl⟩
theorem dd_L_law_1248 : jd cL_law 1248 (.aload_n 0) 1 1249 := ⟨by decide +kernel, rfl⟩
theorem dd_L_law_1249 : jd cL_law 1249 (.iload_n 3) 1 1250 := ⟨by decide +kernel, rfl⟩
theorem dd_L_law_1250 : jd cL_law 1250 (.iconst 3) 1 1251 := ⟨by decide +kernel, rfl⟩
theorem dd_L_law_1251 : jd cL_law 1251 (.iadd) 1 1252 := ⟨by decide +kernel, rfl⟩
theorem dd_L_law_1252 : jd cL_law 1252 (.iaload) 1 1253 := ⟨by decide +kernel, rfl⟩
theorem ml_RL_167 : (Cond.methodLink "MothCustomsLaw" 167 yX5_sheet : Cond) ∈ jj_tb := jj_m (List.mem_of_getElem? (i := 1250) (by decide +kernel)) rfl
theorem dd_L_law_1253 : jd cL_law 1253 (.invokevirtual 167) 3 1256 := ⟨by decide +kernel, rfl⟩
theorem dd_L_law_1259 : jd cL_law 1259 (.iconst 0) 1 1260 := ⟨by decide +kernel, rfl⟩
theorem dd_L_law_1260 : jd cL_law 1260 (.ireturn) 1 1261 := ⟨by decide +kernel, rfl⟩
theorem dd_L_law_1256 : jd cL_law 1256 (.if_icmp .eq 137) 3 1259 := ⟨by decide +kernel, rfl⟩
theorem dd_L_law_1261 : jd cL_law 1261 (.aload_n 1) 1 1262 := ⟨by decide +kernel, rfl⟩
theorem dd_L_law_1262 : jd cL_law 1262 (.aload_n 0) 1 1263 := ⟨by decide +kernel, rfl⟩
theorem dd_L_law_1263 : jd cL_law 1263 (.iload_n 3) 1 1264 := ⟨by decide +kernel, rfl⟩
theorem dd_L_law_1264 : jd cL_law 1264 (.iconst 1) 1 1265 := ⟨by decide +kernel, rfl⟩
theorem dd_L_law_1265 : jd cL_law 1265 (.iadd) 1 1266 := ⟨by decide +kernel, rfl⟩
theorem dd_L_law_1266 : jd cL_law 1266 (.iaload) 1 1267 := ⟨by decide +kernel, rfl⟩
theorem dd_L_law_1267 : jd cL_law 1267 (.aload_n 0) 1 1268 := ⟨by decide +kernel, rfl⟩
theorem dd_L_law_1268 : jd cL_law 1268 (.iload_n 3) 1 1269 := ⟨by decide +kernel, rfl⟩
theorem dd_L_law_1269 : jd cL_law 1269 (.iconst 2) 1 1270 := ⟨by decide +kernel, rfl⟩
theorem dd_L_law_1270 : jd cL_law 1270 (.iadd) 1 1271 := ⟨by decide +kernel, rfl⟩
theorem dd_L_law_1271 : jd cL_law 1271 (.iaload) 1 1272 := ⟨by decide +kernel, rfl⟩
theorem dd_L_law_1272 : jd cL_law 1272 (.aload_n 0) 1 1273 := ⟨by decide +kernel, rfl⟩
theorem dd_L_law_1273 : jd cL_law 1273 (.iload_n 3) 1 1274 := ⟨by decide +kernel, rfl⟩
theorem dd_L_law_1274 : jd cL_law 1274 (.iconst 3) 1 1275 := ⟨by decide +kernel, rfl⟩
theorem dd_L_law_1275 : jd cL_law 1275 (.iadd) 1 1276 := ⟨by decide +kernel, rfl⟩
theorem dd_L_law_1276 : jd cL_law 1276 (.iaload) 1 1277 := ⟨by decide +kernel, rfl⟩
theorem ml_RL_168 : (Cond.methodLink "MothCustomsLaw" 168 yX4_lay : Cond) ∈ jj_tb := jj_m (List.mem_of_getElem? (i := 751) (by decide +kernel)) rfl
theorem dd_L_law_1277 : jd cL_law 1277 (.invokevirtual 168) 3 1280 := ⟨by decide +kernel, rfl⟩
theorem dd_L_law_1280 : jd cL_law 1280 (.aload_n 2) 1 1281 := ⟨by decide +kernel, rfl⟩
theorem dd_L_law_1281 : jd cL_law 1281 (.aload_n 0) 1 1282 := ⟨by decide +kernel, rfl⟩
theorem dd_L_law_1282 : jd cL_law 1282 (.iload_n 3) 1 1283 := ⟨by decide +kernel, rfl⟩
theorem dd_L_law_1283 : jd cL_law 1283 (.iconst 1) 1 1284 := ⟨by decide +kernel, rfl⟩
theorem dd_L_law_1284 : jd cL_law 1284 (.iadd) 1 1285 := ⟨by decide +kernel, rfl⟩
theorem dd_L_law_1285 : jd cL_law 1285 (.iaload) 1 1286 := ⟨by decide +kernel, rfl⟩
theorem dd_L_law_1286 : jd cL_law 1286 (.aload_n 0) 1 1287 := ⟨by decide +kernel, rfl⟩
theorem dd_L_law_1287 : jd cL_law 1287 (.iload_n 3) 1 1288 := ⟨by decide +kernel, rfl⟩
theorem dd_L_law_1288 : jd cL_law 1288 (.iconst 2) 1 1289 := ⟨by decide +kernel, rfl⟩
theorem dd_L_law_1289 : jd cL_law 1289 (.iadd) 1 1290 := ⟨by decide +kernel, rfl⟩
theorem dd_L_law_1290 : jd cL_law 1290 (.iaload) 1 1291 := ⟨by decide +kernel, rfl⟩
theorem dd_L_law_1291 : jd cL_law 1291 (.aload_n 0) 1 1292 := ⟨by decide +kernel, rfl⟩
theorem dd_L_law_1292 : jd cL_law 1292 (.iload_n 3) 1 1293 := ⟨by decide +kernel, rfl⟩
theorem dd_L_law_1293 : jd cL_law 1293 (.iconst 3) 1 1294 := ⟨by decide +kernel, rfl⟩
theorem dd_L_law_1294 : jd cL_law 1294 (.iadd) 1 1295 := ⟨by decide +kernel, rfl⟩
theorem dd_L_law_1295 : jd cL_law 1295 (.iaload) 1 1296 := ⟨by decide +kernel, rfl⟩
theorem ml_RL_171 : (Cond.methodLink "MothCustomsLaw" 171 yX5_lay : Cond) ∈ jj_tb := jj_m (List.mem_of_getElem? (i := 1257) (by decide +kernel)) rfl
theorem dd_L_law_1296 : jd cL_law 1296 (.invokevirtual 171) 3 1299 := ⟨by decide +kernel, rfl⟩
theorem dd_L_law_1302 : jd cL_law 1302 (.iconst 0) 1 1303 := ⟨by decide +kernel, rfl⟩
theorem dd_L_law_1303 : jd cL_law 1303 (.ireturn) 1 1304 := ⟨by decide +kernel, rfl⟩
theorem dd_L_law_1299 : jd cL_law 1299 (.if_icmp .eq 94) 3 1302 := ⟨by decide +kernel, rfl⟩
theorem dd_L_law_1304 : jd cL_law 1304 (.aload_n 1) 1 1305 := ⟨by decide +kernel, rfl⟩
theorem dd_L_law_1305 : jd cL_law 1305 (.aload_n 0) 1 1306 := ⟨by decide +kernel, rfl⟩
theorem dd_L_law_1306 : jd cL_law 1306 (.iload_n 3) 1 1307 := ⟨by decide +kernel, rfl⟩
theorem dd_L_law_1307 : jd cL_law 1307 (.iconst 1) 1 1308 := ⟨by decide +kernel, rfl⟩
theorem dd_L_law_1308 : jd cL_law 1308 (.iadd) 1 1309 := ⟨by decide +kernel, rfl⟩
theorem dd_L_law_1309 : jd cL_law 1309 (.iaload) 1 1310 := ⟨by decide +kernel, rfl⟩
theorem dd_L_law_1310 : jd cL_law 1310 (.aload_n 0) 1 1311 := ⟨by decide +kernel, rfl⟩
theorem dd_L_law_1311 : jd cL_law 1311 (.iload_n 3) 1 1312 := ⟨by decide +kernel, rfl⟩
theorem dd_L_law_1312 : jd cL_law 1312 (.iconst 2) 1 1313 := ⟨by decide +kernel, rfl⟩
theorem dd_L_law_1313 : jd cL_law 1313 (.iadd) 1 1314 := ⟨by decide +kernel, rfl⟩
theorem dd_L_law_1314 : jd cL_law 1314 (.iaload) 1 1315 := ⟨by decide +kernel, rfl⟩
theorem dd_L_law_1315 : jd cL_law 1315 (.aload_n 0) 1 1316 := ⟨by decide +kernel, rfl⟩
theorem dd_L_law_1316 : jd cL_law 1316 (.iload_n 3) 1 1317 := ⟨by decide +kernel, rfl⟩
theorem dd_L_law_1317 : jd cL_law 1317 (.iconst 3) 1 1318 := ⟨by decide +kernel, rfl⟩
theorem dd_L_law_1318 : jd cL_law 1318 (.iadd) 1 1319 := ⟨by decide +kernel, rfl⟩
theorem dd_L_law_1319 : jd cL_law 1319 (.iaload) 1 1320 := ⟨by decide +kernel, rfl⟩
theorem dd_L_law_1320 : jd cL_law 1320 (.aload_n 0) 1 1321 := ⟨by decide +kernel, rfl⟩
theorem dd_L_law_1321 : jd cL_law 1321 (.iload_n 3) 1 1322 := ⟨by decide +kernel, rfl⟩
theorem dd_L_law_1322 : jd cL_law 1322 (.iconst 4) 1 1323 := ⟨by decide +kernel, rfl⟩
theorem dd_L_law_1323 : jd cL_law 1323 (.iadd) 1 1324 := ⟨by decide +kernel, rfl⟩
theorem dd_L_law_1324 : jd cL_law 1324 (.iaload) 1 1325 := ⟨by decide +kernel, rfl⟩
theorem ml_RL_172 : (Cond.methodLink "MothCustomsLaw" 172 yX4_read : Cond) ∈ jj_tb := jj_m (List.mem_of_getElem? (i := 764) (by decide +kernel)) rfl
theorem dd_L_law_1325 : jd cL_law 1325 (.invokevirtual 172) 3 1328 := ⟨by decide +kernel, rfl⟩
theorem dd_L_law_1328 : jd cL_law 1328 (.aload_n 2) 1 1329 := ⟨by decide +kernel, rfl⟩
theorem dd_L_law_1329 : jd cL_law 1329 (.aload_n 0) 1 1330 := ⟨by decide +kernel, rfl⟩
theorem dd_L_law_1330 : jd cL_law 1330 (.iload_n 3) 1 1331 := ⟨by decide +kernel, rfl⟩
theorem dd_L_law_1331 : jd cL_law 1331 (.iconst 1) 1 1332 := ⟨by decide +kernel, rfl⟩
theorem dd_L_law_1332 : jd cL_law 1332 (.iadd) 1 1333 := ⟨by decide +kernel, rfl⟩
theorem dd_L_law_1333 : jd cL_law 1333 (.iaload) 1 1334 := ⟨by decide +kernel, rfl⟩
theorem dd_L_law_1334 : jd cL_law 1334 (.aload_n 0) 1 1335 := ⟨by decide +kernel, rfl⟩
theorem dd_L_law_1335 : jd cL_law 1335 (.iload_n 3) 1 1336 := ⟨by decide +kernel, rfl⟩
theorem dd_L_law_1336 : jd cL_law 1336 (.iconst 2) 1 1337 := ⟨by decide +kernel, rfl⟩
theorem dd_L_law_1337 : jd cL_law 1337 (.iadd) 1 1338 := ⟨by decide +kernel, rfl⟩
theorem dd_L_law_1338 : jd cL_law 1338 (.iaload) 1 1339 := ⟨by decide +kernel, rfl⟩
theorem dd_L_law_1339 : jd cL_law 1339 (.aload_n 0) 1 1340 := ⟨by decide +kernel, rfl⟩
theorem dd_L_law_1340 : jd cL_law 1340 (.iload_n 3) 1 1341 := ⟨by decide +kernel, rfl⟩
theorem dd_L_law_1341 : jd cL_law 1341 (.iconst 3) 1 1342 := ⟨by decide +kernel, rfl⟩
theorem dd_L_law_1342 : jd cL_law 1342 (.iadd) 1 1343 := ⟨by decide +kernel, rfl⟩
theorem dd_L_law_1343 : jd cL_law 1343 (.iaload) 1 1344 := ⟨by decide +kernel, rfl⟩
theorem dd_L_law_1344 : jd cL_law 1344 (.aload_n 0) 1 1345 := ⟨by decide +kernel, rfl⟩
theorem dd_L_law_1345 : jd cL_law 1345 (.iload_n 3) 1 1346 := ⟨by decide +kernel, rfl⟩
theorem dd_L_law_1346 : jd cL_law 1346 (.iconst 4) 1 1347 := ⟨by decide +kernel, rfl⟩
theorem dd_L_law_1347 : jd cL_law 1347 (.iadd) 1 1348 := ⟨by decide +kernel, rfl⟩
theorem dd_L_law_1348 : jd cL_law 1348 (.iaload) 1 1349 := ⟨by decide +kernel, rfl⟩
theorem ml_RL_176 : (Cond.methodLink "MothCustomsLaw" 176 yX5_read : Cond) ∈ jj_tb := jj_m (List.mem_of_getElem? (i := 1261) (by decide +kernel)) rfl
theorem dd_L_law_1349 : jd cL_law 1349 (.invokevirtual 176) 3 1352 := ⟨by decide +kernel, rfl⟩
theorem dd_L_law_1355 : jd cL_law 1355 (.iconst 0) 1 1356 := ⟨by decide +kernel, rfl⟩
theorem dd_L_law_1356 : jd cL_law 1356 (.ireturn) 1 1357 := ⟨by decide +kernel, rfl⟩
theorem dd_L_law_1352 : jd cL_law 1352 (.if_icmp .eq 41) 3 1355 := ⟨by decide +kernel, rfl⟩
theorem dd_L_law_1357 : jd cL_law 1357 (.aload_n 1) 1 1358 := ⟨by decide +kernel, rfl⟩
theorem ml_RL_177 : (Cond.methodLink "MothCustomsLaw" 177 yX4_torn : Cond) ∈ jj_tb := jj_m (List.mem_of_getElem? (i := 777) (by decide +kernel)) rfl
theorem dd_L_law_1358 : jd cL_law 1358 (.invokevirtual 177) 3 1361 := ⟨by decide +kernel, rfl⟩
theorem dd_L_law_1361 : jd cL_law 1361 (.aload_n 2) 1 1362 := ⟨by decide +kernel, rfl⟩
theorem ml_RL_180 : (Cond.methodLink "MothCustomsLaw" 180 yX5_torn : Cond) ∈ jj_tb := jj_m (List.mem_of_getElem? (i := 1266) (by decide +kernel)) rfl
theorem dd_L_law_1362 : jd cL_law 1362 (.invokevirtual 180) 3 1365 := ⟨by decide +kernel, rfl⟩
theorem dd_L_law_1368 : jd cL_law 1368 (.iconst 0) 1 1369 := ⟨by decide +kernel, rfl⟩
theorem dd_L_law_1369 : jd cL_law 1369 (.ireturn) 1 1370 := ⟨by decide +kernel, rfl⟩
theorem dd_L_law_1365 : jd cL_law 1365 (.if_icmp .eq 28) 3 1368 := ⟨by decide +kernel, rfl⟩
theorem dd_L_law_1370 : jd cL_law 1370 (.aload_n 1) 1 1371 := ⟨by decide +kernel, rfl⟩
theorem dd_L_law_1371 : jd cL_law 1371 (.aload_n 0) 1 1372 := ⟨by decide +kernel, rfl⟩
theorem dd_L_law_1372 : jd cL_law 1372 (.iload_n 3) 1 1373 := ⟨by decide +kernel, rfl⟩
theorem dd_L_law_1373 : jd cL_law 1373 (.iconst 1) 1 1374 := ⟨by decide +kernel, rfl⟩
theorem dd_L_law_1374 : jd cL_law 1374 (.iadd) 1 1375 := ⟨by decide +kernel, rfl⟩
theorem dd_L_law_1375 : jd cL_law 1375 (.iaload) 1 1376 := ⟨by decide +kernel, rfl⟩
theorem ml_RL_181 : (Cond.methodLink "MothCustomsLaw" 181 yX4_count : Cond) ∈ jj_tb := jj_m (List.mem_of_getElem? (i := 781) (by decide +kernel)) rfl
theorem dd_L_law_1376 : jd cL_law 1376 (.invokevirtual 181) 3 1379 := ⟨by decide +kernel, rfl⟩
theorem dd_L_law_1379 : jd cL_law 1379 (.aload_n 2) 1 1380 := ⟨by decide +kernel, rfl⟩
theorem dd_L_law_1380 : jd cL_law 1380 (.aload_n 0) 1 1381 := ⟨by decide +kernel, rfl⟩
theorem dd_L_law_1381 : jd cL_law 1381 (.iload_n 3) 1 1382 := ⟨by decide +kernel, rfl⟩
theorem dd_L_law_1382 : jd cL_law 1382 (.iconst 1) 1 1383 := ⟨by decide +kernel, rfl⟩
theorem dd_L_law_1383 : jd cL_law 1383 (.iadd) 1 1384 := ⟨by decide +kernel, rfl⟩
theorem dd_L_law_1384 : jd cL_law 1384 (.iaload) 1 1385 := ⟨by decide +kernel, rfl⟩
theorem ml_RL_184 : (Cond.methodLink "MothCustomsLaw" 184 yX5_count : Cond) ∈ jj_tb := jj_m (List.mem_of_getElem? (i := 1270) (by decide +kernel)) rfl
theorem dd_L_law_1385 : jd cL_law 1385 (.invokevirtual 184) 3 1388 := ⟨by decide +kernel, rfl⟩
theorem dd_L_law_1391 : jd cL_law 1391 (.iconst 0) 1 1392 := ⟨by decide +kernel, rfl⟩
theorem dd_L_law_1392 : jd cL_law 1392 (.ireturn) 1 1393 := ⟨by decide +kernel, rfl⟩
theorem dd_L_law_1388 : jd cL_law 1388 (.if_icmp .eq 5) 3 1391 := ⟨by decide +kernel, rfl⟩
theorem dd_L_law_32 : jd cL_law 32 (.tableswitch 1361 0 40 #[180, 203, 226, 239, 252, 275, 308, 341, 374, 407, 440, 473, 522, 555, 578, 621, 654, 677, 710, 733, 756, 779, 802, 825, 858, 881, 915, 959, 992, 1015, 1038, 1051, 1074, 1097, 1140, 1163, 1186, 1229, 1272, 1325, 1338]) 180 212 := ⟨by decide +kernel, rfl⟩
theorem dd_L_law_1393 : jd cL_law 1393 (.iinc 3 5) 3 1396 := ⟨by decide +kernel, rfl⟩
theorem dd_L_law_1396 : jd cL_law 1396 (.goto (-1378)) 3 1399 := ⟨by decide +kernel, rfl⟩
theorem dd_L_law_23 : jd cL_law 23 (.if_icmp .gt 1376) 3 26 := ⟨by decide +kernel, rfl⟩
theorem dd_L_law_1399 : jd cL_law 1399 (.iconst 1) 1 1400 := ⟨by decide +kernel, rfl⟩
theorem dd_L_law_1400 : jd cL_law 1400 (.ireturn) 1 1401 := ⟨by decide +kernel, rfl⟩
/-- the script, where the law finds it -/
def jLaw {σ ρ : Type} (E : JE σ ρ) (b Ln : Nat) (xs : Nat → Int32) : Prop :=
  match E with
  | (_, _, _, _, s, _, _, _, _, _, _, A, _, _, _, _) => va_X b Ln xs s s.heap ∧ b < s.heap.size ∧ ¬ A b
def vL (V : JV (M3 × M2)) (ob : Nat → Nat) (aa : Nat → Nat → Nat) (bm : Nat) (am : Nat → Nat) : Prop := (∀ S : M2, vX4 (jj_sub V (fun X => (X, S))) ob aa) ∧ ∀ X : M3, vX5 (jj_sub V (fun S => (X, S))) bm am
section LW
variable {σ ρ α : Type} {fin : α → ρ × σ} {V : JV σ} {E : JE σ ρ} {cc : ByteArray} {own : String} {n d : Nat} {ret : Option FieldType} {enc : ρ → Option Value} {o : Option α} {pc pc' : Nat} {L : List (Nat × Value)} {st : List Value} {X : σ} {b Ln : Nat} {xs : Nat → Int32}
theorem J_slen (hE : JOk V E cc own n d ret enc) (hs : jLaw E b Ln xs) (hd : jd cc pc .arraylength 1 pc') (kk : J V E fin o pc' L (.int (nI Ln) :: st) X) : J V E fin o pc L (.ref b :: st) X := by
  obtain ⟨p, l, e, R, s, m, args, below, meth, c, nL, A, cn, sn, Q, res⟩ := E
  obtain ⟨hx, hb, ⟨hml, hnL⟩, hown, hts, hR, hK, hA, hSt, hq⟩ := hE
  obtain ⟨hd, rfl⟩ := hd
  obtain ⟨h1, h2, h3⟩ := hs
  intro ho H locs ls hP hD hS hl
  exact va_slen hx hb h1 h2 h3 hS hd (kk ho H locs ls hP hD hS hl)
theorem J_sld (hE : JOk V E cc own n d ret enc) (hs : jLaw E b Ln xs) {i : Int32} (hd : jd cc pc .iaload 1 pc') (kk : J V E fin o pc' L (.int (xs i.toNatClampNeg) :: st) X) : J V E fin (bnd i Ln o) pc L (.int i :: .ref b :: st) X := by
  obtain ⟨p, l, e, R, s, m, args, below, meth, c, nL, A, cn, sn, Q, res⟩ := E
  obtain ⟨hx, hb, ⟨hml, hnL⟩, hown, hts, hR, hK, hA, hSt, hq⟩ := hE
  obtain ⟨hd, rfl⟩ := hd
  obtain ⟨h1, h2, h3⟩ := hs
  intro ho H locs ls hP hD hS hl
  unfold bnd at ho
  by_cases h : i < 0 ∨ Ln ≤ i.toNatClampNeg
  · rw [if_pos h] at ho; exact absurd ho (by simp)
  · rw [if_neg h] at ho
    exact va_sld hx hb h1 h2 h3 hS h hd (kk ho H locs ls hP hD hS hl)
end LW
def fL_law_L18 (Ln : Nat) (xs : Nat → Int32) (X : M3) (S : M2) (k1399 : (M3 × M2) → Option (Int32 × (M3 × M2))) : Nat → Int32 → M3 → M2 → Option (Int32 × (M3 × M2))
  | 0, _, _, _ => none
  | n_ + 1, v1, X2, S3 =>
    if ((nI Ln) - (5 : Int32)) < v1 then
      k1399 (X2, S3)
    else
      bnd v1 Ln <|
      jn (α := Option (Int32 × (M3 × M2))) (β := M3 × M2) (fun j4 =>
        if ((xs v1.toNatClampNeg) &&& (63 : Int32)) = 0 then
          bnd (v1 + (1 : Int32)) Ln <|
          (fX4_feed (xs (v1 + (1 : Int32)).toNatClampNeg) X2).bind fun q6 =>
          lt (q6.2) fun X7 =>
          bnd (v1 + (1 : Int32)) Ln <|
          (fX5_feed (xs (v1 + (1 : Int32)).toNatClampNeg) S3).bind fun q8 =>
          lt (q8.2) fun S9 =>
          if q6.1 = q8.1 then
            j4 (X7, S9)
          else
            some ((0 : Int32), (X7, S9))
        else
          if ((xs v1.toNatClampNeg) &&& (63 : Int32)) = 1 then
            bnd (v1 + (1 : Int32)) Ln <|
            (fX4_end (xs (v1 + (1 : Int32)).toNatClampNeg) X2).bind fun q12 =>
            lt (q12.2) fun X13 =>
            bnd (v1 + (1 : Int32)) Ln <|
            (fX5_end (xs (v1 + (1 : Int32)).toNatClampNeg) S3).bind fun q14 =>
            lt (q14.2) fun S15 =>
            if q12.1 = q14.1 then
              j4 (X13, S15)
            else
              some ((0 : Int32), (X13, S15))
          else
            if ((xs v1.toNatClampNeg) &&& (63 : Int32)) = 2 then
              (fX4_text  X2).bind fun q18 =>
              lt (q18.2) fun X19 =>
              (fX5_text  S3).bind fun q20 =>
              lt (q20.2) fun S21 =>
              if q18.1 = q20.1 then
                j4 (X19, S21)
              else
                some ((0 : Int32), (X19, S21))
            else
              if ((xs v1.toNatClampNeg) &&& (63 : Int32)) = 3 then
                (fX4_fault  X2).bind fun r24 =>
                (fX5_fault  S3).bind fun r25 =>
                if r24 = r25 then
                  j4 (X2, S3)
                else
                  some ((0 : Int32), (X2, S3))
              else
                if ((xs v1.toNatClampNeg) &&& (63 : Int32)) = 4 then
                  bnd (v1 + (1 : Int32)) Ln <|
                  (fX4_rule (xs (v1 + (1 : Int32)).toNatClampNeg) X2).bind fun r28 =>
                  bnd (v1 + (1 : Int32)) Ln <|
                  (fX5_rule (xs (v1 + (1 : Int32)).toNatClampNeg) S3).bind fun q29 =>
                  lt (q29.2) fun S30 =>
                  if r28 = q29.1 then
                    j4 (X2, S30)
                  else
                    some ((0 : Int32), (X2, S30))
                else
                  if ((xs v1.toNatClampNeg) &&& (63 : Int32)) = 5 then
                    bnd (v1 + (1 : Int32)) Ln <|
                    bnd (v1 + (2 : Int32)) Ln <|
                    (fX4_bolt (xs (v1 + (1 : Int32)).toNatClampNeg) (xs (v1 + (2 : Int32)).toNatClampNeg) X2).bind fun r33 =>
                    bnd (v1 + (1 : Int32)) Ln <|
                    bnd (v1 + (2 : Int32)) Ln <|
                    (fX5_bolt (xs (v1 + (1 : Int32)).toNatClampNeg) (xs (v1 + (2 : Int32)).toNatClampNeg) S3).bind fun r34 =>
                    if r33 = r34 then
                      j4 (X2, S3)
                    else
                      some ((0 : Int32), (X2, S3))
                  else
                    if ((xs v1.toNatClampNeg) &&& (63 : Int32)) = 6 then
                      bnd (v1 + (1 : Int32)) Ln <|
                      bnd (v1 + (2 : Int32)) Ln <|
                      (fX4_moth (xs (v1 + (1 : Int32)).toNatClampNeg) (xs (v1 + (2 : Int32)).toNatClampNeg) X2).bind fun r37 =>
                      bnd (v1 + (1 : Int32)) Ln <|
                      bnd (v1 + (2 : Int32)) Ln <|
                      (fX5_moth (xs (v1 + (1 : Int32)).toNatClampNeg) (xs (v1 + (2 : Int32)).toNatClampNeg) S3).bind fun q38 =>
                      lt (q38.2) fun S39 =>
                      if r37 = q38.1 then
                        j4 (X2, S39)
                      else
                        some ((0 : Int32), (X2, S39))
                    else
                      if ((xs v1.toNatClampNeg) &&& (63 : Int32)) = 7 then
                        bnd (v1 + (1 : Int32)) Ln <|
                        bnd (v1 + (2 : Int32)) Ln <|
                        (fX4_bale (xs (v1 + (1 : Int32)).toNatClampNeg) (xs (v1 + (2 : Int32)).toNatClampNeg) X2).bind fun r42 =>
                        bnd (v1 + (1 : Int32)) Ln <|
                        bnd (v1 + (2 : Int32)) Ln <|
                        (fX5_bale (xs (v1 + (1 : Int32)).toNatClampNeg) (xs (v1 + (2 : Int32)).toNatClampNeg) S3).bind fun q43 =>
                        lt (q43.2) fun S44 =>
                        if r42 = q43.1 then
                          j4 (X2, S44)
                        else
                          some ((0 : Int32), (X2, S44))
                      else
                        if ((xs v1.toNatClampNeg) &&& (63 : Int32)) = 8 then
                          bnd (v1 + (1 : Int32)) Ln <|
                          bnd (v1 + (2 : Int32)) Ln <|
                          (fX4_fold (xs (v1 + (1 : Int32)).toNatClampNeg) (xs (v1 + (2 : Int32)).toNatClampNeg) X2).bind fun q47 =>
                          lt (q47.2) fun X48 =>
                          bnd (v1 + (1 : Int32)) Ln <|
                          bnd (v1 + (2 : Int32)) Ln <|
                          (fX5_fold (xs (v1 + (1 : Int32)).toNatClampNeg) (xs (v1 + (2 : Int32)).toNatClampNeg) S3).bind fun q49 =>
                          lt (q49.2) fun S50 =>
                          if q47.1 = q49.1 then
                            j4 (X48, S50)
                          else
                            some ((0 : Int32), (X48, S50))
                        else
                          if ((xs v1.toNatClampNeg) &&& (63 : Int32)) = 9 then
                            bnd (v1 + (1 : Int32)) Ln <|
                            bnd (v1 + (2 : Int32)) Ln <|
                            (fX4_under (xs (v1 + (1 : Int32)).toNatClampNeg) (xs (v1 + (2 : Int32)).toNatClampNeg) X2).bind fun q53 =>
                            lt (q53.2) fun X54 =>
                            bnd (v1 + (1 : Int32)) Ln <|
                            bnd (v1 + (2 : Int32)) Ln <|
                            (fX5_under (xs (v1 + (1 : Int32)).toNatClampNeg) (xs (v1 + (2 : Int32)).toNatClampNeg) S3).bind fun q55 =>
                            lt (q55.2) fun S56 =>
                            if q53.1 = q55.1 then
                              j4 (X54, S56)
                            else
                              some ((0 : Int32), (X54, S56))
                          else
                            if ((xs v1.toNatClampNeg) &&& (63 : Int32)) = 10 then
                              bnd (v1 + (1 : Int32)) Ln <|
                              bnd (v1 + (2 : Int32)) Ln <|
                              (fX4_swap (xs (v1 + (1 : Int32)).toNatClampNeg) (xs (v1 + (2 : Int32)).toNatClampNeg) X2).bind fun q59 =>
                              lt (q59.2) fun X60 =>
                              bnd (v1 + (1 : Int32)) Ln <|
                              bnd (v1 + (2 : Int32)) Ln <|
                              (fX5_swap (xs (v1 + (1 : Int32)).toNatClampNeg) (xs (v1 + (2 : Int32)).toNatClampNeg) S3).bind fun q61 =>
                              lt (q61.2) fun S62 =>
                              if q59.1 = q61.1 then
                                j4 (X60, S62)
                              else
                                some ((0 : Int32), (X60, S62))
                            else
                              if ((xs v1.toNatClampNeg) &&& (63 : Int32)) = 11 then
                                bnd (v1 + (1 : Int32)) Ln <|
                                bnd (v1 + (2 : Int32)) Ln <|
                                jn (α := Option (Int32 × (M3 × M2))) (β := Int32) (fun j65 =>
                                  if (xs (v1 + (2 : Int32)).toNatClampNeg) = 0 then
                                    j65 (0 : Int32)
                                  else
                                    j65 (1 : Int32)) (fun p67 => 
                                  (fX4_camphor (xs (v1 + (1 : Int32)).toNatClampNeg) p67 X2).bind fun q68 =>
                                  lt (q68.2) fun X69 =>
                                  bnd (v1 + (1 : Int32)) Ln <|
                                  bnd (v1 + (2 : Int32)) Ln <|
                                  jn (α := Option (Int32 × (M3 × M2))) (β := Int32) (fun j70 =>
                                    if (xs (v1 + (2 : Int32)).toNatClampNeg) = 0 then
                                      j70 (0 : Int32)
                                    else
                                      j70 (1 : Int32)) (fun p72 => 
                                    (fX5_camphor (xs (v1 + (1 : Int32)).toNatClampNeg) p72 S3).bind fun q73 =>
                                    lt (q73.2) fun S74 =>
                                    if q68.1 = q73.1 then
                                      j4 (X69, S74)
                                    else
                                      some ((0 : Int32), (X69, S74))))
                              else
                                if ((xs v1.toNatClampNeg) &&& (63 : Int32)) = 12 then
                                  bnd (v1 + (1 : Int32)) Ln <|
                                  bnd (v1 + (2 : Int32)) Ln <|
                                  (fX4_patch (xs (v1 + (1 : Int32)).toNatClampNeg) (xs (v1 + (2 : Int32)).toNatClampNeg) X2).bind fun q77 =>
                                  lt (q77.2) fun X78 =>
                                  bnd (v1 + (1 : Int32)) Ln <|
                                  bnd (v1 + (2 : Int32)) Ln <|
                                  (fX5_patch (xs (v1 + (1 : Int32)).toNatClampNeg) (xs (v1 + (2 : Int32)).toNatClampNeg) S3).bind fun q79 =>
                                  lt (q79.2) fun S80 =>
                                  if q77.1 = q79.1 then
                                    j4 (X78, S80)
                                  else
                                    some ((0 : Int32), (X78, S80))
                                else
                                  if ((xs v1.toNatClampNeg) &&& (63 : Int32)) = 13 then
                                    bnd (v1 + (1 : Int32)) Ln <|
                                    (fX4_prick (xs (v1 + (1 : Int32)).toNatClampNeg) X2).bind fun q83 =>
                                    lt (q83.2) fun X84 =>
                                    bnd (v1 + (1 : Int32)) Ln <|
                                    (fX5_prick (xs (v1 + (1 : Int32)).toNatClampNeg) S3).bind fun q85 =>
                                    lt (q85.2) fun S86 =>
                                    if q83.1 = q85.1 then
                                      j4 (X84, S86)
                                    else
                                      some ((0 : Int32), (X84, S86))
                                  else
                                    if ((xs v1.toNatClampNeg) &&& (63 : Int32)) = 14 then
                                      bnd (v1 + (1 : Int32)) Ln <|
                                      bnd (v1 + (2 : Int32)) Ln <|
                                      bnd (v1 + (3 : Int32)) Ln <|
                                      (fX4_alter (xs (v1 + (1 : Int32)).toNatClampNeg) (xs (v1 + (2 : Int32)).toNatClampNeg) (xs (v1 + (3 : Int32)).toNatClampNeg) X2).bind fun q89 =>
                                      lt (q89.2) fun X90 =>
                                      bnd (v1 + (1 : Int32)) Ln <|
                                      bnd (v1 + (2 : Int32)) Ln <|
                                      bnd (v1 + (3 : Int32)) Ln <|
                                      (fX5_alter (xs (v1 + (1 : Int32)).toNatClampNeg) (xs (v1 + (2 : Int32)).toNatClampNeg) (xs (v1 + (3 : Int32)).toNatClampNeg) S3).bind fun q91 =>
                                      lt (q91.2) fun S92 =>
                                      if q89.1 = q91.1 then
                                        j4 (X90, S92)
                                      else
                                        some ((0 : Int32), (X90, S92))
                                    else
                                      if ((xs v1.toNatClampNeg) &&& (63 : Int32)) = 15 then
                                        bnd (v1 + (1 : Int32)) Ln <|
                                        bnd (v1 + (2 : Int32)) Ln <|
                                        (fX4_set (xs (v1 + (1 : Int32)).toNatClampNeg) (xs (v1 + (2 : Int32)).toNatClampNeg) X2).bind fun q95 =>
                                        lt (q95.2) fun X96 =>
                                        bnd (v1 + (1 : Int32)) Ln <|
                                        bnd (v1 + (2 : Int32)) Ln <|
                                        (fX5_set (xs (v1 + (1 : Int32)).toNatClampNeg) (xs (v1 + (2 : Int32)).toNatClampNeg) S3).bind fun q97 =>
                                        lt (q97.2) fun S98 =>
                                        if q95.1 = q97.1 then
                                          j4 (X96, S98)
                                        else
                                          some ((0 : Int32), (X96, S98))
                                      else
                                        if ((xs v1.toNatClampNeg) &&& (63 : Int32)) = 16 then
                                          bnd (v1 + (1 : Int32)) Ln <|
                                          (fX4_go (xs (v1 + (1 : Int32)).toNatClampNeg) X2).bind fun q101 =>
                                          lt (q101.2) fun X102 =>
                                          bnd (v1 + (1 : Int32)) Ln <|
                                          (fX5_go (xs (v1 + (1 : Int32)).toNatClampNeg) S3).bind fun q103 =>
                                          lt (q103.2) fun S104 =>
                                          if q101.1 = q103.1 then
                                            j4 (X102, S104)
                                          else
                                            some ((0 : Int32), (X102, S104))
                                        else
                                          if ((xs v1.toNatClampNeg) &&& (63 : Int32)) = 17 then
                                            bnd (v1 + (1 : Int32)) Ln <|
                                            bnd (v1 + (2 : Int32)) Ln <|
                                            (fX4_ahead (xs (v1 + (1 : Int32)).toNatClampNeg) (xs (v1 + (2 : Int32)).toNatClampNeg) X2).bind fun q107 =>
                                            lt (q107.2) fun X108 =>
                                            bnd (v1 + (1 : Int32)) Ln <|
                                            bnd (v1 + (2 : Int32)) Ln <|
                                            (fX5_ahead (xs (v1 + (1 : Int32)).toNatClampNeg) (xs (v1 + (2 : Int32)).toNatClampNeg) S3).bind fun q109 =>
                                            lt (q109.2) fun S110 =>
                                            if q107.1 = q109.1 then
                                              j4 (X108, S110)
                                            else
                                              some ((0 : Int32), (X108, S110))
                                          else
                                            if ((xs v1.toNatClampNeg) &&& (63 : Int32)) = 18 then
                                              bnd (v1 + (1 : Int32)) Ln <|
                                              (fX4_when (xs (v1 + (1 : Int32)).toNatClampNeg) X2).bind fun q113 =>
                                              lt (q113.2) fun X114 =>
                                              bnd (v1 + (1 : Int32)) Ln <|
                                              (fX5_when (xs (v1 + (1 : Int32)).toNatClampNeg) S3).bind fun q115 =>
                                              lt (q115.2) fun S116 =>
                                              if q113.1 = q115.1 then
                                                j4 (X114, S116)
                                              else
                                                some ((0 : Int32), (X114, S116))
                                            else
                                              if ((xs v1.toNatClampNeg) &&& (63 : Int32)) = 19 then
                                                bnd (v1 + (1 : Int32)) Ln <|
                                                (fX4_eats (xs (v1 + (1 : Int32)).toNatClampNeg) X2).bind fun q119 =>
                                                lt (q119.2) fun X120 =>
                                                bnd (v1 + (1 : Int32)) Ln <|
                                                (fX5_eats (xs (v1 + (1 : Int32)).toNatClampNeg) S3).bind fun q121 =>
                                                lt (q121.2) fun S122 =>
                                                if q119.1 = q121.1 then
                                                  j4 (X120, S122)
                                                else
                                                  some ((0 : Int32), (X120, S122))
                                              else
                                                if ((xs v1.toNatClampNeg) &&& (63 : Int32)) = 20 then
                                                  bnd (v1 + (1 : Int32)) Ln <|
                                                  (fX4_duty (xs (v1 + (1 : Int32)).toNatClampNeg) X2).bind fun q125 =>
                                                  lt (q125.2) fun X126 =>
                                                  bnd (v1 + (1 : Int32)) Ln <|
                                                  (fX5_duty (xs (v1 + (1 : Int32)).toNatClampNeg) S3).bind fun q127 =>
                                                  lt (q127.2) fun S128 =>
                                                  if q125.1 = q127.1 then
                                                    j4 (X126, S128)
                                                  else
                                                    some ((0 : Int32), (X126, S128))
                                                else
                                                  if ((xs v1.toNatClampNeg) &&& (63 : Int32)) = 21 then
                                                    bnd (v1 + (1 : Int32)) Ln <|
                                                    (fX4_best (xs (v1 + (1 : Int32)).toNatClampNeg) X2).bind fun q131 =>
                                                    lt (q131.2) fun X132 =>
                                                    bnd (v1 + (1 : Int32)) Ln <|
                                                    (fX5_best (xs (v1 + (1 : Int32)).toNatClampNeg) S3).bind fun q133 =>
                                                    lt (q133.2) fun S134 =>
                                                    if q131.1 = q133.1 then
                                                      j4 (X132, S134)
                                                    else
                                                      some ((0 : Int32), (X132, S134))
                                                  else
                                                    if ((xs v1.toNatClampNeg) &&& (63 : Int32)) = 22 then
                                                      bnd (v1 + (1 : Int32)) Ln <|
                                                      (fX4_guard (xs (v1 + (1 : Int32)).toNatClampNeg) X2).bind fun q137 =>
                                                      lt (q137.2) fun X138 =>
                                                      bnd (v1 + (1 : Int32)) Ln <|
                                                      (fX5_guard (xs (v1 + (1 : Int32)).toNatClampNeg) S3).bind fun q139 =>
                                                      lt (q139.2) fun S140 =>
                                                      if q137.1 = q139.1 then
                                                        j4 (X138, S140)
                                                      else
                                                        some ((0 : Int32), (X138, S140))
                                                    else
                                                      if ((xs v1.toNatClampNeg) &&& (63 : Int32)) = 23 then
                                                        bnd (v1 + (1 : Int32)) Ln <|
                                                        bnd (v1 + (2 : Int32)) Ln <|
                                                        (fX4_send (xs (v1 + (1 : Int32)).toNatClampNeg) (xs (v1 + (2 : Int32)).toNatClampNeg) X2).bind fun q143 =>
                                                        lt (q143.2) fun X144 =>
                                                        bnd (v1 + (1 : Int32)) Ln <|
                                                        bnd (v1 + (2 : Int32)) Ln <|
                                                        (fX5_send (xs (v1 + (1 : Int32)).toNatClampNeg) (xs (v1 + (2 : Int32)).toNatClampNeg) S3).bind fun q145 =>
                                                        lt (q145.2) fun S146 =>
                                                        if q143.1 = q145.1 then
                                                          j4 (X144, S146)
                                                        else
                                                          some ((0 : Int32), (X144, S146))
                                                      else
                                                        if ((xs v1.toNatClampNeg) &&& (63 : Int32)) = 24 then
                                                          bnd (v1 + (1 : Int32)) Ln <|
                                                          (fX4_raise (xs (v1 + (1 : Int32)).toNatClampNeg) X2).bind fun q149 =>
                                                          lt (q149.2) fun X150 =>
                                                          bnd (v1 + (1 : Int32)) Ln <|
                                                          (fX5_raise (xs (v1 + (1 : Int32)).toNatClampNeg) S3).bind fun q151 =>
                                                          lt (q151.2) fun S152 =>
                                                          if q149.1 = q151.1 then
                                                            j4 (X150, S152)
                                                          else
                                                            some ((0 : Int32), (X150, S152))
                                                        else
                                                          if ((xs v1.toNatClampNeg) &&& (63 : Int32)) = 25 then
                                                            bnd (v1 + (1 : Int32)) Ln <|
                                                            bnd (v1 + (2 : Int32)) Ln <|
                                                            (fX4_mean (xs (v1 + (1 : Int32)).toNatClampNeg) (xs (v1 + (2 : Int32)).toNatClampNeg) X2).bind fun q155 =>
                                                            lt (q155.2) fun X156 =>
                                                            bnd (v1 + (1 : Int32)) Ln <|
                                                            bnd (v1 + (2 : Int32)) Ln <|
                                                            (fX5_mean (xs (v1 + (1 : Int32)).toNatClampNeg) (xs (v1 + (2 : Int32)).toNatClampNeg) S3).bind fun q157 =>
                                                            lt (q157.2) fun S158 =>
                                                            if (lg_cmp q155.1 q157.1) = 0 then
                                                              j4 (X156, S158)
                                                            else
                                                              some ((0 : Int32), (X156, S158))
                                                          else
                                                            if ((xs v1.toNatClampNeg) &&& (63 : Int32)) = 26 then
                                                              bnd (v1 + (1 : Int32)) Ln <|
                                                              bnd (v1 + (2 : Int32)) Ln <|
                                                              bnd (v1 + (3 : Int32)) Ln <|
                                                              (fX4_luck (xs (v1 + (1 : Int32)).toNatClampNeg) (xs (v1 + (2 : Int32)).toNatClampNeg) (xs (v1 + (3 : Int32)).toNatClampNeg) X2).bind fun q161 =>
                                                              lt (q161.2) fun X162 =>
                                                              bnd (v1 + (1 : Int32)) Ln <|
                                                              bnd (v1 + (2 : Int32)) Ln <|
                                                              bnd (v1 + (3 : Int32)) Ln <|
                                                              (fX5_luck (xs (v1 + (1 : Int32)).toNatClampNeg) (xs (v1 + (2 : Int32)).toNatClampNeg) (xs (v1 + (3 : Int32)).toNatClampNeg) S3).bind fun q163 =>
                                                              lt (q163.2) fun S164 =>
                                                              if (lg_cmp q161.1 q163.1) = 0 then
                                                                j4 (X162, S164)
                                                              else
                                                                some ((0 : Int32), (X162, S164))
                                                            else
                                                              if ((xs v1.toNatClampNeg) &&& (63 : Int32)) = 27 then
                                                                bnd (v1 + (1 : Int32)) Ln <|
                                                                bnd (v1 + (2 : Int32)) Ln <|
                                                                (fX4_see (xs (v1 + (1 : Int32)).toNatClampNeg) (xs (v1 + (2 : Int32)).toNatClampNeg) X2).bind fun q167 =>
                                                                lt (q167.2) fun X168 =>
                                                                bnd (v1 + (1 : Int32)) Ln <|
                                                                bnd (v1 + (2 : Int32)) Ln <|
                                                                (fX5_see (xs (v1 + (1 : Int32)).toNatClampNeg) (xs (v1 + (2 : Int32)).toNatClampNeg) S3).bind fun q169 =>
                                                                lt (q169.2) fun S170 =>
                                                                if q167.1 = q169.1 then
                                                                  j4 (X168, S170)
                                                                else
                                                                  some ((0 : Int32), (X168, S170))
                                                              else
                                                                if ((xs v1.toNatClampNeg) &&& (63 : Int32)) = 28 then
                                                                  bnd (v1 + (1 : Int32)) Ln <|
                                                                  (fX4_forget (xs (v1 + (1 : Int32)).toNatClampNeg) X2).bind fun q173 =>
                                                                  lt (q173.2) fun X174 =>
                                                                  bnd (v1 + (1 : Int32)) Ln <|
                                                                  (fX5_forget (xs (v1 + (1 : Int32)).toNatClampNeg) S3).bind fun q175 =>
                                                                  lt (q175.2) fun S176 =>
                                                                  if q173.1 = q175.1 then
                                                                    j4 (X174, S176)
                                                                  else
                                                                    some ((0 : Int32), (X174, S176))
                                                                else
                                                                  if ((xs v1.toNatClampNeg) &&& (63 : Int32)) = 29 then
                                                                    bnd (v1 + (1 : Int32)) Ln <|
                                                                    (fX4_tastes (xs (v1 + (1 : Int32)).toNatClampNeg) X2).bind fun q179 =>
                                                                    lt (q179.2) fun X180 =>
                                                                    bnd (v1 + (1 : Int32)) Ln <|
                                                                    (fX5_tastes (xs (v1 + (1 : Int32)).toNatClampNeg) S3).bind fun q181 =>
                                                                    lt (q181.2) fun S182 =>
                                                                    if q179.1 = q181.1 then
                                                                      j4 (X180, S182)
                                                                    else
                                                                      some ((0 : Int32), (X180, S182))
                                                                  else
                                                                    if ((xs v1.toNatClampNeg) &&& (63 : Int32)) = 30 then
                                                                      (fX4_bought  X2).bind fun q185 =>
                                                                      lt (q185.2) fun X186 =>
                                                                      (fX5_bought  S3).bind fun q187 =>
                                                                      lt (q187.2) fun S188 =>
                                                                      if q185.1 = q187.1 then
                                                                        j4 (X186, S188)
                                                                      else
                                                                        some ((0 : Int32), (X186, S188))
                                                                    else
                                                                      if ((xs v1.toNatClampNeg) &&& (63 : Int32)) = 31 then
                                                                        bnd (v1 + (1 : Int32)) Ln <|
                                                                        (fX4_pricked (xs (v1 + (1 : Int32)).toNatClampNeg) X2).bind fun q191 =>
                                                                        lt (q191.2) fun X192 =>
                                                                        bnd (v1 + (1 : Int32)) Ln <|
                                                                        (fX5_pricked (xs (v1 + (1 : Int32)).toNatClampNeg) S3).bind fun q193 =>
                                                                        lt (q193.2) fun S194 =>
                                                                        if q191.1 = q193.1 then
                                                                          j4 (X192, S194)
                                                                        else
                                                                          some ((0 : Int32), (X192, S194))
                                                                      else
                                                                        if ((xs v1.toNatClampNeg) &&& (63 : Int32)) = 32 then
                                                                          bnd (v1 + (1 : Int32)) Ln <|
                                                                          (fX4_lain (xs (v1 + (1 : Int32)).toNatClampNeg) X2).bind fun q197 =>
                                                                          lt (q197.2) fun X198 =>
                                                                          bnd (v1 + (1 : Int32)) Ln <|
                                                                          (fX5_lain (xs (v1 + (1 : Int32)).toNatClampNeg) S3).bind fun q199 =>
                                                                          lt (q199.2) fun S200 =>
                                                                          if q197.1 = q199.1 then
                                                                            j4 (X198, S200)
                                                                          else
                                                                            some ((0 : Int32), (X198, S200))
                                                                        else
                                                                          if ((xs v1.toNatClampNeg) &&& (63 : Int32)) = 33 then
                                                                            bnd (v1 + (1 : Int32)) Ln <|
                                                                            bnd (v1 + (2 : Int32)) Ln <|
                                                                            bnd (v1 + (3 : Int32)) Ln <|
                                                                            (fX4_drift (xs (v1 + (1 : Int32)).toNatClampNeg) (xs (v1 + (2 : Int32)).toNatClampNeg) (xs (v1 + (3 : Int32)).toNatClampNeg) X2).bind fun q203 =>
                                                                            lt (q203.2) fun X204 =>
                                                                            bnd (v1 + (1 : Int32)) Ln <|
                                                                            bnd (v1 + (2 : Int32)) Ln <|
                                                                            bnd (v1 + (3 : Int32)) Ln <|
                                                                            (fX5_drift (xs (v1 + (1 : Int32)).toNatClampNeg) (xs (v1 + (2 : Int32)).toNatClampNeg) (xs (v1 + (3 : Int32)).toNatClampNeg) S3).bind fun q205 =>
                                                                            lt (q205.2) fun S206 =>
                                                                            if q203.1 = q205.1 then
                                                                              j4 (X204, S206)
                                                                            else
                                                                              some ((0 : Int32), (X204, S206))
                                                                          else
                                                                            if ((xs v1.toNatClampNeg) &&& (63 : Int32)) = 34 then
                                                                              bnd (v1 + (1 : Int32)) Ln <|
                                                                              (fX4_keep (xs (v1 + (1 : Int32)).toNatClampNeg) X2).bind fun q209 =>
                                                                              lt (q209.2) fun X210 =>
                                                                              bnd (v1 + (1 : Int32)) Ln <|
                                                                              (fX5_keep (xs (v1 + (1 : Int32)).toNatClampNeg) S3).bind fun q211 =>
                                                                              lt (q211.2) fun S212 =>
                                                                              if q209.1 = q211.1 then
                                                                                j4 (X210, S212)
                                                                              else
                                                                                some ((0 : Int32), (X210, S212))
                                                                            else
                                                                              if ((xs v1.toNatClampNeg) &&& (63 : Int32)) = 35 then
                                                                                bnd (v1 + (1 : Int32)) Ln <|
                                                                                (fX4_back (xs (v1 + (1 : Int32)).toNatClampNeg) X2).bind fun q215 =>
                                                                                lt (q215.2) fun X216 =>
                                                                                bnd (v1 + (1 : Int32)) Ln <|
                                                                                (fX5_back (xs (v1 + (1 : Int32)).toNatClampNeg) S3).bind fun q217 =>
                                                                                lt (q217.2) fun S218 =>
                                                                                if q215.1 = q217.1 then
                                                                                  j4 (X216, S218)
                                                                                else
                                                                                  some ((0 : Int32), (X216, S218))
                                                                              else
                                                                                if ((xs v1.toNatClampNeg) &&& (63 : Int32)) = 36 then
                                                                                  bnd (v1 + (1 : Int32)) Ln <|
                                                                                  bnd (v1 + (2 : Int32)) Ln <|
                                                                                  bnd (v1 + (3 : Int32)) Ln <|
                                                                                  (fX4_sheet (xs (v1 + (1 : Int32)).toNatClampNeg) (xs (v1 + (2 : Int32)).toNatClampNeg) (xs (v1 + (3 : Int32)).toNatClampNeg) X2).bind fun q221 =>
                                                                                  lt (q221.2) fun X222 =>
                                                                                  bnd (v1 + (1 : Int32)) Ln <|
                                                                                  bnd (v1 + (2 : Int32)) Ln <|
                                                                                  bnd (v1 + (3 : Int32)) Ln <|
                                                                                  (fX5_sheet (xs (v1 + (1 : Int32)).toNatClampNeg) (xs (v1 + (2 : Int32)).toNatClampNeg) (xs (v1 + (3 : Int32)).toNatClampNeg) S3).bind fun q223 =>
                                                                                  lt (q223.2) fun S224 =>
                                                                                  if q221.1 = q223.1 then
                                                                                    j4 (X222, S224)
                                                                                  else
                                                                                    some ((0 : Int32), (X222, S224))
                                                                                else
                                                                                  if ((xs v1.toNatClampNeg) &&& (63 : Int32)) = 37 then
                                                                                    bnd (v1 + (1 : Int32)) Ln <|
                                                                                    bnd (v1 + (2 : Int32)) Ln <|
                                                                                    bnd (v1 + (3 : Int32)) Ln <|
                                                                                    (fX4_lay (xs (v1 + (1 : Int32)).toNatClampNeg) (xs (v1 + (2 : Int32)).toNatClampNeg) (xs (v1 + (3 : Int32)).toNatClampNeg) X2).bind fun q227 =>
                                                                                    lt (q227.2) fun X228 =>
                                                                                    bnd (v1 + (1 : Int32)) Ln <|
                                                                                    bnd (v1 + (2 : Int32)) Ln <|
                                                                                    bnd (v1 + (3 : Int32)) Ln <|
                                                                                    (fX5_lay (xs (v1 + (1 : Int32)).toNatClampNeg) (xs (v1 + (2 : Int32)).toNatClampNeg) (xs (v1 + (3 : Int32)).toNatClampNeg) S3).bind fun q229 =>
                                                                                    lt (q229.2) fun S230 =>
                                                                                    if q227.1 = q229.1 then
                                                                                      j4 (X228, S230)
                                                                                    else
                                                                                      some ((0 : Int32), (X228, S230))
                                                                                  else
                                                                                    if ((xs v1.toNatClampNeg) &&& (63 : Int32)) = 38 then
                                                                                      bnd (v1 + (1 : Int32)) Ln <|
                                                                                      bnd (v1 + (2 : Int32)) Ln <|
                                                                                      bnd (v1 + (3 : Int32)) Ln <|
                                                                                      bnd (v1 + (4 : Int32)) Ln <|
                                                                                      (fX4_read (xs (v1 + (1 : Int32)).toNatClampNeg) (xs (v1 + (2 : Int32)).toNatClampNeg) (xs (v1 + (3 : Int32)).toNatClampNeg) (xs (v1 + (4 : Int32)).toNatClampNeg) X2).bind fun q233 =>
                                                                                      lt (q233.2) fun X234 =>
                                                                                      bnd (v1 + (1 : Int32)) Ln <|
                                                                                      bnd (v1 + (2 : Int32)) Ln <|
                                                                                      bnd (v1 + (3 : Int32)) Ln <|
                                                                                      bnd (v1 + (4 : Int32)) Ln <|
                                                                                      (fX5_read (xs (v1 + (1 : Int32)).toNatClampNeg) (xs (v1 + (2 : Int32)).toNatClampNeg) (xs (v1 + (3 : Int32)).toNatClampNeg) (xs (v1 + (4 : Int32)).toNatClampNeg) S3).bind fun q235 =>
                                                                                      lt (q235.2) fun S236 =>
                                                                                      if q233.1 = q235.1 then
                                                                                        j4 (X234, S236)
                                                                                      else
                                                                                        some ((0 : Int32), (X234, S236))
                                                                                    else
                                                                                      if ((xs v1.toNatClampNeg) &&& (63 : Int32)) = 39 then
                                                                                        (fX4_torn  X2).bind fun r239 =>
                                                                                        (fX5_torn  S3).bind fun r240 =>
                                                                                        if r239 = r240 then
                                                                                          j4 (X2, S3)
                                                                                        else
                                                                                          some ((0 : Int32), (X2, S3))
                                                                                      else
                                                                                        if ((xs v1.toNatClampNeg) &&& (63 : Int32)) = 40 then
                                                                                          bnd (v1 + (1 : Int32)) Ln <|
                                                                                          (fX4_count (xs (v1 + (1 : Int32)).toNatClampNeg) X2).bind fun r243 =>
                                                                                          bnd (v1 + (1 : Int32)) Ln <|
                                                                                          (fX5_count (xs (v1 + (1 : Int32)).toNatClampNeg) S3).bind fun q244 =>
                                                                                          lt (q244.2) fun S245 =>
                                                                                          if r243 = q244.1 then
                                                                                            j4 (X2, S245)
                                                                                          else
                                                                                            some ((0 : Int32), (X2, S245))
                                                                                        else
                                                                                          j4 (X2, S3)) (fun p247 => 
        lt (v1 + (5 : Int32)) fun x248 =>
        fL_law_L18 Ln xs X S k1399 n_ x248 p247.1 p247.2)

set_option maxHeartbeats 8000000 in
set_option maxRecDepth 100000 in
theorem tL_law_L18 {V : JV (M3 × M2)} {ob : Nat → Nat} {aa : Nat → Nat → Nat} {bm : Nat} {am : Nat → Nat} (hL : vL V ob aa bm am) {bs : Nat} (Ln : Nat) (xs : Nat → Int32) (X : M3) (S : M2) {E : JE (M3 × M2) Int32} (hE : JOk V E cL_law RL 4 30 (some .boolean) jj_i) (hsc : jLaw E bs Ln xs) {k1399 : (M3 × M2) → Option (Int32 × (M3 × M2))} (hk1399 : ∀ p, J V E (fun q => (q.1, q.2)) (k1399 p) 1399 [] [] (p.1, p.2)) : ∀ (n_ : Nat) (v1 : Int32) (X2 : M3) (S3 : M2), J V E (fun q => (q.1, q.2)) (fL_law_L18 Ln xs X S k1399 n_ v1 X2 S3) 18 [(0, .ref bs), (1, .ref (ob 0)), (2, .ref bm), (3, .int v1)] [] (X2, S3) := by
  intro n_
  induction n_ with
  | zero =>
    intros
    exact J_none
  | succ n_ ih =>
    intros v1 X2 S3
    rw [fL_law_L18]
    refine J_iload_n hE dd_L_law_18 3 rfl rfl ?_
    refine J_aload_n hE dd_L_law_19 0 rfl rfl ?_
    refine J_slen hE hsc dd_L_law_20 ?_
    refine J_iconst hE (v := (5 : Int32)) dd_L_law_21 (by decide) ?_
    refine J_isub hE dd_L_law_22 ?_
    refine J_icmp_gt hE (tgt := 1399) dd_L_law_23 (by decide) (fun c249 => ?_) (fun c249 => ?_)
    · refine J_sub [] rfl ?_
      exact hk1399 (X2, S3)
    · refine J_aload_n hE dd_L_law_26 0 rfl rfl ?_
      refine J_iload_n hE dd_L_law_27 3 rfl rfl ?_
      refine J_sld hE hsc dd_L_law_28 ?_
      refine J_bipush hE (v := (63 : Int32)) dd_L_law_29 (by decide) ?_
      refine J_iand hE dd_L_law_31 ?_
      refine J_jn (m := 1393) (Lf := fun p247 => [(0, .ref bs), (1, .ref (ob 0)), (2, .ref bm), (3, .int v1)]) (sf := fun p247 => []) (Xf := fun p247 => (p247.1, p247.2)) (fun p247 => ?_) (fun hj4 => ?_)
      · show J V E _ _ 1393 [(0, .ref bs), (1, .ref (ob 0)), (2, .ref bm), (3, .int v1)] [] (p247.1, p247.2)
        refine J_iincL hE (v := (v1 + (5 : Int32))) (Lf := fun x248 => [(3, .int x248), (0, .ref bs), (1, .ref (ob 0)), (2, .ref bm)]) dd_L_law_1393 (j := 3) rfl (congrArg (v1 + ·) (by decide)) (Nat.le_of_ble_eq_true rfl) (fun _ => rfl) (fun x248 => ?_)
        refine J_goto hE (tgt := 18) dd_L_law_1396 (by decide) ?_
        refine J_sub [1, 2, 3, 0] rfl ?_
        exact ih x248 p247.1 p247.2
      · refine J_ite (fun c5 => ?_) (fun c5 => ?_)
        · refine J_tsAt hE c5 (off := 180) (tgt := 212) dd_L_law_32 (by decide) (by decide) (by decide) (by decide) ?_
          refine J_aload_n hE dd_L_law_212 1 rfl rfl ?_
          refine J_aload_n hE dd_L_law_213 0 rfl rfl ?_
          refine J_iload_n hE dd_L_law_214 3 rfl rfl ?_
          refine J_iconst hE (v := (1 : Int32)) dd_L_law_215 (by decide) ?_
          refine J_iadd hE dd_L_law_216 ?_
          refine J_sld hE hsc dd_L_law_217 ?_
          refine J_invVwi hE (e := fun X => (X, S3)) (As := [.int (xs (v1 + (1 : Int32)).toNatClampNeg)]) (st := []) (JC.lift_w (e := fun X => (X, S3)) (tX4_feed E.2.1 (hL.1 S3) X2 (xs (v1 + (1 : Int32)).toNatClampNeg)) rfl) ((hL.1 S3).rt.ob _) m_X4_feed rfl ml_RL_13 (Nat.le_of_ble_eq_true rfl) (Nat.le_of_ble_eq_true rfl) rfl (Nat.le_of_ble_eq_true rfl) dd_L_law_218 (fun q6 => ?_)
          refine J_let1 (S := S3) (fun X7 => ?_)
          refine J_aload_n hE dd_L_law_221 2 rfl rfl ?_
          refine J_aload_n hE dd_L_law_222 0 rfl rfl ?_
          refine J_iload_n hE dd_L_law_223 3 rfl rfl ?_
          refine J_iconst hE (v := (1 : Int32)) dd_L_law_224 (by decide) ?_
          refine J_iadd hE dd_L_law_225 ?_
          refine J_sld hE hsc dd_L_law_226 ?_
          refine J_invVwi hE (e := fun S => (X7, S)) (As := [.int (xs (v1 + (1 : Int32)).toNatClampNeg)]) (st := [.int q6.1]) (JC.lift_w (e := fun S => (X7, S)) (tX5_feed E.2.1 (hL.2 X7) S3 (xs (v1 + (1 : Int32)).toNatClampNeg)) rfl) ((hL.2 X7).ob _) m_X5_feed rfl ml_RL_17 (Nat.le_of_ble_eq_true rfl) (Nat.le_of_ble_eq_true rfl) rfl (Nat.le_of_ble_eq_true rfl) dd_L_law_227 (fun q8 => ?_)
          refine J_let2 (T := X7) (fun S9 => ?_)
          refine J_icmp_eq hE (tgt := 1393) dd_L_law_230 (by decide) (fun c10 => ?_) (fun c10 => ?_)
          · refine J_sub [0, 1, 2, 3] rfl ?_
            exact hj4 (X7, S9)
          · refine J_iconst hE (v := (0 : Int32)) dd_L_law_233 (by decide) ?_
            exact J_zret hE (Or.inl rfl) dd_L_law_234 rfl rfl
        · refine J_ite (fun c11 => ?_) (fun c11 => ?_)
          · refine J_tsAt hE c11 (off := 203) (tgt := 235) dd_L_law_32 (by decide) (by decide) (by decide) (by decide) ?_
            refine J_aload_n hE dd_L_law_235 1 rfl rfl ?_
            refine J_aload_n hE dd_L_law_236 0 rfl rfl ?_
            refine J_iload_n hE dd_L_law_237 3 rfl rfl ?_
            refine J_iconst hE (v := (1 : Int32)) dd_L_law_238 (by decide) ?_
            refine J_iadd hE dd_L_law_239 ?_
            refine J_sld hE hsc dd_L_law_240 ?_
            refine J_invVwi hE (e := fun X => (X, S3)) (As := [.int (xs (v1 + (1 : Int32)).toNatClampNeg)]) (st := []) (JC.lift_w (e := fun X => (X, S3)) (tX4_end E.2.1 (hL.1 S3) X2 (xs (v1 + (1 : Int32)).toNatClampNeg)) rfl) ((hL.1 S3).rt.ob _) m_X4_end rfl ml_RL_18 (Nat.le_of_ble_eq_true rfl) (Nat.le_of_ble_eq_true rfl) rfl (Nat.le_of_ble_eq_true rfl) dd_L_law_241 (fun q12 => ?_)
            refine J_let1 (S := S3) (fun X13 => ?_)
            refine J_aload_n hE dd_L_law_244 2 rfl rfl ?_
            refine J_aload_n hE dd_L_law_245 0 rfl rfl ?_
            refine J_iload_n hE dd_L_law_246 3 rfl rfl ?_
            refine J_iconst hE (v := (1 : Int32)) dd_L_law_247 (by decide) ?_
            refine J_iadd hE dd_L_law_248 ?_
            refine J_sld hE hsc dd_L_law_249 ?_
            refine J_invVwi hE (e := fun S => (X13, S)) (As := [.int (xs (v1 + (1 : Int32)).toNatClampNeg)]) (st := [.int q12.1]) (JC.lift_w (e := fun S => (X13, S)) (tX5_end E.2.1 (hL.2 X13) S3 (xs (v1 + (1 : Int32)).toNatClampNeg)) rfl) ((hL.2 X13).ob _) m_X5_end rfl ml_RL_21 (Nat.le_of_ble_eq_true rfl) (Nat.le_of_ble_eq_true rfl) rfl (Nat.le_of_ble_eq_true rfl) dd_L_law_250 (fun q14 => ?_)
            refine J_let2 (T := X13) (fun S15 => ?_)
            refine J_icmp_eq hE (tgt := 1393) dd_L_law_253 (by decide) (fun c16 => ?_) (fun c16 => ?_)
            · refine J_sub [0, 1, 2, 3] rfl ?_
              exact hj4 (X13, S15)
            · refine J_iconst hE (v := (0 : Int32)) dd_L_law_256 (by decide) ?_
              exact J_zret hE (Or.inl rfl) dd_L_law_257 rfl rfl
          · refine J_ite (fun c17 => ?_) (fun c17 => ?_)
            · refine J_tsAt hE c17 (off := 226) (tgt := 258) dd_L_law_32 (by decide) (by decide) (by decide) (by decide) ?_
              refine J_aload_n hE dd_L_law_258 1 rfl rfl ?_
              refine J_invVwi hE (e := fun X => (X, S3)) (As := []) (st := []) (JC.lift_w (e := fun X => (X, S3)) (tX4_text E.2.1 (hL.1 S3) X2 ) rfl) ((hL.1 S3).rt.ob _) m_X4_text rfl ml_RL_22 (Nat.le_of_ble_eq_true rfl) (Nat.le_of_ble_eq_true rfl) rfl (Nat.le_of_ble_eq_true rfl) dd_L_law_259 (fun q18 => ?_)
              refine J_let1 (S := S3) (fun X19 => ?_)
              refine J_aload_n hE dd_L_law_262 2 rfl rfl ?_
              refine J_invVwi hE (e := fun S => (X19, S)) (As := []) (st := [.int q18.1]) (JC.lift_w (e := fun S => (X19, S)) (tX5_text E.2.1 (hL.2 X19) S3 ) rfl) ((hL.2 X19).ob _) m_X5_text rfl ml_RL_26 (Nat.le_of_ble_eq_true rfl) (Nat.le_of_ble_eq_true rfl) rfl (Nat.le_of_ble_eq_true rfl) dd_L_law_263 (fun q20 => ?_)
              refine J_let2 (T := X19) (fun S21 => ?_)
              refine J_icmp_eq hE (tgt := 1393) dd_L_law_266 (by decide) (fun c22 => ?_) (fun c22 => ?_)
              · refine J_sub [0, 1, 2, 3] rfl ?_
                exact hj4 (X19, S21)
              · refine J_iconst hE (v := (0 : Int32)) dd_L_law_269 (by decide) ?_
                exact J_zret hE (Or.inl rfl) dd_L_law_270 rfl rfl
            · refine J_ite (fun c23 => ?_) (fun c23 => ?_)
              · refine J_tsAt hE c23 (off := 239) (tgt := 271) dd_L_law_32 (by decide) (by decide) (by decide) (by decide) ?_
                refine J_aload_n hE dd_L_law_271 1 rfl rfl ?_
                refine J_invVri hE (As := []) (st := []) (JC.lift_r (e := fun X => (X, S3)) (tX4_fault E.2.1 (hL.1 S3) X2 ) rfl) ((hL.1 S3).rt.ob _) m_X4_fault rfl ml_RL_27 (Nat.le_of_ble_eq_true rfl) (Nat.le_of_ble_eq_true rfl) rfl (Nat.le_of_ble_eq_true rfl) dd_L_law_272 (fun r24 => ?_)
                refine J_aload_n hE dd_L_law_275 2 rfl rfl ?_
                refine J_invVri hE (As := []) (st := [.int r24]) (JC.lift_r (e := fun S => (X2, S)) (tX5_fault E.2.1 (hL.2 X2) S3 ) rfl) ((hL.2 X2).ob _) m_X5_fault rfl ml_RL_30 (Nat.le_of_ble_eq_true rfl) (Nat.le_of_ble_eq_true rfl) rfl (Nat.le_of_ble_eq_true rfl) dd_L_law_276 (fun r25 => ?_)
                refine J_icmp_eq hE (tgt := 1393) dd_L_law_279 (by decide) (fun c26 => ?_) (fun c26 => ?_)
                · refine J_sub [0, 1, 2, 3] rfl ?_
                  exact hj4 (X2, S3)
                · refine J_iconst hE (v := (0 : Int32)) dd_L_law_282 (by decide) ?_
                  exact J_zret hE (Or.inl rfl) dd_L_law_283 rfl rfl
              · refine J_ite (fun c27 => ?_) (fun c27 => ?_)
                · refine J_tsAt hE c27 (off := 252) (tgt := 284) dd_L_law_32 (by decide) (by decide) (by decide) (by decide) ?_
                  refine J_aload_n hE dd_L_law_284 1 rfl rfl ?_
                  refine J_aload_n hE dd_L_law_285 0 rfl rfl ?_
                  refine J_iload_n hE dd_L_law_286 3 rfl rfl ?_
                  refine J_iconst hE (v := (1 : Int32)) dd_L_law_287 (by decide) ?_
                  refine J_iadd hE dd_L_law_288 ?_
                  refine J_sld hE hsc dd_L_law_289 ?_
                  refine J_invVri hE (As := [.int (xs (v1 + (1 : Int32)).toNatClampNeg)]) (st := []) (JC.lift_r (e := fun X => (X, S3)) (tX4_rule E.2.1 (hL.1 S3) X2 (xs (v1 + (1 : Int32)).toNatClampNeg)) rfl) ((hL.1 S3).rt.ob _) m_X4_rule rfl ml_RL_31 (Nat.le_of_ble_eq_true rfl) (Nat.le_of_ble_eq_true rfl) rfl (Nat.le_of_ble_eq_true rfl) dd_L_law_290 (fun r28 => ?_)
                  refine J_aload_n hE dd_L_law_293 2 rfl rfl ?_
                  refine J_aload_n hE dd_L_law_294 0 rfl rfl ?_
                  refine J_iload_n hE dd_L_law_295 3 rfl rfl ?_
                  refine J_iconst hE (v := (1 : Int32)) dd_L_law_296 (by decide) ?_
                  refine J_iadd hE dd_L_law_297 ?_
                  refine J_sld hE hsc dd_L_law_298 ?_
                  refine J_invVwi hE (e := fun S => (X2, S)) (As := [.int (xs (v1 + (1 : Int32)).toNatClampNeg)]) (st := [.int r28]) (JC.lift_w (e := fun S => (X2, S)) (tX5_rule E.2.1 (hL.2 X2) S3 (xs (v1 + (1 : Int32)).toNatClampNeg)) rfl) ((hL.2 X2).ob _) m_X5_rule rfl ml_RL_34 (Nat.le_of_ble_eq_true rfl) (Nat.le_of_ble_eq_true rfl) rfl (Nat.le_of_ble_eq_true rfl) dd_L_law_299 (fun q29 => ?_)
                  refine J_let2 (T := X2) (fun S30 => ?_)
                  refine J_icmp_eq hE (tgt := 1393) dd_L_law_302 (by decide) (fun c31 => ?_) (fun c31 => ?_)
                  · refine J_sub [0, 1, 2, 3] rfl ?_
                    exact hj4 (X2, S30)
                  · refine J_iconst hE (v := (0 : Int32)) dd_L_law_305 (by decide) ?_
                    exact J_zret hE (Or.inl rfl) dd_L_law_306 rfl rfl
                · refine J_ite (fun c32 => ?_) (fun c32 => ?_)
                  · refine J_tsAt hE c32 (off := 275) (tgt := 307) dd_L_law_32 (by decide) (by decide) (by decide) (by decide) ?_
                    refine J_aload_n hE dd_L_law_307 1 rfl rfl ?_
                    refine J_aload_n hE dd_L_law_308 0 rfl rfl ?_
                    refine J_iload_n hE dd_L_law_309 3 rfl rfl ?_
                    refine J_iconst hE (v := (1 : Int32)) dd_L_law_310 (by decide) ?_
                    refine J_iadd hE dd_L_law_311 ?_
                    refine J_sld hE hsc dd_L_law_312 ?_
                    refine J_aload_n hE dd_L_law_313 0 rfl rfl ?_
                    refine J_iload_n hE dd_L_law_314 3 rfl rfl ?_
                    refine J_iconst hE (v := (2 : Int32)) dd_L_law_315 (by decide) ?_
                    refine J_iadd hE dd_L_law_316 ?_
                    refine J_sld hE hsc dd_L_law_317 ?_
                    refine J_invVri hE (As := [.int (xs (v1 + (1 : Int32)).toNatClampNeg), .int (xs (v1 + (2 : Int32)).toNatClampNeg)]) (st := []) (JC.lift_r (e := fun X => (X, S3)) (tX4_bolt E.2.1 (hL.1 S3) X2 (xs (v1 + (1 : Int32)).toNatClampNeg) (xs (v1 + (2 : Int32)).toNatClampNeg)) rfl) ((hL.1 S3).rt.ob _) m_X4_bolt rfl ml_RL_35 (Nat.le_of_ble_eq_true rfl) (Nat.le_of_ble_eq_true rfl) rfl (Nat.le_of_ble_eq_true rfl) dd_L_law_318 (fun r33 => ?_)
                    refine J_aload_n hE dd_L_law_321 2 rfl rfl ?_
                    refine J_aload_n hE dd_L_law_322 0 rfl rfl ?_
                    refine J_iload_n hE dd_L_law_323 3 rfl rfl ?_
                    refine J_iconst hE (v := (1 : Int32)) dd_L_law_324 (by decide) ?_
                    refine J_iadd hE dd_L_law_325 ?_
                    refine J_sld hE hsc dd_L_law_326 ?_
                    refine J_aload_n hE dd_L_law_327 0 rfl rfl ?_
                    refine J_iload_n hE dd_L_law_328 3 rfl rfl ?_
                    refine J_iconst hE (v := (2 : Int32)) dd_L_law_329 (by decide) ?_
                    refine J_iadd hE dd_L_law_330 ?_
                    refine J_sld hE hsc dd_L_law_331 ?_
                    refine J_invVri hE (As := [.int (xs (v1 + (1 : Int32)).toNatClampNeg), .int (xs (v1 + (2 : Int32)).toNatClampNeg)]) (st := [.int r33]) (JC.lift_r (e := fun S => (X2, S)) (tX5_bolt E.2.1 (hL.2 X2) S3 (xs (v1 + (1 : Int32)).toNatClampNeg) (xs (v1 + (2 : Int32)).toNatClampNeg)) rfl) ((hL.2 X2).ob _) m_X5_bolt rfl ml_RL_39 (Nat.le_of_ble_eq_true rfl) (Nat.le_of_ble_eq_true rfl) rfl (Nat.le_of_ble_eq_true rfl) dd_L_law_332 (fun r34 => ?_)
                    refine J_icmp_eq hE (tgt := 1393) dd_L_law_335 (by decide) (fun c35 => ?_) (fun c35 => ?_)
                    · refine J_sub [0, 1, 2, 3] rfl ?_
                      exact hj4 (X2, S3)
                    · refine J_iconst hE (v := (0 : Int32)) dd_L_law_338 (by decide) ?_
                      exact J_zret hE (Or.inl rfl) dd_L_law_339 rfl rfl
                  · refine J_ite (fun c36 => ?_) (fun c36 => ?_)
                    · refine J_tsAt hE c36 (off := 308) (tgt := 340) dd_L_law_32 (by decide) (by decide) (by decide) (by decide) ?_
                      refine J_aload_n hE dd_L_law_340 1 rfl rfl ?_
                      refine J_aload_n hE dd_L_law_341 0 rfl rfl ?_
                      refine J_iload_n hE dd_L_law_342 3 rfl rfl ?_
                      refine J_iconst hE (v := (1 : Int32)) dd_L_law_343 (by decide) ?_
                      refine J_iadd hE dd_L_law_344 ?_
                      refine J_sld hE hsc dd_L_law_345 ?_
                      refine J_aload_n hE dd_L_law_346 0 rfl rfl ?_
                      refine J_iload_n hE dd_L_law_347 3 rfl rfl ?_
                      refine J_iconst hE (v := (2 : Int32)) dd_L_law_348 (by decide) ?_
                      refine J_iadd hE dd_L_law_349 ?_
                      refine J_sld hE hsc dd_L_law_350 ?_
                      refine J_invVri hE (As := [.int (xs (v1 + (1 : Int32)).toNatClampNeg), .int (xs (v1 + (2 : Int32)).toNatClampNeg)]) (st := []) (JC.lift_r (e := fun X => (X, S3)) (tX4_moth E.2.1 (hL.1 S3) X2 (xs (v1 + (1 : Int32)).toNatClampNeg) (xs (v1 + (2 : Int32)).toNatClampNeg)) rfl) ((hL.1 S3).rt.ob _) m_X4_moth rfl ml_RL_40 (Nat.le_of_ble_eq_true rfl) (Nat.le_of_ble_eq_true rfl) rfl (Nat.le_of_ble_eq_true rfl) dd_L_law_351 (fun r37 => ?_)
                      refine J_aload_n hE dd_L_law_354 2 rfl rfl ?_
                      refine J_aload_n hE dd_L_law_355 0 rfl rfl ?_
                      refine J_iload_n hE dd_L_law_356 3 rfl rfl ?_
                      refine J_iconst hE (v := (1 : Int32)) dd_L_law_357 (by decide) ?_
                      refine J_iadd hE dd_L_law_358 ?_
                      refine J_sld hE hsc dd_L_law_359 ?_
                      refine J_aload_n hE dd_L_law_360 0 rfl rfl ?_
                      refine J_iload_n hE dd_L_law_361 3 rfl rfl ?_
                      refine J_iconst hE (v := (2 : Int32)) dd_L_law_362 (by decide) ?_
                      refine J_iadd hE dd_L_law_363 ?_
                      refine J_sld hE hsc dd_L_law_364 ?_
                      refine J_invVwi hE (e := fun S => (X2, S)) (As := [.int (xs (v1 + (1 : Int32)).toNatClampNeg), .int (xs (v1 + (2 : Int32)).toNatClampNeg)]) (st := [.int r37]) (JC.lift_w (e := fun S => (X2, S)) (tX5_moth E.2.1 (hL.2 X2) S3 (xs (v1 + (1 : Int32)).toNatClampNeg) (xs (v1 + (2 : Int32)).toNatClampNeg)) rfl) ((hL.2 X2).ob _) m_X5_moth rfl ml_RL_43 (Nat.le_of_ble_eq_true rfl) (Nat.le_of_ble_eq_true rfl) rfl (Nat.le_of_ble_eq_true rfl) dd_L_law_365 (fun q38 => ?_)
                      refine J_let2 (T := X2) (fun S39 => ?_)
                      refine J_icmp_eq hE (tgt := 1393) dd_L_law_368 (by decide) (fun c40 => ?_) (fun c40 => ?_)
                      · refine J_sub [0, 1, 2, 3] rfl ?_
                        exact hj4 (X2, S39)
                      · refine J_iconst hE (v := (0 : Int32)) dd_L_law_371 (by decide) ?_
                        exact J_zret hE (Or.inl rfl) dd_L_law_372 rfl rfl
                    · refine J_ite (fun c41 => ?_) (fun c41 => ?_)
                      · refine J_tsAt hE c41 (off := 341) (tgt := 373) dd_L_law_32 (by decide) (by decide) (by decide) (by decide) ?_
                        refine J_aload_n hE dd_L_law_373 1 rfl rfl ?_
                        refine J_aload_n hE dd_L_law_374 0 rfl rfl ?_
                        refine J_iload_n hE dd_L_law_375 3 rfl rfl ?_
                        refine J_iconst hE (v := (1 : Int32)) dd_L_law_376 (by decide) ?_
                        refine J_iadd hE dd_L_law_377 ?_
                        refine J_sld hE hsc dd_L_law_378 ?_
                        refine J_aload_n hE dd_L_law_379 0 rfl rfl ?_
                        refine J_iload_n hE dd_L_law_380 3 rfl rfl ?_
                        refine J_iconst hE (v := (2 : Int32)) dd_L_law_381 (by decide) ?_
                        refine J_iadd hE dd_L_law_382 ?_
                        refine J_sld hE hsc dd_L_law_383 ?_
                        refine J_invVri hE (As := [.int (xs (v1 + (1 : Int32)).toNatClampNeg), .int (xs (v1 + (2 : Int32)).toNatClampNeg)]) (st := []) (JC.lift_r (e := fun X => (X, S3)) (tX4_bale E.2.1 (hL.1 S3) X2 (xs (v1 + (1 : Int32)).toNatClampNeg) (xs (v1 + (2 : Int32)).toNatClampNeg)) rfl) ((hL.1 S3).rt.ob _) m_X4_bale rfl ml_RL_44 (Nat.le_of_ble_eq_true rfl) (Nat.le_of_ble_eq_true rfl) rfl (Nat.le_of_ble_eq_true rfl) dd_L_law_384 (fun r42 => ?_)
                        refine J_aload_n hE dd_L_law_387 2 rfl rfl ?_
                        refine J_aload_n hE dd_L_law_388 0 rfl rfl ?_
                        refine J_iload_n hE dd_L_law_389 3 rfl rfl ?_
                        refine J_iconst hE (v := (1 : Int32)) dd_L_law_390 (by decide) ?_
                        refine J_iadd hE dd_L_law_391 ?_
                        refine J_sld hE hsc dd_L_law_392 ?_
                        refine J_aload_n hE dd_L_law_393 0 rfl rfl ?_
                        refine J_iload_n hE dd_L_law_394 3 rfl rfl ?_
                        refine J_iconst hE (v := (2 : Int32)) dd_L_law_395 (by decide) ?_
                        refine J_iadd hE dd_L_law_396 ?_
                        refine J_sld hE hsc dd_L_law_397 ?_
                        refine J_invVwi hE (e := fun S => (X2, S)) (As := [.int (xs (v1 + (1 : Int32)).toNatClampNeg), .int (xs (v1 + (2 : Int32)).toNatClampNeg)]) (st := [.int r42]) (JC.lift_w (e := fun S => (X2, S)) (tX5_bale E.2.1 (hL.2 X2) S3 (xs (v1 + (1 : Int32)).toNatClampNeg) (xs (v1 + (2 : Int32)).toNatClampNeg)) rfl) ((hL.2 X2).ob _) m_X5_bale rfl ml_RL_47 (Nat.le_of_ble_eq_true rfl) (Nat.le_of_ble_eq_true rfl) rfl (Nat.le_of_ble_eq_true rfl) dd_L_law_398 (fun q43 => ?_)
                        refine J_let2 (T := X2) (fun S44 => ?_)
                        refine J_icmp_eq hE (tgt := 1393) dd_L_law_401 (by decide) (fun c45 => ?_) (fun c45 => ?_)
                        · refine J_sub [0, 1, 2, 3] rfl ?_
                          exact hj4 (X2, S44)
                        · refine J_iconst hE (v := (0 : Int32)) dd_L_law_404 (by decide) ?_
                          exact J_zret hE (Or.inl rfl) dd_L_law_405 rfl rfl
                      · refine J_ite (fun c46 => ?_) (fun c46 => ?_)
                        · refine J_tsAt hE c46 (off := 374) (tgt := 406) dd_L_law_32 (by decide) (by decide) (by decide) (by decide) ?_
                          refine J_aload_n hE dd_L_law_406 1 rfl rfl ?_
                          refine J_aload_n hE dd_L_law_407 0 rfl rfl ?_
                          refine J_iload_n hE dd_L_law_408 3 rfl rfl ?_
                          refine J_iconst hE (v := (1 : Int32)) dd_L_law_409 (by decide) ?_
                          refine J_iadd hE dd_L_law_410 ?_
                          refine J_sld hE hsc dd_L_law_411 ?_
                          refine J_aload_n hE dd_L_law_412 0 rfl rfl ?_
                          refine J_iload_n hE dd_L_law_413 3 rfl rfl ?_
                          refine J_iconst hE (v := (2 : Int32)) dd_L_law_414 (by decide) ?_
                          refine J_iadd hE dd_L_law_415 ?_
                          refine J_sld hE hsc dd_L_law_416 ?_
                          refine J_invVwi hE (e := fun X => (X, S3)) (As := [.int (xs (v1 + (1 : Int32)).toNatClampNeg), .int (xs (v1 + (2 : Int32)).toNatClampNeg)]) (st := []) (JC.lift_w (e := fun X => (X, S3)) (tX4_fold E.2.1 (hL.1 S3) X2 (xs (v1 + (1 : Int32)).toNatClampNeg) (xs (v1 + (2 : Int32)).toNatClampNeg)) rfl) ((hL.1 S3).rt.ob _) m_X4_fold rfl ml_RL_48 (Nat.le_of_ble_eq_true rfl) (Nat.le_of_ble_eq_true rfl) rfl (Nat.le_of_ble_eq_true rfl) dd_L_law_417 (fun q47 => ?_)
                          refine J_let1 (S := S3) (fun X48 => ?_)
                          refine J_aload_n hE dd_L_law_420 2 rfl rfl ?_
                          refine J_aload_n hE dd_L_law_421 0 rfl rfl ?_
                          refine J_iload_n hE dd_L_law_422 3 rfl rfl ?_
                          refine J_iconst hE (v := (1 : Int32)) dd_L_law_423 (by decide) ?_
                          refine J_iadd hE dd_L_law_424 ?_
                          refine J_sld hE hsc dd_L_law_425 ?_
                          refine J_aload_n hE dd_L_law_426 0 rfl rfl ?_
                          refine J_iload_n hE dd_L_law_427 3 rfl rfl ?_
                          refine J_iconst hE (v := (2 : Int32)) dd_L_law_428 (by decide) ?_
                          refine J_iadd hE dd_L_law_429 ?_
                          refine J_sld hE hsc dd_L_law_430 ?_
                          refine J_invVwi hE (e := fun S => (X48, S)) (As := [.int (xs (v1 + (1 : Int32)).toNatClampNeg), .int (xs (v1 + (2 : Int32)).toNatClampNeg)]) (st := [.int q47.1]) (JC.lift_w (e := fun S => (X48, S)) (tX5_fold E.2.1 (hL.2 X48) S3 (xs (v1 + (1 : Int32)).toNatClampNeg) (xs (v1 + (2 : Int32)).toNatClampNeg)) rfl) ((hL.2 X48).ob _) m_X5_fold rfl ml_RL_51 (Nat.le_of_ble_eq_true rfl) (Nat.le_of_ble_eq_true rfl) rfl (Nat.le_of_ble_eq_true rfl) dd_L_law_431 (fun q49 => ?_)
                          refine J_let2 (T := X48) (fun S50 => ?_)
                          refine J_icmp_eq hE (tgt := 1393) dd_L_law_434 (by decide) (fun c51 => ?_) (fun c51 => ?_)
                          · refine J_sub [0, 1, 2, 3] rfl ?_
                            exact hj4 (X48, S50)
                          · refine J_iconst hE (v := (0 : Int32)) dd_L_law_437 (by decide) ?_
                            exact J_zret hE (Or.inl rfl) dd_L_law_438 rfl rfl
                        · refine J_ite (fun c52 => ?_) (fun c52 => ?_)
                          · refine J_tsAt hE c52 (off := 407) (tgt := 439) dd_L_law_32 (by decide) (by decide) (by decide) (by decide) ?_
                            refine J_aload_n hE dd_L_law_439 1 rfl rfl ?_
                            refine J_aload_n hE dd_L_law_440 0 rfl rfl ?_
                            refine J_iload_n hE dd_L_law_441 3 rfl rfl ?_
                            refine J_iconst hE (v := (1 : Int32)) dd_L_law_442 (by decide) ?_
                            refine J_iadd hE dd_L_law_443 ?_
                            refine J_sld hE hsc dd_L_law_444 ?_
                            refine J_aload_n hE dd_L_law_445 0 rfl rfl ?_
                            refine J_iload_n hE dd_L_law_446 3 rfl rfl ?_
                            refine J_iconst hE (v := (2 : Int32)) dd_L_law_447 (by decide) ?_
                            refine J_iadd hE dd_L_law_448 ?_
                            refine J_sld hE hsc dd_L_law_449 ?_
                            refine J_invVwi hE (e := fun X => (X, S3)) (As := [.int (xs (v1 + (1 : Int32)).toNatClampNeg), .int (xs (v1 + (2 : Int32)).toNatClampNeg)]) (st := []) (JC.lift_w (e := fun X => (X, S3)) (tX4_under E.2.1 (hL.1 S3) X2 (xs (v1 + (1 : Int32)).toNatClampNeg) (xs (v1 + (2 : Int32)).toNatClampNeg)) rfl) ((hL.1 S3).rt.ob _) m_X4_under rfl ml_RL_52 (Nat.le_of_ble_eq_true rfl) (Nat.le_of_ble_eq_true rfl) rfl (Nat.le_of_ble_eq_true rfl) dd_L_law_450 (fun q53 => ?_)
                            refine J_let1 (S := S3) (fun X54 => ?_)
                            refine J_aload_n hE dd_L_law_453 2 rfl rfl ?_
                            refine J_aload_n hE dd_L_law_454 0 rfl rfl ?_
                            refine J_iload_n hE dd_L_law_455 3 rfl rfl ?_
                            refine J_iconst hE (v := (1 : Int32)) dd_L_law_456 (by decide) ?_
                            refine J_iadd hE dd_L_law_457 ?_
                            refine J_sld hE hsc dd_L_law_458 ?_
                            refine J_aload_n hE dd_L_law_459 0 rfl rfl ?_
                            refine J_iload_n hE dd_L_law_460 3 rfl rfl ?_
                            refine J_iconst hE (v := (2 : Int32)) dd_L_law_461 (by decide) ?_
                            refine J_iadd hE dd_L_law_462 ?_
                            refine J_sld hE hsc dd_L_law_463 ?_
                            refine J_invVwi hE (e := fun S => (X54, S)) (As := [.int (xs (v1 + (1 : Int32)).toNatClampNeg), .int (xs (v1 + (2 : Int32)).toNatClampNeg)]) (st := [.int q53.1]) (JC.lift_w (e := fun S => (X54, S)) (tX5_under E.2.1 (hL.2 X54) S3 (xs (v1 + (1 : Int32)).toNatClampNeg) (xs (v1 + (2 : Int32)).toNatClampNeg)) rfl) ((hL.2 X54).ob _) m_X5_under rfl ml_RL_55 (Nat.le_of_ble_eq_true rfl) (Nat.le_of_ble_eq_true rfl) rfl (Nat.le_of_ble_eq_true rfl) dd_L_law_464 (fun q55 => ?_)
                            refine J_let2 (T := X54) (fun S56 => ?_)
                            refine J_icmp_eq hE (tgt := 1393) dd_L_law_467 (by decide) (fun c57 => ?_) (fun c57 => ?_)
                            · refine J_sub [0, 1, 2, 3] rfl ?_
                              exact hj4 (X54, S56)
                            · refine J_iconst hE (v := (0 : Int32)) dd_L_law_470 (by decide) ?_
                              exact J_zret hE (Or.inl rfl) dd_L_law_471 rfl rfl
                          · refine J_ite (fun c58 => ?_) (fun c58 => ?_)
                            · refine J_tsAt hE c58 (off := 440) (tgt := 472) dd_L_law_32 (by decide) (by decide) (by decide) (by decide) ?_
                              refine J_aload_n hE dd_L_law_472 1 rfl rfl ?_
                              refine J_aload_n hE dd_L_law_473 0 rfl rfl ?_
                              refine J_iload_n hE dd_L_law_474 3 rfl rfl ?_
                              refine J_iconst hE (v := (1 : Int32)) dd_L_law_475 (by decide) ?_
                              refine J_iadd hE dd_L_law_476 ?_
                              refine J_sld hE hsc dd_L_law_477 ?_
                              refine J_aload_n hE dd_L_law_478 0 rfl rfl ?_
                              refine J_iload_n hE dd_L_law_479 3 rfl rfl ?_
                              refine J_iconst hE (v := (2 : Int32)) dd_L_law_480 (by decide) ?_
                              refine J_iadd hE dd_L_law_481 ?_
                              refine J_sld hE hsc dd_L_law_482 ?_
                              refine J_invVwi hE (e := fun X => (X, S3)) (As := [.int (xs (v1 + (1 : Int32)).toNatClampNeg), .int (xs (v1 + (2 : Int32)).toNatClampNeg)]) (st := []) (JC.lift_w (e := fun X => (X, S3)) (tX4_swap E.2.1 (hL.1 S3) X2 (xs (v1 + (1 : Int32)).toNatClampNeg) (xs (v1 + (2 : Int32)).toNatClampNeg)) rfl) ((hL.1 S3).rt.ob _) m_X4_swap rfl ml_RL_56 (Nat.le_of_ble_eq_true rfl) (Nat.le_of_ble_eq_true rfl) rfl (Nat.le_of_ble_eq_true rfl) dd_L_law_483 (fun q59 => ?_)
                              refine J_let1 (S := S3) (fun X60 => ?_)
                              refine J_aload_n hE dd_L_law_486 2 rfl rfl ?_
                              refine J_aload_n hE dd_L_law_487 0 rfl rfl ?_
                              refine J_iload_n hE dd_L_law_488 3 rfl rfl ?_
                              refine J_iconst hE (v := (1 : Int32)) dd_L_law_489 (by decide) ?_
                              refine J_iadd hE dd_L_law_490 ?_
                              refine J_sld hE hsc dd_L_law_491 ?_
                              refine J_aload_n hE dd_L_law_492 0 rfl rfl ?_
                              refine J_iload_n hE dd_L_law_493 3 rfl rfl ?_
                              refine J_iconst hE (v := (2 : Int32)) dd_L_law_494 (by decide) ?_
                              refine J_iadd hE dd_L_law_495 ?_
                              refine J_sld hE hsc dd_L_law_496 ?_
                              refine J_invVwi hE (e := fun S => (X60, S)) (As := [.int (xs (v1 + (1 : Int32)).toNatClampNeg), .int (xs (v1 + (2 : Int32)).toNatClampNeg)]) (st := [.int q59.1]) (JC.lift_w (e := fun S => (X60, S)) (tX5_swap E.2.1 (hL.2 X60) S3 (xs (v1 + (1 : Int32)).toNatClampNeg) (xs (v1 + (2 : Int32)).toNatClampNeg)) rfl) ((hL.2 X60).ob _) m_X5_swap rfl ml_RL_59 (Nat.le_of_ble_eq_true rfl) (Nat.le_of_ble_eq_true rfl) rfl (Nat.le_of_ble_eq_true rfl) dd_L_law_497 (fun q61 => ?_)
                              refine J_let2 (T := X60) (fun S62 => ?_)
                              refine J_icmp_eq hE (tgt := 1393) dd_L_law_500 (by decide) (fun c63 => ?_) (fun c63 => ?_)
                              · refine J_sub [0, 1, 2, 3] rfl ?_
                                exact hj4 (X60, S62)
                              · refine J_iconst hE (v := (0 : Int32)) dd_L_law_503 (by decide) ?_
                                exact J_zret hE (Or.inl rfl) dd_L_law_504 rfl rfl
                            · refine J_ite (fun c64 => ?_) (fun c64 => ?_)
                              · refine J_tsAt hE c64 (off := 473) (tgt := 505) dd_L_law_32 (by decide) (by decide) (by decide) (by decide) ?_
                                refine J_aload_n hE dd_L_law_505 1 rfl rfl ?_
                                refine J_aload_n hE dd_L_law_506 0 rfl rfl ?_
                                refine J_iload_n hE dd_L_law_507 3 rfl rfl ?_
                                refine J_iconst hE (v := (1 : Int32)) dd_L_law_508 (by decide) ?_
                                refine J_iadd hE dd_L_law_509 ?_
                                refine J_sld hE hsc dd_L_law_510 ?_
                                refine J_aload_n hE dd_L_law_511 0 rfl rfl ?_
                                refine J_iload_n hE dd_L_law_512 3 rfl rfl ?_
                                refine J_iconst hE (v := (2 : Int32)) dd_L_law_513 (by decide) ?_
                                refine J_iadd hE dd_L_law_514 ?_
                                refine J_sld hE hsc dd_L_law_515 ?_
                                refine J_jn (m := 524) (Lf := fun p67 => [(0, .ref bs), (1, .ref (ob 0)), (2, .ref bm), (3, .int v1)]) (sf := fun p67 => [.int p67, .int (xs (v1 + (1 : Int32)).toNatClampNeg), .ref (ob 0)]) (Xf := fun p67 => (X2, S3)) (fun p67 => ?_) (fun hj65 => ?_)
                                · show J V E _ _ 524 [(0, .ref bs), (1, .ref (ob 0)), (2, .ref bm), (3, .int v1)] [.int p67, .int (xs (v1 + (1 : Int32)).toNatClampNeg), .ref (ob 0)] (X2, S3)
                                  refine J_invVwi hE (e := fun X => (X, S3)) (As := [.int (xs (v1 + (1 : Int32)).toNatClampNeg), .int p67]) (st := []) (JC.lift_w (e := fun X => (X, S3)) (tX4_camphor E.2.1 (hL.1 S3) X2 (xs (v1 + (1 : Int32)).toNatClampNeg) p67) rfl) ((hL.1 S3).rt.ob _) m_X4_camphor rfl ml_RL_60 (Nat.le_of_ble_eq_true rfl) (Nat.le_of_ble_eq_true rfl) rfl (Nat.le_of_ble_eq_true rfl) dd_L_law_524 (fun q68 => ?_)
                                  refine J_let1 (S := S3) (fun X69 => ?_)
                                  refine J_aload_n hE dd_L_law_527 2 rfl rfl ?_
                                  refine J_aload_n hE dd_L_law_528 0 rfl rfl ?_
                                  refine J_iload_n hE dd_L_law_529 3 rfl rfl ?_
                                  refine J_iconst hE (v := (1 : Int32)) dd_L_law_530 (by decide) ?_
                                  refine J_iadd hE dd_L_law_531 ?_
                                  refine J_sld hE hsc dd_L_law_532 ?_
                                  refine J_aload_n hE dd_L_law_533 0 rfl rfl ?_
                                  refine J_iload_n hE dd_L_law_534 3 rfl rfl ?_
                                  refine J_iconst hE (v := (2 : Int32)) dd_L_law_535 (by decide) ?_
                                  refine J_iadd hE dd_L_law_536 ?_
                                  refine J_sld hE hsc dd_L_law_537 ?_
                                  refine J_jn (m := 546) (Lf := fun p72 => [(0, .ref bs), (1, .ref (ob 0)), (2, .ref bm), (3, .int v1)]) (sf := fun p72 => [.int p72, .int (xs (v1 + (1 : Int32)).toNatClampNeg), .ref bm, .int q68.1]) (Xf := fun p72 => (X69, S3)) (fun p72 => ?_) (fun hj70 => ?_)
                                  · show J V E _ _ 546 [(0, .ref bs), (1, .ref (ob 0)), (2, .ref bm), (3, .int v1)] [.int p72, .int (xs (v1 + (1 : Int32)).toNatClampNeg), .ref bm, .int q68.1] (X69, S3)
                                    refine J_invVwi hE (e := fun S => (X69, S)) (As := [.int (xs (v1 + (1 : Int32)).toNatClampNeg), .int p72]) (st := [.int q68.1]) (JC.lift_w (e := fun S => (X69, S)) (tX5_camphor E.2.1 (hL.2 X69) S3 (xs (v1 + (1 : Int32)).toNatClampNeg) p72) rfl) ((hL.2 X69).ob _) m_X5_camphor rfl ml_RL_64 (Nat.le_of_ble_eq_true rfl) (Nat.le_of_ble_eq_true rfl) rfl (Nat.le_of_ble_eq_true rfl) dd_L_law_546 (fun q73 => ?_)
                                    refine J_let2 (T := X69) (fun S74 => ?_)
                                    refine J_icmp_eq hE (tgt := 1393) dd_L_law_549 (by decide) (fun c75 => ?_) (fun c75 => ?_)
                                    · refine J_sub [0, 1, 2, 3] rfl ?_
                                      exact hj4 (X69, S74)
                                    · refine J_iconst hE (v := (0 : Int32)) dd_L_law_552 (by decide) ?_
                                      exact J_zret hE (Or.inl rfl) dd_L_law_553 rfl rfl
                                  · refine J_if_eq hE (tgt := 545) dd_L_law_538 (by decide) (fun c71 => ?_) (fun c71 => ?_)
                                    · refine J_iconst hE (v := (0 : Int32)) dd_L_law_545 (by decide) ?_
                                      refine J_sub [0, 1, 2, 3] rfl ?_
                                      exact hj70 (0 : Int32)
                                    · refine J_iconst hE (v := (1 : Int32)) dd_L_law_541 (by decide) ?_
                                      refine J_goto hE (tgt := 546) dd_L_law_542 (by decide) ?_
                                      refine J_sub [0, 1, 2, 3] rfl ?_
                                      exact hj70 (1 : Int32)
                                · refine J_if_eq hE (tgt := 523) dd_L_law_516 (by decide) (fun c66 => ?_) (fun c66 => ?_)
                                  · refine J_iconst hE (v := (0 : Int32)) dd_L_law_523 (by decide) ?_
                                    refine J_sub [0, 1, 2, 3] rfl ?_
                                    exact hj65 (0 : Int32)
                                  · refine J_iconst hE (v := (1 : Int32)) dd_L_law_519 (by decide) ?_
                                    refine J_goto hE (tgt := 524) dd_L_law_520 (by decide) ?_
                                    refine J_sub [0, 1, 2, 3] rfl ?_
                                    exact hj65 (1 : Int32)
                              · refine J_ite (fun c76 => ?_) (fun c76 => ?_)
                                · refine J_tsAt hE c76 (off := 522) (tgt := 554) dd_L_law_32 (by decide) (by decide) (by decide) (by decide) ?_
                                  refine J_aload_n hE dd_L_law_554 1 rfl rfl ?_
                                  refine J_aload_n hE dd_L_law_555 0 rfl rfl ?_
                                  refine J_iload_n hE dd_L_law_556 3 rfl rfl ?_
                                  refine J_iconst hE (v := (1 : Int32)) dd_L_law_557 (by decide) ?_
                                  refine J_iadd hE dd_L_law_558 ?_
                                  refine J_sld hE hsc dd_L_law_559 ?_
                                  refine J_aload_n hE dd_L_law_560 0 rfl rfl ?_
                                  refine J_iload_n hE dd_L_law_561 3 rfl rfl ?_
                                  refine J_iconst hE (v := (2 : Int32)) dd_L_law_562 (by decide) ?_
                                  refine J_iadd hE dd_L_law_563 ?_
                                  refine J_sld hE hsc dd_L_law_564 ?_
                                  refine J_invVwi hE (e := fun X => (X, S3)) (As := [.int (xs (v1 + (1 : Int32)).toNatClampNeg), .int (xs (v1 + (2 : Int32)).toNatClampNeg)]) (st := []) (JC.lift_w (e := fun X => (X, S3)) (tX4_patch E.2.1 (hL.1 S3) X2 (xs (v1 + (1 : Int32)).toNatClampNeg) (xs (v1 + (2 : Int32)).toNatClampNeg)) rfl) ((hL.1 S3).rt.ob _) m_X4_patch rfl ml_RL_65 (Nat.le_of_ble_eq_true rfl) (Nat.le_of_ble_eq_true rfl) rfl (Nat.le_of_ble_eq_true rfl) dd_L_law_565 (fun q77 => ?_)
                                  refine J_let1 (S := S3) (fun X78 => ?_)
                                  refine J_aload_n hE dd_L_law_568 2 rfl rfl ?_
                                  refine J_aload_n hE dd_L_law_569 0 rfl rfl ?_
                                  refine J_iload_n hE dd_L_law_570 3 rfl rfl ?_
                                  refine J_iconst hE (v := (1 : Int32)) dd_L_law_571 (by decide) ?_
                                  refine J_iadd hE dd_L_law_572 ?_
                                  refine J_sld hE hsc dd_L_law_573 ?_
                                  refine J_aload_n hE dd_L_law_574 0 rfl rfl ?_
                                  refine J_iload_n hE dd_L_law_575 3 rfl rfl ?_
                                  refine J_iconst hE (v := (2 : Int32)) dd_L_law_576 (by decide) ?_
                                  refine J_iadd hE dd_L_law_577 ?_
                                  refine J_sld hE hsc dd_L_law_578 ?_
                                  refine J_invVwi hE (e := fun S => (X78, S)) (As := [.int (xs (v1 + (1 : Int32)).toNatClampNeg), .int (xs (v1 + (2 : Int32)).toNatClampNeg)]) (st := [.int q77.1]) (JC.lift_w (e := fun S => (X78, S)) (tX5_patch E.2.1 (hL.2 X78) S3 (xs (v1 + (1 : Int32)).toNatClampNeg) (xs (v1 + (2 : Int32)).toNatClampNeg)) rfl) ((hL.2 X78).ob _) m_X5_patch rfl ml_RL_68 (Nat.le_of_ble_eq_true rfl) (Nat.le_of_ble_eq_true rfl) rfl (Nat.le_of_ble_eq_true rfl) dd_L_law_579 (fun q79 => ?_)
                                  refine J_let2 (T := X78) (fun S80 => ?_)
                                  refine J_icmp_eq hE (tgt := 1393) dd_L_law_582 (by decide) (fun c81 => ?_) (fun c81 => ?_)
                                  · refine J_sub [0, 1, 2, 3] rfl ?_
                                    exact hj4 (X78, S80)
                                  · refine J_iconst hE (v := (0 : Int32)) dd_L_law_585 (by decide) ?_
                                    exact J_zret hE (Or.inl rfl) dd_L_law_586 rfl rfl
                                · refine J_ite (fun c82 => ?_) (fun c82 => ?_)
                                  · refine J_tsAt hE c82 (off := 555) (tgt := 587) dd_L_law_32 (by decide) (by decide) (by decide) (by decide) ?_
                                    refine J_aload_n hE dd_L_law_587 1 rfl rfl ?_
                                    refine J_aload_n hE dd_L_law_588 0 rfl rfl ?_
                                    refine J_iload_n hE dd_L_law_589 3 rfl rfl ?_
                                    refine J_iconst hE (v := (1 : Int32)) dd_L_law_590 (by decide) ?_
                                    refine J_iadd hE dd_L_law_591 ?_
                                    refine J_sld hE hsc dd_L_law_592 ?_
                                    refine J_invVwi hE (e := fun X => (X, S3)) (As := [.int (xs (v1 + (1 : Int32)).toNatClampNeg)]) (st := []) (JC.lift_w (e := fun X => (X, S3)) (tX4_prick E.2.1 (hL.1 S3) X2 (xs (v1 + (1 : Int32)).toNatClampNeg)) rfl) ((hL.1 S3).rt.ob _) m_X4_prick rfl ml_RL_69 (Nat.le_of_ble_eq_true rfl) (Nat.le_of_ble_eq_true rfl) rfl (Nat.le_of_ble_eq_true rfl) dd_L_law_593 (fun q83 => ?_)
                                    refine J_let1 (S := S3) (fun X84 => ?_)
                                    refine J_aload_n hE dd_L_law_596 2 rfl rfl ?_
                                    refine J_aload_n hE dd_L_law_597 0 rfl rfl ?_
                                    refine J_iload_n hE dd_L_law_598 3 rfl rfl ?_
                                    refine J_iconst hE (v := (1 : Int32)) dd_L_law_599 (by decide) ?_
                                    refine J_iadd hE dd_L_law_600 ?_
                                    refine J_sld hE hsc dd_L_law_601 ?_
                                    refine J_invVwi hE (e := fun S => (X84, S)) (As := [.int (xs (v1 + (1 : Int32)).toNatClampNeg)]) (st := [.int q83.1]) (JC.lift_w (e := fun S => (X84, S)) (tX5_prick E.2.1 (hL.2 X84) S3 (xs (v1 + (1 : Int32)).toNatClampNeg)) rfl) ((hL.2 X84).ob _) m_X5_prick rfl ml_RL_72 (Nat.le_of_ble_eq_true rfl) (Nat.le_of_ble_eq_true rfl) rfl (Nat.le_of_ble_eq_true rfl) dd_L_law_602 (fun q85 => ?_)
                                    refine J_let2 (T := X84) (fun S86 => ?_)
                                    refine J_icmp_eq hE (tgt := 1393) dd_L_law_605 (by decide) (fun c87 => ?_) (fun c87 => ?_)
                                    · refine J_sub [0, 1, 2, 3] rfl ?_
                                      exact hj4 (X84, S86)
                                    · refine J_iconst hE (v := (0 : Int32)) dd_L_law_608 (by decide) ?_
                                      exact J_zret hE (Or.inl rfl) dd_L_law_609 rfl rfl
                                  · refine J_ite (fun c88 => ?_) (fun c88 => ?_)
                                    · refine J_tsAt hE c88 (off := 578) (tgt := 610) dd_L_law_32 (by decide) (by decide) (by decide) (by decide) ?_
                                      refine J_aload_n hE dd_L_law_610 1 rfl rfl ?_
                                      refine J_aload_n hE dd_L_law_611 0 rfl rfl ?_
                                      refine J_iload_n hE dd_L_law_612 3 rfl rfl ?_
                                      refine J_iconst hE (v := (1 : Int32)) dd_L_law_613 (by decide) ?_
                                      refine J_iadd hE dd_L_law_614 ?_
                                      refine J_sld hE hsc dd_L_law_615 ?_
                                      refine J_aload_n hE dd_L_law_616 0 rfl rfl ?_
                                      refine J_iload_n hE dd_L_law_617 3 rfl rfl ?_
                                      refine J_iconst hE (v := (2 : Int32)) dd_L_law_618 (by decide) ?_
                                      refine J_iadd hE dd_L_law_619 ?_
                                      refine J_sld hE hsc dd_L_law_620 ?_
                                      refine J_aload_n hE dd_L_law_621 0 rfl rfl ?_
                                      refine J_iload_n hE dd_L_law_622 3 rfl rfl ?_
                                      refine J_iconst hE (v := (3 : Int32)) dd_L_law_623 (by decide) ?_
                                      refine J_iadd hE dd_L_law_624 ?_
                                      refine J_sld hE hsc dd_L_law_625 ?_
                                      refine J_invVwi hE (e := fun X => (X, S3)) (As := [.int (xs (v1 + (1 : Int32)).toNatClampNeg), .int (xs (v1 + (2 : Int32)).toNatClampNeg), .int (xs (v1 + (3 : Int32)).toNatClampNeg)]) (st := []) (JC.lift_w (e := fun X => (X, S3)) (tX4_alter E.2.1 (hL.1 S3) X2 (xs (v1 + (1 : Int32)).toNatClampNeg) (xs (v1 + (2 : Int32)).toNatClampNeg) (xs (v1 + (3 : Int32)).toNatClampNeg)) rfl) ((hL.1 S3).rt.ob _) m_X4_alter rfl ml_RL_73 (Nat.le_of_ble_eq_true rfl) (Nat.le_of_ble_eq_true rfl) rfl (Nat.le_of_ble_eq_true rfl) dd_L_law_626 (fun q89 => ?_)
                                      refine J_let1 (S := S3) (fun X90 => ?_)
                                      refine J_aload_n hE dd_L_law_629 2 rfl rfl ?_
                                      refine J_aload_n hE dd_L_law_630 0 rfl rfl ?_
                                      refine J_iload_n hE dd_L_law_631 3 rfl rfl ?_
                                      refine J_iconst hE (v := (1 : Int32)) dd_L_law_632 (by decide) ?_
                                      refine J_iadd hE dd_L_law_633 ?_
                                      refine J_sld hE hsc dd_L_law_634 ?_
                                      refine J_aload_n hE dd_L_law_635 0 rfl rfl ?_
                                      refine J_iload_n hE dd_L_law_636 3 rfl rfl ?_
                                      refine J_iconst hE (v := (2 : Int32)) dd_L_law_637 (by decide) ?_
                                      refine J_iadd hE dd_L_law_638 ?_
                                      refine J_sld hE hsc dd_L_law_639 ?_
                                      refine J_aload_n hE dd_L_law_640 0 rfl rfl ?_
                                      refine J_iload_n hE dd_L_law_641 3 rfl rfl ?_
                                      refine J_iconst hE (v := (3 : Int32)) dd_L_law_642 (by decide) ?_
                                      refine J_iadd hE dd_L_law_643 ?_
                                      refine J_sld hE hsc dd_L_law_644 ?_
                                      refine J_invVwi hE (e := fun S => (X90, S)) (As := [.int (xs (v1 + (1 : Int32)).toNatClampNeg), .int (xs (v1 + (2 : Int32)).toNatClampNeg), .int (xs (v1 + (3 : Int32)).toNatClampNeg)]) (st := [.int q89.1]) (JC.lift_w (e := fun S => (X90, S)) (tX5_alter E.2.1 (hL.2 X90) S3 (xs (v1 + (1 : Int32)).toNatClampNeg) (xs (v1 + (2 : Int32)).toNatClampNeg) (xs (v1 + (3 : Int32)).toNatClampNeg)) rfl) ((hL.2 X90).ob _) m_X5_alter rfl ml_RL_77 (Nat.le_of_ble_eq_true rfl) (Nat.le_of_ble_eq_true rfl) rfl (Nat.le_of_ble_eq_true rfl) dd_L_law_645 (fun q91 => ?_)
                                      refine J_let2 (T := X90) (fun S92 => ?_)
                                      refine J_icmp_eq hE (tgt := 1393) dd_L_law_648 (by decide) (fun c93 => ?_) (fun c93 => ?_)
                                      · refine J_sub [0, 1, 2, 3] rfl ?_
                                        exact hj4 (X90, S92)
                                      · refine J_iconst hE (v := (0 : Int32)) dd_L_law_651 (by decide) ?_
                                        exact J_zret hE (Or.inl rfl) dd_L_law_652 rfl rfl
                                    · refine J_ite (fun c94 => ?_) (fun c94 => ?_)
                                      · refine J_tsAt hE c94 (off := 621) (tgt := 653) dd_L_law_32 (by decide) (by decide) (by decide) (by decide) ?_
                                        refine J_aload_n hE dd_L_law_653 1 rfl rfl ?_
                                        refine J_aload_n hE dd_L_law_654 0 rfl rfl ?_
                                        refine J_iload_n hE dd_L_law_655 3 rfl rfl ?_
                                        refine J_iconst hE (v := (1 : Int32)) dd_L_law_656 (by decide) ?_
                                        refine J_iadd hE dd_L_law_657 ?_
                                        refine J_sld hE hsc dd_L_law_658 ?_
                                        refine J_aload_n hE dd_L_law_659 0 rfl rfl ?_
                                        refine J_iload_n hE dd_L_law_660 3 rfl rfl ?_
                                        refine J_iconst hE (v := (2 : Int32)) dd_L_law_661 (by decide) ?_
                                        refine J_iadd hE dd_L_law_662 ?_
                                        refine J_sld hE hsc dd_L_law_663 ?_
                                        refine J_invVwi hE (e := fun X => (X, S3)) (As := [.int (xs (v1 + (1 : Int32)).toNatClampNeg), .int (xs (v1 + (2 : Int32)).toNatClampNeg)]) (st := []) (JC.lift_w (e := fun X => (X, S3)) (tX4_set E.2.1 (hL.1 S3) X2 (xs (v1 + (1 : Int32)).toNatClampNeg) (xs (v1 + (2 : Int32)).toNatClampNeg)) rfl) ((hL.1 S3).rt.ob _) m_X4_set rfl ml_RL_78 (Nat.le_of_ble_eq_true rfl) (Nat.le_of_ble_eq_true rfl) rfl (Nat.le_of_ble_eq_true rfl) dd_L_law_664 (fun q95 => ?_)
                                        refine J_let1 (S := S3) (fun X96 => ?_)
                                        refine J_aload_n hE dd_L_law_667 2 rfl rfl ?_
                                        refine J_aload_n hE dd_L_law_668 0 rfl rfl ?_
                                        refine J_iload_n hE dd_L_law_669 3 rfl rfl ?_
                                        refine J_iconst hE (v := (1 : Int32)) dd_L_law_670 (by decide) ?_
                                        refine J_iadd hE dd_L_law_671 ?_
                                        refine J_sld hE hsc dd_L_law_672 ?_
                                        refine J_aload_n hE dd_L_law_673 0 rfl rfl ?_
                                        refine J_iload_n hE dd_L_law_674 3 rfl rfl ?_
                                        refine J_iconst hE (v := (2 : Int32)) dd_L_law_675 (by decide) ?_
                                        refine J_iadd hE dd_L_law_676 ?_
                                        refine J_sld hE hsc dd_L_law_677 ?_
                                        refine J_invVwi hE (e := fun S => (X96, S)) (As := [.int (xs (v1 + (1 : Int32)).toNatClampNeg), .int (xs (v1 + (2 : Int32)).toNatClampNeg)]) (st := [.int q95.1]) (JC.lift_w (e := fun S => (X96, S)) (tX5_set E.2.1 (hL.2 X96) S3 (xs (v1 + (1 : Int32)).toNatClampNeg) (xs (v1 + (2 : Int32)).toNatClampNeg)) rfl) ((hL.2 X96).ob _) m_X5_set rfl ml_RL_81 (Nat.le_of_ble_eq_true rfl) (Nat.le_of_ble_eq_true rfl) rfl (Nat.le_of_ble_eq_true rfl) dd_L_law_678 (fun q97 => ?_)
                                        refine J_let2 (T := X96) (fun S98 => ?_)
                                        refine J_icmp_eq hE (tgt := 1393) dd_L_law_681 (by decide) (fun c99 => ?_) (fun c99 => ?_)
                                        · refine J_sub [0, 1, 2, 3] rfl ?_
                                          exact hj4 (X96, S98)
                                        · refine J_iconst hE (v := (0 : Int32)) dd_L_law_684 (by decide) ?_
                                          exact J_zret hE (Or.inl rfl) dd_L_law_685 rfl rfl
                                      · refine J_ite (fun c100 => ?_) (fun c100 => ?_)
                                        · refine J_tsAt hE c100 (off := 654) (tgt := 686) dd_L_law_32 (by decide) (by decide) (by decide) (by decide) ?_
                                          refine J_aload_n hE dd_L_law_686 1 rfl rfl ?_
                                          refine J_aload_n hE dd_L_law_687 0 rfl rfl ?_
                                          refine J_iload_n hE dd_L_law_688 3 rfl rfl ?_
                                          refine J_iconst hE (v := (1 : Int32)) dd_L_law_689 (by decide) ?_
                                          refine J_iadd hE dd_L_law_690 ?_
                                          refine J_sld hE hsc dd_L_law_691 ?_
                                          refine J_invVwi hE (e := fun X => (X, S3)) (As := [.int (xs (v1 + (1 : Int32)).toNatClampNeg)]) (st := []) (JC.lift_w (e := fun X => (X, S3)) (tX4_go E.2.1 (hL.1 S3) X2 (xs (v1 + (1 : Int32)).toNatClampNeg)) rfl) ((hL.1 S3).rt.ob _) m_X4_go rfl ml_RL_82 (Nat.le_of_ble_eq_true rfl) (Nat.le_of_ble_eq_true rfl) rfl (Nat.le_of_ble_eq_true rfl) dd_L_law_692 (fun q101 => ?_)
                                          refine J_let1 (S := S3) (fun X102 => ?_)
                                          refine J_aload_n hE dd_L_law_695 2 rfl rfl ?_
                                          refine J_aload_n hE dd_L_law_696 0 rfl rfl ?_
                                          refine J_iload_n hE dd_L_law_697 3 rfl rfl ?_
                                          refine J_iconst hE (v := (1 : Int32)) dd_L_law_698 (by decide) ?_
                                          refine J_iadd hE dd_L_law_699 ?_
                                          refine J_sld hE hsc dd_L_law_700 ?_
                                          refine J_invVwi hE (e := fun S => (X102, S)) (As := [.int (xs (v1 + (1 : Int32)).toNatClampNeg)]) (st := [.int q101.1]) (JC.lift_w (e := fun S => (X102, S)) (tX5_go E.2.1 (hL.2 X102) S3 (xs (v1 + (1 : Int32)).toNatClampNeg)) rfl) ((hL.2 X102).ob _) m_X5_go rfl ml_RL_85 (Nat.le_of_ble_eq_true rfl) (Nat.le_of_ble_eq_true rfl) rfl (Nat.le_of_ble_eq_true rfl) dd_L_law_701 (fun q103 => ?_)
                                          refine J_let2 (T := X102) (fun S104 => ?_)
                                          refine J_icmp_eq hE (tgt := 1393) dd_L_law_704 (by decide) (fun c105 => ?_) (fun c105 => ?_)
                                          · refine J_sub [0, 1, 2, 3] rfl ?_
                                            exact hj4 (X102, S104)
                                          · refine J_iconst hE (v := (0 : Int32)) dd_L_law_707 (by decide) ?_
                                            exact J_zret hE (Or.inl rfl) dd_L_law_708 rfl rfl
                                        · refine J_ite (fun c106 => ?_) (fun c106 => ?_)
                                          · refine J_tsAt hE c106 (off := 677) (tgt := 709) dd_L_law_32 (by decide) (by decide) (by decide) (by decide) ?_
                                            refine J_aload_n hE dd_L_law_709 1 rfl rfl ?_
                                            refine J_aload_n hE dd_L_law_710 0 rfl rfl ?_
                                            refine J_iload_n hE dd_L_law_711 3 rfl rfl ?_
                                            refine J_iconst hE (v := (1 : Int32)) dd_L_law_712 (by decide) ?_
                                            refine J_iadd hE dd_L_law_713 ?_
                                            refine J_sld hE hsc dd_L_law_714 ?_
                                            refine J_aload_n hE dd_L_law_715 0 rfl rfl ?_
                                            refine J_iload_n hE dd_L_law_716 3 rfl rfl ?_
                                            refine J_iconst hE (v := (2 : Int32)) dd_L_law_717 (by decide) ?_
                                            refine J_iadd hE dd_L_law_718 ?_
                                            refine J_sld hE hsc dd_L_law_719 ?_
                                            refine J_invVwi hE (e := fun X => (X, S3)) (As := [.int (xs (v1 + (1 : Int32)).toNatClampNeg), .int (xs (v1 + (2 : Int32)).toNatClampNeg)]) (st := []) (JC.lift_w (e := fun X => (X, S3)) (tX4_ahead E.2.1 (hL.1 S3) X2 (xs (v1 + (1 : Int32)).toNatClampNeg) (xs (v1 + (2 : Int32)).toNatClampNeg)) rfl) ((hL.1 S3).rt.ob _) m_X4_ahead rfl ml_RL_86 (Nat.le_of_ble_eq_true rfl) (Nat.le_of_ble_eq_true rfl) rfl (Nat.le_of_ble_eq_true rfl) dd_L_law_720 (fun q107 => ?_)
                                            refine J_let1 (S := S3) (fun X108 => ?_)
                                            refine J_aload_n hE dd_L_law_723 2 rfl rfl ?_
                                            refine J_aload_n hE dd_L_law_724 0 rfl rfl ?_
                                            refine J_iload_n hE dd_L_law_725 3 rfl rfl ?_
                                            refine J_iconst hE (v := (1 : Int32)) dd_L_law_726 (by decide) ?_
                                            refine J_iadd hE dd_L_law_727 ?_
                                            refine J_sld hE hsc dd_L_law_728 ?_
                                            refine J_aload_n hE dd_L_law_729 0 rfl rfl ?_
                                            refine J_iload_n hE dd_L_law_730 3 rfl rfl ?_
                                            refine J_iconst hE (v := (2 : Int32)) dd_L_law_731 (by decide) ?_
                                            refine J_iadd hE dd_L_law_732 ?_
                                            refine J_sld hE hsc dd_L_law_733 ?_
                                            refine J_invVwi hE (e := fun S => (X108, S)) (As := [.int (xs (v1 + (1 : Int32)).toNatClampNeg), .int (xs (v1 + (2 : Int32)).toNatClampNeg)]) (st := [.int q107.1]) (JC.lift_w (e := fun S => (X108, S)) (tX5_ahead E.2.1 (hL.2 X108) S3 (xs (v1 + (1 : Int32)).toNatClampNeg) (xs (v1 + (2 : Int32)).toNatClampNeg)) rfl) ((hL.2 X108).ob _) m_X5_ahead rfl ml_RL_89 (Nat.le_of_ble_eq_true rfl) (Nat.le_of_ble_eq_true rfl) rfl (Nat.le_of_ble_eq_true rfl) dd_L_law_734 (fun q109 => ?_)
                                            refine J_let2 (T := X108) (fun S110 => ?_)
                                            refine J_icmp_eq hE (tgt := 1393) dd_L_law_737 (by decide) (fun c111 => ?_) (fun c111 => ?_)
                                            · refine J_sub [0, 1, 2, 3] rfl ?_
                                              exact hj4 (X108, S110)
                                            · refine J_iconst hE (v := (0 : Int32)) dd_L_law_740 (by decide) ?_
                                              exact J_zret hE (Or.inl rfl) dd_L_law_741 rfl rfl
                                          · refine J_ite (fun c112 => ?_) (fun c112 => ?_)
                                            · refine J_tsAt hE c112 (off := 710) (tgt := 742) dd_L_law_32 (by decide) (by decide) (by decide) (by decide) ?_
                                              refine J_aload_n hE dd_L_law_742 1 rfl rfl ?_
                                              refine J_aload_n hE dd_L_law_743 0 rfl rfl ?_
                                              refine J_iload_n hE dd_L_law_744 3 rfl rfl ?_
                                              refine J_iconst hE (v := (1 : Int32)) dd_L_law_745 (by decide) ?_
                                              refine J_iadd hE dd_L_law_746 ?_
                                              refine J_sld hE hsc dd_L_law_747 ?_
                                              refine J_invVwi hE (e := fun X => (X, S3)) (As := [.int (xs (v1 + (1 : Int32)).toNatClampNeg)]) (st := []) (JC.lift_w (e := fun X => (X, S3)) (tX4_when E.2.1 (hL.1 S3) X2 (xs (v1 + (1 : Int32)).toNatClampNeg)) rfl) ((hL.1 S3).rt.ob _) m_X4_when rfl ml_RL_90 (Nat.le_of_ble_eq_true rfl) (Nat.le_of_ble_eq_true rfl) rfl (Nat.le_of_ble_eq_true rfl) dd_L_law_748 (fun q113 => ?_)
                                              refine J_let1 (S := S3) (fun X114 => ?_)
                                              refine J_aload_n hE dd_L_law_751 2 rfl rfl ?_
                                              refine J_aload_n hE dd_L_law_752 0 rfl rfl ?_
                                              refine J_iload_n hE dd_L_law_753 3 rfl rfl ?_
                                              refine J_iconst hE (v := (1 : Int32)) dd_L_law_754 (by decide) ?_
                                              refine J_iadd hE dd_L_law_755 ?_
                                              refine J_sld hE hsc dd_L_law_756 ?_
                                              refine J_invVwi hE (e := fun S => (X114, S)) (As := [.int (xs (v1 + (1 : Int32)).toNatClampNeg)]) (st := [.int q113.1]) (JC.lift_w (e := fun S => (X114, S)) (tX5_when E.2.1 (hL.2 X114) S3 (xs (v1 + (1 : Int32)).toNatClampNeg)) rfl) ((hL.2 X114).ob _) m_X5_when rfl ml_RL_93 (Nat.le_of_ble_eq_true rfl) (Nat.le_of_ble_eq_true rfl) rfl (Nat.le_of_ble_eq_true rfl) dd_L_law_757 (fun q115 => ?_)
                                              refine J_let2 (T := X114) (fun S116 => ?_)
                                              refine J_icmp_eq hE (tgt := 1393) dd_L_law_760 (by decide) (fun c117 => ?_) (fun c117 => ?_)
                                              · refine J_sub [0, 1, 2, 3] rfl ?_
                                                exact hj4 (X114, S116)
                                              · refine J_iconst hE (v := (0 : Int32)) dd_L_law_763 (by decide) ?_
                                                exact J_zret hE (Or.inl rfl) dd_L_law_764 rfl rfl
                                            · refine J_ite (fun c118 => ?_) (fun c118 => ?_)
                                              · refine J_tsAt hE c118 (off := 733) (tgt := 765) dd_L_law_32 (by decide) (by decide) (by decide) (by decide) ?_
                                                refine J_aload_n hE dd_L_law_765 1 rfl rfl ?_
                                                refine J_aload_n hE dd_L_law_766 0 rfl rfl ?_
                                                refine J_iload_n hE dd_L_law_767 3 rfl rfl ?_
                                                refine J_iconst hE (v := (1 : Int32)) dd_L_law_768 (by decide) ?_
                                                refine J_iadd hE dd_L_law_769 ?_
                                                refine J_sld hE hsc dd_L_law_770 ?_
                                                refine J_invVwi hE (e := fun X => (X, S3)) (As := [.int (xs (v1 + (1 : Int32)).toNatClampNeg)]) (st := []) (JC.lift_w (e := fun X => (X, S3)) (tX4_eats E.2.1 (hL.1 S3) X2 (xs (v1 + (1 : Int32)).toNatClampNeg)) rfl) ((hL.1 S3).rt.ob _) m_X4_eats rfl ml_RL_94 (Nat.le_of_ble_eq_true rfl) (Nat.le_of_ble_eq_true rfl) rfl (Nat.le_of_ble_eq_true rfl) dd_L_law_771 (fun q119 => ?_)
                                                refine J_let1 (S := S3) (fun X120 => ?_)
                                                refine J_aload_n hE dd_L_law_774 2 rfl rfl ?_
                                                refine J_aload_n hE dd_L_law_775 0 rfl rfl ?_
                                                refine J_iload_n hE dd_L_law_776 3 rfl rfl ?_
                                                refine J_iconst hE (v := (1 : Int32)) dd_L_law_777 (by decide) ?_
                                                refine J_iadd hE dd_L_law_778 ?_
                                                refine J_sld hE hsc dd_L_law_779 ?_
                                                refine J_invVwi hE (e := fun S => (X120, S)) (As := [.int (xs (v1 + (1 : Int32)).toNatClampNeg)]) (st := [.int q119.1]) (JC.lift_w (e := fun S => (X120, S)) (tX5_eats E.2.1 (hL.2 X120) S3 (xs (v1 + (1 : Int32)).toNatClampNeg)) rfl) ((hL.2 X120).ob _) m_X5_eats rfl ml_RL_97 (Nat.le_of_ble_eq_true rfl) (Nat.le_of_ble_eq_true rfl) rfl (Nat.le_of_ble_eq_true rfl) dd_L_law_780 (fun q121 => ?_)
                                                refine J_let2 (T := X120) (fun S122 => ?_)
                                                refine J_icmp_eq hE (tgt := 1393) dd_L_law_783 (by decide) (fun c123 => ?_) (fun c123 => ?_)
                                                · refine J_sub [0, 1, 2, 3] rfl ?_
                                                  exact hj4 (X120, S122)
                                                · refine J_iconst hE (v := (0 : Int32)) dd_L_law_786 (by decide) ?_
                                                  exact J_zret hE (Or.inl rfl) dd_L_law_787 rfl rfl
                                              · refine J_ite (fun c124 => ?_) (fun c124 => ?_)
                                                · refine J_tsAt hE c124 (off := 756) (tgt := 788) dd_L_law_32 (by decide) (by decide) (by decide) (by decide) ?_
                                                  refine J_aload_n hE dd_L_law_788 1 rfl rfl ?_
                                                  refine J_aload_n hE dd_L_law_789 0 rfl rfl ?_
                                                  refine J_iload_n hE dd_L_law_790 3 rfl rfl ?_
                                                  refine J_iconst hE (v := (1 : Int32)) dd_L_law_791 (by decide) ?_
                                                  refine J_iadd hE dd_L_law_792 ?_
                                                  refine J_sld hE hsc dd_L_law_793 ?_
                                                  refine J_invVwi hE (e := fun X => (X, S3)) (As := [.int (xs (v1 + (1 : Int32)).toNatClampNeg)]) (st := []) (JC.lift_w (e := fun X => (X, S3)) (tX4_duty E.2.1 (hL.1 S3) X2 (xs (v1 + (1 : Int32)).toNatClampNeg)) rfl) ((hL.1 S3).rt.ob _) m_X4_duty rfl ml_RL_98 (Nat.le_of_ble_eq_true rfl) (Nat.le_of_ble_eq_true rfl) rfl (Nat.le_of_ble_eq_true rfl) dd_L_law_794 (fun q125 => ?_)
                                                  refine J_let1 (S := S3) (fun X126 => ?_)
                                                  refine J_aload_n hE dd_L_law_797 2 rfl rfl ?_
                                                  refine J_aload_n hE dd_L_law_798 0 rfl rfl ?_
                                                  refine J_iload_n hE dd_L_law_799 3 rfl rfl ?_
                                                  refine J_iconst hE (v := (1 : Int32)) dd_L_law_800 (by decide) ?_
                                                  refine J_iadd hE dd_L_law_801 ?_
                                                  refine J_sld hE hsc dd_L_law_802 ?_
                                                  refine J_invVwi hE (e := fun S => (X126, S)) (As := [.int (xs (v1 + (1 : Int32)).toNatClampNeg)]) (st := [.int q125.1]) (JC.lift_w (e := fun S => (X126, S)) (tX5_duty E.2.1 (hL.2 X126) S3 (xs (v1 + (1 : Int32)).toNatClampNeg)) rfl) ((hL.2 X126).ob _) m_X5_duty rfl ml_RL_101 (Nat.le_of_ble_eq_true rfl) (Nat.le_of_ble_eq_true rfl) rfl (Nat.le_of_ble_eq_true rfl) dd_L_law_803 (fun q127 => ?_)
                                                  refine J_let2 (T := X126) (fun S128 => ?_)
                                                  refine J_icmp_eq hE (tgt := 1393) dd_L_law_806 (by decide) (fun c129 => ?_) (fun c129 => ?_)
                                                  · refine J_sub [0, 1, 2, 3] rfl ?_
                                                    exact hj4 (X126, S128)
                                                  · refine J_iconst hE (v := (0 : Int32)) dd_L_law_809 (by decide) ?_
                                                    exact J_zret hE (Or.inl rfl) dd_L_law_810 rfl rfl
                                                · refine J_ite (fun c130 => ?_) (fun c130 => ?_)
                                                  · refine J_tsAt hE c130 (off := 779) (tgt := 811) dd_L_law_32 (by decide) (by decide) (by decide) (by decide) ?_
                                                    refine J_aload_n hE dd_L_law_811 1 rfl rfl ?_
                                                    refine J_aload_n hE dd_L_law_812 0 rfl rfl ?_
                                                    refine J_iload_n hE dd_L_law_813 3 rfl rfl ?_
                                                    refine J_iconst hE (v := (1 : Int32)) dd_L_law_814 (by decide) ?_
                                                    refine J_iadd hE dd_L_law_815 ?_
                                                    refine J_sld hE hsc dd_L_law_816 ?_
                                                    refine J_invVwi hE (e := fun X => (X, S3)) (As := [.int (xs (v1 + (1 : Int32)).toNatClampNeg)]) (st := []) (JC.lift_w (e := fun X => (X, S3)) (tX4_best E.2.1 (hL.1 S3) X2 (xs (v1 + (1 : Int32)).toNatClampNeg)) rfl) ((hL.1 S3).rt.ob _) m_X4_best rfl ml_RL_102 (Nat.le_of_ble_eq_true rfl) (Nat.le_of_ble_eq_true rfl) rfl (Nat.le_of_ble_eq_true rfl) dd_L_law_817 (fun q131 => ?_)
                                                    refine J_let1 (S := S3) (fun X132 => ?_)
                                                    refine J_aload_n hE dd_L_law_820 2 rfl rfl ?_
                                                    refine J_aload_n hE dd_L_law_821 0 rfl rfl ?_
                                                    refine J_iload_n hE dd_L_law_822 3 rfl rfl ?_
                                                    refine J_iconst hE (v := (1 : Int32)) dd_L_law_823 (by decide) ?_
                                                    refine J_iadd hE dd_L_law_824 ?_
                                                    refine J_sld hE hsc dd_L_law_825 ?_
                                                    refine J_invVwi hE (e := fun S => (X132, S)) (As := [.int (xs (v1 + (1 : Int32)).toNatClampNeg)]) (st := [.int q131.1]) (JC.lift_w (e := fun S => (X132, S)) (tX5_best E.2.1 (hL.2 X132) S3 (xs (v1 + (1 : Int32)).toNatClampNeg)) rfl) ((hL.2 X132).ob _) m_X5_best rfl ml_RL_105 (Nat.le_of_ble_eq_true rfl) (Nat.le_of_ble_eq_true rfl) rfl (Nat.le_of_ble_eq_true rfl) dd_L_law_826 (fun q133 => ?_)
                                                    refine J_let2 (T := X132) (fun S134 => ?_)
                                                    refine J_icmp_eq hE (tgt := 1393) dd_L_law_829 (by decide) (fun c135 => ?_) (fun c135 => ?_)
                                                    · refine J_sub [0, 1, 2, 3] rfl ?_
                                                      exact hj4 (X132, S134)
                                                    · refine J_iconst hE (v := (0 : Int32)) dd_L_law_832 (by decide) ?_
                                                      exact J_zret hE (Or.inl rfl) dd_L_law_833 rfl rfl
                                                  · refine J_ite (fun c136 => ?_) (fun c136 => ?_)
                                                    · refine J_tsAt hE c136 (off := 802) (tgt := 834) dd_L_law_32 (by decide) (by decide) (by decide) (by decide) ?_
                                                      refine J_aload_n hE dd_L_law_834 1 rfl rfl ?_
                                                      refine J_aload_n hE dd_L_law_835 0 rfl rfl ?_
                                                      refine J_iload_n hE dd_L_law_836 3 rfl rfl ?_
                                                      refine J_iconst hE (v := (1 : Int32)) dd_L_law_837 (by decide) ?_
                                                      refine J_iadd hE dd_L_law_838 ?_
                                                      refine J_sld hE hsc dd_L_law_839 ?_
                                                      refine J_invVwi hE (e := fun X => (X, S3)) (As := [.int (xs (v1 + (1 : Int32)).toNatClampNeg)]) (st := []) (JC.lift_w (e := fun X => (X, S3)) (tX4_guard E.2.1 (hL.1 S3) X2 (xs (v1 + (1 : Int32)).toNatClampNeg)) rfl) ((hL.1 S3).rt.ob _) m_X4_guard rfl ml_RL_106 (Nat.le_of_ble_eq_true rfl) (Nat.le_of_ble_eq_true rfl) rfl (Nat.le_of_ble_eq_true rfl) dd_L_law_840 (fun q137 => ?_)
                                                      refine J_let1 (S := S3) (fun X138 => ?_)
                                                      refine J_aload_n hE dd_L_law_843 2 rfl rfl ?_
                                                      refine J_aload_n hE dd_L_law_844 0 rfl rfl ?_
                                                      refine J_iload_n hE dd_L_law_845 3 rfl rfl ?_
                                                      refine J_iconst hE (v := (1 : Int32)) dd_L_law_846 (by decide) ?_
                                                      refine J_iadd hE dd_L_law_847 ?_
                                                      refine J_sld hE hsc dd_L_law_848 ?_
                                                      refine J_invVwi hE (e := fun S => (X138, S)) (As := [.int (xs (v1 + (1 : Int32)).toNatClampNeg)]) (st := [.int q137.1]) (JC.lift_w (e := fun S => (X138, S)) (tX5_guard E.2.1 (hL.2 X138) S3 (xs (v1 + (1 : Int32)).toNatClampNeg)) rfl) ((hL.2 X138).ob _) m_X5_guard rfl ml_RL_109 (Nat.le_of_ble_eq_true rfl) (Nat.le_of_ble_eq_true rfl) rfl (Nat.le_of_ble_eq_true rfl) dd_L_law_849 (fun q139 => ?_)
                                                      refine J_let2 (T := X138) (fun S140 => ?_)
                                                      refine J_icmp_eq hE (tgt := 1393) dd_L_law_852 (by decide) (fun c141 => ?_) (fun c141 => ?_)
                                                      · refine J_sub [0, 1, 2, 3] rfl ?_
                                                        exact hj4 (X138, S140)
                                                      · refine J_iconst hE (v := (0 : Int32)) dd_L_law_855 (by decide) ?_
                                                        exact J_zret hE (Or.inl rfl) dd_L_law_856 rfl rfl
                                                    · refine J_ite (fun c142 => ?_) (fun c142 => ?_)
                                                      · refine J_tsAt hE c142 (off := 825) (tgt := 857) dd_L_law_32 (by decide) (by decide) (by decide) (by decide) ?_
                                                        refine J_aload_n hE dd_L_law_857 1 rfl rfl ?_
                                                        refine J_aload_n hE dd_L_law_858 0 rfl rfl ?_
                                                        refine J_iload_n hE dd_L_law_859 3 rfl rfl ?_
                                                        refine J_iconst hE (v := (1 : Int32)) dd_L_law_860 (by decide) ?_
                                                        refine J_iadd hE dd_L_law_861 ?_
                                                        refine J_sld hE hsc dd_L_law_862 ?_
                                                        refine J_aload_n hE dd_L_law_863 0 rfl rfl ?_
                                                        refine J_iload_n hE dd_L_law_864 3 rfl rfl ?_
                                                        refine J_iconst hE (v := (2 : Int32)) dd_L_law_865 (by decide) ?_
                                                        refine J_iadd hE dd_L_law_866 ?_
                                                        refine J_sld hE hsc dd_L_law_867 ?_
                                                        refine J_invVwi hE (e := fun X => (X, S3)) (As := [.int (xs (v1 + (1 : Int32)).toNatClampNeg), .int (xs (v1 + (2 : Int32)).toNatClampNeg)]) (st := []) (JC.lift_w (e := fun X => (X, S3)) (tX4_send E.2.1 (hL.1 S3) X2 (xs (v1 + (1 : Int32)).toNatClampNeg) (xs (v1 + (2 : Int32)).toNatClampNeg)) rfl) ((hL.1 S3).rt.ob _) m_X4_send rfl ml_RL_110 (Nat.le_of_ble_eq_true rfl) (Nat.le_of_ble_eq_true rfl) rfl (Nat.le_of_ble_eq_true rfl) dd_L_law_868 (fun q143 => ?_)
                                                        refine J_let1 (S := S3) (fun X144 => ?_)
                                                        refine J_aload_n hE dd_L_law_871 2 rfl rfl ?_
                                                        refine J_aload_n hE dd_L_law_872 0 rfl rfl ?_
                                                        refine J_iload_n hE dd_L_law_873 3 rfl rfl ?_
                                                        refine J_iconst hE (v := (1 : Int32)) dd_L_law_874 (by decide) ?_
                                                        refine J_iadd hE dd_L_law_875 ?_
                                                        refine J_sld hE hsc dd_L_law_876 ?_
                                                        refine J_aload_n hE dd_L_law_877 0 rfl rfl ?_
                                                        refine J_iload_n hE dd_L_law_878 3 rfl rfl ?_
                                                        refine J_iconst hE (v := (2 : Int32)) dd_L_law_879 (by decide) ?_
                                                        refine J_iadd hE dd_L_law_880 ?_
                                                        refine J_sld hE hsc dd_L_law_881 ?_
                                                        refine J_invVwi hE (e := fun S => (X144, S)) (As := [.int (xs (v1 + (1 : Int32)).toNatClampNeg), .int (xs (v1 + (2 : Int32)).toNatClampNeg)]) (st := [.int q143.1]) (JC.lift_w (e := fun S => (X144, S)) (tX5_send E.2.1 (hL.2 X144) S3 (xs (v1 + (1 : Int32)).toNatClampNeg) (xs (v1 + (2 : Int32)).toNatClampNeg)) rfl) ((hL.2 X144).ob _) m_X5_send rfl ml_RL_113 (Nat.le_of_ble_eq_true rfl) (Nat.le_of_ble_eq_true rfl) rfl (Nat.le_of_ble_eq_true rfl) dd_L_law_882 (fun q145 => ?_)
                                                        refine J_let2 (T := X144) (fun S146 => ?_)
                                                        refine J_icmp_eq hE (tgt := 1393) dd_L_law_885 (by decide) (fun c147 => ?_) (fun c147 => ?_)
                                                        · refine J_sub [0, 1, 2, 3] rfl ?_
                                                          exact hj4 (X144, S146)
                                                        · refine J_iconst hE (v := (0 : Int32)) dd_L_law_888 (by decide) ?_
                                                          exact J_zret hE (Or.inl rfl) dd_L_law_889 rfl rfl
                                                      · refine J_ite (fun c148 => ?_) (fun c148 => ?_)
                                                        · refine J_tsAt hE c148 (off := 858) (tgt := 890) dd_L_law_32 (by decide) (by decide) (by decide) (by decide) ?_
                                                          refine J_aload_n hE dd_L_law_890 1 rfl rfl ?_
                                                          refine J_aload_n hE dd_L_law_891 0 rfl rfl ?_
                                                          refine J_iload_n hE dd_L_law_892 3 rfl rfl ?_
                                                          refine J_iconst hE (v := (1 : Int32)) dd_L_law_893 (by decide) ?_
                                                          refine J_iadd hE dd_L_law_894 ?_
                                                          refine J_sld hE hsc dd_L_law_895 ?_
                                                          refine J_invVwi hE (e := fun X => (X, S3)) (As := [.int (xs (v1 + (1 : Int32)).toNatClampNeg)]) (st := []) (JC.lift_w (e := fun X => (X, S3)) (tX4_raise E.2.1 (hL.1 S3) X2 (xs (v1 + (1 : Int32)).toNatClampNeg)) rfl) ((hL.1 S3).rt.ob _) m_X4_raise rfl ml_RL_114 (Nat.le_of_ble_eq_true rfl) (Nat.le_of_ble_eq_true rfl) rfl (Nat.le_of_ble_eq_true rfl) dd_L_law_896 (fun q149 => ?_)
                                                          refine J_let1 (S := S3) (fun X150 => ?_)
                                                          refine J_aload_n hE dd_L_law_899 2 rfl rfl ?_
                                                          refine J_aload_n hE dd_L_law_900 0 rfl rfl ?_
                                                          refine J_iload_n hE dd_L_law_901 3 rfl rfl ?_
                                                          refine J_iconst hE (v := (1 : Int32)) dd_L_law_902 (by decide) ?_
                                                          refine J_iadd hE dd_L_law_903 ?_
                                                          refine J_sld hE hsc dd_L_law_904 ?_
                                                          refine J_invVwi hE (e := fun S => (X150, S)) (As := [.int (xs (v1 + (1 : Int32)).toNatClampNeg)]) (st := [.int q149.1]) (JC.lift_w (e := fun S => (X150, S)) (tX5_raise E.2.1 (hL.2 X150) S3 (xs (v1 + (1 : Int32)).toNatClampNeg)) rfl) ((hL.2 X150).ob _) m_X5_raise rfl ml_RL_117 (Nat.le_of_ble_eq_true rfl) (Nat.le_of_ble_eq_true rfl) rfl (Nat.le_of_ble_eq_true rfl) dd_L_law_905 (fun q151 => ?_)
                                                          refine J_let2 (T := X150) (fun S152 => ?_)
                                                          refine J_icmp_eq hE (tgt := 1393) dd_L_law_908 (by decide) (fun c153 => ?_) (fun c153 => ?_)
                                                          · refine J_sub [0, 1, 2, 3] rfl ?_
                                                            exact hj4 (X150, S152)
                                                          · refine J_iconst hE (v := (0 : Int32)) dd_L_law_911 (by decide) ?_
                                                            exact J_zret hE (Or.inl rfl) dd_L_law_912 rfl rfl
                                                        · refine J_ite (fun c154 => ?_) (fun c154 => ?_)
                                                          · refine J_tsAt hE c154 (off := 881) (tgt := 913) dd_L_law_32 (by decide) (by decide) (by decide) (by decide) ?_
                                                            refine J_aload_n hE dd_L_law_913 1 rfl rfl ?_
                                                            refine J_aload_n hE dd_L_law_914 0 rfl rfl ?_
                                                            refine J_iload_n hE dd_L_law_915 3 rfl rfl ?_
                                                            refine J_iconst hE (v := (1 : Int32)) dd_L_law_916 (by decide) ?_
                                                            refine J_iadd hE dd_L_law_917 ?_
                                                            refine J_sld hE hsc dd_L_law_918 ?_
                                                            refine J_aload_n hE dd_L_law_919 0 rfl rfl ?_
                                                            refine J_iload_n hE dd_L_law_920 3 rfl rfl ?_
                                                            refine J_iconst hE (v := (2 : Int32)) dd_L_law_921 (by decide) ?_
                                                            refine J_iadd hE dd_L_law_922 ?_
                                                            refine J_sld hE hsc dd_L_law_923 ?_
                                                            refine J_invVwl hE (e := fun X => (X, S3)) (As := [.int (xs (v1 + (1 : Int32)).toNatClampNeg), .int (xs (v1 + (2 : Int32)).toNatClampNeg)]) (st := []) (JC.lift_w (e := fun X => (X, S3)) (tX4_mean E.2.1 (hL.1 S3) X2 (xs (v1 + (1 : Int32)).toNatClampNeg) (xs (v1 + (2 : Int32)).toNatClampNeg)) rfl) ((hL.1 S3).rt.ob _) m_X4_mean rfl ml_RL_118 (Nat.le_of_ble_eq_true rfl) (Nat.le_of_ble_eq_true rfl) rfl (Nat.le_of_ble_eq_true rfl) dd_L_law_924 (fun q155 => ?_)
                                                            refine J_let1 (S := S3) (fun X156 => ?_)
                                                            refine J_aload_n hE dd_L_law_927 2 rfl rfl ?_
                                                            refine J_aload_n hE dd_L_law_928 0 rfl rfl ?_
                                                            refine J_iload_n hE dd_L_law_929 3 rfl rfl ?_
                                                            refine J_iconst hE (v := (1 : Int32)) dd_L_law_930 (by decide) ?_
                                                            refine J_iadd hE dd_L_law_931 ?_
                                                            refine J_sld hE hsc dd_L_law_932 ?_
                                                            refine J_aload_n hE dd_L_law_933 0 rfl rfl ?_
                                                            refine J_iload_n hE dd_L_law_934 3 rfl rfl ?_
                                                            refine J_iconst hE (v := (2 : Int32)) dd_L_law_935 (by decide) ?_
                                                            refine J_iadd hE dd_L_law_936 ?_
                                                            refine J_sld hE hsc dd_L_law_937 ?_
                                                            refine J_invVwl hE (e := fun S => (X156, S)) (As := [.int (xs (v1 + (1 : Int32)).toNatClampNeg), .int (xs (v1 + (2 : Int32)).toNatClampNeg)]) (st := [.long q155.1]) (JC.lift_w (e := fun S => (X156, S)) (tX5_mean E.2.1 (hL.2 X156) S3 (xs (v1 + (1 : Int32)).toNatClampNeg) (xs (v1 + (2 : Int32)).toNatClampNeg)) rfl) ((hL.2 X156).ob _) m_X5_mean rfl ml_RL_122 (Nat.le_of_ble_eq_true rfl) (Nat.le_of_ble_eq_true rfl) rfl (Nat.le_of_ble_eq_true rfl) dd_L_law_938 (fun q157 => ?_)
                                                            refine J_let2 (T := X156) (fun S158 => ?_)
                                                            refine J_lcmp hE dd_L_law_941 ?_
                                                            refine J_if_eq hE (tgt := 1393) dd_L_law_942 (by decide) (fun c159 => ?_) (fun c159 => ?_)
                                                            · refine J_sub [0, 1, 2, 3] rfl ?_
                                                              exact hj4 (X156, S158)
                                                            · refine J_iconst hE (v := (0 : Int32)) dd_L_law_945 (by decide) ?_
                                                              exact J_zret hE (Or.inl rfl) dd_L_law_946 rfl rfl
                                                          · refine J_ite (fun c160 => ?_) (fun c160 => ?_)
                                                            · refine J_tsAt hE c160 (off := 915) (tgt := 947) dd_L_law_32 (by decide) (by decide) (by decide) (by decide) ?_
                                                              refine J_aload_n hE dd_L_law_947 1 rfl rfl ?_
                                                              refine J_aload_n hE dd_L_law_948 0 rfl rfl ?_
                                                              refine J_iload_n hE dd_L_law_949 3 rfl rfl ?_
                                                              refine J_iconst hE (v := (1 : Int32)) dd_L_law_950 (by decide) ?_
                                                              refine J_iadd hE dd_L_law_951 ?_
                                                              refine J_sld hE hsc dd_L_law_952 ?_
                                                              refine J_aload_n hE dd_L_law_953 0 rfl rfl ?_
                                                              refine J_iload_n hE dd_L_law_954 3 rfl rfl ?_
                                                              refine J_iconst hE (v := (2 : Int32)) dd_L_law_955 (by decide) ?_
                                                              refine J_iadd hE dd_L_law_956 ?_
                                                              refine J_sld hE hsc dd_L_law_957 ?_
                                                              refine J_aload_n hE dd_L_law_958 0 rfl rfl ?_
                                                              refine J_iload_n hE dd_L_law_959 3 rfl rfl ?_
                                                              refine J_iconst hE (v := (3 : Int32)) dd_L_law_960 (by decide) ?_
                                                              refine J_iadd hE dd_L_law_961 ?_
                                                              refine J_sld hE hsc dd_L_law_962 ?_
                                                              refine J_invVwl hE (e := fun X => (X, S3)) (As := [.int (xs (v1 + (1 : Int32)).toNatClampNeg), .int (xs (v1 + (2 : Int32)).toNatClampNeg), .int (xs (v1 + (3 : Int32)).toNatClampNeg)]) (st := []) (JC.lift_w (e := fun X => (X, S3)) (tX4_luck E.2.1 (hL.1 S3) X2 (xs (v1 + (1 : Int32)).toNatClampNeg) (xs (v1 + (2 : Int32)).toNatClampNeg) (xs (v1 + (3 : Int32)).toNatClampNeg)) rfl) ((hL.1 S3).rt.ob _) m_X4_luck rfl ml_RL_123 (Nat.le_of_ble_eq_true rfl) (Nat.le_of_ble_eq_true rfl) rfl (Nat.le_of_ble_eq_true rfl) dd_L_law_963 (fun q161 => ?_)
                                                              refine J_let1 (S := S3) (fun X162 => ?_)
                                                              refine J_aload_n hE dd_L_law_966 2 rfl rfl ?_
                                                              refine J_aload_n hE dd_L_law_967 0 rfl rfl ?_
                                                              refine J_iload_n hE dd_L_law_968 3 rfl rfl ?_
                                                              refine J_iconst hE (v := (1 : Int32)) dd_L_law_969 (by decide) ?_
                                                              refine J_iadd hE dd_L_law_970 ?_
                                                              refine J_sld hE hsc dd_L_law_971 ?_
                                                              refine J_aload_n hE dd_L_law_972 0 rfl rfl ?_
                                                              refine J_iload_n hE dd_L_law_973 3 rfl rfl ?_
                                                              refine J_iconst hE (v := (2 : Int32)) dd_L_law_974 (by decide) ?_
                                                              refine J_iadd hE dd_L_law_975 ?_
                                                              refine J_sld hE hsc dd_L_law_976 ?_
                                                              refine J_aload_n hE dd_L_law_977 0 rfl rfl ?_
                                                              refine J_iload_n hE dd_L_law_978 3 rfl rfl ?_
                                                              refine J_iconst hE (v := (3 : Int32)) dd_L_law_979 (by decide) ?_
                                                              refine J_iadd hE dd_L_law_980 ?_
                                                              refine J_sld hE hsc dd_L_law_981 ?_
                                                              refine J_invVwl hE (e := fun S => (X162, S)) (As := [.int (xs (v1 + (1 : Int32)).toNatClampNeg), .int (xs (v1 + (2 : Int32)).toNatClampNeg), .int (xs (v1 + (3 : Int32)).toNatClampNeg)]) (st := [.long q161.1]) (JC.lift_w (e := fun S => (X162, S)) (tX5_luck E.2.1 (hL.2 X162) S3 (xs (v1 + (1 : Int32)).toNatClampNeg) (xs (v1 + (2 : Int32)).toNatClampNeg) (xs (v1 + (3 : Int32)).toNatClampNeg)) rfl) ((hL.2 X162).ob _) m_X5_luck rfl ml_RL_127 (Nat.le_of_ble_eq_true rfl) (Nat.le_of_ble_eq_true rfl) rfl (Nat.le_of_ble_eq_true rfl) dd_L_law_982 (fun q163 => ?_)
                                                              refine J_let2 (T := X162) (fun S164 => ?_)
                                                              refine J_lcmp hE dd_L_law_985 ?_
                                                              refine J_if_eq hE (tgt := 1393) dd_L_law_986 (by decide) (fun c165 => ?_) (fun c165 => ?_)
                                                              · refine J_sub [0, 1, 2, 3] rfl ?_
                                                                exact hj4 (X162, S164)
                                                              · refine J_iconst hE (v := (0 : Int32)) dd_L_law_989 (by decide) ?_
                                                                exact J_zret hE (Or.inl rfl) dd_L_law_990 rfl rfl
                                                            · refine J_ite (fun c166 => ?_) (fun c166 => ?_)
                                                              · refine J_tsAt hE c166 (off := 959) (tgt := 991) dd_L_law_32 (by decide) (by decide) (by decide) (by decide) ?_
                                                                refine J_aload_n hE dd_L_law_991 1 rfl rfl ?_
                                                                refine J_aload_n hE dd_L_law_992 0 rfl rfl ?_
                                                                refine J_iload_n hE dd_L_law_993 3 rfl rfl ?_
                                                                refine J_iconst hE (v := (1 : Int32)) dd_L_law_994 (by decide) ?_
                                                                refine J_iadd hE dd_L_law_995 ?_
                                                                refine J_sld hE hsc dd_L_law_996 ?_
                                                                refine J_aload_n hE dd_L_law_997 0 rfl rfl ?_
                                                                refine J_iload_n hE dd_L_law_998 3 rfl rfl ?_
                                                                refine J_iconst hE (v := (2 : Int32)) dd_L_law_999 (by decide) ?_
                                                                refine J_iadd hE dd_L_law_1000 ?_
                                                                refine J_sld hE hsc dd_L_law_1001 ?_
                                                                refine J_invVwi hE (e := fun X => (X, S3)) (As := [.int (xs (v1 + (1 : Int32)).toNatClampNeg), .int (xs (v1 + (2 : Int32)).toNatClampNeg)]) (st := []) (JC.lift_w (e := fun X => (X, S3)) (tX4_see E.2.1 (hL.1 S3) X2 (xs (v1 + (1 : Int32)).toNatClampNeg) (xs (v1 + (2 : Int32)).toNatClampNeg)) rfl) ((hL.1 S3).rt.ob _) m_X4_see rfl ml_RL_128 (Nat.le_of_ble_eq_true rfl) (Nat.le_of_ble_eq_true rfl) rfl (Nat.le_of_ble_eq_true rfl) dd_L_law_1002 (fun q167 => ?_)
                                                                refine J_let1 (S := S3) (fun X168 => ?_)
                                                                refine J_aload_n hE dd_L_law_1005 2 rfl rfl ?_
                                                                refine J_aload_n hE dd_L_law_1006 0 rfl rfl ?_
                                                                refine J_iload_n hE dd_L_law_1007 3 rfl rfl ?_
                                                                refine J_iconst hE (v := (1 : Int32)) dd_L_law_1008 (by decide) ?_
                                                                refine J_iadd hE dd_L_law_1009 ?_
                                                                refine J_sld hE hsc dd_L_law_1010 ?_
                                                                refine J_aload_n hE dd_L_law_1011 0 rfl rfl ?_
                                                                refine J_iload_n hE dd_L_law_1012 3 rfl rfl ?_
                                                                refine J_iconst hE (v := (2 : Int32)) dd_L_law_1013 (by decide) ?_
                                                                refine J_iadd hE dd_L_law_1014 ?_
                                                                refine J_sld hE hsc dd_L_law_1015 ?_
                                                                refine J_invVwi hE (e := fun S => (X168, S)) (As := [.int (xs (v1 + (1 : Int32)).toNatClampNeg), .int (xs (v1 + (2 : Int32)).toNatClampNeg)]) (st := [.int q167.1]) (JC.lift_w (e := fun S => (X168, S)) (tX5_see E.2.1 (hL.2 X168) S3 (xs (v1 + (1 : Int32)).toNatClampNeg) (xs (v1 + (2 : Int32)).toNatClampNeg)) rfl) ((hL.2 X168).ob _) m_X5_see rfl ml_RL_131 (Nat.le_of_ble_eq_true rfl) (Nat.le_of_ble_eq_true rfl) rfl (Nat.le_of_ble_eq_true rfl) dd_L_law_1016 (fun q169 => ?_)
                                                                refine J_let2 (T := X168) (fun S170 => ?_)
                                                                refine J_icmp_eq hE (tgt := 1393) dd_L_law_1019 (by decide) (fun c171 => ?_) (fun c171 => ?_)
                                                                · refine J_sub [0, 1, 2, 3] rfl ?_
                                                                  exact hj4 (X168, S170)
                                                                · refine J_iconst hE (v := (0 : Int32)) dd_L_law_1022 (by decide) ?_
                                                                  exact J_zret hE (Or.inl rfl) dd_L_law_1023 rfl rfl
                                                              · refine J_ite (fun c172 => ?_) (fun c172 => ?_)
                                                                · refine J_tsAt hE c172 (off := 992) (tgt := 1024) dd_L_law_32 (by decide) (by decide) (by decide) (by decide) ?_
                                                                  refine J_aload_n hE dd_L_law_1024 1 rfl rfl ?_
                                                                  refine J_aload_n hE dd_L_law_1025 0 rfl rfl ?_
                                                                  refine J_iload_n hE dd_L_law_1026 3 rfl rfl ?_
                                                                  refine J_iconst hE (v := (1 : Int32)) dd_L_law_1027 (by decide) ?_
                                                                  refine J_iadd hE dd_L_law_1028 ?_
                                                                  refine J_sld hE hsc dd_L_law_1029 ?_
                                                                  refine J_invVwi hE (e := fun X => (X, S3)) (As := [.int (xs (v1 + (1 : Int32)).toNatClampNeg)]) (st := []) (JC.lift_w (e := fun X => (X, S3)) (tX4_forget E.2.1 (hL.1 S3) X2 (xs (v1 + (1 : Int32)).toNatClampNeg)) rfl) ((hL.1 S3).rt.ob _) m_X4_forget rfl ml_RL_132 (Nat.le_of_ble_eq_true rfl) (Nat.le_of_ble_eq_true rfl) rfl (Nat.le_of_ble_eq_true rfl) dd_L_law_1030 (fun q173 => ?_)
                                                                  refine J_let1 (S := S3) (fun X174 => ?_)
                                                                  refine J_aload_n hE dd_L_law_1033 2 rfl rfl ?_
                                                                  refine J_aload_n hE dd_L_law_1034 0 rfl rfl ?_
                                                                  refine J_iload_n hE dd_L_law_1035 3 rfl rfl ?_
                                                                  refine J_iconst hE (v := (1 : Int32)) dd_L_law_1036 (by decide) ?_
                                                                  refine J_iadd hE dd_L_law_1037 ?_
                                                                  refine J_sld hE hsc dd_L_law_1038 ?_
                                                                  refine J_invVwi hE (e := fun S => (X174, S)) (As := [.int (xs (v1 + (1 : Int32)).toNatClampNeg)]) (st := [.int q173.1]) (JC.lift_w (e := fun S => (X174, S)) (tX5_forget E.2.1 (hL.2 X174) S3 (xs (v1 + (1 : Int32)).toNatClampNeg)) rfl) ((hL.2 X174).ob _) m_X5_forget rfl ml_RL_135 (Nat.le_of_ble_eq_true rfl) (Nat.le_of_ble_eq_true rfl) rfl (Nat.le_of_ble_eq_true rfl) dd_L_law_1039 (fun q175 => ?_)
                                                                  refine J_let2 (T := X174) (fun S176 => ?_)
                                                                  refine J_icmp_eq hE (tgt := 1393) dd_L_law_1042 (by decide) (fun c177 => ?_) (fun c177 => ?_)
                                                                  · refine J_sub [0, 1, 2, 3] rfl ?_
                                                                    exact hj4 (X174, S176)
                                                                  · refine J_iconst hE (v := (0 : Int32)) dd_L_law_1045 (by decide) ?_
                                                                    exact J_zret hE (Or.inl rfl) dd_L_law_1046 rfl rfl
                                                                · refine J_ite (fun c178 => ?_) (fun c178 => ?_)
                                                                  · refine J_tsAt hE c178 (off := 1015) (tgt := 1047) dd_L_law_32 (by decide) (by decide) (by decide) (by decide) ?_
                                                                    refine J_aload_n hE dd_L_law_1047 1 rfl rfl ?_
                                                                    refine J_aload_n hE dd_L_law_1048 0 rfl rfl ?_
                                                                    refine J_iload_n hE dd_L_law_1049 3 rfl rfl ?_
                                                                    refine J_iconst hE (v := (1 : Int32)) dd_L_law_1050 (by decide) ?_
                                                                    refine J_iadd hE dd_L_law_1051 ?_
                                                                    refine J_sld hE hsc dd_L_law_1052 ?_
                                                                    refine J_invVwi hE (e := fun X => (X, S3)) (As := [.int (xs (v1 + (1 : Int32)).toNatClampNeg)]) (st := []) (JC.lift_w (e := fun X => (X, S3)) (tX4_tastes E.2.1 (hL.1 S3) X2 (xs (v1 + (1 : Int32)).toNatClampNeg)) rfl) ((hL.1 S3).rt.ob _) m_X4_tastes rfl ml_RL_136 (Nat.le_of_ble_eq_true rfl) (Nat.le_of_ble_eq_true rfl) rfl (Nat.le_of_ble_eq_true rfl) dd_L_law_1053 (fun q179 => ?_)
                                                                    refine J_let1 (S := S3) (fun X180 => ?_)
                                                                    refine J_aload_n hE dd_L_law_1056 2 rfl rfl ?_
                                                                    refine J_aload_n hE dd_L_law_1057 0 rfl rfl ?_
                                                                    refine J_iload_n hE dd_L_law_1058 3 rfl rfl ?_
                                                                    refine J_iconst hE (v := (1 : Int32)) dd_L_law_1059 (by decide) ?_
                                                                    refine J_iadd hE dd_L_law_1060 ?_
                                                                    refine J_sld hE hsc dd_L_law_1061 ?_
                                                                    refine J_invVwi hE (e := fun S => (X180, S)) (As := [.int (xs (v1 + (1 : Int32)).toNatClampNeg)]) (st := [.int q179.1]) (JC.lift_w (e := fun S => (X180, S)) (tX5_tastes E.2.1 (hL.2 X180) S3 (xs (v1 + (1 : Int32)).toNatClampNeg)) rfl) ((hL.2 X180).ob _) m_X5_tastes rfl ml_RL_139 (Nat.le_of_ble_eq_true rfl) (Nat.le_of_ble_eq_true rfl) rfl (Nat.le_of_ble_eq_true rfl) dd_L_law_1062 (fun q181 => ?_)
                                                                    refine J_let2 (T := X180) (fun S182 => ?_)
                                                                    refine J_icmp_eq hE (tgt := 1393) dd_L_law_1065 (by decide) (fun c183 => ?_) (fun c183 => ?_)
                                                                    · refine J_sub [0, 1, 2, 3] rfl ?_
                                                                      exact hj4 (X180, S182)
                                                                    · refine J_iconst hE (v := (0 : Int32)) dd_L_law_1068 (by decide) ?_
                                                                      exact J_zret hE (Or.inl rfl) dd_L_law_1069 rfl rfl
                                                                  · refine J_ite (fun c184 => ?_) (fun c184 => ?_)
                                                                    · refine J_tsAt hE c184 (off := 1038) (tgt := 1070) dd_L_law_32 (by decide) (by decide) (by decide) (by decide) ?_
                                                                      refine J_aload_n hE dd_L_law_1070 1 rfl rfl ?_
                                                                      refine J_invVwi hE (e := fun X => (X, S3)) (As := []) (st := []) (JC.lift_w (e := fun X => (X, S3)) (tX4_bought E.2.1 (hL.1 S3) X2 ) rfl) ((hL.1 S3).rt.ob _) m_X4_bought rfl ml_RL_140 (Nat.le_of_ble_eq_true rfl) (Nat.le_of_ble_eq_true rfl) rfl (Nat.le_of_ble_eq_true rfl) dd_L_law_1071 (fun q185 => ?_)
                                                                      refine J_let1 (S := S3) (fun X186 => ?_)
                                                                      refine J_aload_n hE dd_L_law_1074 2 rfl rfl ?_
                                                                      refine J_invVwi hE (e := fun S => (X186, S)) (As := []) (st := [.int q185.1]) (JC.lift_w (e := fun S => (X186, S)) (tX5_bought E.2.1 (hL.2 X186) S3 ) rfl) ((hL.2 X186).ob _) m_X5_bought rfl ml_RL_143 (Nat.le_of_ble_eq_true rfl) (Nat.le_of_ble_eq_true rfl) rfl (Nat.le_of_ble_eq_true rfl) dd_L_law_1075 (fun q187 => ?_)
                                                                      refine J_let2 (T := X186) (fun S188 => ?_)
                                                                      refine J_icmp_eq hE (tgt := 1393) dd_L_law_1078 (by decide) (fun c189 => ?_) (fun c189 => ?_)
                                                                      · refine J_sub [0, 1, 2, 3] rfl ?_
                                                                        exact hj4 (X186, S188)
                                                                      · refine J_iconst hE (v := (0 : Int32)) dd_L_law_1081 (by decide) ?_
                                                                        exact J_zret hE (Or.inl rfl) dd_L_law_1082 rfl rfl
                                                                    · refine J_ite (fun c190 => ?_) (fun c190 => ?_)
                                                                      · refine J_tsAt hE c190 (off := 1051) (tgt := 1083) dd_L_law_32 (by decide) (by decide) (by decide) (by decide) ?_
                                                                        refine J_aload_n hE dd_L_law_1083 1 rfl rfl ?_
                                                                        refine J_aload_n hE dd_L_law_1084 0 rfl rfl ?_
                                                                        refine J_iload_n hE dd_L_law_1085 3 rfl rfl ?_
                                                                        refine J_iconst hE (v := (1 : Int32)) dd_L_law_1086 (by decide) ?_
                                                                        refine J_iadd hE dd_L_law_1087 ?_
                                                                        refine J_sld hE hsc dd_L_law_1088 ?_
                                                                        refine J_invVwi hE (e := fun X => (X, S3)) (As := [.int (xs (v1 + (1 : Int32)).toNatClampNeg)]) (st := []) (JC.lift_w (e := fun X => (X, S3)) (tX4_pricked E.2.1 (hL.1 S3) X2 (xs (v1 + (1 : Int32)).toNatClampNeg)) rfl) ((hL.1 S3).rt.ob _) m_X4_pricked rfl ml_RL_144 (Nat.le_of_ble_eq_true rfl) (Nat.le_of_ble_eq_true rfl) rfl (Nat.le_of_ble_eq_true rfl) dd_L_law_1089 (fun q191 => ?_)
                                                                        refine J_let1 (S := S3) (fun X192 => ?_)
                                                                        refine J_aload_n hE dd_L_law_1092 2 rfl rfl ?_
                                                                        refine J_aload_n hE dd_L_law_1093 0 rfl rfl ?_
                                                                        refine J_iload_n hE dd_L_law_1094 3 rfl rfl ?_
                                                                        refine J_iconst hE (v := (1 : Int32)) dd_L_law_1095 (by decide) ?_
                                                                        refine J_iadd hE dd_L_law_1096 ?_
                                                                        refine J_sld hE hsc dd_L_law_1097 ?_
                                                                        refine J_invVwi hE (e := fun S => (X192, S)) (As := [.int (xs (v1 + (1 : Int32)).toNatClampNeg)]) (st := [.int q191.1]) (JC.lift_w (e := fun S => (X192, S)) (tX5_pricked E.2.1 (hL.2 X192) S3 (xs (v1 + (1 : Int32)).toNatClampNeg)) rfl) ((hL.2 X192).ob _) m_X5_pricked rfl ml_RL_147 (Nat.le_of_ble_eq_true rfl) (Nat.le_of_ble_eq_true rfl) rfl (Nat.le_of_ble_eq_true rfl) dd_L_law_1098 (fun q193 => ?_)
                                                                        refine J_let2 (T := X192) (fun S194 => ?_)
                                                                        refine J_icmp_eq hE (tgt := 1393) dd_L_law_1101 (by decide) (fun c195 => ?_) (fun c195 => ?_)
                                                                        · refine J_sub [0, 1, 2, 3] rfl ?_
                                                                          exact hj4 (X192, S194)
                                                                        · refine J_iconst hE (v := (0 : Int32)) dd_L_law_1104 (by decide) ?_
                                                                          exact J_zret hE (Or.inl rfl) dd_L_law_1105 rfl rfl
                                                                      · refine J_ite (fun c196 => ?_) (fun c196 => ?_)
                                                                        · refine J_tsAt hE c196 (off := 1074) (tgt := 1106) dd_L_law_32 (by decide) (by decide) (by decide) (by decide) ?_
                                                                          refine J_aload_n hE dd_L_law_1106 1 rfl rfl ?_
                                                                          refine J_aload_n hE dd_L_law_1107 0 rfl rfl ?_
                                                                          refine J_iload_n hE dd_L_law_1108 3 rfl rfl ?_
                                                                          refine J_iconst hE (v := (1 : Int32)) dd_L_law_1109 (by decide) ?_
                                                                          refine J_iadd hE dd_L_law_1110 ?_
                                                                          refine J_sld hE hsc dd_L_law_1111 ?_
                                                                          refine J_invVwi hE (e := fun X => (X, S3)) (As := [.int (xs (v1 + (1 : Int32)).toNatClampNeg)]) (st := []) (JC.lift_w (e := fun X => (X, S3)) (tX4_lain E.2.1 (hL.1 S3) X2 (xs (v1 + (1 : Int32)).toNatClampNeg)) rfl) ((hL.1 S3).rt.ob _) m_X4_lain rfl ml_RL_148 (Nat.le_of_ble_eq_true rfl) (Nat.le_of_ble_eq_true rfl) rfl (Nat.le_of_ble_eq_true rfl) dd_L_law_1112 (fun q197 => ?_)
                                                                          refine J_let1 (S := S3) (fun X198 => ?_)
                                                                          refine J_aload_n hE dd_L_law_1115 2 rfl rfl ?_
                                                                          refine J_aload_n hE dd_L_law_1116 0 rfl rfl ?_
                                                                          refine J_iload_n hE dd_L_law_1117 3 rfl rfl ?_
                                                                          refine J_iconst hE (v := (1 : Int32)) dd_L_law_1118 (by decide) ?_
                                                                          refine J_iadd hE dd_L_law_1119 ?_
                                                                          refine J_sld hE hsc dd_L_law_1120 ?_
                                                                          refine J_invVwi hE (e := fun S => (X198, S)) (As := [.int (xs (v1 + (1 : Int32)).toNatClampNeg)]) (st := [.int q197.1]) (JC.lift_w (e := fun S => (X198, S)) (tX5_lain E.2.1 (hL.2 X198) S3 (xs (v1 + (1 : Int32)).toNatClampNeg)) rfl) ((hL.2 X198).ob _) m_X5_lain rfl ml_RL_151 (Nat.le_of_ble_eq_true rfl) (Nat.le_of_ble_eq_true rfl) rfl (Nat.le_of_ble_eq_true rfl) dd_L_law_1121 (fun q199 => ?_)
                                                                          refine J_let2 (T := X198) (fun S200 => ?_)
                                                                          refine J_icmp_eq hE (tgt := 1393) dd_L_law_1124 (by decide) (fun c201 => ?_) (fun c201 => ?_)
                                                                          · refine J_sub [0, 1, 2, 3] rfl ?_
                                                                            exact hj4 (X198, S200)
                                                                          · refine J_iconst hE (v := (0 : Int32)) dd_L_law_1127 (by decide) ?_
                                                                            exact J_zret hE (Or.inl rfl) dd_L_law_1128 rfl rfl
                                                                        · refine J_ite (fun c202 => ?_) (fun c202 => ?_)
                                                                          · refine J_tsAt hE c202 (off := 1097) (tgt := 1129) dd_L_law_32 (by decide) (by decide) (by decide) (by decide) ?_
                                                                            refine J_aload_n hE dd_L_law_1129 1 rfl rfl ?_
                                                                            refine J_aload_n hE dd_L_law_1130 0 rfl rfl ?_
                                                                            refine J_iload_n hE dd_L_law_1131 3 rfl rfl ?_
                                                                            refine J_iconst hE (v := (1 : Int32)) dd_L_law_1132 (by decide) ?_
                                                                            refine J_iadd hE dd_L_law_1133 ?_
                                                                            refine J_sld hE hsc dd_L_law_1134 ?_
                                                                            refine J_aload_n hE dd_L_law_1135 0 rfl rfl ?_
                                                                            refine J_iload_n hE dd_L_law_1136 3 rfl rfl ?_
                                                                            refine J_iconst hE (v := (2 : Int32)) dd_L_law_1137 (by decide) ?_
                                                                            refine J_iadd hE dd_L_law_1138 ?_
                                                                            refine J_sld hE hsc dd_L_law_1139 ?_
                                                                            refine J_aload_n hE dd_L_law_1140 0 rfl rfl ?_
                                                                            refine J_iload_n hE dd_L_law_1141 3 rfl rfl ?_
                                                                            refine J_iconst hE (v := (3 : Int32)) dd_L_law_1142 (by decide) ?_
                                                                            refine J_iadd hE dd_L_law_1143 ?_
                                                                            refine J_sld hE hsc dd_L_law_1144 ?_
                                                                            refine J_invVwi hE (e := fun X => (X, S3)) (As := [.int (xs (v1 + (1 : Int32)).toNatClampNeg), .int (xs (v1 + (2 : Int32)).toNatClampNeg), .int (xs (v1 + (3 : Int32)).toNatClampNeg)]) (st := []) (JC.lift_w (e := fun X => (X, S3)) (tX4_drift E.2.1 (hL.1 S3) X2 (xs (v1 + (1 : Int32)).toNatClampNeg) (xs (v1 + (2 : Int32)).toNatClampNeg) (xs (v1 + (3 : Int32)).toNatClampNeg)) rfl) ((hL.1 S3).rt.ob _) m_X4_drift rfl ml_RL_152 (Nat.le_of_ble_eq_true rfl) (Nat.le_of_ble_eq_true rfl) rfl (Nat.le_of_ble_eq_true rfl) dd_L_law_1145 (fun q203 => ?_)
                                                                            refine J_let1 (S := S3) (fun X204 => ?_)
                                                                            refine J_aload_n hE dd_L_law_1148 2 rfl rfl ?_
                                                                            refine J_aload_n hE dd_L_law_1149 0 rfl rfl ?_
                                                                            refine J_iload_n hE dd_L_law_1150 3 rfl rfl ?_
                                                                            refine J_iconst hE (v := (1 : Int32)) dd_L_law_1151 (by decide) ?_
                                                                            refine J_iadd hE dd_L_law_1152 ?_
                                                                            refine J_sld hE hsc dd_L_law_1153 ?_
                                                                            refine J_aload_n hE dd_L_law_1154 0 rfl rfl ?_
                                                                            refine J_iload_n hE dd_L_law_1155 3 rfl rfl ?_
                                                                            refine J_iconst hE (v := (2 : Int32)) dd_L_law_1156 (by decide) ?_
                                                                            refine J_iadd hE dd_L_law_1157 ?_
                                                                            refine J_sld hE hsc dd_L_law_1158 ?_
                                                                            refine J_aload_n hE dd_L_law_1159 0 rfl rfl ?_
                                                                            refine J_iload_n hE dd_L_law_1160 3 rfl rfl ?_
                                                                            refine J_iconst hE (v := (3 : Int32)) dd_L_law_1161 (by decide) ?_
                                                                            refine J_iadd hE dd_L_law_1162 ?_
                                                                            refine J_sld hE hsc dd_L_law_1163 ?_
                                                                            refine J_invVwi hE (e := fun S => (X204, S)) (As := [.int (xs (v1 + (1 : Int32)).toNatClampNeg), .int (xs (v1 + (2 : Int32)).toNatClampNeg), .int (xs (v1 + (3 : Int32)).toNatClampNeg)]) (st := [.int q203.1]) (JC.lift_w (e := fun S => (X204, S)) (tX5_drift E.2.1 (hL.2 X204) S3 (xs (v1 + (1 : Int32)).toNatClampNeg) (xs (v1 + (2 : Int32)).toNatClampNeg) (xs (v1 + (3 : Int32)).toNatClampNeg)) rfl) ((hL.2 X204).ob _) m_X5_drift rfl ml_RL_155 (Nat.le_of_ble_eq_true rfl) (Nat.le_of_ble_eq_true rfl) rfl (Nat.le_of_ble_eq_true rfl) dd_L_law_1164 (fun q205 => ?_)
                                                                            refine J_let2 (T := X204) (fun S206 => ?_)
                                                                            refine J_icmp_eq hE (tgt := 1393) dd_L_law_1167 (by decide) (fun c207 => ?_) (fun c207 => ?_)
                                                                            · refine J_sub [0, 1, 2, 3] rfl ?_
                                                                              exact hj4 (X204, S206)
                                                                            · refine J_iconst hE (v := (0 : Int32)) dd_L_law_1170 (by decide) ?_
                                                                              exact J_zret hE (Or.inl rfl) dd_L_law_1171 rfl rfl
                                                                          · refine J_ite (fun c208 => ?_) (fun c208 => ?_)
                                                                            · refine J_tsAt hE c208 (off := 1140) (tgt := 1172) dd_L_law_32 (by decide) (by decide) (by decide) (by decide) ?_
                                                                              refine J_aload_n hE dd_L_law_1172 1 rfl rfl ?_
                                                                              refine J_aload_n hE dd_L_law_1173 0 rfl rfl ?_
                                                                              refine J_iload_n hE dd_L_law_1174 3 rfl rfl ?_
                                                                              refine J_iconst hE (v := (1 : Int32)) dd_L_law_1175 (by decide) ?_
                                                                              refine J_iadd hE dd_L_law_1176 ?_
                                                                              refine J_sld hE hsc dd_L_law_1177 ?_
                                                                              refine J_invVwi hE (e := fun X => (X, S3)) (As := [.int (xs (v1 + (1 : Int32)).toNatClampNeg)]) (st := []) (JC.lift_w (e := fun X => (X, S3)) (tX4_keep E.2.1 (hL.1 S3) X2 (xs (v1 + (1 : Int32)).toNatClampNeg)) rfl) ((hL.1 S3).rt.ob _) m_X4_keep rfl ml_RL_156 (Nat.le_of_ble_eq_true rfl) (Nat.le_of_ble_eq_true rfl) rfl (Nat.le_of_ble_eq_true rfl) dd_L_law_1178 (fun q209 => ?_)
                                                                              refine J_let1 (S := S3) (fun X210 => ?_)
                                                                              refine J_aload_n hE dd_L_law_1181 2 rfl rfl ?_
                                                                              refine J_aload_n hE dd_L_law_1182 0 rfl rfl ?_
                                                                              refine J_iload_n hE dd_L_law_1183 3 rfl rfl ?_
                                                                              refine J_iconst hE (v := (1 : Int32)) dd_L_law_1184 (by decide) ?_
                                                                              refine J_iadd hE dd_L_law_1185 ?_
                                                                              refine J_sld hE hsc dd_L_law_1186 ?_
                                                                              refine J_invVwi hE (e := fun S => (X210, S)) (As := [.int (xs (v1 + (1 : Int32)).toNatClampNeg)]) (st := [.int q209.1]) (JC.lift_w (e := fun S => (X210, S)) (tX5_keep E.2.1 (hL.2 X210) S3 (xs (v1 + (1 : Int32)).toNatClampNeg)) rfl) ((hL.2 X210).ob _) m_X5_keep rfl ml_RL_159 (Nat.le_of_ble_eq_true rfl) (Nat.le_of_ble_eq_true rfl) rfl (Nat.le_of_ble_eq_true rfl) dd_L_law_1187 (fun q211 => ?_)
                                                                              refine J_let2 (T := X210) (fun S212 => ?_)
                                                                              refine J_icmp_eq hE (tgt := 1393) dd_L_law_1190 (by decide) (fun c213 => ?_) (fun c213 => ?_)
                                                                              · refine J_sub [0, 1, 2, 3] rfl ?_
                                                                                exact hj4 (X210, S212)
                                                                              · refine J_iconst hE (v := (0 : Int32)) dd_L_law_1193 (by decide) ?_
                                                                                exact J_zret hE (Or.inl rfl) dd_L_law_1194 rfl rfl
                                                                            · refine J_ite (fun c214 => ?_) (fun c214 => ?_)
                                                                              · refine J_tsAt hE c214 (off := 1163) (tgt := 1195) dd_L_law_32 (by decide) (by decide) (by decide) (by decide) ?_
                                                                                refine J_aload_n hE dd_L_law_1195 1 rfl rfl ?_
                                                                                refine J_aload_n hE dd_L_law_1196 0 rfl rfl ?_
                                                                                refine J_iload_n hE dd_L_law_1197 3 rfl rfl ?_
                                                                                refine J_iconst hE (v := (1 : Int32)) dd_L_law_1198 (by decide) ?_
                                                                                refine J_iadd hE dd_L_law_1199 ?_
                                                                                refine J_sld hE hsc dd_L_law_1200 ?_
                                                                                refine J_invVwi hE (e := fun X => (X, S3)) (As := [.int (xs (v1 + (1 : Int32)).toNatClampNeg)]) (st := []) (JC.lift_w (e := fun X => (X, S3)) (tX4_back E.2.1 (hL.1 S3) X2 (xs (v1 + (1 : Int32)).toNatClampNeg)) rfl) ((hL.1 S3).rt.ob _) m_X4_back rfl ml_RL_160 (Nat.le_of_ble_eq_true rfl) (Nat.le_of_ble_eq_true rfl) rfl (Nat.le_of_ble_eq_true rfl) dd_L_law_1201 (fun q215 => ?_)
                                                                                refine J_let1 (S := S3) (fun X216 => ?_)
                                                                                refine J_aload_n hE dd_L_law_1204 2 rfl rfl ?_
                                                                                refine J_aload_n hE dd_L_law_1205 0 rfl rfl ?_
                                                                                refine J_iload_n hE dd_L_law_1206 3 rfl rfl ?_
                                                                                refine J_iconst hE (v := (1 : Int32)) dd_L_law_1207 (by decide) ?_
                                                                                refine J_iadd hE dd_L_law_1208 ?_
                                                                                refine J_sld hE hsc dd_L_law_1209 ?_
                                                                                refine J_invVwi hE (e := fun S => (X216, S)) (As := [.int (xs (v1 + (1 : Int32)).toNatClampNeg)]) (st := [.int q215.1]) (JC.lift_w (e := fun S => (X216, S)) (tX5_back E.2.1 (hL.2 X216) S3 (xs (v1 + (1 : Int32)).toNatClampNeg)) rfl) ((hL.2 X216).ob _) m_X5_back rfl ml_RL_163 (Nat.le_of_ble_eq_true rfl) (Nat.le_of_ble_eq_true rfl) rfl (Nat.le_of_ble_eq_true rfl) dd_L_law_1210 (fun q217 => ?_)
                                                                                refine J_let2 (T := X216) (fun S218 => ?_)
                                                                                refine J_icmp_eq hE (tgt := 1393) dd_L_law_1213 (by decide) (fun c219 => ?_) (fun c219 => ?_)
                                                                                · refine J_sub [0, 1, 2, 3] rfl ?_
                                                                                  exact hj4 (X216, S218)
                                                                                · refine J_iconst hE (v := (0 : Int32)) dd_L_law_1216 (by decide) ?_
                                                                                  exact J_zret hE (Or.inl rfl) dd_L_law_1217 rfl rfl
                                                                              · refine J_ite (fun c220 => ?_) (fun c220 => ?_)
                                                                                · refine J_tsAt hE c220 (off := 1186) (tgt := 1218) dd_L_law_32 (by decide) (by decide) (by decide) (by decide) ?_
                                                                                  refine J_aload_n hE dd_L_law_1218 1 rfl rfl ?_
                                                                                  refine J_aload_n hE dd_L_law_1219 0 rfl rfl ?_
                                                                                  refine J_iload_n hE dd_L_law_1220 3 rfl rfl ?_
                                                                                  refine J_iconst hE (v := (1 : Int32)) dd_L_law_1221 (by decide) ?_
                                                                                  refine J_iadd hE dd_L_law_1222 ?_
                                                                                  refine J_sld hE hsc dd_L_law_1223 ?_
                                                                                  refine J_aload_n hE dd_L_law_1224 0 rfl rfl ?_
                                                                                  refine J_iload_n hE dd_L_law_1225 3 rfl rfl ?_
                                                                                  refine J_iconst hE (v := (2 : Int32)) dd_L_law_1226 (by decide) ?_
                                                                                  refine J_iadd hE dd_L_law_1227 ?_
                                                                                  refine J_sld hE hsc dd_L_law_1228 ?_
                                                                                  refine J_aload_n hE dd_L_law_1229 0 rfl rfl ?_
                                                                                  refine J_iload_n hE dd_L_law_1230 3 rfl rfl ?_
                                                                                  refine J_iconst hE (v := (3 : Int32)) dd_L_law_1231 (by decide) ?_
                                                                                  refine J_iadd hE dd_L_law_1232 ?_
                                                                                  refine J_sld hE hsc dd_L_law_1233 ?_
                                                                                  refine J_invVwi hE (e := fun X => (X, S3)) (As := [.int (xs (v1 + (1 : Int32)).toNatClampNeg), .int (xs (v1 + (2 : Int32)).toNatClampNeg), .int (xs (v1 + (3 : Int32)).toNatClampNeg)]) (st := []) (JC.lift_w (e := fun X => (X, S3)) (tX4_sheet E.2.1 (hL.1 S3) X2 (xs (v1 + (1 : Int32)).toNatClampNeg) (xs (v1 + (2 : Int32)).toNatClampNeg) (xs (v1 + (3 : Int32)).toNatClampNeg)) rfl) ((hL.1 S3).rt.ob _) m_X4_sheet rfl ml_RL_164 (Nat.le_of_ble_eq_true rfl) (Nat.le_of_ble_eq_true rfl) rfl (Nat.le_of_ble_eq_true rfl) dd_L_law_1234 (fun q221 => ?_)
                                                                                  refine J_let1 (S := S3) (fun X222 => ?_)
                                                                                  refine J_aload_n hE dd_L_law_1237 2 rfl rfl ?_
                                                                                  refine J_aload_n hE dd_L_law_1238 0 rfl rfl ?_
                                                                                  refine J_iload_n hE dd_L_law_1239 3 rfl rfl ?_
                                                                                  refine J_iconst hE (v := (1 : Int32)) dd_L_law_1240 (by decide) ?_
                                                                                  refine J_iadd hE dd_L_law_1241 ?_
                                                                                  refine J_sld hE hsc dd_L_law_1242 ?_
                                                                                  refine J_aload_n hE dd_L_law_1243 0 rfl rfl ?_
                                                                                  refine J_iload_n hE dd_L_law_1244 3 rfl rfl ?_
                                                                                  refine J_iconst hE (v := (2 : Int32)) dd_L_law_1245 (by decide) ?_
                                                                                  refine J_iadd hE dd_L_law_1246 ?_
                                                                                  refine J_sld hE hsc dd_L_law_1247 ?_
                                                                                  refine J_aload_n hE dd_L_law_1248 0 rfl rfl ?_
                                                                                  refine J_iload_n hE dd_L_law_1249 3 rfl rfl ?_
                                                                                  refine J_iconst hE (v := (3 : Int32)) dd_L_law_1250 (by decide) ?_
                                                                                  refine J_iadd hE dd_L_law_1251 ?_
                                                                                  refine J_sld hE hsc dd_L_law_1252 ?_
                                                                                  refine J_invVwi hE (e := fun S => (X222, S)) (As := [.int (xs (v1 + (1 : Int32)).toNatClampNeg), .int (xs (v1 + (2 : Int32)).toNatClampNeg), .int (xs (v1 + (3 : Int32)).toNatClampNeg)]) (st := [.int q221.1]) (JC.lift_w (e := fun S => (X222, S)) (tX5_sheet E.2.1 (hL.2 X222) S3 (xs (v1 + (1 : Int32)).toNatClampNeg) (xs (v1 + (2 : Int32)).toNatClampNeg) (xs (v1 + (3 : Int32)).toNatClampNeg)) rfl) ((hL.2 X222).ob _) m_X5_sheet rfl ml_RL_167 (Nat.le_of_ble_eq_true rfl) (Nat.le_of_ble_eq_true rfl) rfl (Nat.le_of_ble_eq_true rfl) dd_L_law_1253 (fun q223 => ?_)
                                                                                  refine J_let2 (T := X222) (fun S224 => ?_)
                                                                                  refine J_icmp_eq hE (tgt := 1393) dd_L_law_1256 (by decide) (fun c225 => ?_) (fun c225 => ?_)
                                                                                  · refine J_sub [0, 1, 2, 3] rfl ?_
                                                                                    exact hj4 (X222, S224)
                                                                                  · refine J_iconst hE (v := (0 : Int32)) dd_L_law_1259 (by decide) ?_
                                                                                    exact J_zret hE (Or.inl rfl) dd_L_law_1260 rfl rfl
                                                                                · refine J_ite (fun c226 => ?_) (fun c226 => ?_)
                                                                                  · refine J_tsAt hE c226 (off := 1229) (tgt := 1261) dd_L_law_32 (by decide) (by decide) (by decide) (by decide) ?_
                                                                                    refine J_aload_n hE dd_L_law_1261 1 rfl rfl ?_
                                                                                    refine J_aload_n hE dd_L_law_1262 0 rfl rfl ?_
                                                                                    refine J_iload_n hE dd_L_law_1263 3 rfl rfl ?_
                                                                                    refine J_iconst hE (v := (1 : Int32)) dd_L_law_1264 (by decide) ?_
                                                                                    refine J_iadd hE dd_L_law_1265 ?_
                                                                                    refine J_sld hE hsc dd_L_law_1266 ?_
                                                                                    refine J_aload_n hE dd_L_law_1267 0 rfl rfl ?_
                                                                                    refine J_iload_n hE dd_L_law_1268 3 rfl rfl ?_
                                                                                    refine J_iconst hE (v := (2 : Int32)) dd_L_law_1269 (by decide) ?_
                                                                                    refine J_iadd hE dd_L_law_1270 ?_
                                                                                    refine J_sld hE hsc dd_L_law_1271 ?_
                                                                                    refine J_aload_n hE dd_L_law_1272 0 rfl rfl ?_
                                                                                    refine J_iload_n hE dd_L_law_1273 3 rfl rfl ?_
                                                                                    refine J_iconst hE (v := (3 : Int32)) dd_L_law_1274 (by decide) ?_
                                                                                    refine J_iadd hE dd_L_law_1275 ?_
                                                                                    refine J_sld hE hsc dd_L_law_1276 ?_
                                                                                    refine J_invVwi hE (e := fun X => (X, S3)) (As := [.int (xs (v1 + (1 : Int32)).toNatClampNeg), .int (xs (v1 + (2 : Int32)).toNatClampNeg), .int (xs (v1 + (3 : Int32)).toNatClampNeg)]) (st := []) (JC.lift_w (e := fun X => (X, S3)) (tX4_lay E.2.1 (hL.1 S3) X2 (xs (v1 + (1 : Int32)).toNatClampNeg) (xs (v1 + (2 : Int32)).toNatClampNeg) (xs (v1 + (3 : Int32)).toNatClampNeg)) rfl) ((hL.1 S3).rt.ob _) m_X4_lay rfl ml_RL_168 (Nat.le_of_ble_eq_true rfl) (Nat.le_of_ble_eq_true rfl) rfl (Nat.le_of_ble_eq_true rfl) dd_L_law_1277 (fun q227 => ?_)
                                                                                    refine J_let1 (S := S3) (fun X228 => ?_)
                                                                                    refine J_aload_n hE dd_L_law_1280 2 rfl rfl ?_
                                                                                    refine J_aload_n hE dd_L_law_1281 0 rfl rfl ?_
                                                                                    refine J_iload_n hE dd_L_law_1282 3 rfl rfl ?_
                                                                                    refine J_iconst hE (v := (1 : Int32)) dd_L_law_1283 (by decide) ?_
                                                                                    refine J_iadd hE dd_L_law_1284 ?_
                                                                                    refine J_sld hE hsc dd_L_law_1285 ?_
                                                                                    refine J_aload_n hE dd_L_law_1286 0 rfl rfl ?_
                                                                                    refine J_iload_n hE dd_L_law_1287 3 rfl rfl ?_
                                                                                    refine J_iconst hE (v := (2 : Int32)) dd_L_law_1288 (by decide) ?_
                                                                                    refine J_iadd hE dd_L_law_1289 ?_
                                                                                    refine J_sld hE hsc dd_L_law_1290 ?_
                                                                                    refine J_aload_n hE dd_L_law_1291 0 rfl rfl ?_
                                                                                    refine J_iload_n hE dd_L_law_1292 3 rfl rfl ?_
                                                                                    refine J_iconst hE (v := (3 : Int32)) dd_L_law_1293 (by decide) ?_
                                                                                    refine J_iadd hE dd_L_law_1294 ?_
                                                                                    refine J_sld hE hsc dd_L_law_1295 ?_
                                                                                    refine J_invVwi hE (e := fun S => (X228, S)) (As := [.int (xs (v1 + (1 : Int32)).toNatClampNeg), .int (xs (v1 + (2 : Int32)).toNatClampNeg), .int (xs (v1 + (3 : Int32)).toNatClampNeg)]) (st := [.int q227.1]) (JC.lift_w (e := fun S => (X228, S)) (tX5_lay E.2.1 (hL.2 X228) S3 (xs (v1 + (1 : Int32)).toNatClampNeg) (xs (v1 + (2 : Int32)).toNatClampNeg) (xs (v1 + (3 : Int32)).toNatClampNeg)) rfl) ((hL.2 X228).ob _) m_X5_lay rfl ml_RL_171 (Nat.le_of_ble_eq_true rfl) (Nat.le_of_ble_eq_true rfl) rfl (Nat.le_of_ble_eq_true rfl) dd_L_law_1296 (fun q229 => ?_)
                                                                                    refine J_let2 (T := X228) (fun S230 => ?_)
                                                                                    refine J_icmp_eq hE (tgt := 1393) dd_L_law_1299 (by decide) (fun c231 => ?_) (fun c231 => ?_)
                                                                                    · refine J_sub [0, 1, 2, 3] rfl ?_
                                                                                      exact hj4 (X228, S230)
                                                                                    · refine J_iconst hE (v := (0 : Int32)) dd_L_law_1302 (by decide) ?_
                                                                                      exact J_zret hE (Or.inl rfl) dd_L_law_1303 rfl rfl
                                                                                  · refine J_ite (fun c232 => ?_) (fun c232 => ?_)
                                                                                    · refine J_tsAt hE c232 (off := 1272) (tgt := 1304) dd_L_law_32 (by decide) (by decide) (by decide) (by decide) ?_
                                                                                      refine J_aload_n hE dd_L_law_1304 1 rfl rfl ?_
                                                                                      refine J_aload_n hE dd_L_law_1305 0 rfl rfl ?_
                                                                                      refine J_iload_n hE dd_L_law_1306 3 rfl rfl ?_
                                                                                      refine J_iconst hE (v := (1 : Int32)) dd_L_law_1307 (by decide) ?_
                                                                                      refine J_iadd hE dd_L_law_1308 ?_
                                                                                      refine J_sld hE hsc dd_L_law_1309 ?_
                                                                                      refine J_aload_n hE dd_L_law_1310 0 rfl rfl ?_
                                                                                      refine J_iload_n hE dd_L_law_1311 3 rfl rfl ?_
                                                                                      refine J_iconst hE (v := (2 : Int32)) dd_L_law_1312 (by decide) ?_
                                                                                      refine J_iadd hE dd_L_law_1313 ?_
                                                                                      refine J_sld hE hsc dd_L_law_1314 ?_
                                                                                      refine J_aload_n hE dd_L_law_1315 0 rfl rfl ?_
                                                                                      refine J_iload_n hE dd_L_law_1316 3 rfl rfl ?_
                                                                                      refine J_iconst hE (v := (3 : Int32)) dd_L_law_1317 (by decide) ?_
                                                                                      refine J_iadd hE dd_L_law_1318 ?_
                                                                                      refine J_sld hE hsc dd_L_law_1319 ?_
                                                                                      refine J_aload_n hE dd_L_law_1320 0 rfl rfl ?_
                                                                                      refine J_iload_n hE dd_L_law_1321 3 rfl rfl ?_
                                                                                      refine J_iconst hE (v := (4 : Int32)) dd_L_law_1322 (by decide) ?_
                                                                                      refine J_iadd hE dd_L_law_1323 ?_
                                                                                      refine J_sld hE hsc dd_L_law_1324 ?_
                                                                                      refine J_invVwi hE (e := fun X => (X, S3)) (As := [.int (xs (v1 + (1 : Int32)).toNatClampNeg), .int (xs (v1 + (2 : Int32)).toNatClampNeg), .int (xs (v1 + (3 : Int32)).toNatClampNeg), .int (xs (v1 + (4 : Int32)).toNatClampNeg)]) (st := []) (JC.lift_w (e := fun X => (X, S3)) (tX4_read E.2.1 (hL.1 S3) X2 (xs (v1 + (1 : Int32)).toNatClampNeg) (xs (v1 + (2 : Int32)).toNatClampNeg) (xs (v1 + (3 : Int32)).toNatClampNeg) (xs (v1 + (4 : Int32)).toNatClampNeg)) rfl) ((hL.1 S3).rt.ob _) m_X4_read rfl ml_RL_172 (Nat.le_of_ble_eq_true rfl) (Nat.le_of_ble_eq_true rfl) rfl (Nat.le_of_ble_eq_true rfl) dd_L_law_1325 (fun q233 => ?_)
                                                                                      refine J_let1 (S := S3) (fun X234 => ?_)
                                                                                      refine J_aload_n hE dd_L_law_1328 2 rfl rfl ?_
                                                                                      refine J_aload_n hE dd_L_law_1329 0 rfl rfl ?_
                                                                                      refine J_iload_n hE dd_L_law_1330 3 rfl rfl ?_
                                                                                      refine J_iconst hE (v := (1 : Int32)) dd_L_law_1331 (by decide) ?_
                                                                                      refine J_iadd hE dd_L_law_1332 ?_
                                                                                      refine J_sld hE hsc dd_L_law_1333 ?_
                                                                                      refine J_aload_n hE dd_L_law_1334 0 rfl rfl ?_
                                                                                      refine J_iload_n hE dd_L_law_1335 3 rfl rfl ?_
                                                                                      refine J_iconst hE (v := (2 : Int32)) dd_L_law_1336 (by decide) ?_
                                                                                      refine J_iadd hE dd_L_law_1337 ?_
                                                                                      refine J_sld hE hsc dd_L_law_1338 ?_
                                                                                      refine J_aload_n hE dd_L_law_1339 0 rfl rfl ?_
                                                                                      refine J_iload_n hE dd_L_law_1340 3 rfl rfl ?_
                                                                                      refine J_iconst hE (v := (3 : Int32)) dd_L_law_1341 (by decide) ?_
                                                                                      refine J_iadd hE dd_L_law_1342 ?_
                                                                                      refine J_sld hE hsc dd_L_law_1343 ?_
                                                                                      refine J_aload_n hE dd_L_law_1344 0 rfl rfl ?_
                                                                                      refine J_iload_n hE dd_L_law_1345 3 rfl rfl ?_
                                                                                      refine J_iconst hE (v := (4 : Int32)) dd_L_law_1346 (by decide) ?_
                                                                                      refine J_iadd hE dd_L_law_1347 ?_
                                                                                      refine J_sld hE hsc dd_L_law_1348 ?_
                                                                                      refine J_invVwi hE (e := fun S => (X234, S)) (As := [.int (xs (v1 + (1 : Int32)).toNatClampNeg), .int (xs (v1 + (2 : Int32)).toNatClampNeg), .int (xs (v1 + (3 : Int32)).toNatClampNeg), .int (xs (v1 + (4 : Int32)).toNatClampNeg)]) (st := [.int q233.1]) (JC.lift_w (e := fun S => (X234, S)) (tX5_read E.2.1 (hL.2 X234) S3 (xs (v1 + (1 : Int32)).toNatClampNeg) (xs (v1 + (2 : Int32)).toNatClampNeg) (xs (v1 + (3 : Int32)).toNatClampNeg) (xs (v1 + (4 : Int32)).toNatClampNeg)) rfl) ((hL.2 X234).ob _) m_X5_read rfl ml_RL_176 (Nat.le_of_ble_eq_true rfl) (Nat.le_of_ble_eq_true rfl) rfl (Nat.le_of_ble_eq_true rfl) dd_L_law_1349 (fun q235 => ?_)
                                                                                      refine J_let2 (T := X234) (fun S236 => ?_)
                                                                                      refine J_icmp_eq hE (tgt := 1393) dd_L_law_1352 (by decide) (fun c237 => ?_) (fun c237 => ?_)
                                                                                      · refine J_sub [0, 1, 2, 3] rfl ?_
                                                                                        exact hj4 (X234, S236)
                                                                                      · refine J_iconst hE (v := (0 : Int32)) dd_L_law_1355 (by decide) ?_
                                                                                        exact J_zret hE (Or.inl rfl) dd_L_law_1356 rfl rfl
                                                                                    · refine J_ite (fun c238 => ?_) (fun c238 => ?_)
                                                                                      · refine J_tsAt hE c238 (off := 1325) (tgt := 1357) dd_L_law_32 (by decide) (by decide) (by decide) (by decide) ?_
                                                                                        refine J_aload_n hE dd_L_law_1357 1 rfl rfl ?_
                                                                                        refine J_invVri hE (As := []) (st := []) (JC.lift_r (e := fun X => (X, S3)) (tX4_torn E.2.1 (hL.1 S3) X2 ) rfl) ((hL.1 S3).rt.ob _) m_X4_torn rfl ml_RL_177 (Nat.le_of_ble_eq_true rfl) (Nat.le_of_ble_eq_true rfl) rfl (Nat.le_of_ble_eq_true rfl) dd_L_law_1358 (fun r239 => ?_)
                                                                                        refine J_aload_n hE dd_L_law_1361 2 rfl rfl ?_
                                                                                        refine J_invVri hE (As := []) (st := [.int r239]) (JC.lift_r (e := fun S => (X2, S)) (tX5_torn E.2.1 (hL.2 X2) S3 ) rfl) ((hL.2 X2).ob _) m_X5_torn rfl ml_RL_180 (Nat.le_of_ble_eq_true rfl) (Nat.le_of_ble_eq_true rfl) rfl (Nat.le_of_ble_eq_true rfl) dd_L_law_1362 (fun r240 => ?_)
                                                                                        refine J_icmp_eq hE (tgt := 1393) dd_L_law_1365 (by decide) (fun c241 => ?_) (fun c241 => ?_)
                                                                                        · refine J_sub [0, 1, 2, 3] rfl ?_
                                                                                          exact hj4 (X2, S3)
                                                                                        · refine J_iconst hE (v := (0 : Int32)) dd_L_law_1368 (by decide) ?_
                                                                                          exact J_zret hE (Or.inl rfl) dd_L_law_1369 rfl rfl
                                                                                      · refine J_ite (fun c242 => ?_) (fun c242 => ?_)
                                                                                        · refine J_tsAt hE c242 (off := 1338) (tgt := 1370) dd_L_law_32 (by decide) (by decide) (by decide) (by decide) ?_
                                                                                          refine J_aload_n hE dd_L_law_1370 1 rfl rfl ?_
                                                                                          refine J_aload_n hE dd_L_law_1371 0 rfl rfl ?_
                                                                                          refine J_iload_n hE dd_L_law_1372 3 rfl rfl ?_
                                                                                          refine J_iconst hE (v := (1 : Int32)) dd_L_law_1373 (by decide) ?_
                                                                                          refine J_iadd hE dd_L_law_1374 ?_
                                                                                          refine J_sld hE hsc dd_L_law_1375 ?_
                                                                                          refine J_invVri hE (As := [.int (xs (v1 + (1 : Int32)).toNatClampNeg)]) (st := []) (JC.lift_r (e := fun X => (X, S3)) (tX4_count E.2.1 (hL.1 S3) X2 (xs (v1 + (1 : Int32)).toNatClampNeg)) rfl) ((hL.1 S3).rt.ob _) m_X4_count rfl ml_RL_181 (Nat.le_of_ble_eq_true rfl) (Nat.le_of_ble_eq_true rfl) rfl (Nat.le_of_ble_eq_true rfl) dd_L_law_1376 (fun r243 => ?_)
                                                                                          refine J_aload_n hE dd_L_law_1379 2 rfl rfl ?_
                                                                                          refine J_aload_n hE dd_L_law_1380 0 rfl rfl ?_
                                                                                          refine J_iload_n hE dd_L_law_1381 3 rfl rfl ?_
                                                                                          refine J_iconst hE (v := (1 : Int32)) dd_L_law_1382 (by decide) ?_
                                                                                          refine J_iadd hE dd_L_law_1383 ?_
                                                                                          refine J_sld hE hsc dd_L_law_1384 ?_
                                                                                          refine J_invVwi hE (e := fun S => (X2, S)) (As := [.int (xs (v1 + (1 : Int32)).toNatClampNeg)]) (st := [.int r243]) (JC.lift_w (e := fun S => (X2, S)) (tX5_count E.2.1 (hL.2 X2) S3 (xs (v1 + (1 : Int32)).toNatClampNeg)) rfl) ((hL.2 X2).ob _) m_X5_count rfl ml_RL_184 (Nat.le_of_ble_eq_true rfl) (Nat.le_of_ble_eq_true rfl) rfl (Nat.le_of_ble_eq_true rfl) dd_L_law_1385 (fun q244 => ?_)
                                                                                          refine J_let2 (T := X2) (fun S245 => ?_)
                                                                                          refine J_icmp_eq hE (tgt := 1393) dd_L_law_1388 (by decide) (fun c246 => ?_) (fun c246 => ?_)
                                                                                          · refine J_sub [0, 1, 2, 3] rfl ?_
                                                                                            exact hj4 (X2, S245)
                                                                                          · refine J_iconst hE (v := (0 : Int32)) dd_L_law_1391 (by decide) ?_
                                                                                            exact J_zret hE (Or.inl rfl) dd_L_law_1392 rfl rfl
                                                                                        · refine J_tsOut hE (tgt := 1393) dd_L_law_32 (by have e0 : ¬ (((xs v1.toNatClampNeg) &&& (63 : Int32))).toInt = 0 := fun q => c5 (Int32.toInt_inj.mp (q.trans (by decide))); have e1 : ¬ (((xs v1.toNatClampNeg) &&& (63 : Int32))).toInt = 1 := fun q => c11 (Int32.toInt_inj.mp (q.trans (by decide))); have e2 : ¬ (((xs v1.toNatClampNeg) &&& (63 : Int32))).toInt = 2 := fun q => c17 (Int32.toInt_inj.mp (q.trans (by decide))); have e3 : ¬ (((xs v1.toNatClampNeg) &&& (63 : Int32))).toInt = 3 := fun q => c23 (Int32.toInt_inj.mp (q.trans (by decide))); have e4 : ¬ (((xs v1.toNatClampNeg) &&& (63 : Int32))).toInt = 4 := fun q => c27 (Int32.toInt_inj.mp (q.trans (by decide))); have e5 : ¬ (((xs v1.toNatClampNeg) &&& (63 : Int32))).toInt = 5 := fun q => c32 (Int32.toInt_inj.mp (q.trans (by decide))); have e6 : ¬ (((xs v1.toNatClampNeg) &&& (63 : Int32))).toInt = 6 := fun q => c36 (Int32.toInt_inj.mp (q.trans (by decide))); have e7 : ¬ (((xs v1.toNatClampNeg) &&& (63 : Int32))).toInt = 7 := fun q => c41 (Int32.toInt_inj.mp (q.trans (by decide))); have e8 : ¬ (((xs v1.toNatClampNeg) &&& (63 : Int32))).toInt = 8 := fun q => c46 (Int32.toInt_inj.mp (q.trans (by decide))); have e9 : ¬ (((xs v1.toNatClampNeg) &&& (63 : Int32))).toInt = 9 := fun q => c52 (Int32.toInt_inj.mp (q.trans (by decide))); have e10 : ¬ (((xs v1.toNatClampNeg) &&& (63 : Int32))).toInt = 10 := fun q => c58 (Int32.toInt_inj.mp (q.trans (by decide))); have e11 : ¬ (((xs v1.toNatClampNeg) &&& (63 : Int32))).toInt = 11 := fun q => c64 (Int32.toInt_inj.mp (q.trans (by decide))); have e12 : ¬ (((xs v1.toNatClampNeg) &&& (63 : Int32))).toInt = 12 := fun q => c76 (Int32.toInt_inj.mp (q.trans (by decide))); have e13 : ¬ (((xs v1.toNatClampNeg) &&& (63 : Int32))).toInt = 13 := fun q => c82 (Int32.toInt_inj.mp (q.trans (by decide))); have e14 : ¬ (((xs v1.toNatClampNeg) &&& (63 : Int32))).toInt = 14 := fun q => c88 (Int32.toInt_inj.mp (q.trans (by decide))); have e15 : ¬ (((xs v1.toNatClampNeg) &&& (63 : Int32))).toInt = 15 := fun q => c94 (Int32.toInt_inj.mp (q.trans (by decide))); have e16 : ¬ (((xs v1.toNatClampNeg) &&& (63 : Int32))).toInt = 16 := fun q => c100 (Int32.toInt_inj.mp (q.trans (by decide))); have e17 : ¬ (((xs v1.toNatClampNeg) &&& (63 : Int32))).toInt = 17 := fun q => c106 (Int32.toInt_inj.mp (q.trans (by decide))); have e18 : ¬ (((xs v1.toNatClampNeg) &&& (63 : Int32))).toInt = 18 := fun q => c112 (Int32.toInt_inj.mp (q.trans (by decide))); have e19 : ¬ (((xs v1.toNatClampNeg) &&& (63 : Int32))).toInt = 19 := fun q => c118 (Int32.toInt_inj.mp (q.trans (by decide))); have e20 : ¬ (((xs v1.toNatClampNeg) &&& (63 : Int32))).toInt = 20 := fun q => c124 (Int32.toInt_inj.mp (q.trans (by decide))); have e21 : ¬ (((xs v1.toNatClampNeg) &&& (63 : Int32))).toInt = 21 := fun q => c130 (Int32.toInt_inj.mp (q.trans (by decide))); have e22 : ¬ (((xs v1.toNatClampNeg) &&& (63 : Int32))).toInt = 22 := fun q => c136 (Int32.toInt_inj.mp (q.trans (by decide))); have e23 : ¬ (((xs v1.toNatClampNeg) &&& (63 : Int32))).toInt = 23 := fun q => c142 (Int32.toInt_inj.mp (q.trans (by decide))); have e24 : ¬ (((xs v1.toNatClampNeg) &&& (63 : Int32))).toInt = 24 := fun q => c148 (Int32.toInt_inj.mp (q.trans (by decide))); have e25 : ¬ (((xs v1.toNatClampNeg) &&& (63 : Int32))).toInt = 25 := fun q => c154 (Int32.toInt_inj.mp (q.trans (by decide))); have e26 : ¬ (((xs v1.toNatClampNeg) &&& (63 : Int32))).toInt = 26 := fun q => c160 (Int32.toInt_inj.mp (q.trans (by decide))); have e27 : ¬ (((xs v1.toNatClampNeg) &&& (63 : Int32))).toInt = 27 := fun q => c166 (Int32.toInt_inj.mp (q.trans (by decide))); have e28 : ¬ (((xs v1.toNatClampNeg) &&& (63 : Int32))).toInt = 28 := fun q => c172 (Int32.toInt_inj.mp (q.trans (by decide))); have e29 : ¬ (((xs v1.toNatClampNeg) &&& (63 : Int32))).toInt = 29 := fun q => c178 (Int32.toInt_inj.mp (q.trans (by decide))); have e30 : ¬ (((xs v1.toNatClampNeg) &&& (63 : Int32))).toInt = 30 := fun q => c184 (Int32.toInt_inj.mp (q.trans (by decide))); have e31 : ¬ (((xs v1.toNatClampNeg) &&& (63 : Int32))).toInt = 31 := fun q => c190 (Int32.toInt_inj.mp (q.trans (by decide))); have e32 : ¬ (((xs v1.toNatClampNeg) &&& (63 : Int32))).toInt = 32 := fun q => c196 (Int32.toInt_inj.mp (q.trans (by decide))); have e33 : ¬ (((xs v1.toNatClampNeg) &&& (63 : Int32))).toInt = 33 := fun q => c202 (Int32.toInt_inj.mp (q.trans (by decide))); have e34 : ¬ (((xs v1.toNatClampNeg) &&& (63 : Int32))).toInt = 34 := fun q => c208 (Int32.toInt_inj.mp (q.trans (by decide))); have e35 : ¬ (((xs v1.toNatClampNeg) &&& (63 : Int32))).toInt = 35 := fun q => c214 (Int32.toInt_inj.mp (q.trans (by decide))); have e36 : ¬ (((xs v1.toNatClampNeg) &&& (63 : Int32))).toInt = 36 := fun q => c220 (Int32.toInt_inj.mp (q.trans (by decide))); have e37 : ¬ (((xs v1.toNatClampNeg) &&& (63 : Int32))).toInt = 37 := fun q => c226 (Int32.toInt_inj.mp (q.trans (by decide))); have e38 : ¬ (((xs v1.toNatClampNeg) &&& (63 : Int32))).toInt = 38 := fun q => c232 (Int32.toInt_inj.mp (q.trans (by decide))); have e39 : ¬ (((xs v1.toNatClampNeg) &&& (63 : Int32))).toInt = 39 := fun q => c238 (Int32.toInt_inj.mp (q.trans (by decide))); have e40 : ¬ (((xs v1.toNatClampNeg) &&& (63 : Int32))).toInt = 40 := fun q => c242 (Int32.toInt_inj.mp (q.trans (by decide))); omega) (by decide) ?_
                                                                                          refine J_sub [0, 1, 2, 3] rfl ?_
                                                                                          exact hj4 (X2, S3)
def fL_law (Ln : Nat) (xs : Nat → Int32) (X : M3) (S : M2) : Option (Int32 × (M3 × M2)) :=
  fL_law_L18 Ln xs X S
    (fun p250 =>
      some ((1 : Int32), (p250.1, p250.2)))
    400 (0 : Int32) X S
set_option maxHeartbeats 4000000 in
set_option maxRecDepth 100000 in
theorem tL_law {V : JV (M3 × M2)} {ob : Nat → Nat} {aa : Nat → Nat → Nat} {bm : Nat} {am : Nat → Nat} (hL : vL V ob aa bm am) {bs : Nat} {Ln : Nat} {xs : Nat → Int32} {E : JE (M3 × M2) Int32} (hE : JOk V E cL_law RL 4 30 (some .boolean) jj_i) (hsc : jLaw E bs Ln xs) (X : M3) (S : M2) : J V E (fun q => (q.1, q.2)) (fL_law Ln xs X S) 18 [(0, .ref bs), (1, .ref (ob 0)), (2, .ref bm), (3, .int (0 : Int32))] [] (X, S) := by
  unfold fL_law
  refine J_sub [0, 1, 2, 3] rfl ?_
  refine tL_law_L18 hL Ln xs X S hE hsc (fun p250 => ?_) 400 (0 : Int32) X S
  show J V E _ _ 1399 [] [] (p250.1, p250.2)
  refine J_iconst hE (v := (1 : Int32)) dd_L_law_1399 (by decide) ?_
  exact J_zret hE (Or.inr rfl) dd_L_law_1400 rfl rfl
