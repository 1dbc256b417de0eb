/-! THE CHECK, proofs 4 -/
set_option maxRecDepth 100000 in
theorem chk_300 : chkM 300 = true := by decide +kernel
set_option maxRecDepth 100000 in
theorem chk_301 : chkM 301 = true := by decide +kernel
set_option maxRecDepth 100000 in
theorem chk_302 : chkM 302 = true := by decide +kernel
set_option maxRecDepth 100000 in
theorem chk_303 : chkM 303 = true := by decide +kernel
set_option maxRecDepth 100000 in
theorem chk_304 : chkM 304 = true := by decide +kernel
set_option maxRecDepth 100000 in
theorem chk_305 : chkM 305 = true := by decide +kernel
set_option maxRecDepth 100000 in
theorem chk_306 : chkM 306 = true := by decide +kernel
set_option maxRecDepth 100000 in
theorem chk_307 : chkM 307 = true := by decide +kernel
set_option maxRecDepth 100000 in
theorem chk_308 : chkM 308 = true := by decide +kernel
set_option maxRecDepth 100000 in
theorem chk_309 : chkM 309 = true := by decide +kernel
set_option maxRecDepth 100000 in
theorem chk_310 : chkM 310 = true := by decide +kernel
set_option maxRecDepth 100000 in
theorem chk_311 : chkM 311 = true := by decide +kernel
set_option maxRecDepth 100000 in
theorem chk_312 : chkM 312 = true := by decide +kernel
set_option maxRecDepth 100000 in
theorem chk_313 : chkM 313 = true := by decide +kernel
set_option maxRecDepth 100000 in
theorem chk_314 : chkM 314 = true := by decide +kernel
set_option maxRecDepth 100000 in
theorem chk_315 : chkM 315 = true := by decide +kernel
set_option maxRecDepth 100000 in
theorem chk_316 : chkM 316 = true := by decide +kernel
set_option maxRecDepth 100000 in
theorem chk_317 : chkM 317 = true := by decide +kernel
set_option maxRecDepth 100000 in
theorem chk_318 : chkM 318 = true := by decide +kernel
set_option maxRecDepth 100000 in
theorem chk_319 : chkM 319 = true := by decide +kernel
set_option maxRecDepth 100000 in
theorem chk_320 : chkM 320 = true := by decide +kernel
set_option maxRecDepth 100000 in
theorem chk_321 : chkM 321 = true := by decide +kernel
set_option maxRecDepth 100000 in
theorem chk_322 : chkM 322 = true := by decide +kernel
set_option maxRecDepth 100000 in
theorem chk_323 : chkM 323 = true := by decide +kernel
set_option maxRecDepth 100000 in
theorem chk_324 : chkM 324 = true := by decide +kernel
set_option maxRecDepth 100000 in
theorem chk_325 : chkM 325 = true := by decide +kernel
set_option maxRecDepth 100000 in
theorem chk_326 : chkM 326 = true := by decide +kernel
set_option maxRecDepth 100000 in
theorem chk_327 : chkM 327 = true := by decide +kernel
set_option maxRecDepth 100000 in
theorem chk_328 : chkM 328 = true := by decide +kernel
set_option maxRecDepth 100000 in
theorem chk_329 : chkM 329 = true := by decide +kernel
set_option maxRecDepth 100000 in
theorem chk_330 : chkM 330 = true := by decide +kernel
set_option maxRecDepth 100000 in
theorem chk_331 : chkM 331 = true := by decide +kernel
set_option maxRecDepth 100000 in
theorem chk_332 : chkM 332 = true := by decide +kernel
set_option maxRecDepth 100000 in
theorem chk_333 : chkM 333 = true := by decide +kernel
set_option maxRecDepth 100000 in
theorem chk_334 : chkM 334 = true := by decide +kernel
set_option maxRecDepth 100000 in
theorem chk_335 : chkM 335 = true := by decide +kernel
set_option maxRecDepth 100000 in
theorem chk_336 : chkM 336 = true := by decide +kernel
set_option maxRecDepth 100000 in
theorem chk_337 : chkM 337 = true := by decide +kernel
set_option maxRecDepth 100000 in
theorem chk_338 : chkM 338 = true := by decide +kernel
set_option maxRecDepth 100000 in
theorem chk_339 : chkM 339 = true := by decide +kernel
set_option maxRecDepth 100000 in
theorem chk_340 : chkM 340 = true := by decide +kernel
set_option maxRecDepth 100000 in
theorem chk_341 : chkM 341 = true := by decide +kernel
set_option maxRecDepth 100000 in
theorem chk_342 : chkM 342 = true := by decide +kernel
set_option maxRecDepth 100000 in
theorem chk_343 : chkM 343 = true := by decide +kernel
set_option maxRecDepth 100000 in
theorem chk_344 : chkM 344 = true := by decide +kernel
set_option maxRecDepth 100000 in
theorem chk_345 : chkM 345 = true := by decide +kernel
set_option maxRecDepth 100000 in
theorem chk_346 : chkM 346 = true := by decide +kernel
set_option maxRecDepth 100000 in
theorem chk_347 : chkM 347 = true := by decide +kernel
set_option maxRecDepth 100000 in
theorem chk_348 : chkM 348 = true := by decide +kernel
set_option maxRecDepth 100000 in
theorem chk_349 : chkM 349 = true := by decide +kernel
set_option maxRecDepth 100000 in
theorem chk_350 : chkM 350 = true := by decide +kernel
set_option maxRecDepth 100000 in
theorem chk_351 : chkM 351 = true := by decide +kernel
set_option maxRecDepth 100000 in
theorem chk_352 : chkM 352 = true := by decide +kernel
set_option maxRecDepth 100000 in
theorem chk_353 : chkM 353 = true := by decide +kernel
set_option maxRecDepth 100000 in
theorem chk_354 : chkM 354 = true := by decide +kernel
set_option maxRecDepth 100000 in
theorem chk_355 : chkM 355 = true := by decide +kernel
set_option maxRecDepth 100000 in
theorem chk_356 : chkM 356 = true := by decide +kernel
set_option maxRecDepth 100000 in
theorem chk_357 : chkM 357 = true := by decide +kernel
set_option maxRecDepth 100000 in
theorem chk_358 : chkM 358 = true := by decide +kernel
set_option maxRecDepth 100000 in
theorem chk_359 : chkM 359 = true := by decide +kernel
set_option maxRecDepth 100000 in
theorem chk_360 : chkM 360 = true := by decide +kernel
set_option maxRecDepth 100000 in
theorem chk_361 : chkM 361 = true := by decide +kernel
set_option maxRecDepth 100000 in
theorem chk_362 : chkM 362 = true := by decide +kernel
set_option maxRecDepth 100000 in
theorem chk_363 : chkM 363 = true := by decide +kernel
set_option maxRecDepth 100000 in
theorem chk_364 : chkM 364 = true := by decide +kernel
set_option maxRecDepth 100000 in
theorem chk_365 : chkM 365 = true := by decide +kernel
set_option maxRecDepth 100000 in
theorem chk_366 : chkM 366 = true := by decide +kernel
set_option maxRecDepth 100000 in
theorem chk_367 : chkM 367 = true := by decide +kernel
set_option maxRecDepth 100000 in
theorem chk_368 : chkM 368 = true := by decide +kernel
set_option maxRecDepth 100000 in
theorem chk_369 : chkM 369 = true := by decide +kernel
set_option maxRecDepth 100000 in
theorem chk_370 : chkM 370 = true := by decide +kernel
set_option maxRecDepth 100000 in
theorem chk_371 : chkM 371 = true := by decide +kernel
set_option maxRecDepth 100000 in
theorem chk_372 : chkM 372 = true := by decide +kernel
