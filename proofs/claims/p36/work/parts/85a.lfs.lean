/-! THE LAW'S LOOP, 1: its instructions (printed by wip/hand/gen85.py) -/
set_option maxRecDepth 100000
theorem lf18 : fnd (m_il mL) 18 = some (.iload_n 3, 1) := by rfl
theorem lf19 : fnd (m_il mL) 19 = some (.aload_n 0, 1) := by rfl
theorem lf20 : fnd (m_il mL) 20 = some (.arraylength, 1) := by rfl
theorem lf21 : fnd (m_il mL) 21 = some (.bipush 7, 2) := by rfl
theorem lf23 : fnd (m_il mL) 23 = some (.isub, 1) := by rfl
theorem lf24 : fnd (m_il mL) 24 = some (.if_icmp .gt 1635, 3) := by rfl
theorem lf27 : fnd (m_il mL) 27 = some (.aload_n 0, 1) := by rfl
theorem lf28 : fnd (m_il mL) 28 = some (.iload_n 3, 1) := by rfl
theorem lf29 : fnd (m_il mL) 29 = some (.iaload, 1) := by rfl
theorem lf30 : fnd (m_il mL) 30 = some (.bipush 63, 2) := by rfl
theorem lf32 : fnd (m_il mL) 32 = some (.iand, 1) := by rfl
theorem lf204 : fnd (m_il mL) 204 = some (.aload_n 1, 1) := by rfl
theorem lf205 : fnd (m_il mL) 205 = some (.aload_n 0, 1) := by rfl
theorem lf206 : fnd (m_il mL) 206 = some (.iload_n 3, 1) := by rfl
theorem lf207 : fnd (m_il mL) 207 = some (.iconst 1, 1) := by rfl
theorem lf208 : fnd (m_il mL) 208 = some (.iadd, 1) := by rfl
theorem lf209 : fnd (m_il mL) 209 = some (.iaload, 1) := by rfl
theorem lf210 : fnd (m_il mL) 210 = some (.aload_n 0, 1) := by rfl
theorem lf211 : fnd (m_il mL) 211 = some (.iload_n 3, 1) := by rfl
theorem lf212 : fnd (m_il mL) 212 = some (.iconst 2, 1) := by rfl
theorem lf213 : fnd (m_il mL) 213 = some (.iadd, 1) := by rfl
theorem lf214 : fnd (m_il mL) 214 = some (.iaload, 1) := by rfl
theorem lf215 : fnd (m_il mL) 215 = some (.aload_n 0, 1) := by rfl
theorem lf216 : fnd (m_il mL) 216 = some (.iload_n 3, 1) := by rfl
theorem lf217 : fnd (m_il mL) 217 = some (.iconst 3, 1) := by rfl
theorem lf218 : fnd (m_il mL) 218 = some (.iadd, 1) := by rfl
theorem lf219 : fnd (m_il mL) 219 = some (.iaload, 1) := by rfl
theorem lf220 : fnd (m_il mL) 220 = some (.aload_n 0, 1) := by rfl
theorem lf221 : fnd (m_il mL) 221 = some (.iload_n 3, 1) := by rfl
theorem lf222 : fnd (m_il mL) 222 = some (.iconst 4, 1) := by rfl
theorem lf223 : fnd (m_il mL) 223 = some (.iadd, 1) := by rfl
theorem lf224 : fnd (m_il mL) 224 = some (.iaload, 1) := by rfl
theorem lf225 : fnd (m_il mL) 225 = some (.aload_n 0, 1) := by rfl
theorem lf226 : fnd (m_il mL) 226 = some (.iload_n 3, 1) := by rfl
theorem lf227 : fnd (m_il mL) 227 = some (.iconst 5, 1) := by rfl
theorem lf228 : fnd (m_il mL) 228 = some (.iadd, 1) := by rfl
theorem lf229 : fnd (m_il mL) 229 = some (.iaload, 1) := by rfl
theorem lf230 : fnd (m_il mL) 230 = some (.invokevirtual 13, 3) := by rfl
theorem lf233 : fnd (m_il mL) 233 = some (.pop, 1) := by rfl
theorem lf234 : fnd (m_il mL) 234 = some (.aload_n 2, 1) := by rfl
theorem lf235 : fnd (m_il mL) 235 = some (.aload_n 0, 1) := by rfl
theorem lf236 : fnd (m_il mL) 236 = some (.iload_n 3, 1) := by rfl
theorem lf237 : fnd (m_il mL) 237 = some (.iconst 1, 1) := by rfl
theorem lf238 : fnd (m_il mL) 238 = some (.iadd, 1) := by rfl
theorem lf239 : fnd (m_il mL) 239 = some (.iaload, 1) := by rfl
theorem lf240 : fnd (m_il mL) 240 = some (.aload_n 0, 1) := by rfl
theorem lf241 : fnd (m_il mL) 241 = some (.iload_n 3, 1) := by rfl
theorem lf242 : fnd (m_il mL) 242 = some (.iconst 2, 1) := by rfl
theorem lf243 : fnd (m_il mL) 243 = some (.iadd, 1) := by rfl
theorem lf244 : fnd (m_il mL) 244 = some (.iaload, 1) := by rfl
theorem lf245 : fnd (m_il mL) 245 = some (.aload_n 0, 1) := by rfl
theorem lf246 : fnd (m_il mL) 246 = some (.iload_n 3, 1) := by rfl
theorem lf247 : fnd (m_il mL) 247 = some (.iconst 3, 1) := by rfl
theorem lf248 : fnd (m_il mL) 248 = some (.iadd, 1) := by rfl
theorem lf249 : fnd (m_il mL) 249 = some (.iaload, 1) := by rfl
theorem lf250 : fnd (m_il mL) 250 = some (.aload_n 0, 1) := by rfl
theorem lf251 : fnd (m_il mL) 251 = some (.iload_n 3, 1) := by rfl
theorem lf252 : fnd (m_il mL) 252 = some (.iconst 4, 1) := by rfl
theorem lf253 : fnd (m_il mL) 253 = some (.iadd, 1) := by rfl
theorem lf254 : fnd (m_il mL) 254 = some (.iaload, 1) := by rfl
theorem lf255 : fnd (m_il mL) 255 = some (.aload_n 0, 1) := by rfl
theorem lf256 : fnd (m_il mL) 256 = some (.iload_n 3, 1) := by rfl
theorem lf257 : fnd (m_il mL) 257 = some (.iconst 5, 1) := by rfl
theorem lf258 : fnd (m_il mL) 258 = some (.iadd, 1) := by rfl
theorem lf259 : fnd (m_il mL) 259 = some (.iaload, 1) := by rfl
theorem lf260 : fnd (m_il mL) 260 = some (.invokevirtual 17, 3) := by rfl
theorem lf263 : fnd (m_il mL) 263 = some (.pop, 1) := by rfl
theorem lf264 : fnd (m_il mL) 264 = some (.goto 1389, 3) := by rfl
theorem lf267 : fnd (m_il mL) 267 = some (.aload_n 1, 1) := by rfl
theorem lf268 : fnd (m_il mL) 268 = some (.aload_n 0, 1) := by rfl
theorem lf269 : fnd (m_il mL) 269 = some (.iload_n 3, 1) := by rfl
theorem lf270 : fnd (m_il mL) 270 = some (.iconst 1, 1) := by rfl
theorem lf271 : fnd (m_il mL) 271 = some (.iadd, 1) := by rfl
theorem lf272 : fnd (m_il mL) 272 = some (.iaload, 1) := by rfl
theorem lf273 : fnd (m_il mL) 273 = some (.invokevirtual 18, 3) := by rfl
theorem lf276 : fnd (m_il mL) 276 = some (.pop, 1) := by rfl
theorem lf277 : fnd (m_il mL) 277 = some (.aload_n 2, 1) := by rfl
theorem lf278 : fnd (m_il mL) 278 = some (.aload_n 0, 1) := by rfl
theorem lf279 : fnd (m_il mL) 279 = some (.iload_n 3, 1) := by rfl
theorem lf280 : fnd (m_il mL) 280 = some (.iconst 1, 1) := by rfl
theorem lf281 : fnd (m_il mL) 281 = some (.iadd, 1) := by rfl
theorem lf282 : fnd (m_il mL) 282 = some (.iaload, 1) := by rfl
theorem lf283 : fnd (m_il mL) 283 = some (.invokevirtual 22, 3) := by rfl
theorem lf286 : fnd (m_il mL) 286 = some (.pop, 1) := by rfl
theorem lf287 : fnd (m_il mL) 287 = some (.goto 1366, 3) := by rfl
theorem lf290 : fnd (m_il mL) 290 = some (.aload_n 1, 1) := by rfl
theorem lf291 : fnd (m_il mL) 291 = some (.invokevirtual 23, 3) := by rfl
theorem lf294 : fnd (m_il mL) 294 = some (.pop, 1) := by rfl
theorem lf295 : fnd (m_il mL) 295 = some (.aload_n 2, 1) := by rfl
theorem lf296 : fnd (m_il mL) 296 = some (.invokevirtual 27, 3) := by rfl
theorem lf299 : fnd (m_il mL) 299 = some (.pop, 1) := by rfl
theorem lf300 : fnd (m_il mL) 300 = some (.goto 1353, 3) := by rfl
theorem lf303 : fnd (m_il mL) 303 = some (.aload_n 1, 1) := by rfl
theorem lf304 : fnd (m_il mL) 304 = some (.invokevirtual 28, 3) := by rfl
theorem lf307 : fnd (m_il mL) 307 = some (.pop, 1) := by rfl
theorem lf308 : fnd (m_il mL) 308 = some (.aload_n 2, 1) := by rfl
theorem lf309 : fnd (m_il mL) 309 = some (.invokevirtual 31, 3) := by rfl
theorem lf312 : fnd (m_il mL) 312 = some (.pop, 1) := by rfl
theorem lf313 : fnd (m_il mL) 313 = some (.goto 1340, 3) := by rfl
theorem lf316 : fnd (m_il mL) 316 = some (.aload_n 1, 1) := by rfl
theorem lf317 : fnd (m_il mL) 317 = some (.aload_n 0, 1) := by rfl
theorem lf318 : fnd (m_il mL) 318 = some (.iload_n 3, 1) := by rfl
theorem lf319 : fnd (m_il mL) 319 = some (.iconst 1, 1) := by rfl
theorem lf320 : fnd (m_il mL) 320 = some (.iadd, 1) := by rfl
theorem lf321 : fnd (m_il mL) 321 = some (.iaload, 1) := by rfl
theorem lf322 : fnd (m_il mL) 322 = some (.aload_n 0, 1) := by rfl
theorem lf323 : fnd (m_il mL) 323 = some (.iload_n 3, 1) := by rfl
theorem lf324 : fnd (m_il mL) 324 = some (.iconst 2, 1) := by rfl
theorem lf325 : fnd (m_il mL) 325 = some (.iadd, 1) := by rfl
theorem lf326 : fnd (m_il mL) 326 = some (.iaload, 1) := by rfl
theorem lf327 : fnd (m_il mL) 327 = some (.aload_n 0, 1) := by rfl
theorem lf328 : fnd (m_il mL) 328 = some (.iload_n 3, 1) := by rfl
theorem lf329 : fnd (m_il mL) 329 = some (.iconst 3, 1) := by rfl
theorem lf330 : fnd (m_il mL) 330 = some (.iadd, 1) := by rfl
theorem lf331 : fnd (m_il mL) 331 = some (.iaload, 1) := by rfl
theorem lf332 : fnd (m_il mL) 332 = some (.invokevirtual 32, 3) := by rfl
theorem lf335 : fnd (m_il mL) 335 = some (.pop, 1) := by rfl
theorem lf336 : fnd (m_il mL) 336 = some (.aload_n 2, 1) := by rfl
theorem lf337 : fnd (m_il mL) 337 = some (.aload_n 0, 1) := by rfl
theorem lf338 : fnd (m_il mL) 338 = some (.iload_n 3, 1) := by rfl
theorem lf339 : fnd (m_il mL) 339 = some (.iconst 1, 1) := by rfl
theorem lf340 : fnd (m_il mL) 340 = some (.iadd, 1) := by rfl
theorem lf341 : fnd (m_il mL) 341 = some (.iaload, 1) := by rfl
theorem lf342 : fnd (m_il mL) 342 = some (.aload_n 0, 1) := by rfl
theorem lf343 : fnd (m_il mL) 343 = some (.iload_n 3, 1) := by rfl
theorem lf344 : fnd (m_il mL) 344 = some (.iconst 2, 1) := by rfl
theorem lf345 : fnd (m_il mL) 345 = some (.iadd, 1) := by rfl
theorem lf346 : fnd (m_il mL) 346 = some (.iaload, 1) := by rfl
theorem lf347 : fnd (m_il mL) 347 = some (.aload_n 0, 1) := by rfl
theorem lf348 : fnd (m_il mL) 348 = some (.iload_n 3, 1) := by rfl
theorem lf349 : fnd (m_il mL) 349 = some (.iconst 3, 1) := by rfl
theorem lf350 : fnd (m_il mL) 350 = some (.iadd, 1) := by rfl
theorem lf351 : fnd (m_il mL) 351 = some (.iaload, 1) := by rfl
theorem lf352 : fnd (m_il mL) 352 = some (.invokevirtual 36, 3) := by rfl
theorem lf355 : fnd (m_il mL) 355 = some (.pop, 1) := by rfl
theorem lf356 : fnd (m_il mL) 356 = some (.goto 1297, 3) := by rfl
theorem lf359 : fnd (m_il mL) 359 = some (.aload_n 1, 1) := by rfl
theorem lf360 : fnd (m_il mL) 360 = some (.aload_n 0, 1) := by rfl
theorem lf361 : fnd (m_il mL) 361 = some (.iload_n 3, 1) := by rfl
theorem lf362 : fnd (m_il mL) 362 = some (.iconst 1, 1) := by rfl
theorem lf363 : fnd (m_il mL) 363 = some (.iadd, 1) := by rfl
theorem lf364 : fnd (m_il mL) 364 = some (.iaload, 1) := by rfl
theorem lf365 : fnd (m_il mL) 365 = some (.aload_n 0, 1) := by rfl
theorem lf366 : fnd (m_il mL) 366 = some (.iload_n 3, 1) := by rfl
theorem lf367 : fnd (m_il mL) 367 = some (.iconst 2, 1) := by rfl
theorem lf368 : fnd (m_il mL) 368 = some (.iadd, 1) := by rfl
theorem lf369 : fnd (m_il mL) 369 = some (.iaload, 1) := by rfl
theorem lf370 : fnd (m_il mL) 370 = some (.invokevirtual 37, 3) := by rfl
theorem lf373 : fnd (m_il mL) 373 = some (.pop, 1) := by rfl
theorem lf374 : fnd (m_il mL) 374 = some (.aload_n 2, 1) := by rfl
theorem lf375 : fnd (m_il mL) 375 = some (.aload_n 0, 1) := by rfl
theorem lf376 : fnd (m_il mL) 376 = some (.iload_n 3, 1) := by rfl
theorem lf377 : fnd (m_il mL) 377 = some (.iconst 1, 1) := by rfl
theorem lf378 : fnd (m_il mL) 378 = some (.iadd, 1) := by rfl
theorem lf379 : fnd (m_il mL) 379 = some (.iaload, 1) := by rfl
theorem lf380 : fnd (m_il mL) 380 = some (.aload_n 0, 1) := by rfl
theorem lf381 : fnd (m_il mL) 381 = some (.iload_n 3, 1) := by rfl
theorem lf382 : fnd (m_il mL) 382 = some (.iconst 2, 1) := by rfl
theorem lf383 : fnd (m_il mL) 383 = some (.iadd, 1) := by rfl
theorem lf384 : fnd (m_il mL) 384 = some (.iaload, 1) := by rfl
theorem lf385 : fnd (m_il mL) 385 = some (.invokevirtual 41, 3) := by rfl
theorem lf388 : fnd (m_il mL) 388 = some (.pop, 1) := by rfl
theorem lf389 : fnd (m_il mL) 389 = some (.goto 1264, 3) := by rfl
theorem lf392 : fnd (m_il mL) 392 = some (.aload_n 1, 1) := by rfl
theorem lf393 : fnd (m_il mL) 393 = some (.aload_n 0, 1) := by rfl
theorem lf394 : fnd (m_il mL) 394 = some (.iload_n 3, 1) := by rfl
theorem lf395 : fnd (m_il mL) 395 = some (.iconst 1, 1) := by rfl
theorem lf396 : fnd (m_il mL) 396 = some (.iadd, 1) := by rfl
theorem lf397 : fnd (m_il mL) 397 = some (.iaload, 1) := by rfl
theorem lf398 : fnd (m_il mL) 398 = some (.aload_n 0, 1) := by rfl
theorem lf399 : fnd (m_il mL) 399 = some (.iload_n 3, 1) := by rfl
theorem lf400 : fnd (m_il mL) 400 = some (.iconst 2, 1) := by rfl
theorem lf401 : fnd (m_il mL) 401 = some (.iadd, 1) := by rfl
theorem lf402 : fnd (m_il mL) 402 = some (.iaload, 1) := by rfl
theorem lf403 : fnd (m_il mL) 403 = some (.invokevirtual 42, 3) := by rfl
theorem lf406 : fnd (m_il mL) 406 = some (.pop, 1) := by rfl
theorem lf407 : fnd (m_il mL) 407 = some (.aload_n 2, 1) := by rfl
theorem lf408 : fnd (m_il mL) 408 = some (.aload_n 0, 1) := by rfl
theorem lf409 : fnd (m_il mL) 409 = some (.iload_n 3, 1) := by rfl
theorem lf410 : fnd (m_il mL) 410 = some (.iconst 1, 1) := by rfl
theorem lf411 : fnd (m_il mL) 411 = some (.iadd, 1) := by rfl
theorem lf412 : fnd (m_il mL) 412 = some (.iaload, 1) := by rfl
theorem lf413 : fnd (m_il mL) 413 = some (.aload_n 0, 1) := by rfl
theorem lf414 : fnd (m_il mL) 414 = some (.iload_n 3, 1) := by rfl
theorem lf415 : fnd (m_il mL) 415 = some (.iconst 2, 1) := by rfl
theorem lf416 : fnd (m_il mL) 416 = some (.iadd, 1) := by rfl
theorem lf417 : fnd (m_il mL) 417 = some (.iaload, 1) := by rfl
theorem lf418 : fnd (m_il mL) 418 = some (.invokevirtual 45, 3) := by rfl
theorem lf421 : fnd (m_il mL) 421 = some (.pop, 1) := by rfl
theorem lf422 : fnd (m_il mL) 422 = some (.goto 1231, 3) := by rfl
theorem lf425 : fnd (m_il mL) 425 = some (.aload_n 1, 1) := by rfl
theorem lf426 : fnd (m_il mL) 426 = some (.aload_n 0, 1) := by rfl
theorem lf427 : fnd (m_il mL) 427 = some (.iload_n 3, 1) := by rfl
theorem lf428 : fnd (m_il mL) 428 = some (.iconst 1, 1) := by rfl
theorem lf429 : fnd (m_il mL) 429 = some (.iadd, 1) := by rfl
theorem lf430 : fnd (m_il mL) 430 = some (.iaload, 1) := by rfl
theorem lf431 : fnd (m_il mL) 431 = some (.invokevirtual 46, 3) := by rfl
theorem lf434 : fnd (m_il mL) 434 = some (.pop, 1) := by rfl
theorem lf435 : fnd (m_il mL) 435 = some (.aload_n 2, 1) := by rfl
theorem lf436 : fnd (m_il mL) 436 = some (.aload_n 0, 1) := by rfl
theorem lf437 : fnd (m_il mL) 437 = some (.iload_n 3, 1) := by rfl
theorem lf438 : fnd (m_il mL) 438 = some (.iconst 1, 1) := by rfl
theorem lf439 : fnd (m_il mL) 439 = some (.iadd, 1) := by rfl
theorem lf440 : fnd (m_il mL) 440 = some (.iaload, 1) := by rfl
theorem lf441 : fnd (m_il mL) 441 = some (.invokevirtual 49, 3) := by rfl
theorem lf444 : fnd (m_il mL) 444 = some (.pop, 1) := by rfl
theorem lf445 : fnd (m_il mL) 445 = some (.goto 1208, 3) := by rfl
theorem lf448 : fnd (m_il mL) 448 = some (.aload_n 1, 1) := by rfl
theorem lf449 : fnd (m_il mL) 449 = some (.aload_n 0, 1) := by rfl
theorem lf450 : fnd (m_il mL) 450 = some (.iload_n 3, 1) := by rfl
theorem lf451 : fnd (m_il mL) 451 = some (.iconst 1, 1) := by rfl
theorem lf452 : fnd (m_il mL) 452 = some (.iadd, 1) := by rfl
theorem lf453 : fnd (m_il mL) 453 = some (.iaload, 1) := by rfl
theorem lf454 : fnd (m_il mL) 454 = some (.invokevirtual 50, 3) := by rfl
theorem lf457 : fnd (m_il mL) 457 = some (.pop, 1) := by rfl
theorem lf458 : fnd (m_il mL) 458 = some (.aload_n 2, 1) := by rfl
theorem lf459 : fnd (m_il mL) 459 = some (.aload_n 0, 1) := by rfl
theorem lf460 : fnd (m_il mL) 460 = some (.iload_n 3, 1) := by rfl
theorem lf461 : fnd (m_il mL) 461 = some (.iconst 1, 1) := by rfl
theorem lf462 : fnd (m_il mL) 462 = some (.iadd, 1) := by rfl
theorem lf463 : fnd (m_il mL) 463 = some (.iaload, 1) := by rfl
theorem lf464 : fnd (m_il mL) 464 = some (.invokevirtual 53, 3) := by rfl
theorem lf467 : fnd (m_il mL) 467 = some (.pop, 1) := by rfl
theorem lf468 : fnd (m_il mL) 468 = some (.goto 1185, 3) := by rfl
theorem lf471 : fnd (m_il mL) 471 = some (.aload_n 1, 1) := by rfl
theorem lf472 : fnd (m_il mL) 472 = some (.aload_n 0, 1) := by rfl
theorem lf473 : fnd (m_il mL) 473 = some (.iload_n 3, 1) := by rfl
theorem lf474 : fnd (m_il mL) 474 = some (.iconst 1, 1) := by rfl
theorem lf475 : fnd (m_il mL) 475 = some (.iadd, 1) := by rfl
theorem lf476 : fnd (m_il mL) 476 = some (.iaload, 1) := by rfl
theorem lf477 : fnd (m_il mL) 477 = some (.aload_n 0, 1) := by rfl
theorem lf478 : fnd (m_il mL) 478 = some (.iload_n 3, 1) := by rfl
theorem lf479 : fnd (m_il mL) 479 = some (.iconst 2, 1) := by rfl
theorem lf480 : fnd (m_il mL) 480 = some (.iadd, 1) := by rfl
theorem lf481 : fnd (m_il mL) 481 = some (.iaload, 1) := by rfl
theorem lf482 : fnd (m_il mL) 482 = some (.invokevirtual 54, 3) := by rfl
theorem lf485 : fnd (m_il mL) 485 = some (.pop, 1) := by rfl
theorem lf486 : fnd (m_il mL) 486 = some (.aload_n 2, 1) := by rfl
theorem lf487 : fnd (m_il mL) 487 = some (.aload_n 0, 1) := by rfl
theorem lf488 : fnd (m_il mL) 488 = some (.iload_n 3, 1) := by rfl
theorem lf489 : fnd (m_il mL) 489 = some (.iconst 1, 1) := by rfl
theorem lf490 : fnd (m_il mL) 490 = some (.iadd, 1) := by rfl
theorem lf491 : fnd (m_il mL) 491 = some (.iaload, 1) := by rfl
theorem lf492 : fnd (m_il mL) 492 = some (.aload_n 0, 1) := by rfl
theorem lf493 : fnd (m_il mL) 493 = some (.iload_n 3, 1) := by rfl
theorem lf494 : fnd (m_il mL) 494 = some (.iconst 2, 1) := by rfl
theorem lf495 : fnd (m_il mL) 495 = some (.iadd, 1) := by rfl
theorem lf496 : fnd (m_il mL) 496 = some (.iaload, 1) := by rfl
theorem lf497 : fnd (m_il mL) 497 = some (.invokevirtual 57, 3) := by rfl
theorem lf500 : fnd (m_il mL) 500 = some (.pop, 1) := by rfl
theorem lf501 : fnd (m_il mL) 501 = some (.goto 1152, 3) := by rfl
theorem lf504 : fnd (m_il mL) 504 = some (.aload_n 1, 1) := by rfl
theorem lf505 : fnd (m_il mL) 505 = some (.aload_n 0, 1) := by rfl
theorem lf506 : fnd (m_il mL) 506 = some (.iload_n 3, 1) := by rfl
theorem lf507 : fnd (m_il mL) 507 = some (.iconst 1, 1) := by rfl
theorem lf508 : fnd (m_il mL) 508 = some (.iadd, 1) := by rfl
theorem lf509 : fnd (m_il mL) 509 = some (.iaload, 1) := by rfl
theorem lf510 : fnd (m_il mL) 510 = some (.aload_n 0, 1) := by rfl
theorem lf511 : fnd (m_il mL) 511 = some (.iload_n 3, 1) := by rfl
theorem lf512 : fnd (m_il mL) 512 = some (.iconst 2, 1) := by rfl
theorem lf513 : fnd (m_il mL) 513 = some (.iadd, 1) := by rfl
theorem lf514 : fnd (m_il mL) 514 = some (.iaload, 1) := by rfl
theorem lf515 : fnd (m_il mL) 515 = some (.invokevirtual 58, 3) := by rfl
theorem lf518 : fnd (m_il mL) 518 = some (.pop, 1) := by rfl
theorem lf519 : fnd (m_il mL) 519 = some (.aload_n 2, 1) := by rfl
theorem lf520 : fnd (m_il mL) 520 = some (.aload_n 0, 1) := by rfl
theorem lf521 : fnd (m_il mL) 521 = some (.iload_n 3, 1) := by rfl
theorem lf522 : fnd (m_il mL) 522 = some (.iconst 1, 1) := by rfl
theorem lf523 : fnd (m_il mL) 523 = some (.iadd, 1) := by rfl
theorem lf524 : fnd (m_il mL) 524 = some (.iaload, 1) := by rfl
theorem lf525 : fnd (m_il mL) 525 = some (.aload_n 0, 1) := by rfl
theorem lf526 : fnd (m_il mL) 526 = some (.iload_n 3, 1) := by rfl
theorem lf527 : fnd (m_il mL) 527 = some (.iconst 2, 1) := by rfl
theorem lf528 : fnd (m_il mL) 528 = some (.iadd, 1) := by rfl
theorem lf529 : fnd (m_il mL) 529 = some (.iaload, 1) := by rfl
theorem lf530 : fnd (m_il mL) 530 = some (.invokevirtual 61, 3) := by rfl
theorem lf533 : fnd (m_il mL) 533 = some (.pop, 1) := by rfl
theorem lf534 : fnd (m_il mL) 534 = some (.goto 1119, 3) := by rfl
theorem lf537 : fnd (m_il mL) 537 = some (.aload_n 1, 1) := by rfl
theorem lf538 : fnd (m_il mL) 538 = some (.aload_n 0, 1) := by rfl
theorem lf539 : fnd (m_il mL) 539 = some (.iload_n 3, 1) := by rfl
theorem lf540 : fnd (m_il mL) 540 = some (.iconst 1, 1) := by rfl
theorem lf541 : fnd (m_il mL) 541 = some (.iadd, 1) := by rfl
theorem lf542 : fnd (m_il mL) 542 = some (.iaload, 1) := by rfl
theorem lf543 : fnd (m_il mL) 543 = some (.aload_n 0, 1) := by rfl
theorem lf544 : fnd (m_il mL) 544 = some (.iload_n 3, 1) := by rfl
theorem lf545 : fnd (m_il mL) 545 = some (.iconst 2, 1) := by rfl
theorem lf546 : fnd (m_il mL) 546 = some (.iadd, 1) := by rfl
theorem lf547 : fnd (m_il mL) 547 = some (.iaload, 1) := by rfl
theorem lf548 : fnd (m_il mL) 548 = some (.aload_n 0, 1) := by rfl
theorem lf549 : fnd (m_il mL) 549 = some (.iload_n 3, 1) := by rfl
theorem lf550 : fnd (m_il mL) 550 = some (.iconst 3, 1) := by rfl
theorem lf551 : fnd (m_il mL) 551 = some (.iadd, 1) := by rfl
theorem lf552 : fnd (m_il mL) 552 = some (.iaload, 1) := by rfl
theorem lf553 : fnd (m_il mL) 553 = some (.aload_n 0, 1) := by rfl
theorem lf554 : fnd (m_il mL) 554 = some (.iload_n 3, 1) := by rfl
theorem lf555 : fnd (m_il mL) 555 = some (.iconst 4, 1) := by rfl
theorem lf556 : fnd (m_il mL) 556 = some (.iadd, 1) := by rfl
theorem lf557 : fnd (m_il mL) 557 = some (.iaload, 1) := by rfl
theorem lf558 : fnd (m_il mL) 558 = some (.invokevirtual 62, 3) := by rfl
theorem lf561 : fnd (m_il mL) 561 = some (.pop, 1) := by rfl
theorem lf562 : fnd (m_il mL) 562 = some (.aload_n 2, 1) := by rfl
theorem lf563 : fnd (m_il mL) 563 = some (.aload_n 0, 1) := by rfl
theorem lf564 : fnd (m_il mL) 564 = some (.iload_n 3, 1) := by rfl
theorem lf565 : fnd (m_il mL) 565 = some (.iconst 1, 1) := by rfl
theorem lf566 : fnd (m_il mL) 566 = some (.iadd, 1) := by rfl
theorem lf567 : fnd (m_il mL) 567 = some (.iaload, 1) := by rfl
theorem lf568 : fnd (m_il mL) 568 = some (.aload_n 0, 1) := by rfl
theorem lf569 : fnd (m_il mL) 569 = some (.iload_n 3, 1) := by rfl
theorem lf570 : fnd (m_il mL) 570 = some (.iconst 2, 1) := by rfl
theorem lf571 : fnd (m_il mL) 571 = some (.iadd, 1) := by rfl
theorem lf572 : fnd (m_il mL) 572 = some (.iaload, 1) := by rfl
theorem lf573 : fnd (m_il mL) 573 = some (.aload_n 0, 1) := by rfl
theorem lf574 : fnd (m_il mL) 574 = some (.iload_n 3, 1) := by rfl
theorem lf575 : fnd (m_il mL) 575 = some (.iconst 3, 1) := by rfl
theorem lf576 : fnd (m_il mL) 576 = some (.iadd, 1) := by rfl
theorem lf577 : fnd (m_il mL) 577 = some (.iaload, 1) := by rfl
theorem lf578 : fnd (m_il mL) 578 = some (.aload_n 0, 1) := by rfl
theorem lf579 : fnd (m_il mL) 579 = some (.iload_n 3, 1) := by rfl
theorem lf580 : fnd (m_il mL) 580 = some (.iconst 4, 1) := by rfl
theorem lf581 : fnd (m_il mL) 581 = some (.iadd, 1) := by rfl
theorem lf582 : fnd (m_il mL) 582 = some (.iaload, 1) := by rfl
theorem lf583 : fnd (m_il mL) 583 = some (.invokevirtual 66, 3) := by rfl
theorem lf586 : fnd (m_il mL) 586 = some (.pop, 1) := by rfl
theorem lf587 : fnd (m_il mL) 587 = some (.goto 1066, 3) := by rfl
theorem lf590 : fnd (m_il mL) 590 = some (.aload_n 1, 1) := by rfl
theorem lf591 : fnd (m_il mL) 591 = some (.aload_n 0, 1) := by rfl
theorem lf592 : fnd (m_il mL) 592 = some (.iload_n 3, 1) := by rfl
theorem lf593 : fnd (m_il mL) 593 = some (.iconst 1, 1) := by rfl
theorem lf594 : fnd (m_il mL) 594 = some (.iadd, 1) := by rfl
theorem lf595 : fnd (m_il mL) 595 = some (.iaload, 1) := by rfl
theorem lf596 : fnd (m_il mL) 596 = some (.aload_n 0, 1) := by rfl
theorem lf597 : fnd (m_il mL) 597 = some (.iload_n 3, 1) := by rfl
theorem lf598 : fnd (m_il mL) 598 = some (.iconst 2, 1) := by rfl
theorem lf599 : fnd (m_il mL) 599 = some (.iadd, 1) := by rfl
theorem lf600 : fnd (m_il mL) 600 = some (.iaload, 1) := by rfl
theorem lf601 : fnd (m_il mL) 601 = some (.aload_n 0, 1) := by rfl
theorem lf602 : fnd (m_il mL) 602 = some (.iload_n 3, 1) := by rfl
theorem lf603 : fnd (m_il mL) 603 = some (.iconst 3, 1) := by rfl
theorem lf604 : fnd (m_il mL) 604 = some (.iadd, 1) := by rfl
theorem lf605 : fnd (m_il mL) 605 = some (.iaload, 1) := by rfl
theorem lf606 : fnd (m_il mL) 606 = some (.aload_n 0, 1) := by rfl
theorem lf607 : fnd (m_il mL) 607 = some (.iload_n 3, 1) := by rfl
theorem lf608 : fnd (m_il mL) 608 = some (.iconst 4, 1) := by rfl
theorem lf609 : fnd (m_il mL) 609 = some (.iadd, 1) := by rfl
theorem lf610 : fnd (m_il mL) 610 = some (.iaload, 1) := by rfl
theorem lf611 : fnd (m_il mL) 611 = some (.invokevirtual 67, 3) := by rfl
theorem lf614 : fnd (m_il mL) 614 = some (.pop, 1) := by rfl
theorem lf615 : fnd (m_il mL) 615 = some (.aload_n 2, 1) := by rfl
theorem lf616 : fnd (m_il mL) 616 = some (.aload_n 0, 1) := by rfl
theorem lf617 : fnd (m_il mL) 617 = some (.iload_n 3, 1) := by rfl
theorem lf618 : fnd (m_il mL) 618 = some (.iconst 1, 1) := by rfl
theorem lf619 : fnd (m_il mL) 619 = some (.iadd, 1) := by rfl
theorem lf620 : fnd (m_il mL) 620 = some (.iaload, 1) := by rfl
theorem lf621 : fnd (m_il mL) 621 = some (.aload_n 0, 1) := by rfl
theorem lf622 : fnd (m_il mL) 622 = some (.iload_n 3, 1) := by rfl
theorem lf623 : fnd (m_il mL) 623 = some (.iconst 2, 1) := by rfl
theorem lf624 : fnd (m_il mL) 624 = some (.iadd, 1) := by rfl
theorem lf625 : fnd (m_il mL) 625 = some (.iaload, 1) := by rfl
theorem lf626 : fnd (m_il mL) 626 = some (.aload_n 0, 1) := by rfl
theorem lf627 : fnd (m_il mL) 627 = some (.iload_n 3, 1) := by rfl
theorem lf628 : fnd (m_il mL) 628 = some (.iconst 3, 1) := by rfl
theorem lf629 : fnd (m_il mL) 629 = some (.iadd, 1) := by rfl
theorem lf630 : fnd (m_il mL) 630 = some (.iaload, 1) := by rfl
theorem lf631 : fnd (m_il mL) 631 = some (.aload_n 0, 1) := by rfl
theorem lf632 : fnd (m_il mL) 632 = some (.iload_n 3, 1) := by rfl
theorem lf633 : fnd (m_il mL) 633 = some (.iconst 4, 1) := by rfl
theorem lf634 : fnd (m_il mL) 634 = some (.iadd, 1) := by rfl
theorem lf635 : fnd (m_il mL) 635 = some (.iaload, 1) := by rfl
theorem lf636 : fnd (m_il mL) 636 = some (.invokevirtual 70, 3) := by rfl
theorem lf639 : fnd (m_il mL) 639 = some (.pop, 1) := by rfl
theorem lf640 : fnd (m_il mL) 640 = some (.goto 1013, 3) := by rfl
theorem lf643 : fnd (m_il mL) 643 = some (.aload_n 1, 1) := by rfl
theorem lf644 : fnd (m_il mL) 644 = some (.aload_n 0, 1) := by rfl
theorem lf645 : fnd (m_il mL) 645 = some (.iload_n 3, 1) := by rfl
theorem lf646 : fnd (m_il mL) 646 = some (.iconst 1, 1) := by rfl
theorem lf647 : fnd (m_il mL) 647 = some (.iadd, 1) := by rfl
theorem lf648 : fnd (m_il mL) 648 = some (.iaload, 1) := by rfl
theorem lf649 : fnd (m_il mL) 649 = some (.aload_n 0, 1) := by rfl
theorem lf650 : fnd (m_il mL) 650 = some (.iload_n 3, 1) := by rfl
theorem lf651 : fnd (m_il mL) 651 = some (.iconst 2, 1) := by rfl
theorem lf652 : fnd (m_il mL) 652 = some (.iadd, 1) := by rfl
theorem lf653 : fnd (m_il mL) 653 = some (.iaload, 1) := by rfl
theorem lf654 : fnd (m_il mL) 654 = some (.invokevirtual 71, 3) := by rfl
theorem lf657 : fnd (m_il mL) 657 = some (.pop, 1) := by rfl
theorem lf658 : fnd (m_il mL) 658 = some (.aload_n 2, 1) := by rfl
theorem lf659 : fnd (m_il mL) 659 = some (.aload_n 0, 1) := by rfl
theorem lf660 : fnd (m_il mL) 660 = some (.iload_n 3, 1) := by rfl
theorem lf661 : fnd (m_il mL) 661 = some (.iconst 1, 1) := by rfl
theorem lf662 : fnd (m_il mL) 662 = some (.iadd, 1) := by rfl
theorem lf663 : fnd (m_il mL) 663 = some (.iaload, 1) := by rfl
theorem lf664 : fnd (m_il mL) 664 = some (.aload_n 0, 1) := by rfl
theorem lf665 : fnd (m_il mL) 665 = some (.iload_n 3, 1) := by rfl
theorem lf666 : fnd (m_il mL) 666 = some (.iconst 2, 1) := by rfl
theorem lf667 : fnd (m_il mL) 667 = some (.iadd, 1) := by rfl
theorem lf668 : fnd (m_il mL) 668 = some (.iaload, 1) := by rfl
theorem lf669 : fnd (m_il mL) 669 = some (.invokevirtual 74, 3) := by rfl
theorem lf672 : fnd (m_il mL) 672 = some (.pop, 1) := by rfl
theorem lf673 : fnd (m_il mL) 673 = some (.goto 980, 3) := by rfl
theorem lf676 : fnd (m_il mL) 676 = some (.aload_n 1, 1) := by rfl
theorem lf677 : fnd (m_il mL) 677 = some (.aload_n 0, 1) := by rfl
theorem lf678 : fnd (m_il mL) 678 = some (.iload_n 3, 1) := by rfl
theorem lf679 : fnd (m_il mL) 679 = some (.iconst 1, 1) := by rfl
theorem lf680 : fnd (m_il mL) 680 = some (.iadd, 1) := by rfl
theorem lf681 : fnd (m_il mL) 681 = some (.iaload, 1) := by rfl
theorem lf682 : fnd (m_il mL) 682 = some (.aload_n 0, 1) := by rfl
theorem lf683 : fnd (m_il mL) 683 = some (.iload_n 3, 1) := by rfl
theorem lf684 : fnd (m_il mL) 684 = some (.iconst 2, 1) := by rfl
theorem lf685 : fnd (m_il mL) 685 = some (.iadd, 1) := by rfl
theorem lf686 : fnd (m_il mL) 686 = some (.iaload, 1) := by rfl
theorem lf687 : fnd (m_il mL) 687 = some (.aload_n 0, 1) := by rfl
theorem lf688 : fnd (m_il mL) 688 = some (.iload_n 3, 1) := by rfl
theorem lf689 : fnd (m_il mL) 689 = some (.iconst 3, 1) := by rfl
theorem lf690 : fnd (m_il mL) 690 = some (.iadd, 1) := by rfl
theorem lf691 : fnd (m_il mL) 691 = some (.iaload, 1) := by rfl
theorem lf692 : fnd (m_il mL) 692 = some (.invokevirtual 75, 3) := by rfl
theorem lf695 : fnd (m_il mL) 695 = some (.pop, 1) := by rfl
theorem lf696 : fnd (m_il mL) 696 = some (.aload_n 2, 1) := by rfl
theorem lf697 : fnd (m_il mL) 697 = some (.aload_n 0, 1) := by rfl
theorem lf698 : fnd (m_il mL) 698 = some (.iload_n 3, 1) := by rfl
theorem lf699 : fnd (m_il mL) 699 = some (.iconst 1, 1) := by rfl
theorem lf700 : fnd (m_il mL) 700 = some (.iadd, 1) := by rfl
theorem lf701 : fnd (m_il mL) 701 = some (.iaload, 1) := by rfl
theorem lf702 : fnd (m_il mL) 702 = some (.aload_n 0, 1) := by rfl
theorem lf703 : fnd (m_il mL) 703 = some (.iload_n 3, 1) := by rfl
theorem lf704 : fnd (m_il mL) 704 = some (.iconst 2, 1) := by rfl
theorem lf705 : fnd (m_il mL) 705 = some (.iadd, 1) := by rfl
theorem lf706 : fnd (m_il mL) 706 = some (.iaload, 1) := by rfl
theorem lf707 : fnd (m_il mL) 707 = some (.aload_n 0, 1) := by rfl
theorem lf708 : fnd (m_il mL) 708 = some (.iload_n 3, 1) := by rfl
theorem lf709 : fnd (m_il mL) 709 = some (.iconst 3, 1) := by rfl
theorem lf710 : fnd (m_il mL) 710 = some (.iadd, 1) := by rfl
theorem lf711 : fnd (m_il mL) 711 = some (.iaload, 1) := by rfl
theorem lf712 : fnd (m_il mL) 712 = some (.invokevirtual 78, 3) := by rfl
theorem lf715 : fnd (m_il mL) 715 = some (.pop, 1) := by rfl
theorem lf716 : fnd (m_il mL) 716 = some (.goto 937, 3) := by rfl
theorem lf719 : fnd (m_il mL) 719 = some (.aload_n 1, 1) := by rfl
theorem lf720 : fnd (m_il mL) 720 = some (.aload_n 0, 1) := by rfl
theorem lf721 : fnd (m_il mL) 721 = some (.iload_n 3, 1) := by rfl
theorem lf722 : fnd (m_il mL) 722 = some (.iconst 1, 1) := by rfl
theorem lf723 : fnd (m_il mL) 723 = some (.iadd, 1) := by rfl
theorem lf724 : fnd (m_il mL) 724 = some (.iaload, 1) := by rfl
theorem lf725 : fnd (m_il mL) 725 = some (.invokevirtual 79, 3) := by rfl
theorem lf728 : fnd (m_il mL) 728 = some (.pop, 1) := by rfl
theorem lf729 : fnd (m_il mL) 729 = some (.aload_n 2, 1) := by rfl
theorem lf730 : fnd (m_il mL) 730 = some (.aload_n 0, 1) := by rfl
theorem lf731 : fnd (m_il mL) 731 = some (.iload_n 3, 1) := by rfl
theorem lf732 : fnd (m_il mL) 732 = some (.iconst 1, 1) := by rfl
theorem lf733 : fnd (m_il mL) 733 = some (.iadd, 1) := by rfl
theorem lf734 : fnd (m_il mL) 734 = some (.iaload, 1) := by rfl
theorem lf735 : fnd (m_il mL) 735 = some (.invokevirtual 82, 3) := by rfl
theorem lf738 : fnd (m_il mL) 738 = some (.pop, 1) := by rfl
theorem lf739 : fnd (m_il mL) 739 = some (.goto 914, 3) := by rfl
theorem lf742 : fnd (m_il mL) 742 = some (.aload_n 1, 1) := by rfl
theorem lf743 : fnd (m_il mL) 743 = some (.aload_n 0, 1) := by rfl
theorem lf744 : fnd (m_il mL) 744 = some (.iload_n 3, 1) := by rfl
theorem lf745 : fnd (m_il mL) 745 = some (.iconst 1, 1) := by rfl
theorem lf746 : fnd (m_il mL) 746 = some (.iadd, 1) := by rfl
theorem lf747 : fnd (m_il mL) 747 = some (.iaload, 1) := by rfl
theorem lf748 : fnd (m_il mL) 748 = some (.aload_n 0, 1) := by rfl
theorem lf749 : fnd (m_il mL) 749 = some (.iload_n 3, 1) := by rfl
theorem lf750 : fnd (m_il mL) 750 = some (.iconst 2, 1) := by rfl
theorem lf751 : fnd (m_il mL) 751 = some (.iadd, 1) := by rfl
theorem lf752 : fnd (m_il mL) 752 = some (.iaload, 1) := by rfl
theorem lf753 : fnd (m_il mL) 753 = some (.aload_n 0, 1) := by rfl
theorem lf754 : fnd (m_il mL) 754 = some (.iload_n 3, 1) := by rfl
theorem lf755 : fnd (m_il mL) 755 = some (.iconst 3, 1) := by rfl
theorem lf756 : fnd (m_il mL) 756 = some (.iadd, 1) := by rfl
theorem lf757 : fnd (m_il mL) 757 = some (.iaload, 1) := by rfl
theorem lf758 : fnd (m_il mL) 758 = some (.aload_n 0, 1) := by rfl
theorem lf759 : fnd (m_il mL) 759 = some (.iload_n 3, 1) := by rfl
theorem lf760 : fnd (m_il mL) 760 = some (.iconst 4, 1) := by rfl
theorem lf761 : fnd (m_il mL) 761 = some (.iadd, 1) := by rfl
theorem lf762 : fnd (m_il mL) 762 = some (.iaload, 1) := by rfl
theorem lf763 : fnd (m_il mL) 763 = some (.invokevirtual 83, 3) := by rfl
theorem lf766 : fnd (m_il mL) 766 = some (.pop, 1) := by rfl
theorem lf767 : fnd (m_il mL) 767 = some (.aload_n 2, 1) := by rfl
theorem lf768 : fnd (m_il mL) 768 = some (.aload_n 0, 1) := by rfl
theorem lf769 : fnd (m_il mL) 769 = some (.iload_n 3, 1) := by rfl
theorem lf770 : fnd (m_il mL) 770 = some (.iconst 1, 1) := by rfl
theorem lf771 : fnd (m_il mL) 771 = some (.iadd, 1) := by rfl
theorem lf772 : fnd (m_il mL) 772 = some (.iaload, 1) := by rfl
theorem lf773 : fnd (m_il mL) 773 = some (.aload_n 0, 1) := by rfl
theorem lf774 : fnd (m_il mL) 774 = some (.iload_n 3, 1) := by rfl
theorem lf775 : fnd (m_il mL) 775 = some (.iconst 2, 1) := by rfl
theorem lf776 : fnd (m_il mL) 776 = some (.iadd, 1) := by rfl
theorem lf777 : fnd (m_il mL) 777 = some (.iaload, 1) := by rfl
theorem lf778 : fnd (m_il mL) 778 = some (.aload_n 0, 1) := by rfl
theorem lf779 : fnd (m_il mL) 779 = some (.iload_n 3, 1) := by rfl
theorem lf780 : fnd (m_il mL) 780 = some (.iconst 3, 1) := by rfl
theorem lf781 : fnd (m_il mL) 781 = some (.iadd, 1) := by rfl
theorem lf782 : fnd (m_il mL) 782 = some (.iaload, 1) := by rfl
theorem lf783 : fnd (m_il mL) 783 = some (.aload_n 0, 1) := by rfl
theorem lf784 : fnd (m_il mL) 784 = some (.iload_n 3, 1) := by rfl
theorem lf785 : fnd (m_il mL) 785 = some (.iconst 4, 1) := by rfl
theorem lf786 : fnd (m_il mL) 786 = some (.iadd, 1) := by rfl
theorem lf787 : fnd (m_il mL) 787 = some (.iaload, 1) := by rfl
theorem lf788 : fnd (m_il mL) 788 = some (.invokevirtual 86, 3) := by rfl
theorem lf791 : fnd (m_il mL) 791 = some (.pop, 1) := by rfl
theorem lf792 : fnd (m_il mL) 792 = some (.goto 861, 3) := by rfl
theorem lf795 : fnd (m_il mL) 795 = some (.aload_n 1, 1) := by rfl
theorem lf796 : fnd (m_il mL) 796 = some (.aload_n 0, 1) := by rfl
theorem lf797 : fnd (m_il mL) 797 = some (.iload_n 3, 1) := by rfl
theorem lf798 : fnd (m_il mL) 798 = some (.iconst 1, 1) := by rfl
theorem lf799 : fnd (m_il mL) 799 = some (.iadd, 1) := by rfl
theorem lf800 : fnd (m_il mL) 800 = some (.iaload, 1) := by rfl
theorem lf801 : fnd (m_il mL) 801 = some (.aload_n 0, 1) := by rfl
theorem lf802 : fnd (m_il mL) 802 = some (.iload_n 3, 1) := by rfl
theorem lf803 : fnd (m_il mL) 803 = some (.iconst 2, 1) := by rfl
theorem lf804 : fnd (m_il mL) 804 = some (.iadd, 1) := by rfl
theorem lf805 : fnd (m_il mL) 805 = some (.iaload, 1) := by rfl
theorem lf806 : fnd (m_il mL) 806 = some (.invokevirtual 87, 3) := by rfl
theorem lf809 : fnd (m_il mL) 809 = some (.pop, 1) := by rfl
theorem lf810 : fnd (m_il mL) 810 = some (.aload_n 2, 1) := by rfl
theorem lf811 : fnd (m_il mL) 811 = some (.aload_n 0, 1) := by rfl
theorem lf812 : fnd (m_il mL) 812 = some (.iload_n 3, 1) := by rfl
theorem lf813 : fnd (m_il mL) 813 = some (.iconst 1, 1) := by rfl
theorem lf814 : fnd (m_il mL) 814 = some (.iadd, 1) := by rfl
theorem lf815 : fnd (m_il mL) 815 = some (.iaload, 1) := by rfl
theorem lf816 : fnd (m_il mL) 816 = some (.aload_n 0, 1) := by rfl
theorem lf817 : fnd (m_il mL) 817 = some (.iload_n 3, 1) := by rfl
theorem lf818 : fnd (m_il mL) 818 = some (.iconst 2, 1) := by rfl
theorem lf819 : fnd (m_il mL) 819 = some (.iadd, 1) := by rfl
theorem lf820 : fnd (m_il mL) 820 = some (.iaload, 1) := by rfl
theorem lf821 : fnd (m_il mL) 821 = some (.invokevirtual 90, 3) := by rfl
theorem lf824 : fnd (m_il mL) 824 = some (.pop, 1) := by rfl
theorem lf825 : fnd (m_il mL) 825 = some (.goto 828, 3) := by rfl
theorem lf828 : fnd (m_il mL) 828 = some (.aload_n 1, 1) := by rfl
theorem lf829 : fnd (m_il mL) 829 = some (.aload_n 0, 1) := by rfl
theorem lf830 : fnd (m_il mL) 830 = some (.iload_n 3, 1) := by rfl
theorem lf831 : fnd (m_il mL) 831 = some (.iconst 1, 1) := by rfl
theorem lf832 : fnd (m_il mL) 832 = some (.iadd, 1) := by rfl
theorem lf833 : fnd (m_il mL) 833 = some (.iaload, 1) := by rfl
theorem lf834 : fnd (m_il mL) 834 = some (.aload_n 0, 1) := by rfl
theorem lf835 : fnd (m_il mL) 835 = some (.iload_n 3, 1) := by rfl
theorem lf836 : fnd (m_il mL) 836 = some (.iconst 2, 1) := by rfl
theorem lf837 : fnd (m_il mL) 837 = some (.iadd, 1) := by rfl
theorem lf838 : fnd (m_il mL) 838 = some (.iaload, 1) := by rfl
theorem lf839 : fnd (m_il mL) 839 = some (.aload_n 0, 1) := by rfl
theorem lf840 : fnd (m_il mL) 840 = some (.iload_n 3, 1) := by rfl
theorem lf841 : fnd (m_il mL) 841 = some (.iconst 3, 1) := by rfl
theorem lf842 : fnd (m_il mL) 842 = some (.iadd, 1) := by rfl
theorem lf843 : fnd (m_il mL) 843 = some (.iaload, 1) := by rfl
theorem lf844 : fnd (m_il mL) 844 = some (.invokevirtual 91, 3) := by rfl
theorem lf847 : fnd (m_il mL) 847 = some (.pop, 1) := by rfl
theorem lf848 : fnd (m_il mL) 848 = some (.aload_n 2, 1) := by rfl
theorem lf849 : fnd (m_il mL) 849 = some (.aload_n 0, 1) := by rfl
theorem lf850 : fnd (m_il mL) 850 = some (.iload_n 3, 1) := by rfl
theorem lf851 : fnd (m_il mL) 851 = some (.iconst 1, 1) := by rfl
theorem lf852 : fnd (m_il mL) 852 = some (.iadd, 1) := by rfl
theorem lf853 : fnd (m_il mL) 853 = some (.iaload, 1) := by rfl
theorem lf854 : fnd (m_il mL) 854 = some (.aload_n 0, 1) := by rfl
theorem lf855 : fnd (m_il mL) 855 = some (.iload_n 3, 1) := by rfl
theorem lf856 : fnd (m_il mL) 856 = some (.iconst 2, 1) := by rfl
theorem lf857 : fnd (m_il mL) 857 = some (.iadd, 1) := by rfl
theorem lf858 : fnd (m_il mL) 858 = some (.iaload, 1) := by rfl
theorem lf859 : fnd (m_il mL) 859 = some (.aload_n 0, 1) := by rfl
theorem lf860 : fnd (m_il mL) 860 = some (.iload_n 3, 1) := by rfl
theorem lf861 : fnd (m_il mL) 861 = some (.iconst 3, 1) := by rfl
theorem lf862 : fnd (m_il mL) 862 = some (.iadd, 1) := by rfl
theorem lf863 : fnd (m_il mL) 863 = some (.iaload, 1) := by rfl
theorem lf864 : fnd (m_il mL) 864 = some (.invokevirtual 94, 3) := by rfl
theorem lf867 : fnd (m_il mL) 867 = some (.pop, 1) := by rfl
theorem lf868 : fnd (m_il mL) 868 = some (.goto 785, 3) := by rfl
theorem lf871 : fnd (m_il mL) 871 = some (.aload_n 1, 1) := by rfl
theorem lf872 : fnd (m_il mL) 872 = some (.aload_n 0, 1) := by rfl
theorem lf873 : fnd (m_il mL) 873 = some (.iload_n 3, 1) := by rfl
theorem lf874 : fnd (m_il mL) 874 = some (.iconst 1, 1) := by rfl
theorem lf875 : fnd (m_il mL) 875 = some (.iadd, 1) := by rfl
theorem lf876 : fnd (m_il mL) 876 = some (.iaload, 1) := by rfl
theorem lf877 : fnd (m_il mL) 877 = some (.aload_n 0, 1) := by rfl
theorem lf878 : fnd (m_il mL) 878 = some (.iload_n 3, 1) := by rfl
theorem lf879 : fnd (m_il mL) 879 = some (.iconst 2, 1) := by rfl
theorem lf880 : fnd (m_il mL) 880 = some (.iadd, 1) := by rfl
theorem lf881 : fnd (m_il mL) 881 = some (.iaload, 1) := by rfl
theorem lf882 : fnd (m_il mL) 882 = some (.aload_n 0, 1) := by rfl
theorem lf883 : fnd (m_il mL) 883 = some (.iload_n 3, 1) := by rfl
theorem lf884 : fnd (m_il mL) 884 = some (.iconst 3, 1) := by rfl
theorem lf885 : fnd (m_il mL) 885 = some (.iadd, 1) := by rfl
theorem lf886 : fnd (m_il mL) 886 = some (.iaload, 1) := by rfl
theorem lf887 : fnd (m_il mL) 887 = some (.invokevirtual 95, 3) := by rfl
theorem lf890 : fnd (m_il mL) 890 = some (.pop, 1) := by rfl
theorem lf891 : fnd (m_il mL) 891 = some (.aload_n 2, 1) := by rfl
theorem lf892 : fnd (m_il mL) 892 = some (.aload_n 0, 1) := by rfl
theorem lf893 : fnd (m_il mL) 893 = some (.iload_n 3, 1) := by rfl
theorem lf894 : fnd (m_il mL) 894 = some (.iconst 1, 1) := by rfl
theorem lf895 : fnd (m_il mL) 895 = some (.iadd, 1) := by rfl
theorem lf896 : fnd (m_il mL) 896 = some (.iaload, 1) := by rfl
theorem lf897 : fnd (m_il mL) 897 = some (.aload_n 0, 1) := by rfl
theorem lf898 : fnd (m_il mL) 898 = some (.iload_n 3, 1) := by rfl
theorem lf899 : fnd (m_il mL) 899 = some (.iconst 2, 1) := by rfl
theorem lf900 : fnd (m_il mL) 900 = some (.iadd, 1) := by rfl
theorem lf901 : fnd (m_il mL) 901 = some (.iaload, 1) := by rfl
theorem lf902 : fnd (m_il mL) 902 = some (.aload_n 0, 1) := by rfl
theorem lf903 : fnd (m_il mL) 903 = some (.iload_n 3, 1) := by rfl
theorem lf904 : fnd (m_il mL) 904 = some (.iconst 3, 1) := by rfl
theorem lf905 : fnd (m_il mL) 905 = some (.iadd, 1) := by rfl
theorem lf906 : fnd (m_il mL) 906 = some (.iaload, 1) := by rfl
theorem lf907 : fnd (m_il mL) 907 = some (.invokevirtual 98, 3) := by rfl
theorem lf910 : fnd (m_il mL) 910 = some (.pop, 1) := by rfl
theorem lf911 : fnd (m_il mL) 911 = some (.goto 742, 3) := by rfl
theorem lf914 : fnd (m_il mL) 914 = some (.aload_n 1, 1) := by rfl
theorem lf915 : fnd (m_il mL) 915 = some (.aload_n 0, 1) := by rfl
theorem lf916 : fnd (m_il mL) 916 = some (.iload_n 3, 1) := by rfl
theorem lf917 : fnd (m_il mL) 917 = some (.iconst 1, 1) := by rfl
theorem lf918 : fnd (m_il mL) 918 = some (.iadd, 1) := by rfl
theorem lf919 : fnd (m_il mL) 919 = some (.iaload, 1) := by rfl
theorem lf920 : fnd (m_il mL) 920 = some (.aload_n 0, 1) := by rfl
theorem lf921 : fnd (m_il mL) 921 = some (.iload_n 3, 1) := by rfl
theorem lf922 : fnd (m_il mL) 922 = some (.iconst 2, 1) := by rfl
theorem lf923 : fnd (m_il mL) 923 = some (.iadd, 1) := by rfl
theorem lf924 : fnd (m_il mL) 924 = some (.iaload, 1) := by rfl
theorem lf925 : fnd (m_il mL) 925 = some (.aload_n 0, 1) := by rfl
theorem lf926 : fnd (m_il mL) 926 = some (.iload_n 3, 1) := by rfl
theorem lf927 : fnd (m_il mL) 927 = some (.iconst 3, 1) := by rfl
theorem lf928 : fnd (m_il mL) 928 = some (.iadd, 1) := by rfl
theorem lf929 : fnd (m_il mL) 929 = some (.iaload, 1) := by rfl
theorem lf930 : fnd (m_il mL) 930 = some (.invokevirtual 99, 3) := by rfl
theorem lf933 : fnd (m_il mL) 933 = some (.pop, 1) := by rfl
theorem lf934 : fnd (m_il mL) 934 = some (.aload_n 2, 1) := by rfl
theorem lf935 : fnd (m_il mL) 935 = some (.aload_n 0, 1) := by rfl
theorem lf936 : fnd (m_il mL) 936 = some (.iload_n 3, 1) := by rfl
theorem lf937 : fnd (m_il mL) 937 = some (.iconst 1, 1) := by rfl
theorem lf938 : fnd (m_il mL) 938 = some (.iadd, 1) := by rfl
theorem lf939 : fnd (m_il mL) 939 = some (.iaload, 1) := by rfl
theorem lf940 : fnd (m_il mL) 940 = some (.aload_n 0, 1) := by rfl
theorem lf941 : fnd (m_il mL) 941 = some (.iload_n 3, 1) := by rfl
theorem lf942 : fnd (m_il mL) 942 = some (.iconst 2, 1) := by rfl
theorem lf943 : fnd (m_il mL) 943 = some (.iadd, 1) := by rfl
theorem lf944 : fnd (m_il mL) 944 = some (.iaload, 1) := by rfl
theorem lf945 : fnd (m_il mL) 945 = some (.aload_n 0, 1) := by rfl
theorem lf946 : fnd (m_il mL) 946 = some (.iload_n 3, 1) := by rfl
theorem lf947 : fnd (m_il mL) 947 = some (.iconst 3, 1) := by rfl
theorem lf948 : fnd (m_il mL) 948 = some (.iadd, 1) := by rfl
theorem lf949 : fnd (m_il mL) 949 = some (.iaload, 1) := by rfl
theorem lf950 : fnd (m_il mL) 950 = some (.invokevirtual 102, 3) := by rfl
theorem lf953 : fnd (m_il mL) 953 = some (.pop, 1) := by rfl
theorem lf954 : fnd (m_il mL) 954 = some (.goto 699, 3) := by rfl
theorem lf957 : fnd (m_il mL) 957 = some (.aload_n 1, 1) := by rfl
theorem lf958 : fnd (m_il mL) 958 = some (.aload_n 0, 1) := by rfl
theorem lf959 : fnd (m_il mL) 959 = some (.iload_n 3, 1) := by rfl
theorem lf960 : fnd (m_il mL) 960 = some (.iconst 1, 1) := by rfl
theorem lf961 : fnd (m_il mL) 961 = some (.iadd, 1) := by rfl
theorem lf962 : fnd (m_il mL) 962 = some (.iaload, 1) := by rfl
theorem lf963 : fnd (m_il mL) 963 = some (.invokevirtual 103, 3) := by rfl
theorem lf966 : fnd (m_il mL) 966 = some (.pop, 1) := by rfl
theorem lf967 : fnd (m_il mL) 967 = some (.aload_n 2, 1) := by rfl
theorem lf968 : fnd (m_il mL) 968 = some (.aload_n 0, 1) := by rfl
theorem lf969 : fnd (m_il mL) 969 = some (.iload_n 3, 1) := by rfl
theorem lf970 : fnd (m_il mL) 970 = some (.iconst 1, 1) := by rfl
theorem lf971 : fnd (m_il mL) 971 = some (.iadd, 1) := by rfl
theorem lf972 : fnd (m_il mL) 972 = some (.iaload, 1) := by rfl
theorem lf973 : fnd (m_il mL) 973 = some (.invokevirtual 106, 3) := by rfl
theorem lf976 : fnd (m_il mL) 976 = some (.pop, 1) := by rfl
theorem lf977 : fnd (m_il mL) 977 = some (.goto 676, 3) := by rfl
theorem lf980 : fnd (m_il mL) 980 = some (.aload_n 1, 1) := by rfl
theorem lf981 : fnd (m_il mL) 981 = some (.aload_n 0, 1) := by rfl
theorem lf982 : fnd (m_il mL) 982 = some (.iload_n 3, 1) := by rfl
theorem lf983 : fnd (m_il mL) 983 = some (.iconst 1, 1) := by rfl
theorem lf984 : fnd (m_il mL) 984 = some (.iadd, 1) := by rfl
theorem lf985 : fnd (m_il mL) 985 = some (.iaload, 1) := by rfl
theorem lf986 : fnd (m_il mL) 986 = some (.aload_n 0, 1) := by rfl
theorem lf987 : fnd (m_il mL) 987 = some (.iload_n 3, 1) := by rfl
theorem lf988 : fnd (m_il mL) 988 = some (.iconst 2, 1) := by rfl
theorem lf989 : fnd (m_il mL) 989 = some (.iadd, 1) := by rfl
theorem lf990 : fnd (m_il mL) 990 = some (.iaload, 1) := by rfl
theorem lf991 : fnd (m_il mL) 991 = some (.aload_n 0, 1) := by rfl
theorem lf992 : fnd (m_il mL) 992 = some (.iload_n 3, 1) := by rfl
theorem lf993 : fnd (m_il mL) 993 = some (.iconst 3, 1) := by rfl
theorem lf994 : fnd (m_il mL) 994 = some (.iadd, 1) := by rfl
theorem lf995 : fnd (m_il mL) 995 = some (.iaload, 1) := by rfl
theorem lf996 : fnd (m_il mL) 996 = some (.aload_n 0, 1) := by rfl
theorem lf997 : fnd (m_il mL) 997 = some (.iload_n 3, 1) := by rfl
theorem lf998 : fnd (m_il mL) 998 = some (.iconst 4, 1) := by rfl
theorem lf999 : fnd (m_il mL) 999 = some (.iadd, 1) := by rfl
theorem lf1000 : fnd (m_il mL) 1000 = some (.iaload, 1) := by rfl
theorem lf1001 : fnd (m_il mL) 1001 = some (.invokevirtual 107, 3) := by rfl
theorem lf1004 : fnd (m_il mL) 1004 = some (.pop, 1) := by rfl
theorem lf1005 : fnd (m_il mL) 1005 = some (.aload_n 2, 1) := by rfl
theorem lf1006 : fnd (m_il mL) 1006 = some (.aload_n 0, 1) := by rfl
theorem lf1007 : fnd (m_il mL) 1007 = some (.iload_n 3, 1) := by rfl
theorem lf1008 : fnd (m_il mL) 1008 = some (.iconst 1, 1) := by rfl
theorem lf1009 : fnd (m_il mL) 1009 = some (.iadd, 1) := by rfl
theorem lf1010 : fnd (m_il mL) 1010 = some (.iaload, 1) := by rfl
theorem lf1011 : fnd (m_il mL) 1011 = some (.aload_n 0, 1) := by rfl
theorem lf1012 : fnd (m_il mL) 1012 = some (.iload_n 3, 1) := by rfl
theorem lf1013 : fnd (m_il mL) 1013 = some (.iconst 2, 1) := by rfl
theorem lf1014 : fnd (m_il mL) 1014 = some (.iadd, 1) := by rfl
theorem lf1015 : fnd (m_il mL) 1015 = some (.iaload, 1) := by rfl
theorem lf1016 : fnd (m_il mL) 1016 = some (.aload_n 0, 1) := by rfl
theorem lf1017 : fnd (m_il mL) 1017 = some (.iload_n 3, 1) := by rfl
theorem lf1018 : fnd (m_il mL) 1018 = some (.iconst 3, 1) := by rfl
theorem lf1019 : fnd (m_il mL) 1019 = some (.iadd, 1) := by rfl
theorem lf1020 : fnd (m_il mL) 1020 = some (.iaload, 1) := by rfl
theorem lf1021 : fnd (m_il mL) 1021 = some (.aload_n 0, 1) := by rfl
theorem lf1022 : fnd (m_il mL) 1022 = some (.iload_n 3, 1) := by rfl
theorem lf1023 : fnd (m_il mL) 1023 = some (.iconst 4, 1) := by rfl
theorem lf1024 : fnd (m_il mL) 1024 = some (.iadd, 1) := by rfl
theorem lf1025 : fnd (m_il mL) 1025 = some (.iaload, 1) := by rfl
theorem lf1026 : fnd (m_il mL) 1026 = some (.invokevirtual 110, 3) := by rfl
theorem lf1029 : fnd (m_il mL) 1029 = some (.pop, 1) := by rfl
theorem lf1030 : fnd (m_il mL) 1030 = some (.goto 623, 3) := by rfl
theorem lf1033 : fnd (m_il mL) 1033 = some (.aload_n 1, 1) := by rfl
theorem lf1034 : fnd (m_il mL) 1034 = some (.aload_n 0, 1) := by rfl
theorem lf1035 : fnd (m_il mL) 1035 = some (.iload_n 3, 1) := by rfl
theorem lf1036 : fnd (m_il mL) 1036 = some (.iconst 1, 1) := by rfl
theorem lf1037 : fnd (m_il mL) 1037 = some (.iadd, 1) := by rfl
theorem lf1038 : fnd (m_il mL) 1038 = some (.iaload, 1) := by rfl
theorem lf1039 : fnd (m_il mL) 1039 = some (.aload_n 0, 1) := by rfl
theorem lf1040 : fnd (m_il mL) 1040 = some (.iload_n 3, 1) := by rfl
theorem lf1041 : fnd (m_il mL) 1041 = some (.iconst 2, 1) := by rfl
theorem lf1042 : fnd (m_il mL) 1042 = some (.iadd, 1) := by rfl
theorem lf1043 : fnd (m_il mL) 1043 = some (.iaload, 1) := by rfl
theorem lf1044 : fnd (m_il mL) 1044 = some (.aload_n 0, 1) := by rfl
theorem lf1045 : fnd (m_il mL) 1045 = some (.iload_n 3, 1) := by rfl
theorem lf1046 : fnd (m_il mL) 1046 = some (.iconst 3, 1) := by rfl
theorem lf1047 : fnd (m_il mL) 1047 = some (.iadd, 1) := by rfl
theorem lf1048 : fnd (m_il mL) 1048 = some (.iaload, 1) := by rfl
theorem lf1049 : fnd (m_il mL) 1049 = some (.aload_n 0, 1) := by rfl
theorem lf1050 : fnd (m_il mL) 1050 = some (.iload_n 3, 1) := by rfl
theorem lf1051 : fnd (m_il mL) 1051 = some (.iconst 4, 1) := by rfl
theorem lf1052 : fnd (m_il mL) 1052 = some (.iadd, 1) := by rfl
theorem lf1053 : fnd (m_il mL) 1053 = some (.iaload, 1) := by rfl
theorem lf1054 : fnd (m_il mL) 1054 = some (.invokevirtual 111, 3) := by rfl
theorem lf1057 : fnd (m_il mL) 1057 = some (.pop, 1) := by rfl
theorem lf1058 : fnd (m_il mL) 1058 = some (.aload_n 2, 1) := by rfl
theorem lf1059 : fnd (m_il mL) 1059 = some (.aload_n 0, 1) := by rfl
theorem lf1060 : fnd (m_il mL) 1060 = some (.iload_n 3, 1) := by rfl
theorem lf1061 : fnd (m_il mL) 1061 = some (.iconst 1, 1) := by rfl
theorem lf1062 : fnd (m_il mL) 1062 = some (.iadd, 1) := by rfl
theorem lf1063 : fnd (m_il mL) 1063 = some (.iaload, 1) := by rfl
theorem lf1064 : fnd (m_il mL) 1064 = some (.aload_n 0, 1) := by rfl
theorem lf1065 : fnd (m_il mL) 1065 = some (.iload_n 3, 1) := by rfl
theorem lf1066 : fnd (m_il mL) 1066 = some (.iconst 2, 1) := by rfl
theorem lf1067 : fnd (m_il mL) 1067 = some (.iadd, 1) := by rfl
theorem lf1068 : fnd (m_il mL) 1068 = some (.iaload, 1) := by rfl
theorem lf1069 : fnd (m_il mL) 1069 = some (.aload_n 0, 1) := by rfl
theorem lf1070 : fnd (m_il mL) 1070 = some (.iload_n 3, 1) := by rfl
theorem lf1071 : fnd (m_il mL) 1071 = some (.iconst 3, 1) := by rfl
theorem lf1072 : fnd (m_il mL) 1072 = some (.iadd, 1) := by rfl
theorem lf1073 : fnd (m_il mL) 1073 = some (.iaload, 1) := by rfl
theorem lf1074 : fnd (m_il mL) 1074 = some (.aload_n 0, 1) := by rfl
theorem lf1075 : fnd (m_il mL) 1075 = some (.iload_n 3, 1) := by rfl
theorem lf1076 : fnd (m_il mL) 1076 = some (.iconst 4, 1) := by rfl
theorem lf1077 : fnd (m_il mL) 1077 = some (.iadd, 1) := by rfl
theorem lf1078 : fnd (m_il mL) 1078 = some (.iaload, 1) := by rfl
theorem lf1079 : fnd (m_il mL) 1079 = some (.invokevirtual 114, 3) := by rfl
theorem lf1082 : fnd (m_il mL) 1082 = some (.pop, 1) := by rfl
theorem lf1083 : fnd (m_il mL) 1083 = some (.goto 570, 3) := by rfl
theorem lf1086 : fnd (m_il mL) 1086 = some (.aload_n 1, 1) := by rfl
theorem lf1087 : fnd (m_il mL) 1087 = some (.aload_n 0, 1) := by rfl
theorem lf1088 : fnd (m_il mL) 1088 = some (.iload_n 3, 1) := by rfl
theorem lf1089 : fnd (m_il mL) 1089 = some (.iconst 1, 1) := by rfl
theorem lf1090 : fnd (m_il mL) 1090 = some (.iadd, 1) := by rfl
theorem lf1091 : fnd (m_il mL) 1091 = some (.iaload, 1) := by rfl
theorem lf1092 : fnd (m_il mL) 1092 = some (.aload_n 0, 1) := by rfl
theorem lf1093 : fnd (m_il mL) 1093 = some (.iload_n 3, 1) := by rfl
theorem lf1094 : fnd (m_il mL) 1094 = some (.iconst 2, 1) := by rfl
theorem lf1095 : fnd (m_il mL) 1095 = some (.iadd, 1) := by rfl
theorem lf1096 : fnd (m_il mL) 1096 = some (.iaload, 1) := by rfl
theorem lf1097 : fnd (m_il mL) 1097 = some (.invokevirtual 115, 3) := by rfl
theorem lf1100 : fnd (m_il mL) 1100 = some (.pop, 1) := by rfl
theorem lf1101 : fnd (m_il mL) 1101 = some (.aload_n 2, 1) := by rfl
theorem lf1102 : fnd (m_il mL) 1102 = some (.aload_n 0, 1) := by rfl
theorem lf1103 : fnd (m_il mL) 1103 = some (.iload_n 3, 1) := by rfl
theorem lf1104 : fnd (m_il mL) 1104 = some (.iconst 1, 1) := by rfl
theorem lf1105 : fnd (m_il mL) 1105 = some (.iadd, 1) := by rfl
theorem lf1106 : fnd (m_il mL) 1106 = some (.iaload, 1) := by rfl
theorem lf1107 : fnd (m_il mL) 1107 = some (.aload_n 0, 1) := by rfl
theorem lf1108 : fnd (m_il mL) 1108 = some (.iload_n 3, 1) := by rfl
theorem lf1109 : fnd (m_il mL) 1109 = some (.iconst 2, 1) := by rfl
theorem lf1110 : fnd (m_il mL) 1110 = some (.iadd, 1) := by rfl
theorem lf1111 : fnd (m_il mL) 1111 = some (.iaload, 1) := by rfl
theorem lf1112 : fnd (m_il mL) 1112 = some (.invokevirtual 118, 3) := by rfl
theorem lf1115 : fnd (m_il mL) 1115 = some (.pop, 1) := by rfl
theorem lf1116 : fnd (m_il mL) 1116 = some (.goto 537, 3) := by rfl
theorem lf1119 : fnd (m_il mL) 1119 = some (.aload_n 1, 1) := by rfl
theorem lf1120 : fnd (m_il mL) 1120 = some (.aload_n 0, 1) := by rfl
theorem lf1121 : fnd (m_il mL) 1121 = some (.iload_n 3, 1) := by rfl
theorem lf1122 : fnd (m_il mL) 1122 = some (.iconst 1, 1) := by rfl
theorem lf1123 : fnd (m_il mL) 1123 = some (.iadd, 1) := by rfl
theorem lf1124 : fnd (m_il mL) 1124 = some (.iaload, 1) := by rfl
theorem lf1125 : fnd (m_il mL) 1125 = some (.aload_n 0, 1) := by rfl
theorem lf1126 : fnd (m_il mL) 1126 = some (.iload_n 3, 1) := by rfl
theorem lf1127 : fnd (m_il mL) 1127 = some (.iconst 2, 1) := by rfl
theorem lf1128 : fnd (m_il mL) 1128 = some (.iadd, 1) := by rfl
theorem lf1129 : fnd (m_il mL) 1129 = some (.iaload, 1) := by rfl
theorem lf1130 : fnd (m_il mL) 1130 = some (.invokevirtual 119, 3) := by rfl
theorem lf1133 : fnd (m_il mL) 1133 = some (.pop, 1) := by rfl
theorem lf1134 : fnd (m_il mL) 1134 = some (.aload_n 2, 1) := by rfl
theorem lf1135 : fnd (m_il mL) 1135 = some (.aload_n 0, 1) := by rfl
theorem lf1136 : fnd (m_il mL) 1136 = some (.iload_n 3, 1) := by rfl
theorem lf1137 : fnd (m_il mL) 1137 = some (.iconst 1, 1) := by rfl
theorem lf1138 : fnd (m_il mL) 1138 = some (.iadd, 1) := by rfl
theorem lf1139 : fnd (m_il mL) 1139 = some (.iaload, 1) := by rfl
theorem lf1140 : fnd (m_il mL) 1140 = some (.aload_n 0, 1) := by rfl
theorem lf1141 : fnd (m_il mL) 1141 = some (.iload_n 3, 1) := by rfl
theorem lf1142 : fnd (m_il mL) 1142 = some (.iconst 2, 1) := by rfl
theorem lf1143 : fnd (m_il mL) 1143 = some (.iadd, 1) := by rfl
theorem lf1144 : fnd (m_il mL) 1144 = some (.iaload, 1) := by rfl
theorem lf1145 : fnd (m_il mL) 1145 = some (.invokevirtual 122, 3) := by rfl
theorem lf1148 : fnd (m_il mL) 1148 = some (.pop, 1) := by rfl
theorem lf1149 : fnd (m_il mL) 1149 = some (.goto 504, 3) := by rfl
theorem lf1152 : fnd (m_il mL) 1152 = some (.aload_n 1, 1) := by rfl
theorem lf1153 : fnd (m_il mL) 1153 = some (.aload_n 0, 1) := by rfl
theorem lf1154 : fnd (m_il mL) 1154 = some (.iload_n 3, 1) := by rfl
theorem lf1155 : fnd (m_il mL) 1155 = some (.iconst 1, 1) := by rfl
theorem lf1156 : fnd (m_il mL) 1156 = some (.iadd, 1) := by rfl
theorem lf1157 : fnd (m_il mL) 1157 = some (.iaload, 1) := by rfl
theorem lf1158 : fnd (m_il mL) 1158 = some (.invokevirtual 123, 3) := by rfl
theorem lf1161 : fnd (m_il mL) 1161 = some (.pop, 1) := by rfl
theorem lf1162 : fnd (m_il mL) 1162 = some (.aload_n 2, 1) := by rfl
theorem lf1163 : fnd (m_il mL) 1163 = some (.aload_n 0, 1) := by rfl
theorem lf1164 : fnd (m_il mL) 1164 = some (.iload_n 3, 1) := by rfl
theorem lf1165 : fnd (m_il mL) 1165 = some (.iconst 1, 1) := by rfl
theorem lf1166 : fnd (m_il mL) 1166 = some (.iadd, 1) := by rfl
theorem lf1167 : fnd (m_il mL) 1167 = some (.iaload, 1) := by rfl
theorem lf1168 : fnd (m_il mL) 1168 = some (.invokevirtual 126, 3) := by rfl
theorem lf1171 : fnd (m_il mL) 1171 = some (.pop, 1) := by rfl
theorem lf1172 : fnd (m_il mL) 1172 = some (.goto 481, 3) := by rfl
theorem lf1175 : fnd (m_il mL) 1175 = some (.aload_n 1, 1) := by rfl
theorem lf1176 : fnd (m_il mL) 1176 = some (.aload_n 0, 1) := by rfl
theorem lf1177 : fnd (m_il mL) 1177 = some (.iload_n 3, 1) := by rfl
theorem lf1178 : fnd (m_il mL) 1178 = some (.iconst 1, 1) := by rfl
theorem lf1179 : fnd (m_il mL) 1179 = some (.iadd, 1) := by rfl
theorem lf1180 : fnd (m_il mL) 1180 = some (.iaload, 1) := by rfl
theorem lf1181 : fnd (m_il mL) 1181 = some (.aload_n 0, 1) := by rfl
theorem lf1182 : fnd (m_il mL) 1182 = some (.iload_n 3, 1) := by rfl
theorem lf1183 : fnd (m_il mL) 1183 = some (.iconst 2, 1) := by rfl
theorem lf1184 : fnd (m_il mL) 1184 = some (.iadd, 1) := by rfl
theorem lf1185 : fnd (m_il mL) 1185 = some (.iaload, 1) := by rfl
theorem lf1186 : fnd (m_il mL) 1186 = some (.invokevirtual 127, 3) := by rfl
theorem lf1189 : fnd (m_il mL) 1189 = some (.pop, 1) := by rfl
theorem lf1190 : fnd (m_il mL) 1190 = some (.aload_n 2, 1) := by rfl
theorem lf1191 : fnd (m_il mL) 1191 = some (.aload_n 0, 1) := by rfl
theorem lf1192 : fnd (m_il mL) 1192 = some (.iload_n 3, 1) := by rfl
theorem lf1193 : fnd (m_il mL) 1193 = some (.iconst 1, 1) := by rfl
theorem lf1194 : fnd (m_il mL) 1194 = some (.iadd, 1) := by rfl
theorem lf1195 : fnd (m_il mL) 1195 = some (.iaload, 1) := by rfl
theorem lf1196 : fnd (m_il mL) 1196 = some (.aload_n 0, 1) := by rfl
theorem lf1197 : fnd (m_il mL) 1197 = some (.iload_n 3, 1) := by rfl
theorem lf1198 : fnd (m_il mL) 1198 = some (.iconst 2, 1) := by rfl
theorem lf1199 : fnd (m_il mL) 1199 = some (.iadd, 1) := by rfl
theorem lf1200 : fnd (m_il mL) 1200 = some (.iaload, 1) := by rfl
theorem lf1201 : fnd (m_il mL) 1201 = some (.invokevirtual 130, 3) := by rfl
theorem lf1204 : fnd (m_il mL) 1204 = some (.pop, 1) := by rfl
theorem lf1205 : fnd (m_il mL) 1205 = some (.goto 448, 3) := by rfl
theorem lf1208 : fnd (m_il mL) 1208 = some (.aload_n 1, 1) := by rfl
theorem lf1209 : fnd (m_il mL) 1209 = some (.aload_n 0, 1) := by rfl
theorem lf1210 : fnd (m_il mL) 1210 = some (.iload_n 3, 1) := by rfl
theorem lf1211 : fnd (m_il mL) 1211 = some (.iconst 1, 1) := by rfl
theorem lf1212 : fnd (m_il mL) 1212 = some (.iadd, 1) := by rfl
theorem lf1213 : fnd (m_il mL) 1213 = some (.iaload, 1) := by rfl
theorem lf1214 : fnd (m_il mL) 1214 = some (.aload_n 0, 1) := by rfl
theorem lf1215 : fnd (m_il mL) 1215 = some (.iload_n 3, 1) := by rfl
theorem lf1216 : fnd (m_il mL) 1216 = some (.iconst 2, 1) := by rfl
theorem lf1217 : fnd (m_il mL) 1217 = some (.iadd, 1) := by rfl
theorem lf1218 : fnd (m_il mL) 1218 = some (.iaload, 1) := by rfl
theorem lf1219 : fnd (m_il mL) 1219 = some (.aload_n 0, 1) := by rfl
theorem lf1220 : fnd (m_il mL) 1220 = some (.iload_n 3, 1) := by rfl
theorem lf1221 : fnd (m_il mL) 1221 = some (.iconst 3, 1) := by rfl
theorem lf1222 : fnd (m_il mL) 1222 = some (.iadd, 1) := by rfl
theorem lf1223 : fnd (m_il mL) 1223 = some (.iaload, 1) := by rfl
theorem lf1224 : fnd (m_il mL) 1224 = some (.invokevirtual 131, 3) := by rfl
theorem lf1227 : fnd (m_il mL) 1227 = some (.pop, 1) := by rfl
theorem lf1228 : fnd (m_il mL) 1228 = some (.aload_n 2, 1) := by rfl
theorem lf1229 : fnd (m_il mL) 1229 = some (.aload_n 0, 1) := by rfl
theorem lf1230 : fnd (m_il mL) 1230 = some (.iload_n 3, 1) := by rfl
theorem lf1231 : fnd (m_il mL) 1231 = some (.iconst 1, 1) := by rfl
theorem lf1232 : fnd (m_il mL) 1232 = some (.iadd, 1) := by rfl
theorem lf1233 : fnd (m_il mL) 1233 = some (.iaload, 1) := by rfl
theorem lf1234 : fnd (m_il mL) 1234 = some (.aload_n 0, 1) := by rfl
theorem lf1235 : fnd (m_il mL) 1235 = some (.iload_n 3, 1) := by rfl
theorem lf1236 : fnd (m_il mL) 1236 = some (.iconst 2, 1) := by rfl
theorem lf1237 : fnd (m_il mL) 1237 = some (.iadd, 1) := by rfl
theorem lf1238 : fnd (m_il mL) 1238 = some (.iaload, 1) := by rfl
theorem lf1239 : fnd (m_il mL) 1239 = some (.aload_n 0, 1) := by rfl
theorem lf1240 : fnd (m_il mL) 1240 = some (.iload_n 3, 1) := by rfl
theorem lf1241 : fnd (m_il mL) 1241 = some (.iconst 3, 1) := by rfl
theorem lf1242 : fnd (m_il mL) 1242 = some (.iadd, 1) := by rfl
theorem lf1243 : fnd (m_il mL) 1243 = some (.iaload, 1) := by rfl
theorem lf1244 : fnd (m_il mL) 1244 = some (.invokevirtual 134, 3) := by rfl
theorem lf1247 : fnd (m_il mL) 1247 = some (.pop, 1) := by rfl
theorem lf1248 : fnd (m_il mL) 1248 = some (.goto 405, 3) := by rfl
theorem lf1251 : fnd (m_il mL) 1251 = some (.aload_n 1, 1) := by rfl
theorem lf1252 : fnd (m_il mL) 1252 = some (.aload_n 0, 1) := by rfl
theorem lf1253 : fnd (m_il mL) 1253 = some (.iload_n 3, 1) := by rfl
theorem lf1254 : fnd (m_il mL) 1254 = some (.iconst 1, 1) := by rfl
theorem lf1255 : fnd (m_il mL) 1255 = some (.iadd, 1) := by rfl
theorem lf1256 : fnd (m_il mL) 1256 = some (.iaload, 1) := by rfl
theorem lf1257 : fnd (m_il mL) 1257 = some (.aload_n 0, 1) := by rfl
theorem lf1258 : fnd (m_il mL) 1258 = some (.iload_n 3, 1) := by rfl
theorem lf1259 : fnd (m_il mL) 1259 = some (.iconst 2, 1) := by rfl
theorem lf1260 : fnd (m_il mL) 1260 = some (.iadd, 1) := by rfl
theorem lf1261 : fnd (m_il mL) 1261 = some (.iaload, 1) := by rfl
theorem lf1262 : fnd (m_il mL) 1262 = some (.aload_n 0, 1) := by rfl
theorem lf1263 : fnd (m_il mL) 1263 = some (.iload_n 3, 1) := by rfl
theorem lf1264 : fnd (m_il mL) 1264 = some (.iconst 3, 1) := by rfl
theorem lf1265 : fnd (m_il mL) 1265 = some (.iadd, 1) := by rfl
theorem lf1266 : fnd (m_il mL) 1266 = some (.iaload, 1) := by rfl
theorem lf1267 : fnd (m_il mL) 1267 = some (.invokevirtual 135, 3) := by rfl
theorem lf1270 : fnd (m_il mL) 1270 = some (.pop, 1) := by rfl
theorem lf1271 : fnd (m_il mL) 1271 = some (.aload_n 2, 1) := by rfl
theorem lf1272 : fnd (m_il mL) 1272 = some (.aload_n 0, 1) := by rfl
theorem lf1273 : fnd (m_il mL) 1273 = some (.iload_n 3, 1) := by rfl
theorem lf1274 : fnd (m_il mL) 1274 = some (.iconst 1, 1) := by rfl
theorem lf1275 : fnd (m_il mL) 1275 = some (.iadd, 1) := by rfl
theorem lf1276 : fnd (m_il mL) 1276 = some (.iaload, 1) := by rfl
theorem lf1277 : fnd (m_il mL) 1277 = some (.aload_n 0, 1) := by rfl
theorem lf1278 : fnd (m_il mL) 1278 = some (.iload_n 3, 1) := by rfl
theorem lf1279 : fnd (m_il mL) 1279 = some (.iconst 2, 1) := by rfl
theorem lf1280 : fnd (m_il mL) 1280 = some (.iadd, 1) := by rfl
theorem lf1281 : fnd (m_il mL) 1281 = some (.iaload, 1) := by rfl
theorem lf1282 : fnd (m_il mL) 1282 = some (.aload_n 0, 1) := by rfl
theorem lf1283 : fnd (m_il mL) 1283 = some (.iload_n 3, 1) := by rfl
theorem lf1284 : fnd (m_il mL) 1284 = some (.iconst 3, 1) := by rfl
theorem lf1285 : fnd (m_il mL) 1285 = some (.iadd, 1) := by rfl
theorem lf1286 : fnd (m_il mL) 1286 = some (.iaload, 1) := by rfl
theorem lf1287 : fnd (m_il mL) 1287 = some (.invokevirtual 138, 3) := by rfl
theorem lf1290 : fnd (m_il mL) 1290 = some (.pop, 1) := by rfl
theorem lf1291 : fnd (m_il mL) 1291 = some (.goto 362, 3) := by rfl
theorem lf1294 : fnd (m_il mL) 1294 = some (.aload_n 1, 1) := by rfl
theorem lf1295 : fnd (m_il mL) 1295 = some (.aload_n 0, 1) := by rfl
theorem lf1296 : fnd (m_il mL) 1296 = some (.iload_n 3, 1) := by rfl
theorem lf1297 : fnd (m_il mL) 1297 = some (.iconst 1, 1) := by rfl
theorem lf1298 : fnd (m_il mL) 1298 = some (.iadd, 1) := by rfl
theorem lf1299 : fnd (m_il mL) 1299 = some (.iaload, 1) := by rfl
theorem lf1300 : fnd (m_il mL) 1300 = some (.aload_n 0, 1) := by rfl
theorem lf1301 : fnd (m_il mL) 1301 = some (.iload_n 3, 1) := by rfl
theorem lf1302 : fnd (m_il mL) 1302 = some (.iconst 2, 1) := by rfl
theorem lf1303 : fnd (m_il mL) 1303 = some (.iadd, 1) := by rfl
theorem lf1304 : fnd (m_il mL) 1304 = some (.iaload, 1) := by rfl
theorem lf1305 : fnd (m_il mL) 1305 = some (.invokevirtual 139, 3) := by rfl
theorem lf1308 : fnd (m_il mL) 1308 = some (.pop, 1) := by rfl
theorem lf1309 : fnd (m_il mL) 1309 = some (.aload_n 2, 1) := by rfl
theorem lf1310 : fnd (m_il mL) 1310 = some (.aload_n 0, 1) := by rfl
theorem lf1311 : fnd (m_il mL) 1311 = some (.iload_n 3, 1) := by rfl
theorem lf1312 : fnd (m_il mL) 1312 = some (.iconst 1, 1) := by rfl
theorem lf1313 : fnd (m_il mL) 1313 = some (.iadd, 1) := by rfl
theorem lf1314 : fnd (m_il mL) 1314 = some (.iaload, 1) := by rfl
theorem lf1315 : fnd (m_il mL) 1315 = some (.aload_n 0, 1) := by rfl
theorem lf1316 : fnd (m_il mL) 1316 = some (.iload_n 3, 1) := by rfl
theorem lf1317 : fnd (m_il mL) 1317 = some (.iconst 2, 1) := by rfl
theorem lf1318 : fnd (m_il mL) 1318 = some (.iadd, 1) := by rfl
theorem lf1319 : fnd (m_il mL) 1319 = some (.iaload, 1) := by rfl
theorem lf1320 : fnd (m_il mL) 1320 = some (.invokevirtual 142, 3) := by rfl
theorem lf1323 : fnd (m_il mL) 1323 = some (.pop, 1) := by rfl
theorem lf1324 : fnd (m_il mL) 1324 = some (.goto 329, 3) := by rfl
theorem lf1327 : fnd (m_il mL) 1327 = some (.aload_n 1, 1) := by rfl
theorem lf1328 : fnd (m_il mL) 1328 = some (.aload_n 0, 1) := by rfl
theorem lf1329 : fnd (m_il mL) 1329 = some (.iload_n 3, 1) := by rfl
theorem lf1330 : fnd (m_il mL) 1330 = some (.iconst 1, 1) := by rfl
theorem lf1331 : fnd (m_il mL) 1331 = some (.iadd, 1) := by rfl
theorem lf1332 : fnd (m_il mL) 1332 = some (.iaload, 1) := by rfl
theorem lf1333 : fnd (m_il mL) 1333 = some (.aload_n 0, 1) := by rfl
theorem lf1334 : fnd (m_il mL) 1334 = some (.iload_n 3, 1) := by rfl
theorem lf1335 : fnd (m_il mL) 1335 = some (.iconst 2, 1) := by rfl
theorem lf1336 : fnd (m_il mL) 1336 = some (.iadd, 1) := by rfl
theorem lf1337 : fnd (m_il mL) 1337 = some (.iaload, 1) := by rfl
theorem lf1338 : fnd (m_il mL) 1338 = some (.aload_n 0, 1) := by rfl
theorem lf1339 : fnd (m_il mL) 1339 = some (.iload_n 3, 1) := by rfl
theorem lf1340 : fnd (m_il mL) 1340 = some (.iconst 3, 1) := by rfl
theorem lf1341 : fnd (m_il mL) 1341 = some (.iadd, 1) := by rfl
theorem lf1342 : fnd (m_il mL) 1342 = some (.iaload, 1) := by rfl
theorem lf1343 : fnd (m_il mL) 1343 = some (.aload_n 0, 1) := by rfl
theorem lf1344 : fnd (m_il mL) 1344 = some (.iload_n 3, 1) := by rfl
theorem lf1345 : fnd (m_il mL) 1345 = some (.iconst 4, 1) := by rfl
theorem lf1346 : fnd (m_il mL) 1346 = some (.iadd, 1) := by rfl
theorem lf1347 : fnd (m_il mL) 1347 = some (.iaload, 1) := by rfl
theorem lf1348 : fnd (m_il mL) 1348 = some (.invokevirtual 143, 3) := by rfl
theorem lf1351 : fnd (m_il mL) 1351 = some (.pop, 1) := by rfl
theorem lf1352 : fnd (m_il mL) 1352 = some (.aload_n 2, 1) := by rfl
theorem lf1353 : fnd (m_il mL) 1353 = some (.aload_n 0, 1) := by rfl
theorem lf1354 : fnd (m_il mL) 1354 = some (.iload_n 3, 1) := by rfl
theorem lf1355 : fnd (m_il mL) 1355 = some (.iconst 1, 1) := by rfl
theorem lf1356 : fnd (m_il mL) 1356 = some (.iadd, 1) := by rfl
theorem lf1357 : fnd (m_il mL) 1357 = some (.iaload, 1) := by rfl
theorem lf1358 : fnd (m_il mL) 1358 = some (.aload_n 0, 1) := by rfl
theorem lf1359 : fnd (m_il mL) 1359 = some (.iload_n 3, 1) := by rfl
theorem lf1360 : fnd (m_il mL) 1360 = some (.iconst 2, 1) := by rfl
theorem lf1361 : fnd (m_il mL) 1361 = some (.iadd, 1) := by rfl
theorem lf1362 : fnd (m_il mL) 1362 = some (.iaload, 1) := by rfl
theorem lf1363 : fnd (m_il mL) 1363 = some (.aload_n 0, 1) := by rfl
theorem lf1364 : fnd (m_il mL) 1364 = some (.iload_n 3, 1) := by rfl
theorem lf1365 : fnd (m_il mL) 1365 = some (.iconst 3, 1) := by rfl
theorem lf1366 : fnd (m_il mL) 1366 = some (.iadd, 1) := by rfl
theorem lf1367 : fnd (m_il mL) 1367 = some (.iaload, 1) := by rfl
theorem lf1368 : fnd (m_il mL) 1368 = some (.aload_n 0, 1) := by rfl
theorem lf1369 : fnd (m_il mL) 1369 = some (.iload_n 3, 1) := by rfl
theorem lf1370 : fnd (m_il mL) 1370 = some (.iconst 4, 1) := by rfl
theorem lf1371 : fnd (m_il mL) 1371 = some (.iadd, 1) := by rfl
theorem lf1372 : fnd (m_il mL) 1372 = some (.iaload, 1) := by rfl
theorem lf1373 : fnd (m_il mL) 1373 = some (.invokevirtual 146, 3) := by rfl
theorem lf1376 : fnd (m_il mL) 1376 = some (.pop, 1) := by rfl
theorem lf1377 : fnd (m_il mL) 1377 = some (.goto 276, 3) := by rfl
theorem lf1380 : fnd (m_il mL) 1380 = some (.aload_n 1, 1) := by rfl
theorem lf1381 : fnd (m_il mL) 1381 = some (.aload_n 0, 1) := by rfl
theorem lf1382 : fnd (m_il mL) 1382 = some (.iload_n 3, 1) := by rfl
theorem lf1383 : fnd (m_il mL) 1383 = some (.iconst 1, 1) := by rfl
theorem lf1384 : fnd (m_il mL) 1384 = some (.iadd, 1) := by rfl
theorem lf1385 : fnd (m_il mL) 1385 = some (.iaload, 1) := by rfl
theorem lf1386 : fnd (m_il mL) 1386 = some (.aload_n 0, 1) := by rfl
theorem lf1387 : fnd (m_il mL) 1387 = some (.iload_n 3, 1) := by rfl
theorem lf1388 : fnd (m_il mL) 1388 = some (.iconst 2, 1) := by rfl
theorem lf1389 : fnd (m_il mL) 1389 = some (.iadd, 1) := by rfl
theorem lf1390 : fnd (m_il mL) 1390 = some (.iaload, 1) := by rfl
theorem lf1391 : fnd (m_il mL) 1391 = some (.aload_n 0, 1) := by rfl
theorem lf1392 : fnd (m_il mL) 1392 = some (.iload_n 3, 1) := by rfl
theorem lf1393 : fnd (m_il mL) 1393 = some (.iconst 3, 1) := by rfl
theorem lf1394 : fnd (m_il mL) 1394 = some (.iadd, 1) := by rfl
theorem lf1395 : fnd (m_il mL) 1395 = some (.iaload, 1) := by rfl
theorem lf1396 : fnd (m_il mL) 1396 = some (.aload_n 0, 1) := by rfl
theorem lf1397 : fnd (m_il mL) 1397 = some (.iload_n 3, 1) := by rfl
theorem lf1398 : fnd (m_il mL) 1398 = some (.iconst 4, 1) := by rfl
theorem lf1399 : fnd (m_il mL) 1399 = some (.iadd, 1) := by rfl
theorem lf1400 : fnd (m_il mL) 1400 = some (.iaload, 1) := by rfl
theorem lf1401 : fnd (m_il mL) 1401 = some (.invokevirtual 147, 3) := by rfl
theorem lf1404 : fnd (m_il mL) 1404 = some (.pop, 1) := by rfl
theorem lf1405 : fnd (m_il mL) 1405 = some (.aload_n 2, 1) := by rfl
theorem lf1406 : fnd (m_il mL) 1406 = some (.aload_n 0, 1) := by rfl
theorem lf1407 : fnd (m_il mL) 1407 = some (.iload_n 3, 1) := by rfl
theorem lf1408 : fnd (m_il mL) 1408 = some (.iconst 1, 1) := by rfl
theorem lf1409 : fnd (m_il mL) 1409 = some (.iadd, 1) := by rfl
theorem lf1410 : fnd (m_il mL) 1410 = some (.iaload, 1) := by rfl
theorem lf1411 : fnd (m_il mL) 1411 = some (.aload_n 0, 1) := by rfl
theorem lf1412 : fnd (m_il mL) 1412 = some (.iload_n 3, 1) := by rfl
theorem lf1413 : fnd (m_il mL) 1413 = some (.iconst 2, 1) := by rfl
theorem lf1414 : fnd (m_il mL) 1414 = some (.iadd, 1) := by rfl
theorem lf1415 : fnd (m_il mL) 1415 = some (.iaload, 1) := by rfl
theorem lf1416 : fnd (m_il mL) 1416 = some (.aload_n 0, 1) := by rfl
theorem lf1417 : fnd (m_il mL) 1417 = some (.iload_n 3, 1) := by rfl
theorem lf1418 : fnd (m_il mL) 1418 = some (.iconst 3, 1) := by rfl
theorem lf1419 : fnd (m_il mL) 1419 = some (.iadd, 1) := by rfl
theorem lf1420 : fnd (m_il mL) 1420 = some (.iaload, 1) := by rfl
theorem lf1421 : fnd (m_il mL) 1421 = some (.aload_n 0, 1) := by rfl
theorem lf1422 : fnd (m_il mL) 1422 = some (.iload_n 3, 1) := by rfl
theorem lf1423 : fnd (m_il mL) 1423 = some (.iconst 4, 1) := by rfl
theorem lf1424 : fnd (m_il mL) 1424 = some (.iadd, 1) := by rfl
theorem lf1425 : fnd (m_il mL) 1425 = some (.iaload, 1) := by rfl
theorem lf1426 : fnd (m_il mL) 1426 = some (.invokevirtual 150, 3) := by rfl
theorem lf1429 : fnd (m_il mL) 1429 = some (.pop, 1) := by rfl
theorem lf1430 : fnd (m_il mL) 1430 = some (.goto 223, 3) := by rfl
theorem lf1433 : fnd (m_il mL) 1433 = some (.aload_n 1, 1) := by rfl
theorem lf1434 : fnd (m_il mL) 1434 = some (.aload_n 0, 1) := by rfl
theorem lf1435 : fnd (m_il mL) 1435 = some (.iload_n 3, 1) := by rfl
theorem lf1436 : fnd (m_il mL) 1436 = some (.iconst 1, 1) := by rfl
theorem lf1437 : fnd (m_il mL) 1437 = some (.iadd, 1) := by rfl
theorem lf1438 : fnd (m_il mL) 1438 = some (.iaload, 1) := by rfl
theorem lf1439 : fnd (m_il mL) 1439 = some (.aload_n 0, 1) := by rfl
theorem lf1440 : fnd (m_il mL) 1440 = some (.iload_n 3, 1) := by rfl
theorem lf1441 : fnd (m_il mL) 1441 = some (.iconst 2, 1) := by rfl
theorem lf1442 : fnd (m_il mL) 1442 = some (.iadd, 1) := by rfl
theorem lf1443 : fnd (m_il mL) 1443 = some (.iaload, 1) := by rfl
theorem lf1444 : fnd (m_il mL) 1444 = some (.aload_n 0, 1) := by rfl
theorem lf1445 : fnd (m_il mL) 1445 = some (.iload_n 3, 1) := by rfl
theorem lf1446 : fnd (m_il mL) 1446 = some (.iconst 3, 1) := by rfl
theorem lf1447 : fnd (m_il mL) 1447 = some (.iadd, 1) := by rfl
theorem lf1448 : fnd (m_il mL) 1448 = some (.iaload, 1) := by rfl
theorem lf1449 : fnd (m_il mL) 1449 = some (.aload_n 0, 1) := by rfl
theorem lf1450 : fnd (m_il mL) 1450 = some (.iload_n 3, 1) := by rfl
theorem lf1451 : fnd (m_il mL) 1451 = some (.iconst 4, 1) := by rfl
theorem lf1452 : fnd (m_il mL) 1452 = some (.iadd, 1) := by rfl
theorem lf1453 : fnd (m_il mL) 1453 = some (.iaload, 1) := by rfl
theorem lf1454 : fnd (m_il mL) 1454 = some (.invokevirtual 151, 3) := by rfl
theorem lf1457 : fnd (m_il mL) 1457 = some (.pop, 1) := by rfl
theorem lf1458 : fnd (m_il mL) 1458 = some (.aload_n 2, 1) := by rfl
theorem lf1459 : fnd (m_il mL) 1459 = some (.aload_n 0, 1) := by rfl
theorem lf1460 : fnd (m_il mL) 1460 = some (.iload_n 3, 1) := by rfl
theorem lf1461 : fnd (m_il mL) 1461 = some (.iconst 1, 1) := by rfl
theorem lf1462 : fnd (m_il mL) 1462 = some (.iadd, 1) := by rfl
theorem lf1463 : fnd (m_il mL) 1463 = some (.iaload, 1) := by rfl
theorem lf1464 : fnd (m_il mL) 1464 = some (.aload_n 0, 1) := by rfl
theorem lf1465 : fnd (m_il mL) 1465 = some (.iload_n 3, 1) := by rfl
theorem lf1466 : fnd (m_il mL) 1466 = some (.iconst 2, 1) := by rfl
theorem lf1467 : fnd (m_il mL) 1467 = some (.iadd, 1) := by rfl
theorem lf1468 : fnd (m_il mL) 1468 = some (.iaload, 1) := by rfl
theorem lf1469 : fnd (m_il mL) 1469 = some (.aload_n 0, 1) := by rfl
theorem lf1470 : fnd (m_il mL) 1470 = some (.iload_n 3, 1) := by rfl
theorem lf1471 : fnd (m_il mL) 1471 = some (.iconst 3, 1) := by rfl
theorem lf1472 : fnd (m_il mL) 1472 = some (.iadd, 1) := by rfl
theorem lf1473 : fnd (m_il mL) 1473 = some (.iaload, 1) := by rfl
theorem lf1474 : fnd (m_il mL) 1474 = some (.aload_n 0, 1) := by rfl
theorem lf1475 : fnd (m_il mL) 1475 = some (.iload_n 3, 1) := by rfl
theorem lf1476 : fnd (m_il mL) 1476 = some (.iconst 4, 1) := by rfl
theorem lf1477 : fnd (m_il mL) 1477 = some (.iadd, 1) := by rfl
theorem lf1478 : fnd (m_il mL) 1478 = some (.iaload, 1) := by rfl
theorem lf1479 : fnd (m_il mL) 1479 = some (.invokevirtual 154, 3) := by rfl
theorem lf1482 : fnd (m_il mL) 1482 = some (.pop, 1) := by rfl
theorem lf1483 : fnd (m_il mL) 1483 = some (.goto 170, 3) := by rfl
theorem lf1486 : fnd (m_il mL) 1486 = some (.aload_n 1, 1) := by rfl
theorem lf1487 : fnd (m_il mL) 1487 = some (.aload_n 0, 1) := by rfl
theorem lf1488 : fnd (m_il mL) 1488 = some (.iload_n 3, 1) := by rfl
theorem lf1489 : fnd (m_il mL) 1489 = some (.iconst 1, 1) := by rfl
theorem lf1490 : fnd (m_il mL) 1490 = some (.iadd, 1) := by rfl
theorem lf1491 : fnd (m_il mL) 1491 = some (.iaload, 1) := by rfl
theorem lf1492 : fnd (m_il mL) 1492 = some (.invokevirtual 155, 3) := by rfl
theorem lf1495 : fnd (m_il mL) 1495 = some (.aload_n 2, 1) := by rfl
theorem lf1496 : fnd (m_il mL) 1496 = some (.aload_n 0, 1) := by rfl
theorem lf1497 : fnd (m_il mL) 1497 = some (.iload_n 3, 1) := by rfl
theorem lf1498 : fnd (m_il mL) 1498 = some (.iconst 1, 1) := by rfl
theorem lf1499 : fnd (m_il mL) 1499 = some (.iadd, 1) := by rfl
theorem lf1500 : fnd (m_il mL) 1500 = some (.iaload, 1) := by rfl
theorem lf1501 : fnd (m_il mL) 1501 = some (.invokevirtual 158, 3) := by rfl
theorem lf1504 : fnd (m_il mL) 1504 = some (.if_icmp .eq 149, 3) := by rfl
theorem lf1509 : fnd (m_il mL) 1509 = some (.aload_n 1, 1) := by rfl
theorem lf1510 : fnd (m_il mL) 1510 = some (.aload_n 0, 1) := by rfl
theorem lf1511 : fnd (m_il mL) 1511 = some (.iload_n 3, 1) := by rfl
theorem lf1512 : fnd (m_il mL) 1512 = some (.iconst 1, 1) := by rfl
theorem lf1513 : fnd (m_il mL) 1513 = some (.iadd, 1) := by rfl
theorem lf1514 : fnd (m_il mL) 1514 = some (.iaload, 1) := by rfl
theorem lf1515 : fnd (m_il mL) 1515 = some (.aload_n 0, 1) := by rfl
theorem lf1516 : fnd (m_il mL) 1516 = some (.iload_n 3, 1) := by rfl
theorem lf1517 : fnd (m_il mL) 1517 = some (.iconst 2, 1) := by rfl
theorem lf1518 : fnd (m_il mL) 1518 = some (.iadd, 1) := by rfl
theorem lf1519 : fnd (m_il mL) 1519 = some (.iaload, 1) := by rfl
theorem lf1520 : fnd (m_il mL) 1520 = some (.aload_n 0, 1) := by rfl
theorem lf1521 : fnd (m_il mL) 1521 = some (.iload_n 3, 1) := by rfl
theorem lf1522 : fnd (m_il mL) 1522 = some (.iconst 3, 1) := by rfl
theorem lf1523 : fnd (m_il mL) 1523 = some (.iadd, 1) := by rfl
theorem lf1524 : fnd (m_il mL) 1524 = some (.iaload, 1) := by rfl
theorem lf1525 : fnd (m_il mL) 1525 = some (.aload_n 0, 1) := by rfl
theorem lf1526 : fnd (m_il mL) 1526 = some (.iload_n 3, 1) := by rfl
theorem lf1527 : fnd (m_il mL) 1527 = some (.iconst 4, 1) := by rfl
theorem lf1528 : fnd (m_il mL) 1528 = some (.iadd, 1) := by rfl
theorem lf1529 : fnd (m_il mL) 1529 = some (.iaload, 1) := by rfl
theorem lf1530 : fnd (m_il mL) 1530 = some (.aload_n 0, 1) := by rfl
theorem lf1531 : fnd (m_il mL) 1531 = some (.iload_n 3, 1) := by rfl
theorem lf1532 : fnd (m_il mL) 1532 = some (.iconst 5, 1) := by rfl
theorem lf1533 : fnd (m_il mL) 1533 = some (.iadd, 1) := by rfl
theorem lf1534 : fnd (m_il mL) 1534 = some (.iaload, 1) := by rfl
theorem lf1535 : fnd (m_il mL) 1535 = some (.aload_n 0, 1) := by rfl
theorem lf1536 : fnd (m_il mL) 1536 = some (.iload_n 3, 1) := by rfl
theorem lf1537 : fnd (m_il mL) 1537 = some (.bipush 6, 2) := by rfl
theorem lf1539 : fnd (m_il mL) 1539 = some (.iadd, 1) := by rfl
theorem lf1540 : fnd (m_il mL) 1540 = some (.iaload, 1) := by rfl
theorem lf1541 : fnd (m_il mL) 1541 = some (.invokevirtual 159, 3) := by rfl
theorem lf1544 : fnd (m_il mL) 1544 = some (.pop, 1) := by rfl
theorem lf1545 : fnd (m_il mL) 1545 = some (.aload_n 2, 1) := by rfl
theorem lf1546 : fnd (m_il mL) 1546 = some (.aload_n 0, 1) := by rfl
theorem lf1547 : fnd (m_il mL) 1547 = some (.iload_n 3, 1) := by rfl
theorem lf1548 : fnd (m_il mL) 1548 = some (.iconst 1, 1) := by rfl
theorem lf1549 : fnd (m_il mL) 1549 = some (.iadd, 1) := by rfl
theorem lf1550 : fnd (m_il mL) 1550 = some (.iaload, 1) := by rfl
theorem lf1551 : fnd (m_il mL) 1551 = some (.aload_n 0, 1) := by rfl
theorem lf1552 : fnd (m_il mL) 1552 = some (.iload_n 3, 1) := by rfl
theorem lf1553 : fnd (m_il mL) 1553 = some (.iconst 2, 1) := by rfl
theorem lf1554 : fnd (m_il mL) 1554 = some (.iadd, 1) := by rfl
theorem lf1555 : fnd (m_il mL) 1555 = some (.iaload, 1) := by rfl
theorem lf1556 : fnd (m_il mL) 1556 = some (.aload_n 0, 1) := by rfl
theorem lf1557 : fnd (m_il mL) 1557 = some (.iload_n 3, 1) := by rfl
theorem lf1558 : fnd (m_il mL) 1558 = some (.iconst 3, 1) := by rfl
theorem lf1559 : fnd (m_il mL) 1559 = some (.iadd, 1) := by rfl
theorem lf1560 : fnd (m_il mL) 1560 = some (.iaload, 1) := by rfl
theorem lf1561 : fnd (m_il mL) 1561 = some (.aload_n 0, 1) := by rfl
theorem lf1562 : fnd (m_il mL) 1562 = some (.iload_n 3, 1) := by rfl
theorem lf1563 : fnd (m_il mL) 1563 = some (.iconst 4, 1) := by rfl
theorem lf1564 : fnd (m_il mL) 1564 = some (.iadd, 1) := by rfl
theorem lf1565 : fnd (m_il mL) 1565 = some (.iaload, 1) := by rfl
theorem lf1566 : fnd (m_il mL) 1566 = some (.aload_n 0, 1) := by rfl
theorem lf1567 : fnd (m_il mL) 1567 = some (.iload_n 3, 1) := by rfl
theorem lf1568 : fnd (m_il mL) 1568 = some (.iconst 5, 1) := by rfl
theorem lf1569 : fnd (m_il mL) 1569 = some (.iadd, 1) := by rfl
theorem lf1570 : fnd (m_il mL) 1570 = some (.iaload, 1) := by rfl
theorem lf1571 : fnd (m_il mL) 1571 = some (.aload_n 0, 1) := by rfl
theorem lf1572 : fnd (m_il mL) 1572 = some (.iload_n 3, 1) := by rfl
theorem lf1573 : fnd (m_il mL) 1573 = some (.bipush 6, 2) := by rfl
theorem lf1575 : fnd (m_il mL) 1575 = some (.iadd, 1) := by rfl
theorem lf1576 : fnd (m_il mL) 1576 = some (.iaload, 1) := by rfl
theorem lf1577 : fnd (m_il mL) 1577 = some (.invokevirtual 163, 3) := by rfl
theorem lf1580 : fnd (m_il mL) 1580 = some (.pop, 1) := by rfl
theorem lf1581 : fnd (m_il mL) 1581 = some (.goto 72, 3) := by rfl
theorem lf1584 : fnd (m_il mL) 1584 = some (.aload_n 1, 1) := by rfl
theorem lf1585 : fnd (m_il mL) 1585 = some (.aload_n 0, 1) := by rfl
theorem lf1586 : fnd (m_il mL) 1586 = some (.iload_n 3, 1) := by rfl
theorem lf1587 : fnd (m_il mL) 1587 = some (.iconst 1, 1) := by rfl
theorem lf1588 : fnd (m_il mL) 1588 = some (.iadd, 1) := by rfl
theorem lf1589 : fnd (m_il mL) 1589 = some (.iaload, 1) := by rfl
theorem lf1590 : fnd (m_il mL) 1590 = some (.invokevirtual 164, 3) := by rfl
theorem lf1593 : fnd (m_il mL) 1593 = some (.pop, 1) := by rfl
theorem lf1594 : fnd (m_il mL) 1594 = some (.aload_n 2, 1) := by rfl
theorem lf1595 : fnd (m_il mL) 1595 = some (.aload_n 0, 1) := by rfl
theorem lf1596 : fnd (m_il mL) 1596 = some (.iload_n 3, 1) := by rfl
theorem lf1597 : fnd (m_il mL) 1597 = some (.iconst 1, 1) := by rfl
theorem lf1598 : fnd (m_il mL) 1598 = some (.iadd, 1) := by rfl
theorem lf1599 : fnd (m_il mL) 1599 = some (.iaload, 1) := by rfl
theorem lf1600 : fnd (m_il mL) 1600 = some (.invokevirtual 167, 3) := by rfl
theorem lf1603 : fnd (m_il mL) 1603 = some (.pop, 1) := by rfl
theorem lf1604 : fnd (m_il mL) 1604 = some (.goto 49, 3) := by rfl
theorem lf1607 : fnd (m_il mL) 1607 = some (.aload_n 1, 1) := by rfl
theorem lf1608 : fnd (m_il mL) 1608 = some (.aload_n 0, 1) := by rfl
theorem lf1609 : fnd (m_il mL) 1609 = some (.iload_n 3, 1) := by rfl
theorem lf1610 : fnd (m_il mL) 1610 = some (.iconst 1, 1) := by rfl
theorem lf1611 : fnd (m_il mL) 1611 = some (.iadd, 1) := by rfl
theorem lf1612 : fnd (m_il mL) 1612 = some (.iaload, 1) := by rfl
theorem lf1613 : fnd (m_il mL) 1613 = some (.invokevirtual 168, 3) := by rfl
theorem lf1616 : fnd (m_il mL) 1616 = some (.pop, 1) := by rfl
theorem lf1617 : fnd (m_il mL) 1617 = some (.aload_n 2, 1) := by rfl
theorem lf1618 : fnd (m_il mL) 1618 = some (.aload_n 0, 1) := by rfl
theorem lf1619 : fnd (m_il mL) 1619 = some (.iload_n 3, 1) := by rfl
theorem lf1620 : fnd (m_il mL) 1620 = some (.iconst 1, 1) := by rfl
theorem lf1621 : fnd (m_il mL) 1621 = some (.iadd, 1) := by rfl
theorem lf1622 : fnd (m_il mL) 1622 = some (.iaload, 1) := by rfl
theorem lf1623 : fnd (m_il mL) 1623 = some (.invokevirtual 171, 3) := by rfl
theorem lf1626 : fnd (m_il mL) 1626 = some (.pop, 1) := by rfl
theorem lf1627 : fnd (m_il mL) 1627 = some (.goto 26, 3) := by rfl
theorem lf1630 : fnd (m_il mL) 1630 = some (.aload_n 1, 1) := by rfl
theorem lf1631 : fnd (m_il mL) 1631 = some (.aload_n 0, 1) := by rfl
theorem lf1632 : fnd (m_il mL) 1632 = some (.iload_n 3, 1) := by rfl
theorem lf1633 : fnd (m_il mL) 1633 = some (.iconst 1, 1) := by rfl
theorem lf1634 : fnd (m_il mL) 1634 = some (.iadd, 1) := by rfl
theorem lf1635 : fnd (m_il mL) 1635 = some (.iaload, 1) := by rfl
theorem lf1636 : fnd (m_il mL) 1636 = some (.invokevirtual 172, 3) := by rfl
theorem lf1639 : fnd (m_il mL) 1639 = some (.pop, 1) := by rfl
theorem lf1640 : fnd (m_il mL) 1640 = some (.aload_n 2, 1) := by rfl
theorem lf1641 : fnd (m_il mL) 1641 = some (.aload_n 0, 1) := by rfl
theorem lf1642 : fnd (m_il mL) 1642 = some (.iload_n 3, 1) := by rfl
theorem lf1643 : fnd (m_il mL) 1643 = some (.iconst 1, 1) := by rfl
theorem lf1644 : fnd (m_il mL) 1644 = some (.iadd, 1) := by rfl
theorem lf1645 : fnd (m_il mL) 1645 = some (.iaload, 1) := by rfl
theorem lf1646 : fnd (m_il mL) 1646 = some (.invokevirtual 175, 3) := by rfl
theorem lf1649 : fnd (m_il mL) 1649 = some (.pop, 1) := by rfl
theorem lf1650 : fnd (m_il mL) 1650 = some (.goto 3, 3) := by rfl
theorem lf1653 : fnd (m_il mL) 1653 = some (.iinc 3 7, 3) := by rfl
theorem lf1656 : fnd (m_il mL) 1656 = some (.goto (-1638), 3) := by rfl
theorem lf1659 : fnd (m_il mL) 1659 = some (.iconst 1, 1) := by rfl
