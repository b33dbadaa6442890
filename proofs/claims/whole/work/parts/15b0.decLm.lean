theorem dL_law__0 : decode cL_law_ 0 = .ok (.new 8, 3) := by decide +kernel
theorem dL_law__3 : decode cL_law_ 3 = .ok (.dup, 1) := by decide +kernel
theorem dL_law__4 : decode cL_law_ 4 = .ok (.invokespecial 119, 3) := by decide +kernel
theorem dL_law__7 : decode cL_law_ 7 = .ok (.astore_n 1, 1) := by decide +kernel
theorem dL_law__8 : decode cL_law_ 8 = .ok (.new 120, 3) := by decide +kernel
theorem dL_law__11 : decode cL_law_ 11 = .ok (.dup, 1) := by decide +kernel
theorem dL_law__12 : decode cL_law_ 12 = .ok (.invokespecial 122, 3) := by decide +kernel
theorem dL_law__15 : decode cL_law_ 15 = .ok (.astore_n 2, 1) := by decide +kernel
theorem dL_law__16 : decode cL_law_ 16 = .ok (.iconst 1, 1) := by decide +kernel
theorem dL_law__17 : decode cL_law_ 17 = .ok (.newarray .long, 2) := by decide +kernel
theorem dL_law__19 : decode cL_law_ 19 = .ok (.astore_n 3, 1) := by decide +kernel
theorem dL_law__20 : decode cL_law_ 20 = .ok (.iconst 0, 1) := by decide +kernel
theorem dL_law__21 : decode cL_law_ 21 = .ok (.istore 4, 2) := by decide +kernel
theorem dL_law__23 : decode cL_law_ 23 = .ok (.iload 4, 2) := by decide +kernel
theorem dL_law__25 : decode cL_law_ 25 = .ok (.aload_n 0, 1) := by decide +kernel
theorem dL_law__26 : decode cL_law_ 26 = .ok (.arraylength, 1) := by decide +kernel
theorem dL_law__27 : decode cL_law_ 27 = .ok (.bipush 6, 2) := by decide +kernel
theorem dL_law__29 : decode cL_law_ 29 = .ok (.isub, 1) := by decide +kernel
theorem dL_law__30 : decode cL_law_ 30 = .ok (.if_icmp .gt 2620, 3) := by decide +kernel
theorem dL_law__33 : decode cL_law_ 33 = .ok (.aload_n 0, 1) := by decide +kernel
theorem dL_law__34 : decode cL_law_ 34 = .ok (.iload 4, 2) := by decide +kernel
theorem dL_law__36 : decode cL_law_ 36 = .ok (.iaload, 1) := by decide +kernel
theorem dL_law__37 : decode cL_law_ 37 = .ok (.bipush 63, 2) := by decide +kernel
theorem dL_law__39 : decode cL_law_ 39 = .ok (.iand, 1) := by decide +kernel
theorem dL_law__40 : decode cL_law_ 40 = .ok (.tableswitch 2604 0 47 #[208, 281, 306, 350, 394, 407, 475, 543, 611, 667, 735, 791, 859, 927, 1018, 1109, 1165, 1221, 1234, 1247, 1315, 1371, 1439, 1507, 1520, 1588, 1660, 1716, 1772, 1785, 1853, 1866, 1922, 1990, 2003, 2059, 2072, 2085, 2141, 2197, 2281, 2365, 2449, 2517, 2542, 2555, 2566, 2579], 208) := by decide +kernel
theorem dL_law__248 : decode cL_law_ 248 = .ok (.aload_n 1, 1) := by decide +kernel
theorem dL_law__249 : decode cL_law_ 249 = .ok (.aload_n 0, 1) := by decide +kernel
theorem dL_law__250 : decode cL_law_ 250 = .ok (.iload 4, 2) := by decide +kernel
theorem dL_law__252 : decode cL_law_ 252 = .ok (.iconst 1, 1) := by decide +kernel
theorem dL_law__253 : decode cL_law_ 253 = .ok (.iadd, 1) := by decide +kernel
theorem dL_law__254 : decode cL_law_ 254 = .ok (.iaload, 1) := by decide +kernel
theorem dL_law__255 : decode cL_law_ 255 = .ok (.aload_n 0, 1) := by decide +kernel
theorem dL_law__256 : decode cL_law_ 256 = .ok (.iload 4, 2) := by decide +kernel
theorem dL_law__258 : decode cL_law_ 258 = .ok (.iconst 2, 1) := by decide +kernel
theorem dL_law__259 : decode cL_law_ 259 = .ok (.iadd, 1) := by decide +kernel
theorem dL_law__260 : decode cL_law_ 260 = .ok (.iaload, 1) := by decide +kernel
theorem dL_law__261 : decode cL_law_ 261 = .ok (.aload_n 0, 1) := by decide +kernel
theorem dL_law__262 : decode cL_law_ 262 = .ok (.iload 4, 2) := by decide +kernel
theorem dL_law__264 : decode cL_law_ 264 = .ok (.iconst 3, 1) := by decide +kernel
theorem dL_law__265 : decode cL_law_ 265 = .ok (.iadd, 1) := by decide +kernel
theorem dL_law__266 : decode cL_law_ 266 = .ok (.iaload, 1) := by decide +kernel
theorem dL_law__267 : decode cL_law_ 267 = .ok (.aload_n 0, 1) := by decide +kernel
theorem dL_law__268 : decode cL_law_ 268 = .ok (.iload 4, 2) := by decide +kernel
theorem dL_law__270 : decode cL_law_ 270 = .ok (.iconst 4, 1) := by decide +kernel
theorem dL_law__271 : decode cL_law_ 271 = .ok (.iadd, 1) := by decide +kernel
theorem dL_law__272 : decode cL_law_ 272 = .ok (.iaload, 1) := by decide +kernel
theorem dL_law__273 : decode cL_law_ 273 = .ok (.aload_n 0, 1) := by decide +kernel
theorem dL_law__274 : decode cL_law_ 274 = .ok (.iload 4, 2) := by decide +kernel
theorem dL_law__276 : decode cL_law_ 276 = .ok (.iconst 5, 1) := by decide +kernel
theorem dL_law__277 : decode cL_law_ 277 = .ok (.iadd, 1) := by decide +kernel
theorem dL_law__278 : decode cL_law_ 278 = .ok (.iaload, 1) := by decide +kernel
theorem dL_law__279 : decode cL_law_ 279 = .ok (.invokevirtual 123, 3) := by decide +kernel
theorem dL_law__282 : decode cL_law_ 282 = .ok (.aload_n 2, 1) := by decide +kernel
theorem dL_law__283 : decode cL_law_ 283 = .ok (.aload_n 0, 1) := by decide +kernel
theorem dL_law__284 : decode cL_law_ 284 = .ok (.iload 4, 2) := by decide +kernel
theorem dL_law__286 : decode cL_law_ 286 = .ok (.iconst 1, 1) := by decide +kernel
theorem dL_law__287 : decode cL_law_ 287 = .ok (.iadd, 1) := by decide +kernel
theorem dL_law__288 : decode cL_law_ 288 = .ok (.iaload, 1) := by decide +kernel
theorem dL_law__289 : decode cL_law_ 289 = .ok (.aload_n 0, 1) := by decide +kernel
theorem dL_law__290 : decode cL_law_ 290 = .ok (.iload 4, 2) := by decide +kernel
theorem dL_law__292 : decode cL_law_ 292 = .ok (.iconst 2, 1) := by decide +kernel
theorem dL_law__293 : decode cL_law_ 293 = .ok (.iadd, 1) := by decide +kernel
theorem dL_law__294 : decode cL_law_ 294 = .ok (.iaload, 1) := by decide +kernel
theorem dL_law__295 : decode cL_law_ 295 = .ok (.aload_n 0, 1) := by decide +kernel
theorem dL_law__296 : decode cL_law_ 296 = .ok (.iload 4, 2) := by decide +kernel
theorem dL_law__298 : decode cL_law_ 298 = .ok (.iconst 3, 1) := by decide +kernel
theorem dL_law__299 : decode cL_law_ 299 = .ok (.iadd, 1) := by decide +kernel
theorem dL_law__300 : decode cL_law_ 300 = .ok (.iaload, 1) := by decide +kernel
theorem dL_law__301 : decode cL_law_ 301 = .ok (.aload_n 0, 1) := by decide +kernel
theorem dL_law__302 : decode cL_law_ 302 = .ok (.iload 4, 2) := by decide +kernel
theorem dL_law__304 : decode cL_law_ 304 = .ok (.iconst 4, 1) := by decide +kernel
theorem dL_law__305 : decode cL_law_ 305 = .ok (.iadd, 1) := by decide +kernel
theorem dL_law__306 : decode cL_law_ 306 = .ok (.iaload, 1) := by decide +kernel
theorem dL_law__307 : decode cL_law_ 307 = .ok (.aload_n 0, 1) := by decide +kernel
theorem dL_law__308 : decode cL_law_ 308 = .ok (.iload 4, 2) := by decide +kernel
theorem dL_law__310 : decode cL_law_ 310 = .ok (.iconst 5, 1) := by decide +kernel
theorem dL_law__311 : decode cL_law_ 311 = .ok (.iadd, 1) := by decide +kernel
theorem dL_law__312 : decode cL_law_ 312 = .ok (.iaload, 1) := by decide +kernel
theorem dL_law__313 : decode cL_law_ 313 = .ok (.invokevirtual 127, 3) := by decide +kernel
theorem dL_law__316 : decode cL_law_ 316 = .ok (.if_icmp .eq 2328, 3) := by decide +kernel
theorem dL_law__319 : decode cL_law_ 319 = .ok (.iconst 0, 1) := by decide +kernel
theorem dL_law__320 : decode cL_law_ 320 = .ok (.ireturn, 1) := by decide +kernel
theorem dL_law__321 : decode cL_law_ 321 = .ok (.aload_n 1, 1) := by decide +kernel
theorem dL_law__322 : decode cL_law_ 322 = .ok (.aload_n 0, 1) := by decide +kernel
theorem dL_law__323 : decode cL_law_ 323 = .ok (.iload 4, 2) := by decide +kernel
theorem dL_law__325 : decode cL_law_ 325 = .ok (.iconst 1, 1) := by decide +kernel
theorem dL_law__326 : decode cL_law_ 326 = .ok (.iadd, 1) := by decide +kernel
theorem dL_law__327 : decode cL_law_ 327 = .ok (.iaload, 1) := by decide +kernel
theorem dL_law__328 : decode cL_law_ 328 = .ok (.invokevirtual 128, 3) := by decide +kernel
theorem dL_law__331 : decode cL_law_ 331 = .ok (.aload_n 2, 1) := by decide +kernel
theorem dL_law__332 : decode cL_law_ 332 = .ok (.aload_n 0, 1) := by decide +kernel
theorem dL_law__333 : decode cL_law_ 333 = .ok (.iload 4, 2) := by decide +kernel
theorem dL_law__335 : decode cL_law_ 335 = .ok (.iconst 1, 1) := by decide +kernel
theorem dL_law__336 : decode cL_law_ 336 = .ok (.iadd, 1) := by decide +kernel
theorem dL_law__337 : decode cL_law_ 337 = .ok (.iaload, 1) := by decide +kernel
theorem dL_law__338 : decode cL_law_ 338 = .ok (.invokevirtual 132, 3) := by decide +kernel
theorem dL_law__341 : decode cL_law_ 341 = .ok (.if_icmp .eq 2303, 3) := by decide +kernel
theorem dL_law__344 : decode cL_law_ 344 = .ok (.iconst 0, 1) := by decide +kernel
theorem dL_law__345 : decode cL_law_ 345 = .ok (.ireturn, 1) := by decide +kernel
theorem dL_law__346 : decode cL_law_ 346 = .ok (.aload_n 1, 1) := by decide +kernel
theorem dL_law__347 : decode cL_law_ 347 = .ok (.aload_n 3, 1) := by decide +kernel
theorem dL_law__348 : decode cL_law_ 348 = .ok (.invokestatic 133, 3) := by decide +kernel
theorem dL_law__351 : decode cL_law_ 351 = .ok (.istore 5, 2) := by decide +kernel
theorem dL_law__353 : decode cL_law_ 353 = .ok (.aload_n 2, 1) := by decide +kernel
theorem dL_law__354 : decode cL_law_ 354 = .ok (.invokevirtual 138, 3) := by decide +kernel
theorem dL_law__357 : decode cL_law_ 357 = .ok (.istore 6, 2) := by decide +kernel
theorem dL_law__359 : decode cL_law_ 359 = .ok (.aload_n 2, 1) := by decide +kernel
theorem dL_law__360 : decode cL_law_ 360 = .ok (.invokevirtual 139, 3) := by decide +kernel
theorem dL_law__363 : decode cL_law_ 363 = .ok (.iload 5, 2) := by decide +kernel
theorem dL_law__365 : decode cL_law_ 365 = .ok (.if_icmp .eq 5, 3) := by decide +kernel
theorem dL_law__368 : decode cL_law_ 368 = .ok (.iconst 0, 1) := by decide +kernel
theorem dL_law__369 : decode cL_law_ 369 = .ok (.ireturn, 1) := by decide +kernel
theorem dL_law__370 : decode cL_law_ 370 = .ok (.iload 5, 2) := by decide +kernel
theorem dL_law__372 : decode cL_law_ 372 = .ok (.ifCond .ne 15, 3) := by decide +kernel
theorem dL_law__375 : decode cL_law_ 375 = .ok (.aload_n 3, 1) := by decide +kernel
theorem dL_law__376 : decode cL_law_ 376 = .ok (.iconst 0, 1) := by decide +kernel
theorem dL_law__377 : decode cL_law_ 377 = .ok (.laload, 1) := by decide +kernel
theorem dL_law__378 : decode cL_law_ 378 = .ok (.iload 6, 2) := by decide +kernel
theorem dL_law__380 : decode cL_law_ 380 = .ok (.i2l, 1) := by decide +kernel
theorem dL_law__381 : decode cL_law_ 381 = .ok (.lcmp, 1) := by decide +kernel
theorem dL_law__382 : decode cL_law_ 382 = .ok (.ifCond .eq 5, 3) := by decide +kernel
theorem dL_law__385 : decode cL_law_ 385 = .ok (.iconst 0, 1) := by decide +kernel
theorem dL_law__386 : decode cL_law_ 386 = .ok (.ireturn, 1) := by decide +kernel
theorem dL_law__387 : decode cL_law_ 387 = .ok (.goto 2257, 3) := by decide +kernel
theorem dL_law__390 : decode cL_law_ 390 = .ok (.aload_n 1, 1) := by decide +kernel
theorem dL_law__391 : decode cL_law_ 391 = .ok (.aload_n 3, 1) := by decide +kernel
theorem dL_law__392 : decode cL_law_ 392 = .ok (.invokestatic 142, 3) := by decide +kernel
theorem dL_law__395 : decode cL_law_ 395 = .ok (.istore 5, 2) := by decide +kernel
theorem dL_law__397 : decode cL_law_ 397 = .ok (.aload_n 2, 1) := by decide +kernel
theorem dL_law__398 : decode cL_law_ 398 = .ok (.invokevirtual 144, 3) := by decide +kernel
theorem dL_law__401 : decode cL_law_ 401 = .ok (.istore 6, 2) := by decide +kernel
theorem dL_law__403 : decode cL_law_ 403 = .ok (.aload_n 2, 1) := by decide +kernel
theorem dL_law__404 : decode cL_law_ 404 = .ok (.invokevirtual 139, 3) := by decide +kernel
theorem dL_law__407 : decode cL_law_ 407 = .ok (.iload 5, 2) := by decide +kernel
theorem dL_law__409 : decode cL_law_ 409 = .ok (.if_icmp .eq 5, 3) := by decide +kernel
theorem dL_law__412 : decode cL_law_ 412 = .ok (.iconst 0, 1) := by decide +kernel
theorem dL_law__413 : decode cL_law_ 413 = .ok (.ireturn, 1) := by decide +kernel
theorem dL_law__414 : decode cL_law_ 414 = .ok (.iload 5, 2) := by decide +kernel
theorem dL_law__416 : decode cL_law_ 416 = .ok (.ifCond .ne 15, 3) := by decide +kernel
theorem dL_law__419 : decode cL_law_ 419 = .ok (.aload_n 3, 1) := by decide +kernel
theorem dL_law__420 : decode cL_law_ 420 = .ok (.iconst 0, 1) := by decide +kernel
theorem dL_law__421 : decode cL_law_ 421 = .ok (.laload, 1) := by decide +kernel
theorem dL_law__422 : decode cL_law_ 422 = .ok (.iload 6, 2) := by decide +kernel
theorem dL_law__424 : decode cL_law_ 424 = .ok (.i2l, 1) := by decide +kernel
theorem dL_law__425 : decode cL_law_ 425 = .ok (.lcmp, 1) := by decide +kernel
theorem dL_law__426 : decode cL_law_ 426 = .ok (.ifCond .eq 5, 3) := by decide +kernel
theorem dL_law__429 : decode cL_law_ 429 = .ok (.iconst 0, 1) := by decide +kernel
theorem dL_law__430 : decode cL_law_ 430 = .ok (.ireturn, 1) := by decide +kernel
theorem dL_law__431 : decode cL_law_ 431 = .ok (.goto 2213, 3) := by decide +kernel
theorem dL_law__434 : decode cL_law_ 434 = .ok (.aload_n 1, 1) := by decide +kernel
theorem dL_law__435 : decode cL_law_ 435 = .ok (.invokevirtual 145, 3) := by decide +kernel
theorem dL_law__438 : decode cL_law_ 438 = .ok (.aload_n 2, 1) := by decide +kernel
theorem dL_law__439 : decode cL_law_ 439 = .ok (.invokevirtual 148, 3) := by decide +kernel
theorem dL_law__442 : decode cL_law_ 442 = .ok (.if_icmp .eq 2202, 3) := by decide +kernel
theorem dL_law__445 : decode cL_law_ 445 = .ok (.iconst 0, 1) := by decide +kernel
theorem dL_law__446 : decode cL_law_ 446 = .ok (.ireturn, 1) := by decide +kernel
theorem dL_law__447 : decode cL_law_ 447 = .ok (.aload_n 1, 1) := by decide +kernel
theorem dL_law__448 : decode cL_law_ 448 = .ok (.aload_n 0, 1) := by decide +kernel
theorem dL_law__449 : decode cL_law_ 449 = .ok (.iload 4, 2) := by decide +kernel
theorem dL_law__451 : decode cL_law_ 451 = .ok (.iconst 1, 1) := by decide +kernel
theorem dL_law__452 : decode cL_law_ 452 = .ok (.iadd, 1) := by decide +kernel
theorem dL_law__453 : decode cL_law_ 453 = .ok (.iaload, 1) := by decide +kernel
theorem dL_law__454 : decode cL_law_ 454 = .ok (.aload_n 0, 1) := by decide +kernel
theorem dL_law__455 : decode cL_law_ 455 = .ok (.iload 4, 2) := by decide +kernel
theorem dL_law__457 : decode cL_law_ 457 = .ok (.iconst 2, 1) := by decide +kernel
theorem dL_law__458 : decode cL_law_ 458 = .ok (.iadd, 1) := by decide +kernel
theorem dL_law__459 : decode cL_law_ 459 = .ok (.iaload, 1) := by decide +kernel
theorem dL_law__460 : decode cL_law_ 460 = .ok (.aload_n 3, 1) := by decide +kernel
theorem dL_law__461 : decode cL_law_ 461 = .ok (.invokestatic 149, 3) := by decide +kernel
theorem dL_law__464 : decode cL_law_ 464 = .ok (.istore 5, 2) := by decide +kernel
theorem dL_law__466 : decode cL_law_ 466 = .ok (.aload_n 2, 1) := by decide +kernel
theorem dL_law__467 : decode cL_law_ 467 = .ok (.aload_n 0, 1) := by decide +kernel
theorem dL_law__468 : decode cL_law_ 468 = .ok (.iload 4, 2) := by decide +kernel
theorem dL_law__470 : decode cL_law_ 470 = .ok (.iconst 1, 1) := by decide +kernel
theorem dL_law__471 : decode cL_law_ 471 = .ok (.iadd, 1) := by decide +kernel
theorem dL_law__472 : decode cL_law_ 472 = .ok (.iaload, 1) := by decide +kernel
theorem dL_law__473 : decode cL_law_ 473 = .ok (.aload_n 0, 1) := by decide +kernel
theorem dL_law__474 : decode cL_law_ 474 = .ok (.iload 4, 2) := by decide +kernel
theorem dL_law__476 : decode cL_law_ 476 = .ok (.iconst 2, 1) := by decide +kernel
theorem dL_law__477 : decode cL_law_ 477 = .ok (.iadd, 1) := by decide +kernel
theorem dL_law__478 : decode cL_law_ 478 = .ok (.iaload, 1) := by decide +kernel
theorem dL_law__479 : decode cL_law_ 479 = .ok (.invokevirtual 152, 3) := by decide +kernel
theorem dL_law__482 : decode cL_law_ 482 = .ok (.istore 6, 2) := by decide +kernel
theorem dL_law__484 : decode cL_law_ 484 = .ok (.aload_n 2, 1) := by decide +kernel
theorem dL_law__485 : decode cL_law_ 485 = .ok (.invokevirtual 139, 3) := by decide +kernel
theorem dL_law__488 : decode cL_law_ 488 = .ok (.iload 5, 2) := by decide +kernel
theorem dL_law__490 : decode cL_law_ 490 = .ok (.if_icmp .eq 5, 3) := by decide +kernel
theorem dL_law__493 : decode cL_law_ 493 = .ok (.iconst 0, 1) := by decide +kernel
theorem dL_law__494 : decode cL_law_ 494 = .ok (.ireturn, 1) := by decide +kernel
theorem dL_law__495 : decode cL_law_ 495 = .ok (.iload 5, 2) := by decide +kernel
theorem dL_law__497 : decode cL_law_ 497 = .ok (.ifCond .ne 15, 3) := by decide +kernel
theorem dL_law__500 : decode cL_law_ 500 = .ok (.aload_n 3, 1) := by decide +kernel
theorem dL_law__501 : decode cL_law_ 501 = .ok (.iconst 0, 1) := by decide +kernel
theorem dL_law__502 : decode cL_law_ 502 = .ok (.laload, 1) := by decide +kernel
theorem dL_law__503 : decode cL_law_ 503 = .ok (.iload 6, 2) := by decide +kernel
theorem dL_law__505 : decode cL_law_ 505 = .ok (.i2l, 1) := by decide +kernel
theorem dL_law__506 : decode cL_law_ 506 = .ok (.lcmp, 1) := by decide +kernel
theorem dL_law__507 : decode cL_law_ 507 = .ok (.ifCond .eq 5, 3) := by decide +kernel
theorem dL_law__510 : decode cL_law_ 510 = .ok (.iconst 0, 1) := by decide +kernel
theorem dL_law__511 : decode cL_law_ 511 = .ok (.ireturn, 1) := by decide +kernel
theorem dL_law__512 : decode cL_law_ 512 = .ok (.goto 2132, 3) := by decide +kernel
theorem dL_law__515 : decode cL_law_ 515 = .ok (.aload_n 1, 1) := by decide +kernel
theorem dL_law__516 : decode cL_law_ 516 = .ok (.aload_n 0, 1) := by decide +kernel
theorem dL_law__517 : decode cL_law_ 517 = .ok (.iload 4, 2) := by decide +kernel
theorem dL_law__519 : decode cL_law_ 519 = .ok (.iconst 1, 1) := by decide +kernel
theorem dL_law__520 : decode cL_law_ 520 = .ok (.iadd, 1) := by decide +kernel
theorem dL_law__521 : decode cL_law_ 521 = .ok (.iaload, 1) := by decide +kernel
theorem dL_law__522 : decode cL_law_ 522 = .ok (.aload_n 0, 1) := by decide +kernel
theorem dL_law__523 : decode cL_law_ 523 = .ok (.iload 4, 2) := by decide +kernel
theorem dL_law__525 : decode cL_law_ 525 = .ok (.iconst 2, 1) := by decide +kernel
theorem dL_law__526 : decode cL_law_ 526 = .ok (.iadd, 1) := by decide +kernel
theorem dL_law__527 : decode cL_law_ 527 = .ok (.iaload, 1) := by decide +kernel
theorem dL_law__528 : decode cL_law_ 528 = .ok (.aload_n 3, 1) := by decide +kernel
theorem dL_law__529 : decode cL_law_ 529 = .ok (.invokestatic 153, 3) := by decide +kernel
theorem dL_law__532 : decode cL_law_ 532 = .ok (.istore 5, 2) := by decide +kernel
theorem dL_law__534 : decode cL_law_ 534 = .ok (.aload_n 2, 1) := by decide +kernel
theorem dL_law__535 : decode cL_law_ 535 = .ok (.aload_n 0, 1) := by decide +kernel
theorem dL_law__536 : decode cL_law_ 536 = .ok (.iload 4, 2) := by decide +kernel
theorem dL_law__538 : decode cL_law_ 538 = .ok (.iconst 1, 1) := by decide +kernel
theorem dL_law__539 : decode cL_law_ 539 = .ok (.iadd, 1) := by decide +kernel
theorem dL_law__540 : decode cL_law_ 540 = .ok (.iaload, 1) := by decide +kernel
theorem dL_law__541 : decode cL_law_ 541 = .ok (.aload_n 0, 1) := by decide +kernel
theorem dL_law__542 : decode cL_law_ 542 = .ok (.iload 4, 2) := by decide +kernel
theorem dL_law__544 : decode cL_law_ 544 = .ok (.iconst 2, 1) := by decide +kernel
theorem dL_law__545 : decode cL_law_ 545 = .ok (.iadd, 1) := by decide +kernel
theorem dL_law__546 : decode cL_law_ 546 = .ok (.iaload, 1) := by decide +kernel
theorem dL_law__547 : decode cL_law_ 547 = .ok (.invokevirtual 155, 3) := by decide +kernel
theorem dL_law__550 : decode cL_law_ 550 = .ok (.istore 6, 2) := by decide +kernel
theorem dL_law__552 : decode cL_law_ 552 = .ok (.aload_n 2, 1) := by decide +kernel
theorem dL_law__553 : decode cL_law_ 553 = .ok (.invokevirtual 139, 3) := by decide +kernel
theorem dL_law__556 : decode cL_law_ 556 = .ok (.iload 5, 2) := by decide +kernel
theorem dL_law__558 : decode cL_law_ 558 = .ok (.if_icmp .eq 5, 3) := by decide +kernel
theorem dL_law__561 : decode cL_law_ 561 = .ok (.iconst 0, 1) := by decide +kernel
theorem dL_law__562 : decode cL_law_ 562 = .ok (.ireturn, 1) := by decide +kernel
theorem dL_law__563 : decode cL_law_ 563 = .ok (.iload 5, 2) := by decide +kernel
theorem dL_law__565 : decode cL_law_ 565 = .ok (.ifCond .ne 15, 3) := by decide +kernel
theorem dL_law__568 : decode cL_law_ 568 = .ok (.aload_n 3, 1) := by decide +kernel
theorem dL_law__569 : decode cL_law_ 569 = .ok (.iconst 0, 1) := by decide +kernel
theorem dL_law__570 : decode cL_law_ 570 = .ok (.laload, 1) := by decide +kernel
theorem dL_law__571 : decode cL_law_ 571 = .ok (.iload 6, 2) := by decide +kernel
theorem dL_law__573 : decode cL_law_ 573 = .ok (.i2l, 1) := by decide +kernel
theorem dL_law__574 : decode cL_law_ 574 = .ok (.lcmp, 1) := by decide +kernel
theorem dL_law__575 : decode cL_law_ 575 = .ok (.ifCond .eq 5, 3) := by decide +kernel
theorem dL_law__578 : decode cL_law_ 578 = .ok (.iconst 0, 1) := by decide +kernel
theorem dL_law__579 : decode cL_law_ 579 = .ok (.ireturn, 1) := by decide +kernel
theorem dL_law__580 : decode cL_law_ 580 = .ok (.goto 2064, 3) := by decide +kernel
theorem dL_law__583 : decode cL_law_ 583 = .ok (.aload_n 1, 1) := by decide +kernel
theorem dL_law__584 : decode cL_law_ 584 = .ok (.aload_n 0, 1) := by decide +kernel
theorem dL_law__585 : decode cL_law_ 585 = .ok (.iload 4, 2) := by decide +kernel
theorem dL_law__587 : decode cL_law_ 587 = .ok (.iconst 1, 1) := by decide +kernel
