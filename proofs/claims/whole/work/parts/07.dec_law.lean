-- decode rows of the law, the words of its own methods (made by program)
theorem dL_law__0 : decode cL_law_ 0 = .ok (.new 8, 3) := by decide +kernel
theorem dL_law__3 : decode cL_law_ 3 = .ok (.dup, 1) := by decide +kernel
theorem dL_law__4 : decode cL_law_ 4 = .ok (.invokespecial 145, 3) := by decide +kernel
theorem dL_law__7 : decode cL_law_ 7 = .ok (.astore_n 1, 1) := by decide +kernel
theorem dL_law__8 : decode cL_law_ 8 = .ok (.new 146, 3) := by decide +kernel
theorem dL_law__11 : decode cL_law_ 11 = .ok (.dup, 1) := by decide +kernel
theorem dL_law__12 : decode cL_law_ 12 = .ok (.invokespecial 148, 3) := by decide +kernel
theorem dL_law__15 : decode cL_law_ 15 = .ok (.astore_n 2, 1) := by decide +kernel
theorem dL_law__16 : decode cL_law_ 16 = .ok (.iconst 1, 1) := by decide +kernel
theorem dL_law__17 : decode cL_law_ 17 = .ok (.newarray .long, 2) := by decide +kernel
theorem dL_law__19 : decode cL_law_ 19 = .ok (.astore_n 3, 1) := by decide +kernel
theorem dL_law__20 : decode cL_law_ 20 = .ok (.iconst 0, 1) := by decide +kernel
theorem dL_law__21 : decode cL_law_ 21 = .ok (.istore 4, 2) := by decide +kernel
theorem dL_law__23 : decode cL_law_ 23 = .ok (.iload 4, 2) := by decide +kernel
theorem dL_law__25 : decode cL_law_ 25 = .ok (.aload_n 0, 1) := by decide +kernel
theorem dL_law__26 : decode cL_law_ 26 = .ok (.arraylength, 1) := by decide +kernel
theorem dL_law__27 : decode cL_law_ 27 = .ok (.bipush 6, 2) := by decide +kernel
theorem dL_law__29 : decode cL_law_ 29 = .ok (.isub, 1) := by decide +kernel
theorem dL_law__30 : decode cL_law_ 30 = .ok (.if_icmp .gt 3045, 3) := by decide +kernel
theorem dL_law__33 : decode cL_law_ 33 = .ok (.aload_n 0, 1) := by decide +kernel
theorem dL_law__34 : decode cL_law_ 34 = .ok (.iload 4, 2) := by decide +kernel
theorem dL_law__36 : decode cL_law_ 36 = .ok (.iaload, 1) := by decide +kernel
theorem dL_law__37 : decode cL_law_ 37 = .ok (.bipush 63, 2) := by decide +kernel
theorem dL_law__39 : decode cL_law_ 39 = .ok (.iand, 1) := by decide +kernel
theorem dL_law__40 : decode cL_law_ 40 = .ok (.tableswitch 3029 0 50 #[220, 293, 318, 362, 406, 419, 475, 543, 611, 667, 723, 791, 847, 915, 971, 1039, 1095, 1151, 1214, 1270, 1326, 1382, 1450, 1506, 1610, 1714, 1806, 1862, 1918, 1986, 2058, 2130, 2174, 2242, 2255, 2268, 2281, 2349, 2405, 2461, 2474, 2542, 2622, 2706, 2790, 2874, 2942, 2967, 2980, 2991, 3004], 220) := by decide +kernel
theorem dL_law__260 : decode cL_law_ 260 = .ok (.aload_n 1, 1) := by decide +kernel
theorem dL_law__261 : decode cL_law_ 261 = .ok (.aload_n 0, 1) := by decide +kernel
theorem dL_law__262 : decode cL_law_ 262 = .ok (.iload 4, 2) := by decide +kernel
theorem dL_law__264 : decode cL_law_ 264 = .ok (.iconst 1, 1) := by decide +kernel
theorem dL_law__265 : decode cL_law_ 265 = .ok (.iadd, 1) := by decide +kernel
theorem dL_law__266 : decode cL_law_ 266 = .ok (.iaload, 1) := by decide +kernel
theorem dL_law__267 : decode cL_law_ 267 = .ok (.aload_n 0, 1) := by decide +kernel
theorem dL_law__268 : decode cL_law_ 268 = .ok (.iload 4, 2) := by decide +kernel
theorem dL_law__270 : decode cL_law_ 270 = .ok (.iconst 2, 1) := by decide +kernel
theorem dL_law__271 : decode cL_law_ 271 = .ok (.iadd, 1) := by decide +kernel
theorem dL_law__272 : decode cL_law_ 272 = .ok (.iaload, 1) := by decide +kernel
theorem dL_law__273 : decode cL_law_ 273 = .ok (.aload_n 0, 1) := by decide +kernel
theorem dL_law__274 : decode cL_law_ 274 = .ok (.iload 4, 2) := by decide +kernel
theorem dL_law__276 : decode cL_law_ 276 = .ok (.iconst 3, 1) := by decide +kernel
theorem dL_law__277 : decode cL_law_ 277 = .ok (.iadd, 1) := by decide +kernel
theorem dL_law__278 : decode cL_law_ 278 = .ok (.iaload, 1) := by decide +kernel
theorem dL_law__279 : decode cL_law_ 279 = .ok (.aload_n 0, 1) := by decide +kernel
theorem dL_law__280 : decode cL_law_ 280 = .ok (.iload 4, 2) := by decide +kernel
theorem dL_law__282 : decode cL_law_ 282 = .ok (.iconst 4, 1) := by decide +kernel
theorem dL_law__283 : decode cL_law_ 283 = .ok (.iadd, 1) := by decide +kernel
theorem dL_law__284 : decode cL_law_ 284 = .ok (.iaload, 1) := by decide +kernel
theorem dL_law__285 : decode cL_law_ 285 = .ok (.aload_n 0, 1) := by decide +kernel
theorem dL_law__286 : decode cL_law_ 286 = .ok (.iload 4, 2) := by decide +kernel
theorem dL_law__288 : decode cL_law_ 288 = .ok (.iconst 5, 1) := by decide +kernel
theorem dL_law__289 : decode cL_law_ 289 = .ok (.iadd, 1) := by decide +kernel
theorem dL_law__290 : decode cL_law_ 290 = .ok (.iaload, 1) := by decide +kernel
theorem dL_law__291 : decode cL_law_ 291 = .ok (.invokevirtual 149, 3) := by decide +kernel
theorem dL_law__294 : decode cL_law_ 294 = .ok (.aload_n 2, 1) := by decide +kernel
theorem dL_law__295 : decode cL_law_ 295 = .ok (.aload_n 0, 1) := by decide +kernel
theorem dL_law__296 : decode cL_law_ 296 = .ok (.iload 4, 2) := by decide +kernel
theorem dL_law__298 : decode cL_law_ 298 = .ok (.iconst 1, 1) := by decide +kernel
theorem dL_law__299 : decode cL_law_ 299 = .ok (.iadd, 1) := by decide +kernel
theorem dL_law__300 : decode cL_law_ 300 = .ok (.iaload, 1) := by decide +kernel
theorem dL_law__301 : decode cL_law_ 301 = .ok (.aload_n 0, 1) := by decide +kernel
theorem dL_law__302 : decode cL_law_ 302 = .ok (.iload 4, 2) := by decide +kernel
theorem dL_law__304 : decode cL_law_ 304 = .ok (.iconst 2, 1) := by decide +kernel
theorem dL_law__305 : decode cL_law_ 305 = .ok (.iadd, 1) := by decide +kernel
theorem dL_law__306 : decode cL_law_ 306 = .ok (.iaload, 1) := by decide +kernel
theorem dL_law__307 : decode cL_law_ 307 = .ok (.aload_n 0, 1) := by decide +kernel
theorem dL_law__308 : decode cL_law_ 308 = .ok (.iload 4, 2) := by decide +kernel
theorem dL_law__310 : decode cL_law_ 310 = .ok (.iconst 3, 1) := by decide +kernel
theorem dL_law__311 : decode cL_law_ 311 = .ok (.iadd, 1) := by decide +kernel
theorem dL_law__312 : decode cL_law_ 312 = .ok (.iaload, 1) := by decide +kernel
theorem dL_law__313 : decode cL_law_ 313 = .ok (.aload_n 0, 1) := by decide +kernel
theorem dL_law__314 : decode cL_law_ 314 = .ok (.iload 4, 2) := by decide +kernel
theorem dL_law__316 : decode cL_law_ 316 = .ok (.iconst 4, 1) := by decide +kernel
theorem dL_law__317 : decode cL_law_ 317 = .ok (.iadd, 1) := by decide +kernel
theorem dL_law__318 : decode cL_law_ 318 = .ok (.iaload, 1) := by decide +kernel
theorem dL_law__319 : decode cL_law_ 319 = .ok (.aload_n 0, 1) := by decide +kernel
theorem dL_law__320 : decode cL_law_ 320 = .ok (.iload 4, 2) := by decide +kernel
theorem dL_law__322 : decode cL_law_ 322 = .ok (.iconst 5, 1) := by decide +kernel
theorem dL_law__323 : decode cL_law_ 323 = .ok (.iadd, 1) := by decide +kernel
theorem dL_law__324 : decode cL_law_ 324 = .ok (.iaload, 1) := by decide +kernel
theorem dL_law__325 : decode cL_law_ 325 = .ok (.invokevirtual 152, 3) := by decide +kernel
theorem dL_law__328 : decode cL_law_ 328 = .ok (.if_icmp .eq 2741, 3) := by decide +kernel
theorem dL_law__331 : decode cL_law_ 331 = .ok (.iconst 0, 1) := by decide +kernel
theorem dL_law__332 : decode cL_law_ 332 = .ok (.ireturn, 1) := by decide +kernel
theorem dL_law__333 : decode cL_law_ 333 = .ok (.aload_n 1, 1) := by decide +kernel
theorem dL_law__334 : decode cL_law_ 334 = .ok (.aload_n 0, 1) := by decide +kernel
theorem dL_law__335 : decode cL_law_ 335 = .ok (.iload 4, 2) := by decide +kernel
theorem dL_law__337 : decode cL_law_ 337 = .ok (.iconst 1, 1) := by decide +kernel
theorem dL_law__338 : decode cL_law_ 338 = .ok (.iadd, 1) := by decide +kernel
theorem dL_law__339 : decode cL_law_ 339 = .ok (.iaload, 1) := by decide +kernel
theorem dL_law__340 : decode cL_law_ 340 = .ok (.invokevirtual 153, 3) := by decide +kernel
theorem dL_law__343 : decode cL_law_ 343 = .ok (.aload_n 2, 1) := by decide +kernel
theorem dL_law__344 : decode cL_law_ 344 = .ok (.aload_n 0, 1) := by decide +kernel
theorem dL_law__345 : decode cL_law_ 345 = .ok (.iload 4, 2) := by decide +kernel
theorem dL_law__347 : decode cL_law_ 347 = .ok (.iconst 1, 1) := by decide +kernel
theorem dL_law__348 : decode cL_law_ 348 = .ok (.iadd, 1) := by decide +kernel
theorem dL_law__349 : decode cL_law_ 349 = .ok (.iaload, 1) := by decide +kernel
theorem dL_law__350 : decode cL_law_ 350 = .ok (.invokevirtual 156, 3) := by decide +kernel
theorem dL_law__353 : decode cL_law_ 353 = .ok (.if_icmp .eq 2716, 3) := by decide +kernel
theorem dL_law__356 : decode cL_law_ 356 = .ok (.iconst 0, 1) := by decide +kernel
theorem dL_law__357 : decode cL_law_ 357 = .ok (.ireturn, 1) := by decide +kernel
theorem dL_law__358 : decode cL_law_ 358 = .ok (.aload_n 1, 1) := by decide +kernel
theorem dL_law__359 : decode cL_law_ 359 = .ok (.aload_n 3, 1) := by decide +kernel
theorem dL_law__360 : decode cL_law_ 360 = .ok (.invokestatic 157, 3) := by decide +kernel
theorem dL_law__363 : decode cL_law_ 363 = .ok (.istore 5, 2) := by decide +kernel
theorem dL_law__365 : decode cL_law_ 365 = .ok (.aload_n 2, 1) := by decide +kernel
theorem dL_law__366 : decode cL_law_ 366 = .ok (.invokevirtual 162, 3) := by decide +kernel
theorem dL_law__369 : decode cL_law_ 369 = .ok (.istore 6, 2) := by decide +kernel
theorem dL_law__371 : decode cL_law_ 371 = .ok (.aload_n 2, 1) := by decide +kernel
theorem dL_law__372 : decode cL_law_ 372 = .ok (.invokevirtual 163, 3) := by decide +kernel
theorem dL_law__375 : decode cL_law_ 375 = .ok (.iload 5, 2) := by decide +kernel
theorem dL_law__377 : decode cL_law_ 377 = .ok (.if_icmp .eq 5, 3) := by decide +kernel
theorem dL_law__380 : decode cL_law_ 380 = .ok (.iconst 0, 1) := by decide +kernel
theorem dL_law__381 : decode cL_law_ 381 = .ok (.ireturn, 1) := by decide +kernel
theorem dL_law__382 : decode cL_law_ 382 = .ok (.iload 5, 2) := by decide +kernel
theorem dL_law__384 : decode cL_law_ 384 = .ok (.ifCond .ne 15, 3) := by decide +kernel
theorem dL_law__387 : decode cL_law_ 387 = .ok (.aload_n 3, 1) := by decide +kernel
theorem dL_law__388 : decode cL_law_ 388 = .ok (.iconst 0, 1) := by decide +kernel
theorem dL_law__389 : decode cL_law_ 389 = .ok (.laload, 1) := by decide +kernel
theorem dL_law__390 : decode cL_law_ 390 = .ok (.iload 6, 2) := by decide +kernel
theorem dL_law__392 : decode cL_law_ 392 = .ok (.i2l, 1) := by decide +kernel
theorem dL_law__393 : decode cL_law_ 393 = .ok (.lcmp, 1) := by decide +kernel
theorem dL_law__394 : decode cL_law_ 394 = .ok (.ifCond .eq 5, 3) := by decide +kernel
theorem dL_law__397 : decode cL_law_ 397 = .ok (.iconst 0, 1) := by decide +kernel
theorem dL_law__398 : decode cL_law_ 398 = .ok (.ireturn, 1) := by decide +kernel
theorem dL_law__399 : decode cL_law_ 399 = .ok (.goto 2670, 3) := by decide +kernel
theorem dL_law__402 : decode cL_law_ 402 = .ok (.aload_n 1, 1) := by decide +kernel
theorem dL_law__403 : decode cL_law_ 403 = .ok (.aload_n 3, 1) := by decide +kernel
theorem dL_law__404 : decode cL_law_ 404 = .ok (.invokestatic 166, 3) := by decide +kernel
theorem dL_law__407 : decode cL_law_ 407 = .ok (.istore 5, 2) := by decide +kernel
theorem dL_law__409 : decode cL_law_ 409 = .ok (.aload_n 2, 1) := by decide +kernel
theorem dL_law__410 : decode cL_law_ 410 = .ok (.invokevirtual 168, 3) := by decide +kernel
theorem dL_law__413 : decode cL_law_ 413 = .ok (.istore 6, 2) := by decide +kernel
theorem dL_law__415 : decode cL_law_ 415 = .ok (.aload_n 2, 1) := by decide +kernel
theorem dL_law__416 : decode cL_law_ 416 = .ok (.invokevirtual 163, 3) := by decide +kernel
theorem dL_law__419 : decode cL_law_ 419 = .ok (.iload 5, 2) := by decide +kernel
theorem dL_law__421 : decode cL_law_ 421 = .ok (.if_icmp .eq 5, 3) := by decide +kernel
theorem dL_law__424 : decode cL_law_ 424 = .ok (.iconst 0, 1) := by decide +kernel
theorem dL_law__425 : decode cL_law_ 425 = .ok (.ireturn, 1) := by decide +kernel
theorem dL_law__426 : decode cL_law_ 426 = .ok (.iload 5, 2) := by decide +kernel
theorem dL_law__428 : decode cL_law_ 428 = .ok (.ifCond .ne 15, 3) := by decide +kernel
theorem dL_law__431 : decode cL_law_ 431 = .ok (.aload_n 3, 1) := by decide +kernel
theorem dL_law__432 : decode cL_law_ 432 = .ok (.iconst 0, 1) := by decide +kernel
theorem dL_law__433 : decode cL_law_ 433 = .ok (.laload, 1) := by decide +kernel
theorem dL_law__434 : decode cL_law_ 434 = .ok (.iload 6, 2) := by decide +kernel
theorem dL_law__436 : decode cL_law_ 436 = .ok (.i2l, 1) := by decide +kernel
theorem dL_law__437 : decode cL_law_ 437 = .ok (.lcmp, 1) := by decide +kernel
theorem dL_law__438 : decode cL_law_ 438 = .ok (.ifCond .eq 5, 3) := by decide +kernel
theorem dL_law__441 : decode cL_law_ 441 = .ok (.iconst 0, 1) := by decide +kernel
theorem dL_law__442 : decode cL_law_ 442 = .ok (.ireturn, 1) := by decide +kernel
theorem dL_law__443 : decode cL_law_ 443 = .ok (.goto 2626, 3) := by decide +kernel
theorem dL_law__446 : decode cL_law_ 446 = .ok (.aload_n 1, 1) := by decide +kernel
theorem dL_law__447 : decode cL_law_ 447 = .ok (.invokevirtual 169, 3) := by decide +kernel
theorem dL_law__450 : decode cL_law_ 450 = .ok (.aload_n 2, 1) := by decide +kernel
theorem dL_law__451 : decode cL_law_ 451 = .ok (.invokevirtual 172, 3) := by decide +kernel
theorem dL_law__454 : decode cL_law_ 454 = .ok (.if_icmp .eq 2615, 3) := by decide +kernel
theorem dL_law__457 : decode cL_law_ 457 = .ok (.iconst 0, 1) := by decide +kernel
theorem dL_law__458 : decode cL_law_ 458 = .ok (.ireturn, 1) := by decide +kernel
theorem dL_law__459 : decode cL_law_ 459 = .ok (.aload_n 1, 1) := by decide +kernel
theorem dL_law__460 : decode cL_law_ 460 = .ok (.aload_n 0, 1) := by decide +kernel
theorem dL_law__461 : decode cL_law_ 461 = .ok (.iload 4, 2) := by decide +kernel
theorem dL_law__463 : decode cL_law_ 463 = .ok (.iconst 1, 1) := by decide +kernel
theorem dL_law__464 : decode cL_law_ 464 = .ok (.iadd, 1) := by decide +kernel
theorem dL_law__465 : decode cL_law_ 465 = .ok (.iaload, 1) := by decide +kernel
theorem dL_law__466 : decode cL_law_ 466 = .ok (.aload_n 3, 1) := by decide +kernel
theorem dL_law__467 : decode cL_law_ 467 = .ok (.invokestatic 173, 3) := by decide +kernel
theorem dL_law__470 : decode cL_law_ 470 = .ok (.istore 5, 2) := by decide +kernel
theorem dL_law__472 : decode cL_law_ 472 = .ok (.aload_n 2, 1) := by decide +kernel
theorem dL_law__473 : decode cL_law_ 473 = .ok (.aload_n 0, 1) := by decide +kernel
theorem dL_law__474 : decode cL_law_ 474 = .ok (.iload 4, 2) := by decide +kernel
theorem dL_law__476 : decode cL_law_ 476 = .ok (.iconst 1, 1) := by decide +kernel
theorem dL_law__477 : decode cL_law_ 477 = .ok (.iadd, 1) := by decide +kernel
theorem dL_law__478 : decode cL_law_ 478 = .ok (.iaload, 1) := by decide +kernel
theorem dL_law__479 : decode cL_law_ 479 = .ok (.invokevirtual 176, 3) := by decide +kernel
theorem dL_law__482 : decode cL_law_ 482 = .ok (.istore 6, 2) := by decide +kernel
theorem dL_law__484 : decode cL_law_ 484 = .ok (.aload_n 2, 1) := by decide +kernel
theorem dL_law__485 : decode cL_law_ 485 = .ok (.invokevirtual 163, 3) := by decide +kernel
theorem dL_law__488 : decode cL_law_ 488 = .ok (.iload 5, 2) := by decide +kernel
theorem dL_law__490 : decode cL_law_ 490 = .ok (.if_icmp .eq 5, 3) := by decide +kernel
theorem dL_law__493 : decode cL_law_ 493 = .ok (.iconst 0, 1) := by decide +kernel
theorem dL_law__494 : decode cL_law_ 494 = .ok (.ireturn, 1) := by decide +kernel
theorem dL_law__495 : decode cL_law_ 495 = .ok (.iload 5, 2) := by decide +kernel
theorem dL_law__497 : decode cL_law_ 497 = .ok (.ifCond .ne 15, 3) := by decide +kernel
theorem dL_law__500 : decode cL_law_ 500 = .ok (.aload_n 3, 1) := by decide +kernel
theorem dL_law__501 : decode cL_law_ 501 = .ok (.iconst 0, 1) := by decide +kernel
theorem dL_law__502 : decode cL_law_ 502 = .ok (.laload, 1) := by decide +kernel
theorem dL_law__503 : decode cL_law_ 503 = .ok (.iload 6, 2) := by decide +kernel
theorem dL_law__505 : decode cL_law_ 505 = .ok (.i2l, 1) := by decide +kernel
theorem dL_law__506 : decode cL_law_ 506 = .ok (.lcmp, 1) := by decide +kernel
theorem dL_law__507 : decode cL_law_ 507 = .ok (.ifCond .eq 5, 3) := by decide +kernel
theorem dL_law__510 : decode cL_law_ 510 = .ok (.iconst 0, 1) := by decide +kernel
theorem dL_law__511 : decode cL_law_ 511 = .ok (.ireturn, 1) := by decide +kernel
theorem dL_law__512 : decode cL_law_ 512 = .ok (.goto 2557, 3) := by decide +kernel
theorem dL_law__515 : decode cL_law_ 515 = .ok (.aload_n 1, 1) := by decide +kernel
theorem dL_law__516 : decode cL_law_ 516 = .ok (.aload_n 0, 1) := by decide +kernel
theorem dL_law__517 : decode cL_law_ 517 = .ok (.iload 4, 2) := by decide +kernel
theorem dL_law__519 : decode cL_law_ 519 = .ok (.iconst 1, 1) := by decide +kernel
theorem dL_law__520 : decode cL_law_ 520 = .ok (.iadd, 1) := by decide +kernel
theorem dL_law__521 : decode cL_law_ 521 = .ok (.iaload, 1) := by decide +kernel
theorem dL_law__522 : decode cL_law_ 522 = .ok (.aload_n 0, 1) := by decide +kernel
theorem dL_law__523 : decode cL_law_ 523 = .ok (.iload 4, 2) := by decide +kernel
theorem dL_law__525 : decode cL_law_ 525 = .ok (.iconst 2, 1) := by decide +kernel
theorem dL_law__526 : decode cL_law_ 526 = .ok (.iadd, 1) := by decide +kernel
theorem dL_law__527 : decode cL_law_ 527 = .ok (.iaload, 1) := by decide +kernel
theorem dL_law__528 : decode cL_law_ 528 = .ok (.aload_n 3, 1) := by decide +kernel
theorem dL_law__529 : decode cL_law_ 529 = .ok (.invokestatic 177, 3) := by decide +kernel
theorem dL_law__532 : decode cL_law_ 532 = .ok (.istore 5, 2) := by decide +kernel
theorem dL_law__534 : decode cL_law_ 534 = .ok (.aload_n 2, 1) := by decide +kernel
theorem dL_law__535 : decode cL_law_ 535 = .ok (.aload_n 0, 1) := by decide +kernel
theorem dL_law__536 : decode cL_law_ 536 = .ok (.iload 4, 2) := by decide +kernel
theorem dL_law__538 : decode cL_law_ 538 = .ok (.iconst 1, 1) := by decide +kernel
theorem dL_law__539 : decode cL_law_ 539 = .ok (.iadd, 1) := by decide +kernel
theorem dL_law__540 : decode cL_law_ 540 = .ok (.iaload, 1) := by decide +kernel
theorem dL_law__541 : decode cL_law_ 541 = .ok (.aload_n 0, 1) := by decide +kernel
theorem dL_law__542 : decode cL_law_ 542 = .ok (.iload 4, 2) := by decide +kernel
theorem dL_law__544 : decode cL_law_ 544 = .ok (.iconst 2, 1) := by decide +kernel
theorem dL_law__545 : decode cL_law_ 545 = .ok (.iadd, 1) := by decide +kernel
theorem dL_law__546 : decode cL_law_ 546 = .ok (.iaload, 1) := by decide +kernel
theorem dL_law__547 : decode cL_law_ 547 = .ok (.invokevirtual 180, 3) := by decide +kernel
theorem dL_law__550 : decode cL_law_ 550 = .ok (.istore 6, 2) := by decide +kernel
theorem dL_law__552 : decode cL_law_ 552 = .ok (.aload_n 2, 1) := by decide +kernel
theorem dL_law__553 : decode cL_law_ 553 = .ok (.invokevirtual 163, 3) := by decide +kernel
theorem dL_law__556 : decode cL_law_ 556 = .ok (.iload 5, 2) := by decide +kernel
theorem dL_law__558 : decode cL_law_ 558 = .ok (.if_icmp .eq 5, 3) := by decide +kernel
theorem dL_law__561 : decode cL_law_ 561 = .ok (.iconst 0, 1) := by decide +kernel
theorem dL_law__562 : decode cL_law_ 562 = .ok (.ireturn, 1) := by decide +kernel
theorem dL_law__563 : decode cL_law_ 563 = .ok (.iload 5, 2) := by decide +kernel
theorem dL_law__565 : decode cL_law_ 565 = .ok (.ifCond .ne 15, 3) := by decide +kernel
theorem dL_law__568 : decode cL_law_ 568 = .ok (.aload_n 3, 1) := by decide +kernel
theorem dL_law__569 : decode cL_law_ 569 = .ok (.iconst 0, 1) := by decide +kernel
theorem dL_law__570 : decode cL_law_ 570 = .ok (.laload, 1) := by decide +kernel
theorem dL_law__571 : decode cL_law_ 571 = .ok (.iload 6, 2) := by decide +kernel
theorem dL_law__573 : decode cL_law_ 573 = .ok (.i2l, 1) := by decide +kernel
theorem dL_law__574 : decode cL_law_ 574 = .ok (.lcmp, 1) := by decide +kernel
theorem dL_law__575 : decode cL_law_ 575 = .ok (.ifCond .eq 5, 3) := by decide +kernel
theorem dL_law__578 : decode cL_law_ 578 = .ok (.iconst 0, 1) := by decide +kernel
theorem dL_law__579 : decode cL_law_ 579 = .ok (.ireturn, 1) := by decide +kernel
theorem dL_law__580 : decode cL_law_ 580 = .ok (.goto 2489, 3) := by decide +kernel
theorem dL_law__583 : decode cL_law_ 583 = .ok (.aload_n 1, 1) := by decide +kernel
theorem dL_law__584 : decode cL_law_ 584 = .ok (.aload_n 0, 1) := by decide +kernel
theorem dL_law__585 : decode cL_law_ 585 = .ok (.iload 4, 2) := by decide +kernel
theorem dL_law__587 : decode cL_law_ 587 = .ok (.iconst 1, 1) := by decide +kernel
theorem dL_law__588 : decode cL_law_ 588 = .ok (.iadd, 1) := by decide +kernel
theorem dL_law__589 : decode cL_law_ 589 = .ok (.iaload, 1) := by decide +kernel
theorem dL_law__590 : decode cL_law_ 590 = .ok (.aload_n 0, 1) := by decide +kernel
theorem dL_law__591 : decode cL_law_ 591 = .ok (.iload 4, 2) := by decide +kernel
theorem dL_law__593 : decode cL_law_ 593 = .ok (.iconst 2, 1) := by decide +kernel
theorem dL_law__594 : decode cL_law_ 594 = .ok (.iadd, 1) := by decide +kernel
theorem dL_law__595 : decode cL_law_ 595 = .ok (.iaload, 1) := by decide +kernel
theorem dL_law__596 : decode cL_law_ 596 = .ok (.aload_n 3, 1) := by decide +kernel
theorem dL_law__597 : decode cL_law_ 597 = .ok (.invokestatic 181, 3) := by decide +kernel
theorem dL_law__600 : decode cL_law_ 600 = .ok (.istore 5, 2) := by decide +kernel
theorem dL_law__602 : decode cL_law_ 602 = .ok (.aload_n 2, 1) := by decide +kernel
theorem dL_law__603 : decode cL_law_ 603 = .ok (.aload_n 0, 1) := by decide +kernel
theorem dL_law__604 : decode cL_law_ 604 = .ok (.iload 4, 2) := by decide +kernel
theorem dL_law__606 : decode cL_law_ 606 = .ok (.iconst 1, 1) := by decide +kernel
theorem dL_law__607 : decode cL_law_ 607 = .ok (.iadd, 1) := by decide +kernel
theorem dL_law__608 : decode cL_law_ 608 = .ok (.iaload, 1) := by decide +kernel
theorem dL_law__609 : decode cL_law_ 609 = .ok (.aload_n 0, 1) := by decide +kernel
theorem dL_law__610 : decode cL_law_ 610 = .ok (.iload 4, 2) := by decide +kernel
theorem dL_law__612 : decode cL_law_ 612 = .ok (.iconst 2, 1) := by decide +kernel
theorem dL_law__613 : decode cL_law_ 613 = .ok (.iadd, 1) := by decide +kernel
theorem dL_law__614 : decode cL_law_ 614 = .ok (.iaload, 1) := by decide +kernel
theorem dL_law__615 : decode cL_law_ 615 = .ok (.invokevirtual 183, 3) := by decide +kernel
theorem dL_law__618 : decode cL_law_ 618 = .ok (.istore 6, 2) := by decide +kernel
theorem dL_law__620 : decode cL_law_ 620 = .ok (.aload_n 2, 1) := by decide +kernel
theorem dL_law__621 : decode cL_law_ 621 = .ok (.invokevirtual 163, 3) := by decide +kernel
theorem dL_law__624 : decode cL_law_ 624 = .ok (.iload 5, 2) := by decide +kernel
theorem dL_law__626 : decode cL_law_ 626 = .ok (.if_icmp .eq 5, 3) := by decide +kernel
theorem dL_law__629 : decode cL_law_ 629 = .ok (.iconst 0, 1) := by decide +kernel
theorem dL_law__630 : decode cL_law_ 630 = .ok (.ireturn, 1) := by decide +kernel
theorem dL_law__631 : decode cL_law_ 631 = .ok (.iload 5, 2) := by decide +kernel
theorem dL_law__633 : decode cL_law_ 633 = .ok (.ifCond .ne 15, 3) := by decide +kernel
theorem dL_law__636 : decode cL_law_ 636 = .ok (.aload_n 3, 1) := by decide +kernel
theorem dL_law__637 : decode cL_law_ 637 = .ok (.iconst 0, 1) := by decide +kernel
theorem dL_law__638 : decode cL_law_ 638 = .ok (.laload, 1) := by decide +kernel
theorem dL_law__639 : decode cL_law_ 639 = .ok (.iload 6, 2) := by decide +kernel
theorem dL_law__641 : decode cL_law_ 641 = .ok (.i2l, 1) := by decide +kernel
theorem dL_law__642 : decode cL_law_ 642 = .ok (.lcmp, 1) := by decide +kernel
theorem dL_law__643 : decode cL_law_ 643 = .ok (.ifCond .eq 5, 3) := by decide +kernel
theorem dL_law__646 : decode cL_law_ 646 = .ok (.iconst 0, 1) := by decide +kernel
theorem dL_law__647 : decode cL_law_ 647 = .ok (.ireturn, 1) := by decide +kernel
theorem dL_law__648 : decode cL_law_ 648 = .ok (.goto 2421, 3) := by decide +kernel
theorem dL_law__651 : decode cL_law_ 651 = .ok (.aload_n 1, 1) := by decide +kernel
theorem dL_law__652 : decode cL_law_ 652 = .ok (.aload_n 0, 1) := by decide +kernel
theorem dL_law__653 : decode cL_law_ 653 = .ok (.iload 4, 2) := by decide +kernel
theorem dL_law__655 : decode cL_law_ 655 = .ok (.iconst 1, 1) := by decide +kernel
theorem dL_law__656 : decode cL_law_ 656 = .ok (.iadd, 1) := by decide +kernel
theorem dL_law__657 : decode cL_law_ 657 = .ok (.iaload, 1) := by decide +kernel
theorem dL_law__658 : decode cL_law_ 658 = .ok (.aload_n 3, 1) := by decide +kernel
theorem dL_law__659 : decode cL_law_ 659 = .ok (.invokestatic 184, 3) := by decide +kernel
theorem dL_law__662 : decode cL_law_ 662 = .ok (.istore 5, 2) := by decide +kernel
theorem dL_law__664 : decode cL_law_ 664 = .ok (.aload_n 2, 1) := by decide +kernel
theorem dL_law__665 : decode cL_law_ 665 = .ok (.aload_n 0, 1) := by decide +kernel
theorem dL_law__666 : decode cL_law_ 666 = .ok (.iload 4, 2) := by decide +kernel
theorem dL_law__668 : decode cL_law_ 668 = .ok (.iconst 1, 1) := by decide +kernel
theorem dL_law__669 : decode cL_law_ 669 = .ok (.iadd, 1) := by decide +kernel
theorem dL_law__670 : decode cL_law_ 670 = .ok (.iaload, 1) := by decide +kernel
theorem dL_law__671 : decode cL_law_ 671 = .ok (.invokevirtual 186, 3) := by decide +kernel
theorem dL_law__674 : decode cL_law_ 674 = .ok (.istore 6, 2) := by decide +kernel
theorem dL_law__676 : decode cL_law_ 676 = .ok (.aload_n 2, 1) := by decide +kernel
theorem dL_law__677 : decode cL_law_ 677 = .ok (.invokevirtual 163, 3) := by decide +kernel
theorem dL_law__680 : decode cL_law_ 680 = .ok (.iload 5, 2) := by decide +kernel
theorem dL_law__682 : decode cL_law_ 682 = .ok (.if_icmp .eq 5, 3) := by decide +kernel
theorem dL_law__685 : decode cL_law_ 685 = .ok (.iconst 0, 1) := by decide +kernel
theorem dL_law__686 : decode cL_law_ 686 = .ok (.ireturn, 1) := by decide +kernel
theorem dL_law__687 : decode cL_law_ 687 = .ok (.iload 5, 2) := by decide +kernel
theorem dL_law__689 : decode cL_law_ 689 = .ok (.ifCond .ne 15, 3) := by decide +kernel
theorem dL_law__692 : decode cL_law_ 692 = .ok (.aload_n 3, 1) := by decide +kernel
theorem dL_law__693 : decode cL_law_ 693 = .ok (.iconst 0, 1) := by decide +kernel
theorem dL_law__694 : decode cL_law_ 694 = .ok (.laload, 1) := by decide +kernel
theorem dL_law__695 : decode cL_law_ 695 = .ok (.iload 6, 2) := by decide +kernel
theorem dL_law__697 : decode cL_law_ 697 = .ok (.i2l, 1) := by decide +kernel
theorem dL_law__698 : decode cL_law_ 698 = .ok (.lcmp, 1) := by decide +kernel
theorem dL_law__699 : decode cL_law_ 699 = .ok (.ifCond .eq 5, 3) := by decide +kernel
theorem dL_law__702 : decode cL_law_ 702 = .ok (.iconst 0, 1) := by decide +kernel
theorem dL_law__703 : decode cL_law_ 703 = .ok (.ireturn, 1) := by decide +kernel
theorem dL_law__704 : decode cL_law_ 704 = .ok (.goto 2365, 3) := by decide +kernel
theorem dL_law__707 : decode cL_law_ 707 = .ok (.aload_n 1, 1) := by decide +kernel
theorem dL_law__708 : decode cL_law_ 708 = .ok (.aload_n 0, 1) := by decide +kernel
theorem dL_law__709 : decode cL_law_ 709 = .ok (.iload 4, 2) := by decide +kernel
theorem dL_law__711 : decode cL_law_ 711 = .ok (.iconst 1, 1) := by decide +kernel
theorem dL_law__712 : decode cL_law_ 712 = .ok (.iadd, 1) := by decide +kernel
theorem dL_law__713 : decode cL_law_ 713 = .ok (.iaload, 1) := by decide +kernel
theorem dL_law__714 : decode cL_law_ 714 = .ok (.aload_n 3, 1) := by decide +kernel
theorem dL_law__715 : decode cL_law_ 715 = .ok (.invokestatic 187, 3) := by decide +kernel
theorem dL_law__718 : decode cL_law_ 718 = .ok (.istore 5, 2) := by decide +kernel
theorem dL_law__720 : decode cL_law_ 720 = .ok (.aload_n 2, 1) := by decide +kernel
theorem dL_law__721 : decode cL_law_ 721 = .ok (.aload_n 0, 1) := by decide +kernel
theorem dL_law__722 : decode cL_law_ 722 = .ok (.iload 4, 2) := by decide +kernel
theorem dL_law__724 : decode cL_law_ 724 = .ok (.iconst 1, 1) := by decide +kernel
theorem dL_law__725 : decode cL_law_ 725 = .ok (.iadd, 1) := by decide +kernel
theorem dL_law__726 : decode cL_law_ 726 = .ok (.iaload, 1) := by decide +kernel
theorem dL_law__727 : decode cL_law_ 727 = .ok (.invokevirtual 189, 3) := by decide +kernel
theorem dL_law__730 : decode cL_law_ 730 = .ok (.istore 6, 2) := by decide +kernel
theorem dL_law__732 : decode cL_law_ 732 = .ok (.aload_n 2, 1) := by decide +kernel
theorem dL_law__733 : decode cL_law_ 733 = .ok (.invokevirtual 163, 3) := by decide +kernel
theorem dL_law__736 : decode cL_law_ 736 = .ok (.iload 5, 2) := by decide +kernel
theorem dL_law__738 : decode cL_law_ 738 = .ok (.if_icmp .eq 5, 3) := by decide +kernel
theorem dL_law__741 : decode cL_law_ 741 = .ok (.iconst 0, 1) := by decide +kernel
theorem dL_law__742 : decode cL_law_ 742 = .ok (.ireturn, 1) := by decide +kernel
theorem dL_law__743 : decode cL_law_ 743 = .ok (.iload 5, 2) := by decide +kernel
theorem dL_law__745 : decode cL_law_ 745 = .ok (.ifCond .ne 15, 3) := by decide +kernel
theorem dL_law__748 : decode cL_law_ 748 = .ok (.aload_n 3, 1) := by decide +kernel
theorem dL_law__749 : decode cL_law_ 749 = .ok (.iconst 0, 1) := by decide +kernel
theorem dL_law__750 : decode cL_law_ 750 = .ok (.laload, 1) := by decide +kernel
theorem dL_law__751 : decode cL_law_ 751 = .ok (.iload 6, 2) := by decide +kernel
theorem dL_law__753 : decode cL_law_ 753 = .ok (.i2l, 1) := by decide +kernel
theorem dL_law__754 : decode cL_law_ 754 = .ok (.lcmp, 1) := by decide +kernel
theorem dL_law__755 : decode cL_law_ 755 = .ok (.ifCond .eq 5, 3) := by decide +kernel
theorem dL_law__758 : decode cL_law_ 758 = .ok (.iconst 0, 1) := by decide +kernel
theorem dL_law__759 : decode cL_law_ 759 = .ok (.ireturn, 1) := by decide +kernel
theorem dL_law__760 : decode cL_law_ 760 = .ok (.goto 2309, 3) := by decide +kernel
theorem dL_law__763 : decode cL_law_ 763 = .ok (.aload_n 1, 1) := by decide +kernel
theorem dL_law__764 : decode cL_law_ 764 = .ok (.aload_n 0, 1) := by decide +kernel
theorem dL_law__765 : decode cL_law_ 765 = .ok (.iload 4, 2) := by decide +kernel
theorem dL_law__767 : decode cL_law_ 767 = .ok (.iconst 1, 1) := by decide +kernel
theorem dL_law__768 : decode cL_law_ 768 = .ok (.iadd, 1) := by decide +kernel
theorem dL_law__769 : decode cL_law_ 769 = .ok (.iaload, 1) := by decide +kernel
theorem dL_law__770 : decode cL_law_ 770 = .ok (.aload_n 0, 1) := by decide +kernel
theorem dL_law__771 : decode cL_law_ 771 = .ok (.iload 4, 2) := by decide +kernel
theorem dL_law__773 : decode cL_law_ 773 = .ok (.iconst 2, 1) := by decide +kernel
theorem dL_law__774 : decode cL_law_ 774 = .ok (.iadd, 1) := by decide +kernel
theorem dL_law__775 : decode cL_law_ 775 = .ok (.iaload, 1) := by decide +kernel
theorem dL_law__776 : decode cL_law_ 776 = .ok (.aload_n 3, 1) := by decide +kernel
theorem dL_law__777 : decode cL_law_ 777 = .ok (.invokestatic 190, 3) := by decide +kernel
theorem dL_law__780 : decode cL_law_ 780 = .ok (.istore 5, 2) := by decide +kernel
theorem dL_law__782 : decode cL_law_ 782 = .ok (.aload_n 2, 1) := by decide +kernel
theorem dL_law__783 : decode cL_law_ 783 = .ok (.aload_n 0, 1) := by decide +kernel
theorem dL_law__784 : decode cL_law_ 784 = .ok (.iload 4, 2) := by decide +kernel
theorem dL_law__786 : decode cL_law_ 786 = .ok (.iconst 1, 1) := by decide +kernel
theorem dL_law__787 : decode cL_law_ 787 = .ok (.iadd, 1) := by decide +kernel
theorem dL_law__788 : decode cL_law_ 788 = .ok (.iaload, 1) := by decide +kernel
theorem dL_law__789 : decode cL_law_ 789 = .ok (.aload_n 0, 1) := by decide +kernel
theorem dL_law__790 : decode cL_law_ 790 = .ok (.iload 4, 2) := by decide +kernel
theorem dL_law__792 : decode cL_law_ 792 = .ok (.iconst 2, 1) := by decide +kernel
theorem dL_law__793 : decode cL_law_ 793 = .ok (.iadd, 1) := by decide +kernel
theorem dL_law__794 : decode cL_law_ 794 = .ok (.iaload, 1) := by decide +kernel
theorem dL_law__795 : decode cL_law_ 795 = .ok (.invokevirtual 192, 3) := by decide +kernel
theorem dL_law__798 : decode cL_law_ 798 = .ok (.istore 6, 2) := by decide +kernel
theorem dL_law__800 : decode cL_law_ 800 = .ok (.aload_n 2, 1) := by decide +kernel
theorem dL_law__801 : decode cL_law_ 801 = .ok (.invokevirtual 163, 3) := by decide +kernel
theorem dL_law__804 : decode cL_law_ 804 = .ok (.iload 5, 2) := by decide +kernel
theorem dL_law__806 : decode cL_law_ 806 = .ok (.if_icmp .eq 5, 3) := by decide +kernel
theorem dL_law__809 : decode cL_law_ 809 = .ok (.iconst 0, 1) := by decide +kernel
theorem dL_law__810 : decode cL_law_ 810 = .ok (.ireturn, 1) := by decide +kernel
theorem dL_law__811 : decode cL_law_ 811 = .ok (.iload 5, 2) := by decide +kernel
theorem dL_law__813 : decode cL_law_ 813 = .ok (.ifCond .ne 15, 3) := by decide +kernel
theorem dL_law__816 : decode cL_law_ 816 = .ok (.aload_n 3, 1) := by decide +kernel
theorem dL_law__817 : decode cL_law_ 817 = .ok (.iconst 0, 1) := by decide +kernel
theorem dL_law__818 : decode cL_law_ 818 = .ok (.laload, 1) := by decide +kernel
theorem dL_law__819 : decode cL_law_ 819 = .ok (.iload 6, 2) := by decide +kernel
theorem dL_law__821 : decode cL_law_ 821 = .ok (.i2l, 1) := by decide +kernel
theorem dL_law__822 : decode cL_law_ 822 = .ok (.lcmp, 1) := by decide +kernel
theorem dL_law__823 : decode cL_law_ 823 = .ok (.ifCond .eq 5, 3) := by decide +kernel
theorem dL_law__826 : decode cL_law_ 826 = .ok (.iconst 0, 1) := by decide +kernel
theorem dL_law__827 : decode cL_law_ 827 = .ok (.ireturn, 1) := by decide +kernel
theorem dL_law__828 : decode cL_law_ 828 = .ok (.goto 2241, 3) := by decide +kernel
theorem dL_law__831 : decode cL_law_ 831 = .ok (.aload_n 1, 1) := by decide +kernel
theorem dL_law__832 : decode cL_law_ 832 = .ok (.aload_n 0, 1) := by decide +kernel
theorem dL_law__833 : decode cL_law_ 833 = .ok (.iload 4, 2) := by decide +kernel
theorem dL_law__835 : decode cL_law_ 835 = .ok (.iconst 1, 1) := by decide +kernel
theorem dL_law__836 : decode cL_law_ 836 = .ok (.iadd, 1) := by decide +kernel
theorem dL_law__837 : decode cL_law_ 837 = .ok (.iaload, 1) := by decide +kernel
theorem dL_law__838 : decode cL_law_ 838 = .ok (.aload_n 3, 1) := by decide +kernel
theorem dL_law__839 : decode cL_law_ 839 = .ok (.invokestatic 193, 3) := by decide +kernel
theorem dL_law__842 : decode cL_law_ 842 = .ok (.istore 5, 2) := by decide +kernel
theorem dL_law__844 : decode cL_law_ 844 = .ok (.aload_n 2, 1) := by decide +kernel
theorem dL_law__845 : decode cL_law_ 845 = .ok (.aload_n 0, 1) := by decide +kernel
theorem dL_law__846 : decode cL_law_ 846 = .ok (.iload 4, 2) := by decide +kernel
theorem dL_law__848 : decode cL_law_ 848 = .ok (.iconst 1, 1) := by decide +kernel
theorem dL_law__849 : decode cL_law_ 849 = .ok (.iadd, 1) := by decide +kernel
theorem dL_law__850 : decode cL_law_ 850 = .ok (.iaload, 1) := by decide +kernel
theorem dL_law__851 : decode cL_law_ 851 = .ok (.invokevirtual 195, 3) := by decide +kernel
theorem dL_law__854 : decode cL_law_ 854 = .ok (.istore 6, 2) := by decide +kernel
theorem dL_law__856 : decode cL_law_ 856 = .ok (.aload_n 2, 1) := by decide +kernel
theorem dL_law__857 : decode cL_law_ 857 = .ok (.invokevirtual 163, 3) := by decide +kernel
theorem dL_law__860 : decode cL_law_ 860 = .ok (.iload 5, 2) := by decide +kernel
theorem dL_law__862 : decode cL_law_ 862 = .ok (.if_icmp .eq 5, 3) := by decide +kernel
theorem dL_law__865 : decode cL_law_ 865 = .ok (.iconst 0, 1) := by decide +kernel
theorem dL_law__866 : decode cL_law_ 866 = .ok (.ireturn, 1) := by decide +kernel
theorem dL_law__867 : decode cL_law_ 867 = .ok (.iload 5, 2) := by decide +kernel
theorem dL_law__869 : decode cL_law_ 869 = .ok (.ifCond .ne 15, 3) := by decide +kernel
theorem dL_law__872 : decode cL_law_ 872 = .ok (.aload_n 3, 1) := by decide +kernel
theorem dL_law__873 : decode cL_law_ 873 = .ok (.iconst 0, 1) := by decide +kernel
theorem dL_law__874 : decode cL_law_ 874 = .ok (.laload, 1) := by decide +kernel
theorem dL_law__875 : decode cL_law_ 875 = .ok (.iload 6, 2) := by decide +kernel
theorem dL_law__877 : decode cL_law_ 877 = .ok (.i2l, 1) := by decide +kernel
theorem dL_law__878 : decode cL_law_ 878 = .ok (.lcmp, 1) := by decide +kernel
theorem dL_law__879 : decode cL_law_ 879 = .ok (.ifCond .eq 5, 3) := by decide +kernel
theorem dL_law__882 : decode cL_law_ 882 = .ok (.iconst 0, 1) := by decide +kernel
theorem dL_law__883 : decode cL_law_ 883 = .ok (.ireturn, 1) := by decide +kernel
theorem dL_law__884 : decode cL_law_ 884 = .ok (.goto 2185, 3) := by decide +kernel
theorem dL_law__887 : decode cL_law_ 887 = .ok (.aload_n 1, 1) := by decide +kernel
theorem dL_law__888 : decode cL_law_ 888 = .ok (.aload_n 0, 1) := by decide +kernel
theorem dL_law__889 : decode cL_law_ 889 = .ok (.iload 4, 2) := by decide +kernel
theorem dL_law__891 : decode cL_law_ 891 = .ok (.iconst 1, 1) := by decide +kernel
theorem dL_law__892 : decode cL_law_ 892 = .ok (.iadd, 1) := by decide +kernel
theorem dL_law__893 : decode cL_law_ 893 = .ok (.iaload, 1) := by decide +kernel
theorem dL_law__894 : decode cL_law_ 894 = .ok (.aload_n 0, 1) := by decide +kernel
theorem dL_law__895 : decode cL_law_ 895 = .ok (.iload 4, 2) := by decide +kernel
theorem dL_law__897 : decode cL_law_ 897 = .ok (.iconst 2, 1) := by decide +kernel
theorem dL_law__898 : decode cL_law_ 898 = .ok (.iadd, 1) := by decide +kernel
theorem dL_law__899 : decode cL_law_ 899 = .ok (.iaload, 1) := by decide +kernel
theorem dL_law__900 : decode cL_law_ 900 = .ok (.aload_n 3, 1) := by decide +kernel
theorem dL_law__901 : decode cL_law_ 901 = .ok (.invokestatic 196, 3) := by decide +kernel
theorem dL_law__904 : decode cL_law_ 904 = .ok (.istore 5, 2) := by decide +kernel
theorem dL_law__906 : decode cL_law_ 906 = .ok (.aload_n 2, 1) := by decide +kernel
theorem dL_law__907 : decode cL_law_ 907 = .ok (.aload_n 0, 1) := by decide +kernel
theorem dL_law__908 : decode cL_law_ 908 = .ok (.iload 4, 2) := by decide +kernel
theorem dL_law__910 : decode cL_law_ 910 = .ok (.iconst 1, 1) := by decide +kernel
theorem dL_law__911 : decode cL_law_ 911 = .ok (.iadd, 1) := by decide +kernel
theorem dL_law__912 : decode cL_law_ 912 = .ok (.iaload, 1) := by decide +kernel
theorem dL_law__913 : decode cL_law_ 913 = .ok (.aload_n 0, 1) := by decide +kernel
theorem dL_law__914 : decode cL_law_ 914 = .ok (.iload 4, 2) := by decide +kernel
theorem dL_law__916 : decode cL_law_ 916 = .ok (.iconst 2, 1) := by decide +kernel
theorem dL_law__917 : decode cL_law_ 917 = .ok (.iadd, 1) := by decide +kernel
theorem dL_law__918 : decode cL_law_ 918 = .ok (.iaload, 1) := by decide +kernel
theorem dL_law__919 : decode cL_law_ 919 = .ok (.invokevirtual 198, 3) := by decide +kernel
theorem dL_law__922 : decode cL_law_ 922 = .ok (.istore 6, 2) := by decide +kernel
theorem dL_law__924 : decode cL_law_ 924 = .ok (.aload_n 2, 1) := by decide +kernel
theorem dL_law__925 : decode cL_law_ 925 = .ok (.invokevirtual 163, 3) := by decide +kernel
theorem dL_law__928 : decode cL_law_ 928 = .ok (.iload 5, 2) := by decide +kernel
theorem dL_law__930 : decode cL_law_ 930 = .ok (.if_icmp .eq 5, 3) := by decide +kernel
theorem dL_law__933 : decode cL_law_ 933 = .ok (.iconst 0, 1) := by decide +kernel
theorem dL_law__934 : decode cL_law_ 934 = .ok (.ireturn, 1) := by decide +kernel
theorem dL_law__935 : decode cL_law_ 935 = .ok (.iload 5, 2) := by decide +kernel
theorem dL_law__937 : decode cL_law_ 937 = .ok (.ifCond .ne 15, 3) := by decide +kernel
theorem dL_law__940 : decode cL_law_ 940 = .ok (.aload_n 3, 1) := by decide +kernel
theorem dL_law__941 : decode cL_law_ 941 = .ok (.iconst 0, 1) := by decide +kernel
theorem dL_law__942 : decode cL_law_ 942 = .ok (.laload, 1) := by decide +kernel
theorem dL_law__943 : decode cL_law_ 943 = .ok (.iload 6, 2) := by decide +kernel
theorem dL_law__945 : decode cL_law_ 945 = .ok (.i2l, 1) := by decide +kernel
theorem dL_law__946 : decode cL_law_ 946 = .ok (.lcmp, 1) := by decide +kernel
theorem dL_law__947 : decode cL_law_ 947 = .ok (.ifCond .eq 5, 3) := by decide +kernel
theorem dL_law__950 : decode cL_law_ 950 = .ok (.iconst 0, 1) := by decide +kernel
theorem dL_law__951 : decode cL_law_ 951 = .ok (.ireturn, 1) := by decide +kernel
theorem dL_law__952 : decode cL_law_ 952 = .ok (.goto 2117, 3) := by decide +kernel
theorem dL_law__955 : decode cL_law_ 955 = .ok (.aload_n 1, 1) := by decide +kernel
theorem dL_law__956 : decode cL_law_ 956 = .ok (.aload_n 0, 1) := by decide +kernel
theorem dL_law__957 : decode cL_law_ 957 = .ok (.iload 4, 2) := by decide +kernel
theorem dL_law__959 : decode cL_law_ 959 = .ok (.iconst 1, 1) := by decide +kernel
theorem dL_law__960 : decode cL_law_ 960 = .ok (.iadd, 1) := by decide +kernel
theorem dL_law__961 : decode cL_law_ 961 = .ok (.iaload, 1) := by decide +kernel
theorem dL_law__962 : decode cL_law_ 962 = .ok (.aload_n 3, 1) := by decide +kernel
theorem dL_law__963 : decode cL_law_ 963 = .ok (.invokestatic 199, 3) := by decide +kernel
theorem dL_law__966 : decode cL_law_ 966 = .ok (.istore 5, 2) := by decide +kernel
theorem dL_law__968 : decode cL_law_ 968 = .ok (.aload_n 2, 1) := by decide +kernel
theorem dL_law__969 : decode cL_law_ 969 = .ok (.aload_n 0, 1) := by decide +kernel
theorem dL_law__970 : decode cL_law_ 970 = .ok (.iload 4, 2) := by decide +kernel
theorem dL_law__972 : decode cL_law_ 972 = .ok (.iconst 1, 1) := by decide +kernel
theorem dL_law__973 : decode cL_law_ 973 = .ok (.iadd, 1) := by decide +kernel
theorem dL_law__974 : decode cL_law_ 974 = .ok (.iaload, 1) := by decide +kernel
theorem dL_law__975 : decode cL_law_ 975 = .ok (.invokevirtual 201, 3) := by decide +kernel
theorem dL_law__978 : decode cL_law_ 978 = .ok (.istore 6, 2) := by decide +kernel
theorem dL_law__980 : decode cL_law_ 980 = .ok (.aload_n 2, 1) := by decide +kernel
theorem dL_law__981 : decode cL_law_ 981 = .ok (.invokevirtual 163, 3) := by decide +kernel
theorem dL_law__984 : decode cL_law_ 984 = .ok (.iload 5, 2) := by decide +kernel
theorem dL_law__986 : decode cL_law_ 986 = .ok (.if_icmp .eq 5, 3) := by decide +kernel
theorem dL_law__989 : decode cL_law_ 989 = .ok (.iconst 0, 1) := by decide +kernel
theorem dL_law__990 : decode cL_law_ 990 = .ok (.ireturn, 1) := by decide +kernel
theorem dL_law__991 : decode cL_law_ 991 = .ok (.iload 5, 2) := by decide +kernel
theorem dL_law__993 : decode cL_law_ 993 = .ok (.ifCond .ne 15, 3) := by decide +kernel
theorem dL_law__996 : decode cL_law_ 996 = .ok (.aload_n 3, 1) := by decide +kernel
theorem dL_law__997 : decode cL_law_ 997 = .ok (.iconst 0, 1) := by decide +kernel
theorem dL_law__998 : decode cL_law_ 998 = .ok (.laload, 1) := by decide +kernel
theorem dL_law__999 : decode cL_law_ 999 = .ok (.iload 6, 2) := by decide +kernel
theorem dL_law__1001 : decode cL_law_ 1001 = .ok (.i2l, 1) := by decide +kernel
theorem dL_law__1002 : decode cL_law_ 1002 = .ok (.lcmp, 1) := by decide +kernel
theorem dL_law__1003 : decode cL_law_ 1003 = .ok (.ifCond .eq 5, 3) := by decide +kernel
theorem dL_law__1006 : decode cL_law_ 1006 = .ok (.iconst 0, 1) := by decide +kernel
theorem dL_law__1007 : decode cL_law_ 1007 = .ok (.ireturn, 1) := by decide +kernel
theorem dL_law__1008 : decode cL_law_ 1008 = .ok (.goto 2061, 3) := by decide +kernel
theorem dL_law__1011 : decode cL_law_ 1011 = .ok (.aload_n 1, 1) := by decide +kernel
theorem dL_law__1012 : decode cL_law_ 1012 = .ok (.aload_n 0, 1) := by decide +kernel
theorem dL_law__1013 : decode cL_law_ 1013 = .ok (.iload 4, 2) := by decide +kernel
theorem dL_law__1015 : decode cL_law_ 1015 = .ok (.iconst 1, 1) := by decide +kernel
theorem dL_law__1016 : decode cL_law_ 1016 = .ok (.iadd, 1) := by decide +kernel
theorem dL_law__1017 : decode cL_law_ 1017 = .ok (.iaload, 1) := by decide +kernel
theorem dL_law__1018 : decode cL_law_ 1018 = .ok (.aload_n 0, 1) := by decide +kernel
theorem dL_law__1019 : decode cL_law_ 1019 = .ok (.iload 4, 2) := by decide +kernel
theorem dL_law__1021 : decode cL_law_ 1021 = .ok (.iconst 2, 1) := by decide +kernel
theorem dL_law__1022 : decode cL_law_ 1022 = .ok (.iadd, 1) := by decide +kernel
theorem dL_law__1023 : decode cL_law_ 1023 = .ok (.iaload, 1) := by decide +kernel
theorem dL_law__1024 : decode cL_law_ 1024 = .ok (.aload_n 3, 1) := by decide +kernel
theorem dL_law__1025 : decode cL_law_ 1025 = .ok (.invokestatic 202, 3) := by decide +kernel
theorem dL_law__1028 : decode cL_law_ 1028 = .ok (.istore 5, 2) := by decide +kernel
theorem dL_law__1030 : decode cL_law_ 1030 = .ok (.aload_n 2, 1) := by decide +kernel
theorem dL_law__1031 : decode cL_law_ 1031 = .ok (.aload_n 0, 1) := by decide +kernel
theorem dL_law__1032 : decode cL_law_ 1032 = .ok (.iload 4, 2) := by decide +kernel
theorem dL_law__1034 : decode cL_law_ 1034 = .ok (.iconst 1, 1) := by decide +kernel
theorem dL_law__1035 : decode cL_law_ 1035 = .ok (.iadd, 1) := by decide +kernel
theorem dL_law__1036 : decode cL_law_ 1036 = .ok (.iaload, 1) := by decide +kernel
theorem dL_law__1037 : decode cL_law_ 1037 = .ok (.aload_n 0, 1) := by decide +kernel
theorem dL_law__1038 : decode cL_law_ 1038 = .ok (.iload 4, 2) := by decide +kernel
theorem dL_law__1040 : decode cL_law_ 1040 = .ok (.iconst 2, 1) := by decide +kernel
theorem dL_law__1041 : decode cL_law_ 1041 = .ok (.iadd, 1) := by decide +kernel
theorem dL_law__1042 : decode cL_law_ 1042 = .ok (.iaload, 1) := by decide +kernel
theorem dL_law__1043 : decode cL_law_ 1043 = .ok (.invokevirtual 204, 3) := by decide +kernel
theorem dL_law__1046 : decode cL_law_ 1046 = .ok (.istore 6, 2) := by decide +kernel
theorem dL_law__1048 : decode cL_law_ 1048 = .ok (.aload_n 2, 1) := by decide +kernel
theorem dL_law__1049 : decode cL_law_ 1049 = .ok (.invokevirtual 163, 3) := by decide +kernel
theorem dL_law__1052 : decode cL_law_ 1052 = .ok (.iload 5, 2) := by decide +kernel
theorem dL_law__1054 : decode cL_law_ 1054 = .ok (.if_icmp .eq 5, 3) := by decide +kernel
theorem dL_law__1057 : decode cL_law_ 1057 = .ok (.iconst 0, 1) := by decide +kernel
theorem dL_law__1058 : decode cL_law_ 1058 = .ok (.ireturn, 1) := by decide +kernel
theorem dL_law__1059 : decode cL_law_ 1059 = .ok (.iload 5, 2) := by decide +kernel
theorem dL_law__1061 : decode cL_law_ 1061 = .ok (.ifCond .ne 15, 3) := by decide +kernel
theorem dL_law__1064 : decode cL_law_ 1064 = .ok (.aload_n 3, 1) := by decide +kernel
theorem dL_law__1065 : decode cL_law_ 1065 = .ok (.iconst 0, 1) := by decide +kernel
theorem dL_law__1066 : decode cL_law_ 1066 = .ok (.laload, 1) := by decide +kernel
theorem dL_law__1067 : decode cL_law_ 1067 = .ok (.iload 6, 2) := by decide +kernel
theorem dL_law__1069 : decode cL_law_ 1069 = .ok (.i2l, 1) := by decide +kernel
theorem dL_law__1070 : decode cL_law_ 1070 = .ok (.lcmp, 1) := by decide +kernel
theorem dL_law__1071 : decode cL_law_ 1071 = .ok (.ifCond .eq 5, 3) := by decide +kernel
theorem dL_law__1074 : decode cL_law_ 1074 = .ok (.iconst 0, 1) := by decide +kernel
theorem dL_law__1075 : decode cL_law_ 1075 = .ok (.ireturn, 1) := by decide +kernel
theorem dL_law__1076 : decode cL_law_ 1076 = .ok (.goto 1993, 3) := by decide +kernel
theorem dL_law__1079 : decode cL_law_ 1079 = .ok (.aload_n 1, 1) := by decide +kernel
theorem dL_law__1080 : decode cL_law_ 1080 = .ok (.aload_n 0, 1) := by decide +kernel
theorem dL_law__1081 : decode cL_law_ 1081 = .ok (.iload 4, 2) := by decide +kernel
theorem dL_law__1083 : decode cL_law_ 1083 = .ok (.iconst 1, 1) := by decide +kernel
theorem dL_law__1084 : decode cL_law_ 1084 = .ok (.iadd, 1) := by decide +kernel
theorem dL_law__1085 : decode cL_law_ 1085 = .ok (.iaload, 1) := by decide +kernel
theorem dL_law__1086 : decode cL_law_ 1086 = .ok (.aload_n 3, 1) := by decide +kernel
theorem dL_law__1087 : decode cL_law_ 1087 = .ok (.invokestatic 205, 3) := by decide +kernel
theorem dL_law__1090 : decode cL_law_ 1090 = .ok (.istore 5, 2) := by decide +kernel
theorem dL_law__1092 : decode cL_law_ 1092 = .ok (.aload_n 2, 1) := by decide +kernel
theorem dL_law__1093 : decode cL_law_ 1093 = .ok (.aload_n 0, 1) := by decide +kernel
theorem dL_law__1094 : decode cL_law_ 1094 = .ok (.iload 4, 2) := by decide +kernel
theorem dL_law__1096 : decode cL_law_ 1096 = .ok (.iconst 1, 1) := by decide +kernel
theorem dL_law__1097 : decode cL_law_ 1097 = .ok (.iadd, 1) := by decide +kernel
theorem dL_law__1098 : decode cL_law_ 1098 = .ok (.iaload, 1) := by decide +kernel
theorem dL_law__1099 : decode cL_law_ 1099 = .ok (.invokevirtual 207, 3) := by decide +kernel
theorem dL_law__1102 : decode cL_law_ 1102 = .ok (.istore 6, 2) := by decide +kernel
theorem dL_law__1104 : decode cL_law_ 1104 = .ok (.aload_n 2, 1) := by decide +kernel
theorem dL_law__1105 : decode cL_law_ 1105 = .ok (.invokevirtual 163, 3) := by decide +kernel
theorem dL_law__1108 : decode cL_law_ 1108 = .ok (.iload 5, 2) := by decide +kernel
theorem dL_law__1110 : decode cL_law_ 1110 = .ok (.if_icmp .eq 5, 3) := by decide +kernel
theorem dL_law__1113 : decode cL_law_ 1113 = .ok (.iconst 0, 1) := by decide +kernel
theorem dL_law__1114 : decode cL_law_ 1114 = .ok (.ireturn, 1) := by decide +kernel
theorem dL_law__1115 : decode cL_law_ 1115 = .ok (.iload 5, 2) := by decide +kernel
theorem dL_law__1117 : decode cL_law_ 1117 = .ok (.ifCond .ne 15, 3) := by decide +kernel
theorem dL_law__1120 : decode cL_law_ 1120 = .ok (.aload_n 3, 1) := by decide +kernel
theorem dL_law__1121 : decode cL_law_ 1121 = .ok (.iconst 0, 1) := by decide +kernel
theorem dL_law__1122 : decode cL_law_ 1122 = .ok (.laload, 1) := by decide +kernel
theorem dL_law__1123 : decode cL_law_ 1123 = .ok (.iload 6, 2) := by decide +kernel
theorem dL_law__1125 : decode cL_law_ 1125 = .ok (.i2l, 1) := by decide +kernel
theorem dL_law__1126 : decode cL_law_ 1126 = .ok (.lcmp, 1) := by decide +kernel
theorem dL_law__1127 : decode cL_law_ 1127 = .ok (.ifCond .eq 5, 3) := by decide +kernel
theorem dL_law__1130 : decode cL_law_ 1130 = .ok (.iconst 0, 1) := by decide +kernel
theorem dL_law__1131 : decode cL_law_ 1131 = .ok (.ireturn, 1) := by decide +kernel
theorem dL_law__1132 : decode cL_law_ 1132 = .ok (.goto 1937, 3) := by decide +kernel
theorem dL_law__1135 : decode cL_law_ 1135 = .ok (.aload_n 1, 1) := by decide +kernel
theorem dL_law__1136 : decode cL_law_ 1136 = .ok (.aload_n 0, 1) := by decide +kernel
theorem dL_law__1137 : decode cL_law_ 1137 = .ok (.iload 4, 2) := by decide +kernel
theorem dL_law__1139 : decode cL_law_ 1139 = .ok (.iconst 1, 1) := by decide +kernel
theorem dL_law__1140 : decode cL_law_ 1140 = .ok (.iadd, 1) := by decide +kernel
theorem dL_law__1141 : decode cL_law_ 1141 = .ok (.iaload, 1) := by decide +kernel
theorem dL_law__1142 : decode cL_law_ 1142 = .ok (.aload_n 3, 1) := by decide +kernel
theorem dL_law__1143 : decode cL_law_ 1143 = .ok (.invokestatic 208, 3) := by decide +kernel
theorem dL_law__1146 : decode cL_law_ 1146 = .ok (.istore 5, 2) := by decide +kernel
theorem dL_law__1148 : decode cL_law_ 1148 = .ok (.aload_n 2, 1) := by decide +kernel
theorem dL_law__1149 : decode cL_law_ 1149 = .ok (.aload_n 0, 1) := by decide +kernel
theorem dL_law__1150 : decode cL_law_ 1150 = .ok (.iload 4, 2) := by decide +kernel
theorem dL_law__1152 : decode cL_law_ 1152 = .ok (.iconst 1, 1) := by decide +kernel
theorem dL_law__1153 : decode cL_law_ 1153 = .ok (.iadd, 1) := by decide +kernel
theorem dL_law__1154 : decode cL_law_ 1154 = .ok (.iaload, 1) := by decide +kernel
theorem dL_law__1155 : decode cL_law_ 1155 = .ok (.invokevirtual 210, 3) := by decide +kernel
theorem dL_law__1158 : decode cL_law_ 1158 = .ok (.istore 6, 2) := by decide +kernel
theorem dL_law__1160 : decode cL_law_ 1160 = .ok (.aload_n 2, 1) := by decide +kernel
theorem dL_law__1161 : decode cL_law_ 1161 = .ok (.invokevirtual 163, 3) := by decide +kernel
theorem dL_law__1164 : decode cL_law_ 1164 = .ok (.iload 5, 2) := by decide +kernel
theorem dL_law__1166 : decode cL_law_ 1166 = .ok (.if_icmp .eq 5, 3) := by decide +kernel
theorem dL_law__1169 : decode cL_law_ 1169 = .ok (.iconst 0, 1) := by decide +kernel
theorem dL_law__1170 : decode cL_law_ 1170 = .ok (.ireturn, 1) := by decide +kernel
theorem dL_law__1171 : decode cL_law_ 1171 = .ok (.iload 5, 2) := by decide +kernel
theorem dL_law__1173 : decode cL_law_ 1173 = .ok (.ifCond .ne 15, 3) := by decide +kernel
theorem dL_law__1176 : decode cL_law_ 1176 = .ok (.aload_n 3, 1) := by decide +kernel
theorem dL_law__1177 : decode cL_law_ 1177 = .ok (.iconst 0, 1) := by decide +kernel
theorem dL_law__1178 : decode cL_law_ 1178 = .ok (.laload, 1) := by decide +kernel
theorem dL_law__1179 : decode cL_law_ 1179 = .ok (.iload 6, 2) := by decide +kernel
theorem dL_law__1181 : decode cL_law_ 1181 = .ok (.i2l, 1) := by decide +kernel
theorem dL_law__1182 : decode cL_law_ 1182 = .ok (.lcmp, 1) := by decide +kernel
theorem dL_law__1183 : decode cL_law_ 1183 = .ok (.ifCond .eq 5, 3) := by decide +kernel
theorem dL_law__1186 : decode cL_law_ 1186 = .ok (.iconst 0, 1) := by decide +kernel
theorem dL_law__1187 : decode cL_law_ 1187 = .ok (.ireturn, 1) := by decide +kernel
theorem dL_law__1188 : decode cL_law_ 1188 = .ok (.goto 1881, 3) := by decide +kernel
theorem dL_law__1191 : decode cL_law_ 1191 = .ok (.aload_n 1, 1) := by decide +kernel
theorem dL_law__1192 : decode cL_law_ 1192 = .ok (.aload_n 0, 1) := by decide +kernel
theorem dL_law__1193 : decode cL_law_ 1193 = .ok (.iload 4, 2) := by decide +kernel
theorem dL_law__1195 : decode cL_law_ 1195 = .ok (.iconst 1, 1) := by decide +kernel
theorem dL_law__1196 : decode cL_law_ 1196 = .ok (.iadd, 1) := by decide +kernel
theorem dL_law__1197 : decode cL_law_ 1197 = .ok (.iaload, 1) := by decide +kernel
theorem dL_law__1198 : decode cL_law_ 1198 = .ok (.aload_n 3, 1) := by decide +kernel
theorem dL_law__1199 : decode cL_law_ 1199 = .ok (.invokestatic 211, 3) := by decide +kernel
theorem dL_law__1202 : decode cL_law_ 1202 = .ok (.istore 5, 2) := by decide +kernel
theorem dL_law__1204 : decode cL_law_ 1204 = .ok (.aload_n 2, 1) := by decide +kernel
theorem dL_law__1205 : decode cL_law_ 1205 = .ok (.aload_n 0, 1) := by decide +kernel
theorem dL_law__1206 : decode cL_law_ 1206 = .ok (.iload 4, 2) := by decide +kernel
theorem dL_law__1208 : decode cL_law_ 1208 = .ok (.iconst 1, 1) := by decide +kernel
theorem dL_law__1209 : decode cL_law_ 1209 = .ok (.iadd, 1) := by decide +kernel
theorem dL_law__1210 : decode cL_law_ 1210 = .ok (.iaload, 1) := by decide +kernel
theorem dL_law__1211 : decode cL_law_ 1211 = .ok (.invokevirtual 213, 3) := by decide +kernel
theorem dL_law__1214 : decode cL_law_ 1214 = .ok (.istore 6, 2) := by decide +kernel
theorem dL_law__1216 : decode cL_law_ 1216 = .ok (.aload_n 2, 1) := by decide +kernel
theorem dL_law__1217 : decode cL_law_ 1217 = .ok (.invokevirtual 163, 3) := by decide +kernel
theorem dL_law__1220 : decode cL_law_ 1220 = .ok (.iload 5, 2) := by decide +kernel
theorem dL_law__1222 : decode cL_law_ 1222 = .ok (.if_icmp .eq 5, 3) := by decide +kernel
theorem dL_law__1225 : decode cL_law_ 1225 = .ok (.iconst 0, 1) := by decide +kernel
theorem dL_law__1226 : decode cL_law_ 1226 = .ok (.ireturn, 1) := by decide +kernel
theorem dL_law__1227 : decode cL_law_ 1227 = .ok (.iload 5, 2) := by decide +kernel
theorem dL_law__1229 : decode cL_law_ 1229 = .ok (.ifCond .ne 22, 3) := by decide +kernel
theorem dL_law__1232 : decode cL_law_ 1232 = .ok (.aload_n 3, 1) := by decide +kernel
theorem dL_law__1233 : decode cL_law_ 1233 = .ok (.iconst 0, 1) := by decide +kernel
theorem dL_law__1234 : decode cL_law_ 1234 = .ok (.laload, 1) := by decide +kernel
theorem dL_law__1235 : decode cL_law_ 1235 = .ok (.iload 6, 2) := by decide +kernel
theorem dL_law__1237 : decode cL_law_ 1237 = .ok (.ifCond .eq 7, 3) := by decide +kernel
theorem dL_law__1240 : decode cL_law_ 1240 = .ok (.lconst 1, 1) := by decide +kernel
theorem dL_law__1241 : decode cL_law_ 1241 = .ok (.goto 4, 3) := by decide +kernel
theorem dL_law__1244 : decode cL_law_ 1244 = .ok (.lconst 0, 1) := by decide +kernel
theorem dL_law__1245 : decode cL_law_ 1245 = .ok (.lcmp, 1) := by decide +kernel
theorem dL_law__1246 : decode cL_law_ 1246 = .ok (.ifCond .eq 5, 3) := by decide +kernel
theorem dL_law__1249 : decode cL_law_ 1249 = .ok (.iconst 0, 1) := by decide +kernel
theorem dL_law__1250 : decode cL_law_ 1250 = .ok (.ireturn, 1) := by decide +kernel
theorem dL_law__1251 : decode cL_law_ 1251 = .ok (.goto 1818, 3) := by decide +kernel
theorem dL_law__1254 : decode cL_law_ 1254 = .ok (.aload_n 1, 1) := by decide +kernel
theorem dL_law__1255 : decode cL_law_ 1255 = .ok (.aload_n 0, 1) := by decide +kernel
theorem dL_law__1256 : decode cL_law_ 1256 = .ok (.iload 4, 2) := by decide +kernel
theorem dL_law__1258 : decode cL_law_ 1258 = .ok (.iconst 1, 1) := by decide +kernel
theorem dL_law__1259 : decode cL_law_ 1259 = .ok (.iadd, 1) := by decide +kernel
theorem dL_law__1260 : decode cL_law_ 1260 = .ok (.iaload, 1) := by decide +kernel
theorem dL_law__1261 : decode cL_law_ 1261 = .ok (.aload_n 3, 1) := by decide +kernel
theorem dL_law__1262 : decode cL_law_ 1262 = .ok (.invokestatic 214, 3) := by decide +kernel
theorem dL_law__1265 : decode cL_law_ 1265 = .ok (.istore 5, 2) := by decide +kernel
theorem dL_law__1267 : decode cL_law_ 1267 = .ok (.aload_n 2, 1) := by decide +kernel
theorem dL_law__1268 : decode cL_law_ 1268 = .ok (.aload_n 0, 1) := by decide +kernel
theorem dL_law__1269 : decode cL_law_ 1269 = .ok (.iload 4, 2) := by decide +kernel
theorem dL_law__1271 : decode cL_law_ 1271 = .ok (.iconst 1, 1) := by decide +kernel
theorem dL_law__1272 : decode cL_law_ 1272 = .ok (.iadd, 1) := by decide +kernel
theorem dL_law__1273 : decode cL_law_ 1273 = .ok (.iaload, 1) := by decide +kernel
theorem dL_law__1274 : decode cL_law_ 1274 = .ok (.invokevirtual 216, 3) := by decide +kernel
theorem dL_law__1277 : decode cL_law_ 1277 = .ok (.istore 6, 2) := by decide +kernel
theorem dL_law__1279 : decode cL_law_ 1279 = .ok (.aload_n 2, 1) := by decide +kernel
theorem dL_law__1280 : decode cL_law_ 1280 = .ok (.invokevirtual 163, 3) := by decide +kernel
theorem dL_law__1283 : decode cL_law_ 1283 = .ok (.iload 5, 2) := by decide +kernel
theorem dL_law__1285 : decode cL_law_ 1285 = .ok (.if_icmp .eq 5, 3) := by decide +kernel
theorem dL_law__1288 : decode cL_law_ 1288 = .ok (.iconst 0, 1) := by decide +kernel
theorem dL_law__1289 : decode cL_law_ 1289 = .ok (.ireturn, 1) := by decide +kernel
theorem dL_law__1290 : decode cL_law_ 1290 = .ok (.iload 5, 2) := by decide +kernel
theorem dL_law__1292 : decode cL_law_ 1292 = .ok (.ifCond .ne 15, 3) := by decide +kernel
theorem dL_law__1295 : decode cL_law_ 1295 = .ok (.aload_n 3, 1) := by decide +kernel
theorem dL_law__1296 : decode cL_law_ 1296 = .ok (.iconst 0, 1) := by decide +kernel
theorem dL_law__1297 : decode cL_law_ 1297 = .ok (.laload, 1) := by decide +kernel
theorem dL_law__1298 : decode cL_law_ 1298 = .ok (.iload 6, 2) := by decide +kernel
theorem dL_law__1300 : decode cL_law_ 1300 = .ok (.i2l, 1) := by decide +kernel
theorem dL_law__1301 : decode cL_law_ 1301 = .ok (.lcmp, 1) := by decide +kernel
theorem dL_law__1302 : decode cL_law_ 1302 = .ok (.ifCond .eq 5, 3) := by decide +kernel
theorem dL_law__1305 : decode cL_law_ 1305 = .ok (.iconst 0, 1) := by decide +kernel
theorem dL_law__1306 : decode cL_law_ 1306 = .ok (.ireturn, 1) := by decide +kernel
theorem dL_law__1307 : decode cL_law_ 1307 = .ok (.goto 1762, 3) := by decide +kernel
theorem dL_law__1310 : decode cL_law_ 1310 = .ok (.aload_n 1, 1) := by decide +kernel
theorem dL_law__1311 : decode cL_law_ 1311 = .ok (.aload_n 0, 1) := by decide +kernel
theorem dL_law__1312 : decode cL_law_ 1312 = .ok (.iload 4, 2) := by decide +kernel
theorem dL_law__1314 : decode cL_law_ 1314 = .ok (.iconst 1, 1) := by decide +kernel
theorem dL_law__1315 : decode cL_law_ 1315 = .ok (.iadd, 1) := by decide +kernel
theorem dL_law__1316 : decode cL_law_ 1316 = .ok (.iaload, 1) := by decide +kernel
theorem dL_law__1317 : decode cL_law_ 1317 = .ok (.aload_n 3, 1) := by decide +kernel
theorem dL_law__1318 : decode cL_law_ 1318 = .ok (.invokestatic 217, 3) := by decide +kernel
theorem dL_law__1321 : decode cL_law_ 1321 = .ok (.istore 5, 2) := by decide +kernel
theorem dL_law__1323 : decode cL_law_ 1323 = .ok (.aload_n 2, 1) := by decide +kernel
theorem dL_law__1324 : decode cL_law_ 1324 = .ok (.aload_n 0, 1) := by decide +kernel
theorem dL_law__1325 : decode cL_law_ 1325 = .ok (.iload 4, 2) := by decide +kernel
theorem dL_law__1327 : decode cL_law_ 1327 = .ok (.iconst 1, 1) := by decide +kernel
theorem dL_law__1328 : decode cL_law_ 1328 = .ok (.iadd, 1) := by decide +kernel
theorem dL_law__1329 : decode cL_law_ 1329 = .ok (.iaload, 1) := by decide +kernel
theorem dL_law__1330 : decode cL_law_ 1330 = .ok (.invokevirtual 219, 3) := by decide +kernel
theorem dL_law__1333 : decode cL_law_ 1333 = .ok (.istore 6, 2) := by decide +kernel
theorem dL_law__1335 : decode cL_law_ 1335 = .ok (.aload_n 2, 1) := by decide +kernel
theorem dL_law__1336 : decode cL_law_ 1336 = .ok (.invokevirtual 163, 3) := by decide +kernel
theorem dL_law__1339 : decode cL_law_ 1339 = .ok (.iload 5, 2) := by decide +kernel
theorem dL_law__1341 : decode cL_law_ 1341 = .ok (.if_icmp .eq 5, 3) := by decide +kernel
theorem dL_law__1344 : decode cL_law_ 1344 = .ok (.iconst 0, 1) := by decide +kernel
theorem dL_law__1345 : decode cL_law_ 1345 = .ok (.ireturn, 1) := by decide +kernel
theorem dL_law__1346 : decode cL_law_ 1346 = .ok (.iload 5, 2) := by decide +kernel
theorem dL_law__1348 : decode cL_law_ 1348 = .ok (.ifCond .ne 15, 3) := by decide +kernel
theorem dL_law__1351 : decode cL_law_ 1351 = .ok (.aload_n 3, 1) := by decide +kernel
theorem dL_law__1352 : decode cL_law_ 1352 = .ok (.iconst 0, 1) := by decide +kernel
theorem dL_law__1353 : decode cL_law_ 1353 = .ok (.laload, 1) := by decide +kernel
theorem dL_law__1354 : decode cL_law_ 1354 = .ok (.iload 6, 2) := by decide +kernel
theorem dL_law__1356 : decode cL_law_ 1356 = .ok (.i2l, 1) := by decide +kernel
theorem dL_law__1357 : decode cL_law_ 1357 = .ok (.lcmp, 1) := by decide +kernel
theorem dL_law__1358 : decode cL_law_ 1358 = .ok (.ifCond .eq 5, 3) := by decide +kernel
theorem dL_law__1361 : decode cL_law_ 1361 = .ok (.iconst 0, 1) := by decide +kernel
theorem dL_law__1362 : decode cL_law_ 1362 = .ok (.ireturn, 1) := by decide +kernel
theorem dL_law__1363 : decode cL_law_ 1363 = .ok (.goto 1706, 3) := by decide +kernel
theorem dL_law__1366 : decode cL_law_ 1366 = .ok (.aload_n 1, 1) := by decide +kernel
theorem dL_law__1367 : decode cL_law_ 1367 = .ok (.aload_n 0, 1) := by decide +kernel
theorem dL_law__1368 : decode cL_law_ 1368 = .ok (.iload 4, 2) := by decide +kernel
theorem dL_law__1370 : decode cL_law_ 1370 = .ok (.iconst 1, 1) := by decide +kernel
theorem dL_law__1371 : decode cL_law_ 1371 = .ok (.iadd, 1) := by decide +kernel
theorem dL_law__1372 : decode cL_law_ 1372 = .ok (.iaload, 1) := by decide +kernel
theorem dL_law__1373 : decode cL_law_ 1373 = .ok (.aload_n 3, 1) := by decide +kernel
theorem dL_law__1374 : decode cL_law_ 1374 = .ok (.invokestatic 220, 3) := by decide +kernel
theorem dL_law__1377 : decode cL_law_ 1377 = .ok (.istore 5, 2) := by decide +kernel
theorem dL_law__1379 : decode cL_law_ 1379 = .ok (.aload_n 2, 1) := by decide +kernel
theorem dL_law__1380 : decode cL_law_ 1380 = .ok (.aload_n 0, 1) := by decide +kernel
theorem dL_law__1381 : decode cL_law_ 1381 = .ok (.iload 4, 2) := by decide +kernel
theorem dL_law__1383 : decode cL_law_ 1383 = .ok (.iconst 1, 1) := by decide +kernel
theorem dL_law__1384 : decode cL_law_ 1384 = .ok (.iadd, 1) := by decide +kernel
theorem dL_law__1385 : decode cL_law_ 1385 = .ok (.iaload, 1) := by decide +kernel
theorem dL_law__1386 : decode cL_law_ 1386 = .ok (.invokevirtual 222, 3) := by decide +kernel
theorem dL_law__1389 : decode cL_law_ 1389 = .ok (.istore 6, 2) := by decide +kernel
theorem dL_law__1391 : decode cL_law_ 1391 = .ok (.aload_n 2, 1) := by decide +kernel
theorem dL_law__1392 : decode cL_law_ 1392 = .ok (.invokevirtual 163, 3) := by decide +kernel
theorem dL_law__1395 : decode cL_law_ 1395 = .ok (.iload 5, 2) := by decide +kernel
theorem dL_law__1397 : decode cL_law_ 1397 = .ok (.if_icmp .eq 5, 3) := by decide +kernel
theorem dL_law__1400 : decode cL_law_ 1400 = .ok (.iconst 0, 1) := by decide +kernel
theorem dL_law__1401 : decode cL_law_ 1401 = .ok (.ireturn, 1) := by decide +kernel
theorem dL_law__1402 : decode cL_law_ 1402 = .ok (.iload 5, 2) := by decide +kernel
theorem dL_law__1404 : decode cL_law_ 1404 = .ok (.ifCond .ne 15, 3) := by decide +kernel
theorem dL_law__1407 : decode cL_law_ 1407 = .ok (.aload_n 3, 1) := by decide +kernel
theorem dL_law__1408 : decode cL_law_ 1408 = .ok (.iconst 0, 1) := by decide +kernel
theorem dL_law__1409 : decode cL_law_ 1409 = .ok (.laload, 1) := by decide +kernel
theorem dL_law__1410 : decode cL_law_ 1410 = .ok (.iload 6, 2) := by decide +kernel
theorem dL_law__1412 : decode cL_law_ 1412 = .ok (.i2l, 1) := by decide +kernel
theorem dL_law__1413 : decode cL_law_ 1413 = .ok (.lcmp, 1) := by decide +kernel
theorem dL_law__1414 : decode cL_law_ 1414 = .ok (.ifCond .eq 5, 3) := by decide +kernel
theorem dL_law__1417 : decode cL_law_ 1417 = .ok (.iconst 0, 1) := by decide +kernel
theorem dL_law__1418 : decode cL_law_ 1418 = .ok (.ireturn, 1) := by decide +kernel
theorem dL_law__1419 : decode cL_law_ 1419 = .ok (.goto 1650, 3) := by decide +kernel
theorem dL_law__1422 : decode cL_law_ 1422 = .ok (.aload_n 1, 1) := by decide +kernel
theorem dL_law__1423 : decode cL_law_ 1423 = .ok (.aload_n 0, 1) := by decide +kernel
theorem dL_law__1424 : decode cL_law_ 1424 = .ok (.iload 4, 2) := by decide +kernel
theorem dL_law__1426 : decode cL_law_ 1426 = .ok (.iconst 1, 1) := by decide +kernel
theorem dL_law__1427 : decode cL_law_ 1427 = .ok (.iadd, 1) := by decide +kernel
theorem dL_law__1428 : decode cL_law_ 1428 = .ok (.iaload, 1) := by decide +kernel
theorem dL_law__1429 : decode cL_law_ 1429 = .ok (.aload_n 0, 1) := by decide +kernel
theorem dL_law__1430 : decode cL_law_ 1430 = .ok (.iload 4, 2) := by decide +kernel
theorem dL_law__1432 : decode cL_law_ 1432 = .ok (.iconst 2, 1) := by decide +kernel
theorem dL_law__1433 : decode cL_law_ 1433 = .ok (.iadd, 1) := by decide +kernel
theorem dL_law__1434 : decode cL_law_ 1434 = .ok (.iaload, 1) := by decide +kernel
theorem dL_law__1435 : decode cL_law_ 1435 = .ok (.aload_n 3, 1) := by decide +kernel
theorem dL_law__1436 : decode cL_law_ 1436 = .ok (.invokestatic 223, 3) := by decide +kernel
theorem dL_law__1439 : decode cL_law_ 1439 = .ok (.istore 5, 2) := by decide +kernel
theorem dL_law__1441 : decode cL_law_ 1441 = .ok (.aload_n 2, 1) := by decide +kernel
theorem dL_law__1442 : decode cL_law_ 1442 = .ok (.aload_n 0, 1) := by decide +kernel
theorem dL_law__1443 : decode cL_law_ 1443 = .ok (.iload 4, 2) := by decide +kernel
theorem dL_law__1445 : decode cL_law_ 1445 = .ok (.iconst 1, 1) := by decide +kernel
theorem dL_law__1446 : decode cL_law_ 1446 = .ok (.iadd, 1) := by decide +kernel
theorem dL_law__1447 : decode cL_law_ 1447 = .ok (.iaload, 1) := by decide +kernel
theorem dL_law__1448 : decode cL_law_ 1448 = .ok (.aload_n 0, 1) := by decide +kernel
theorem dL_law__1449 : decode cL_law_ 1449 = .ok (.iload 4, 2) := by decide +kernel
theorem dL_law__1451 : decode cL_law_ 1451 = .ok (.iconst 2, 1) := by decide +kernel
theorem dL_law__1452 : decode cL_law_ 1452 = .ok (.iadd, 1) := by decide +kernel
theorem dL_law__1453 : decode cL_law_ 1453 = .ok (.iaload, 1) := by decide +kernel
theorem dL_law__1454 : decode cL_law_ 1454 = .ok (.invokevirtual 225, 3) := by decide +kernel
theorem dL_law__1457 : decode cL_law_ 1457 = .ok (.istore 6, 2) := by decide +kernel
theorem dL_law__1459 : decode cL_law_ 1459 = .ok (.aload_n 2, 1) := by decide +kernel
theorem dL_law__1460 : decode cL_law_ 1460 = .ok (.invokevirtual 163, 3) := by decide +kernel
theorem dL_law__1463 : decode cL_law_ 1463 = .ok (.iload 5, 2) := by decide +kernel
theorem dL_law__1465 : decode cL_law_ 1465 = .ok (.if_icmp .eq 5, 3) := by decide +kernel
theorem dL_law__1468 : decode cL_law_ 1468 = .ok (.iconst 0, 1) := by decide +kernel
theorem dL_law__1469 : decode cL_law_ 1469 = .ok (.ireturn, 1) := by decide +kernel
theorem dL_law__1470 : decode cL_law_ 1470 = .ok (.iload 5, 2) := by decide +kernel
theorem dL_law__1472 : decode cL_law_ 1472 = .ok (.ifCond .ne 15, 3) := by decide +kernel
theorem dL_law__1475 : decode cL_law_ 1475 = .ok (.aload_n 3, 1) := by decide +kernel
theorem dL_law__1476 : decode cL_law_ 1476 = .ok (.iconst 0, 1) := by decide +kernel
theorem dL_law__1477 : decode cL_law_ 1477 = .ok (.laload, 1) := by decide +kernel
theorem dL_law__1478 : decode cL_law_ 1478 = .ok (.iload 6, 2) := by decide +kernel
theorem dL_law__1480 : decode cL_law_ 1480 = .ok (.i2l, 1) := by decide +kernel
theorem dL_law__1481 : decode cL_law_ 1481 = .ok (.lcmp, 1) := by decide +kernel
theorem dL_law__1482 : decode cL_law_ 1482 = .ok (.ifCond .eq 5, 3) := by decide +kernel
theorem dL_law__1485 : decode cL_law_ 1485 = .ok (.iconst 0, 1) := by decide +kernel
theorem dL_law__1486 : decode cL_law_ 1486 = .ok (.ireturn, 1) := by decide +kernel
theorem dL_law__1487 : decode cL_law_ 1487 = .ok (.goto 1582, 3) := by decide +kernel
theorem dL_law__1490 : decode cL_law_ 1490 = .ok (.aload_n 1, 1) := by decide +kernel
theorem dL_law__1491 : decode cL_law_ 1491 = .ok (.aload_n 0, 1) := by decide +kernel
theorem dL_law__1492 : decode cL_law_ 1492 = .ok (.iload 4, 2) := by decide +kernel
theorem dL_law__1494 : decode cL_law_ 1494 = .ok (.iconst 1, 1) := by decide +kernel
theorem dL_law__1495 : decode cL_law_ 1495 = .ok (.iadd, 1) := by decide +kernel
theorem dL_law__1496 : decode cL_law_ 1496 = .ok (.iaload, 1) := by decide +kernel
theorem dL_law__1497 : decode cL_law_ 1497 = .ok (.aload_n 3, 1) := by decide +kernel
theorem dL_law__1498 : decode cL_law_ 1498 = .ok (.invokestatic 226, 3) := by decide +kernel
theorem dL_law__1501 : decode cL_law_ 1501 = .ok (.istore 5, 2) := by decide +kernel
theorem dL_law__1503 : decode cL_law_ 1503 = .ok (.aload_n 2, 1) := by decide +kernel
theorem dL_law__1504 : decode cL_law_ 1504 = .ok (.aload_n 0, 1) := by decide +kernel
theorem dL_law__1505 : decode cL_law_ 1505 = .ok (.iload 4, 2) := by decide +kernel
theorem dL_law__1507 : decode cL_law_ 1507 = .ok (.iconst 1, 1) := by decide +kernel
theorem dL_law__1508 : decode cL_law_ 1508 = .ok (.iadd, 1) := by decide +kernel
theorem dL_law__1509 : decode cL_law_ 1509 = .ok (.iaload, 1) := by decide +kernel
theorem dL_law__1510 : decode cL_law_ 1510 = .ok (.invokevirtual 228, 3) := by decide +kernel
theorem dL_law__1513 : decode cL_law_ 1513 = .ok (.istore 6, 2) := by decide +kernel
theorem dL_law__1515 : decode cL_law_ 1515 = .ok (.aload_n 2, 1) := by decide +kernel
theorem dL_law__1516 : decode cL_law_ 1516 = .ok (.invokevirtual 163, 3) := by decide +kernel
theorem dL_law__1519 : decode cL_law_ 1519 = .ok (.iload 5, 2) := by decide +kernel
theorem dL_law__1521 : decode cL_law_ 1521 = .ok (.if_icmp .eq 5, 3) := by decide +kernel
theorem dL_law__1524 : decode cL_law_ 1524 = .ok (.iconst 0, 1) := by decide +kernel
theorem dL_law__1525 : decode cL_law_ 1525 = .ok (.ireturn, 1) := by decide +kernel
theorem dL_law__1526 : decode cL_law_ 1526 = .ok (.iload 5, 2) := by decide +kernel
theorem dL_law__1528 : decode cL_law_ 1528 = .ok (.ifCond .ne 15, 3) := by decide +kernel
theorem dL_law__1531 : decode cL_law_ 1531 = .ok (.aload_n 3, 1) := by decide +kernel
theorem dL_law__1532 : decode cL_law_ 1532 = .ok (.iconst 0, 1) := by decide +kernel
theorem dL_law__1533 : decode cL_law_ 1533 = .ok (.laload, 1) := by decide +kernel
theorem dL_law__1534 : decode cL_law_ 1534 = .ok (.iload 6, 2) := by decide +kernel
theorem dL_law__1536 : decode cL_law_ 1536 = .ok (.i2l, 1) := by decide +kernel
theorem dL_law__1537 : decode cL_law_ 1537 = .ok (.lcmp, 1) := by decide +kernel
theorem dL_law__1538 : decode cL_law_ 1538 = .ok (.ifCond .eq 5, 3) := by decide +kernel
theorem dL_law__1541 : decode cL_law_ 1541 = .ok (.iconst 0, 1) := by decide +kernel
theorem dL_law__1542 : decode cL_law_ 1542 = .ok (.ireturn, 1) := by decide +kernel
theorem dL_law__1543 : decode cL_law_ 1543 = .ok (.goto 1526, 3) := by decide +kernel
theorem dL_law__1546 : decode cL_law_ 1546 = .ok (.aload_n 1, 1) := by decide +kernel
theorem dL_law__1547 : decode cL_law_ 1547 = .ok (.aload_n 0, 1) := by decide +kernel
theorem dL_law__1548 : decode cL_law_ 1548 = .ok (.iload 4, 2) := by decide +kernel
theorem dL_law__1550 : decode cL_law_ 1550 = .ok (.iconst 1, 1) := by decide +kernel
theorem dL_law__1551 : decode cL_law_ 1551 = .ok (.iadd, 1) := by decide +kernel
theorem dL_law__1552 : decode cL_law_ 1552 = .ok (.iaload, 1) := by decide +kernel
theorem dL_law__1553 : decode cL_law_ 1553 = .ok (.aload_n 0, 1) := by decide +kernel
theorem dL_law__1554 : decode cL_law_ 1554 = .ok (.iload 4, 2) := by decide +kernel
theorem dL_law__1556 : decode cL_law_ 1556 = .ok (.iconst 2, 1) := by decide +kernel
theorem dL_law__1557 : decode cL_law_ 1557 = .ok (.iadd, 1) := by decide +kernel
theorem dL_law__1558 : decode cL_law_ 1558 = .ok (.iaload, 1) := by decide +kernel
theorem dL_law__1559 : decode cL_law_ 1559 = .ok (.aload_n 0, 1) := by decide +kernel
theorem dL_law__1560 : decode cL_law_ 1560 = .ok (.iload 4, 2) := by decide +kernel
theorem dL_law__1562 : decode cL_law_ 1562 = .ok (.iconst 3, 1) := by decide +kernel
theorem dL_law__1563 : decode cL_law_ 1563 = .ok (.iadd, 1) := by decide +kernel
theorem dL_law__1564 : decode cL_law_ 1564 = .ok (.iaload, 1) := by decide +kernel
theorem dL_law__1565 : decode cL_law_ 1565 = .ok (.aload_n 0, 1) := by decide +kernel
theorem dL_law__1566 : decode cL_law_ 1566 = .ok (.iload 4, 2) := by decide +kernel
theorem dL_law__1568 : decode cL_law_ 1568 = .ok (.iconst 4, 1) := by decide +kernel
theorem dL_law__1569 : decode cL_law_ 1569 = .ok (.iadd, 1) := by decide +kernel
theorem dL_law__1570 : decode cL_law_ 1570 = .ok (.iaload, 1) := by decide +kernel
theorem dL_law__1571 : decode cL_law_ 1571 = .ok (.aload_n 0, 1) := by decide +kernel
theorem dL_law__1572 : decode cL_law_ 1572 = .ok (.iload 4, 2) := by decide +kernel
theorem dL_law__1574 : decode cL_law_ 1574 = .ok (.iconst 5, 1) := by decide +kernel
theorem dL_law__1575 : decode cL_law_ 1575 = .ok (.iadd, 1) := by decide +kernel
theorem dL_law__1576 : decode cL_law_ 1576 = .ok (.iaload, 1) := by decide +kernel
theorem dL_law__1577 : decode cL_law_ 1577 = .ok (.aload_n 3, 1) := by decide +kernel
theorem dL_law__1578 : decode cL_law_ 1578 = .ok (.invokestatic 229, 3) := by decide +kernel
theorem dL_law__1581 : decode cL_law_ 1581 = .ok (.istore 5, 2) := by decide +kernel
theorem dL_law__1583 : decode cL_law_ 1583 = .ok (.aload_n 2, 1) := by decide +kernel
theorem dL_law__1584 : decode cL_law_ 1584 = .ok (.aload_n 0, 1) := by decide +kernel
theorem dL_law__1585 : decode cL_law_ 1585 = .ok (.iload 4, 2) := by decide +kernel
theorem dL_law__1587 : decode cL_law_ 1587 = .ok (.iconst 1, 1) := by decide +kernel
theorem dL_law__1588 : decode cL_law_ 1588 = .ok (.iadd, 1) := by decide +kernel
theorem dL_law__1589 : decode cL_law_ 1589 = .ok (.iaload, 1) := by decide +kernel
theorem dL_law__1590 : decode cL_law_ 1590 = .ok (.aload_n 0, 1) := by decide +kernel
theorem dL_law__1591 : decode cL_law_ 1591 = .ok (.iload 4, 2) := by decide +kernel
theorem dL_law__1593 : decode cL_law_ 1593 = .ok (.iconst 2, 1) := by decide +kernel
theorem dL_law__1594 : decode cL_law_ 1594 = .ok (.iadd, 1) := by decide +kernel
theorem dL_law__1595 : decode cL_law_ 1595 = .ok (.iaload, 1) := by decide +kernel
theorem dL_law__1596 : decode cL_law_ 1596 = .ok (.aload_n 0, 1) := by decide +kernel
theorem dL_law__1597 : decode cL_law_ 1597 = .ok (.iload 4, 2) := by decide +kernel
theorem dL_law__1599 : decode cL_law_ 1599 = .ok (.iconst 3, 1) := by decide +kernel
theorem dL_law__1600 : decode cL_law_ 1600 = .ok (.iadd, 1) := by decide +kernel
theorem dL_law__1601 : decode cL_law_ 1601 = .ok (.iaload, 1) := by decide +kernel
theorem dL_law__1602 : decode cL_law_ 1602 = .ok (.aload_n 0, 1) := by decide +kernel
theorem dL_law__1603 : decode cL_law_ 1603 = .ok (.iload 4, 2) := by decide +kernel
theorem dL_law__1605 : decode cL_law_ 1605 = .ok (.iconst 4, 1) := by decide +kernel
theorem dL_law__1606 : decode cL_law_ 1606 = .ok (.iadd, 1) := by decide +kernel
theorem dL_law__1607 : decode cL_law_ 1607 = .ok (.iaload, 1) := by decide +kernel
theorem dL_law__1608 : decode cL_law_ 1608 = .ok (.aload_n 0, 1) := by decide +kernel
theorem dL_law__1609 : decode cL_law_ 1609 = .ok (.iload 4, 2) := by decide +kernel
theorem dL_law__1611 : decode cL_law_ 1611 = .ok (.iconst 5, 1) := by decide +kernel
theorem dL_law__1612 : decode cL_law_ 1612 = .ok (.iadd, 1) := by decide +kernel
theorem dL_law__1613 : decode cL_law_ 1613 = .ok (.iaload, 1) := by decide +kernel
theorem dL_law__1614 : decode cL_law_ 1614 = .ok (.invokevirtual 232, 3) := by decide +kernel
theorem dL_law__1617 : decode cL_law_ 1617 = .ok (.istore 6, 2) := by decide +kernel
theorem dL_law__1619 : decode cL_law_ 1619 = .ok (.aload_n 2, 1) := by decide +kernel
theorem dL_law__1620 : decode cL_law_ 1620 = .ok (.invokevirtual 163, 3) := by decide +kernel
theorem dL_law__1623 : decode cL_law_ 1623 = .ok (.iload 5, 2) := by decide +kernel
theorem dL_law__1625 : decode cL_law_ 1625 = .ok (.if_icmp .eq 5, 3) := by decide +kernel
theorem dL_law__1628 : decode cL_law_ 1628 = .ok (.iconst 0, 1) := by decide +kernel
theorem dL_law__1629 : decode cL_law_ 1629 = .ok (.ireturn, 1) := by decide +kernel
theorem dL_law__1630 : decode cL_law_ 1630 = .ok (.iload 5, 2) := by decide +kernel
theorem dL_law__1632 : decode cL_law_ 1632 = .ok (.ifCond .ne 15, 3) := by decide +kernel
theorem dL_law__1635 : decode cL_law_ 1635 = .ok (.aload_n 3, 1) := by decide +kernel
theorem dL_law__1636 : decode cL_law_ 1636 = .ok (.iconst 0, 1) := by decide +kernel
theorem dL_law__1637 : decode cL_law_ 1637 = .ok (.laload, 1) := by decide +kernel
theorem dL_law__1638 : decode cL_law_ 1638 = .ok (.iload 6, 2) := by decide +kernel
theorem dL_law__1640 : decode cL_law_ 1640 = .ok (.i2l, 1) := by decide +kernel
theorem dL_law__1641 : decode cL_law_ 1641 = .ok (.lcmp, 1) := by decide +kernel
theorem dL_law__1642 : decode cL_law_ 1642 = .ok (.ifCond .eq 5, 3) := by decide +kernel
theorem dL_law__1645 : decode cL_law_ 1645 = .ok (.iconst 0, 1) := by decide +kernel
theorem dL_law__1646 : decode cL_law_ 1646 = .ok (.ireturn, 1) := by decide +kernel
theorem dL_law__1647 : decode cL_law_ 1647 = .ok (.goto 1422, 3) := by decide +kernel
theorem dL_law__1650 : decode cL_law_ 1650 = .ok (.aload_n 1, 1) := by decide +kernel
theorem dL_law__1651 : decode cL_law_ 1651 = .ok (.aload_n 0, 1) := by decide +kernel
theorem dL_law__1652 : decode cL_law_ 1652 = .ok (.iload 4, 2) := by decide +kernel
theorem dL_law__1654 : decode cL_law_ 1654 = .ok (.iconst 1, 1) := by decide +kernel
theorem dL_law__1655 : decode cL_law_ 1655 = .ok (.iadd, 1) := by decide +kernel
theorem dL_law__1656 : decode cL_law_ 1656 = .ok (.iaload, 1) := by decide +kernel
theorem dL_law__1657 : decode cL_law_ 1657 = .ok (.aload_n 0, 1) := by decide +kernel
theorem dL_law__1658 : decode cL_law_ 1658 = .ok (.iload 4, 2) := by decide +kernel
theorem dL_law__1660 : decode cL_law_ 1660 = .ok (.iconst 2, 1) := by decide +kernel
theorem dL_law__1661 : decode cL_law_ 1661 = .ok (.iadd, 1) := by decide +kernel
theorem dL_law__1662 : decode cL_law_ 1662 = .ok (.iaload, 1) := by decide +kernel
theorem dL_law__1663 : decode cL_law_ 1663 = .ok (.aload_n 0, 1) := by decide +kernel
theorem dL_law__1664 : decode cL_law_ 1664 = .ok (.iload 4, 2) := by decide +kernel
theorem dL_law__1666 : decode cL_law_ 1666 = .ok (.iconst 3, 1) := by decide +kernel
theorem dL_law__1667 : decode cL_law_ 1667 = .ok (.iadd, 1) := by decide +kernel
theorem dL_law__1668 : decode cL_law_ 1668 = .ok (.iaload, 1) := by decide +kernel
theorem dL_law__1669 : decode cL_law_ 1669 = .ok (.aload_n 0, 1) := by decide +kernel
theorem dL_law__1670 : decode cL_law_ 1670 = .ok (.iload 4, 2) := by decide +kernel
theorem dL_law__1672 : decode cL_law_ 1672 = .ok (.iconst 4, 1) := by decide +kernel
theorem dL_law__1673 : decode cL_law_ 1673 = .ok (.iadd, 1) := by decide +kernel
theorem dL_law__1674 : decode cL_law_ 1674 = .ok (.iaload, 1) := by decide +kernel
theorem dL_law__1675 : decode cL_law_ 1675 = .ok (.aload_n 0, 1) := by decide +kernel
theorem dL_law__1676 : decode cL_law_ 1676 = .ok (.iload 4, 2) := by decide +kernel
theorem dL_law__1678 : decode cL_law_ 1678 = .ok (.iconst 5, 1) := by decide +kernel
theorem dL_law__1679 : decode cL_law_ 1679 = .ok (.iadd, 1) := by decide +kernel
theorem dL_law__1680 : decode cL_law_ 1680 = .ok (.iaload, 1) := by decide +kernel
theorem dL_law__1681 : decode cL_law_ 1681 = .ok (.aload_n 3, 1) := by decide +kernel
theorem dL_law__1682 : decode cL_law_ 1682 = .ok (.invokestatic 233, 3) := by decide +kernel
theorem dL_law__1685 : decode cL_law_ 1685 = .ok (.istore 5, 2) := by decide +kernel
theorem dL_law__1687 : decode cL_law_ 1687 = .ok (.aload_n 2, 1) := by decide +kernel
theorem dL_law__1688 : decode cL_law_ 1688 = .ok (.aload_n 0, 1) := by decide +kernel
theorem dL_law__1689 : decode cL_law_ 1689 = .ok (.iload 4, 2) := by decide +kernel
theorem dL_law__1691 : decode cL_law_ 1691 = .ok (.iconst 1, 1) := by decide +kernel
theorem dL_law__1692 : decode cL_law_ 1692 = .ok (.iadd, 1) := by decide +kernel
theorem dL_law__1693 : decode cL_law_ 1693 = .ok (.iaload, 1) := by decide +kernel
theorem dL_law__1694 : decode cL_law_ 1694 = .ok (.aload_n 0, 1) := by decide +kernel
theorem dL_law__1695 : decode cL_law_ 1695 = .ok (.iload 4, 2) := by decide +kernel
theorem dL_law__1697 : decode cL_law_ 1697 = .ok (.iconst 2, 1) := by decide +kernel
theorem dL_law__1698 : decode cL_law_ 1698 = .ok (.iadd, 1) := by decide +kernel
theorem dL_law__1699 : decode cL_law_ 1699 = .ok (.iaload, 1) := by decide +kernel
theorem dL_law__1700 : decode cL_law_ 1700 = .ok (.aload_n 0, 1) := by decide +kernel
theorem dL_law__1701 : decode cL_law_ 1701 = .ok (.iload 4, 2) := by decide +kernel
theorem dL_law__1703 : decode cL_law_ 1703 = .ok (.iconst 3, 1) := by decide +kernel
theorem dL_law__1704 : decode cL_law_ 1704 = .ok (.iadd, 1) := by decide +kernel
theorem dL_law__1705 : decode cL_law_ 1705 = .ok (.iaload, 1) := by decide +kernel
theorem dL_law__1706 : decode cL_law_ 1706 = .ok (.aload_n 0, 1) := by decide +kernel
theorem dL_law__1707 : decode cL_law_ 1707 = .ok (.iload 4, 2) := by decide +kernel
theorem dL_law__1709 : decode cL_law_ 1709 = .ok (.iconst 4, 1) := by decide +kernel
theorem dL_law__1710 : decode cL_law_ 1710 = .ok (.iadd, 1) := by decide +kernel
theorem dL_law__1711 : decode cL_law_ 1711 = .ok (.iaload, 1) := by decide +kernel
theorem dL_law__1712 : decode cL_law_ 1712 = .ok (.aload_n 0, 1) := by decide +kernel
theorem dL_law__1713 : decode cL_law_ 1713 = .ok (.iload 4, 2) := by decide +kernel
theorem dL_law__1715 : decode cL_law_ 1715 = .ok (.iconst 5, 1) := by decide +kernel
theorem dL_law__1716 : decode cL_law_ 1716 = .ok (.iadd, 1) := by decide +kernel
theorem dL_law__1717 : decode cL_law_ 1717 = .ok (.iaload, 1) := by decide +kernel
theorem dL_law__1718 : decode cL_law_ 1718 = .ok (.invokevirtual 235, 3) := by decide +kernel
theorem dL_law__1721 : decode cL_law_ 1721 = .ok (.istore 6, 2) := by decide +kernel
theorem dL_law__1723 : decode cL_law_ 1723 = .ok (.aload_n 2, 1) := by decide +kernel
theorem dL_law__1724 : decode cL_law_ 1724 = .ok (.invokevirtual 163, 3) := by decide +kernel
theorem dL_law__1727 : decode cL_law_ 1727 = .ok (.iload 5, 2) := by decide +kernel
theorem dL_law__1729 : decode cL_law_ 1729 = .ok (.if_icmp .eq 5, 3) := by decide +kernel
theorem dL_law__1732 : decode cL_law_ 1732 = .ok (.iconst 0, 1) := by decide +kernel
theorem dL_law__1733 : decode cL_law_ 1733 = .ok (.ireturn, 1) := by decide +kernel
theorem dL_law__1734 : decode cL_law_ 1734 = .ok (.iload 5, 2) := by decide +kernel
theorem dL_law__1736 : decode cL_law_ 1736 = .ok (.ifCond .ne 15, 3) := by decide +kernel
theorem dL_law__1739 : decode cL_law_ 1739 = .ok (.aload_n 3, 1) := by decide +kernel
theorem dL_law__1740 : decode cL_law_ 1740 = .ok (.iconst 0, 1) := by decide +kernel
theorem dL_law__1741 : decode cL_law_ 1741 = .ok (.laload, 1) := by decide +kernel
theorem dL_law__1742 : decode cL_law_ 1742 = .ok (.iload 6, 2) := by decide +kernel
theorem dL_law__1744 : decode cL_law_ 1744 = .ok (.i2l, 1) := by decide +kernel
theorem dL_law__1745 : decode cL_law_ 1745 = .ok (.lcmp, 1) := by decide +kernel
theorem dL_law__1746 : decode cL_law_ 1746 = .ok (.ifCond .eq 5, 3) := by decide +kernel
theorem dL_law__1749 : decode cL_law_ 1749 = .ok (.iconst 0, 1) := by decide +kernel
theorem dL_law__1750 : decode cL_law_ 1750 = .ok (.ireturn, 1) := by decide +kernel
theorem dL_law__1751 : decode cL_law_ 1751 = .ok (.goto 1318, 3) := by decide +kernel
theorem dL_law__1754 : decode cL_law_ 1754 = .ok (.aload_n 1, 1) := by decide +kernel
theorem dL_law__1755 : decode cL_law_ 1755 = .ok (.aload_n 0, 1) := by decide +kernel
theorem dL_law__1756 : decode cL_law_ 1756 = .ok (.iload 4, 2) := by decide +kernel
theorem dL_law__1758 : decode cL_law_ 1758 = .ok (.iconst 1, 1) := by decide +kernel
theorem dL_law__1759 : decode cL_law_ 1759 = .ok (.iadd, 1) := by decide +kernel
theorem dL_law__1760 : decode cL_law_ 1760 = .ok (.iaload, 1) := by decide +kernel
theorem dL_law__1761 : decode cL_law_ 1761 = .ok (.aload_n 0, 1) := by decide +kernel
theorem dL_law__1762 : decode cL_law_ 1762 = .ok (.iload 4, 2) := by decide +kernel
theorem dL_law__1764 : decode cL_law_ 1764 = .ok (.iconst 2, 1) := by decide +kernel
theorem dL_law__1765 : decode cL_law_ 1765 = .ok (.iadd, 1) := by decide +kernel
theorem dL_law__1766 : decode cL_law_ 1766 = .ok (.iaload, 1) := by decide +kernel
theorem dL_law__1767 : decode cL_law_ 1767 = .ok (.aload_n 0, 1) := by decide +kernel
theorem dL_law__1768 : decode cL_law_ 1768 = .ok (.iload 4, 2) := by decide +kernel
theorem dL_law__1770 : decode cL_law_ 1770 = .ok (.iconst 3, 1) := by decide +kernel
theorem dL_law__1771 : decode cL_law_ 1771 = .ok (.iadd, 1) := by decide +kernel
theorem dL_law__1772 : decode cL_law_ 1772 = .ok (.iaload, 1) := by decide +kernel
theorem dL_law__1773 : decode cL_law_ 1773 = .ok (.aload_n 0, 1) := by decide +kernel
theorem dL_law__1774 : decode cL_law_ 1774 = .ok (.iload 4, 2) := by decide +kernel
theorem dL_law__1776 : decode cL_law_ 1776 = .ok (.iconst 4, 1) := by decide +kernel
theorem dL_law__1777 : decode cL_law_ 1777 = .ok (.iadd, 1) := by decide +kernel
theorem dL_law__1778 : decode cL_law_ 1778 = .ok (.iaload, 1) := by decide +kernel
theorem dL_law__1779 : decode cL_law_ 1779 = .ok (.aload_n 3, 1) := by decide +kernel
theorem dL_law__1780 : decode cL_law_ 1780 = .ok (.invokestatic 236, 3) := by decide +kernel
theorem dL_law__1783 : decode cL_law_ 1783 = .ok (.istore 5, 2) := by decide +kernel
theorem dL_law__1785 : decode cL_law_ 1785 = .ok (.aload_n 2, 1) := by decide +kernel
theorem dL_law__1786 : decode cL_law_ 1786 = .ok (.aload_n 0, 1) := by decide +kernel
theorem dL_law__1787 : decode cL_law_ 1787 = .ok (.iload 4, 2) := by decide +kernel
theorem dL_law__1789 : decode cL_law_ 1789 = .ok (.iconst 1, 1) := by decide +kernel
theorem dL_law__1790 : decode cL_law_ 1790 = .ok (.iadd, 1) := by decide +kernel
theorem dL_law__1791 : decode cL_law_ 1791 = .ok (.iaload, 1) := by decide +kernel
theorem dL_law__1792 : decode cL_law_ 1792 = .ok (.aload_n 0, 1) := by decide +kernel
theorem dL_law__1793 : decode cL_law_ 1793 = .ok (.iload 4, 2) := by decide +kernel
theorem dL_law__1795 : decode cL_law_ 1795 = .ok (.iconst 2, 1) := by decide +kernel
theorem dL_law__1796 : decode cL_law_ 1796 = .ok (.iadd, 1) := by decide +kernel
theorem dL_law__1797 : decode cL_law_ 1797 = .ok (.iaload, 1) := by decide +kernel
theorem dL_law__1798 : decode cL_law_ 1798 = .ok (.aload_n 0, 1) := by decide +kernel
theorem dL_law__1799 : decode cL_law_ 1799 = .ok (.iload 4, 2) := by decide +kernel
theorem dL_law__1801 : decode cL_law_ 1801 = .ok (.iconst 3, 1) := by decide +kernel
theorem dL_law__1802 : decode cL_law_ 1802 = .ok (.iadd, 1) := by decide +kernel
theorem dL_law__1803 : decode cL_law_ 1803 = .ok (.iaload, 1) := by decide +kernel
theorem dL_law__1804 : decode cL_law_ 1804 = .ok (.aload_n 0, 1) := by decide +kernel
theorem dL_law__1805 : decode cL_law_ 1805 = .ok (.iload 4, 2) := by decide +kernel
theorem dL_law__1807 : decode cL_law_ 1807 = .ok (.iconst 4, 1) := by decide +kernel
theorem dL_law__1808 : decode cL_law_ 1808 = .ok (.iadd, 1) := by decide +kernel
theorem dL_law__1809 : decode cL_law_ 1809 = .ok (.iaload, 1) := by decide +kernel
theorem dL_law__1810 : decode cL_law_ 1810 = .ok (.invokevirtual 239, 3) := by decide +kernel
theorem dL_law__1813 : decode cL_law_ 1813 = .ok (.istore 6, 2) := by decide +kernel
theorem dL_law__1815 : decode cL_law_ 1815 = .ok (.aload_n 2, 1) := by decide +kernel
theorem dL_law__1816 : decode cL_law_ 1816 = .ok (.invokevirtual 163, 3) := by decide +kernel
theorem dL_law__1819 : decode cL_law_ 1819 = .ok (.iload 5, 2) := by decide +kernel
theorem dL_law__1821 : decode cL_law_ 1821 = .ok (.if_icmp .eq 5, 3) := by decide +kernel
theorem dL_law__1824 : decode cL_law_ 1824 = .ok (.iconst 0, 1) := by decide +kernel
theorem dL_law__1825 : decode cL_law_ 1825 = .ok (.ireturn, 1) := by decide +kernel
theorem dL_law__1826 : decode cL_law_ 1826 = .ok (.iload 5, 2) := by decide +kernel
theorem dL_law__1828 : decode cL_law_ 1828 = .ok (.ifCond .ne 15, 3) := by decide +kernel
theorem dL_law__1831 : decode cL_law_ 1831 = .ok (.aload_n 3, 1) := by decide +kernel
theorem dL_law__1832 : decode cL_law_ 1832 = .ok (.iconst 0, 1) := by decide +kernel
theorem dL_law__1833 : decode cL_law_ 1833 = .ok (.laload, 1) := by decide +kernel
theorem dL_law__1834 : decode cL_law_ 1834 = .ok (.iload 6, 2) := by decide +kernel
theorem dL_law__1836 : decode cL_law_ 1836 = .ok (.i2l, 1) := by decide +kernel
theorem dL_law__1837 : decode cL_law_ 1837 = .ok (.lcmp, 1) := by decide +kernel
theorem dL_law__1838 : decode cL_law_ 1838 = .ok (.ifCond .eq 5, 3) := by decide +kernel
theorem dL_law__1841 : decode cL_law_ 1841 = .ok (.iconst 0, 1) := by decide +kernel
theorem dL_law__1842 : decode cL_law_ 1842 = .ok (.ireturn, 1) := by decide +kernel
theorem dL_law__1843 : decode cL_law_ 1843 = .ok (.goto 1226, 3) := by decide +kernel
theorem dL_law__1846 : decode cL_law_ 1846 = .ok (.aload_n 1, 1) := by decide +kernel
theorem dL_law__1847 : decode cL_law_ 1847 = .ok (.aload_n 0, 1) := by decide +kernel
theorem dL_law__1848 : decode cL_law_ 1848 = .ok (.iload 4, 2) := by decide +kernel
theorem dL_law__1850 : decode cL_law_ 1850 = .ok (.iconst 1, 1) := by decide +kernel
theorem dL_law__1851 : decode cL_law_ 1851 = .ok (.iadd, 1) := by decide +kernel
theorem dL_law__1852 : decode cL_law_ 1852 = .ok (.iaload, 1) := by decide +kernel
theorem dL_law__1853 : decode cL_law_ 1853 = .ok (.aload_n 3, 1) := by decide +kernel
theorem dL_law__1854 : decode cL_law_ 1854 = .ok (.invokestatic 240, 3) := by decide +kernel
theorem dL_law__1857 : decode cL_law_ 1857 = .ok (.istore 5, 2) := by decide +kernel
theorem dL_law__1859 : decode cL_law_ 1859 = .ok (.aload_n 2, 1) := by decide +kernel
theorem dL_law__1860 : decode cL_law_ 1860 = .ok (.aload_n 0, 1) := by decide +kernel
theorem dL_law__1861 : decode cL_law_ 1861 = .ok (.iload 4, 2) := by decide +kernel
theorem dL_law__1863 : decode cL_law_ 1863 = .ok (.iconst 1, 1) := by decide +kernel
theorem dL_law__1864 : decode cL_law_ 1864 = .ok (.iadd, 1) := by decide +kernel
theorem dL_law__1865 : decode cL_law_ 1865 = .ok (.iaload, 1) := by decide +kernel
theorem dL_law__1866 : decode cL_law_ 1866 = .ok (.invokevirtual 242, 3) := by decide +kernel
theorem dL_law__1869 : decode cL_law_ 1869 = .ok (.istore 6, 2) := by decide +kernel
theorem dL_law__1871 : decode cL_law_ 1871 = .ok (.aload_n 2, 1) := by decide +kernel
theorem dL_law__1872 : decode cL_law_ 1872 = .ok (.invokevirtual 163, 3) := by decide +kernel
theorem dL_law__1875 : decode cL_law_ 1875 = .ok (.iload 5, 2) := by decide +kernel
theorem dL_law__1877 : decode cL_law_ 1877 = .ok (.if_icmp .eq 5, 3) := by decide +kernel
theorem dL_law__1880 : decode cL_law_ 1880 = .ok (.iconst 0, 1) := by decide +kernel
theorem dL_law__1881 : decode cL_law_ 1881 = .ok (.ireturn, 1) := by decide +kernel
theorem dL_law__1882 : decode cL_law_ 1882 = .ok (.iload 5, 2) := by decide +kernel
theorem dL_law__1884 : decode cL_law_ 1884 = .ok (.ifCond .ne 15, 3) := by decide +kernel
theorem dL_law__1887 : decode cL_law_ 1887 = .ok (.aload_n 3, 1) := by decide +kernel
theorem dL_law__1888 : decode cL_law_ 1888 = .ok (.iconst 0, 1) := by decide +kernel
theorem dL_law__1889 : decode cL_law_ 1889 = .ok (.laload, 1) := by decide +kernel
theorem dL_law__1890 : decode cL_law_ 1890 = .ok (.iload 6, 2) := by decide +kernel
theorem dL_law__1892 : decode cL_law_ 1892 = .ok (.i2l, 1) := by decide +kernel
theorem dL_law__1893 : decode cL_law_ 1893 = .ok (.lcmp, 1) := by decide +kernel
theorem dL_law__1894 : decode cL_law_ 1894 = .ok (.ifCond .eq 5, 3) := by decide +kernel
theorem dL_law__1897 : decode cL_law_ 1897 = .ok (.iconst 0, 1) := by decide +kernel
theorem dL_law__1898 : decode cL_law_ 1898 = .ok (.ireturn, 1) := by decide +kernel
theorem dL_law__1899 : decode cL_law_ 1899 = .ok (.goto 1170, 3) := by decide +kernel
theorem dL_law__1902 : decode cL_law_ 1902 = .ok (.aload_n 1, 1) := by decide +kernel
theorem dL_law__1903 : decode cL_law_ 1903 = .ok (.aload_n 0, 1) := by decide +kernel
theorem dL_law__1904 : decode cL_law_ 1904 = .ok (.iload 4, 2) := by decide +kernel
theorem dL_law__1906 : decode cL_law_ 1906 = .ok (.iconst 1, 1) := by decide +kernel
theorem dL_law__1907 : decode cL_law_ 1907 = .ok (.iadd, 1) := by decide +kernel
theorem dL_law__1908 : decode cL_law_ 1908 = .ok (.iaload, 1) := by decide +kernel
theorem dL_law__1909 : decode cL_law_ 1909 = .ok (.aload_n 3, 1) := by decide +kernel
theorem dL_law__1910 : decode cL_law_ 1910 = .ok (.invokestatic 243, 3) := by decide +kernel
theorem dL_law__1913 : decode cL_law_ 1913 = .ok (.istore 5, 2) := by decide +kernel
theorem dL_law__1915 : decode cL_law_ 1915 = .ok (.aload_n 2, 1) := by decide +kernel
theorem dL_law__1916 : decode cL_law_ 1916 = .ok (.aload_n 0, 1) := by decide +kernel
theorem dL_law__1917 : decode cL_law_ 1917 = .ok (.iload 4, 2) := by decide +kernel
theorem dL_law__1919 : decode cL_law_ 1919 = .ok (.iconst 1, 1) := by decide +kernel
theorem dL_law__1920 : decode cL_law_ 1920 = .ok (.iadd, 1) := by decide +kernel
theorem dL_law__1921 : decode cL_law_ 1921 = .ok (.iaload, 1) := by decide +kernel
theorem dL_law__1922 : decode cL_law_ 1922 = .ok (.invokevirtual 245, 3) := by decide +kernel
theorem dL_law__1925 : decode cL_law_ 1925 = .ok (.istore 6, 2) := by decide +kernel
theorem dL_law__1927 : decode cL_law_ 1927 = .ok (.aload_n 2, 1) := by decide +kernel
theorem dL_law__1928 : decode cL_law_ 1928 = .ok (.invokevirtual 163, 3) := by decide +kernel
theorem dL_law__1931 : decode cL_law_ 1931 = .ok (.iload 5, 2) := by decide +kernel
theorem dL_law__1933 : decode cL_law_ 1933 = .ok (.if_icmp .eq 5, 3) := by decide +kernel
theorem dL_law__1936 : decode cL_law_ 1936 = .ok (.iconst 0, 1) := by decide +kernel
theorem dL_law__1937 : decode cL_law_ 1937 = .ok (.ireturn, 1) := by decide +kernel
theorem dL_law__1938 : decode cL_law_ 1938 = .ok (.iload 5, 2) := by decide +kernel
theorem dL_law__1940 : decode cL_law_ 1940 = .ok (.ifCond .ne 15, 3) := by decide +kernel
theorem dL_law__1943 : decode cL_law_ 1943 = .ok (.aload_n 3, 1) := by decide +kernel
theorem dL_law__1944 : decode cL_law_ 1944 = .ok (.iconst 0, 1) := by decide +kernel
theorem dL_law__1945 : decode cL_law_ 1945 = .ok (.laload, 1) := by decide +kernel
theorem dL_law__1946 : decode cL_law_ 1946 = .ok (.iload 6, 2) := by decide +kernel
theorem dL_law__1948 : decode cL_law_ 1948 = .ok (.i2l, 1) := by decide +kernel
theorem dL_law__1949 : decode cL_law_ 1949 = .ok (.lcmp, 1) := by decide +kernel
theorem dL_law__1950 : decode cL_law_ 1950 = .ok (.ifCond .eq 5, 3) := by decide +kernel
theorem dL_law__1953 : decode cL_law_ 1953 = .ok (.iconst 0, 1) := by decide +kernel
theorem dL_law__1954 : decode cL_law_ 1954 = .ok (.ireturn, 1) := by decide +kernel
theorem dL_law__1955 : decode cL_law_ 1955 = .ok (.goto 1114, 3) := by decide +kernel
theorem dL_law__1958 : decode cL_law_ 1958 = .ok (.aload_n 1, 1) := by decide +kernel
theorem dL_law__1959 : decode cL_law_ 1959 = .ok (.aload_n 0, 1) := by decide +kernel
theorem dL_law__1960 : decode cL_law_ 1960 = .ok (.iload 4, 2) := by decide +kernel
theorem dL_law__1962 : decode cL_law_ 1962 = .ok (.iconst 1, 1) := by decide +kernel
theorem dL_law__1963 : decode cL_law_ 1963 = .ok (.iadd, 1) := by decide +kernel
theorem dL_law__1964 : decode cL_law_ 1964 = .ok (.iaload, 1) := by decide +kernel
theorem dL_law__1965 : decode cL_law_ 1965 = .ok (.aload_n 0, 1) := by decide +kernel
theorem dL_law__1966 : decode cL_law_ 1966 = .ok (.iload 4, 2) := by decide +kernel
theorem dL_law__1968 : decode cL_law_ 1968 = .ok (.iconst 2, 1) := by decide +kernel
theorem dL_law__1969 : decode cL_law_ 1969 = .ok (.iadd, 1) := by decide +kernel
theorem dL_law__1970 : decode cL_law_ 1970 = .ok (.iaload, 1) := by decide +kernel
theorem dL_law__1971 : decode cL_law_ 1971 = .ok (.aload_n 3, 1) := by decide +kernel
theorem dL_law__1972 : decode cL_law_ 1972 = .ok (.invokestatic 246, 3) := by decide +kernel
theorem dL_law__1975 : decode cL_law_ 1975 = .ok (.istore 5, 2) := by decide +kernel
theorem dL_law__1977 : decode cL_law_ 1977 = .ok (.aload_n 2, 1) := by decide +kernel
theorem dL_law__1978 : decode cL_law_ 1978 = .ok (.aload_n 0, 1) := by decide +kernel
theorem dL_law__1979 : decode cL_law_ 1979 = .ok (.iload 4, 2) := by decide +kernel
theorem dL_law__1981 : decode cL_law_ 1981 = .ok (.iconst 1, 1) := by decide +kernel
theorem dL_law__1982 : decode cL_law_ 1982 = .ok (.iadd, 1) := by decide +kernel
theorem dL_law__1983 : decode cL_law_ 1983 = .ok (.iaload, 1) := by decide +kernel
theorem dL_law__1984 : decode cL_law_ 1984 = .ok (.aload_n 0, 1) := by decide +kernel
theorem dL_law__1985 : decode cL_law_ 1985 = .ok (.iload 4, 2) := by decide +kernel
theorem dL_law__1987 : decode cL_law_ 1987 = .ok (.iconst 2, 1) := by decide +kernel
theorem dL_law__1988 : decode cL_law_ 1988 = .ok (.iadd, 1) := by decide +kernel
theorem dL_law__1989 : decode cL_law_ 1989 = .ok (.iaload, 1) := by decide +kernel
theorem dL_law__1990 : decode cL_law_ 1990 = .ok (.invokevirtual 248, 3) := by decide +kernel
theorem dL_law__1993 : decode cL_law_ 1993 = .ok (.istore 6, 2) := by decide +kernel
theorem dL_law__1995 : decode cL_law_ 1995 = .ok (.aload_n 2, 1) := by decide +kernel
theorem dL_law__1996 : decode cL_law_ 1996 = .ok (.invokevirtual 163, 3) := by decide +kernel
theorem dL_law__1999 : decode cL_law_ 1999 = .ok (.iload 5, 2) := by decide +kernel
theorem dL_law__2001 : decode cL_law_ 2001 = .ok (.if_icmp .eq 5, 3) := by decide +kernel
theorem dL_law__2004 : decode cL_law_ 2004 = .ok (.iconst 0, 1) := by decide +kernel
theorem dL_law__2005 : decode cL_law_ 2005 = .ok (.ireturn, 1) := by decide +kernel
theorem dL_law__2006 : decode cL_law_ 2006 = .ok (.iload 5, 2) := by decide +kernel
theorem dL_law__2008 : decode cL_law_ 2008 = .ok (.ifCond .ne 15, 3) := by decide +kernel
theorem dL_law__2011 : decode cL_law_ 2011 = .ok (.aload_n 3, 1) := by decide +kernel
theorem dL_law__2012 : decode cL_law_ 2012 = .ok (.iconst 0, 1) := by decide +kernel
theorem dL_law__2013 : decode cL_law_ 2013 = .ok (.laload, 1) := by decide +kernel
theorem dL_law__2014 : decode cL_law_ 2014 = .ok (.iload 6, 2) := by decide +kernel
theorem dL_law__2016 : decode cL_law_ 2016 = .ok (.i2l, 1) := by decide +kernel
theorem dL_law__2017 : decode cL_law_ 2017 = .ok (.lcmp, 1) := by decide +kernel
theorem dL_law__2018 : decode cL_law_ 2018 = .ok (.ifCond .eq 5, 3) := by decide +kernel
theorem dL_law__2021 : decode cL_law_ 2021 = .ok (.iconst 0, 1) := by decide +kernel
theorem dL_law__2022 : decode cL_law_ 2022 = .ok (.ireturn, 1) := by decide +kernel
theorem dL_law__2023 : decode cL_law_ 2023 = .ok (.goto 1046, 3) := by decide +kernel
theorem dL_law__2026 : decode cL_law_ 2026 = .ok (.aload_n 1, 1) := by decide +kernel
theorem dL_law__2027 : decode cL_law_ 2027 = .ok (.aload_n 0, 1) := by decide +kernel
theorem dL_law__2028 : decode cL_law_ 2028 = .ok (.iload 4, 2) := by decide +kernel
theorem dL_law__2030 : decode cL_law_ 2030 = .ok (.iconst 1, 1) := by decide +kernel
theorem dL_law__2031 : decode cL_law_ 2031 = .ok (.iadd, 1) := by decide +kernel
theorem dL_law__2032 : decode cL_law_ 2032 = .ok (.iaload, 1) := by decide +kernel
theorem dL_law__2033 : decode cL_law_ 2033 = .ok (.ifCond .eq 7, 3) := by decide +kernel
theorem dL_law__2036 : decode cL_law_ 2036 = .ok (.iconst 1, 1) := by decide +kernel
theorem dL_law__2037 : decode cL_law_ 2037 = .ok (.goto 4, 3) := by decide +kernel
theorem dL_law__2040 : decode cL_law_ 2040 = .ok (.iconst 0, 1) := by decide +kernel
theorem dL_law__2041 : decode cL_law_ 2041 = .ok (.aload_n 3, 1) := by decide +kernel
theorem dL_law__2042 : decode cL_law_ 2042 = .ok (.invokestatic 249, 3) := by decide +kernel
theorem dL_law__2045 : decode cL_law_ 2045 = .ok (.istore 5, 2) := by decide +kernel
theorem dL_law__2047 : decode cL_law_ 2047 = .ok (.aload_n 2, 1) := by decide +kernel
theorem dL_law__2048 : decode cL_law_ 2048 = .ok (.aload_n 0, 1) := by decide +kernel
theorem dL_law__2049 : decode cL_law_ 2049 = .ok (.iload 4, 2) := by decide +kernel
theorem dL_law__2051 : decode cL_law_ 2051 = .ok (.iconst 1, 1) := by decide +kernel
theorem dL_law__2052 : decode cL_law_ 2052 = .ok (.iadd, 1) := by decide +kernel
theorem dL_law__2053 : decode cL_law_ 2053 = .ok (.iaload, 1) := by decide +kernel
theorem dL_law__2054 : decode cL_law_ 2054 = .ok (.ifCond .eq 7, 3) := by decide +kernel
theorem dL_law__2057 : decode cL_law_ 2057 = .ok (.iconst 1, 1) := by decide +kernel
theorem dL_law__2058 : decode cL_law_ 2058 = .ok (.goto 4, 3) := by decide +kernel
theorem dL_law__2061 : decode cL_law_ 2061 = .ok (.iconst 0, 1) := by decide +kernel
theorem dL_law__2062 : decode cL_law_ 2062 = .ok (.invokevirtual 252, 3) := by decide +kernel
theorem dL_law__2065 : decode cL_law_ 2065 = .ok (.istore 6, 2) := by decide +kernel
theorem dL_law__2067 : decode cL_law_ 2067 = .ok (.aload_n 2, 1) := by decide +kernel
theorem dL_law__2068 : decode cL_law_ 2068 = .ok (.invokevirtual 163, 3) := by decide +kernel
theorem dL_law__2071 : decode cL_law_ 2071 = .ok (.iload 5, 2) := by decide +kernel
theorem dL_law__2073 : decode cL_law_ 2073 = .ok (.if_icmp .eq 5, 3) := by decide +kernel
theorem dL_law__2076 : decode cL_law_ 2076 = .ok (.iconst 0, 1) := by decide +kernel
theorem dL_law__2077 : decode cL_law_ 2077 = .ok (.ireturn, 1) := by decide +kernel
theorem dL_law__2078 : decode cL_law_ 2078 = .ok (.iload 5, 2) := by decide +kernel
theorem dL_law__2080 : decode cL_law_ 2080 = .ok (.ifCond .ne 15, 3) := by decide +kernel
theorem dL_law__2083 : decode cL_law_ 2083 = .ok (.aload_n 3, 1) := by decide +kernel
theorem dL_law__2084 : decode cL_law_ 2084 = .ok (.iconst 0, 1) := by decide +kernel
theorem dL_law__2085 : decode cL_law_ 2085 = .ok (.laload, 1) := by decide +kernel
theorem dL_law__2086 : decode cL_law_ 2086 = .ok (.iload 6, 2) := by decide +kernel
theorem dL_law__2088 : decode cL_law_ 2088 = .ok (.i2l, 1) := by decide +kernel
theorem dL_law__2089 : decode cL_law_ 2089 = .ok (.lcmp, 1) := by decide +kernel
theorem dL_law__2090 : decode cL_law_ 2090 = .ok (.ifCond .eq 5, 3) := by decide +kernel
theorem dL_law__2093 : decode cL_law_ 2093 = .ok (.iconst 0, 1) := by decide +kernel
theorem dL_law__2094 : decode cL_law_ 2094 = .ok (.ireturn, 1) := by decide +kernel
theorem dL_law__2095 : decode cL_law_ 2095 = .ok (.goto 974, 3) := by decide +kernel
theorem dL_law__2098 : decode cL_law_ 2098 = .ok (.aload_n 1, 1) := by decide +kernel
theorem dL_law__2099 : decode cL_law_ 2099 = .ok (.aload_n 0, 1) := by decide +kernel
theorem dL_law__2100 : decode cL_law_ 2100 = .ok (.iload 4, 2) := by decide +kernel
theorem dL_law__2102 : decode cL_law_ 2102 = .ok (.iconst 1, 1) := by decide +kernel
theorem dL_law__2103 : decode cL_law_ 2103 = .ok (.iadd, 1) := by decide +kernel
theorem dL_law__2104 : decode cL_law_ 2104 = .ok (.iaload, 1) := by decide +kernel
theorem dL_law__2105 : decode cL_law_ 2105 = .ok (.ifCond .eq 7, 3) := by decide +kernel
theorem dL_law__2108 : decode cL_law_ 2108 = .ok (.iconst 1, 1) := by decide +kernel
theorem dL_law__2109 : decode cL_law_ 2109 = .ok (.goto 4, 3) := by decide +kernel
theorem dL_law__2112 : decode cL_law_ 2112 = .ok (.iconst 0, 1) := by decide +kernel
theorem dL_law__2113 : decode cL_law_ 2113 = .ok (.aload_n 3, 1) := by decide +kernel
theorem dL_law__2114 : decode cL_law_ 2114 = .ok (.invokestatic 253, 3) := by decide +kernel
theorem dL_law__2117 : decode cL_law_ 2117 = .ok (.istore 5, 2) := by decide +kernel
theorem dL_law__2119 : decode cL_law_ 2119 = .ok (.aload_n 2, 1) := by decide +kernel
theorem dL_law__2120 : decode cL_law_ 2120 = .ok (.aload_n 0, 1) := by decide +kernel
theorem dL_law__2121 : decode cL_law_ 2121 = .ok (.iload 4, 2) := by decide +kernel
theorem dL_law__2123 : decode cL_law_ 2123 = .ok (.iconst 1, 1) := by decide +kernel
theorem dL_law__2124 : decode cL_law_ 2124 = .ok (.iadd, 1) := by decide +kernel
theorem dL_law__2125 : decode cL_law_ 2125 = .ok (.iaload, 1) := by decide +kernel
theorem dL_law__2126 : decode cL_law_ 2126 = .ok (.ifCond .eq 7, 3) := by decide +kernel
theorem dL_law__2129 : decode cL_law_ 2129 = .ok (.iconst 1, 1) := by decide +kernel
theorem dL_law__2130 : decode cL_law_ 2130 = .ok (.goto 4, 3) := by decide +kernel
theorem dL_law__2133 : decode cL_law_ 2133 = .ok (.iconst 0, 1) := by decide +kernel
theorem dL_law__2134 : decode cL_law_ 2134 = .ok (.invokevirtual 255, 3) := by decide +kernel
theorem dL_law__2137 : decode cL_law_ 2137 = .ok (.istore 6, 2) := by decide +kernel
theorem dL_law__2139 : decode cL_law_ 2139 = .ok (.aload_n 2, 1) := by decide +kernel
theorem dL_law__2140 : decode cL_law_ 2140 = .ok (.invokevirtual 163, 3) := by decide +kernel
theorem dL_law__2143 : decode cL_law_ 2143 = .ok (.iload 5, 2) := by decide +kernel
theorem dL_law__2145 : decode cL_law_ 2145 = .ok (.if_icmp .eq 5, 3) := by decide +kernel
theorem dL_law__2148 : decode cL_law_ 2148 = .ok (.iconst 0, 1) := by decide +kernel
theorem dL_law__2149 : decode cL_law_ 2149 = .ok (.ireturn, 1) := by decide +kernel
theorem dL_law__2150 : decode cL_law_ 2150 = .ok (.iload 5, 2) := by decide +kernel
theorem dL_law__2152 : decode cL_law_ 2152 = .ok (.ifCond .ne 15, 3) := by decide +kernel
theorem dL_law__2155 : decode cL_law_ 2155 = .ok (.aload_n 3, 1) := by decide +kernel
theorem dL_law__2156 : decode cL_law_ 2156 = .ok (.iconst 0, 1) := by decide +kernel
theorem dL_law__2157 : decode cL_law_ 2157 = .ok (.laload, 1) := by decide +kernel
theorem dL_law__2158 : decode cL_law_ 2158 = .ok (.iload 6, 2) := by decide +kernel
theorem dL_law__2160 : decode cL_law_ 2160 = .ok (.i2l, 1) := by decide +kernel
theorem dL_law__2161 : decode cL_law_ 2161 = .ok (.lcmp, 1) := by decide +kernel
theorem dL_law__2162 : decode cL_law_ 2162 = .ok (.ifCond .eq 5, 3) := by decide +kernel
theorem dL_law__2165 : decode cL_law_ 2165 = .ok (.iconst 0, 1) := by decide +kernel
theorem dL_law__2166 : decode cL_law_ 2166 = .ok (.ireturn, 1) := by decide +kernel
theorem dL_law__2167 : decode cL_law_ 2167 = .ok (.goto 902, 3) := by decide +kernel
theorem dL_law__2170 : decode cL_law_ 2170 = .ok (.aload_n 1, 1) := by decide +kernel
theorem dL_law__2171 : decode cL_law_ 2171 = .ok (.aload_n 3, 1) := by decide +kernel
theorem dL_law__2172 : decode cL_law_ 2172 = .ok (.invokestatic 256, 3) := by decide +kernel
theorem dL_law__2175 : decode cL_law_ 2175 = .ok (.istore 5, 2) := by decide +kernel
theorem dL_law__2177 : decode cL_law_ 2177 = .ok (.aload_n 2, 1) := by decide +kernel
theorem dL_law__2178 : decode cL_law_ 2178 = .ok (.invokevirtual 258, 3) := by decide +kernel
theorem dL_law__2181 : decode cL_law_ 2181 = .ok (.istore 6, 2) := by decide +kernel
theorem dL_law__2183 : decode cL_law_ 2183 = .ok (.aload_n 2, 1) := by decide +kernel
theorem dL_law__2184 : decode cL_law_ 2184 = .ok (.invokevirtual 163, 3) := by decide +kernel
theorem dL_law__2187 : decode cL_law_ 2187 = .ok (.iload 5, 2) := by decide +kernel
theorem dL_law__2189 : decode cL_law_ 2189 = .ok (.if_icmp .eq 5, 3) := by decide +kernel
theorem dL_law__2192 : decode cL_law_ 2192 = .ok (.iconst 0, 1) := by decide +kernel
theorem dL_law__2193 : decode cL_law_ 2193 = .ok (.ireturn, 1) := by decide +kernel
theorem dL_law__2194 : decode cL_law_ 2194 = .ok (.iload 5, 2) := by decide +kernel
theorem dL_law__2196 : decode cL_law_ 2196 = .ok (.ifCond .ne 15, 3) := by decide +kernel
theorem dL_law__2199 : decode cL_law_ 2199 = .ok (.aload_n 3, 1) := by decide +kernel
theorem dL_law__2200 : decode cL_law_ 2200 = .ok (.iconst 0, 1) := by decide +kernel
theorem dL_law__2201 : decode cL_law_ 2201 = .ok (.laload, 1) := by decide +kernel
theorem dL_law__2202 : decode cL_law_ 2202 = .ok (.iload 6, 2) := by decide +kernel
theorem dL_law__2204 : decode cL_law_ 2204 = .ok (.i2l, 1) := by decide +kernel
theorem dL_law__2205 : decode cL_law_ 2205 = .ok (.lcmp, 1) := by decide +kernel
theorem dL_law__2206 : decode cL_law_ 2206 = .ok (.ifCond .eq 5, 3) := by decide +kernel
theorem dL_law__2209 : decode cL_law_ 2209 = .ok (.iconst 0, 1) := by decide +kernel
theorem dL_law__2210 : decode cL_law_ 2210 = .ok (.ireturn, 1) := by decide +kernel
theorem dL_law__2211 : decode cL_law_ 2211 = .ok (.goto 858, 3) := by decide +kernel
theorem dL_law__2214 : decode cL_law_ 2214 = .ok (.aload_n 1, 1) := by decide +kernel
theorem dL_law__2215 : decode cL_law_ 2215 = .ok (.aload_n 0, 1) := by decide +kernel
theorem dL_law__2216 : decode cL_law_ 2216 = .ok (.iload 4, 2) := by decide +kernel
theorem dL_law__2218 : decode cL_law_ 2218 = .ok (.iconst 1, 1) := by decide +kernel
theorem dL_law__2219 : decode cL_law_ 2219 = .ok (.iadd, 1) := by decide +kernel
theorem dL_law__2220 : decode cL_law_ 2220 = .ok (.iaload, 1) := by decide +kernel
theorem dL_law__2221 : decode cL_law_ 2221 = .ok (.aload_n 0, 1) := by decide +kernel
theorem dL_law__2222 : decode cL_law_ 2222 = .ok (.iload 4, 2) := by decide +kernel
theorem dL_law__2224 : decode cL_law_ 2224 = .ok (.iconst 2, 1) := by decide +kernel
theorem dL_law__2225 : decode cL_law_ 2225 = .ok (.iadd, 1) := by decide +kernel
theorem dL_law__2226 : decode cL_law_ 2226 = .ok (.iaload, 1) := by decide +kernel
theorem dL_law__2227 : decode cL_law_ 2227 = .ok (.aload_n 3, 1) := by decide +kernel
theorem dL_law__2228 : decode cL_law_ 2228 = .ok (.invokestatic 259, 3) := by decide +kernel
theorem dL_law__2231 : decode cL_law_ 2231 = .ok (.istore 5, 2) := by decide +kernel
theorem dL_law__2233 : decode cL_law_ 2233 = .ok (.aload_n 2, 1) := by decide +kernel
theorem dL_law__2234 : decode cL_law_ 2234 = .ok (.aload_n 0, 1) := by decide +kernel
theorem dL_law__2235 : decode cL_law_ 2235 = .ok (.iload 4, 2) := by decide +kernel
theorem dL_law__2237 : decode cL_law_ 2237 = .ok (.iconst 1, 1) := by decide +kernel
theorem dL_law__2238 : decode cL_law_ 2238 = .ok (.iadd, 1) := by decide +kernel
theorem dL_law__2239 : decode cL_law_ 2239 = .ok (.iaload, 1) := by decide +kernel
theorem dL_law__2240 : decode cL_law_ 2240 = .ok (.aload_n 0, 1) := by decide +kernel
theorem dL_law__2241 : decode cL_law_ 2241 = .ok (.iload 4, 2) := by decide +kernel
theorem dL_law__2243 : decode cL_law_ 2243 = .ok (.iconst 2, 1) := by decide +kernel
theorem dL_law__2244 : decode cL_law_ 2244 = .ok (.iadd, 1) := by decide +kernel
theorem dL_law__2245 : decode cL_law_ 2245 = .ok (.iaload, 1) := by decide +kernel
theorem dL_law__2246 : decode cL_law_ 2246 = .ok (.invokevirtual 261, 3) := by decide +kernel
theorem dL_law__2249 : decode cL_law_ 2249 = .ok (.istore 6, 2) := by decide +kernel
theorem dL_law__2251 : decode cL_law_ 2251 = .ok (.aload_n 2, 1) := by decide +kernel
theorem dL_law__2252 : decode cL_law_ 2252 = .ok (.invokevirtual 163, 3) := by decide +kernel
theorem dL_law__2255 : decode cL_law_ 2255 = .ok (.iload 5, 2) := by decide +kernel
theorem dL_law__2257 : decode cL_law_ 2257 = .ok (.if_icmp .eq 5, 3) := by decide +kernel
theorem dL_law__2260 : decode cL_law_ 2260 = .ok (.iconst 0, 1) := by decide +kernel
theorem dL_law__2261 : decode cL_law_ 2261 = .ok (.ireturn, 1) := by decide +kernel
theorem dL_law__2262 : decode cL_law_ 2262 = .ok (.iload 5, 2) := by decide +kernel
theorem dL_law__2264 : decode cL_law_ 2264 = .ok (.ifCond .ne 15, 3) := by decide +kernel
theorem dL_law__2267 : decode cL_law_ 2267 = .ok (.aload_n 3, 1) := by decide +kernel
theorem dL_law__2268 : decode cL_law_ 2268 = .ok (.iconst 0, 1) := by decide +kernel
theorem dL_law__2269 : decode cL_law_ 2269 = .ok (.laload, 1) := by decide +kernel
theorem dL_law__2270 : decode cL_law_ 2270 = .ok (.iload 6, 2) := by decide +kernel
theorem dL_law__2272 : decode cL_law_ 2272 = .ok (.i2l, 1) := by decide +kernel
theorem dL_law__2273 : decode cL_law_ 2273 = .ok (.lcmp, 1) := by decide +kernel
theorem dL_law__2274 : decode cL_law_ 2274 = .ok (.ifCond .eq 5, 3) := by decide +kernel
theorem dL_law__2277 : decode cL_law_ 2277 = .ok (.iconst 0, 1) := by decide +kernel
theorem dL_law__2278 : decode cL_law_ 2278 = .ok (.ireturn, 1) := by decide +kernel
theorem dL_law__2279 : decode cL_law_ 2279 = .ok (.goto 790, 3) := by decide +kernel
theorem dL_law__2282 : decode cL_law_ 2282 = .ok (.aload_n 1, 1) := by decide +kernel
theorem dL_law__2283 : decode cL_law_ 2283 = .ok (.invokevirtual 262, 3) := by decide +kernel
theorem dL_law__2286 : decode cL_law_ 2286 = .ok (.aload_n 2, 1) := by decide +kernel
theorem dL_law__2287 : decode cL_law_ 2287 = .ok (.invokevirtual 265, 3) := by decide +kernel
theorem dL_law__2290 : decode cL_law_ 2290 = .ok (.if_icmp .eq 779, 3) := by decide +kernel
theorem dL_law__2293 : decode cL_law_ 2293 = .ok (.iconst 0, 1) := by decide +kernel
theorem dL_law__2294 : decode cL_law_ 2294 = .ok (.ireturn, 1) := by decide +kernel
theorem dL_law__2295 : decode cL_law_ 2295 = .ok (.aload_n 1, 1) := by decide +kernel
theorem dL_law__2296 : decode cL_law_ 2296 = .ok (.invokevirtual 266, 3) := by decide +kernel
theorem dL_law__2299 : decode cL_law_ 2299 = .ok (.aload_n 2, 1) := by decide +kernel
theorem dL_law__2300 : decode cL_law_ 2300 = .ok (.invokevirtual 269, 3) := by decide +kernel
theorem dL_law__2303 : decode cL_law_ 2303 = .ok (.if_icmp .eq 766, 3) := by decide +kernel
theorem dL_law__2306 : decode cL_law_ 2306 = .ok (.iconst 0, 1) := by decide +kernel
theorem dL_law__2307 : decode cL_law_ 2307 = .ok (.ireturn, 1) := by decide +kernel
theorem dL_law__2308 : decode cL_law_ 2308 = .ok (.aload_n 1, 1) := by decide +kernel
theorem dL_law__2309 : decode cL_law_ 2309 = .ok (.invokevirtual 270, 3) := by decide +kernel
theorem dL_law__2312 : decode cL_law_ 2312 = .ok (.aload_n 2, 1) := by decide +kernel
theorem dL_law__2313 : decode cL_law_ 2313 = .ok (.invokevirtual 273, 3) := by decide +kernel
theorem dL_law__2316 : decode cL_law_ 2316 = .ok (.if_icmp .eq 753, 3) := by decide +kernel
theorem dL_law__2319 : decode cL_law_ 2319 = .ok (.iconst 0, 1) := by decide +kernel
theorem dL_law__2320 : decode cL_law_ 2320 = .ok (.ireturn, 1) := by decide +kernel
theorem dL_law__2321 : decode cL_law_ 2321 = .ok (.aload_n 1, 1) := by decide +kernel
theorem dL_law__2322 : decode cL_law_ 2322 = .ok (.aload_n 0, 1) := by decide +kernel
theorem dL_law__2323 : decode cL_law_ 2323 = .ok (.iload 4, 2) := by decide +kernel
theorem dL_law__2325 : decode cL_law_ 2325 = .ok (.iconst 1, 1) := by decide +kernel
theorem dL_law__2326 : decode cL_law_ 2326 = .ok (.iadd, 1) := by decide +kernel
theorem dL_law__2327 : decode cL_law_ 2327 = .ok (.iaload, 1) := by decide +kernel
theorem dL_law__2328 : decode cL_law_ 2328 = .ok (.aload_n 0, 1) := by decide +kernel
theorem dL_law__2329 : decode cL_law_ 2329 = .ok (.iload 4, 2) := by decide +kernel
theorem dL_law__2331 : decode cL_law_ 2331 = .ok (.iconst 2, 1) := by decide +kernel
theorem dL_law__2332 : decode cL_law_ 2332 = .ok (.iadd, 1) := by decide +kernel
theorem dL_law__2333 : decode cL_law_ 2333 = .ok (.iaload, 1) := by decide +kernel
theorem dL_law__2334 : decode cL_law_ 2334 = .ok (.aload_n 3, 1) := by decide +kernel
theorem dL_law__2335 : decode cL_law_ 2335 = .ok (.invokestatic 274, 3) := by decide +kernel
theorem dL_law__2338 : decode cL_law_ 2338 = .ok (.istore 5, 2) := by decide +kernel
theorem dL_law__2340 : decode cL_law_ 2340 = .ok (.aload_n 2, 1) := by decide +kernel
theorem dL_law__2341 : decode cL_law_ 2341 = .ok (.aload_n 0, 1) := by decide +kernel
theorem dL_law__2342 : decode cL_law_ 2342 = .ok (.iload 4, 2) := by decide +kernel
theorem dL_law__2344 : decode cL_law_ 2344 = .ok (.iconst 1, 1) := by decide +kernel
theorem dL_law__2345 : decode cL_law_ 2345 = .ok (.iadd, 1) := by decide +kernel
theorem dL_law__2346 : decode cL_law_ 2346 = .ok (.iaload, 1) := by decide +kernel
theorem dL_law__2347 : decode cL_law_ 2347 = .ok (.aload_n 0, 1) := by decide +kernel
theorem dL_law__2348 : decode cL_law_ 2348 = .ok (.iload 4, 2) := by decide +kernel
theorem dL_law__2350 : decode cL_law_ 2350 = .ok (.iconst 2, 1) := by decide +kernel
theorem dL_law__2351 : decode cL_law_ 2351 = .ok (.iadd, 1) := by decide +kernel
theorem dL_law__2352 : decode cL_law_ 2352 = .ok (.iaload, 1) := by decide +kernel
theorem dL_law__2353 : decode cL_law_ 2353 = .ok (.invokevirtual 276, 3) := by decide +kernel
theorem dL_law__2356 : decode cL_law_ 2356 = .ok (.istore 6, 2) := by decide +kernel
theorem dL_law__2358 : decode cL_law_ 2358 = .ok (.aload_n 2, 1) := by decide +kernel
theorem dL_law__2359 : decode cL_law_ 2359 = .ok (.invokevirtual 163, 3) := by decide +kernel
theorem dL_law__2362 : decode cL_law_ 2362 = .ok (.iload 5, 2) := by decide +kernel
theorem dL_law__2364 : decode cL_law_ 2364 = .ok (.if_icmp .eq 5, 3) := by decide +kernel
theorem dL_law__2367 : decode cL_law_ 2367 = .ok (.iconst 0, 1) := by decide +kernel
theorem dL_law__2368 : decode cL_law_ 2368 = .ok (.ireturn, 1) := by decide +kernel
theorem dL_law__2369 : decode cL_law_ 2369 = .ok (.iload 5, 2) := by decide +kernel
theorem dL_law__2371 : decode cL_law_ 2371 = .ok (.ifCond .ne 15, 3) := by decide +kernel
theorem dL_law__2374 : decode cL_law_ 2374 = .ok (.aload_n 3, 1) := by decide +kernel
theorem dL_law__2375 : decode cL_law_ 2375 = .ok (.iconst 0, 1) := by decide +kernel
theorem dL_law__2376 : decode cL_law_ 2376 = .ok (.laload, 1) := by decide +kernel
theorem dL_law__2377 : decode cL_law_ 2377 = .ok (.iload 6, 2) := by decide +kernel
theorem dL_law__2379 : decode cL_law_ 2379 = .ok (.i2l, 1) := by decide +kernel
theorem dL_law__2380 : decode cL_law_ 2380 = .ok (.lcmp, 1) := by decide +kernel
theorem dL_law__2381 : decode cL_law_ 2381 = .ok (.ifCond .eq 5, 3) := by decide +kernel
theorem dL_law__2384 : decode cL_law_ 2384 = .ok (.iconst 0, 1) := by decide +kernel
theorem dL_law__2385 : decode cL_law_ 2385 = .ok (.ireturn, 1) := by decide +kernel
theorem dL_law__2386 : decode cL_law_ 2386 = .ok (.goto 683, 3) := by decide +kernel
theorem dL_law__2389 : decode cL_law_ 2389 = .ok (.aload_n 1, 1) := by decide +kernel
theorem dL_law__2390 : decode cL_law_ 2390 = .ok (.aload_n 0, 1) := by decide +kernel
theorem dL_law__2391 : decode cL_law_ 2391 = .ok (.iload 4, 2) := by decide +kernel
theorem dL_law__2393 : decode cL_law_ 2393 = .ok (.iconst 1, 1) := by decide +kernel
theorem dL_law__2394 : decode cL_law_ 2394 = .ok (.iadd, 1) := by decide +kernel
theorem dL_law__2395 : decode cL_law_ 2395 = .ok (.iaload, 1) := by decide +kernel
theorem dL_law__2396 : decode cL_law_ 2396 = .ok (.aload_n 3, 1) := by decide +kernel
theorem dL_law__2397 : decode cL_law_ 2397 = .ok (.invokestatic 277, 3) := by decide +kernel
theorem dL_law__2400 : decode cL_law_ 2400 = .ok (.istore 5, 2) := by decide +kernel
theorem dL_law__2402 : decode cL_law_ 2402 = .ok (.aload_n 2, 1) := by decide +kernel
theorem dL_law__2403 : decode cL_law_ 2403 = .ok (.aload_n 0, 1) := by decide +kernel
theorem dL_law__2404 : decode cL_law_ 2404 = .ok (.iload 4, 2) := by decide +kernel
theorem dL_law__2406 : decode cL_law_ 2406 = .ok (.iconst 1, 1) := by decide +kernel
theorem dL_law__2407 : decode cL_law_ 2407 = .ok (.iadd, 1) := by decide +kernel
theorem dL_law__2408 : decode cL_law_ 2408 = .ok (.iaload, 1) := by decide +kernel
theorem dL_law__2409 : decode cL_law_ 2409 = .ok (.invokevirtual 279, 3) := by decide +kernel
theorem dL_law__2412 : decode cL_law_ 2412 = .ok (.istore 6, 2) := by decide +kernel
theorem dL_law__2414 : decode cL_law_ 2414 = .ok (.aload_n 2, 1) := by decide +kernel
theorem dL_law__2415 : decode cL_law_ 2415 = .ok (.invokevirtual 163, 3) := by decide +kernel
theorem dL_law__2418 : decode cL_law_ 2418 = .ok (.iload 5, 2) := by decide +kernel
theorem dL_law__2420 : decode cL_law_ 2420 = .ok (.if_icmp .eq 5, 3) := by decide +kernel
theorem dL_law__2423 : decode cL_law_ 2423 = .ok (.iconst 0, 1) := by decide +kernel
theorem dL_law__2424 : decode cL_law_ 2424 = .ok (.ireturn, 1) := by decide +kernel
theorem dL_law__2425 : decode cL_law_ 2425 = .ok (.iload 5, 2) := by decide +kernel
theorem dL_law__2427 : decode cL_law_ 2427 = .ok (.ifCond .ne 15, 3) := by decide +kernel
theorem dL_law__2430 : decode cL_law_ 2430 = .ok (.aload_n 3, 1) := by decide +kernel
theorem dL_law__2431 : decode cL_law_ 2431 = .ok (.iconst 0, 1) := by decide +kernel
theorem dL_law__2432 : decode cL_law_ 2432 = .ok (.laload, 1) := by decide +kernel
theorem dL_law__2433 : decode cL_law_ 2433 = .ok (.iload 6, 2) := by decide +kernel
theorem dL_law__2435 : decode cL_law_ 2435 = .ok (.i2l, 1) := by decide +kernel
theorem dL_law__2436 : decode cL_law_ 2436 = .ok (.lcmp, 1) := by decide +kernel
theorem dL_law__2437 : decode cL_law_ 2437 = .ok (.ifCond .eq 5, 3) := by decide +kernel
theorem dL_law__2440 : decode cL_law_ 2440 = .ok (.iconst 0, 1) := by decide +kernel
theorem dL_law__2441 : decode cL_law_ 2441 = .ok (.ireturn, 1) := by decide +kernel
theorem dL_law__2442 : decode cL_law_ 2442 = .ok (.goto 627, 3) := by decide +kernel
theorem dL_law__2445 : decode cL_law_ 2445 = .ok (.aload_n 1, 1) := by decide +kernel
theorem dL_law__2446 : decode cL_law_ 2446 = .ok (.aload_n 0, 1) := by decide +kernel
theorem dL_law__2447 : decode cL_law_ 2447 = .ok (.iload 4, 2) := by decide +kernel
theorem dL_law__2449 : decode cL_law_ 2449 = .ok (.iconst 1, 1) := by decide +kernel
theorem dL_law__2450 : decode cL_law_ 2450 = .ok (.iadd, 1) := by decide +kernel
theorem dL_law__2451 : decode cL_law_ 2451 = .ok (.iaload, 1) := by decide +kernel
theorem dL_law__2452 : decode cL_law_ 2452 = .ok (.aload_n 3, 1) := by decide +kernel
theorem dL_law__2453 : decode cL_law_ 2453 = .ok (.invokestatic 280, 3) := by decide +kernel
theorem dL_law__2456 : decode cL_law_ 2456 = .ok (.istore 5, 2) := by decide +kernel
theorem dL_law__2458 : decode cL_law_ 2458 = .ok (.aload_n 2, 1) := by decide +kernel
theorem dL_law__2459 : decode cL_law_ 2459 = .ok (.aload_n 0, 1) := by decide +kernel
theorem dL_law__2460 : decode cL_law_ 2460 = .ok (.iload 4, 2) := by decide +kernel
theorem dL_law__2462 : decode cL_law_ 2462 = .ok (.iconst 1, 1) := by decide +kernel
theorem dL_law__2463 : decode cL_law_ 2463 = .ok (.iadd, 1) := by decide +kernel
theorem dL_law__2464 : decode cL_law_ 2464 = .ok (.iaload, 1) := by decide +kernel
theorem dL_law__2465 : decode cL_law_ 2465 = .ok (.invokevirtual 282, 3) := by decide +kernel
theorem dL_law__2468 : decode cL_law_ 2468 = .ok (.istore 6, 2) := by decide +kernel
theorem dL_law__2470 : decode cL_law_ 2470 = .ok (.aload_n 2, 1) := by decide +kernel
theorem dL_law__2471 : decode cL_law_ 2471 = .ok (.invokevirtual 163, 3) := by decide +kernel
theorem dL_law__2474 : decode cL_law_ 2474 = .ok (.iload 5, 2) := by decide +kernel
theorem dL_law__2476 : decode cL_law_ 2476 = .ok (.if_icmp .eq 5, 3) := by decide +kernel
theorem dL_law__2479 : decode cL_law_ 2479 = .ok (.iconst 0, 1) := by decide +kernel
theorem dL_law__2480 : decode cL_law_ 2480 = .ok (.ireturn, 1) := by decide +kernel
theorem dL_law__2481 : decode cL_law_ 2481 = .ok (.iload 5, 2) := by decide +kernel
theorem dL_law__2483 : decode cL_law_ 2483 = .ok (.ifCond .ne 15, 3) := by decide +kernel
theorem dL_law__2486 : decode cL_law_ 2486 = .ok (.aload_n 3, 1) := by decide +kernel
theorem dL_law__2487 : decode cL_law_ 2487 = .ok (.iconst 0, 1) := by decide +kernel
theorem dL_law__2488 : decode cL_law_ 2488 = .ok (.laload, 1) := by decide +kernel
theorem dL_law__2489 : decode cL_law_ 2489 = .ok (.iload 6, 2) := by decide +kernel
theorem dL_law__2491 : decode cL_law_ 2491 = .ok (.i2l, 1) := by decide +kernel
theorem dL_law__2492 : decode cL_law_ 2492 = .ok (.lcmp, 1) := by decide +kernel
theorem dL_law__2493 : decode cL_law_ 2493 = .ok (.ifCond .eq 5, 3) := by decide +kernel
theorem dL_law__2496 : decode cL_law_ 2496 = .ok (.iconst 0, 1) := by decide +kernel
theorem dL_law__2497 : decode cL_law_ 2497 = .ok (.ireturn, 1) := by decide +kernel
theorem dL_law__2498 : decode cL_law_ 2498 = .ok (.goto 571, 3) := by decide +kernel
theorem dL_law__2501 : decode cL_law_ 2501 = .ok (.aload_n 1, 1) := by decide +kernel
theorem dL_law__2502 : decode cL_law_ 2502 = .ok (.invokevirtual 283, 3) := by decide +kernel
theorem dL_law__2505 : decode cL_law_ 2505 = .ok (.aload_n 2, 1) := by decide +kernel
theorem dL_law__2506 : decode cL_law_ 2506 = .ok (.invokevirtual 286, 3) := by decide +kernel
theorem dL_law__2509 : decode cL_law_ 2509 = .ok (.if_icmp .eq 560, 3) := by decide +kernel
theorem dL_law__2512 : decode cL_law_ 2512 = .ok (.iconst 0, 1) := by decide +kernel
theorem dL_law__2513 : decode cL_law_ 2513 = .ok (.ireturn, 1) := by decide +kernel
theorem dL_law__2514 : decode cL_law_ 2514 = .ok (.aload_n 1, 1) := by decide +kernel
theorem dL_law__2515 : decode cL_law_ 2515 = .ok (.aload_n 0, 1) := by decide +kernel
theorem dL_law__2516 : decode cL_law_ 2516 = .ok (.iload 4, 2) := by decide +kernel
theorem dL_law__2518 : decode cL_law_ 2518 = .ok (.iconst 1, 1) := by decide +kernel
theorem dL_law__2519 : decode cL_law_ 2519 = .ok (.iadd, 1) := by decide +kernel
theorem dL_law__2520 : decode cL_law_ 2520 = .ok (.iaload, 1) := by decide +kernel
theorem dL_law__2521 : decode cL_law_ 2521 = .ok (.aload_n 0, 1) := by decide +kernel
theorem dL_law__2522 : decode cL_law_ 2522 = .ok (.iload 4, 2) := by decide +kernel
theorem dL_law__2524 : decode cL_law_ 2524 = .ok (.iconst 2, 1) := by decide +kernel
theorem dL_law__2525 : decode cL_law_ 2525 = .ok (.iadd, 1) := by decide +kernel
theorem dL_law__2526 : decode cL_law_ 2526 = .ok (.iaload, 1) := by decide +kernel
theorem dL_law__2527 : decode cL_law_ 2527 = .ok (.aload_n 3, 1) := by decide +kernel
theorem dL_law__2528 : decode cL_law_ 2528 = .ok (.invokestatic 287, 3) := by decide +kernel
theorem dL_law__2531 : decode cL_law_ 2531 = .ok (.istore 5, 2) := by decide +kernel
theorem dL_law__2533 : decode cL_law_ 2533 = .ok (.aload_n 2, 1) := by decide +kernel
theorem dL_law__2534 : decode cL_law_ 2534 = .ok (.aload_n 0, 1) := by decide +kernel
theorem dL_law__2535 : decode cL_law_ 2535 = .ok (.iload 4, 2) := by decide +kernel
theorem dL_law__2537 : decode cL_law_ 2537 = .ok (.iconst 1, 1) := by decide +kernel
theorem dL_law__2538 : decode cL_law_ 2538 = .ok (.iadd, 1) := by decide +kernel
theorem dL_law__2539 : decode cL_law_ 2539 = .ok (.iaload, 1) := by decide +kernel
theorem dL_law__2540 : decode cL_law_ 2540 = .ok (.aload_n 0, 1) := by decide +kernel
theorem dL_law__2541 : decode cL_law_ 2541 = .ok (.iload 4, 2) := by decide +kernel
theorem dL_law__2543 : decode cL_law_ 2543 = .ok (.iconst 2, 1) := by decide +kernel
theorem dL_law__2544 : decode cL_law_ 2544 = .ok (.iadd, 1) := by decide +kernel
theorem dL_law__2545 : decode cL_law_ 2545 = .ok (.iaload, 1) := by decide +kernel
theorem dL_law__2546 : decode cL_law_ 2546 = .ok (.invokevirtual 289, 3) := by decide +kernel
theorem dL_law__2549 : decode cL_law_ 2549 = .ok (.istore 6, 2) := by decide +kernel
theorem dL_law__2551 : decode cL_law_ 2551 = .ok (.aload_n 2, 1) := by decide +kernel
theorem dL_law__2552 : decode cL_law_ 2552 = .ok (.invokevirtual 163, 3) := by decide +kernel
theorem dL_law__2555 : decode cL_law_ 2555 = .ok (.iload 5, 2) := by decide +kernel
theorem dL_law__2557 : decode cL_law_ 2557 = .ok (.if_icmp .eq 5, 3) := by decide +kernel
theorem dL_law__2560 : decode cL_law_ 2560 = .ok (.iconst 0, 1) := by decide +kernel
theorem dL_law__2561 : decode cL_law_ 2561 = .ok (.ireturn, 1) := by decide +kernel
theorem dL_law__2562 : decode cL_law_ 2562 = .ok (.iload 5, 2) := by decide +kernel
theorem dL_law__2564 : decode cL_law_ 2564 = .ok (.ifCond .ne 15, 3) := by decide +kernel
theorem dL_law__2567 : decode cL_law_ 2567 = .ok (.aload_n 3, 1) := by decide +kernel
theorem dL_law__2568 : decode cL_law_ 2568 = .ok (.iconst 0, 1) := by decide +kernel
theorem dL_law__2569 : decode cL_law_ 2569 = .ok (.laload, 1) := by decide +kernel
theorem dL_law__2570 : decode cL_law_ 2570 = .ok (.iload 6, 2) := by decide +kernel
theorem dL_law__2572 : decode cL_law_ 2572 = .ok (.i2l, 1) := by decide +kernel
theorem dL_law__2573 : decode cL_law_ 2573 = .ok (.lcmp, 1) := by decide +kernel
theorem dL_law__2574 : decode cL_law_ 2574 = .ok (.ifCond .eq 5, 3) := by decide +kernel
theorem dL_law__2577 : decode cL_law_ 2577 = .ok (.iconst 0, 1) := by decide +kernel
theorem dL_law__2578 : decode cL_law_ 2578 = .ok (.ireturn, 1) := by decide +kernel
theorem dL_law__2579 : decode cL_law_ 2579 = .ok (.goto 490, 3) := by decide +kernel
theorem dL_law__2582 : decode cL_law_ 2582 = .ok (.aload_n 1, 1) := by decide +kernel
theorem dL_law__2583 : decode cL_law_ 2583 = .ok (.aload_n 0, 1) := by decide +kernel
theorem dL_law__2584 : decode cL_law_ 2584 = .ok (.iload 4, 2) := by decide +kernel
theorem dL_law__2586 : decode cL_law_ 2586 = .ok (.iconst 1, 1) := by decide +kernel
theorem dL_law__2587 : decode cL_law_ 2587 = .ok (.iadd, 1) := by decide +kernel
theorem dL_law__2588 : decode cL_law_ 2588 = .ok (.iaload, 1) := by decide +kernel
theorem dL_law__2589 : decode cL_law_ 2589 = .ok (.aload_n 0, 1) := by decide +kernel
theorem dL_law__2590 : decode cL_law_ 2590 = .ok (.iload 4, 2) := by decide +kernel
theorem dL_law__2592 : decode cL_law_ 2592 = .ok (.iconst 2, 1) := by decide +kernel
theorem dL_law__2593 : decode cL_law_ 2593 = .ok (.iadd, 1) := by decide +kernel
theorem dL_law__2594 : decode cL_law_ 2594 = .ok (.iaload, 1) := by decide +kernel
theorem dL_law__2595 : decode cL_law_ 2595 = .ok (.aload_n 0, 1) := by decide +kernel
theorem dL_law__2596 : decode cL_law_ 2596 = .ok (.iload 4, 2) := by decide +kernel
theorem dL_law__2598 : decode cL_law_ 2598 = .ok (.iconst 3, 1) := by decide +kernel
theorem dL_law__2599 : decode cL_law_ 2599 = .ok (.iadd, 1) := by decide +kernel
theorem dL_law__2600 : decode cL_law_ 2600 = .ok (.iaload, 1) := by decide +kernel
theorem dL_law__2601 : decode cL_law_ 2601 = .ok (.aload_n 3, 1) := by decide +kernel
theorem dL_law__2602 : decode cL_law_ 2602 = .ok (.invokestatic 290, 3) := by decide +kernel
theorem dL_law__2605 : decode cL_law_ 2605 = .ok (.istore 5, 2) := by decide +kernel
theorem dL_law__2607 : decode cL_law_ 2607 = .ok (.aload_n 2, 1) := by decide +kernel
theorem dL_law__2608 : decode cL_law_ 2608 = .ok (.aload_n 0, 1) := by decide +kernel
theorem dL_law__2609 : decode cL_law_ 2609 = .ok (.iload 4, 2) := by decide +kernel
theorem dL_law__2611 : decode cL_law_ 2611 = .ok (.iconst 1, 1) := by decide +kernel
theorem dL_law__2612 : decode cL_law_ 2612 = .ok (.iadd, 1) := by decide +kernel
theorem dL_law__2613 : decode cL_law_ 2613 = .ok (.iaload, 1) := by decide +kernel
theorem dL_law__2614 : decode cL_law_ 2614 = .ok (.aload_n 0, 1) := by decide +kernel
theorem dL_law__2615 : decode cL_law_ 2615 = .ok (.iload 4, 2) := by decide +kernel
theorem dL_law__2617 : decode cL_law_ 2617 = .ok (.iconst 2, 1) := by decide +kernel
theorem dL_law__2618 : decode cL_law_ 2618 = .ok (.iadd, 1) := by decide +kernel
theorem dL_law__2619 : decode cL_law_ 2619 = .ok (.iaload, 1) := by decide +kernel
theorem dL_law__2620 : decode cL_law_ 2620 = .ok (.aload_n 0, 1) := by decide +kernel
theorem dL_law__2621 : decode cL_law_ 2621 = .ok (.iload 4, 2) := by decide +kernel
theorem dL_law__2623 : decode cL_law_ 2623 = .ok (.iconst 3, 1) := by decide +kernel
theorem dL_law__2624 : decode cL_law_ 2624 = .ok (.iadd, 1) := by decide +kernel
theorem dL_law__2625 : decode cL_law_ 2625 = .ok (.iaload, 1) := by decide +kernel
theorem dL_law__2626 : decode cL_law_ 2626 = .ok (.invokevirtual 293, 3) := by decide +kernel
theorem dL_law__2629 : decode cL_law_ 2629 = .ok (.istore 6, 2) := by decide +kernel
theorem dL_law__2631 : decode cL_law_ 2631 = .ok (.aload_n 2, 1) := by decide +kernel
theorem dL_law__2632 : decode cL_law_ 2632 = .ok (.invokevirtual 163, 3) := by decide +kernel
theorem dL_law__2635 : decode cL_law_ 2635 = .ok (.iload 5, 2) := by decide +kernel
theorem dL_law__2637 : decode cL_law_ 2637 = .ok (.if_icmp .eq 5, 3) := by decide +kernel
theorem dL_law__2640 : decode cL_law_ 2640 = .ok (.iconst 0, 1) := by decide +kernel
theorem dL_law__2641 : decode cL_law_ 2641 = .ok (.ireturn, 1) := by decide +kernel
theorem dL_law__2642 : decode cL_law_ 2642 = .ok (.iload 5, 2) := by decide +kernel
theorem dL_law__2644 : decode cL_law_ 2644 = .ok (.ifCond .ne 15, 3) := by decide +kernel
theorem dL_law__2647 : decode cL_law_ 2647 = .ok (.aload_n 3, 1) := by decide +kernel
theorem dL_law__2648 : decode cL_law_ 2648 = .ok (.iconst 0, 1) := by decide +kernel
theorem dL_law__2649 : decode cL_law_ 2649 = .ok (.laload, 1) := by decide +kernel
theorem dL_law__2650 : decode cL_law_ 2650 = .ok (.iload 6, 2) := by decide +kernel
theorem dL_law__2652 : decode cL_law_ 2652 = .ok (.i2l, 1) := by decide +kernel
theorem dL_law__2653 : decode cL_law_ 2653 = .ok (.lcmp, 1) := by decide +kernel
theorem dL_law__2654 : decode cL_law_ 2654 = .ok (.ifCond .eq 5, 3) := by decide +kernel
theorem dL_law__2657 : decode cL_law_ 2657 = .ok (.iconst 0, 1) := by decide +kernel
theorem dL_law__2658 : decode cL_law_ 2658 = .ok (.ireturn, 1) := by decide +kernel
theorem dL_law__2659 : decode cL_law_ 2659 = .ok (.goto 410, 3) := by decide +kernel
theorem dL_law__2662 : decode cL_law_ 2662 = .ok (.aload_n 1, 1) := by decide +kernel
theorem dL_law__2663 : decode cL_law_ 2663 = .ok (.aload_n 0, 1) := by decide +kernel
theorem dL_law__2664 : decode cL_law_ 2664 = .ok (.iload 4, 2) := by decide +kernel
theorem dL_law__2666 : decode cL_law_ 2666 = .ok (.iconst 1, 1) := by decide +kernel
theorem dL_law__2667 : decode cL_law_ 2667 = .ok (.iadd, 1) := by decide +kernel
theorem dL_law__2668 : decode cL_law_ 2668 = .ok (.iaload, 1) := by decide +kernel
theorem dL_law__2669 : decode cL_law_ 2669 = .ok (.aload_n 0, 1) := by decide +kernel
theorem dL_law__2670 : decode cL_law_ 2670 = .ok (.iload 4, 2) := by decide +kernel
theorem dL_law__2672 : decode cL_law_ 2672 = .ok (.iconst 2, 1) := by decide +kernel
theorem dL_law__2673 : decode cL_law_ 2673 = .ok (.iadd, 1) := by decide +kernel
theorem dL_law__2674 : decode cL_law_ 2674 = .ok (.iaload, 1) := by decide +kernel
theorem dL_law__2675 : decode cL_law_ 2675 = .ok (.ifCond .eq 7, 3) := by decide +kernel
theorem dL_law__2678 : decode cL_law_ 2678 = .ok (.iconst 1, 1) := by decide +kernel
theorem dL_law__2679 : decode cL_law_ 2679 = .ok (.goto 4, 3) := by decide +kernel
theorem dL_law__2682 : decode cL_law_ 2682 = .ok (.iconst 0, 1) := by decide +kernel
theorem dL_law__2683 : decode cL_law_ 2683 = .ok (.aload_n 3, 1) := by decide +kernel
theorem dL_law__2684 : decode cL_law_ 2684 = .ok (.invokestatic 294, 3) := by decide +kernel
theorem dL_law__2687 : decode cL_law_ 2687 = .ok (.istore 5, 2) := by decide +kernel
theorem dL_law__2689 : decode cL_law_ 2689 = .ok (.aload_n 2, 1) := by decide +kernel
theorem dL_law__2690 : decode cL_law_ 2690 = .ok (.aload_n 0, 1) := by decide +kernel
theorem dL_law__2691 : decode cL_law_ 2691 = .ok (.iload 4, 2) := by decide +kernel
theorem dL_law__2693 : decode cL_law_ 2693 = .ok (.iconst 1, 1) := by decide +kernel
theorem dL_law__2694 : decode cL_law_ 2694 = .ok (.iadd, 1) := by decide +kernel
theorem dL_law__2695 : decode cL_law_ 2695 = .ok (.iaload, 1) := by decide +kernel
theorem dL_law__2696 : decode cL_law_ 2696 = .ok (.aload_n 0, 1) := by decide +kernel
theorem dL_law__2697 : decode cL_law_ 2697 = .ok (.iload 4, 2) := by decide +kernel
theorem dL_law__2699 : decode cL_law_ 2699 = .ok (.iconst 2, 1) := by decide +kernel
theorem dL_law__2700 : decode cL_law_ 2700 = .ok (.iadd, 1) := by decide +kernel
theorem dL_law__2701 : decode cL_law_ 2701 = .ok (.iaload, 1) := by decide +kernel
theorem dL_law__2702 : decode cL_law_ 2702 = .ok (.ifCond .eq 7, 3) := by decide +kernel
theorem dL_law__2705 : decode cL_law_ 2705 = .ok (.iconst 1, 1) := by decide +kernel
theorem dL_law__2706 : decode cL_law_ 2706 = .ok (.goto 4, 3) := by decide +kernel
theorem dL_law__2709 : decode cL_law_ 2709 = .ok (.iconst 0, 1) := by decide +kernel
theorem dL_law__2710 : decode cL_law_ 2710 = .ok (.invokevirtual 297, 3) := by decide +kernel
theorem dL_law__2713 : decode cL_law_ 2713 = .ok (.istore 6, 2) := by decide +kernel
theorem dL_law__2715 : decode cL_law_ 2715 = .ok (.aload_n 2, 1) := by decide +kernel
theorem dL_law__2716 : decode cL_law_ 2716 = .ok (.invokevirtual 163, 3) := by decide +kernel
theorem dL_law__2719 : decode cL_law_ 2719 = .ok (.iload 5, 2) := by decide +kernel
theorem dL_law__2721 : decode cL_law_ 2721 = .ok (.if_icmp .eq 5, 3) := by decide +kernel
theorem dL_law__2724 : decode cL_law_ 2724 = .ok (.iconst 0, 1) := by decide +kernel
theorem dL_law__2725 : decode cL_law_ 2725 = .ok (.ireturn, 1) := by decide +kernel
theorem dL_law__2726 : decode cL_law_ 2726 = .ok (.iload 5, 2) := by decide +kernel
theorem dL_law__2728 : decode cL_law_ 2728 = .ok (.ifCond .ne 15, 3) := by decide +kernel
theorem dL_law__2731 : decode cL_law_ 2731 = .ok (.aload_n 3, 1) := by decide +kernel
theorem dL_law__2732 : decode cL_law_ 2732 = .ok (.iconst 0, 1) := by decide +kernel
theorem dL_law__2733 : decode cL_law_ 2733 = .ok (.laload, 1) := by decide +kernel
theorem dL_law__2734 : decode cL_law_ 2734 = .ok (.iload 6, 2) := by decide +kernel
theorem dL_law__2736 : decode cL_law_ 2736 = .ok (.i2l, 1) := by decide +kernel
theorem dL_law__2737 : decode cL_law_ 2737 = .ok (.lcmp, 1) := by decide +kernel
theorem dL_law__2738 : decode cL_law_ 2738 = .ok (.ifCond .eq 5, 3) := by decide +kernel
theorem dL_law__2741 : decode cL_law_ 2741 = .ok (.iconst 0, 1) := by decide +kernel
theorem dL_law__2742 : decode cL_law_ 2742 = .ok (.ireturn, 1) := by decide +kernel
theorem dL_law__2743 : decode cL_law_ 2743 = .ok (.goto 326, 3) := by decide +kernel
theorem dL_law__2746 : decode cL_law_ 2746 = .ok (.aload_n 1, 1) := by decide +kernel
theorem dL_law__2747 : decode cL_law_ 2747 = .ok (.aload_n 0, 1) := by decide +kernel
theorem dL_law__2748 : decode cL_law_ 2748 = .ok (.iload 4, 2) := by decide +kernel
theorem dL_law__2750 : decode cL_law_ 2750 = .ok (.iconst 1, 1) := by decide +kernel
theorem dL_law__2751 : decode cL_law_ 2751 = .ok (.iadd, 1) := by decide +kernel
theorem dL_law__2752 : decode cL_law_ 2752 = .ok (.iaload, 1) := by decide +kernel
theorem dL_law__2753 : decode cL_law_ 2753 = .ok (.aload_n 0, 1) := by decide +kernel
theorem dL_law__2754 : decode cL_law_ 2754 = .ok (.iload 4, 2) := by decide +kernel
theorem dL_law__2756 : decode cL_law_ 2756 = .ok (.iconst 2, 1) := by decide +kernel
theorem dL_law__2757 : decode cL_law_ 2757 = .ok (.iadd, 1) := by decide +kernel
theorem dL_law__2758 : decode cL_law_ 2758 = .ok (.iaload, 1) := by decide +kernel
theorem dL_law__2759 : decode cL_law_ 2759 = .ok (.ifCond .eq 7, 3) := by decide +kernel
theorem dL_law__2762 : decode cL_law_ 2762 = .ok (.iconst 1, 1) := by decide +kernel
theorem dL_law__2763 : decode cL_law_ 2763 = .ok (.goto 4, 3) := by decide +kernel
theorem dL_law__2766 : decode cL_law_ 2766 = .ok (.iconst 0, 1) := by decide +kernel
theorem dL_law__2767 : decode cL_law_ 2767 = .ok (.aload_n 3, 1) := by decide +kernel
theorem dL_law__2768 : decode cL_law_ 2768 = .ok (.invokestatic 298, 3) := by decide +kernel
theorem dL_law__2771 : decode cL_law_ 2771 = .ok (.istore 5, 2) := by decide +kernel
theorem dL_law__2773 : decode cL_law_ 2773 = .ok (.aload_n 2, 1) := by decide +kernel
theorem dL_law__2774 : decode cL_law_ 2774 = .ok (.aload_n 0, 1) := by decide +kernel
theorem dL_law__2775 : decode cL_law_ 2775 = .ok (.iload 4, 2) := by decide +kernel
theorem dL_law__2777 : decode cL_law_ 2777 = .ok (.iconst 1, 1) := by decide +kernel
theorem dL_law__2778 : decode cL_law_ 2778 = .ok (.iadd, 1) := by decide +kernel
theorem dL_law__2779 : decode cL_law_ 2779 = .ok (.iaload, 1) := by decide +kernel
theorem dL_law__2780 : decode cL_law_ 2780 = .ok (.aload_n 0, 1) := by decide +kernel
theorem dL_law__2781 : decode cL_law_ 2781 = .ok (.iload 4, 2) := by decide +kernel
theorem dL_law__2783 : decode cL_law_ 2783 = .ok (.iconst 2, 1) := by decide +kernel
theorem dL_law__2784 : decode cL_law_ 2784 = .ok (.iadd, 1) := by decide +kernel
theorem dL_law__2785 : decode cL_law_ 2785 = .ok (.iaload, 1) := by decide +kernel
theorem dL_law__2786 : decode cL_law_ 2786 = .ok (.ifCond .eq 7, 3) := by decide +kernel
theorem dL_law__2789 : decode cL_law_ 2789 = .ok (.iconst 1, 1) := by decide +kernel
theorem dL_law__2790 : decode cL_law_ 2790 = .ok (.goto 4, 3) := by decide +kernel
theorem dL_law__2793 : decode cL_law_ 2793 = .ok (.iconst 0, 1) := by decide +kernel
theorem dL_law__2794 : decode cL_law_ 2794 = .ok (.invokevirtual 300, 3) := by decide +kernel
theorem dL_law__2797 : decode cL_law_ 2797 = .ok (.istore 6, 2) := by decide +kernel
theorem dL_law__2799 : decode cL_law_ 2799 = .ok (.aload_n 2, 1) := by decide +kernel
theorem dL_law__2800 : decode cL_law_ 2800 = .ok (.invokevirtual 163, 3) := by decide +kernel
theorem dL_law__2803 : decode cL_law_ 2803 = .ok (.iload 5, 2) := by decide +kernel
theorem dL_law__2805 : decode cL_law_ 2805 = .ok (.if_icmp .eq 5, 3) := by decide +kernel
theorem dL_law__2808 : decode cL_law_ 2808 = .ok (.iconst 0, 1) := by decide +kernel
theorem dL_law__2809 : decode cL_law_ 2809 = .ok (.ireturn, 1) := by decide +kernel
theorem dL_law__2810 : decode cL_law_ 2810 = .ok (.iload 5, 2) := by decide +kernel
theorem dL_law__2812 : decode cL_law_ 2812 = .ok (.ifCond .ne 15, 3) := by decide +kernel
theorem dL_law__2815 : decode cL_law_ 2815 = .ok (.aload_n 3, 1) := by decide +kernel
theorem dL_law__2816 : decode cL_law_ 2816 = .ok (.iconst 0, 1) := by decide +kernel
theorem dL_law__2817 : decode cL_law_ 2817 = .ok (.laload, 1) := by decide +kernel
theorem dL_law__2818 : decode cL_law_ 2818 = .ok (.iload 6, 2) := by decide +kernel
theorem dL_law__2820 : decode cL_law_ 2820 = .ok (.i2l, 1) := by decide +kernel
theorem dL_law__2821 : decode cL_law_ 2821 = .ok (.lcmp, 1) := by decide +kernel
theorem dL_law__2822 : decode cL_law_ 2822 = .ok (.ifCond .eq 5, 3) := by decide +kernel
theorem dL_law__2825 : decode cL_law_ 2825 = .ok (.iconst 0, 1) := by decide +kernel
theorem dL_law__2826 : decode cL_law_ 2826 = .ok (.ireturn, 1) := by decide +kernel
theorem dL_law__2827 : decode cL_law_ 2827 = .ok (.goto 242, 3) := by decide +kernel
theorem dL_law__2830 : decode cL_law_ 2830 = .ok (.aload_n 1, 1) := by decide +kernel
theorem dL_law__2831 : decode cL_law_ 2831 = .ok (.aload_n 0, 1) := by decide +kernel
theorem dL_law__2832 : decode cL_law_ 2832 = .ok (.iload 4, 2) := by decide +kernel
theorem dL_law__2834 : decode cL_law_ 2834 = .ok (.iconst 1, 1) := by decide +kernel
theorem dL_law__2835 : decode cL_law_ 2835 = .ok (.iadd, 1) := by decide +kernel
theorem dL_law__2836 : decode cL_law_ 2836 = .ok (.iaload, 1) := by decide +kernel
theorem dL_law__2837 : decode cL_law_ 2837 = .ok (.aload_n 0, 1) := by decide +kernel
theorem dL_law__2838 : decode cL_law_ 2838 = .ok (.iload 4, 2) := by decide +kernel
theorem dL_law__2840 : decode cL_law_ 2840 = .ok (.iconst 2, 1) := by decide +kernel
theorem dL_law__2841 : decode cL_law_ 2841 = .ok (.iadd, 1) := by decide +kernel
theorem dL_law__2842 : decode cL_law_ 2842 = .ok (.iaload, 1) := by decide +kernel
theorem dL_law__2843 : decode cL_law_ 2843 = .ok (.ifCond .eq 7, 3) := by decide +kernel
theorem dL_law__2846 : decode cL_law_ 2846 = .ok (.iconst 1, 1) := by decide +kernel
theorem dL_law__2847 : decode cL_law_ 2847 = .ok (.goto 4, 3) := by decide +kernel
theorem dL_law__2850 : decode cL_law_ 2850 = .ok (.iconst 0, 1) := by decide +kernel
theorem dL_law__2851 : decode cL_law_ 2851 = .ok (.aload_n 3, 1) := by decide +kernel
theorem dL_law__2852 : decode cL_law_ 2852 = .ok (.invokestatic 301, 3) := by decide +kernel
theorem dL_law__2855 : decode cL_law_ 2855 = .ok (.istore 5, 2) := by decide +kernel
theorem dL_law__2857 : decode cL_law_ 2857 = .ok (.aload_n 2, 1) := by decide +kernel
theorem dL_law__2858 : decode cL_law_ 2858 = .ok (.aload_n 0, 1) := by decide +kernel
theorem dL_law__2859 : decode cL_law_ 2859 = .ok (.iload 4, 2) := by decide +kernel
theorem dL_law__2861 : decode cL_law_ 2861 = .ok (.iconst 1, 1) := by decide +kernel
theorem dL_law__2862 : decode cL_law_ 2862 = .ok (.iadd, 1) := by decide +kernel
theorem dL_law__2863 : decode cL_law_ 2863 = .ok (.iaload, 1) := by decide +kernel
theorem dL_law__2864 : decode cL_law_ 2864 = .ok (.aload_n 0, 1) := by decide +kernel
theorem dL_law__2865 : decode cL_law_ 2865 = .ok (.iload 4, 2) := by decide +kernel
theorem dL_law__2867 : decode cL_law_ 2867 = .ok (.iconst 2, 1) := by decide +kernel
theorem dL_law__2868 : decode cL_law_ 2868 = .ok (.iadd, 1) := by decide +kernel
theorem dL_law__2869 : decode cL_law_ 2869 = .ok (.iaload, 1) := by decide +kernel
theorem dL_law__2870 : decode cL_law_ 2870 = .ok (.ifCond .eq 7, 3) := by decide +kernel
theorem dL_law__2873 : decode cL_law_ 2873 = .ok (.iconst 1, 1) := by decide +kernel
theorem dL_law__2874 : decode cL_law_ 2874 = .ok (.goto 4, 3) := by decide +kernel
theorem dL_law__2877 : decode cL_law_ 2877 = .ok (.iconst 0, 1) := by decide +kernel
theorem dL_law__2878 : decode cL_law_ 2878 = .ok (.invokevirtual 303, 3) := by decide +kernel
theorem dL_law__2881 : decode cL_law_ 2881 = .ok (.istore 6, 2) := by decide +kernel
theorem dL_law__2883 : decode cL_law_ 2883 = .ok (.aload_n 2, 1) := by decide +kernel
theorem dL_law__2884 : decode cL_law_ 2884 = .ok (.invokevirtual 163, 3) := by decide +kernel
theorem dL_law__2887 : decode cL_law_ 2887 = .ok (.iload 5, 2) := by decide +kernel
theorem dL_law__2889 : decode cL_law_ 2889 = .ok (.if_icmp .eq 5, 3) := by decide +kernel
theorem dL_law__2892 : decode cL_law_ 2892 = .ok (.iconst 0, 1) := by decide +kernel
theorem dL_law__2893 : decode cL_law_ 2893 = .ok (.ireturn, 1) := by decide +kernel
theorem dL_law__2894 : decode cL_law_ 2894 = .ok (.iload 5, 2) := by decide +kernel
theorem dL_law__2896 : decode cL_law_ 2896 = .ok (.ifCond .ne 15, 3) := by decide +kernel
theorem dL_law__2899 : decode cL_law_ 2899 = .ok (.aload_n 3, 1) := by decide +kernel
theorem dL_law__2900 : decode cL_law_ 2900 = .ok (.iconst 0, 1) := by decide +kernel
theorem dL_law__2901 : decode cL_law_ 2901 = .ok (.laload, 1) := by decide +kernel
theorem dL_law__2902 : decode cL_law_ 2902 = .ok (.iload 6, 2) := by decide +kernel
theorem dL_law__2904 : decode cL_law_ 2904 = .ok (.i2l, 1) := by decide +kernel
theorem dL_law__2905 : decode cL_law_ 2905 = .ok (.lcmp, 1) := by decide +kernel
theorem dL_law__2906 : decode cL_law_ 2906 = .ok (.ifCond .eq 5, 3) := by decide +kernel
theorem dL_law__2909 : decode cL_law_ 2909 = .ok (.iconst 0, 1) := by decide +kernel
theorem dL_law__2910 : decode cL_law_ 2910 = .ok (.ireturn, 1) := by decide +kernel
theorem dL_law__2911 : decode cL_law_ 2911 = .ok (.goto 158, 3) := by decide +kernel
theorem dL_law__2914 : decode cL_law_ 2914 = .ok (.aload_n 1, 1) := by decide +kernel
theorem dL_law__2915 : decode cL_law_ 2915 = .ok (.aload_n 0, 1) := by decide +kernel
theorem dL_law__2916 : decode cL_law_ 2916 = .ok (.iload 4, 2) := by decide +kernel
theorem dL_law__2918 : decode cL_law_ 2918 = .ok (.iconst 1, 1) := by decide +kernel
theorem dL_law__2919 : decode cL_law_ 2919 = .ok (.iadd, 1) := by decide +kernel
theorem dL_law__2920 : decode cL_law_ 2920 = .ok (.iaload, 1) := by decide +kernel
theorem dL_law__2921 : decode cL_law_ 2921 = .ok (.aload_n 0, 1) := by decide +kernel
theorem dL_law__2922 : decode cL_law_ 2922 = .ok (.iload 4, 2) := by decide +kernel
theorem dL_law__2924 : decode cL_law_ 2924 = .ok (.iconst 2, 1) := by decide +kernel
theorem dL_law__2925 : decode cL_law_ 2925 = .ok (.iadd, 1) := by decide +kernel
theorem dL_law__2926 : decode cL_law_ 2926 = .ok (.iaload, 1) := by decide +kernel
theorem dL_law__2927 : decode cL_law_ 2927 = .ok (.aload_n 3, 1) := by decide +kernel
theorem dL_law__2928 : decode cL_law_ 2928 = .ok (.invokestatic 304, 3) := by decide +kernel
theorem dL_law__2931 : decode cL_law_ 2931 = .ok (.istore 5, 2) := by decide +kernel
theorem dL_law__2933 : decode cL_law_ 2933 = .ok (.aload_n 2, 1) := by decide +kernel
theorem dL_law__2934 : decode cL_law_ 2934 = .ok (.aload_n 0, 1) := by decide +kernel
theorem dL_law__2935 : decode cL_law_ 2935 = .ok (.iload 4, 2) := by decide +kernel
theorem dL_law__2937 : decode cL_law_ 2937 = .ok (.iconst 1, 1) := by decide +kernel
theorem dL_law__2938 : decode cL_law_ 2938 = .ok (.iadd, 1) := by decide +kernel
theorem dL_law__2939 : decode cL_law_ 2939 = .ok (.iaload, 1) := by decide +kernel
theorem dL_law__2940 : decode cL_law_ 2940 = .ok (.aload_n 0, 1) := by decide +kernel
theorem dL_law__2941 : decode cL_law_ 2941 = .ok (.iload 4, 2) := by decide +kernel
theorem dL_law__2943 : decode cL_law_ 2943 = .ok (.iconst 2, 1) := by decide +kernel
theorem dL_law__2944 : decode cL_law_ 2944 = .ok (.iadd, 1) := by decide +kernel
theorem dL_law__2945 : decode cL_law_ 2945 = .ok (.iaload, 1) := by decide +kernel
theorem dL_law__2946 : decode cL_law_ 2946 = .ok (.invokevirtual 306, 3) := by decide +kernel
theorem dL_law__2949 : decode cL_law_ 2949 = .ok (.istore 6, 2) := by decide +kernel
theorem dL_law__2951 : decode cL_law_ 2951 = .ok (.aload_n 2, 1) := by decide +kernel
theorem dL_law__2952 : decode cL_law_ 2952 = .ok (.invokevirtual 163, 3) := by decide +kernel
theorem dL_law__2955 : decode cL_law_ 2955 = .ok (.iload 5, 2) := by decide +kernel
theorem dL_law__2957 : decode cL_law_ 2957 = .ok (.if_icmp .eq 5, 3) := by decide +kernel
theorem dL_law__2960 : decode cL_law_ 2960 = .ok (.iconst 0, 1) := by decide +kernel
theorem dL_law__2961 : decode cL_law_ 2961 = .ok (.ireturn, 1) := by decide +kernel
theorem dL_law__2962 : decode cL_law_ 2962 = .ok (.iload 5, 2) := by decide +kernel
theorem dL_law__2964 : decode cL_law_ 2964 = .ok (.ifCond .ne 15, 3) := by decide +kernel
theorem dL_law__2967 : decode cL_law_ 2967 = .ok (.aload_n 3, 1) := by decide +kernel
theorem dL_law__2968 : decode cL_law_ 2968 = .ok (.iconst 0, 1) := by decide +kernel
theorem dL_law__2969 : decode cL_law_ 2969 = .ok (.laload, 1) := by decide +kernel
theorem dL_law__2970 : decode cL_law_ 2970 = .ok (.iload 6, 2) := by decide +kernel
theorem dL_law__2972 : decode cL_law_ 2972 = .ok (.i2l, 1) := by decide +kernel
theorem dL_law__2973 : decode cL_law_ 2973 = .ok (.lcmp, 1) := by decide +kernel
theorem dL_law__2974 : decode cL_law_ 2974 = .ok (.ifCond .eq 5, 3) := by decide +kernel
theorem dL_law__2977 : decode cL_law_ 2977 = .ok (.iconst 0, 1) := by decide +kernel
theorem dL_law__2978 : decode cL_law_ 2978 = .ok (.ireturn, 1) := by decide +kernel
theorem dL_law__2979 : decode cL_law_ 2979 = .ok (.goto 90, 3) := by decide +kernel
theorem dL_law__2982 : decode cL_law_ 2982 = .ok (.aload_n 1, 1) := by decide +kernel
theorem dL_law__2983 : decode cL_law_ 2983 = .ok (.aload_n 0, 1) := by decide +kernel
theorem dL_law__2984 : decode cL_law_ 2984 = .ok (.iload 4, 2) := by decide +kernel
theorem dL_law__2986 : decode cL_law_ 2986 = .ok (.iconst 1, 1) := by decide +kernel
theorem dL_law__2987 : decode cL_law_ 2987 = .ok (.iadd, 1) := by decide +kernel
theorem dL_law__2988 : decode cL_law_ 2988 = .ok (.iaload, 1) := by decide +kernel
theorem dL_law__2989 : decode cL_law_ 2989 = .ok (.invokevirtual 307, 3) := by decide +kernel
theorem dL_law__2992 : decode cL_law_ 2992 = .ok (.aload_n 2, 1) := by decide +kernel
theorem dL_law__2993 : decode cL_law_ 2993 = .ok (.aload_n 0, 1) := by decide +kernel
theorem dL_law__2994 : decode cL_law_ 2994 = .ok (.iload 4, 2) := by decide +kernel
theorem dL_law__2996 : decode cL_law_ 2996 = .ok (.iconst 1, 1) := by decide +kernel
theorem dL_law__2997 : decode cL_law_ 2997 = .ok (.iadd, 1) := by decide +kernel
theorem dL_law__2998 : decode cL_law_ 2998 = .ok (.iaload, 1) := by decide +kernel
theorem dL_law__2999 : decode cL_law_ 2999 = .ok (.invokevirtual 310, 3) := by decide +kernel
theorem dL_law__3002 : decode cL_law_ 3002 = .ok (.if_icmp .eq 67, 3) := by decide +kernel
theorem dL_law__3005 : decode cL_law_ 3005 = .ok (.iconst 0, 1) := by decide +kernel
theorem dL_law__3006 : decode cL_law_ 3006 = .ok (.ireturn, 1) := by decide +kernel
theorem dL_law__3007 : decode cL_law_ 3007 = .ok (.aload_n 1, 1) := by decide +kernel
theorem dL_law__3008 : decode cL_law_ 3008 = .ok (.invokevirtual 311, 3) := by decide +kernel
theorem dL_law__3011 : decode cL_law_ 3011 = .ok (.aload_n 2, 1) := by decide +kernel
theorem dL_law__3012 : decode cL_law_ 3012 = .ok (.invokevirtual 315, 3) := by decide +kernel
theorem dL_law__3015 : decode cL_law_ 3015 = .ok (.if_icmp .eq 54, 3) := by decide +kernel
theorem dL_law__3018 : decode cL_law_ 3018 = .ok (.iconst 0, 1) := by decide +kernel
theorem dL_law__3019 : decode cL_law_ 3019 = .ok (.ireturn, 1) := by decide +kernel
theorem dL_law__3020 : decode cL_law_ 3020 = .ok (.aload_n 1, 1) := by decide +kernel
theorem dL_law__3021 : decode cL_law_ 3021 = .ok (.invokevirtual 316, 3) := by decide +kernel
theorem dL_law__3024 : decode cL_law_ 3024 = .ok (.aload_n 2, 1) := by decide +kernel
theorem dL_law__3025 : decode cL_law_ 3025 = .ok (.invokevirtual 319, 3) := by decide +kernel
theorem dL_law__3028 : decode cL_law_ 3028 = .ok (.goto 41, 3) := by decide +kernel
theorem dL_law__3031 : decode cL_law_ 3031 = .ok (.aload_n 1, 1) := by decide +kernel
theorem dL_law__3032 : decode cL_law_ 3032 = .ok (.invokevirtual 320, 3) := by decide +kernel
theorem dL_law__3035 : decode cL_law_ 3035 = .ok (.aload_n 2, 1) := by decide +kernel
theorem dL_law__3036 : decode cL_law_ 3036 = .ok (.invokevirtual 323, 3) := by decide +kernel
theorem dL_law__3039 : decode cL_law_ 3039 = .ok (.if_icmp .eq 30, 3) := by decide +kernel
theorem dL_law__3042 : decode cL_law_ 3042 = .ok (.iconst 0, 1) := by decide +kernel
theorem dL_law__3043 : decode cL_law_ 3043 = .ok (.ireturn, 1) := by decide +kernel
theorem dL_law__3044 : decode cL_law_ 3044 = .ok (.aload_n 1, 1) := by decide +kernel
theorem dL_law__3045 : decode cL_law_ 3045 = .ok (.aload_n 0, 1) := by decide +kernel
theorem dL_law__3046 : decode cL_law_ 3046 = .ok (.iload 4, 2) := by decide +kernel
theorem dL_law__3048 : decode cL_law_ 3048 = .ok (.iconst 1, 1) := by decide +kernel
theorem dL_law__3049 : decode cL_law_ 3049 = .ok (.iadd, 1) := by decide +kernel
theorem dL_law__3050 : decode cL_law_ 3050 = .ok (.iaload, 1) := by decide +kernel
theorem dL_law__3051 : decode cL_law_ 3051 = .ok (.invokevirtual 324, 3) := by decide +kernel
theorem dL_law__3054 : decode cL_law_ 3054 = .ok (.aload_n 2, 1) := by decide +kernel
theorem dL_law__3055 : decode cL_law_ 3055 = .ok (.aload_n 0, 1) := by decide +kernel
theorem dL_law__3056 : decode cL_law_ 3056 = .ok (.iload 4, 2) := by decide +kernel
theorem dL_law__3058 : decode cL_law_ 3058 = .ok (.iconst 1, 1) := by decide +kernel
theorem dL_law__3059 : decode cL_law_ 3059 = .ok (.iadd, 1) := by decide +kernel
theorem dL_law__3060 : decode cL_law_ 3060 = .ok (.iaload, 1) := by decide +kernel
theorem dL_law__3061 : decode cL_law_ 3061 = .ok (.invokevirtual 327, 3) := by decide +kernel
theorem dL_law__3064 : decode cL_law_ 3064 = .ok (.if_icmp .eq 5, 3) := by decide +kernel
theorem dL_law__3067 : decode cL_law_ 3067 = .ok (.iconst 0, 1) := by decide +kernel
theorem dL_law__3068 : decode cL_law_ 3068 = .ok (.ireturn, 1) := by decide +kernel
theorem dL_law__3069 : decode cL_law_ 3069 = .ok (.iinc 4 6, 3) := by decide +kernel
theorem dL_law__3072 : decode cL_law_ 3072 = .ok (.goto (-3049), 3) := by decide +kernel
theorem dL_law__3075 : decode cL_law_ 3075 = .ok (.iconst 1, 1) := by decide +kernel
theorem dL_law__3076 : decode cL_law_ 3076 = .ok (.ireturn, 1) := by decide +kernel
