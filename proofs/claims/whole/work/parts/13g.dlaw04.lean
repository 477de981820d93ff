/-! the law, decoded -/
theorem z_ld280 : decode code 488 = .ok (.invokevirtual 61, 3) := by decide +kernel
theorem z_ld281 : decode code 491 = .ok (.aload_n 2, 1) := by decide +kernel
theorem z_ld282 : decode code 492 = .ok (.aload_n 0, 1) := by decide +kernel
theorem z_ld283 : decode code 493 = .ok (.iload_n 3, 1) := by decide +kernel
theorem z_ld284 : decode code 494 = .ok (.iconst 1, 1) := by decide +kernel
theorem z_ld285 : decode code 495 = .ok (.iadd, 1) := by decide +kernel
theorem z_ld286 : decode code 496 = .ok (.iaload, 1) := by decide +kernel
theorem z_ld287 : decode code 497 = .ok (.aload_n 0, 1) := by decide +kernel
theorem z_ld288 : decode code 498 = .ok (.iload_n 3, 1) := by decide +kernel
theorem z_ld289 : decode code 499 = .ok (.iconst 2, 1) := by decide +kernel
theorem z_ld290 : decode code 500 = .ok (.iadd, 1) := by decide +kernel
theorem z_ld291 : decode code 501 = .ok (.iaload, 1) := by decide +kernel
theorem z_ld292 : decode code 502 = .ok (.invokevirtual 64, 3) := by decide +kernel
theorem z_ld293 : decode code 505 = .ok (.if_icmp .eq 566, 3) := by decide +kernel
theorem z_ld294 : decode code 508 = .ok (.iconst 0, 1) := by decide +kernel
theorem z_ld295 : decode code 509 = .ok (.ireturn, 1) := by decide +kernel
theorem z_ld296 : decode code 510 = .ok (.aload_n 1, 1) := by decide +kernel
theorem z_ld297 : decode code 511 = .ok (.aload_n 0, 1) := by decide +kernel
theorem z_ld298 : decode code 512 = .ok (.iload_n 3, 1) := by decide +kernel
theorem z_ld299 : decode code 513 = .ok (.iconst 1, 1) := by decide +kernel
theorem z_ld300 : decode code 514 = .ok (.iadd, 1) := by decide +kernel
theorem z_ld301 : decode code 515 = .ok (.iaload, 1) := by decide +kernel
theorem z_ld302 : decode code 516 = .ok (.invokevirtual 65, 3) := by decide +kernel
theorem z_ld303 : decode code 519 = .ok (.aload_n 2, 1) := by decide +kernel
theorem z_ld304 : decode code 520 = .ok (.aload_n 0, 1) := by decide +kernel
theorem z_ld305 : decode code 521 = .ok (.iload_n 3, 1) := by decide +kernel
theorem z_ld306 : decode code 522 = .ok (.iconst 1, 1) := by decide +kernel
theorem z_ld307 : decode code 523 = .ok (.iadd, 1) := by decide +kernel
theorem z_ld308 : decode code 524 = .ok (.iaload, 1) := by decide +kernel
theorem z_ld309 : decode code 525 = .ok (.invokevirtual 68, 3) := by decide +kernel
theorem z_ld310 : decode code 528 = .ok (.if_icmp .eq 543, 3) := by decide +kernel
theorem z_ld311 : decode code 531 = .ok (.iconst 0, 1) := by decide +kernel
theorem z_ld312 : decode code 532 = .ok (.ireturn, 1) := by decide +kernel
theorem z_ld313 : decode code 533 = .ok (.aload_n 1, 1) := by decide +kernel
theorem z_ld314 : decode code 534 = .ok (.aload_n 0, 1) := by decide +kernel
theorem z_ld315 : decode code 535 = .ok (.iload_n 3, 1) := by decide +kernel
theorem z_ld316 : decode code 536 = .ok (.iconst 1, 1) := by decide +kernel
theorem z_ld317 : decode code 537 = .ok (.iadd, 1) := by decide +kernel
theorem z_ld318 : decode code 538 = .ok (.iaload, 1) := by decide +kernel
theorem z_ld319 : decode code 539 = .ok (.aload_n 0, 1) := by decide +kernel
theorem z_ld320 : decode code 540 = .ok (.iload_n 3, 1) := by decide +kernel
theorem z_ld321 : decode code 541 = .ok (.iconst 2, 1) := by decide +kernel
theorem z_ld322 : decode code 542 = .ok (.iadd, 1) := by decide +kernel
theorem z_ld323 : decode code 543 = .ok (.iaload, 1) := by decide +kernel
theorem z_ld324 : decode code 544 = .ok (.aload_n 0, 1) := by decide +kernel
theorem z_ld325 : decode code 545 = .ok (.iload_n 3, 1) := by decide +kernel
theorem z_ld326 : decode code 546 = .ok (.iconst 3, 1) := by decide +kernel
theorem z_ld327 : decode code 547 = .ok (.iadd, 1) := by decide +kernel
theorem z_ld328 : decode code 548 = .ok (.iaload, 1) := by decide +kernel
theorem z_ld329 : decode code 549 = .ok (.aload_n 0, 1) := by decide +kernel
theorem z_ld330 : decode code 550 = .ok (.iload_n 3, 1) := by decide +kernel
theorem z_ld331 : decode code 551 = .ok (.iconst 4, 1) := by decide +kernel
theorem z_ld332 : decode code 552 = .ok (.iadd, 1) := by decide +kernel
theorem z_ld333 : decode code 553 = .ok (.iaload, 1) := by decide +kernel
theorem z_ld334 : decode code 554 = .ok (.invokevirtual 69, 3) := by decide +kernel
theorem z_ld335 : decode code 557 = .ok (.aload_n 2, 1) := by decide +kernel
theorem z_ld336 : decode code 558 = .ok (.aload_n 0, 1) := by decide +kernel
theorem z_ld337 : decode code 559 = .ok (.iload_n 3, 1) := by decide +kernel
theorem z_ld338 : decode code 560 = .ok (.iconst 1, 1) := by decide +kernel
theorem z_ld339 : decode code 561 = .ok (.iadd, 1) := by decide +kernel
theorem z_ld340 : decode code 562 = .ok (.iaload, 1) := by decide +kernel
theorem z_ld341 : decode code 563 = .ok (.aload_n 0, 1) := by decide +kernel
theorem z_ld342 : decode code 564 = .ok (.iload_n 3, 1) := by decide +kernel
theorem z_ld343 : decode code 565 = .ok (.iconst 2, 1) := by decide +kernel
theorem z_ld344 : decode code 566 = .ok (.iadd, 1) := by decide +kernel
theorem z_ld345 : decode code 567 = .ok (.iaload, 1) := by decide +kernel
theorem z_ld346 : decode code 568 = .ok (.aload_n 0, 1) := by decide +kernel
theorem z_ld347 : decode code 569 = .ok (.iload_n 3, 1) := by decide +kernel
theorem z_ld348 : decode code 570 = .ok (.iconst 3, 1) := by decide +kernel
theorem z_ld349 : decode code 571 = .ok (.iadd, 1) := by decide +kernel
