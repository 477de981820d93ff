/-! the law, decoded -/
theorem z_ld350 : decode code 572 = .ok (.iaload, 1) := by decide +kernel
theorem z_ld351 : decode code 573 = .ok (.aload_n 0, 1) := by decide +kernel
theorem z_ld352 : decode code 574 = .ok (.iload_n 3, 1) := by decide +kernel
theorem z_ld353 : decode code 575 = .ok (.iconst 4, 1) := by decide +kernel
theorem z_ld354 : decode code 576 = .ok (.iadd, 1) := by decide +kernel
theorem z_ld355 : decode code 577 = .ok (.iaload, 1) := by decide +kernel
theorem z_ld356 : decode code 578 = .ok (.invokevirtual 73, 3) := by decide +kernel
theorem z_ld357 : decode code 581 = .ok (.if_icmp .eq 490, 3) := by decide +kernel
theorem z_ld358 : decode code 584 = .ok (.iconst 0, 1) := by decide +kernel
theorem z_ld359 : decode code 585 = .ok (.ireturn, 1) := by decide +kernel
theorem z_ld360 : decode code 586 = .ok (.aload_n 1, 1) := by decide +kernel
theorem z_ld361 : decode code 587 = .ok (.aload_n 0, 1) := by decide +kernel
theorem z_ld362 : decode code 588 = .ok (.iload_n 3, 1) := by decide +kernel
theorem z_ld363 : decode code 589 = .ok (.iconst 1, 1) := by decide +kernel
theorem z_ld364 : decode code 590 = .ok (.iadd, 1) := by decide +kernel
theorem z_ld365 : decode code 591 = .ok (.iaload, 1) := by decide +kernel
theorem z_ld366 : decode code 592 = .ok (.aload_n 0, 1) := by decide +kernel
theorem z_ld367 : decode code 593 = .ok (.iload_n 3, 1) := by decide +kernel
theorem z_ld368 : decode code 594 = .ok (.iconst 2, 1) := by decide +kernel
theorem z_ld369 : decode code 595 = .ok (.iadd, 1) := by decide +kernel
theorem z_ld370 : decode code 596 = .ok (.iaload, 1) := by decide +kernel
theorem z_ld371 : decode code 597 = .ok (.aload_n 0, 1) := by decide +kernel
theorem z_ld372 : decode code 598 = .ok (.iload_n 3, 1) := by decide +kernel
theorem z_ld373 : decode code 599 = .ok (.iconst 3, 1) := by decide +kernel
theorem z_ld374 : decode code 600 = .ok (.iadd, 1) := by decide +kernel
theorem z_ld375 : decode code 601 = .ok (.iaload, 1) := by decide +kernel
theorem z_ld376 : decode code 602 = .ok (.aload_n 0, 1) := by decide +kernel
theorem z_ld377 : decode code 603 = .ok (.iload_n 3, 1) := by decide +kernel
theorem z_ld378 : decode code 604 = .ok (.iconst 4, 1) := by decide +kernel
theorem z_ld379 : decode code 605 = .ok (.iadd, 1) := by decide +kernel
theorem z_ld380 : decode code 606 = .ok (.iaload, 1) := by decide +kernel
theorem z_ld381 : decode code 607 = .ok (.invokevirtual 74, 3) := by decide +kernel
theorem z_ld382 : decode code 610 = .ok (.aload_n 2, 1) := by decide +kernel
theorem z_ld383 : decode code 611 = .ok (.aload_n 0, 1) := by decide +kernel
theorem z_ld384 : decode code 612 = .ok (.iload_n 3, 1) := by decide +kernel
theorem z_ld385 : decode code 613 = .ok (.iconst 1, 1) := by decide +kernel
theorem z_ld386 : decode code 614 = .ok (.iadd, 1) := by decide +kernel
theorem z_ld387 : decode code 615 = .ok (.iaload, 1) := by decide +kernel
theorem z_ld388 : decode code 616 = .ok (.aload_n 0, 1) := by decide +kernel
theorem z_ld389 : decode code 617 = .ok (.iload_n 3, 1) := by decide +kernel
theorem z_ld390 : decode code 618 = .ok (.iconst 2, 1) := by decide +kernel
theorem z_ld391 : decode code 619 = .ok (.iadd, 1) := by decide +kernel
theorem z_ld392 : decode code 620 = .ok (.iaload, 1) := by decide +kernel
theorem z_ld393 : decode code 621 = .ok (.aload_n 0, 1) := by decide +kernel
theorem z_ld394 : decode code 622 = .ok (.iload_n 3, 1) := by decide +kernel
theorem z_ld395 : decode code 623 = .ok (.iconst 3, 1) := by decide +kernel
theorem z_ld396 : decode code 624 = .ok (.iadd, 1) := by decide +kernel
theorem z_ld397 : decode code 625 = .ok (.iaload, 1) := by decide +kernel
theorem z_ld398 : decode code 626 = .ok (.aload_n 0, 1) := by decide +kernel
theorem z_ld399 : decode code 627 = .ok (.iload_n 3, 1) := by decide +kernel
theorem z_ld400 : decode code 628 = .ok (.iconst 4, 1) := by decide +kernel
theorem z_ld401 : decode code 629 = .ok (.iadd, 1) := by decide +kernel
theorem z_ld402 : decode code 630 = .ok (.iaload, 1) := by decide +kernel
theorem z_ld403 : decode code 631 = .ok (.invokevirtual 77, 3) := by decide +kernel
theorem z_ld404 : decode code 634 = .ok (.if_icmp .eq 437, 3) := by decide +kernel
theorem z_ld405 : decode code 637 = .ok (.iconst 0, 1) := by decide +kernel
theorem z_ld406 : decode code 638 = .ok (.ireturn, 1) := by decide +kernel
theorem z_ld407 : decode code 639 = .ok (.aload_n 1, 1) := by decide +kernel
theorem z_ld408 : decode code 640 = .ok (.aload_n 0, 1) := by decide +kernel
theorem z_ld409 : decode code 641 = .ok (.iload_n 3, 1) := by decide +kernel
theorem z_ld410 : decode code 642 = .ok (.iconst 1, 1) := by decide +kernel
theorem z_ld411 : decode code 643 = .ok (.iadd, 1) := by decide +kernel
theorem z_ld412 : decode code 644 = .ok (.iaload, 1) := by decide +kernel
theorem z_ld413 : decode code 645 = .ok (.aload_n 0, 1) := by decide +kernel
theorem z_ld414 : decode code 646 = .ok (.iload_n 3, 1) := by decide +kernel
theorem z_ld415 : decode code 647 = .ok (.iconst 2, 1) := by decide +kernel
theorem z_ld416 : decode code 648 = .ok (.iadd, 1) := by decide +kernel
theorem z_ld417 : decode code 649 = .ok (.iaload, 1) := by decide +kernel
theorem z_ld418 : decode code 650 = .ok (.aload_n 0, 1) := by decide +kernel
theorem z_ld419 : decode code 651 = .ok (.iload_n 3, 1) := by decide +kernel
