/-! the law, decoded -/
theorem z_ld210 : decode code 402 = .ok (.iaload, 1) := by decide +kernel
theorem z_ld211 : decode code 403 = .ok (.invokevirtual 52, 3) := by decide +kernel
theorem z_ld212 : decode code 406 = .ok (.if_icmp .eq 665, 3) := by decide +kernel
theorem z_ld213 : decode code 409 = .ok (.iconst 0, 1) := by decide +kernel
theorem z_ld214 : decode code 410 = .ok (.ireturn, 1) := by decide +kernel
theorem z_ld215 : decode code 411 = .ok (.aload_n 1, 1) := by decide +kernel
theorem z_ld216 : decode code 412 = .ok (.aload_n 0, 1) := by decide +kernel
theorem z_ld217 : decode code 413 = .ok (.iload_n 3, 1) := by decide +kernel
theorem z_ld218 : decode code 414 = .ok (.iconst 1, 1) := by decide +kernel
theorem z_ld219 : decode code 415 = .ok (.iadd, 1) := by decide +kernel
theorem z_ld220 : decode code 416 = .ok (.iaload, 1) := by decide +kernel
theorem z_ld221 : decode code 417 = .ok (.aload_n 0, 1) := by decide +kernel
theorem z_ld222 : decode code 418 = .ok (.iload_n 3, 1) := by decide +kernel
theorem z_ld223 : decode code 419 = .ok (.iconst 2, 1) := by decide +kernel
theorem z_ld224 : decode code 420 = .ok (.iadd, 1) := by decide +kernel
theorem z_ld225 : decode code 421 = .ok (.iaload, 1) := by decide +kernel
theorem z_ld226 : decode code 422 = .ok (.invokevirtual 53, 3) := by decide +kernel
theorem z_ld227 : decode code 425 = .ok (.aload_n 2, 1) := by decide +kernel
theorem z_ld228 : decode code 426 = .ok (.aload_n 0, 1) := by decide +kernel
theorem z_ld229 : decode code 427 = .ok (.iload_n 3, 1) := by decide +kernel
theorem z_ld230 : decode code 428 = .ok (.iconst 1, 1) := by decide +kernel
theorem z_ld231 : decode code 429 = .ok (.iadd, 1) := by decide +kernel
theorem z_ld232 : decode code 430 = .ok (.iaload, 1) := by decide +kernel
theorem z_ld233 : decode code 431 = .ok (.aload_n 0, 1) := by decide +kernel
theorem z_ld234 : decode code 432 = .ok (.iload_n 3, 1) := by decide +kernel
theorem z_ld235 : decode code 433 = .ok (.iconst 2, 1) := by decide +kernel
theorem z_ld236 : decode code 434 = .ok (.iadd, 1) := by decide +kernel
theorem z_ld237 : decode code 435 = .ok (.iaload, 1) := by decide +kernel
theorem z_ld238 : decode code 436 = .ok (.invokevirtual 56, 3) := by decide +kernel
theorem z_ld239 : decode code 439 = .ok (.if_icmp .eq 632, 3) := by decide +kernel
theorem z_ld240 : decode code 442 = .ok (.iconst 0, 1) := by decide +kernel
theorem z_ld241 : decode code 443 = .ok (.ireturn, 1) := by decide +kernel
theorem z_ld242 : decode code 444 = .ok (.aload_n 1, 1) := by decide +kernel
theorem z_ld243 : decode code 445 = .ok (.aload_n 0, 1) := by decide +kernel
theorem z_ld244 : decode code 446 = .ok (.iload_n 3, 1) := by decide +kernel
theorem z_ld245 : decode code 447 = .ok (.iconst 1, 1) := by decide +kernel
theorem z_ld246 : decode code 448 = .ok (.iadd, 1) := by decide +kernel
theorem z_ld247 : decode code 449 = .ok (.iaload, 1) := by decide +kernel
theorem z_ld248 : decode code 450 = .ok (.aload_n 0, 1) := by decide +kernel
theorem z_ld249 : decode code 451 = .ok (.iload_n 3, 1) := by decide +kernel
theorem z_ld250 : decode code 452 = .ok (.iconst 2, 1) := by decide +kernel
theorem z_ld251 : decode code 453 = .ok (.iadd, 1) := by decide +kernel
theorem z_ld252 : decode code 454 = .ok (.iaload, 1) := by decide +kernel
theorem z_ld253 : decode code 455 = .ok (.invokevirtual 57, 3) := by decide +kernel
theorem z_ld254 : decode code 458 = .ok (.aload_n 2, 1) := by decide +kernel
theorem z_ld255 : decode code 459 = .ok (.aload_n 0, 1) := by decide +kernel
theorem z_ld256 : decode code 460 = .ok (.iload_n 3, 1) := by decide +kernel
theorem z_ld257 : decode code 461 = .ok (.iconst 1, 1) := by decide +kernel
theorem z_ld258 : decode code 462 = .ok (.iadd, 1) := by decide +kernel
theorem z_ld259 : decode code 463 = .ok (.iaload, 1) := by decide +kernel
theorem z_ld260 : decode code 464 = .ok (.aload_n 0, 1) := by decide +kernel
theorem z_ld261 : decode code 465 = .ok (.iload_n 3, 1) := by decide +kernel
theorem z_ld262 : decode code 466 = .ok (.iconst 2, 1) := by decide +kernel
theorem z_ld263 : decode code 467 = .ok (.iadd, 1) := by decide +kernel
theorem z_ld264 : decode code 468 = .ok (.iaload, 1) := by decide +kernel
theorem z_ld265 : decode code 469 = .ok (.invokevirtual 60, 3) := by decide +kernel
theorem z_ld266 : decode code 472 = .ok (.if_icmp .eq 599, 3) := by decide +kernel
theorem z_ld267 : decode code 475 = .ok (.iconst 0, 1) := by decide +kernel
theorem z_ld268 : decode code 476 = .ok (.ireturn, 1) := by decide +kernel
theorem z_ld269 : decode code 477 = .ok (.aload_n 1, 1) := by decide +kernel
theorem z_ld270 : decode code 478 = .ok (.aload_n 0, 1) := by decide +kernel
theorem z_ld271 : decode code 479 = .ok (.iload_n 3, 1) := by decide +kernel
theorem z_ld272 : decode code 480 = .ok (.iconst 1, 1) := by decide +kernel
theorem z_ld273 : decode code 481 = .ok (.iadd, 1) := by decide +kernel
theorem z_ld274 : decode code 482 = .ok (.iaload, 1) := by decide +kernel
theorem z_ld275 : decode code 483 = .ok (.aload_n 0, 1) := by decide +kernel
theorem z_ld276 : decode code 484 = .ok (.iload_n 3, 1) := by decide +kernel
theorem z_ld277 : decode code 485 = .ok (.iconst 2, 1) := by decide +kernel
theorem z_ld278 : decode code 486 = .ok (.iadd, 1) := by decide +kernel
theorem z_ld279 : decode code 487 = .ok (.iaload, 1) := by decide +kernel
