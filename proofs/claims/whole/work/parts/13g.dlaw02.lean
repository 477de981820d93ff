/-! the law, decoded -/
theorem z_ld140 : decode code 318 = .ok (.invokevirtual 40, 3) := by decide +kernel
theorem z_ld141 : decode code 321 = .ok (.aload_n 2, 1) := by decide +kernel
theorem z_ld142 : decode code 322 = .ok (.aload_n 0, 1) := by decide +kernel
theorem z_ld143 : decode code 323 = .ok (.iload_n 3, 1) := by decide +kernel
theorem z_ld144 : decode code 324 = .ok (.iconst 1, 1) := by decide +kernel
theorem z_ld145 : decode code 325 = .ok (.iadd, 1) := by decide +kernel
theorem z_ld146 : decode code 326 = .ok (.iaload, 1) := by decide +kernel
theorem z_ld147 : decode code 327 = .ok (.aload_n 0, 1) := by decide +kernel
theorem z_ld148 : decode code 328 = .ok (.iload_n 3, 1) := by decide +kernel
theorem z_ld149 : decode code 329 = .ok (.iconst 2, 1) := by decide +kernel
theorem z_ld150 : decode code 330 = .ok (.iadd, 1) := by decide +kernel
theorem z_ld151 : decode code 331 = .ok (.iaload, 1) := by decide +kernel
theorem z_ld152 : decode code 332 = .ok (.aload_n 0, 1) := by decide +kernel
theorem z_ld153 : decode code 333 = .ok (.iload_n 3, 1) := by decide +kernel
theorem z_ld154 : decode code 334 = .ok (.iconst 3, 1) := by decide +kernel
theorem z_ld155 : decode code 335 = .ok (.iadd, 1) := by decide +kernel
theorem z_ld156 : decode code 336 = .ok (.iaload, 1) := by decide +kernel
theorem z_ld157 : decode code 337 = .ok (.invokevirtual 43, 3) := by decide +kernel
theorem z_ld158 : decode code 340 = .ok (.if_icmp .eq 731, 3) := by decide +kernel
theorem z_ld159 : decode code 343 = .ok (.iconst 0, 1) := by decide +kernel
theorem z_ld160 : decode code 344 = .ok (.ireturn, 1) := by decide +kernel
theorem z_ld161 : decode code 345 = .ok (.aload_n 1, 1) := by decide +kernel
theorem z_ld162 : decode code 346 = .ok (.aload_n 0, 1) := by decide +kernel
theorem z_ld163 : decode code 347 = .ok (.iload_n 3, 1) := by decide +kernel
theorem z_ld164 : decode code 348 = .ok (.iconst 1, 1) := by decide +kernel
theorem z_ld165 : decode code 349 = .ok (.iadd, 1) := by decide +kernel
theorem z_ld166 : decode code 350 = .ok (.iaload, 1) := by decide +kernel
theorem z_ld167 : decode code 351 = .ok (.aload_n 0, 1) := by decide +kernel
theorem z_ld168 : decode code 352 = .ok (.iload_n 3, 1) := by decide +kernel
theorem z_ld169 : decode code 353 = .ok (.iconst 2, 1) := by decide +kernel
theorem z_ld170 : decode code 354 = .ok (.iadd, 1) := by decide +kernel
theorem z_ld171 : decode code 355 = .ok (.iaload, 1) := by decide +kernel
theorem z_ld172 : decode code 356 = .ok (.invokevirtual 44, 3) := by decide +kernel
theorem z_ld173 : decode code 359 = .ok (.aload_n 2, 1) := by decide +kernel
theorem z_ld174 : decode code 360 = .ok (.aload_n 0, 1) := by decide +kernel
theorem z_ld175 : decode code 361 = .ok (.iload_n 3, 1) := by decide +kernel
theorem z_ld176 : decode code 362 = .ok (.iconst 1, 1) := by decide +kernel
theorem z_ld177 : decode code 363 = .ok (.iadd, 1) := by decide +kernel
theorem z_ld178 : decode code 364 = .ok (.iaload, 1) := by decide +kernel
theorem z_ld179 : decode code 365 = .ok (.aload_n 0, 1) := by decide +kernel
theorem z_ld180 : decode code 366 = .ok (.iload_n 3, 1) := by decide +kernel
theorem z_ld181 : decode code 367 = .ok (.iconst 2, 1) := by decide +kernel
theorem z_ld182 : decode code 368 = .ok (.iadd, 1) := by decide +kernel
theorem z_ld183 : decode code 369 = .ok (.iaload, 1) := by decide +kernel
theorem z_ld184 : decode code 370 = .ok (.invokevirtual 48, 3) := by decide +kernel
theorem z_ld185 : decode code 373 = .ok (.if_icmp .eq 698, 3) := by decide +kernel
theorem z_ld186 : decode code 376 = .ok (.iconst 0, 1) := by decide +kernel
theorem z_ld187 : decode code 377 = .ok (.ireturn, 1) := by decide +kernel
theorem z_ld188 : decode code 378 = .ok (.aload_n 1, 1) := by decide +kernel
theorem z_ld189 : decode code 379 = .ok (.aload_n 0, 1) := by decide +kernel
theorem z_ld190 : decode code 380 = .ok (.iload_n 3, 1) := by decide +kernel
theorem z_ld191 : decode code 381 = .ok (.iconst 1, 1) := by decide +kernel
theorem z_ld192 : decode code 382 = .ok (.iadd, 1) := by decide +kernel
theorem z_ld193 : decode code 383 = .ok (.iaload, 1) := by decide +kernel
theorem z_ld194 : decode code 384 = .ok (.aload_n 0, 1) := by decide +kernel
theorem z_ld195 : decode code 385 = .ok (.iload_n 3, 1) := by decide +kernel
theorem z_ld196 : decode code 386 = .ok (.iconst 2, 1) := by decide +kernel
theorem z_ld197 : decode code 387 = .ok (.iadd, 1) := by decide +kernel
theorem z_ld198 : decode code 388 = .ok (.iaload, 1) := by decide +kernel
theorem z_ld199 : decode code 389 = .ok (.invokevirtual 49, 3) := by decide +kernel
theorem z_ld200 : decode code 392 = .ok (.aload_n 2, 1) := by decide +kernel
theorem z_ld201 : decode code 393 = .ok (.aload_n 0, 1) := by decide +kernel
theorem z_ld202 : decode code 394 = .ok (.iload_n 3, 1) := by decide +kernel
theorem z_ld203 : decode code 395 = .ok (.iconst 1, 1) := by decide +kernel
theorem z_ld204 : decode code 396 = .ok (.iadd, 1) := by decide +kernel
theorem z_ld205 : decode code 397 = .ok (.iaload, 1) := by decide +kernel
theorem z_ld206 : decode code 398 = .ok (.aload_n 0, 1) := by decide +kernel
theorem z_ld207 : decode code 399 = .ok (.iload_n 3, 1) := by decide +kernel
theorem z_ld208 : decode code 400 = .ok (.iconst 2, 1) := by decide +kernel
theorem z_ld209 : decode code 401 = .ok (.iadd, 1) := by decide +kernel
