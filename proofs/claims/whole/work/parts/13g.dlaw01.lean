/-! the law, decoded -/
theorem z_ld70 : decode code 236 = .ok (.aload_n 1, 1) := by decide +kernel
theorem z_ld71 : decode code 237 = .ok (.aload_n 0, 1) := by decide +kernel
theorem z_ld72 : decode code 238 = .ok (.iload_n 3, 1) := by decide +kernel
theorem z_ld73 : decode code 239 = .ok (.iconst 1, 1) := by decide +kernel
theorem z_ld74 : decode code 240 = .ok (.iadd, 1) := by decide +kernel
theorem z_ld75 : decode code 241 = .ok (.iaload, 1) := by decide +kernel
theorem z_ld76 : decode code 242 = .ok (.invokevirtual 31, 3) := by decide +kernel
theorem z_ld77 : decode code 245 = .ok (.aload_n 2, 1) := by decide +kernel
theorem z_ld78 : decode code 246 = .ok (.aload_n 0, 1) := by decide +kernel
theorem z_ld79 : decode code 247 = .ok (.iload_n 3, 1) := by decide +kernel
theorem z_ld80 : decode code 248 = .ok (.iconst 1, 1) := by decide +kernel
theorem z_ld81 : decode code 249 = .ok (.iadd, 1) := by decide +kernel
theorem z_ld82 : decode code 250 = .ok (.iaload, 1) := by decide +kernel
theorem z_ld83 : decode code 251 = .ok (.invokevirtual 34, 3) := by decide +kernel
theorem z_ld84 : decode code 254 = .ok (.if_icmp .eq 817, 3) := by decide +kernel
theorem z_ld85 : decode code 257 = .ok (.iconst 0, 1) := by decide +kernel
theorem z_ld86 : decode code 258 = .ok (.ireturn, 1) := by decide +kernel
theorem z_ld87 : decode code 259 = .ok (.aload_n 1, 1) := by decide +kernel
theorem z_ld88 : decode code 260 = .ok (.aload_n 0, 1) := by decide +kernel
theorem z_ld89 : decode code 261 = .ok (.iload_n 3, 1) := by decide +kernel
theorem z_ld90 : decode code 262 = .ok (.iconst 1, 1) := by decide +kernel
theorem z_ld91 : decode code 263 = .ok (.iadd, 1) := by decide +kernel
theorem z_ld92 : decode code 264 = .ok (.iaload, 1) := by decide +kernel
theorem z_ld93 : decode code 265 = .ok (.aload_n 0, 1) := by decide +kernel
theorem z_ld94 : decode code 266 = .ok (.iload_n 3, 1) := by decide +kernel
theorem z_ld95 : decode code 267 = .ok (.iconst 2, 1) := by decide +kernel
theorem z_ld96 : decode code 268 = .ok (.iadd, 1) := by decide +kernel
theorem z_ld97 : decode code 269 = .ok (.iaload, 1) := by decide +kernel
theorem z_ld98 : decode code 270 = .ok (.aload_n 0, 1) := by decide +kernel
theorem z_ld99 : decode code 271 = .ok (.iload_n 3, 1) := by decide +kernel
theorem z_ld100 : decode code 272 = .ok (.iconst 3, 1) := by decide +kernel
theorem z_ld101 : decode code 273 = .ok (.iadd, 1) := by decide +kernel
theorem z_ld102 : decode code 274 = .ok (.iaload, 1) := by decide +kernel
theorem z_ld103 : decode code 275 = .ok (.invokevirtual 35, 3) := by decide +kernel
theorem z_ld104 : decode code 278 = .ok (.aload_n 2, 1) := by decide +kernel
theorem z_ld105 : decode code 279 = .ok (.aload_n 0, 1) := by decide +kernel
theorem z_ld106 : decode code 280 = .ok (.iload_n 3, 1) := by decide +kernel
theorem z_ld107 : decode code 281 = .ok (.iconst 1, 1) := by decide +kernel
theorem z_ld108 : decode code 282 = .ok (.iadd, 1) := by decide +kernel
theorem z_ld109 : decode code 283 = .ok (.iaload, 1) := by decide +kernel
theorem z_ld110 : decode code 284 = .ok (.aload_n 0, 1) := by decide +kernel
theorem z_ld111 : decode code 285 = .ok (.iload_n 3, 1) := by decide +kernel
theorem z_ld112 : decode code 286 = .ok (.iconst 2, 1) := by decide +kernel
theorem z_ld113 : decode code 287 = .ok (.iadd, 1) := by decide +kernel
theorem z_ld114 : decode code 288 = .ok (.iaload, 1) := by decide +kernel
theorem z_ld115 : decode code 289 = .ok (.aload_n 0, 1) := by decide +kernel
theorem z_ld116 : decode code 290 = .ok (.iload_n 3, 1) := by decide +kernel
theorem z_ld117 : decode code 291 = .ok (.iconst 3, 1) := by decide +kernel
theorem z_ld118 : decode code 292 = .ok (.iadd, 1) := by decide +kernel
theorem z_ld119 : decode code 293 = .ok (.iaload, 1) := by decide +kernel
theorem z_ld120 : decode code 294 = .ok (.invokevirtual 39, 3) := by decide +kernel
theorem z_ld121 : decode code 297 = .ok (.if_icmp .eq 774, 3) := by decide +kernel
theorem z_ld122 : decode code 300 = .ok (.iconst 0, 1) := by decide +kernel
theorem z_ld123 : decode code 301 = .ok (.ireturn, 1) := by decide +kernel
theorem z_ld124 : decode code 302 = .ok (.aload_n 1, 1) := by decide +kernel
theorem z_ld125 : decode code 303 = .ok (.aload_n 0, 1) := by decide +kernel
theorem z_ld126 : decode code 304 = .ok (.iload_n 3, 1) := by decide +kernel
theorem z_ld127 : decode code 305 = .ok (.iconst 1, 1) := by decide +kernel
theorem z_ld128 : decode code 306 = .ok (.iadd, 1) := by decide +kernel
theorem z_ld129 : decode code 307 = .ok (.iaload, 1) := by decide +kernel
theorem z_ld130 : decode code 308 = .ok (.aload_n 0, 1) := by decide +kernel
theorem z_ld131 : decode code 309 = .ok (.iload_n 3, 1) := by decide +kernel
theorem z_ld132 : decode code 310 = .ok (.iconst 2, 1) := by decide +kernel
theorem z_ld133 : decode code 311 = .ok (.iadd, 1) := by decide +kernel
theorem z_ld134 : decode code 312 = .ok (.iaload, 1) := by decide +kernel
theorem z_ld135 : decode code 313 = .ok (.aload_n 0, 1) := by decide +kernel
theorem z_ld136 : decode code 314 = .ok (.iload_n 3, 1) := by decide +kernel
theorem z_ld137 : decode code 315 = .ok (.iconst 3, 1) := by decide +kernel
theorem z_ld138 : decode code 316 = .ok (.iadd, 1) := by decide +kernel
theorem z_ld139 : decode code 317 = .ok (.iaload, 1) := by decide +kernel
