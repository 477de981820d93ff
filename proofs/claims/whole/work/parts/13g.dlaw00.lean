/-! the law, decoded -/
theorem z_ld0 : decode code 0 = .ok (.new 7, 3) := by decide +kernel
theorem z_ld1 : decode code 3 = .ok (.dup, 1) := by decide +kernel
theorem z_ld2 : decode code 4 = .ok (.invokespecial 9, 3) := by decide +kernel
theorem z_ld3 : decode code 7 = .ok (.astore_n 1, 1) := by decide +kernel
theorem z_ld4 : decode code 8 = .ok (.new 10, 3) := by decide +kernel
theorem z_ld5 : decode code 11 = .ok (.dup, 1) := by decide +kernel
theorem z_ld6 : decode code 12 = .ok (.invokespecial 12, 3) := by decide +kernel
theorem z_ld7 : decode code 15 = .ok (.astore_n 2, 1) := by decide +kernel
theorem z_ld8 : decode code 16 = .ok (.iconst 0, 1) := by decide +kernel
theorem z_ld9 : decode code 17 = .ok (.istore_n 3, 1) := by decide +kernel
theorem z_ld10 : decode code 18 = .ok (.iload_n 3, 1) := by decide +kernel
theorem z_ld11 : decode code 19 = .ok (.aload_n 0, 1) := by decide +kernel
theorem z_ld12 : decode code 20 = .ok (.arraylength, 1) := by decide +kernel
theorem z_ld13 : decode code 21 = .ok (.iconst 5, 1) := by decide +kernel
theorem z_ld14 : decode code 22 = .ok (.isub, 1) := by decide +kernel
theorem z_ld15 : decode code 23 = .ok (.if_icmp .gt 1054, 3) := by decide +kernel
theorem z_ld16 : decode code 26 = .ok (.aload_n 0, 1) := by decide +kernel
theorem z_ld17 : decode code 27 = .ok (.iload_n 3, 1) := by decide +kernel
theorem z_ld18 : decode code 28 = .ok (.iaload, 1) := by decide +kernel
theorem z_ld19 : decode code 29 = .ok (.bipush 31, 2) := by decide +kernel
theorem z_ld20 : decode code 31 = .ok (.iand, 1) := by decide +kernel
theorem z_ld21 : decode code 32 = .ok (.tableswitch 1039 0 28 #[132, 155, 178, 191, 204, 227, 270, 313, 346, 379, 412, 445, 478, 501, 554, 607, 650, 693, 706, 719, 762, 785, 818, 841, 864, 907, 950, 1003, 1016], 132) := by decide +kernel
theorem z_ld22 : decode code 164 = .ok (.aload_n 1, 1) := by decide +kernel
theorem z_ld23 : decode code 165 = .ok (.aload_n 0, 1) := by decide +kernel
theorem z_ld24 : decode code 166 = .ok (.iload_n 3, 1) := by decide +kernel
theorem z_ld25 : decode code 167 = .ok (.iconst 1, 1) := by decide +kernel
theorem z_ld26 : decode code 168 = .ok (.iadd, 1) := by decide +kernel
theorem z_ld27 : decode code 169 = .ok (.iaload, 1) := by decide +kernel
theorem z_ld28 : decode code 170 = .ok (.invokevirtual 13, 3) := by decide +kernel
theorem z_ld29 : decode code 173 = .ok (.aload_n 2, 1) := by decide +kernel
theorem z_ld30 : decode code 174 = .ok (.aload_n 0, 1) := by decide +kernel
theorem z_ld31 : decode code 175 = .ok (.iload_n 3, 1) := by decide +kernel
theorem z_ld32 : decode code 176 = .ok (.iconst 1, 1) := by decide +kernel
theorem z_ld33 : decode code 177 = .ok (.iadd, 1) := by decide +kernel
theorem z_ld34 : decode code 178 = .ok (.iaload, 1) := by decide +kernel
theorem z_ld35 : decode code 179 = .ok (.invokevirtual 17, 3) := by decide +kernel
theorem z_ld36 : decode code 182 = .ok (.if_icmp .eq 889, 3) := by decide +kernel
theorem z_ld37 : decode code 185 = .ok (.iconst 0, 1) := by decide +kernel
theorem z_ld38 : decode code 186 = .ok (.ireturn, 1) := by decide +kernel
theorem z_ld39 : decode code 187 = .ok (.aload_n 1, 1) := by decide +kernel
theorem z_ld40 : decode code 188 = .ok (.aload_n 0, 1) := by decide +kernel
theorem z_ld41 : decode code 189 = .ok (.iload_n 3, 1) := by decide +kernel
theorem z_ld42 : decode code 190 = .ok (.iconst 1, 1) := by decide +kernel
theorem z_ld43 : decode code 191 = .ok (.iadd, 1) := by decide +kernel
theorem z_ld44 : decode code 192 = .ok (.iaload, 1) := by decide +kernel
theorem z_ld45 : decode code 193 = .ok (.invokevirtual 18, 3) := by decide +kernel
theorem z_ld46 : decode code 196 = .ok (.aload_n 2, 1) := by decide +kernel
theorem z_ld47 : decode code 197 = .ok (.aload_n 0, 1) := by decide +kernel
theorem z_ld48 : decode code 198 = .ok (.iload_n 3, 1) := by decide +kernel
theorem z_ld49 : decode code 199 = .ok (.iconst 1, 1) := by decide +kernel
theorem z_ld50 : decode code 200 = .ok (.iadd, 1) := by decide +kernel
theorem z_ld51 : decode code 201 = .ok (.iaload, 1) := by decide +kernel
theorem z_ld52 : decode code 202 = .ok (.invokevirtual 21, 3) := by decide +kernel
theorem z_ld53 : decode code 205 = .ok (.if_icmp .eq 866, 3) := by decide +kernel
theorem z_ld54 : decode code 208 = .ok (.iconst 0, 1) := by decide +kernel
theorem z_ld55 : decode code 209 = .ok (.ireturn, 1) := by decide +kernel
theorem z_ld56 : decode code 210 = .ok (.aload_n 1, 1) := by decide +kernel
theorem z_ld57 : decode code 211 = .ok (.invokevirtual 22, 3) := by decide +kernel
theorem z_ld58 : decode code 214 = .ok (.aload_n 2, 1) := by decide +kernel
theorem z_ld59 : decode code 215 = .ok (.invokevirtual 26, 3) := by decide +kernel
theorem z_ld60 : decode code 218 = .ok (.if_icmp .eq 853, 3) := by decide +kernel
theorem z_ld61 : decode code 221 = .ok (.iconst 0, 1) := by decide +kernel
theorem z_ld62 : decode code 222 = .ok (.ireturn, 1) := by decide +kernel
theorem z_ld63 : decode code 223 = .ok (.aload_n 1, 1) := by decide +kernel
theorem z_ld64 : decode code 224 = .ok (.invokevirtual 27, 3) := by decide +kernel
theorem z_ld65 : decode code 227 = .ok (.aload_n 2, 1) := by decide +kernel
theorem z_ld66 : decode code 228 = .ok (.invokevirtual 30, 3) := by decide +kernel
theorem z_ld67 : decode code 231 = .ok (.if_icmp .eq 840, 3) := by decide +kernel
theorem z_ld68 : decode code 234 = .ok (.iconst 0, 1) := by decide +kernel
theorem z_ld69 : decode code 235 = .ok (.ireturn, 1) := by decide +kernel
