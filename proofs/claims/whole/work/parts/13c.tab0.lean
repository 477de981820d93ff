/-! the entries of the methods 0 to 54 -/
theorem z_e0 : z_ent 0 zd_X_feed [0, 0, 0, 0, 0, 0, 0, 0, 449, 128, 0, 0, 0, 0, 0, 449, 0, 490, 0, 449, 128, 0] = true := by decide +kernel
theorem z_e1 : z_ent 1 zd_X_end [0, 0, 0, 0, 449, 128, 0, 0, 0, 0, 449, 128, 0, 0, 449, 0, 128, 0, 0] = true := by decide +kernel
theorem z_e2 : z_ent 2 zd_X_text [0, 450, 502, 0, 449, 0, 128, 0, 0, 450, 243, 459, 0, 450, 243, 0, 0, 0, 450, 245, 0, 0, 0, 451, 0, 450, 249, 691, 0, 452, 0, 450, 249, 691, 0, 453, 0, 450, 251, 698, 0, 0, 0, 0, 0, 0, 457, 0, 0, 0, 413, 0, 0, 0, 450, 247, 0] = true := by decide +kernel
theorem z_e3 : z_ent 3 zd_X_fault [0, 459, 0] = true := by decide +kernel
theorem z_e4 : z_ent 4 zd_X_rule [0, 0, 0, 451, 166, 0, 0, 451, 711, 0, 0, 451, 170, 0, 0, 453, 223, 0, 0, 715, 0, 0, 456, 775, 0, 456, 364, 0, 0, 456, 775, 0, 456, 834, 0, 0, 838, 0, 0, 0] = true := by decide +kernel
theorem z_e5 : z_ent 5 zd_X_node [0, 451, 0, 0, 851, 0, 0, 0, 0, 0, 0, 0, 0, 0, 451, 0, 0, 0, 859, 0, 0, 0, 0, 0, 0, 0, 0, 452, 0, 0, 0, 0, 0, 859, 0, 0, 0] = true := by decide +kernel
theorem z_e6 : z_ent 6 zd_X_meant [0, 451, 0, 867, 0, 0, 871, 0, 0, 0, 0, 0, 0, 0, 0, 0, 0, 872, 0, 0, 876, 0] = true := by decide +kernel
theorem z_e7 : z_ent 7 zd_X_test [0, 453, 0, 881, 0, 0, 0, 0, 0, 0, 453, 226, 0, 0, 0, 0, 453, 229, 0, 0, 0, 0, 453, 232, 0, 0, 0, 0, 0, 451, 0, 885, 0, 454, 299, 0, 0, 0, 452, 0, 885, 0, 454, 299, 0, 0, 456, 775, 0, 456, 0, 0, 889, 0, 0, 0] = true := by decide +kernel
theorem z_e8 : z_ent 8 zd_X_said [0, 453, 0, 881, 0, 0, 0, 0, 0, 0, 0, 0, 0, 0, 0, 872, 0, 885, 0, 454, 297, 0] = true := by decide +kernel
theorem z_e9 : z_ent 9 zd_X_edge [0, 451, 0, 902, 0, 0, 0, 0, 0, 0, 0, 0, 0, 456, 775, 0, 0, 0, 455, 335, 0, 912, 0, 0, 456, 0, 916, 0] = true := by decide +kernel
theorem z_e10 : z_ent 10 zd_X_covers [0, 453, 0, 881, 0, 0, 451, 0, 902, 0, 0, 0, 0, 0, 451, 0, 885, 0, 454, 302, 0, 912, 0] = true := by decide +kernel
theorem z_e11 : z_ent 11 zd_X_order [0, 0, 0, 0, 0, 0, 0, 0, 0, 0, 456, 775, 0, 0, 456, 364, 0, 0, 0, 0, 0, 0, 456, 366, 0, 0, 0, 0, 456, 368, 0, 0, 0] = true := by decide +kernel
theorem z_e12 : z_ent 12 zd_X_same [0, 451, 0, 867, 0, 0, 0, 0, 0, 0, 0, 0, 0, 0, 0, 0, 0, 842, 0, 0, 0, 0, 0, 0] = true := by decide +kernel
theorem z_e13 : z_ent 13 zd_X_say [0, 452, 0, 0, 851, 0, 0, 0, 937, 0, 0, 0, 0, 0, 940, 0, 0, 0, 452, 179, 0, 0, 0, 0, 452, 183, 0, 0, 0, 0, 0, 452, 179, 0, 0, 0, 0, 452, 183, 0, 0, 0, 0, 0] = true := by decide +kernel
theorem z_e14 : z_ent 14 zd_X_lead [0, 452, 0, 0, 0, 0, 945, 0, 0, 0, 0, 452, 0, 0, 0, 949, 0, 0, 452, 0, 0, 0, 0, 950, 0, 0] = true := by decide +kernel
theorem z_e15 : z_ent 15 zd_X_nexts [0, 452, 0, 0, 851, 0, 0, 0, 0, 0, 0, 0, 0, 0, 452, 187, 0, 0, 940, 0, 0, 0, 452, 0, 0, 0, 958, 0, 0] = true := by decide +kernel
theorem z_e16 : z_ent 16 zd_X_has [0, 452, 0, 867, 0, 0, 871, 0, 0, 0, 0, 0, 452, 0, 966, 0, 0, 0, 0, 452, 193, 0, 0, 0, 0, 0, 0, 0, 0, 452, 193, 0, 0, 0, 0, 0, 0, 0, 0, 0] = true := by decide +kernel
theorem z_e17 : z_ent 17 zd_X_take [0, 715, 0, 0, 451, 0, 452, 691, 0, 0] = true := by decide +kernel
theorem z_e18 : z_ent 18 zd_X_leave [0, 715, 0, 0, 452, 0, 451, 691, 0, 0] = true := by decide +kernel
theorem z_e19 : z_ent 19 zd_X_add [0, 451, 0, 867, 0, 0, 0, 0, 0, 0, 0, 0, 0, 0, 0, 0, 0, 0, 0, 453, 979, 0, 0, 0, 0, 453, 0, 0, 0, 980, 0, 453, 223, 0] = true := by decide +kernel
theorem z_e20 : z_ent 20 zd_X_drop [0, 453, 0, 881, 0, 0, 0, 0, 453, 0, 985, 0, 453, 223, 0] = true := by decide +kernel
theorem z_e21 : z_ent 21 zd_X_draw [0, 0, 0, 0, 0, 0, 0, 0, 0, 451, 170, 0, 0, 0, 0, 0, 0, 0, 0, 0, 0, 0, 0, 453, 979, 0, 0, 993, 0, 0, 0, 0, 0, 0, 0, 0, 0, 0, 0, 453, 0, 0, 451, 170, 0, 0, 0, 0, 0, 0, 0, 0, 0, 0, 0, 0, 0, 980, 0, 0, 0, 0] = true := by decide +kernel
theorem z_e22 : z_ent 22 zd_X_keep [0, 998, 0, 0, 0, 0, 457, 0, 0, 413, 0, 0, 0, 0, 0, 0, 457, 0, 0, 0, 413, 0, 457, 0, 0, 415, 0, 451, 691, 0, 457, 0, 0, 417, 0, 452, 691, 0, 457, 0, 0, 419, 0, 453, 698, 0, 0] = true := by decide +kernel
theorem z_e23 : z_ent 23 zd_X_back [0, 998, 0, 0, 0, 0, 457, 0, 0, 413, 0, 0, 0, 0, 451, 0, 457, 0, 0, 415, 691, 0, 452, 0, 457, 0, 0, 417, 691, 0, 453, 0, 457, 0, 0, 419, 698, 0, 453, 223, 0] = true := by decide +kernel
theorem z_e24 : z_ent 24 zd_X_sheet [0, 1009, 0, 0, 1012, 0, 0, 0, 0, 0, 0, 0, 0, 0, 0, 0, 458, 0, 0, 0, 0, 1015, 0, 0] = true := by decide +kernel
theorem z_e25 : z_ent 25 zd_X_lay [0, 1009, 0, 0, 0, 0, 458, 0, 0, 435, 0, 0, 0, 0, 0, 0, 0, 458, 0, 0, 437, 0, 0, 0, 0, 458, 0, 0, 0, 0, 1024, 0, 0] = true := by decide +kernel
theorem z_e26 : z_ent 26 zd_X_read [0, 1009, 0, 0, 1012, 0, 0, 0, 0, 0, 0, 0, 0, 0, 0, 0, 0, 0, 458, 0, 0, 0, 1032, 0, 0, 0, 0, 0, 0, 458, 0, 0, 0, 0, 1036, 0, 0, 0, 458, 0, 0, 0, 0, 1043, 0, 0, 0, 0, 0, 0, 0, 0, 0, 0, 458, 0, 0, 0, 0, 1051, 0, 0, 0, 0, 0, 0, 0, 0, 0, 460, 0, 0] = true := by decide +kernel
theorem z_e27 : z_ent 27 zd_X_torn [0, 460, 0] = true := by decide +kernel
theorem z_e28 : z_ent 28 zd_X_count [0, 0, 0, 1063, 0, 0, 451, 1067, 0, 0, 449, 128, 0, 0, 458, 0, 0, 435, 0, 0, 458, 0, 0, 437, 0, 0, 0, 0, 456, 775, 0, 456, 1071, 0, 0, 452, 0, 451, 1080, 0, 0, 0] = true := by decide +kernel
theorem z_e29 : z_ent 29 zd_X_programOf [0, 0, 0, 451, 0, 0, 452, 0] = true := by decide +kernel
theorem z_e30 : z_ent 30 zd_X_runTest [0, 454, 0, 0, 453, 226, 0, 0, 0, 453, 229, 0, 0, 846, 0] = true := by decide +kernel
theorem z_e31 : z_ent 31 zd_X_edgesInDanger [0, 455, 719, 0, 455, 335, 761, 0] = true := by decide +kernel
theorem z_e32 : z_ent 32 zd_X_saysTheSame [0, 454, 0, 451, 0, 0, 846, 0, 454, 297, 0, 0, 454, 0, 452, 0, 0, 846, 0, 0, 454, 297, 0, 0, 0, 0, 0] = true := by decide +kernel
theorem z_e33 : z_ent 33 zd_X_testsThatSayOther [0, 0, 0, 0, 0, 0, 453, 223, 0, 0, 0, 453, 226, 0, 0, 0, 453, 229, 0, 0, 842, 0, 0, 0, 0, 0, 0] = true := by decide +kernel
theorem z_e34 : z_ent 34 zd_X_imagesKept [0, 0, 0, 0, 0, 0, 0, 0, 457, 0, 0, 413, 0, 0, 0, 0, 0, 0] = true := by decide +kernel
theorem z_e35 : z_ent 35 zd_X_firstRefused [0, 0, 0, 0, 0, 0, 0, 0, 0, 0, 0, 0, 452, 0, 0, 1047, 0, 0, 0, 0, 1047, 0, 0, 0, 0, 1047, 0, 0, 0, 0, 1047, 945, 0, 0, 0, 0, 0, 0, 0] = true := by decide +kernel
theorem z_e36 : z_ent 36 zd_X_turnAll [0, 0, 0, 0, 0, 0, 0, 0, 0, 0, 0, 0, 452, 0, 0, 1047, 0, 0, 0, 0, 1047, 0, 0, 0, 0, 1047, 0, 0, 0, 0, 1047, 950, 0, 0, 0] = true := by decide +kernel
theorem z_e37 : z_ent 37 zd_X_isName [0, 0, 0, 0, 0, 0, 0, 0, 0] = true := by decide +kernel
theorem z_e38 : z_ent 38 zd_X_isNode [0, 0, 0, 0, 0, 0, 0, 0, 0, 0, 0, 871, 0, 0, 0, 0, 0] = true := by decide +kernel
theorem z_e39 : z_ent 39 zd_X_isImage [0, 0, 0, 0, 0, 0, 0, 0, 0] = true := by decide +kernel
theorem z_e40 : z_ent 40 zd_X_isSheet [0, 0, 0, 0, 0, 0, 0, 0, 0] = true := by decide +kernel
theorem z_e41 : z_ent 41 zd_X_isLane [0, 0, 0, 0, 0, 0, 0, 0, 0] = true := by decide +kernel
theorem z_e42 : z_ent 42 zd_X_placeOf [0, 0, 0, 0, 0, 0] = true := by decide +kernel
theorem z_e43 : z_ent 43 zd_X_edgeOfNext [0, 0, 0, 0, 0, 0, 0, 0, 0, 0] = true := by decide +kernel
theorem z_e44 : z_ent 44 zd_X_edgeOfCall [0, 0, 0, 0, 0, 0, 0, 0] = true := by decide +kernel
theorem z_e45 : z_ent 45 zd_Tp_append [0, 127, 0, 0, 0, 136, 0, 127, 0, 0, 0, 0, 0, 127, 0, 0, 127, 0] = true := by decide +kernel
theorem z_e46 : z_ent 46 zd_Tp_rewind [0, 0, 135, 0] = true := by decide +kernel
theorem z_e47 : z_ent 47 zd_Tp_advance [0, 0, 135, 132, 0, 132, 0, 127, 0, 0, 136, 0, 132, 0, 0, 0, 0, 0, 132, 0, 0, 132, 0, 0, 0, 132, 135, 0, 132, 0, 127, 0, 0, 0, 130, 0, 0, 136, 0, 132, 0, 0, 0, 0, 0, 130, 0, 0, 132, 0, 0, 135, 0, 0, 136, 0, 132, 0, 525, 0, 0, 528, 0, 0, 136, 0, 132, 0, 532, 0, 0, 535, 0, 0, 0, 130, 0] = true := by decide +kernel
theorem z_e48 : z_ent 48 zd_Tp_isWord [0, 130, 0, 0, 0, 135, 0, 132, 0, 0, 564, 0, 0, 0, 0, 0, 0, 0, 564, 0, 0, 136, 0, 132, 0, 0, 0, 0, 0, 574, 0, 0, 0, 0, 0, 0, 0] = true := by decide +kernel
theorem z_e49 : z_ent 49 zd_Tp_takeWord [0, 0, 130, 0, 135, 0, 127, 0, 0, 136, 0, 135, 0, 525, 0, 0, 0, 135, 0, 0, 135, 0, 0] = true := by decide +kernel
theorem z_e50 : z_ent 50 zd_Tp_takeNumber [0, 0, 133, 0, 135, 0, 127, 0, 0, 136, 0, 135, 0, 532, 0, 0, 0, 0, 133, 0, 0, 136, 0, 135, 0, 0, 0, 0, 133, 0, 0, 135, 0, 0, 135, 0, 0, 0, 135, 0, 132, 0, 0, 0, 0, 0, 0, 130, 0] = true := by decide +kernel
theorem z_e51 : z_ent 51 zd_Tp_isLetter [0, 0, 0, 0, 0, 0, 0, 0, 0, 0] = true := by decide +kernel
theorem z_e52 : z_ent 52 zd_Tp_isFigure [0, 0, 0, 0, 0, 0, 0, 0, 0, 0] = true := by decide +kernel
theorem z_e53 : z_ent 53 zd_Rd_readAll [0, 0, 242, 0, 0, 246, 0, 0, 254, 0, 0, 255, 0, 248, 506, 0, 250, 0, 222, 0, 252, 513, 0, 517, 0, 0, 0, 0, 0, 0, 242, 0, 0, 252, 129, 0, 0, 0, 543, 0, 0, 0, 242, 0, 0, 679, 0, 0, 0, 539, 0] = true := by decide +kernel
theorem z_e54 : z_ent 54 zd_Rd_fail [0, 0, 242, 0, 0, 252, 131, 244, 0] = true := by decide +kernel
