/-! the entries of the methods 55 to 109 -/
theorem z_e55 : z_ent 55 zd_Rd_advance [0, 252, 521, 0, 252, 129, 0, 0, 0, 539, 0] = true := by decide +kernel
theorem z_e56 : z_ent 56 zd_Rd_readLine [0, 547, 0, 0, 0, 0, 0, 0, 539, 0, 0, 0, 612, 0, 0, 0, 539, 0, 0, 0, 620, 0] = true := by decide +kernel
theorem z_e57 : z_ent 57 zd_Rd_lineOfWord [0, 0, 0, 0, 0, 0, 252, 0, 551, 560, 0, 0, 0, 0, 0, 0, 0] = true := by decide +kernel
theorem z_e58 : z_ent 58 zd_Rd_wordOf [0, 0, 554, 0, 555, 0, 556, 0, 557, 0, 558, 0, 559, 0] = true := by decide +kernel
theorem z_e59 : z_ent 59 zd_Rd_hasRoomFor [0, 0, 0, 248, 167, 0, 0, 0, 0, 0, 0, 0, 248, 167, 0, 0, 248, 175, 0, 248, 167, 0, 0, 0, 0, 0, 0, 0, 0, 0, 0, 248, 171, 0, 0, 0, 0, 0, 0, 0, 250, 616, 0, 0, 0, 0, 0, 0, 0] = true := by decide +kernel
theorem z_e60 : z_ent 60 zd_Rd_readRest [0, 0, 0, 517, 0, 242, 0, 0, 0, 624, 0, 0, 252, 129, 0, 0, 0, 0, 0, 0, 252, 134, 627, 0, 0, 0, 539, 0, 0, 253, 0, 0, 252, 134, 0, 0, 0, 517, 0, 0, 242, 0, 0, 0, 634, 0, 0, 252, 129, 0, 0, 0, 0, 539, 0, 242, 0, 0, 0, 0, 637, 0, 0, 246, 0, 0, 246, 0, 517, 0] = true := by decide +kernel
theorem z_e61 : z_ent 61 zd_Rd_leastArguments [0, 0, 0, 0, 0, 0, 0, 0] = true := by decide +kernel
theorem z_e62 : z_ent 62 zd_Rd_mostArguments [0, 0, 0, 0, 0, 0, 0, 0] = true := by decide +kernel
theorem z_e63 : z_ent 63 zd_Rd_isWithin [0, 0, 0, 0, 0, 0, 0, 0, 0, 0, 0, 0, 0, 0, 0, 0, 0, 0, 0, 0, 0, 0, 0, 0, 631, 0, 0, 0, 0, 0, 0, 0, 0, 0, 0, 0, 0, 0, 248, 171, 0, 0, 0, 0, 0, 0, 0, 0, 0, 0, 0, 0, 0, 0, 0, 0, 0, 0, 0, 0, 0, 631, 0, 0, 0, 0, 0, 0, 0, 0, 0, 0, 0, 0, 0, 0, 0, 0, 0, 0, 0, 0, 0, 0, 0, 0, 0, 0, 0, 0, 0, 0, 0, 0, 0, 0, 0, 0, 0] = true := by decide +kernel
theorem z_e64 : z_ent 64 zd_Rd_tell [0, 0, 0, 248, 641, 0, 0, 0, 0, 645, 0, 0, 0, 0, 645, 0, 0, 248, 0, 253, 0, 0, 663, 0, 0, 667, 0, 0, 0, 254, 0, 253, 0, 0, 671, 254, 0, 250, 0, 253, 0, 0, 0, 253, 0, 0, 0, 253, 0, 0, 674, 0] = true := by decide +kernel
theorem z_e65 : z_ent 65 zd_Rd_tellNode [0, 248, 0, 0, 253, 0, 0, 649, 0, 0, 0, 0, 0, 0, 248, 0, 253, 0, 0, 656, 0, 0, 0] = true := by decide +kernel
theorem z_e66 : z_ent 66 zd_Rd_tellHas [0, 0, 254, 0, 253, 0, 0, 671, 254, 0, 0, 255, 0, 253, 0, 0, 671, 255, 0, 248, 192, 0, 0, 253, 0, 0, 0, 0, 253, 0, 0, 0, 0, 253, 0, 0, 0, 0] = true := by decide +kernel
theorem z_e67 : z_ent 67 zd_Rd_tellsWhatIsNotThere [0, 254, 0, 248, 171, 0, 0, 255, 0, 248, 167, 0, 0, 248, 683, 0, 0, 0, 0, 0] = true := by decide +kernel
theorem z_e68 : z_ent 68 zd_P_clear [0, 0, 163, 0, 0, 168, 0, 188, 0, 510, 0, 191, 0, 510, 0] = true := by decide +kernel
theorem z_e69 : z_ent 69 zd_P_becomeAs [0, 0, 163, 163, 0, 0, 168, 168, 0, 172, 0, 0, 172, 0, 0, 172, 0, 695, 0, 176, 0, 0, 176, 0, 0, 176, 0, 695, 0, 180, 0, 0, 180, 0, 0, 180, 0, 695, 0, 184, 0, 0, 184, 0, 0, 184, 0, 695, 0, 188, 0, 0, 188, 0, 0, 188, 0, 695, 0, 190, 0, 0, 190, 0, 0, 190, 0, 695, 0, 191, 0, 0, 191, 0, 0, 191, 0, 695, 0] = true := by decide +kernel
theorem z_e70 : z_ent 70 zd_P_hasMethod [0, 0, 0, 0, 163, 0, 0, 0, 0, 0] = true := by decide +kernel
theorem z_e71 : z_ent 71 zd_P_hasNode [0, 0, 855, 0, 0, 0, 0, 0, 172, 0, 0, 0, 0, 0, 0, 0] = true := by decide +kernel
theorem z_e72 : z_ent 72 zd_P_hasNext [0, 0, 0, 910, 0, 0, 0, 0, 0, 184, 0, 0, 653, 0, 0, 0, 0, 0, 0] = true := by decide +kernel
theorem z_e73 : z_ent 73 zd_P_hasClass [0, 0, 0, 0, 168, 0, 0, 0, 0, 0] = true := by decide +kernel
theorem z_e74 : z_ent 74 zd_P_hasEdge [0, 0, 0, 0, 0, 0, 0, 0, 0, 0, 0, 0, 0, 0, 0, 0, 0, 0, 0, 0, 0, 906, 0, 0, 0, 0, 0, 0, 0, 0, 855, 0, 0, 0, 0, 0, 0, 0, 911, 0] = true := by decide +kernel
theorem z_e75 : z_ent 75 zd_P_nextOf [0, 188, 0, 0, 0, 660, 0, 0] = true := by decide +kernel
theorem z_e76 : z_ent 76 zd_P_mayTurn [0, 0, 0, 0, 906, 0, 0, 0, 0, 0, 0, 0, 910, 0, 0, 0, 0, 0] = true := by decide +kernel
theorem z_e77 : z_ent 77 zd_P_turn [0, 0, 0, 0, 906, 0, 0, 188, 0, 0, 0, 660, 0, 0, 0] = true := by decide +kernel
theorem z_e78 : z_ent 78 zd_P_widen [0, 0, 653, 0, 0, 0, 0, 0, 0, 0, 0, 0, 0, 188, 0, 0, 0, 660, 0, 0, 0, 0, 0, 184, 0, 0, 0, 0, 188, 0, 0, 0, 660, 0, 0, 0, 0, 0, 184, 0, 0, 0, 0] = true := by decide +kernel
theorem z_e79 : z_ent 79 zd_P_meantBy [0, 0, 0, 0, 0, 0, 0, 0, 0, 0, 0, 168, 0, 0, 191, 0, 0, 0, 0, 0, 0, 0, 0, 0, 191, 0, 0, 0, 0, 0, 0, 0, 0, 190, 0, 0, 0, 0, 0, 0, 0] = true := by decide +kernel
theorem z_e80 : z_ent 80 zd_P_partOf [0, 0, 653, 0, 0, 0, 0, 176, 0, 0, 0, 0, 180, 0, 0, 0, 0, 184, 0, 0, 0, 0, 0, 0, 0, 687, 0, 0, 0, 0, 0, 687, 0] = true := by decide +kernel
theorem z_e81 : z_ent 81 zd_P_nodesOfAll [0, 0, 0, 0, 0, 0, 163, 0, 0, 0, 172, 0, 0, 0, 0, 0, 0, 0, 0] = true := by decide +kernel
theorem z_e82 : z_ent 82 zd_P_nodesThatCall [0, 0, 0, 0, 0, 0, 163, 0, 0, 0, 0, 0, 172, 0, 0, 0, 0, 176, 0, 0, 653, 0, 0, 0, 0, 0, 0, 0, 0, 0, 0] = true := by decide +kernel
theorem z_e83 : z_ent 83 zd_P_nodesOtherThan [0, 0, 0, 0, 0, 0, 163, 0, 0, 0, 0, 0, 172, 0, 0, 0, 0, 0, 0, 0, 1084, 0, 0, 0, 0, 0, 0, 0, 0] = true := by decide +kernel
theorem z_e84 : z_ent 84 zd_P_isNodeAsIn [0, 0, 0, 0, 0, 0, 0, 0, 0, 1088, 0, 0, 0, 0, 1088, 0, 0, 0, 0, 0, 0, 0] = true := by decide +kernel
theorem z_e85 : z_ent 85 zd_P_appendMethod [0, 163, 0, 0, 0, 172, 0, 163, 0, 0, 0, 0, 163, 0, 0, 163, 0] = true := by decide +kernel
theorem z_e86 : z_ent 86 zd_P_appendNode [0, 163, 0, 0, 0, 0, 0, 0, 172, 0, 0, 0, 0, 0, 0, 172, 0, 0, 653, 0, 0, 176, 0, 0, 0, 0, 180, 0, 0, 0, 0, 184, 0, 0, 0, 0, 172, 0, 0, 0, 0, 0, 0, 0] = true := by decide +kernel
theorem z_e87 : z_ent 87 zd_P_appendNext [0, 163, 0, 0, 0, 0, 0, 0, 172, 0, 0, 0, 0, 172, 0, 0, 0, 0, 0, 0, 0, 653, 0, 0, 184, 0, 0, 0, 0, 0, 188, 0, 0, 0, 184, 0, 0, 660, 0, 0, 0, 184, 0, 0, 0, 0, 0, 0, 0] = true := by decide +kernel
theorem z_e88 : z_ent 88 zd_P_appendClass [0, 168, 0, 0, 0, 190, 0, 168, 0, 0, 0, 0, 168, 0, 0, 168, 0] = true := by decide +kernel
theorem z_e89 : z_ent 89 zd_P_leadsOnlyToNodes [0, 0, 0, 0, 163, 0, 0, 0, 0, 0, 172, 0, 0, 0, 0, 0, 0, 0, 184, 0, 0, 653, 0, 0, 0, 0, 0, 0, 687, 0, 0, 0, 0, 0, 0, 687, 0, 172, 0, 0, 0, 0, 0, 0, 0, 0, 0, 0, 0, 0, 0] = true := by decide +kernel
theorem z_e90 : z_ent 90 zd_Ts_isThere [0, 0, 0, 0, 220, 0, 0, 0, 0, 0] = true := by decide +kernel
theorem z_e91 : z_ent 91 zd_Ts_isFull [0, 220, 0, 0, 0, 0, 0, 0] = true := by decide +kernel
theorem z_e92 : z_ent 92 zd_Ts_becomeAs [0, 0, 220, 220, 0, 224, 0, 0, 224, 0, 0, 702, 0, 227, 0, 0, 227, 0, 0, 702, 0, 230, 0, 0, 230, 0, 0, 702, 0] = true := by decide +kernel
theorem z_e93 : z_ent 93 zd_Ts_append [0, 678, 0, 0, 224, 0, 220, 0, 0, 0, 227, 0, 220, 0, 0, 0, 230, 0, 220, 0, 0, 0, 0, 220, 0, 0, 220, 0] = true := by decide +kernel
theorem z_e94 : z_ent 94 zd_Ts_remove [0, 0, 0, 0, 0, 0, 220, 0, 0, 224, 0, 0, 224, 0, 0, 0, 0, 0, 0, 227, 0, 0, 227, 0, 0, 0, 0, 0, 0, 230, 0, 0, 230, 0, 0, 0, 0, 0, 0, 0, 0, 0, 220, 0, 0, 220, 0] = true := by decide +kernel
theorem z_e95 : z_ent 95 zd_Ru_begin [0, 0, 303, 0, 0, 304, 0, 0, 305, 0, 0, 296, 0, 0, 298, 0, 0, 306, 0, 0, 307, 0, 300, 784, 0, 303, 165, 0, 0, 0, 0, 785, 0] = true := by decide +kernel
theorem z_e96 : z_ent 96 zd_Ru_enter [0, 0, 0, 296, 0, 0, 0, 0, 0, 296, 0, 300, 0, 0, 0, 789, 0, 303, 174, 0, 0, 0, 0, 0, 0, 0, 0, 0, 0, 0, 0, 0, 0, 0, 0, 0, 0, 0, 790, 0, 0, 0, 0] = true := by decide +kernel
theorem z_e97 : z_ent 97 zd_Ru_visit [0, 298, 0, 0, 0, 0, 307, 0, 0, 0, 0, 298, 0, 0, 298, 0, 0, 794, 0, 0, 303, 181, 0, 0, 0, 0, 303, 177, 0, 0, 0, 0, 0, 0, 0, 296, 0, 0, 0, 0, 0, 296, 0, 0, 0, 795, 0, 0, 0, 0, 296, 0, 0, 0, 0, 0, 296, 0, 307, 0, 0, 0, 0, 0, 0, 0, 303, 186, 0, 0, 801, 0] = true := by decide +kernel
theorem z_e98 : z_ent 98 zd_Ru_enterMeant [0, 300, 0, 304, 0, 799, 789, 0, 303, 0, 304, 0, 800, 0, 0, 0, 0, 0, 0, 0, 0, 0, 0, 0, 0, 785, 0] = true := by decide +kernel
theorem z_e99 : z_ent 99 zd_Ru_goOn [0, 0, 0, 0, 0, 0, 0, 0, 0, 0, 0, 0, 805, 809, 0, 0, 300, 0, 789, 0, 303, 189, 0, 0, 0] = true := by decide +kernel
theorem z_e100 : z_ent 100 zd_Ru_decide [0, 305, 0, 306, 0, 0, 0, 0, 0, 0, 0, 0, 306, 0, 0, 306, 0, 0] = true := by decide +kernel
theorem z_e101 : z_ent 101 zd_Es_clear [0, 291, 0, 727, 0] = true := by decide +kernel
theorem z_e102 : z_ent 102 zd_Es_becomeAs [0, 291, 0, 0, 291, 0, 0, 814, 0] = true := by decide +kernel
theorem z_e103 : z_ent 103 zd_Es_put [0, 0, 0, 0, 0, 0, 291, 0, 0, 0, 0, 0, 0, 0, 0, 0, 0, 0, 0, 0] = true := by decide +kernel
theorem z_e104 : z_ent 104 zd_Es_putAll [0, 0, 0, 0, 0, 0, 291, 0, 0, 0, 0, 291, 0, 0, 0, 0, 0, 0, 0] = true := by decide +kernel
theorem z_e105 : z_ent 105 zd_Es_takeOut [0, 0, 0, 0, 0, 0, 291, 0, 0, 0, 0, 291, 0, 0, 833, 0, 0, 0, 0, 0, 0] = true := by decide +kernel
theorem z_e106 : z_ent 106 zd_Es_holds [0, 0, 0, 0, 0, 0, 291, 0, 0, 0, 0, 0, 0, 0, 0, 0, 0, 0, 0, 0, 0] = true := by decide +kernel
theorem z_e107 : z_ent 107 zd_Es_size [0, 0, 765, 0] = true := by decide +kernel
theorem z_e108 : z_ent 108 zd_Es_sizeWithin [0, 0, 0, 0, 0, 0, 0, 0, 0, 291, 0, 0, 0, 291, 0, 0, 0, 769, 0, 0, 0, 0, 0, 0] = true := by decide +kernel
theorem z_e109 : z_ent 109 zd_Dg_compare [0, 333, 723, 0, 0, 0, 0, 336, 164, 0, 0, 0, 730, 0, 0, 0, 0, 0, 0, 336, 169, 0, 0, 0, 0, 0, 0, 0, 336, 0, 0, 754, 0, 337, 0, 0, 754, 0, 0, 333, 0, 0, 758, 744, 0, 0, 0, 0, 0] = true := by decide +kernel
