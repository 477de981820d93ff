/-! the entries of the methods 165 to 220 -/
theorem z_e165 : z_ent 165 zd_M_callsIn [0, 1120, 0, 1123, 0, 0, 0, 0, 0, 1121, 0, 1123, 0, 0, 0, 0, 0, 0, 0, 0, 0, 1321, 0, 0, 0, 0, 0, 0, 0, 0, 1321, 0, 0, 1122, 0, 0, 0, 0, 0, 0, 0, 0, 0, 0, 0, 0, 0, 1329, 0, 0, 0, 0, 0, 1123, 0, 0, 0, 0, 0, 1360, 0, 0, 0, 0, 0] = true := by decide +kernel
theorem z_e166 : z_ent 166 zd_M_runs [0, 0, 0, 0, 0, 0, 1122, 0, 0, 0, 0, 0, 0, 0, 1123, 0, 0, 1124, 0, 0, 1125, 0, 0, 1126, 0, 0, 1106, 0, 0, 0, 0, 0, 0, 1127, 0, 1127, 0, 0, 0, 0, 1360, 0, 0, 1127, 0, 0, 0, 0, 1376, 0, 0, 0, 0, 1380, 0, 0] = true := by decide +kernel
theorem z_e167 : z_ent 167 zd_M_ofTest [0, 1106, 0, 0, 0, 0, 0, 0, 0, 0, 0] = true := by decide +kernel
theorem z_e168 : z_ent 168 zd_M_runsTest [0, 0, 0, 0, 0, 1352, 0, 0, 0, 1352, 1356, 0] = true := by decide +kernel
theorem z_e169 : z_ent 169 zd_M_areAlike [0, 0, 0, 0, 0, 0, 0, 0, 0, 0, 0, 0, 0, 0, 1321, 0, 0, 0, 0, 0, 1321, 0, 0, 0, 0, 0, 0, 0, 0, 0] = true := by decide +kernel
theorem z_e170 : z_ent 170 zd_M_pairsOn [0, 0, 0, 0, 0, 0, 0, 0, 0, 0, 1321, 0, 0, 0, 0, 0, 0, 0, 0, 1321, 0, 0, 0, 0, 0, 0, 0, 0, 1321, 0, 0, 0, 0, 0, 0, 0, 0, 0, 0, 0, 0, 0, 0, 0, 0, 0, 1317, 0, 0, 0, 0, 1129, 0, 0, 0, 0, 0, 0, 0, 0, 0, 0, 0, 0, 1129, 0, 0, 0, 0, 0, 0, 0, 0, 0, 0, 0, 0, 0, 0, 1128, 0, 0, 0, 0, 0, 0, 0, 0, 0, 0, 0, 0, 0, 0, 0] = true := by decide +kernel
theorem z_e171 : z_ent 171 zd_M_findPairs [0, 0, 0, 0, 0, 0, 1129, 0, 0, 0, 0, 0, 0, 0, 0, 0, 1317, 0, 0, 1128, 0, 0, 0, 0, 0, 0, 0, 1129, 0, 0, 0, 0, 0, 0, 0, 0, 0, 0, 0, 0, 0, 0, 0, 1129, 0, 0, 0, 0, 0, 0, 0, 0, 0, 0, 0, 1325, 0, 0, 0, 0, 0, 0, 0, 0, 0, 0, 0] = true := by decide +kernel
theorem z_e172 : z_ent 172 zd_M_findDanger [0, 0, 0, 0, 0, 0, 1128, 0, 0, 0, 0, 0, 0, 0, 0, 0, 1106, 0, 0, 0, 0, 1106, 0, 0, 0, 0, 0, 0, 0, 1313, 0, 0, 0, 0, 0, 0, 1106, 0, 0, 0, 0, 0, 0, 0, 0, 0, 1128, 0, 0, 0, 0, 0, 0, 0, 0, 0, 0, 0, 1329, 0, 0, 0, 0, 1329, 0, 0, 0, 0, 0, 0, 0, 0, 0, 0] = true := by decide +kernel
theorem z_e173 : z_ent 173 zd_M_dangers [0, 1309, 0, 0, 0, 0, 0, 0, 0, 0, 0, 1128, 0, 0, 1333, 0, 0, 0, 0, 0, 0] = true := by decide +kernel
theorem z_e174 : z_ent 174 zd_M_dangersOf [0, 0, 0, 1348, 0, 0, 0, 0, 0, 0, 0, 0, 0, 1122, 0, 0, 0, 0, 1128, 0, 0, 0, 0, 0, 0, 1130, 0, 0, 0, 0, 0, 0, 1333, 0, 0, 0, 0, 0, 0] = true := by decide +kernel
theorem z_e175 : z_ent 175 zd_M_findOrder [0, 1309, 0, 0, 0, 0, 0, 0, 1130, 0, 0, 0, 0, 0, 0, 0, 0, 0, 0, 0, 1131, 0, 0, 0, 0, 0, 0, 0, 1134, 0, 0, 0, 0, 0, 0, 0, 0, 0, 0, 0, 0, 1106, 0, 0, 0, 0, 1131, 0, 0, 0, 0, 0, 0, 1344, 0, 0, 0, 0, 1344, 0, 0, 0, 0, 0, 0, 0, 0, 1352, 0, 0, 0, 0, 0, 1352, 0, 0, 0, 0, 0, 0, 0, 0, 0, 0, 0, 0, 0, 0, 0, 0, 0, 0, 0, 0, 1384, 0, 0] = true := by decide +kernel
theorem z_e176 : z_ent 176 zd_M_comesNext [0, 1132, 0, 1134, 0, 0, 0, 1133, 0, 1134, 0, 0, 0, 0, 1134, 0, 0, 1134, 0, 1131, 0, 0, 0, 0, 0, 0, 1348, 0, 0, 0, 0, 0, 0, 1130, 0, 0, 1130, 0, 0, 0, 0, 1122, 0, 0, 0, 0, 1128, 0, 0, 0, 0, 0, 0, 0, 0, 0, 0] = true := by decide +kernel
theorem z_e177 : z_ent 177 zd_M_rankOf [0, 0, 0, 0, 1134, 0, 0, 1132, 0, 0, 0, 0, 0, 0, 0, 0, 0, 0] = true := by decide +kernel
theorem z_e178 : z_ent 178 zd_M_nodesOfAll [0, 0, 0, 0, 0, 0, 1106, 0, 0, 0, 0, 0, 1106, 0, 0, 0, 0, 0, 0, 0, 0, 0, 0] = true := by decide +kernel
theorem z_e179 : z_ent 179 zd_M_costsChosen [0, 1340, 0, 0, 0, 0, 0, 0, 1134, 0, 0, 0, 0, 1132, 0, 0, 0, 1352, 0, 0, 0, 0, 0, 0] = true := by decide +kernel
theorem z_e180 : z_ent 180 zd_M_chosen [0, 1340, 0, 1134, 0] = true := by decide +kernel
theorem z_e181 : z_ent 181 zd_M_areSame [0, 0, 0, 0, 1356, 0, 1125, 0, 0, 0, 0, 0, 1356, 0, 0, 1125, 0, 0, 0, 0, 0] = true := by decide +kernel
theorem z_e182 : z_ent 182 zd_M_others [0, 0, 0, 0, 0, 0, 1106, 0, 0, 0, 0, 0, 0, 0, 0, 1352, 0, 0, 0, 1352, 1396, 0, 0, 0, 0, 1333, 0, 0, 0, 0, 0, 0] = true := by decide +kernel
theorem z_e183 : z_ent 183 zd_M_rule [0, 0, 0, 1106, 0, 0, 0, 0, 1301, 0, 0, 1106, 0, 0, 0, 0, 1106, 0, 0, 0, 0, 1305, 0, 0, 1336, 0, 0, 1388, 0, 0, 1392, 0, 0, 0] = true := by decide +kernel
theorem z_e184 : z_ent 184 zd_M_node [0, 0, 0, 0, 0, 0, 0, 1404, 0, 0, 0, 0, 1412, 1215, 0, 0, 0, 0, 0, 0, 0, 0, 0, 0, 0, 0, 0, 0, 0, 0, 0, 0, 1321, 0, 0, 0, 0, 0, 0, 0, 0, 0, 1321, 0, 0, 0, 0, 0, 0, 1321, 0, 0, 0] = true := by decide +kernel
theorem z_e185 : z_ent 185 zd_M_meant [0, 0, 1417, 0, 0, 1421, 0, 0, 1425, 0, 0, 0, 0, 0, 1329, 0, 0, 0] = true := by decide +kernel
theorem z_e186 : z_ent 186 zd_M_coveredMany [0, 0, 0, 0, 0, 0, 0, 0, 0, 1122, 0, 0, 1333, 0, 0, 0, 0, 0, 0] = true := by decide +kernel
theorem z_e187 : z_ent 187 zd_M_nodesRun [0, 0, 0, 1348, 0, 1124, 0] = true := by decide +kernel
theorem z_e188 : z_ent 188 zd_M_coveredBy [0, 0, 0, 1348, 0, 1452, 0] = true := by decide +kernel
theorem z_e189 : z_ent 189 zd_M_dangersBy [0, 1309, 0, 0, 0, 1344, 0] = true := by decide +kernel
theorem z_e190 : z_ent 190 zd_M_test [0, 0, 1432, 0, 0, 0, 0, 0, 0, 0, 0, 1352, 0, 0, 0, 0, 0, 0, 1436, 0, 0, 0, 1440, 0, 0, 0, 0, 1333, 0, 0, 1340, 0, 0, 1444, 0, 0, 0, 1448, 0, 0, 0, 1440, 0, 0, 0] = true := by decide +kernel
theorem z_e191 : z_ent 191 zd_M_said [0, 0, 1432, 0, 0, 1425, 0, 0, 0, 0, 0, 0, 1348, 0, 1125, 0] = true := by decide +kernel
theorem z_e192 : z_ent 192 zd_M_isEdge [0, 0, 0, 1468, 1215, 0, 0, 0, 0, 0, 0, 0, 0, 0, 0, 0, 0, 0, 0, 1404, 0, 0, 0, 0, 0, 0, 0, 0, 0, 1321, 0, 0, 0, 0, 0, 0, 0, 1469, 1470, 1215, 0, 0, 0, 0, 0, 1408, 0, 0, 0, 1471, 1472, 1215, 0, 0, 0, 0, 0, 0, 0, 1417, 0, 0, 0, 0, 0] = true := by decide +kernel
theorem z_e193 : z_ent 193 zd_M_testsOver [0, 0, 0, 0, 0, 0, 1106, 0, 0, 0, 0, 0, 0, 1348, 0, 0, 1122, 0, 0, 1333, 0, 0, 0, 0, 0, 0] = true := by decide +kernel
theorem z_e194 : z_ent 194 zd_M_edge [0, 0, 1464, 0, 0, 1425, 0, 0, 0, 0, 0, 0, 0, 0, 1473, 0, 0, 1309, 0, 1128, 0, 0, 1333, 0] = true := by decide +kernel
theorem z_e195 : z_ent 195 zd_M_covers [0, 0, 1432, 0, 0, 0, 1464, 0, 0, 0, 0, 0, 0, 1348, 0, 1122, 0, 0, 1333, 0] = true := by decide +kernel
theorem z_e196 : z_ent 196 zd_M_order [0, 0, 0, 1425, 0, 0, 0, 0, 1340, 0, 0, 1134, 0, 0, 0, 0, 0, 0, 1132, 0, 0, 0, 0, 1133, 0, 0, 0] = true := by decide +kernel
theorem z_e197 : z_ent 197 zd_M_same [0, 0, 1417, 0, 0, 0, 0, 0, 0, 0, 0, 0, 0, 0, 0, 0, 0, 1396, 1333, 0, 0, 0, 0, 0, 0] = true := by decide +kernel
theorem z_e198 : z_ent 198 zd_M_say [0, 0, 0, 1404, 0, 0, 1425, 0, 0, 0, 0, 0, 0, 1493, 0, 1424, 1215, 0, 0, 0, 0, 0, 0, 1270, 0, 0, 0, 1106, 0, 0, 0, 0, 0, 0, 1106, 0, 0, 0, 0, 0, 0, 0, 1106, 0, 0, 0, 0, 0, 0, 1106, 0, 0, 0, 0, 0, 0, 0] = true := by decide +kernel
theorem z_e199 : z_ent 199 zd_M_lead [0, 0, 0, 1404, 0, 0, 0, 0, 0, 0, 0, 0, 0, 1321, 0, 0, 0, 1215, 0, 0, 0, 0, 0, 0, 0, 1404, 0, 0, 0, 0, 0, 0, 1270, 0, 0, 0, 0, 0, 0, 1106, 0, 0, 0, 0, 1106, 0, 0, 0, 0, 0] = true := by decide +kernel
theorem z_e200 : z_ent 200 zd_M_nexts [0, 0, 0, 1404, 0, 0, 0, 0, 1502, 1215, 0, 0, 0, 0, 0, 0, 1270, 0, 0, 1106, 0, 0, 0, 0, 0, 0, 0, 0, 0, 0, 0, 1106, 0, 0, 0, 0, 0, 0, 0, 0, 0, 0, 0, 0, 0, 0, 0, 1106, 0, 0, 0, 0, 0, 0, 0, 0, 0, 0, 1106, 0, 0, 0, 0, 0, 0, 0] = true := by decide +kernel
theorem z_e201 : z_ent 201 zd_M_has [0, 0, 1417, 0, 0, 1421, 0, 0, 0, 0, 0, 0, 1408, 0, 0, 0, 0, 0, 0, 1099, 0, 0, 1106, 0, 0, 0, 0, 1106, 0, 0, 0, 0, 0] = true := by decide +kernel
theorem z_e202 : z_ent 202 zd_M_becomes [0, 1305, 0, 0, 0, 0, 0, 0, 0, 1106, 0, 0, 0, 0, 0, 0, 0, 0, 1106, 0, 0, 0, 0, 0, 0, 0, 0, 0, 0, 0, 0, 0] = true := by decide +kernel
theorem z_e203 : z_ent 203 zd_M_take [0, 0, 0, 1511, 0] = true := by decide +kernel
theorem z_e204 : z_ent 204 zd_M_leave [0, 0, 0, 1511, 0] = true := by decide +kernel
theorem z_e205 : z_ent 205 zd_M_comes [0, 0, 0, 1106, 0, 0, 0, 0, 0, 0, 1106, 0, 0, 0, 0, 1106, 0, 0, 0, 0, 0, 0, 1106, 0, 0, 0, 0, 0, 0, 1106, 0, 0, 0, 0, 0, 0, 0] = true := by decide +kernel
theorem z_e206 : z_ent 206 zd_M_add [0, 0, 1417, 0, 0, 0, 0, 1523, 1215, 0, 0, 0, 0, 1493, 1215, 0, 0, 0, 0, 1106, 0, 0, 0, 0, 0, 0, 0, 0, 0, 0, 1524, 0, 1106, 0, 0, 0] = true := by decide +kernel
theorem z_e207 : z_ent 207 zd_M_drop [0, 0, 1432, 0, 0, 0, 0, 0, 0, 0, 0, 0, 0, 0, 0, 0, 1106, 0, 0, 0, 0, 0, 0, 0, 0, 1106, 0, 0, 1106, 0, 0, 0, 0, 0, 0, 0, 0, 1106, 0, 0, 0, 0, 0, 0, 0, 1106, 0, 0, 0] = true := by decide +kernel
theorem z_e208 : z_ent 208 zd_M_draw [0, 0, 0, 1536, 1215, 0, 0, 0, 0, 1106, 0, 0, 0, 0, 0, 0, 0, 0, 0, 0, 0, 0, 0, 1106, 0, 0, 0, 0, 0, 1537, 0, 0, 0, 0, 0, 0, 0, 0, 0, 0, 0, 0, 0, 1106, 0, 0, 0, 0, 0, 0, 0, 0, 0, 0, 0, 0, 0, 0, 0, 1524, 0, 0, 0, 0] = true := by decide +kernel
theorem z_e209 : z_ent 209 zd_M_keep [0, 0, 0, 0, 1215, 0, 0, 0, 0, 1108, 0, 0, 1333, 0, 0, 1108, 0, 0, 0, 0, 0, 0, 0, 0, 0, 1107, 0, 0, 0, 0, 0, 0, 1106, 0, 0, 0, 0, 0, 0, 0] = true := by decide +kernel
theorem z_e210 : z_ent 210 zd_M_back [0, 0, 0, 0, 1215, 0, 0, 0, 0, 1108, 0, 0, 0, 0, 0, 0, 0, 0, 0, 0, 0, 1106, 0, 0, 1107, 0, 0, 0, 0, 0, 0, 0, 0, 0, 0, 1106, 0, 0, 0] = true := by decide +kernel
theorem z_e211 : z_ent 211 zd_M_isSheet [0, 0, 0, 1424, 1215, 0, 0, 0, 0, 1502, 1215, 0, 0, 0, 0, 0] = true := by decide +kernel
theorem z_e212 : z_ent 212 zd_M_sheet [0, 0, 1550, 0, 0, 0, 0, 0, 0, 0, 0, 0, 0, 0, 1135, 0, 0, 0, 0, 1136, 0, 0, 0, 0, 0, 0, 0, 0, 0, 1137, 0, 0, 0, 0, 0, 0, 0, 0, 0, 0, 0] = true := by decide +kernel
theorem z_e213 : z_ent 213 zd_M_lay [0, 0, 1550, 0, 0, 0, 0, 1135, 0, 0, 0, 0, 0, 0, 0, 0, 0, 0, 1136, 0, 0, 0, 0, 0, 1215, 0, 0, 0, 0, 1137, 0, 0, 0, 0, 0, 0, 1135, 0, 0, 0, 0, 0, 0, 0, 1135, 0, 0, 0, 0, 0, 0, 0, 0, 0, 0, 0] = true := by decide +kernel
theorem z_e214 : z_ent 214 zd_M_read [0, 0, 1550, 0, 0, 0, 0, 1561, 1215, 0, 0, 0, 0, 0, 0, 0, 0, 0, 1138, 0, 0, 1106, 0, 0, 0, 0, 0, 0, 0, 0, 0, 0, 0, 0, 0, 0, 0, 0, 0, 0, 0, 0, 0, 0, 0, 0, 0, 0, 0, 0, 0, 0, 0, 0, 0, 0, 0, 1135, 0, 0, 0, 0, 0, 0, 0, 1135, 0, 0, 0, 0, 0, 0, 0, 0, 0, 0, 0, 0, 1136, 0, 0, 0, 0, 0, 0, 0, 0, 0, 0, 0, 0, 0, 0, 0, 0, 0, 0, 0, 0, 0, 0, 0, 0, 0, 1137, 0, 0, 0, 1137, 0, 0, 0, 0, 0, 1137, 0, 0, 0, 0, 0, 1137, 0, 0, 0, 0, 1562, 0, 0, 0, 0, 0, 0, 0, 1106, 0, 0, 1138, 0, 0, 0, 0, 0, 0, 0, 0, 0, 0, 0, 0, 0, 0, 1139, 0, 0] = true := by decide +kernel
theorem z_e215 : z_ent 215 zd_M_torn [0, 1139, 0] = true := by decide +kernel
theorem z_e216 : z_ent 216 zd_M_callsOld [0, 0, 0, 0, 0, 0, 1106, 0, 0, 0, 0, 0, 0, 0, 1106, 0, 0, 0, 0, 0, 0, 0, 0, 0, 0, 0, 1321, 0, 0, 0, 0, 0, 0, 0, 0] = true := by decide +kernel
theorem z_e217 : z_ent 217 zd_M_isOther [0, 0, 0, 0, 1317, 0, 0, 0, 0, 0, 0, 0, 0, 0, 0, 0, 0, 0, 1321, 0, 0, 0, 0, 0, 0, 0, 0, 0, 0, 1321, 0, 0, 0, 0, 0, 0, 0, 1321, 0, 0, 0, 0, 0, 0, 0, 0, 0] = true := by decide +kernel
theorem z_e218 : z_ent 218 zd_M_nodesOther [0, 0, 0, 0, 0, 0, 1106, 0, 0, 0, 0, 0, 0, 0, 1106, 0, 0, 0, 0, 0, 0, 0, 0, 0, 1583, 1333, 0, 0, 0, 0, 0, 0, 0, 0] = true := by decide +kernel
theorem z_e219 : z_ent 219 zd_M_edgesOver [0, 0, 0, 0, 0, 0, 1130, 0, 0, 0, 0, 0, 0, 0, 0, 0, 1106, 0, 0, 0, 0, 0, 0, 1348, 0, 0, 0, 0, 0, 0, 1130, 0, 0, 1130, 0, 0, 0, 0, 1122, 0, 0, 0, 0, 0, 0, 0, 0, 0, 0, 0, 0, 0, 0, 0, 0, 0, 0, 0, 0, 1130, 0, 0, 1333, 0, 0, 0, 0, 0, 0] = true := by decide +kernel
theorem z_e220 : z_ent 220 zd_M_count [0, 0, 0, 1108, 0, 0, 1333, 0, 1108, 0, 0, 1333, 0, 0, 0, 1571, 0, 0, 1113, 0, 0, 1135, 0, 0, 0, 0, 0, 0, 0, 1136, 0, 0, 0, 0, 1575, 0, 0, 1579, 0, 0, 0] = true := by decide +kernel
def z_Pid (id : Nat) : Prop := ∃ zd ps, z_code id = z_find2 zd ∧ z_ent id zd ps = true
theorem z_p0 : z_Pid 0 := ⟨zd_X_feed, _, rfl, z_e0⟩
theorem z_p1 : z_Pid 1 := ⟨zd_X_end, _, rfl, z_e1⟩
theorem z_p2 : z_Pid 2 := ⟨zd_X_text, _, rfl, z_e2⟩
theorem z_p3 : z_Pid 3 := ⟨zd_X_fault, _, rfl, z_e3⟩
theorem z_p4 : z_Pid 4 := ⟨zd_X_rule, _, rfl, z_e4⟩
theorem z_p5 : z_Pid 5 := ⟨zd_X_node, _, rfl, z_e5⟩
theorem z_p6 : z_Pid 6 := ⟨zd_X_meant, _, rfl, z_e6⟩
theorem z_p7 : z_Pid 7 := ⟨zd_X_test, _, rfl, z_e7⟩
theorem z_p8 : z_Pid 8 := ⟨zd_X_said, _, rfl, z_e8⟩
theorem z_p9 : z_Pid 9 := ⟨zd_X_edge, _, rfl, z_e9⟩
theorem z_p10 : z_Pid 10 := ⟨zd_X_covers, _, rfl, z_e10⟩
theorem z_p11 : z_Pid 11 := ⟨zd_X_order, _, rfl, z_e11⟩
theorem z_p12 : z_Pid 12 := ⟨zd_X_same, _, rfl, z_e12⟩
theorem z_p13 : z_Pid 13 := ⟨zd_X_say, _, rfl, z_e13⟩
theorem z_p14 : z_Pid 14 := ⟨zd_X_lead, _, rfl, z_e14⟩
theorem z_p15 : z_Pid 15 := ⟨zd_X_nexts, _, rfl, z_e15⟩
theorem z_p16 : z_Pid 16 := ⟨zd_X_has, _, rfl, z_e16⟩
theorem z_p17 : z_Pid 17 := ⟨zd_X_take, _, rfl, z_e17⟩
theorem z_p18 : z_Pid 18 := ⟨zd_X_leave, _, rfl, z_e18⟩
theorem z_p19 : z_Pid 19 := ⟨zd_X_add, _, rfl, z_e19⟩
theorem z_p20 : z_Pid 20 := ⟨zd_X_drop, _, rfl, z_e20⟩
theorem z_p21 : z_Pid 21 := ⟨zd_X_draw, _, rfl, z_e21⟩
theorem z_p22 : z_Pid 22 := ⟨zd_X_keep, _, rfl, z_e22⟩
theorem z_p23 : z_Pid 23 := ⟨zd_X_back, _, rfl, z_e23⟩
theorem z_p24 : z_Pid 24 := ⟨zd_X_sheet, _, rfl, z_e24⟩
theorem z_p25 : z_Pid 25 := ⟨zd_X_lay, _, rfl, z_e25⟩
theorem z_p26 : z_Pid 26 := ⟨zd_X_read, _, rfl, z_e26⟩
theorem z_p27 : z_Pid 27 := ⟨zd_X_torn, _, rfl, z_e27⟩
theorem z_p28 : z_Pid 28 := ⟨zd_X_count, _, rfl, z_e28⟩
theorem z_p29 : z_Pid 29 := ⟨zd_X_programOf, _, rfl, z_e29⟩
theorem z_p30 : z_Pid 30 := ⟨zd_X_runTest, _, rfl, z_e30⟩
theorem z_p31 : z_Pid 31 := ⟨zd_X_edgesInDanger, _, rfl, z_e31⟩
theorem z_p32 : z_Pid 32 := ⟨zd_X_saysTheSame, _, rfl, z_e32⟩
theorem z_p33 : z_Pid 33 := ⟨zd_X_testsThatSayOther, _, rfl, z_e33⟩
theorem z_p34 : z_Pid 34 := ⟨zd_X_imagesKept, _, rfl, z_e34⟩
theorem z_p35 : z_Pid 35 := ⟨zd_X_firstRefused, _, rfl, z_e35⟩
theorem z_p36 : z_Pid 36 := ⟨zd_X_turnAll, _, rfl, z_e36⟩
theorem z_p37 : z_Pid 37 := ⟨zd_X_isName, _, rfl, z_e37⟩
theorem z_p38 : z_Pid 38 := ⟨zd_X_isNode, _, rfl, z_e38⟩
theorem z_p39 : z_Pid 39 := ⟨zd_X_isImage, _, rfl, z_e39⟩
theorem z_p40 : z_Pid 40 := ⟨zd_X_isSheet, _, rfl, z_e40⟩
theorem z_p41 : z_Pid 41 := ⟨zd_X_isLane, _, rfl, z_e41⟩
theorem z_p42 : z_Pid 42 := ⟨zd_X_placeOf, _, rfl, z_e42⟩
theorem z_p43 : z_Pid 43 := ⟨zd_X_edgeOfNext, _, rfl, z_e43⟩
theorem z_p44 : z_Pid 44 := ⟨zd_X_edgeOfCall, _, rfl, z_e44⟩
theorem z_p45 : z_Pid 45 := ⟨zd_Tp_append, _, rfl, z_e45⟩
theorem z_p46 : z_Pid 46 := ⟨zd_Tp_rewind, _, rfl, z_e46⟩
theorem z_p47 : z_Pid 47 := ⟨zd_Tp_advance, _, rfl, z_e47⟩
theorem z_p48 : z_Pid 48 := ⟨zd_Tp_isWord, _, rfl, z_e48⟩
theorem z_p49 : z_Pid 49 := ⟨zd_Tp_takeWord, _, rfl, z_e49⟩
theorem z_p50 : z_Pid 50 := ⟨zd_Tp_takeNumber, _, rfl, z_e50⟩
theorem z_p51 : z_Pid 51 := ⟨zd_Tp_isLetter, _, rfl, z_e51⟩
theorem z_p52 : z_Pid 52 := ⟨zd_Tp_isFigure, _, rfl, z_e52⟩
theorem z_p53 : z_Pid 53 := ⟨zd_Rd_readAll, _, rfl, z_e53⟩
theorem z_p54 : z_Pid 54 := ⟨zd_Rd_fail, _, rfl, z_e54⟩
theorem z_p55 : z_Pid 55 := ⟨zd_Rd_advance, _, rfl, z_e55⟩
theorem z_p56 : z_Pid 56 := ⟨zd_Rd_readLine, _, rfl, z_e56⟩
theorem z_p57 : z_Pid 57 := ⟨zd_Rd_lineOfWord, _, rfl, z_e57⟩
theorem z_p58 : z_Pid 58 := ⟨zd_Rd_wordOf, _, rfl, z_e58⟩
theorem z_p59 : z_Pid 59 := ⟨zd_Rd_hasRoomFor, _, rfl, z_e59⟩
theorem z_p60 : z_Pid 60 := ⟨zd_Rd_readRest, _, rfl, z_e60⟩
theorem z_p61 : z_Pid 61 := ⟨zd_Rd_leastArguments, _, rfl, z_e61⟩
theorem z_p62 : z_Pid 62 := ⟨zd_Rd_mostArguments, _, rfl, z_e62⟩
theorem z_p63 : z_Pid 63 := ⟨zd_Rd_isWithin, _, rfl, z_e63⟩
theorem z_p64 : z_Pid 64 := ⟨zd_Rd_tell, _, rfl, z_e64⟩
theorem z_p65 : z_Pid 65 := ⟨zd_Rd_tellNode, _, rfl, z_e65⟩
theorem z_p66 : z_Pid 66 := ⟨zd_Rd_tellHas, _, rfl, z_e66⟩
theorem z_p67 : z_Pid 67 := ⟨zd_Rd_tellsWhatIsNotThere, _, rfl, z_e67⟩
theorem z_p68 : z_Pid 68 := ⟨zd_P_clear, _, rfl, z_e68⟩
theorem z_p69 : z_Pid 69 := ⟨zd_P_becomeAs, _, rfl, z_e69⟩
theorem z_p70 : z_Pid 70 := ⟨zd_P_hasMethod, _, rfl, z_e70⟩
theorem z_p71 : z_Pid 71 := ⟨zd_P_hasNode, _, rfl, z_e71⟩
theorem z_p72 : z_Pid 72 := ⟨zd_P_hasNext, _, rfl, z_e72⟩
theorem z_p73 : z_Pid 73 := ⟨zd_P_hasClass, _, rfl, z_e73⟩
theorem z_p74 : z_Pid 74 := ⟨zd_P_hasEdge, _, rfl, z_e74⟩
theorem z_p75 : z_Pid 75 := ⟨zd_P_nextOf, _, rfl, z_e75⟩
theorem z_p76 : z_Pid 76 := ⟨zd_P_mayTurn, _, rfl, z_e76⟩
theorem z_p77 : z_Pid 77 := ⟨zd_P_turn, _, rfl, z_e77⟩
theorem z_p78 : z_Pid 78 := ⟨zd_P_widen, _, rfl, z_e78⟩
theorem z_p79 : z_Pid 79 := ⟨zd_P_meantBy, _, rfl, z_e79⟩
theorem z_p80 : z_Pid 80 := ⟨zd_P_partOf, _, rfl, z_e80⟩
theorem z_p81 : z_Pid 81 := ⟨zd_P_nodesOfAll, _, rfl, z_e81⟩
theorem z_p82 : z_Pid 82 := ⟨zd_P_nodesThatCall, _, rfl, z_e82⟩
theorem z_p83 : z_Pid 83 := ⟨zd_P_nodesOtherThan, _, rfl, z_e83⟩
theorem z_p84 : z_Pid 84 := ⟨zd_P_isNodeAsIn, _, rfl, z_e84⟩
theorem z_p85 : z_Pid 85 := ⟨zd_P_appendMethod, _, rfl, z_e85⟩
theorem z_p86 : z_Pid 86 := ⟨zd_P_appendNode, _, rfl, z_e86⟩
theorem z_p87 : z_Pid 87 := ⟨zd_P_appendNext, _, rfl, z_e87⟩
theorem z_p88 : z_Pid 88 := ⟨zd_P_appendClass, _, rfl, z_e88⟩
theorem z_p89 : z_Pid 89 := ⟨zd_P_leadsOnlyToNodes, _, rfl, z_e89⟩
theorem z_p90 : z_Pid 90 := ⟨zd_Ts_isThere, _, rfl, z_e90⟩
theorem z_p91 : z_Pid 91 := ⟨zd_Ts_isFull, _, rfl, z_e91⟩
theorem z_p92 : z_Pid 92 := ⟨zd_Ts_becomeAs, _, rfl, z_e92⟩
theorem z_p93 : z_Pid 93 := ⟨zd_Ts_append, _, rfl, z_e93⟩
theorem z_p94 : z_Pid 94 := ⟨zd_Ts_remove, _, rfl, z_e94⟩
theorem z_p95 : z_Pid 95 := ⟨zd_Ru_begin, _, rfl, z_e95⟩
theorem z_p96 : z_Pid 96 := ⟨zd_Ru_enter, _, rfl, z_e96⟩
theorem z_p97 : z_Pid 97 := ⟨zd_Ru_visit, _, rfl, z_e97⟩
theorem z_p98 : z_Pid 98 := ⟨zd_Ru_enterMeant, _, rfl, z_e98⟩
theorem z_p99 : z_Pid 99 := ⟨zd_Ru_goOn, _, rfl, z_e99⟩
theorem z_p100 : z_Pid 100 := ⟨zd_Ru_decide, _, rfl, z_e100⟩
theorem z_p101 : z_Pid 101 := ⟨zd_Es_clear, _, rfl, z_e101⟩
theorem z_p102 : z_Pid 102 := ⟨zd_Es_becomeAs, _, rfl, z_e102⟩
theorem z_p103 : z_Pid 103 := ⟨zd_Es_put, _, rfl, z_e103⟩
theorem z_p104 : z_Pid 104 := ⟨zd_Es_putAll, _, rfl, z_e104⟩
theorem z_p105 : z_Pid 105 := ⟨zd_Es_takeOut, _, rfl, z_e105⟩
theorem z_p106 : z_Pid 106 := ⟨zd_Es_holds, _, rfl, z_e106⟩
theorem z_p107 : z_Pid 107 := ⟨zd_Es_size, _, rfl, z_e107⟩
theorem z_p108 : z_Pid 108 := ⟨zd_Es_sizeWithin, _, rfl, z_e108⟩
theorem z_p109 : z_Pid 109 := ⟨zd_Dg_compare, _, rfl, z_e109⟩
theorem z_p110 : z_Pid 110 := ⟨zd_Dg_compareMethod, _, rfl, z_e110⟩
theorem z_p111 : z_Pid 111 := ⟨zd_Dg_compareNexts, _, rfl, z_e111⟩
theorem z_p112 : z_Pid 112 := ⟨zd_Dg_pairUp, _, rfl, z_e112⟩
theorem z_p113 : z_Pid 113 := ⟨zd_Dg_areAlike, _, rfl, z_e113⟩
theorem z_p114 : z_Pid 114 := ⟨zd_Ch_choose, _, rfl, z_e114⟩
theorem z_p115 : z_Pid 115 := ⟨zd_Ch_tellTest, _, rfl, z_e115⟩
theorem z_p116 : z_Pid 116 := ⟨zd_Ch_costOfChosen, _, rfl, z_e116⟩
theorem z_p117 : z_Pid 117 := ⟨zd_Ch_testsOver, _, rfl, z_e117⟩
theorem z_p118 : z_Pid 118 := ⟨zd_Ch_edgesOver, _, rfl, z_e118⟩
theorem z_p119 : z_Pid 119 := ⟨zd_Ch_rankAll, _, rfl, z_e119⟩
theorem z_p120 : z_Pid 120 := ⟨zd_Ch_nextOne, _, rfl, z_e120⟩
theorem z_p121 : z_Pid 121 := ⟨zd_Ch_rank, _, rfl, z_e121⟩
theorem z_p122 : z_Pid 122 := ⟨zd_Sh_renew, _, rfl, z_e122⟩
theorem z_p123 : z_Pid 123 := ⟨zd_Sh_put, _, rfl, z_e123⟩
theorem z_p124 : z_Pid 124 := ⟨zd_Sh_cellAt, _, rfl, z_e124⟩
theorem z_p125 : z_Pid 125 := ⟨zd_Sh_faultAs, _, rfl, z_e125⟩
theorem z_p126 : z_Pid 126 := ⟨zd_Sh_wholeFrom, _, rfl, z_e126⟩
theorem z_p127 : z_Pid 127 := ⟨zd_M_in, _, rfl, z_e127⟩
theorem z_p128 : z_Pid 128 := ⟨zd_M_flag, _, rfl, z_e128⟩
theorem z_p129 : z_Pid 129 := ⟨zd_M_nodeAt, _, rfl, z_e129⟩
theorem z_p130 : z_Pid 130 := ⟨zd_M_hasAt, _, rfl, z_e130⟩
theorem z_p131 : z_Pid 131 := ⟨zd_M_firstDraft, _, rfl, z_e131⟩
theorem z_p132 : z_Pid 132 := ⟨zd_M_keepDraft, _, rfl, z_e132⟩
theorem z_p133 : z_Pid 133 := ⟨zd_M_feed, _, rfl, z_e133⟩
theorem z_p134 : z_Pid 134 := ⟨zd_M_end, _, rfl, z_e134⟩
theorem z_p135 : z_Pid 135 := ⟨zd_M_requires, _, rfl, z_e135⟩
theorem z_p136 : z_Pid 136 := ⟨zd_M_byteAt, _, rfl, z_e136⟩
theorem z_p137 : z_Pid 137 := ⟨zd_M_is, _, rfl, z_e137⟩
theorem z_p138 : z_Pid 138 := ⟨zd_M_lineNow, _, rfl, z_e138⟩
theorem z_p139 : z_Pid 139 := ⟨zd_M_reads, _, rfl, z_e139⟩
theorem z_p140 : z_Pid 140 := ⟨zd_M_readNumber, _, rfl, z_e140⟩
theorem z_p141 : z_Pid 141 := ⟨zd_M_methodNow, _, rfl, z_e141⟩
theorem z_p142 : z_Pid 142 := ⟨zd_M_readNode, _, rfl, z_e142⟩
theorem z_p143 : z_Pid 143 := ⟨zd_M_readClass, _, rfl, z_e143⟩
theorem z_p144 : z_Pid 144 := ⟨zd_M_readHas, _, rfl, z_e144⟩
theorem z_p145 : z_Pid 145 := ⟨zd_M_readTest, _, rfl, z_e145⟩
theorem z_p146 : z_Pid 146 := ⟨zd_M_hasRoom, _, rfl, z_e146⟩
theorem z_p147 : z_Pid 147 := ⟨zd_M_readLineOf, _, rfl, z_e147⟩
theorem z_p148 : z_Pid 148 := ⟨zd_M_readLine, _, rfl, z_e148⟩
theorem z_p149 : z_Pid 149 := ⟨zd_M_isWhole, _, rfl, z_e149⟩
theorem z_p150 : z_Pid 150 := ⟨zd_M_text, _, rfl, z_e150⟩
theorem z_p151 : z_Pid 151 := ⟨zd_M_fault, _, rfl, z_e151⟩
theorem z_p152 : z_Pid 152 := ⟨zd_M_isMethod, _, rfl, z_e152⟩
theorem z_p153 : z_Pid 153 := ⟨zd_M_isNode, _, rfl, z_e153⟩
theorem z_p154 : z_Pid 154 := ⟨zd_M_isClass, _, rfl, z_e154⟩
theorem z_p155 : z_Pid 155 := ⟨zd_M_isName, _, rfl, z_e155⟩
theorem z_p156 : z_Pid 156 := ⟨zd_M_isTest, _, rfl, z_e156⟩
theorem z_p157 : z_Pid 157 := ⟨zd_M_isPart, _, rfl, z_e157⟩
theorem z_p158 : z_Pid 158 := ⟨zd_M_ofNode, _, rfl, z_e158⟩
theorem z_p159 : z_Pid 159 := ⟨zd_M_meantBy, _, rfl, z_e159⟩
theorem z_p160 : z_Pid 160 := ⟨zd_M_says, _, rfl, z_e160⟩
theorem z_p161 : z_Pid 161 := ⟨zd_M_goesTo, _, rfl, z_e161⟩
theorem z_p162 : z_Pid 162 := ⟨zd_M_comesBack, _, rfl, z_e162⟩
theorem z_p163 : z_Pid 163 := ⟨zd_M_enters, _, rfl, z_e163⟩
theorem z_p164 : z_Pid 164 := ⟨zd_M_goesOn, _, rfl, z_e164⟩
theorem z_p165 : z_Pid 165 := ⟨zd_M_callsIn, _, rfl, z_e165⟩
theorem z_p166 : z_Pid 166 := ⟨zd_M_runs, _, rfl, z_e166⟩
theorem z_p167 : z_Pid 167 := ⟨zd_M_ofTest, _, rfl, z_e167⟩
theorem z_p168 : z_Pid 168 := ⟨zd_M_runsTest, _, rfl, z_e168⟩
theorem z_p169 : z_Pid 169 := ⟨zd_M_areAlike, _, rfl, z_e169⟩
theorem z_p170 : z_Pid 170 := ⟨zd_M_pairsOn, _, rfl, z_e170⟩
theorem z_p171 : z_Pid 171 := ⟨zd_M_findPairs, _, rfl, z_e171⟩
theorem z_p172 : z_Pid 172 := ⟨zd_M_findDanger, _, rfl, z_e172⟩
theorem z_p173 : z_Pid 173 := ⟨zd_M_dangers, _, rfl, z_e173⟩
theorem z_p174 : z_Pid 174 := ⟨zd_M_dangersOf, _, rfl, z_e174⟩
theorem z_p175 : z_Pid 175 := ⟨zd_M_findOrder, _, rfl, z_e175⟩
theorem z_p176 : z_Pid 176 := ⟨zd_M_comesNext, _, rfl, z_e176⟩
theorem z_p177 : z_Pid 177 := ⟨zd_M_rankOf, _, rfl, z_e177⟩
theorem z_p178 : z_Pid 178 := ⟨zd_M_nodesOfAll, _, rfl, z_e178⟩
theorem z_p179 : z_Pid 179 := ⟨zd_M_costsChosen, _, rfl, z_e179⟩
theorem z_p180 : z_Pid 180 := ⟨zd_M_chosen, _, rfl, z_e180⟩
theorem z_p181 : z_Pid 181 := ⟨zd_M_areSame, _, rfl, z_e181⟩
theorem z_p182 : z_Pid 182 := ⟨zd_M_others, _, rfl, z_e182⟩
theorem z_p183 : z_Pid 183 := ⟨zd_M_rule, _, rfl, z_e183⟩
theorem z_p184 : z_Pid 184 := ⟨zd_M_node, _, rfl, z_e184⟩
theorem z_p185 : z_Pid 185 := ⟨zd_M_meant, _, rfl, z_e185⟩
theorem z_p186 : z_Pid 186 := ⟨zd_M_coveredMany, _, rfl, z_e186⟩
theorem z_p187 : z_Pid 187 := ⟨zd_M_nodesRun, _, rfl, z_e187⟩
theorem z_p188 : z_Pid 188 := ⟨zd_M_coveredBy, _, rfl, z_e188⟩
theorem z_p189 : z_Pid 189 := ⟨zd_M_dangersBy, _, rfl, z_e189⟩
theorem z_p190 : z_Pid 190 := ⟨zd_M_test, _, rfl, z_e190⟩
theorem z_p191 : z_Pid 191 := ⟨zd_M_said, _, rfl, z_e191⟩
theorem z_p192 : z_Pid 192 := ⟨zd_M_isEdge, _, rfl, z_e192⟩
theorem z_p193 : z_Pid 193 := ⟨zd_M_testsOver, _, rfl, z_e193⟩
theorem z_p194 : z_Pid 194 := ⟨zd_M_edge, _, rfl, z_e194⟩
theorem z_p195 : z_Pid 195 := ⟨zd_M_covers, _, rfl, z_e195⟩
theorem z_p196 : z_Pid 196 := ⟨zd_M_order, _, rfl, z_e196⟩
theorem z_p197 : z_Pid 197 := ⟨zd_M_same, _, rfl, z_e197⟩
theorem z_p198 : z_Pid 198 := ⟨zd_M_say, _, rfl, z_e198⟩
theorem z_p199 : z_Pid 199 := ⟨zd_M_lead, _, rfl, z_e199⟩
theorem z_p200 : z_Pid 200 := ⟨zd_M_nexts, _, rfl, z_e200⟩
theorem z_p201 : z_Pid 201 := ⟨zd_M_has, _, rfl, z_e201⟩
theorem z_p202 : z_Pid 202 := ⟨zd_M_becomes, _, rfl, z_e202⟩
theorem z_p203 : z_Pid 203 := ⟨zd_M_take, _, rfl, z_e203⟩
theorem z_p204 : z_Pid 204 := ⟨zd_M_leave, _, rfl, z_e204⟩
theorem z_p205 : z_Pid 205 := ⟨zd_M_comes, _, rfl, z_e205⟩
theorem z_p206 : z_Pid 206 := ⟨zd_M_add, _, rfl, z_e206⟩
theorem z_p207 : z_Pid 207 := ⟨zd_M_drop, _, rfl, z_e207⟩
theorem z_p208 : z_Pid 208 := ⟨zd_M_draw, _, rfl, z_e208⟩
theorem z_p209 : z_Pid 209 := ⟨zd_M_keep, _, rfl, z_e209⟩
theorem z_p210 : z_Pid 210 := ⟨zd_M_back, _, rfl, z_e210⟩
theorem z_p211 : z_Pid 211 := ⟨zd_M_isSheet, _, rfl, z_e211⟩
theorem z_p212 : z_Pid 212 := ⟨zd_M_sheet, _, rfl, z_e212⟩
theorem z_p213 : z_Pid 213 := ⟨zd_M_lay, _, rfl, z_e213⟩
theorem z_p214 : z_Pid 214 := ⟨zd_M_read, _, rfl, z_e214⟩
theorem z_p215 : z_Pid 215 := ⟨zd_M_torn, _, rfl, z_e215⟩
theorem z_p216 : z_Pid 216 := ⟨zd_M_callsOld, _, rfl, z_e216⟩
theorem z_p217 : z_Pid 217 := ⟨zd_M_isOther, _, rfl, z_e217⟩
theorem z_p218 : z_Pid 218 := ⟨zd_M_nodesOther, _, rfl, z_e218⟩
theorem z_p219 : z_Pid 219 := ⟨zd_M_edgesOver, _, rfl, z_e219⟩
theorem z_p220 : z_Pid 220 := ⟨zd_M_count, _, rfl, z_e220⟩
theorem z_pl0 : ∀ id, id < 20 → z_Pid id := lt_s (lt_s (lt_s (lt_s (lt_s (lt_s (lt_s (lt_s (lt_s (lt_s (lt_s (lt_s (lt_s (lt_s (lt_s (lt_s (lt_s (lt_s (lt_s (lt_s (lt_0) z_p0) z_p1) z_p2) z_p3) z_p4) z_p5) z_p6) z_p7) z_p8) z_p9) z_p10) z_p11) z_p12) z_p13) z_p14) z_p15) z_p16) z_p17) z_p18) z_p19
theorem z_pl20 : ∀ id, id < 40 → z_Pid id := lt_s (lt_s (lt_s (lt_s (lt_s (lt_s (lt_s (lt_s (lt_s (lt_s (lt_s (lt_s (lt_s (lt_s (lt_s (lt_s (lt_s (lt_s (lt_s (lt_s (z_pl0) z_p20) z_p21) z_p22) z_p23) z_p24) z_p25) z_p26) z_p27) z_p28) z_p29) z_p30) z_p31) z_p32) z_p33) z_p34) z_p35) z_p36) z_p37) z_p38) z_p39
theorem z_pl40 : ∀ id, id < 60 → z_Pid id := lt_s (lt_s (lt_s (lt_s (lt_s (lt_s (lt_s (lt_s (lt_s (lt_s (lt_s (lt_s (lt_s (lt_s (lt_s (lt_s (lt_s (lt_s (lt_s (lt_s (z_pl20) z_p40) z_p41) z_p42) z_p43) z_p44) z_p45) z_p46) z_p47) z_p48) z_p49) z_p50) z_p51) z_p52) z_p53) z_p54) z_p55) z_p56) z_p57) z_p58) z_p59
theorem z_pl60 : ∀ id, id < 80 → z_Pid id := lt_s (lt_s (lt_s (lt_s (lt_s (lt_s (lt_s (lt_s (lt_s (lt_s (lt_s (lt_s (lt_s (lt_s (lt_s (lt_s (lt_s (lt_s (lt_s (lt_s (z_pl40) z_p60) z_p61) z_p62) z_p63) z_p64) z_p65) z_p66) z_p67) z_p68) z_p69) z_p70) z_p71) z_p72) z_p73) z_p74) z_p75) z_p76) z_p77) z_p78) z_p79
theorem z_pl80 : ∀ id, id < 100 → z_Pid id := lt_s (lt_s (lt_s (lt_s (lt_s (lt_s (lt_s (lt_s (lt_s (lt_s (lt_s (lt_s (lt_s (lt_s (lt_s (lt_s (lt_s (lt_s (lt_s (lt_s (z_pl60) z_p80) z_p81) z_p82) z_p83) z_p84) z_p85) z_p86) z_p87) z_p88) z_p89) z_p90) z_p91) z_p92) z_p93) z_p94) z_p95) z_p96) z_p97) z_p98) z_p99
theorem z_pl100 : ∀ id, id < 120 → z_Pid id := lt_s (lt_s (lt_s (lt_s (lt_s (lt_s (lt_s (lt_s (lt_s (lt_s (lt_s (lt_s (lt_s (lt_s (lt_s (lt_s (lt_s (lt_s (lt_s (lt_s (z_pl80) z_p100) z_p101) z_p102) z_p103) z_p104) z_p105) z_p106) z_p107) z_p108) z_p109) z_p110) z_p111) z_p112) z_p113) z_p114) z_p115) z_p116) z_p117) z_p118) z_p119
theorem z_pl120 : ∀ id, id < 140 → z_Pid id := lt_s (lt_s (lt_s (lt_s (lt_s (lt_s (lt_s (lt_s (lt_s (lt_s (lt_s (lt_s (lt_s (lt_s (lt_s (lt_s (lt_s (lt_s (lt_s (lt_s (z_pl100) z_p120) z_p121) z_p122) z_p123) z_p124) z_p125) z_p126) z_p127) z_p128) z_p129) z_p130) z_p131) z_p132) z_p133) z_p134) z_p135) z_p136) z_p137) z_p138) z_p139
theorem z_pl140 : ∀ id, id < 160 → z_Pid id := lt_s (lt_s (lt_s (lt_s (lt_s (lt_s (lt_s (lt_s (lt_s (lt_s (lt_s (lt_s (lt_s (lt_s (lt_s (lt_s (lt_s (lt_s (lt_s (lt_s (z_pl120) z_p140) z_p141) z_p142) z_p143) z_p144) z_p145) z_p146) z_p147) z_p148) z_p149) z_p150) z_p151) z_p152) z_p153) z_p154) z_p155) z_p156) z_p157) z_p158) z_p159
theorem z_pl160 : ∀ id, id < 180 → z_Pid id := lt_s (lt_s (lt_s (lt_s (lt_s (lt_s (lt_s (lt_s (lt_s (lt_s (lt_s (lt_s (lt_s (lt_s (lt_s (lt_s (lt_s (lt_s (lt_s (lt_s (z_pl140) z_p160) z_p161) z_p162) z_p163) z_p164) z_p165) z_p166) z_p167) z_p168) z_p169) z_p170) z_p171) z_p172) z_p173) z_p174) z_p175) z_p176) z_p177) z_p178) z_p179
theorem z_pl180 : ∀ id, id < 200 → z_Pid id := lt_s (lt_s (lt_s (lt_s (lt_s (lt_s (lt_s (lt_s (lt_s (lt_s (lt_s (lt_s (lt_s (lt_s (lt_s (lt_s (lt_s (lt_s (lt_s (lt_s (z_pl160) z_p180) z_p181) z_p182) z_p183) z_p184) z_p185) z_p186) z_p187) z_p188) z_p189) z_p190) z_p191) z_p192) z_p193) z_p194) z_p195) z_p196) z_p197) z_p198) z_p199
theorem z_pl200 : ∀ id, id < 220 → z_Pid id := lt_s (lt_s (lt_s (lt_s (lt_s (lt_s (lt_s (lt_s (lt_s (lt_s (lt_s (lt_s (lt_s (lt_s (lt_s (lt_s (lt_s (lt_s (lt_s (lt_s (z_pl180) z_p200) z_p201) z_p202) z_p203) z_p204) z_p205) z_p206) z_p207) z_p208) z_p209) z_p210) z_p211) z_p212) z_p213) z_p214) z_p215) z_p216) z_p217) z_p218) z_p219
theorem z_pl220 : ∀ id, id < 221 → z_Pid id := lt_s (z_pl200) z_p220
theorem z_allok_ok : z_allok := by
  intro id pc i hid hc
  obtain ⟨zd, ps, h1, h2⟩ := z_pl220 id hid
  rw [h1] at hc
  exact z_ent_ok h2 hc
