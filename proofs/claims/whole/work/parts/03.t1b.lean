theorem tg_927 : Cond.instanceMethod yX7_hollowsOf ∈ tblG := inG_i 927 (by decide +kernel) (by decide +kernel)
theorem tg_928 : Cond.selects RX7 yX7_hollowsOf yX7_hollowsOf ∈ tblG := inG_i 928 (by decide +kernel) (by decide +kernel)
theorem tg_941 : Cond.code yX9_needHollow cX9_needHollow 2 none ∈ tblG := inG_i 941 (by decide +kernel) (by decide +kernel)
theorem ok_X9_needHollow : okY yX9_needHollow 1 = true := by decide +kernel
theorem tg_938 : Cond.methodLink RX9 155 yX9_needHollow ∈ tblG := inG_i 938 (by decide +kernel) (by decide +kernel)
theorem tg_940 : Cond.instanceMethod yX9_needHollow ∈ tblG := inG_i 940 (by decide +kernel) (by decide +kernel)
theorem tg_23 : Cond.selects RX9 yX9_needHollow yX9_needHollow ∈ tblG := inG_i 23 (by decide +kernel) (by decide +kernel)
theorem tw_151 : Cond.fieldLinkNest RX9 158 RX7 "hollow" "[J" RX9 ∈ lw_tbl := List.mem_of_getElem? (i := 151) (by decide +kernel)
theorem tg_965 : Cond.methodLink RX9 164 yX1_apartOf ∈ tblG := inG_i 965 (by decide +kernel) (by decide +kernel)
theorem tg_980 : Cond.methodLink RX9 168 yX1_leastSet ∈ tblG := inG_i 980 (by decide +kernel) (by decide +kernel)
theorem tg_996 : Cond.methodLink RX9 172 yJ6_bitCount_0f7a4 ∈ tblG := inG_i 996 (by decide +kernel) (by decide +kernel)
theorem tg_1012 : Cond.code yX1_serverOf cX1_serverOf 6 (some .int) ∈ tblG := inG_i 1012 (by decide +kernel) (by decide +kernel)
theorem ok_X1_serverOf : okY yX1_serverOf 3 = true := by decide +kernel
theorem tg_1009 : Cond.methodLink RX9 176 yX1_serverOf ∈ tblG := inG_i 1009 (by decide +kernel) (by decide +kernel)
theorem tg_1010 : Cond.instanceMethod yX1_serverOf ∈ tblG := inG_i 1010 (by decide +kernel) (by decide +kernel)
theorem tg_1011 : Cond.selects RX1 yX1_serverOf yX1_serverOf ∈ tblG := inG_i 1011 (by decide +kernel) (by decide +kernel)
theorem tg_1024 : Cond.code yX9_linesOf cX9_linesOf 8 (some .long) ∈ tblG := inG_i 1024 (by decide +kernel) (by decide +kernel)
theorem ok_X9_linesOf : okY yX9_linesOf 1 = true := by decide +kernel
theorem tg_1021 : Cond.methodLink RX9 179 yX9_linesOf ∈ tblG := inG_i 1021 (by decide +kernel) (by decide +kernel)
theorem tg_1023 : Cond.instanceMethod yX9_linesOf ∈ tblG := inG_i 1023 (by decide +kernel) (by decide +kernel)
theorem tg_26 : Cond.selects RX9 yX9_linesOf yX9_linesOf ∈ tblG := inG_i 26 (by decide +kernel) (by decide +kernel)
theorem tg_1047 : Cond.code yX0_takePunch cX0_takePunch 2 none ∈ tblG := inG_i 1047 (by decide +kernel) (by decide +kernel)
theorem ok_X0_takePunch : okY yX0_takePunch 1 = true := by decide +kernel
theorem tg_1044 : Cond.methodLink RX9 183 yX0_takePunch ∈ tblG := inG_i 1044 (by decide +kernel) (by decide +kernel)
theorem tg_1045 : Cond.instanceMethod yX0_takePunch ∈ tblG := inG_i 1045 (by decide +kernel) (by decide +kernel)
theorem tg_1046 : Cond.selects RX0 yX0_takePunch yX0_takePunch ∈ tblG := inG_i 1046 (by decide +kernel) (by decide +kernel)
theorem tw_156 : Cond.fieldLinkNest RX9 190 RX7 "owner" "[I" RX9 ∈ lw_tbl := List.mem_of_getElem? (i := 156) (by decide +kernel)
theorem tg_1058 : Cond.code yX0_strike cX0_strike 3 (some .int) ∈ tblG := inG_i 1058 (by decide +kernel) (by decide +kernel)
theorem ok_X0_strike : okY yX0_strike 1 = true := by decide +kernel
theorem tg_1055 : Cond.methodLink RX9 197 yX0_strike ∈ tblG := inG_i 1055 (by decide +kernel) (by decide +kernel)
theorem tg_1056 : Cond.instanceMethod yX0_strike ∈ tblG := inG_i 1056 (by decide +kernel) (by decide +kernel)
theorem tg_1057 : Cond.selects RX0 yX0_strike yX0_strike ∈ tblG := inG_i 1057 (by decide +kernel) (by decide +kernel)
theorem tg_1076 : Cond.code yX9_needFile cX9_needFile 3 none ∈ tblG := inG_i 1076 (by decide +kernel) (by decide +kernel)
theorem ok_X9_needFile : okY yX9_needFile 3 = true := by decide +kernel
theorem tg_1074 : Cond.methodLink RX9 200 yX9_needFile ∈ tblG := inG_i 1074 (by decide +kernel) (by decide +kernel)
theorem tg_1075 : Cond.static yX9_needFile ∈ tblG := inG_i 1075 (by decide +kernel) (by decide +kernel)
theorem tg_1079 : Cond.code yX4_filed cX4_filed 3 (some .long) ∈ tblG := inG_i 1079 (by decide +kernel) (by decide +kernel)
theorem ok_X4_filed : okY yX4_filed 3 = true := by decide +kernel
theorem tg_1077 : Cond.methodLink RX9 203 yX4_filed ∈ tblG := inG_i 1077 (by decide +kernel) (by decide +kernel)
theorem tg_1078 : Cond.static yX4_filed ∈ tblG := inG_i 1078 (by decide +kernel) (by decide +kernel)
theorem tg_1080 : Cond.methodLink RX9 207 yX0_take ∈ tblG := inG_i 1080 (by decide +kernel) (by decide +kernel)
theorem tw_373 : Cond.fieldLinkNest RX9 220 RX0 "burst" "Z" RX9 ∈ lw_tbl := List.mem_of_getElem? (i := 373) (by decide +kernel)
theorem tg_1090 : Cond.code yX9_asNumber cX9_asNumber 1 (some .int) ∈ tblG := inG_i 1090 (by decide +kernel) (by decide +kernel)
theorem ok_X9_asNumber : okY yX9_asNumber 1 = true := by decide +kernel
theorem tg_1088 : Cond.methodLink RX9 216 yX9_asNumber ∈ tblG := inG_i 1088 (by decide +kernel) (by decide +kernel)
theorem tg_1089 : Cond.static yX9_asNumber ∈ tblG := inG_i 1089 (by decide +kernel) (by decide +kernel)
theorem tg_1101 : Cond.code yX0_addAct cX0_addAct 4 (some .int) ∈ tblG := inG_i 1101 (by decide +kernel) (by decide +kernel)
theorem ok_X0_addAct : okY yX0_addAct 2 = true := by decide +kernel
theorem tg_1098 : Cond.methodLink RX9 224 yX0_addAct ∈ tblG := inG_i 1098 (by decide +kernel) (by decide +kernel)
theorem tg_1099 : Cond.instanceMethod yX0_addAct ∈ tblG := inG_i 1099 (by decide +kernel) (by decide +kernel)
theorem tg_1100 : Cond.selects RX0 yX0_addAct yX0_addAct ∈ tblG := inG_i 1100 (by decide +kernel) (by decide +kernel)
theorem tg_1127 : Cond.code yX0_goneBehind cX0_goneBehind 7 (some .long) ∈ tblG := inG_i 1127 (by decide +kernel) (by decide +kernel)
theorem ok_X0_goneBehind : okY yX0_goneBehind 3 = true := by decide +kernel
theorem tg_1124 : Cond.methodLink RX9 235 yX0_goneBehind ∈ tblG := inG_i 1124 (by decide +kernel) (by decide +kernel)
theorem tg_1125 : Cond.instanceMethod yX0_goneBehind ∈ tblG := inG_i 1125 (by decide +kernel) (by decide +kernel)
theorem tg_1126 : Cond.selects RX0 yX0_goneBehind yX0_goneBehind ∈ tblG := inG_i 1126 (by decide +kernel) (by decide +kernel)
theorem tg_1119 : Cond.code yX0_firstSpoiling cX0_firstSpoiling 6 (some .int) ∈ tblG := inG_i 1119 (by decide +kernel) (by decide +kernel)
theorem ok_X0_firstSpoiling : okY yX0_firstSpoiling 2 = true := by decide +kernel
theorem tg_1116 : Cond.methodLink RX9 231 yX0_firstSpoiling ∈ tblG := inG_i 1116 (by decide +kernel) (by decide +kernel)
theorem tg_1117 : Cond.instanceMethod yX0_firstSpoiling ∈ tblG := inG_i 1117 (by decide +kernel) (by decide +kernel)
theorem tg_1118 : Cond.selects RX0 yX0_firstSpoiling yX0_firstSpoiling ∈ tblG := inG_i 1118 (by decide +kernel) (by decide +kernel)
theorem tg_484 : Cond.fieldLink RX9 44 RX9 "cutting" "LHollowPunches$Cutting;" ∈ tblG := inG_i 484 (by decide +kernel) (by decide +kernel)
theorem tg_1142 : Cond.code yX2_lay cX2_lay 6 none ∈ tblG := inG_i 1142 (by decide +kernel) (by decide +kernel)
theorem ok_X2_lay : okY yX2_lay 3 = true := by decide +kernel
theorem tg_1139 : Cond.methodLink RX9 359 yX2_lay ∈ tblG := inG_i 1139 (by decide +kernel) (by decide +kernel)
theorem tg_1140 : Cond.instanceMethod yX2_lay ∈ tblG := inG_i 1140 (by decide +kernel) (by decide +kernel)
theorem tg_1141 : Cond.selects RX2 yX2_lay yX2_lay ∈ tblG := inG_i 1141 (by decide +kernel) (by decide +kernel)
theorem tg_1152 : Cond.code yX2_layBites cX2_layBites 6 none ∈ tblG := inG_i 1152 (by decide +kernel) (by decide +kernel)
theorem ok_X2_layBites : okY yX2_layBites 3 = true := by decide +kernel
theorem tg_1149 : Cond.methodLink RX9 362 yX2_layBites ∈ tblG := inG_i 1149 (by decide +kernel) (by decide +kernel)
theorem tg_1150 : Cond.instanceMethod yX2_layBites ∈ tblG := inG_i 1150 (by decide +kernel) (by decide +kernel)
theorem tg_1151 : Cond.selects RX2 yX2_layBites yX2_layBites ∈ tblG := inG_i 1151 (by decide +kernel) (by decide +kernel)
theorem tg_1138 : Cond.code yX9_layCutting cX9_layCutting 6 none ∈ tblG := inG_i 1138 (by decide +kernel) (by decide +kernel)
theorem ok_X9_layCutting : okY yX9_layCutting 3 = true := by decide +kernel
theorem tg_1135 : Cond.methodLink RX9 239 yX9_layCutting ∈ tblG := inG_i 1135 (by decide +kernel) (by decide +kernel)
theorem tg_1137 : Cond.instanceMethod yX9_layCutting ∈ tblG := inG_i 1137 (by decide +kernel) (by decide +kernel)
theorem tg_28 : Cond.selects RX9 yX9_layCutting yX9_layCutting ∈ tblG := inG_i 28 (by decide +kernel) (by decide +kernel)
theorem tg_1160 : Cond.code yX2_mean cX2_mean 6 (some .long) ∈ tblG := inG_i 1160 (by decide +kernel) (by decide +kernel)
theorem ok_X2_mean : okY yX2_mean 0 = true := by decide +kernel
theorem tg_1157 : Cond.methodLink RX9 242 yX2_mean ∈ tblG := inG_i 1157 (by decide +kernel) (by decide +kernel)
theorem tg_1158 : Cond.instanceMethod yX2_mean ∈ tblG := inG_i 1158 (by decide +kernel) (by decide +kernel)
theorem tg_1159 : Cond.selects RX2 yX2_mean yX2_mean ∈ tblG := inG_i 1159 (by decide +kernel) (by decide +kernel)
theorem tg_1185 : Cond.code yX2_actAt cX2_actAt 2 (some .int) ∈ tblG := inG_i 1185 (by decide +kernel) (by decide +kernel)
theorem ok_X2_actAt : okY yX2_actAt 1 = true := by decide +kernel
theorem tg_1182 : Cond.methodLink RX9 246 yX2_actAt ∈ tblG := inG_i 1182 (by decide +kernel) (by decide +kernel)
theorem tg_1183 : Cond.instanceMethod yX2_actAt ∈ tblG := inG_i 1183 (by decide +kernel) (by decide +kernel)
theorem tg_1184 : Cond.selects RX2 yX2_actAt yX2_actAt ∈ tblG := inG_i 1184 (by decide +kernel) (by decide +kernel)
theorem tw_147 : Cond.fieldLinkNest RX9 249 RX7 "spread" "[I" RX9 ∈ lw_tbl := List.mem_of_getElem? (i := 147) (by decide +kernel)
theorem tg_1193 : Cond.methodLink RX9 252 yX6_blackOf ∈ tblG := inG_i 1193 (by decide +kernel) (by decide +kernel)
theorem tg_1205 : Cond.constant RX9 263 9765624 ∈ tblG := inG_i 1205 (by decide +kernel) (by decide +kernel)
theorem tg_1206 : Cond.methodLink RX9 264 yX6_colourOf ∈ tblG := inG_i 1206 (by decide +kernel) (by decide +kernel)
theorem tg_1234 : Cond.code yX6_unevenOf cX6_unevenOf 3 (some .int) ∈ tblG := inG_i 1234 (by decide +kernel) (by decide +kernel)
theorem ok_X6_unevenOf : okY yX6_unevenOf 2 = true := by decide +kernel
theorem tg_1231 : Cond.methodLink RX9 268 yX6_unevenOf ∈ tblG := inG_i 1231 (by decide +kernel) (by decide +kernel)
theorem tg_1232 : Cond.instanceMethod yX6_unevenOf ∈ tblG := inG_i 1232 (by decide +kernel) (by decide +kernel)
theorem tg_1233 : Cond.selects RX6 yX6_unevenOf yX6_unevenOf ∈ tblG := inG_i 1233 (by decide +kernel) (by decide +kernel)
theorem tg_1258 : Cond.code yX6_evenRoom cX6_evenRoom 2 (some .int) ∈ tblG := inG_i 1258 (by decide +kernel) (by decide +kernel)
theorem ok_X6_evenRoom : okY yX6_evenRoom 1 = true := by decide +kernel
theorem tg_1255 : Cond.methodLink RX9 271 yX6_evenRoom ∈ tblG := inG_i 1255 (by decide +kernel) (by decide +kernel)
theorem tg_1256 : Cond.instanceMethod yX6_evenRoom ∈ tblG := inG_i 1256 (by decide +kernel) (by decide +kernel)
theorem tg_1257 : Cond.selects RX6 yX6_evenRoom yX6_evenRoom ∈ tblG := inG_i 1257 (by decide +kernel) (by decide +kernel)
theorem tg_1285 : Cond.constant RX9 274 99999 ∈ tblG := inG_i 1285 (by decide +kernel) (by decide +kernel)
theorem tg_1289 : Cond.code yX6_spreadNearest cX6_spreadNearest 7 (some .int) ∈ tblG := inG_i 1289 (by decide +kernel) (by decide +kernel)
theorem ok_X6_spreadNearest : okY yX6_spreadNearest 1 = true := by decide +kernel
theorem tg_1286 : Cond.methodLink RX9 275 yX6_spreadNearest ∈ tblG := inG_i 1286 (by decide +kernel) (by decide +kernel)
theorem tg_1287 : Cond.instanceMethod yX6_spreadNearest ∈ tblG := inG_i 1287 (by decide +kernel) (by decide +kernel)
theorem tg_1288 : Cond.selects RX6 yX6_spreadNearest yX6_spreadNearest ∈ tblG := inG_i 1288 (by decide +kernel) (by decide +kernel)
theorem tg_1305 : Cond.code yX0_addPrint cX0_addPrint 3 (some .int) ∈ tblG := inG_i 1305 (by decide +kernel) (by decide +kernel)
theorem ok_X0_addPrint : okY yX0_addPrint 1 = true := by decide +kernel
theorem tg_1302 : Cond.methodLink RX9 283 yX0_addPrint ∈ tblG := inG_i 1302 (by decide +kernel) (by decide +kernel)
theorem tg_1303 : Cond.instanceMethod yX0_addPrint ∈ tblG := inG_i 1303 (by decide +kernel) (by decide +kernel)
theorem tg_1304 : Cond.selects RX0 yX0_addPrint yX0_addPrint ∈ tblG := inG_i 1304 (by decide +kernel) (by decide +kernel)
theorem tg_1316 : Cond.code yX9_needPrint cX9_needPrint 2 none ∈ tblG := inG_i 1316 (by decide +kernel) (by decide +kernel)
theorem ok_X9_needPrint : okY yX9_needPrint 1 = true := by decide +kernel
theorem tg_1313 : Cond.methodLink RX9 286 yX9_needPrint ∈ tblG := inG_i 1313 (by decide +kernel) (by decide +kernel)
theorem tg_1315 : Cond.instanceMethod yX9_needPrint ∈ tblG := inG_i 1315 (by decide +kernel) (by decide +kernel)
theorem tg_40 : Cond.selects RX9 yX9_needPrint yX9_needPrint ∈ tblG := inG_i 40 (by decide +kernel) (by decide +kernel)
theorem tg_486 : Cond.fieldLink RX9 58 RX9 "groups" "LHollowPunches$PrintGroups;" ∈ tblG := inG_i 486 (by decide +kernel) (by decide +kernel)
theorem tg_1321 : Cond.code yX5_lay cX5_lay 6 none ∈ tblG := inG_i 1321 (by decide +kernel) (by decide +kernel)
theorem ok_X5_lay : okY yX5_lay 3 = true := by decide +kernel
theorem tg_1318 : Cond.methodLink RX9 289 yX5_lay ∈ tblG := inG_i 1318 (by decide +kernel) (by decide +kernel)
theorem tg_1319 : Cond.instanceMethod yX5_lay ∈ tblG := inG_i 1319 (by decide +kernel) (by decide +kernel)
theorem tg_1320 : Cond.selects RX5 yX5_lay yX5_lay ∈ tblG := inG_i 1320 (by decide +kernel) (by decide +kernel)
theorem tg_1332 : Cond.code yX5_areKin cX5_areKin 3 (some .boolean) ∈ tblG := inG_i 1332 (by decide +kernel) (by decide +kernel)
theorem ok_X5_areKin : okY yX5_areKin 2 = true := by decide +kernel
theorem tg_1329 : Cond.methodLink RX9 292 yX5_areKin ∈ tblG := inG_i 1329 (by decide +kernel) (by decide +kernel)
theorem tg_1330 : Cond.instanceMethod yX5_areKin ∈ tblG := inG_i 1330 (by decide +kernel) (by decide +kernel)
theorem tg_1331 : Cond.selects RX5 yX5_areKin yX5_areKin ∈ tblG := inG_i 1331 (by decide +kernel) (by decide +kernel)
theorem tg_1364 : Cond.code yX5_fewest cX5_fewest 1 (some .int) ∈ tblG := inG_i 1364 (by decide +kernel) (by decide +kernel)
theorem ok_X5_fewest : okY yX5_fewest 0 = true := by decide +kernel
theorem tg_1361 : Cond.methodLink RX9 303 yX5_fewest ∈ tblG := inG_i 1361 (by decide +kernel) (by decide +kernel)
theorem tg_1362 : Cond.instanceMethod yX5_fewest ∈ tblG := inG_i 1362 (by decide +kernel) (by decide +kernel)
theorem tg_1363 : Cond.selects RX5 yX5_fewest yX5_fewest ∈ tblG := inG_i 1363 (by decide +kernel) (by decide +kernel)
theorem tg_1347 : Cond.code yX5_ways cX5_ways 1 (some .int) ∈ tblG := inG_i 1347 (by decide +kernel) (by decide +kernel)
theorem ok_X5_ways : okY yX5_ways 0 = true := by decide +kernel
theorem tg_1344 : Cond.methodLink RX9 300 yX5_ways ∈ tblG := inG_i 1344 (by decide +kernel) (by decide +kernel)
theorem tg_1345 : Cond.instanceMethod yX5_ways ∈ tblG := inG_i 1345 (by decide +kernel) (by decide +kernel)
theorem tg_1346 : Cond.selects RX5 yX5_ways yX5_ways ∈ tblG := inG_i 1346 (by decide +kernel) (by decide +kernel)
theorem tg_1343 : Cond.code yX5_alwaysAlone cX5_alwaysAlone 3 (some .int) ∈ tblG := inG_i 1343 (by decide +kernel) (by decide +kernel)
theorem ok_X5_alwaysAlone : okY yX5_alwaysAlone 0 = true := by decide +kernel
theorem tg_1340 : Cond.methodLink RX9 296 yX5_alwaysAlone ∈ tblG := inG_i 1340 (by decide +kernel) (by decide +kernel)
theorem tg_1341 : Cond.instanceMethod yX5_alwaysAlone ∈ tblG := inG_i 1341 (by decide +kernel) (by decide +kernel)
theorem tg_1342 : Cond.selects RX5 yX5_alwaysAlone yX5_alwaysAlone ∈ tblG := inG_i 1342 (by decide +kernel) (by decide +kernel)
theorem tg_1375 : Cond.code yX2_begun cX2_begun 1 (some .long) ∈ tblG := inG_i 1375 (by decide +kernel) (by decide +kernel)
theorem ok_X2_begun : okY yX2_begun 0 = true := by decide +kernel
theorem tg_1372 : Cond.methodLink RX9 319 yX2_begun ∈ tblG := inG_i 1372 (by decide +kernel) (by decide +kernel)
theorem tg_1373 : Cond.instanceMethod yX2_begun ∈ tblG := inG_i 1373 (by decide +kernel) (by decide +kernel)
theorem tg_1374 : Cond.selects RX2 yX2_begun yX2_begun ∈ tblG := inG_i 1374 (by decide +kernel) (by decide +kernel)
theorem tg_1386 : Cond.code yX1_nearestTo cX1_nearestTo 8 (some .int) ∈ tblG := inG_i 1386 (by decide +kernel) (by decide +kernel)
theorem ok_X1_nearestTo : okY yX1_nearestTo 2 = true := by decide +kernel
theorem tg_1383 : Cond.methodLink RX9 322 yX1_nearestTo ∈ tblG := inG_i 1383 (by decide +kernel) (by decide +kernel)
theorem tg_1384 : Cond.instanceMethod yX1_nearestTo ∈ tblG := inG_i 1384 (by decide +kernel) (by decide +kernel)
theorem tg_1385 : Cond.selects RX1 yX1_nearestTo yX1_nearestTo ∈ tblG := inG_i 1385 (by decide +kernel) (by decide +kernel)
theorem tg_1392 : Cond.methodLink RX9 326 yX1_apartFrom ∈ tblG := inG_i 1392 (by decide +kernel) (by decide +kernel)
theorem tg_1403 : Cond.code yX1_originalLetters cX1_originalLetters 5 (some .int) ∈ tblG := inG_i 1403 (by decide +kernel) (by decide +kernel)
theorem ok_X1_originalLetters : okY yX1_originalLetters 2 = true := by decide +kernel
theorem tg_1400 : Cond.methodLink RX9 330 yX1_originalLetters ∈ tblG := inG_i 1400 (by decide +kernel) (by decide +kernel)
theorem tg_1401 : Cond.instanceMethod yX1_originalLetters ∈ tblG := inG_i 1401 (by decide +kernel) (by decide +kernel)
theorem tg_1402 : Cond.selects RX1 yX1_originalLetters yX1_originalLetters ∈ tblG := inG_i 1402 (by decide +kernel) (by decide +kernel)
theorem tg_1418 : Cond.code yX6_sizeGroups cX6_sizeGroups 5 (some .int) ∈ tblG := inG_i 1418 (by decide +kernel) (by decide +kernel)
theorem ok_X6_sizeGroups : okY yX6_sizeGroups 2 = true := by decide +kernel
theorem tg_1416 : Cond.methodLink RX9 334 yX6_sizeGroups ∈ tblG := inG_i 1416 (by decide +kernel) (by decide +kernel)
theorem tg_1417 : Cond.static yX6_sizeGroups ∈ tblG := inG_i 1417 (by decide +kernel) (by decide +kernel)
theorem tg_1431 : Cond.fieldLink RX10 112 RX10 "thrown" "I" ∈ tblG := inG_i 1431 (by decide +kernel) (by decide +kernel)
theorem tg_1432 : Cond.fieldLink RX10 115 RX10 "tape" "I" ∈ tblG := inG_i 1432 (by decide +kernel) (by decide +kernel)
theorem tg_1439 : Cond.fieldLink RX10 13 RX10 "fed" "[I" ∈ tblG := inG_i 1439 (by decide +kernel) (by decide +kernel)
theorem tg_1596 : Cond.code yX10_in cX10_in 3 (some .boolean) ∈ tblG := inG_i 1596 (by decide +kernel) (by decide +kernel)
theorem tg_103 : Cond.initialized RX10 ∈ tblG := inG_i 103 (by decide +kernel) (by decide +kernel)
theorem ok_X10_in : okY yX10_in 3 = true := by decide +kernel
theorem tg_1594 : Cond.methodLink RX10 146 yX10_in ∈ tblG := inG_i 1594 (by decide +kernel) (by decide +kernel)
theorem tg_1595 : Cond.static yX10_in ∈ tblG := inG_i 1595 (by decide +kernel) (by decide +kernel)
theorem tg_1600 : Cond.code yX10_bad cX10_bad 3 (some .boolean) ∈ tblG := inG_i 1600 (by decide +kernel) (by decide +kernel)
theorem ok_X10_bad : okY yX10_bad 2 = true := by decide +kernel
theorem tg_1597 : Cond.methodLink RX10 197 yX10_bad ∈ tblG := inG_i 1597 (by decide +kernel) (by decide +kernel)
theorem tg_1599 : Cond.instanceMethod yX10_bad ∈ tblG := inG_i 1599 (by decide +kernel) (by decide +kernel)
theorem tg_46 : Cond.selects RX10 yX10_bad yX10_bad ∈ tblG := inG_i 46 (by decide +kernel) (by decide +kernel)
theorem tg_1433 : Cond.fieldLink RX10 118 RX10 "size" "I" ∈ tblG := inG_i 1433 (by decide +kernel) (by decide +kernel)
theorem tg_1435 : Cond.fieldLink RX10 121 RX10 "at" "I" ∈ tblG := inG_i 1435 (by decide +kernel) (by decide +kernel)
theorem tg_1436 : Cond.fieldLink RX10 128 RX10 "fault" "I" ∈ tblG := inG_i 1436 (by decide +kernel) (by decide +kernel)
theorem tg_1437 : Cond.fieldLink RX10 131 RX10 "faultAt" "I" ∈ tblG := inG_i 1437 (by decide +kernel) (by decide +kernel)
theorem tg_1438 : Cond.fieldLink RX10 165 RX10 "clauses" "I" ∈ tblG := inG_i 1438 (by decide +kernel) (by decide +kernel)
theorem tg_1440 : Cond.fieldLink RX10 17 RX10 "readMany" "[I" ∈ tblG := inG_i 1440 (by decide +kernel) (by decide +kernel)
theorem tg_1608 : Cond.code yX10_byteAt cX10_byteAt 2 (some .int) ∈ tblG := inG_i 1608 (by decide +kernel) (by decide +kernel)
theorem ok_X10_byteAt : okY yX10_byteAt 1 = true := by decide +kernel
theorem tg_1605 : Cond.methodLink RX10 124 yX10_byteAt ∈ tblG := inG_i 1605 (by decide +kernel) (by decide +kernel)
theorem tg_1607 : Cond.instanceMethod yX10_byteAt ∈ tblG := inG_i 1607 (by decide +kernel) (by decide +kernel)
theorem tg_48 : Cond.selects RX10 yX10_byteAt yX10_byteAt ∈ tblG := inG_i 48 (by decide +kernel) (by decide +kernel)
theorem tg_1604 : Cond.code yX10_blanks cX10_blanks 1 none ∈ tblG := inG_i 1604 (by decide +kernel) (by decide +kernel)
theorem ok_X10_blanks : okY yX10_blanks 0 = true := by decide +kernel
theorem tg_1601 : Cond.methodLink RX10 134 yX10_blanks ∈ tblG := inG_i 1601 (by decide +kernel) (by decide +kernel)
theorem tg_1603 : Cond.instanceMethod yX10_blanks ∈ tblG := inG_i 1603 (by decide +kernel) (by decide +kernel)
theorem tg_47 : Cond.selects RX10 yX10_blanks yX10_blanks ∈ tblG := inG_i 47 (by decide +kernel) (by decide +kernel)
theorem tg_1448 : Cond.fieldLink RX10 44 RX10 "readSpread" "[I" ∈ tblG := inG_i 1448 (by decide +kernel) (by decide +kernel)
theorem tg_1624 : Cond.code yX10_wordHere cX10_wordHere 3 (some .int) ∈ tblG := inG_i 1624 (by decide +kernel) (by decide +kernel)
theorem ok_X10_wordHere : okY yX10_wordHere 0 = true := by decide +kernel
theorem tg_1621 : Cond.methodLink RX10 150 yX10_wordHere ∈ tblG := inG_i 1621 (by decide +kernel) (by decide +kernel)
theorem tg_1623 : Cond.instanceMethod yX10_wordHere ∈ tblG := inG_i 1623 (by decide +kernel) (by decide +kernel)
theorem tg_52 : Cond.selects RX10 yX10_wordHere yX10_wordHere ∈ tblG := inG_i 52 (by decide +kernel) (by decide +kernel)
theorem tg_1627 : Cond.code yX10_named cX10_named 7 (some .int) ∈ tblG := inG_i 1627 (by decide +kernel) (by decide +kernel)
theorem ok_X10_named : okY yX10_named 6 = true := by decide +kernel
theorem tg_1625 : Cond.methodLink RX10 154 yX10_named ∈ tblG := inG_i 1625 (by decide +kernel) (by decide +kernel)
theorem tg_1626 : Cond.static yX10_named ∈ tblG := inG_i 1626 (by decide +kernel) (by decide +kernel)
theorem tg_1620 : Cond.code yX10_isWord cX10_isWord 7 (some .boolean) ∈ tblG := inG_i 1620 (by decide +kernel) (by decide +kernel)
theorem ok_X10_isWord : okY yX10_isWord 6 = true := by decide +kernel
theorem tg_1617 : Cond.methodLink RX10 158 yX10_isWord ∈ tblG := inG_i 1617 (by decide +kernel) (by decide +kernel)
theorem tg_1619 : Cond.instanceMethod yX10_isWord ∈ tblG := inG_i 1619 (by decide +kernel) (by decide +kernel)
theorem tg_51 : Cond.selects RX10 yX10_isWord yX10_isWord ∈ tblG := inG_i 51 (by decide +kernel) (by decide +kernel)
theorem tg_1616 : Cond.code yX10_kindHere cX10_kindHere 1 (some .int) ∈ tblG := inG_i 1616 (by decide +kernel) (by decide +kernel)
theorem ok_X10_kindHere : okY yX10_kindHere 0 = true := by decide +kernel
theorem tg_1613 : Cond.methodLink RX10 162 yX10_kindHere ∈ tblG := inG_i 1613 (by decide +kernel) (by decide +kernel)
theorem tg_1615 : Cond.instanceMethod yX10_kindHere ∈ tblG := inG_i 1615 (by decide +kernel) (by decide +kernel)
theorem tg_50 : Cond.selects RX10 yX10_kindHere yX10_kindHere ∈ tblG := inG_i 50 (by decide +kernel) (by decide +kernel)
theorem tg_1631 : Cond.code yX10_wrong cX10_wrong 3 none ∈ tblG := inG_i 1631 (by decide +kernel) (by decide +kernel)
theorem ok_X10_wrong : okY yX10_wrong 2 = true := by decide +kernel
theorem tg_1628 : Cond.methodLink RX10 141 yX10_wrong ∈ tblG := inG_i 1628 (by decide +kernel) (by decide +kernel)
theorem tg_1630 : Cond.instanceMethod yX10_wrong ∈ tblG := inG_i 1630 (by decide +kernel) (by decide +kernel)
theorem tg_53 : Cond.selects RX10 yX10_wrong yX10_wrong ∈ tblG := inG_i 53 (by decide +kernel) (by decide +kernel)
theorem tg_1635 : Cond.code yX10_skipWord cX10_skipWord 1 none ∈ tblG := inG_i 1635 (by decide +kernel) (by decide +kernel)
theorem ok_X10_skipWord : okY yX10_skipWord 0 = true := by decide +kernel
theorem tg_1632 : Cond.methodLink RX10 168 yX10_skipWord ∈ tblG := inG_i 1632 (by decide +kernel) (by decide +kernel)
theorem tg_1634 : Cond.instanceMethod yX10_skipWord ∈ tblG := inG_i 1634 (by decide +kernel) (by decide +kernel)
theorem tg_54 : Cond.selects RX10 yX10_skipWord yX10_skipWord ∈ tblG := inG_i 54 (by decide +kernel) (by decide +kernel)
theorem tg_1646 : Cond.code yX10_isDigit cX10_isDigit 1 (some .boolean) ∈ tblG := inG_i 1646 (by decide +kernel) (by decide +kernel)
theorem ok_X10_isDigit : okY yX10_isDigit 1 = true := by decide +kernel
theorem tg_1644 : Cond.methodLink RX10 137 yX10_isDigit ∈ tblG := inG_i 1644 (by decide +kernel) (by decide +kernel)
theorem tg_1645 : Cond.static yX10_isDigit ∈ tblG := inG_i 1645 (by decide +kernel) (by decide +kernel)
theorem tg_1647 : Cond.constant RX10 145 100000 ∈ tblG := inG_i 1647 (by decide +kernel) (by decide +kernel)
theorem tg_1643 : Cond.code yX10_numberHere cX10_numberHere 5 (some .int) ∈ tblG := inG_i 1643 (by decide +kernel) (by decide +kernel)
theorem ok_X10_numberHere : okY yX10_numberHere 2 = true := by decide +kernel
theorem tg_1640 : Cond.methodLink RX10 187 yX10_numberHere ∈ tblG := inG_i 1640 (by decide +kernel) (by decide +kernel)
theorem tg_1642 : Cond.instanceMethod yX10_numberHere ∈ tblG := inG_i 1642 (by decide +kernel) (by decide +kernel)
theorem tg_56 : Cond.selects RX10 yX10_numberHere yX10_numberHere ∈ tblG := inG_i 56 (by decide +kernel) (by decide +kernel)
theorem tg_1663 : Cond.code yX10_readsSpread cX10_readsSpread 3 none ∈ tblG := inG_i 1663 (by decide +kernel) (by decide +kernel)
theorem ok_X10_readsSpread : okY yX10_readsSpread 0 = true := by decide +kernel
theorem tg_1660 : Cond.methodLink RX10 181 yX10_readsSpread ∈ tblG := inG_i 1660 (by decide +kernel) (by decide +kernel)
theorem tg_1662 : Cond.instanceMethod yX10_readsSpread ∈ tblG := inG_i 1662 (by decide +kernel) (by decide +kernel)
theorem tg_59 : Cond.selects RX10 yX10_readsSpread yX10_readsSpread ∈ tblG := inG_i 59 (by decide +kernel) (by decide +kernel)
theorem tg_1667 : Cond.code yX10_sign cX10_sign 2 none ∈ tblG := inG_i 1667 (by decide +kernel) (by decide +kernel)
theorem ok_X10_sign : okY yX10_sign 1 = true := by decide +kernel
theorem tg_1664 : Cond.methodLink RX10 184 yX10_sign ∈ tblG := inG_i 1664 (by decide +kernel) (by decide +kernel)
theorem tg_1666 : Cond.instanceMethod yX10_sign ∈ tblG := inG_i 1666 (by decide +kernel) (by decide +kernel)
theorem tg_60 : Cond.selects RX10 yX10_sign yX10_sign ∈ tblG := inG_i 60 (by decide +kernel) (by decide +kernel)
theorem tg_1446 : Cond.fieldLink RX10 38 RX10 "readLong" "[I" ∈ tblG := inG_i 1446 (by decide +kernel) (by decide +kernel)
theorem tg_1444 : Cond.fieldLink RX10 32 RX10 "readWord" "[[I" ∈ tblG := inG_i 1444 (by decide +kernel) (by decide +kernel)
theorem tg_1659 : Cond.code yX10_readsWord cX10_readsWord 5 none ∈ tblG := inG_i 1659 (by decide +kernel) (by decide +kernel)
theorem ok_X10_readsWord : okY yX10_readsWord 0 = true := by decide +kernel
theorem tg_1656 : Cond.methodLink RX10 178 yX10_readsWord ∈ tblG := inG_i 1656 (by decide +kernel) (by decide +kernel)
theorem tg_1658 : Cond.instanceMethod yX10_readsWord ∈ tblG := inG_i 1658 (by decide +kernel) (by decide +kernel)
theorem tg_58 : Cond.selects RX10 yX10_readsWord yX10_readsWord ∈ tblG := inG_i 58 (by decide +kernel) (by decide +kernel)
theorem tg_1442 : Cond.fieldLink RX10 23 RX10 "readInk" "[J" ∈ tblG := inG_i 1442 (by decide +kernel) (by decide +kernel)
theorem tg_1655 : Cond.constantLong RX10 195 (-1) ∈ tblG := inG_i 1655 (by decide +kernel) (by decide +kernel)
theorem tg_1654 : Cond.code yX10_readsBar cX10_readsBar 11 none ∈ tblG := inG_i 1654 (by decide +kernel) (by decide +kernel)
theorem ok_X10_readsBar : okY yX10_readsBar 1 = true := by decide +kernel
theorem tg_1651 : Cond.methodLink RX10 175 yX10_readsBar ∈ tblG := inG_i 1651 (by decide +kernel) (by decide +kernel)
theorem tg_1653 : Cond.instanceMethod yX10_readsBar ∈ tblG := inG_i 1653 (by decide +kernel) (by decide +kernel)
theorem tg_57 : Cond.selects RX10 yX10_readsBar yX10_readsBar ∈ tblG := inG_i 57 (by decide +kernel) (by decide +kernel)
theorem tg_1650 : Cond.code yX10_is cX10_is 3 (some .boolean) ∈ tblG := inG_i 1650 (by decide +kernel) (by decide +kernel)
theorem ok_X10_is : okY yX10_is 2 = true := by decide +kernel
theorem tg_1648 : Cond.methodLink RX10 191 yX10_is ∈ tblG := inG_i 1648 (by decide +kernel) (by decide +kernel)
theorem tg_1649 : Cond.static yX10_is ∈ tblG := inG_i 1649 (by decide +kernel) (by decide +kernel)
theorem tg_1639 : Cond.code yX10_readsLetter cX10_readsLetter 7 none ∈ tblG := inG_i 1639 (by decide +kernel) (by decide +kernel)
theorem ok_X10_readsLetter : okY yX10_readsLetter 1 = true := by decide +kernel
theorem tg_1636 : Cond.methodLink RX10 171 yX10_readsLetter ∈ tblG := inG_i 1636 (by decide +kernel) (by decide +kernel)
theorem tg_1638 : Cond.instanceMethod yX10_readsLetter ∈ tblG := inG_i 1638 (by decide +kernel) (by decide +kernel)
theorem tg_55 : Cond.selects RX10 yX10_readsLetter yX10_readsLetter ∈ tblG := inG_i 55 (by decide +kernel) (by decide +kernel)
theorem tg_1612 : Cond.code yX10_clause cX10_clause 2 none ∈ tblG := inG_i 1612 (by decide +kernel) (by decide +kernel)
theorem ok_X10_clause : okY yX10_clause 0 = true := by decide +kernel
theorem tg_1609 : Cond.methodLink RX10 201 yX10_clause ∈ tblG := inG_i 1609 (by decide +kernel) (by decide +kernel)
theorem tg_1611 : Cond.instanceMethod yX10_clause ∈ tblG := inG_i 1611 (by decide +kernel) (by decide +kernel)
theorem tg_49 : Cond.selects RX10 yX10_clause yX10_clause ∈ tblG := inG_i 49 (by decide +kernel) (by decide +kernel)
theorem tg_1434 : Cond.fieldLink RX10 9 RX10 "place" "I" ∈ tblG := inG_i 1434 (by decide +kernel) (by decide +kernel)
theorem tg_1441 : Cond.fieldLink RX10 20 RX10 "many" "[I" ∈ tblG := inG_i 1441 (by decide +kernel) (by decide +kernel)
theorem tg_1443 : Cond.fieldLink RX10 27 RX10 "ink" "[J" ∈ tblG := inG_i 1443 (by decide +kernel) (by decide +kernel)
theorem tg_1447 : Cond.fieldLink RX10 41 RX10 "wordLong" "[I" ∈ tblG := inG_i 1447 (by decide +kernel) (by decide +kernel)
theorem tg_1450 : Cond.fieldLink RX10 231 RX10 "hollows" "I" ∈ tblG := inG_i 1450 (by decide +kernel) (by decide +kernel)
theorem tg_1680 : Cond.code yX10_isOpen cX10_isOpen 7 (some .boolean) ∈ tblG := inG_i 1680 (by decide +kernel) (by decide +kernel)
theorem ok_X10_isOpen : okY yX10_isOpen 4 = true := by decide +kernel
theorem tg_1678 : Cond.methodLink RX10 223 yX10_isOpen ∈ tblG := inG_i 1678 (by decide +kernel) (by decide +kernel)
theorem tg_1679 : Cond.static yX10_isOpen ∈ tblG := inG_i 1679 (by decide +kernel) (by decide +kernel)
theorem tg_1677 : Cond.code yX10_reached cX10_reached 5 (some .long) ∈ tblG := inG_i 1677 (by decide +kernel) (by decide +kernel)
theorem ok_X10_reached : okY yX10_reached 1 = true := by decide +kernel
theorem tg_1675 : Cond.methodLink RX10 227 yX10_reached ∈ tblG := inG_i 1675 (by decide +kernel) (by decide +kernel)
theorem tg_1676 : Cond.static yX10_reached ∈ tblG := inG_i 1676 (by decide +kernel) (by decide +kernel)
theorem tg_1674 : Cond.code yX10_hidden cX10_hidden 2 (some .long) ∈ tblG := inG_i 1674 (by decide +kernel) (by decide +kernel)
theorem ok_X10_hidden : okY yX10_hidden 1 = true := by decide +kernel
theorem tg_1672 : Cond.methodLink RX10 234 yX10_hidden ∈ tblG := inG_i 1672 (by decide +kernel) (by decide +kernel)
theorem tg_1673 : Cond.static yX10_hidden ∈ tblG := inG_i 1673 (by decide +kernel) (by decide +kernel)
theorem tg_1451 : Cond.fieldLink RX10 50 RX10 "hollow" "[J" ∈ tblG := inG_i 1451 (by decide +kernel) (by decide +kernel)
theorem tg_1452 : Cond.fieldLink RX10 53 RX10 "hollowOf" "[I" ∈ tblG := inG_i 1452 (by decide +kernel) (by decide +kernel)
theorem tg_1683 : Cond.code yX10_beside cX10_beside 5 (some .long) ∈ tblG := inG_i 1683 (by decide +kernel) (by decide +kernel)
theorem ok_X10_beside : okY yX10_beside 1 = true := by decide +kernel
theorem tg_1681 : Cond.methodLink RX10 237 yX10_beside ∈ tblG := inG_i 1681 (by decide +kernel) (by decide +kernel)
theorem tg_1682 : Cond.static yX10_beside ∈ tblG := inG_i 1682 (by decide +kernel) (by decide +kernel)
theorem tg_1671 : Cond.code yX10_findHollows cX10_findHollows 9 none ∈ tblG := inG_i 1671 (by decide +kernel) (by decide +kernel)
theorem ok_X10_findHollows : okY yX10_findHollows 0 = true := by decide +kernel
theorem tg_1668 : Cond.methodLink RX10 204 yX10_findHollows ∈ tblG := inG_i 1668 (by decide +kernel) (by decide +kernel)
theorem tg_1670 : Cond.instanceMethod yX10_findHollows ∈ tblG := inG_i 1670 (by decide +kernel) (by decide +kernel)
theorem tg_61 : Cond.selects RX10 yX10_findHollows yX10_findHollows ∈ tblG := inG_i 61 (by decide +kernel) (by decide +kernel)
theorem tg_1454 : Cond.fieldLink RX10 56 RX10 "punchOf" "I" ∈ tblG := inG_i 1454 (by decide +kernel) (by decide +kernel)
theorem tg_1453 : Cond.fieldLink RX10 207 RX10 "steel" "J" ∈ tblG := inG_i 1453 (by decide +kernel) (by decide +kernel)
theorem tg_1455 : Cond.fieldLink RX10 211 RX10 "burst" "I" ∈ tblG := inG_i 1455 (by decide +kernel) (by decide +kernel)
theorem tg_1456 : Cond.fieldLink RX10 214 RX10 "acts" "I" ∈ tblG := inG_i 1456 (by decide +kernel) (by decide +kernel)
theorem tg_1457 : Cond.fieldLink RX10 217 RX10 "prints" "I" ∈ tblG := inG_i 1457 (by decide +kernel) (by decide +kernel)
theorem tg_1458 : Cond.fieldLink RX10 220 RX10 "images" "I" ∈ tblG := inG_i 1458 (by decide +kernel) (by decide +kernel)
theorem tg_1449 : Cond.fieldLink RX10 47 RX10 "spread" "[I" ∈ tblG := inG_i 1449 (by decide +kernel) (by decide +kernel)
theorem tg_1445 : Cond.fieldLink RX10 35 RX10 "word" "[[I" ∈ tblG := inG_i 1445 (by decide +kernel) (by decide +kernel)
theorem tg_1699 : Cond.code yX10_isLetter cX10_isLetter 2 (some .boolean) ∈ tblG := inG_i 1699 (by decide +kernel) (by decide +kernel)
theorem ok_X10_isLetter : okY yX10_isLetter 1 = true := by decide +kernel
theorem tg_1696 : Cond.methodLink RX10 240 yX10_isLetter ∈ tblG := inG_i 1696 (by decide +kernel) (by decide +kernel)
theorem tg_1698 : Cond.instanceMethod yX10_isLetter ∈ tblG := inG_i 1698 (by decide +kernel) (by decide +kernel)
theorem tg_62 : Cond.selects RX10 yX10_isLetter yX10_isLetter ∈ tblG := inG_i 62 (by decide +kernel) (by decide +kernel)
theorem tg_1714 : Cond.code yX10_broad cX10_broad 5 (some .int) ∈ tblG := inG_i 1714 (by decide +kernel) (by decide +kernel)
theorem ok_X10_broad : okY yX10_broad 1 = true := by decide +kernel
theorem tg_1711 : Cond.methodLink RX10 250 yX10_broad ∈ tblG := inG_i 1711 (by decide +kernel) (by decide +kernel)
theorem tg_1713 : Cond.instanceMethod yX10_broad ∈ tblG := inG_i 1713 (by decide +kernel) (by decide +kernel)
theorem tg_64 : Cond.selects RX10 yX10_broad yX10_broad ∈ tblG := inG_i 64 (by decide +kernel) (by decide +kernel)
theorem tg_1706 : Cond.code yX10_ones cX10_ones 4 (some .int) ∈ tblG := inG_i 1706 (by decide +kernel) (by decide +kernel)
theorem ok_X10_ones : okY yX10_ones 1 = true := by decide +kernel
theorem tg_1704 : Cond.methodLink RX10 243 yX10_ones ∈ tblG := inG_i 1704 (by decide +kernel) (by decide +kernel)
theorem tg_1705 : Cond.static yX10_ones ∈ tblG := inG_i 1705 (by decide +kernel) (by decide +kernel)
theorem tg_1710 : Cond.code yX10_edge cX10_edge 2 (some .int) ∈ tblG := inG_i 1710 (by decide +kernel) (by decide +kernel)
theorem ok_X10_edge : okY yX10_edge 1 = true := by decide +kernel
theorem tg_1707 : Cond.methodLink RX10 247 yX10_edge ∈ tblG := inG_i 1707 (by decide +kernel) (by decide +kernel)
theorem tg_1709 : Cond.instanceMethod yX10_edge ∈ tblG := inG_i 1709 (by decide +kernel) (by decide +kernel)
theorem tg_63 : Cond.selects RX10 yX10_edge yX10_edge ∈ tblG := inG_i 63 (by decide +kernel) (by decide +kernel)
theorem tg_1722 : Cond.code yX10_isHollow cX10_isHollow 2 (some .boolean) ∈ tblG := inG_i 1722 (by decide +kernel) (by decide +kernel)
theorem ok_X10_isHollow : okY yX10_isHollow 1 = true := by decide +kernel
theorem tg_1719 : Cond.methodLink RX10 253 yX10_isHollow ∈ tblG := inG_i 1719 (by decide +kernel) (by decide +kernel)
theorem tg_1721 : Cond.instanceMethod yX10_isHollow ∈ tblG := inG_i 1721 (by decide +kernel) (by decide +kernel)
theorem tg_65 : Cond.selects RX10 yX10_isHollow yX10_isHollow ∈ tblG := inG_i 65 (by decide +kernel) (by decide +kernel)
theorem tg_1729 : Cond.code yX10_shapeOf cX10_shapeOf 7 (some .long) ∈ tblG := inG_i 1729 (by decide +kernel) (by decide +kernel)
theorem ok_X10_shapeOf : okY yX10_shapeOf 1 = true := by decide +kernel
theorem tg_1727 : Cond.methodLink RX10 256 yX10_shapeOf ∈ tblG := inG_i 1727 (by decide +kernel) (by decide +kernel)
theorem tg_1728 : Cond.static yX10_shapeOf ∈ tblG := inG_i 1728 (by decide +kernel) (by decide +kernel)
theorem tg_1739 : Cond.code yX10_mirrored cX10_mirrored 5 (some .long) ∈ tblG := inG_i 1739 (by decide +kernel) (by decide +kernel)
theorem ok_X10_mirrored : okY yX10_mirrored 1 = true := by decide +kernel
theorem tg_1737 : Cond.methodLink RX10 259 yX10_mirrored ∈ tblG := inG_i 1737 (by decide +kernel) (by decide +kernel)
theorem tg_1738 : Cond.static yX10_mirrored ∈ tblG := inG_i 1738 (by decide +kernel) (by decide +kernel)
theorem tg_1742 : Cond.code yX10_quarter cX10_quarter 5 (some .long) ∈ tblG := inG_i 1742 (by decide +kernel) (by decide +kernel)
theorem ok_X10_quarter : okY yX10_quarter 1 = true := by decide +kernel
theorem tg_1740 : Cond.methodLink RX10 262 yX10_quarter ∈ tblG := inG_i 1740 (by decide +kernel) (by decide +kernel)
theorem tg_1741 : Cond.static yX10_quarter ∈ tblG := inG_i 1741 (by decide +kernel) (by decide +kernel)
theorem tg_1736 : Cond.code yX10_apartOf cX10_apartOf 12 (some .int) ∈ tblG := inG_i 1736 (by decide +kernel) (by decide +kernel)
theorem ok_X10_apartOf : okY yX10_apartOf 3 = true := by decide +kernel
theorem tg_1734 : Cond.methodLink RX10 265 yX10_apartOf ∈ tblG := inG_i 1734 (by decide +kernel) (by decide +kernel)
theorem tg_1735 : Cond.static yX10_apartOf ∈ tblG := inG_i 1735 (by decide +kernel) (by decide +kernel)
theorem tg_1477 : Cond.fieldLink RX10 98 RX10 "servers" "[I" ∈ tblG := inG_i 1477 (by decide +kernel) (by decide +kernel)
theorem tg_1750 : Cond.code yX10_findSet cX10_findSet 7 (some .int) ∈ tblG := inG_i 1750 (by decide +kernel) (by decide +kernel)
theorem ok_X10_findSet : okY yX10_findSet 2 = true := by decide +kernel
theorem tg_1747 : Cond.methodLink RX10 269 yX10_findSet ∈ tblG := inG_i 1747 (by decide +kernel) (by decide +kernel)
theorem tg_1749 : Cond.instanceMethod yX10_findSet ∈ tblG := inG_i 1749 (by decide +kernel) (by decide +kernel)
theorem tg_66 : Cond.selects RX10 yX10_findSet yX10_findSet ∈ tblG := inG_i 66 (by decide +kernel) (by decide +kernel)
theorem tg_1463 : Cond.fieldLink RX10 70 RX10 "takes" "[J" ∈ tblG := inG_i 1463 (by decide +kernel) (by decide +kernel)
theorem tg_1464 : Cond.fieldLink RX10 73 RX10 "rowOf" "[I" ∈ tblG := inG_i 1464 (by decide +kernel) (by decide +kernel)
theorem tg_1465 : Cond.fieldLink RX10 76 RX10 "columnOf" "[I" ∈ tblG := inG_i 1465 (by decide +kernel) (by decide +kernel)
theorem tg_1762 : Cond.code yX10_findTakes cX10_findTakes 6 none ∈ tblG := inG_i 1762 (by decide +kernel) (by decide +kernel)
theorem ok_X10_findTakes : okY yX10_findTakes 1 = true := by decide +kernel
theorem tg_1759 : Cond.methodLink RX10 287 yX10_findTakes ∈ tblG := inG_i 1759 (by decide +kernel) (by decide +kernel)
theorem tg_1761 : Cond.instanceMethod yX10_findTakes ∈ tblG := inG_i 1761 (by decide +kernel) (by decide +kernel)
theorem tg_67 : Cond.selects RX10 yX10_findTakes yX10_findTakes ∈ tblG := inG_i 67 (by decide +kernel) (by decide +kernel)
theorem tg_1769 : Cond.code yX10_mayTake cX10_mayTake 2 (some .boolean) ∈ tblG := inG_i 1769 (by decide +kernel) (by decide +kernel)
theorem ok_X10_mayTake : okY yX10_mayTake 2 = true := by decide +kernel
theorem tg_1767 : Cond.methodLink RX10 273 yX10_mayTake ∈ tblG := inG_i 1767 (by decide +kernel) (by decide +kernel)
theorem tg_1768 : Cond.static yX10_mayTake ∈ tblG := inG_i 1768 (by decide +kernel) (by decide +kernel)
theorem tg_1468 : Cond.fieldLink RX10 277 RX10 "bits1" "I" ∈ tblG := inG_i 1468 (by decide +kernel) (by decide +kernel)
theorem tg_1466 : Cond.fieldLink RX10 79 RX10 "matched" "[I" ∈ tblG := inG_i 1466 (by decide +kernel) (by decide +kernel)
theorem tg_1467 : Cond.fieldLink RX10 82 RX10 "asked" "[Z" ∈ tblG := inG_i 1467 (by decide +kernel) (by decide +kernel)
theorem tg_1773 : Cond.code yX10_pairs cX10_pairs 6 (some .boolean) ∈ tblG := inG_i 1773 (by decide +kernel) (by decide +kernel)
theorem ok_X10_pairs : okY yX10_pairs 2 = true := by decide +kernel
theorem tg_1770 : Cond.methodLink RX10 280 yX10_pairs ∈ tblG := inG_i 1770 (by decide +kernel) (by decide +kernel)
theorem tg_1772 : Cond.instanceMethod yX10_pairs ∈ tblG := inG_i 1772 (by decide +kernel) (by decide +kernel)
theorem tg_69 : Cond.selects RX10 yX10_pairs yX10_pairs ∈ tblG := inG_i 69 (by decide +kernel) (by decide +kernel)
theorem tg_1766 : Cond.code yX10_fewestLines cX10_fewestLines 10 (some .int) ∈ tblG := inG_i 1766 (by decide +kernel) (by decide +kernel)
theorem ok_X10_fewestLines : okY yX10_fewestLines 3 = true := by decide +kernel
theorem tg_1763 : Cond.methodLink RX10 283 yX10_fewestLines ∈ tblG := inG_i 1763 (by decide +kernel) (by decide +kernel)
theorem tg_1765 : Cond.instanceMethod yX10_fewestLines ∈ tblG := inG_i 1765 (by decide +kernel) (by decide +kernel)
theorem tg_68 : Cond.selects RX10 yX10_fewestLines yX10_fewestLines ∈ tblG := inG_i 68 (by decide +kernel) (by decide +kernel)
theorem tg_1781 : Cond.code yX10_linesFor cX10_linesFor 8 (some .int) ∈ tblG := inG_i 1781 (by decide +kernel) (by decide +kernel)
theorem ok_X10_linesFor : okY yX10_linesFor 1 = true := by decide +kernel
theorem tg_1778 : Cond.methodLink RX10 291 yX10_linesFor ∈ tblG := inG_i 1778 (by decide +kernel) (by decide +kernel)
theorem tg_1780 : Cond.instanceMethod yX10_linesFor ∈ tblG := inG_i 1780 (by decide +kernel) (by decide +kernel)
theorem tg_70 : Cond.selects RX10 yX10_linesFor yX10_linesFor ∈ tblG := inG_i 70 (by decide +kernel) (by decide +kernel)
theorem tg_1782 : Cond.constantLong RX10 294 4294967295 ∈ tblG := inG_i 1782 (by decide +kernel) (by decide +kernel)
theorem tg_1794 : Cond.code yX10_blows cX10_blows 3 (some .boolean) ∈ tblG := inG_i 1794 (by decide +kernel) (by decide +kernel)
theorem ok_X10_blows : okY yX10_blows 1 = true := by decide +kernel
theorem tg_1791 : Cond.methodLink RX10 296 yX10_blows ∈ tblG := inG_i 1791 (by decide +kernel) (by decide +kernel)
theorem tg_1793 : Cond.instanceMethod yX10_blows ∈ tblG := inG_i 1793 (by decide +kernel) (by decide +kernel)
theorem tg_71 : Cond.selects RX10 yX10_blows yX10_blows ∈ tblG := inG_i 71 (by decide +kernel) (by decide +kernel)
theorem tg_1801 : Cond.code yX10_isFile cX10_isFile 3 (some .boolean) ∈ tblG := inG_i 1801 (by decide +kernel) (by decide +kernel)
theorem ok_X10_isFile : okY yX10_isFile 3 = true := by decide +kernel
theorem tg_1799 : Cond.methodLink RX10 299 yX10_isFile ∈ tblG := inG_i 1799 (by decide +kernel) (by decide +kernel)
theorem tg_1800 : Cond.static yX10_isFile ∈ tblG := inG_i 1800 (by decide +kernel) (by decide +kernel)
theorem tg_1805 : Cond.code yX10_files cX10_files 7 none ∈ tblG := inG_i 1805 (by decide +kernel) (by decide +kernel)
theorem ok_X10_files : okY yX10_files 3 = true := by decide +kernel
theorem tg_1802 : Cond.methodLink RX10 302 yX10_files ∈ tblG := inG_i 1802 (by decide +kernel) (by decide +kernel)
theorem tg_1804 : Cond.instanceMethod yX10_files ∈ tblG := inG_i 1804 (by decide +kernel) (by decide +kernel)
theorem tg_72 : Cond.selects RX10 yX10_files yX10_files ∈ tblG := inG_i 72 (by decide +kernel) (by decide +kernel)
theorem tg_1817 : Cond.code yX10_isGood cX10_isGood 2 (some .boolean) ∈ tblG := inG_i 1817 (by decide +kernel) (by decide +kernel)
theorem ok_X10_isGood : okY yX10_isGood 1 = true := by decide +kernel
theorem tg_1814 : Cond.methodLink RX10 306 yX10_isGood ∈ tblG := inG_i 1814 (by decide +kernel) (by decide +kernel)
theorem tg_1816 : Cond.instanceMethod yX10_isGood ∈ tblG := inG_i 1816 (by decide +kernel) (by decide +kernel)
theorem tg_73 : Cond.selects RX10 yX10_isGood yX10_isGood ∈ tblG := inG_i 73 (by decide +kernel) (by decide +kernel)
theorem tg_1459 : Cond.fieldLink RX10 59 RX10 "act" "[I" ∈ tblG := inG_i 1459 (by decide +kernel) (by decide +kernel)
theorem tg_1825 : Cond.code yX10_adds cX10_adds 2 (some .int) ∈ tblG := inG_i 1825 (by decide +kernel) (by decide +kernel)
theorem ok_X10_adds : okY yX10_adds 1 = true := by decide +kernel
theorem tg_1822 : Cond.methodLink RX10 309 yX10_adds ∈ tblG := inG_i 1822 (by decide +kernel) (by decide +kernel)
theorem tg_1824 : Cond.instanceMethod yX10_adds ∈ tblG := inG_i 1824 (by decide +kernel) (by decide +kernel)
theorem tg_74 : Cond.selects RX10 yX10_adds yX10_adds ∈ tblG := inG_i 74 (by decide +kernel) (by decide +kernel)
theorem tg_1844 : Cond.code yX10_isChance cX10_isChance 2 (some .boolean) ∈ tblG := inG_i 1844 (by decide +kernel) (by decide +kernel)
theorem ok_X10_isChance : okY yX10_isChance 2 = true := by decide +kernel
theorem tg_1842 : Cond.methodLink RX10 328 yX10_isChance ∈ tblG := inG_i 1842 (by decide +kernel) (by decide +kernel)
theorem tg_1843 : Cond.static yX10_isChance ∈ tblG := inG_i 1843 (by decide +kernel) (by decide +kernel)
theorem tg_1472 : Cond.fieldLink RX10 312 RX10 "done" "I" ∈ tblG := inG_i 1472 (by decide +kernel) (by decide +kernel)
theorem tg_1470 : Cond.fieldLink RX10 89 RX10 "fails" "[I" ∈ tblG := inG_i 1470 (by decide +kernel) (by decide +kernel)
theorem tg_1469 : Cond.fieldLink RX10 86 RX10 "minutes" "[I" ∈ tblG := inG_i 1469 (by decide +kernel) (by decide +kernel)
theorem tg_1860 : Cond.code yX10_isLater cX10_isLater 3 (some .boolean) ∈ tblG := inG_i 1860 (by decide +kernel) (by decide +kernel)
theorem ok_X10_isLater : okY yX10_isLater 2 = true := by decide +kernel
theorem tg_1857 : Cond.methodLink RX10 321 yX10_isLater ∈ tblG := inG_i 1857 (by decide +kernel) (by decide +kernel)
theorem tg_1859 : Cond.instanceMethod yX10_isLater ∈ tblG := inG_i 1859 (by decide +kernel) (by decide +kernel)
theorem tg_78 : Cond.selects RX10 yX10_isLater yX10_isLater ∈ tblG := inG_i 78 (by decide +kernel) (by decide +kernel)
theorem tg_1864 : Cond.code yX10_swaps cX10_swaps 4 none ∈ tblG := inG_i 1864 (by decide +kernel) (by decide +kernel)
theorem ok_X10_swaps : okY yX10_swaps 2 = true := by decide +kernel
theorem tg_1861 : Cond.methodLink RX10 324 yX10_swaps ∈ tblG := inG_i 1861 (by decide +kernel) (by decide +kernel)
theorem tg_1863 : Cond.instanceMethod yX10_swaps ∈ tblG := inG_i 1863 (by decide +kernel) (by decide +kernel)
theorem tg_79 : Cond.selects RX10 yX10_swaps yX10_swaps ∈ tblG := inG_i 79 (by decide +kernel) (by decide +kernel)
theorem tg_1471 : Cond.fieldLink RX10 92 RX10 "number" "[I" ∈ tblG := inG_i 1471 (by decide +kernel) (by decide +kernel)
theorem tg_1856 : Cond.code yX10_sorts cX10_sorts 4 none ∈ tblG := inG_i 1856 (by decide +kernel) (by decide +kernel)
theorem ok_X10_sorts : okY yX10_sorts 1 = true := by decide +kernel
theorem tg_1853 : Cond.methodLink RX10 318 yX10_sorts ∈ tblG := inG_i 1853 (by decide +kernel) (by decide +kernel)
theorem tg_1855 : Cond.instanceMethod yX10_sorts ∈ tblG := inG_i 1855 (by decide +kernel) (by decide +kernel)
theorem tg_77 : Cond.selects RX10 yX10_sorts yX10_sorts ∈ tblG := inG_i 77 (by decide +kernel) (by decide +kernel)
theorem tg_1852 : Cond.code yX10_puts cX10_puts 4 none ∈ tblG := inG_i 1852 (by decide +kernel) (by decide +kernel)
theorem ok_X10_puts : okY yX10_puts 3 = true := by decide +kernel
theorem tg_1849 : Cond.methodLink RX10 315 yX10_puts ∈ tblG := inG_i 1849 (by decide +kernel) (by decide +kernel)
theorem tg_1851 : Cond.instanceMethod yX10_puts ∈ tblG := inG_i 1851 (by decide +kernel) (by decide +kernel)
theorem tg_76 : Cond.selects RX10 yX10_puts yX10_puts ∈ tblG := inG_i 76 (by decide +kernel) (by decide +kernel)
theorem tg_1848 : Cond.code yX10_findOrder cX10_findOrder 7 (some .boolean) ∈ tblG := inG_i 1848 (by decide +kernel) (by decide +kernel)
theorem ok_X10_findOrder : okY yX10_findOrder 3 = true := by decide +kernel
theorem tg_1845 : Cond.methodLink RX10 331 yX10_findOrder ∈ tblG := inG_i 1845 (by decide +kernel) (by decide +kernel)
theorem tg_1847 : Cond.instanceMethod yX10_findOrder ∈ tblG := inG_i 1847 (by decide +kernel) (by decide +kernel)
theorem tg_75 : Cond.selects RX10 yX10_findOrder yX10_findOrder ∈ tblG := inG_i 75 (by decide +kernel) (by decide +kernel)
theorem tg_1865 : Cond.constantLong RX10 334 16 ∈ tblG := inG_i 1865 (by decide +kernel) (by decide +kernel)
theorem tg_1866 : Cond.constantLong RX10 336 1000 ∈ tblG := inG_i 1866 (by decide +kernel) (by decide +kernel)
theorem tg_1882 : Cond.code yX10_blackOf cX10_blackOf 3 (some .int) ∈ tblG := inG_i 1882 (by decide +kernel) (by decide +kernel)
theorem ok_X10_blackOf : okY yX10_blackOf 2 = true := by decide +kernel
theorem tg_1879 : Cond.methodLink RX10 338 yX10_blackOf ∈ tblG := inG_i 1879 (by decide +kernel) (by decide +kernel)
theorem tg_1881 : Cond.instanceMethod yX10_blackOf ∈ tblG := inG_i 1881 (by decide +kernel) (by decide +kernel)
theorem tg_80 : Cond.selects RX10 yX10_blackOf yX10_blackOf ∈ tblG := inG_i 80 (by decide +kernel) (by decide +kernel)
theorem tg_1890 : Cond.constant RX10 344 9765624 ∈ tblG := inG_i 1890 (by decide +kernel) (by decide +kernel)
theorem tg_1889 : Cond.code yX10_isRoom cX10_isRoom 2 (some .boolean) ∈ tblG := inG_i 1889 (by decide +kernel) (by decide +kernel)
theorem ok_X10_isRoom : okY yX10_isRoom 2 = true := by decide +kernel
theorem tg_1887 : Cond.methodLink RX10 345 yX10_isRoom ∈ tblG := inG_i 1887 (by decide +kernel) (by decide +kernel)
theorem tg_1888 : Cond.static yX10_isRoom ∈ tblG := inG_i 1888 (by decide +kernel) (by decide +kernel)
theorem tg_1478 : Cond.fieldLink RX10 101 RX10 "blacks" "[I" ∈ tblG := inG_i 1478 (by decide +kernel) (by decide +kernel)
theorem tg_1479 : Cond.fieldLink RX10 104 RX10 "broads" "[I" ∈ tblG := inG_i 1479 (by decide +kernel) (by decide +kernel)
theorem tg_1894 : Cond.code yX10_layBlacks cX10_layBlacks 3 none ∈ tblG := inG_i 1894 (by decide +kernel) (by decide +kernel)
theorem ok_X10_layBlacks : okY yX10_layBlacks 1 = true := by decide +kernel
theorem tg_1891 : Cond.methodLink RX10 348 yX10_layBlacks ∈ tblG := inG_i 1891 (by decide +kernel) (by decide +kernel)
theorem tg_1893 : Cond.instanceMethod yX10_layBlacks ∈ tblG := inG_i 1893 (by decide +kernel) (by decide +kernel)
theorem tg_81 : Cond.selects RX10 yX10_layBlacks yX10_layBlacks ∈ tblG := inG_i 81 (by decide +kernel) (by decide +kernel)
theorem tg_1901 : Cond.code yX10_roomOf cX10_roomOf 4 (some .int) ∈ tblG := inG_i 1901 (by decide +kernel) (by decide +kernel)
theorem ok_X10_roomOf : okY yX10_roomOf 2 = true := by decide +kernel
theorem tg_1899 : Cond.methodLink RX10 341 yX10_roomOf ∈ tblG := inG_i 1899 (by decide +kernel) (by decide +kernel)
theorem tg_1900 : Cond.static yX10_roomOf ∈ tblG := inG_i 1900 (by decide +kernel) (by decide +kernel)
theorem tg_1898 : Cond.code yX10_colourOf cX10_colourOf 6 (some .int) ∈ tblG := inG_i 1898 (by decide +kernel) (by decide +kernel)
theorem ok_X10_colourOf : okY yX10_colourOf 2 = true := by decide +kernel
theorem tg_1895 : Cond.methodLink RX10 351 yX10_colourOf ∈ tblG := inG_i 1895 (by decide +kernel) (by decide +kernel)
theorem tg_1897 : Cond.instanceMethod yX10_colourOf ∈ tblG := inG_i 1897 (by decide +kernel) (by decide +kernel)
theorem tg_82 : Cond.selects RX10 yX10_colourOf yX10_colourOf ∈ tblG := inG_i 82 (by decide +kernel) (by decide +kernel)
theorem tg_1909 : Cond.code yX10_unevenBy cX10_unevenBy 6 (some .int) ∈ tblG := inG_i 1909 (by decide +kernel) (by decide +kernel)
theorem ok_X10_unevenBy : okY yX10_unevenBy 1 = true := by decide +kernel
theorem tg_1906 : Cond.methodLink RX10 354 yX10_unevenBy ∈ tblG := inG_i 1906 (by decide +kernel) (by decide +kernel)
theorem tg_1908 : Cond.instanceMethod yX10_unevenBy ∈ tblG := inG_i 1908 (by decide +kernel) (by decide +kernel)
theorem tg_83 : Cond.selects RX10 yX10_unevenBy yX10_unevenBy ∈ tblG := inG_i 83 (by decide +kernel) (by decide +kernel)
theorem tg_1918 : Cond.constant RX10 357 99999 ∈ tblG := inG_i 1918 (by decide +kernel) (by decide +kernel)
theorem tg_1921 : Cond.code yX10_amount cX10_amount 1 (some .int) ∈ tblG := inG_i 1921 (by decide +kernel) (by decide +kernel)
theorem ok_X10_amount : okY yX10_amount 1 = true := by decide +kernel
theorem tg_1919 : Cond.methodLink RX10 358 yX10_amount ∈ tblG := inG_i 1919 (by decide +kernel) (by decide +kernel)
theorem tg_1920 : Cond.static yX10_amount ∈ tblG := inG_i 1920 (by decide +kernel) (by decide +kernel)
theorem tg_1460 : Cond.fieldLink RX10 62 RX10 "print" "[J" ∈ tblG := inG_i 1460 (by decide +kernel) (by decide +kernel)
theorem tg_1933 : Cond.code yX10_areKin cX10_areKin 5 (some .boolean) ∈ tblG := inG_i 1933 (by decide +kernel) (by decide +kernel)
theorem ok_X10_areKin : okY yX10_areKin 4 = true := by decide +kernel
theorem tg_1930 : Cond.methodLink RX10 361 yX10_areKin ∈ tblG := inG_i 1930 (by decide +kernel) (by decide +kernel)
theorem tg_1932 : Cond.instanceMethod yX10_areKin ∈ tblG := inG_i 1932 (by decide +kernel) (by decide +kernel)
theorem tg_84 : Cond.selects RX10 yX10_areKin yX10_areKin ∈ tblG := inG_i 84 (by decide +kernel) (by decide +kernel)
theorem tg_1474 : Cond.fieldLink RX10 365 RX10 "partings" "I" ∈ tblG := inG_i 1474 (by decide +kernel) (by decide +kernel)
theorem tg_1475 : Cond.fieldLink RX10 368 RX10 "fewest" "I" ∈ tblG := inG_i 1475 (by decide +kernel) (by decide +kernel)
theorem tg_1476 : Cond.fieldLink RX10 371 RX10 "alone" "I" ∈ tblG := inG_i 1476 (by decide +kernel) (by decide +kernel)
theorem tg_1473 : Cond.fieldLink RX10 95 RX10 "groupOf" "[I" ∈ tblG := inG_i 1473 (by decide +kernel) (by decide +kernel)
theorem tg_1480 : Cond.fieldLink RX10 109 RX10 "kinOf" "[[Z" ∈ tblG := inG_i 1480 (by decide +kernel) (by decide +kernel)
theorem tg_1941 : Cond.code yX10_parts cX10_parts 6 none ∈ tblG := inG_i 1941 (by decide +kernel) (by decide +kernel)
theorem ok_X10_parts : okY yX10_parts 2 = true := by decide +kernel
theorem tg_1938 : Cond.methodLink RX10 374 yX10_parts ∈ tblG := inG_i 1938 (by decide +kernel) (by decide +kernel)
theorem tg_1940 : Cond.instanceMethod yX10_parts ∈ tblG := inG_i 1940 (by decide +kernel) (by decide +kernel)
theorem tg_85 : Cond.selects RX10 yX10_parts yX10_parts ∈ tblG := inG_i 85 (by decide +kernel) (by decide +kernel)
theorem tg_1949 : Cond.code yX10_canBe cX10_canBe 2 (some .boolean) ∈ tblG := inG_i 1949 (by decide +kernel) (by decide +kernel)
theorem ok_X10_canBe : okY yX10_canBe 0 = true := by decide +kernel
theorem tg_1946 : Cond.methodLink RX10 377 yX10_canBe ∈ tblG := inG_i 1946 (by decide +kernel) (by decide +kernel)
theorem tg_1948 : Cond.instanceMethod yX10_canBe ∈ tblG := inG_i 1948 (by decide +kernel) (by decide +kernel)
theorem tg_86 : Cond.selects RX10 yX10_canBe yX10_canBe ∈ tblG := inG_i 86 (by decide +kernel) (by decide +kernel)
theorem tg_1461 : Cond.fieldLink RX10 67 RX10 "kept" "[[J" ∈ tblG := inG_i 1461 (by decide +kernel) (by decide +kernel)
theorem tg_1462 : Cond.fieldLink RX10 381 RX10 "spot" "I" ∈ tblG := inG_i 1462 (by decide +kernel) (by decide +kernel)
theorem tg_1977 : Cond.code yX10_moves cX10_moves 5 (some .long) ∈ tblG := inG_i 1977 (by decide +kernel) (by decide +kernel)
theorem ok_X10_moves : okY yX10_moves 3 = true := by decide +kernel
theorem tg_1974 : Cond.methodLink RX10 384 yX10_moves ∈ tblG := inG_i 1974 (by decide +kernel) (by decide +kernel)
theorem tg_1976 : Cond.instanceMethod yX10_moves ∈ tblG := inG_i 1976 (by decide +kernel) (by decide +kernel)
theorem tg_88 : Cond.selects RX10 yX10_moves yX10_moves ∈ tblG := inG_i 88 (by decide +kernel) (by decide +kernel)
theorem tg_1973 : Cond.code yX10_movesAll cX10_movesAll 4 none ∈ tblG := inG_i 1973 (by decide +kernel) (by decide +kernel)
theorem ok_X10_movesAll : okY yX10_movesAll 2 = true := by decide +kernel
theorem tg_1970 : Cond.methodLink RX10 388 yX10_movesAll ∈ tblG := inG_i 1970 (by decide +kernel) (by decide +kernel)
theorem tg_1972 : Cond.instanceMethod yX10_movesAll ∈ tblG := inG_i 1972 (by decide +kernel) (by decide +kernel)
theorem tg_87 : Cond.selects RX10 yX10_movesAll yX10_movesAll ∈ tblG := inG_i 87 (by decide +kernel) (by decide +kernel)
theorem tg_745 : Cond.fieldLink RJ0 38 RJ0 "COMPACT_STRINGS" "Z" ∈ tblG := inG_i 745 (by decide +kernel) (by decide +kernel)
theorem tg_COMPACT : Cond.fieldLink RJ0 38 RJ0 "COMPACT_STRINGS" "Z" ∈ tblG := tg_745
theorem tg_2004 : Cond.fieldLink RJ0 15 RJ0 "coder" "B" ∈ tblG := inG_i 2004 (by decide +kernel) (by decide +kernel)
theorem tg_coder : Cond.fieldLink RJ0 15 RJ0 "coder" "B" ∈ tblG := tg_2004
theorem tg_2003 : Cond.fieldLink RJ0 9 RJ0 "value" "[B" ∈ tblG := inG_i 2003 (by decide +kernel) (by decide +kernel)
theorem tg_value : Cond.fieldLink RJ0 9 RJ0 "value" "[B" ∈ tblG := tg_2003
theorem tg_108 : Cond.initialized RJ0 ∈ tblG := inG_i 108 (by decide +kernel) (by decide +kernel)
theorem tg_i_String : Cond.initialized RJ0 ∈ tblG := tg_108
theorem tg_110 : Cond.initialized RJ3 ∈ tblG := inG_i 110 (by decide +kernel) (by decide +kernel)
theorem tg_i_Pre : Cond.initialized RJ3 ∈ tblG := tg_110
theorem tg_109 : Cond.initialized RJ1 ∈ tblG := inG_i 109 (by decide +kernel) (by decide +kernel)
theorem tg_i_L1 : Cond.initialized RJ1 ∈ tblG := tg_109
theorem tg_761 : Cond.fieldLink RJ0 1053 RJ3 "SIOOBE_FORMATTER" "Ljava/util/function/BiFunction;" ∈ tblG := inG_i 761 (by decide +kernel) (by decide +kernel)
theorem tg_fmt : Cond.fieldLink RJ0 1053 RJ3 "SIOOBE_FORMATTER" "Ljava/util/function/BiFunction;" ∈ tblG := tg_761
theorem tg_744 : Cond.code yJ0_coder_7d493 cJ0_coder_7d493 1 (some .byte) ∈ tblG := inG_i 744 (by decide +kernel) (by decide +kernel)
theorem tg_c_coder : Cond.code yJ0_coder_7d493 cJ0_coder_7d493 1 (some .byte) ∈ tblG := tg_744
theorem tg_741 : Cond.methodLink RJ0 335 yJ0_coder_7d493 ∈ tblG := inG_i 741 (by decide +kernel) (by decide +kernel)
theorem tg_l_coder : Cond.methodLink RJ0 335 yJ0_coder_7d493 ∈ tblG := tg_741
theorem tg_742 : Cond.instanceMethod yJ0_coder_7d493 ∈ tblG := inG_i 742 (by decide +kernel) (by decide +kernel)
theorem tg_in_coder : Cond.instanceMethod yJ0_coder_7d493 ∈ tblG := tg_742
theorem tg_743 : Cond.selects RJ0 yJ0_coder_7d493 yJ0_coder_7d493 ∈ tblG := inG_i 743 (by decide +kernel) (by decide +kernel)
theorem tg_se_coder : Cond.selects RJ0 yJ0_coder_7d493 yJ0_coder_7d493 ∈ tblG := tg_743
theorem ok_coder : okY yJ0_coder_7d493 0 = true := by decide +kernel
theorem tg_754 : Cond.code yJ0_isLatin1_aae02 cJ0_isLatin1_aae02 1 (some .boolean) ∈ tblG := inG_i 754 (by decide +kernel) (by decide +kernel)
theorem tg_c_isl : Cond.code yJ0_isLatin1_aae02 cJ0_isLatin1_aae02 1 (some .boolean) ∈ tblG := tg_754
theorem tg_751 : Cond.methodLink RJ0 492 yJ0_isLatin1_aae02 ∈ tblG := inG_i 751 (by decide +kernel) (by decide +kernel)
theorem tg_l_isl : Cond.methodLink RJ0 492 yJ0_isLatin1_aae02 ∈ tblG := tg_751
theorem tg_752 : Cond.instanceMethod yJ0_isLatin1_aae02 ∈ tblG := inG_i 752 (by decide +kernel) (by decide +kernel)
theorem tg_in_isl : Cond.instanceMethod yJ0_isLatin1_aae02 ∈ tblG := tg_752
theorem tg_753 : Cond.selects RJ0 yJ0_isLatin1_aae02 yJ0_isLatin1_aae02 ∈ tblG := inG_i 753 (by decide +kernel) (by decide +kernel)
theorem tg_se_isl : Cond.selects RJ0 yJ0_isLatin1_aae02 yJ0_isLatin1_aae02 ∈ tblG := tg_753
theorem ok_isl : okY yJ0_isLatin1_aae02 0 = true := by decide +kernel
theorem tg_740 : Cond.code yJ0_length_8abf5 cJ0_length_8abf5 1 (some .int) ∈ tblG := inG_i 740 (by decide +kernel) (by decide +kernel)
theorem tg_c_len : Cond.code yJ0_length_8abf5 cJ0_length_8abf5 1 (some .int) ∈ tblG := tg_740
theorem tg_738 : Cond.instanceMethod yJ0_length_8abf5 ∈ tblG := inG_i 738 (by decide +kernel) (by decide +kernel)
theorem tg_in_len : Cond.instanceMethod yJ0_length_8abf5 ∈ tblG := tg_738
theorem tg_739 : Cond.selects RJ0 yJ0_length_8abf5 yJ0_length_8abf5 ∈ tblG := inG_i 739 (by decide +kernel) (by decide +kernel)
theorem tg_se_len : Cond.selects RJ0 yJ0_length_8abf5 yJ0_length_8abf5 ∈ tblG := tg_739
theorem ok_len : okY yJ0_length_8abf5 0 = true := by decide +kernel
theorem tg_750 : Cond.code yJ0_charAt_5068e cJ0_charAt_5068e 2 (some .char) ∈ tblG := inG_i 750 (by decide +kernel) (by decide +kernel)
theorem tg_c_chr : Cond.code yJ0_charAt_5068e cJ0_charAt_5068e 2 (some .char) ∈ tblG := tg_750
theorem tg_748 : Cond.instanceMethod yJ0_charAt_5068e ∈ tblG := inG_i 748 (by decide +kernel) (by decide +kernel)
theorem tg_in_chr : Cond.instanceMethod yJ0_charAt_5068e ∈ tblG := tg_748
theorem tg_749 : Cond.selects RJ0 yJ0_charAt_5068e yJ0_charAt_5068e ∈ tblG := inG_i 749 (by decide +kernel) (by decide +kernel)
theorem tg_se_chr : Cond.selects RJ0 yJ0_charAt_5068e yJ0_charAt_5068e ∈ tblG := tg_749
theorem ok_chr : okY yJ0_charAt_5068e 1 = true := by decide +kernel
theorem tg_760 : Cond.code yJ0_checkIndex_df160 cJ0_checkIndex_df160 2 none ∈ tblG := inG_i 760 (by decide +kernel) (by decide +kernel)
theorem tg_c_sci : Cond.code yJ0_checkIndex_df160 cJ0_checkIndex_df160 2 none ∈ tblG := tg_760
theorem tg_758 : Cond.methodLink RJ1 9 yJ0_checkIndex_df160 ∈ tblG := inG_i 758 (by decide +kernel) (by decide +kernel)
theorem tg_l_sci : Cond.methodLink RJ1 9 yJ0_checkIndex_df160 ∈ tblG := tg_758
theorem tg_759 : Cond.static yJ0_checkIndex_df160 ∈ tblG := inG_i 759 (by decide +kernel) (by decide +kernel)
theorem tg_st_sci : Cond.static yJ0_checkIndex_df160 ∈ tblG := tg_759
theorem ok_sci : okY yJ0_checkIndex_df160 2 = true := by decide +kernel
theorem tg_765 : Cond.code yJ3_checkIndex_8e157 cJ3_checkIndex_8e157 3 (some .int) ∈ tblG := inG_i 765 (by decide +kernel) (by decide +kernel)
theorem tg_c_pci : Cond.code yJ3_checkIndex_8e157 cJ3_checkIndex_8e157 3 (some .int) ∈ tblG := tg_765
theorem tg_763 : Cond.methodLink RJ0 1059 yJ3_checkIndex_8e157 ∈ tblG := inG_i 763 (by decide +kernel) (by decide +kernel)
theorem tg_l_pci : Cond.methodLink RJ0 1059 yJ3_checkIndex_8e157 ∈ tblG := tg_763
theorem tg_764 : Cond.static yJ3_checkIndex_8e157 ∈ tblG := inG_i 764 (by decide +kernel) (by decide +kernel)
theorem tg_st_pci : Cond.static yJ3_checkIndex_8e157 ∈ tblG := tg_764
theorem ok_pci : okY yJ3_checkIndex_8e157 3 = true := by decide +kernel
theorem tg_757 : Cond.code yJ1_charAt_3b067 cJ1_charAt_3b067 2 (some .char) ∈ tblG := inG_i 757 (by decide +kernel) (by decide +kernel)
theorem tg_c_l1c : Cond.code yJ1_charAt_3b067 cJ1_charAt_3b067 2 (some .char) ∈ tblG := tg_757
theorem tg_755 : Cond.methodLink RJ0 495 yJ1_charAt_3b067 ∈ tblG := inG_i 755 (by decide +kernel) (by decide +kernel)
theorem tg_l_l1c : Cond.methodLink RJ0 495 yJ1_charAt_3b067 ∈ tblG := tg_755
theorem tg_756 : Cond.static yJ1_charAt_3b067 ∈ tblG := inG_i 756 (by decide +kernel) (by decide +kernel)
theorem tg_st_l1c : Cond.static yJ1_charAt_3b067 ∈ tblG := tg_756
theorem ok_l1c : okY yJ1_charAt_3b067 2 = true := by decide +kernel
theorem tg_638 : Cond.code yX9_sheet cX9_sheet 3 (some .int) ∈ tblG := inG_i 638 (by decide +kernel) (by decide +kernel)
theorem ok_X9_sheet : okY yX9_sheet 1 = true := by decide +kernel
theorem tg_635 : Cond.methodLink RL 7 yX9_sheet ∈ tblG := inG_i 635 (by decide +kernel) (by decide +kernel)
theorem tg_636 : Cond.instanceMethod yX9_sheet ∈ tblG := inG_i 636 (by decide +kernel) (by decide +kernel)
theorem tg_637 : Cond.selects RX9 yX9_sheet yX9_sheet ∈ tblG := inG_i 637 (by decide +kernel) (by decide +kernel)
theorem tg_882 : Cond.code yX9_told cX9_told 2 (some .int) ∈ tblG := inG_i 882 (by decide +kernel) (by decide +kernel)
theorem ok_X9_told : okY yX9_told 1 = true := by decide +kernel
theorem tg_879 : Cond.methodLink RL 15 yX9_told ∈ tblG := inG_i 879 (by decide +kernel) (by decide +kernel)
theorem tg_880 : Cond.instanceMethod yX9_told ∈ tblG := inG_i 880 (by decide +kernel) (by decide +kernel)
theorem tg_881 : Cond.selects RX9 yX9_told yX9_told ∈ tblG := inG_i 881 (by decide +kernel) (by decide +kernel)
theorem tg_890 : Cond.code yX9_squares cX9_squares 5 (some .long) ∈ tblG := inG_i 890 (by decide +kernel) (by decide +kernel)
theorem ok_X9_squares : okY yX9_squares 2 = true := by decide +kernel
theorem tg_887 : Cond.methodLink RL 18 yX9_squares ∈ tblG := inG_i 887 (by decide +kernel) (by decide +kernel)
theorem tg_888 : Cond.instanceMethod yX9_squares ∈ tblG := inG_i 888 (by decide +kernel) (by decide +kernel)
theorem tg_889 : Cond.selects RX9 yX9_squares yX9_squares ∈ tblG := inG_i 889 (by decide +kernel) (by decide +kernel)
theorem tg_918 : Cond.code yX9_letter cX9_letter 5 (some .int) ∈ tblG := inG_i 918 (by decide +kernel) (by decide +kernel)
theorem ok_X9_letter : okY yX9_letter 2 = true := by decide +kernel
theorem tg_915 : Cond.methodLink RL 24 yX9_letter ∈ tblG := inG_i 915 (by decide +kernel) (by decide +kernel)
theorem tg_916 : Cond.instanceMethod yX9_letter ∈ tblG := inG_i 916 (by decide +kernel) (by decide +kernel)
theorem tg_917 : Cond.selects RX9 yX9_letter yX9_letter ∈ tblG := inG_i 917 (by decide +kernel) (by decide +kernel)
theorem tg_937 : Cond.code yX9_hollow cX9_hollow 2 (some .long) ∈ tblG := inG_i 937 (by decide +kernel) (by decide +kernel)
theorem ok_X9_hollow : okY yX9_hollow 1 = true := by decide +kernel
theorem tg_934 : Cond.methodLink RL 28 yX9_hollow ∈ tblG := inG_i 934 (by decide +kernel) (by decide +kernel)
theorem tg_935 : Cond.instanceMethod yX9_hollow ∈ tblG := inG_i 935 (by decide +kernel) (by decide +kernel)
theorem tg_936 : Cond.selects RX9 yX9_hollow yX9_hollow ∈ tblG := inG_i 936 (by decide +kernel) (by decide +kernel)
theorem tg_964 : Cond.code yX9_apart cX9_apart 4 (some .int) ∈ tblG := inG_i 964 (by decide +kernel) (by decide +kernel)
theorem ok_X9_apart : okY yX9_apart 3 = true := by decide +kernel
theorem tg_961 : Cond.methodLink RL 34 yX9_apart ∈ tblG := inG_i 961 (by decide +kernel) (by decide +kernel)
theorem tg_962 : Cond.instanceMethod yX9_apart ∈ tblG := inG_i 962 (by decide +kernel) (by decide +kernel)
theorem tg_963 : Cond.selects RX9 yX9_apart yX9_apart ∈ tblG := inG_i 963 (by decide +kernel) (by decide +kernel)
theorem tg_979 : Cond.code yX9_punches cX9_punches 5 (some .int) ∈ tblG := inG_i 979 (by decide +kernel) (by decide +kernel)
theorem ok_X9_punches : okY yX9_punches 3 = true := by decide +kernel
theorem tg_976 : Cond.methodLink RL 38 yX9_punches ∈ tblG := inG_i 976 (by decide +kernel) (by decide +kernel)
theorem tg_977 : Cond.instanceMethod yX9_punches ∈ tblG := inG_i 977 (by decide +kernel) (by decide +kernel)
theorem tg_978 : Cond.selects RX9 yX9_punches yX9_punches ∈ tblG := inG_i 978 (by decide +kernel) (by decide +kernel)
theorem tg_1008 : Cond.code yX9_served cX9_served 4 (some .int) ∈ tblG := inG_i 1008 (by decide +kernel) (by decide +kernel)
theorem ok_X9_served : okY yX9_served 3 = true := by decide +kernel
theorem tg_1005 : Cond.methodLink RL 42 yX9_served ∈ tblG := inG_i 1005 (by decide +kernel) (by decide +kernel)
theorem tg_1006 : Cond.instanceMethod yX9_served ∈ tblG := inG_i 1006 (by decide +kernel) (by decide +kernel)
theorem tg_1007 : Cond.selects RX9 yX9_served yX9_served ∈ tblG := inG_i 1007 (by decide +kernel) (by decide +kernel)
theorem tg_1020 : Cond.code yX9_bites cX9_bites 3 (some .int) ∈ tblG := inG_i 1020 (by decide +kernel) (by decide +kernel)
theorem ok_X9_bites : okY yX9_bites 2 = true := by decide +kernel
theorem tg_1017 : Cond.methodLink RL 45 yX9_bites ∈ tblG := inG_i 1017 (by decide +kernel) (by decide +kernel)
theorem tg_1018 : Cond.instanceMethod yX9_bites ∈ tblG := inG_i 1018 (by decide +kernel) (by decide +kernel)
theorem tg_1019 : Cond.selects RX9 yX9_bites yX9_bites ∈ tblG := inG_i 1019 (by decide +kernel) (by decide +kernel)
theorem tg_1036 : Cond.code yX9_lines cX9_lines 2 (some .long) ∈ tblG := inG_i 1036 (by decide +kernel) (by decide +kernel)
theorem ok_X9_lines : okY yX9_lines 1 = true := by decide +kernel
theorem tg_1033 : Cond.methodLink RL 48 yX9_lines ∈ tblG := inG_i 1033 (by decide +kernel) (by decide +kernel)
theorem tg_1034 : Cond.instanceMethod yX9_lines ∈ tblG := inG_i 1034 (by decide +kernel) (by decide +kernel)
theorem tg_1035 : Cond.selects RX9 yX9_lines yX9_lines ∈ tblG := inG_i 1035 (by decide +kernel) (by decide +kernel)
theorem tg_1043 : Cond.code yX9_begin cX9_begin 2 none ∈ tblG := inG_i 1043 (by decide +kernel) (by decide +kernel)
theorem ok_X9_begin : okY yX9_begin 1 = true := by decide +kernel
theorem tg_1040 : Cond.methodLink RL 51 yX9_begin ∈ tblG := inG_i 1040 (by decide +kernel) (by decide +kernel)
theorem tg_1041 : Cond.instanceMethod yX9_begin ∈ tblG := inG_i 1041 (by decide +kernel) (by decide +kernel)
theorem tg_1042 : Cond.selects RX9 yX9_begin yX9_begin ∈ tblG := inG_i 1042 (by decide +kernel) (by decide +kernel)
theorem tg_1054 : Cond.code yX9_blow cX9_blow 2 (some .int) ∈ tblG := inG_i 1054 (by decide +kernel) (by decide +kernel)
theorem ok_X9_blow : okY yX9_blow 1 = true := by decide +kernel
theorem tg_1051 : Cond.methodLink RL 55 yX9_blow ∈ tblG := inG_i 1051 (by decide +kernel) (by decide +kernel)
theorem tg_1052 : Cond.instanceMethod yX9_blow ∈ tblG := inG_i 1052 (by decide +kernel) (by decide +kernel)
theorem tg_1053 : Cond.selects RX9 yX9_blow yX9_blow ∈ tblG := inG_i 1053 (by decide +kernel) (by decide +kernel)
theorem tg_1073 : Cond.code yX9_file cX9_file 4 (some .int) ∈ tblG := inG_i 1073 (by decide +kernel) (by decide +kernel)
theorem ok_X9_file : okY yX9_file 3 = true := by decide +kernel
theorem tg_1070 : Cond.methodLink RL 58 yX9_file ∈ tblG := inG_i 1070 (by decide +kernel) (by decide +kernel)
theorem tg_1071 : Cond.instanceMethod yX9_file ∈ tblG := inG_i 1071 (by decide +kernel) (by decide +kernel)
theorem tg_1072 : Cond.selects RX9 yX9_file yX9_file ∈ tblG := inG_i 1072 (by decide +kernel) (by decide +kernel)
theorem tg_1087 : Cond.code yX9_punch cX9_punch 4 (some .int) ∈ tblG := inG_i 1087 (by decide +kernel) (by decide +kernel)
theorem ok_X9_punch : okY yX9_punch 1 = true := by decide +kernel
theorem tg_1084 : Cond.methodLink RL 62 yX9_punch ∈ tblG := inG_i 1084 (by decide +kernel) (by decide +kernel)
theorem tg_1085 : Cond.instanceMethod yX9_punch ∈ tblG := inG_i 1085 (by decide +kernel) (by decide +kernel)
theorem tg_1086 : Cond.selects RX9 yX9_punch yX9_punch ∈ tblG := inG_i 1086 (by decide +kernel) (by decide +kernel)
theorem tg_1097 : Cond.code yX9_addBlow cX9_addBlow 2 (some .int) ∈ tblG := inG_i 1097 (by decide +kernel) (by decide +kernel)
