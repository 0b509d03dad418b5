set_option maxRecDepth 100000 in
theorem m_26 : Cond.classLink RL 7 RX11 ∈ W0 := w0_in (List.mem_append_right _ (List.mem_of_getElem? (i := 26) rfl)) rfl
set_option maxRecDepth 100000 in
theorem m_27 : Cond.instantiable RX11 18 ∈ W0 := w0_in (List.mem_append_right _ (List.mem_of_getElem? (i := 27) rfl)) rfl
set_option maxRecDepth 100000 in
theorem m_28 : Cond.methodLink RL 9 yX11_init ∈ W0 := w0_in (List.mem_append_right _ (List.mem_of_getElem? (i := 28) rfl)) rfl
set_option maxRecDepth 100000 in
theorem m_29 : Cond.instanceMethod yX11_init ∈ W0 := w0_in (List.mem_append_right _ (List.mem_of_getElem? (i := 29) rfl)) rfl
set_option maxRecDepth 100000 in
theorem m_30 : Cond.code yX11_init cX11_init 2 none ∈ W0 := w0_in (List.mem_append_right _ (List.mem_of_getElem? (i := 30) rfl)) rfl
set_option maxRecDepth 100000 in
theorem m_885 : Cond.methodLink RL 13 yX11_feed ∈ W0 := w0_in (List.mem_append_right _ (List.mem_of_getElem? (i := 885) rfl)) rfl
set_option maxRecDepth 100000 in
theorem m_886 : Cond.instanceMethod yX11_feed ∈ W0 := w0_in (List.mem_append_right _ (List.mem_of_getElem? (i := 886) rfl)) rfl
set_option maxRecDepth 100000 in
theorem m_887 : Cond.selects RX11 yX11_feed yX11_feed ∈ W0 := w0_in (List.mem_append_right _ (List.mem_of_getElem? (i := 887) rfl)) rfl
set_option maxRecDepth 100000 in
theorem m_888 : Cond.code yX11_feed cX11_feed 6 (some .int) ∈ W0 := w0_in (List.mem_append_right _ (List.mem_of_getElem? (i := 888) rfl)) rfl
set_option maxRecDepth 100000 in
theorem m_893 : Cond.methodLink RL 18 yX11_end ∈ W0 := w0_in (List.mem_append_right _ (List.mem_of_getElem? (i := 893) rfl)) rfl
set_option maxRecDepth 100000 in
theorem m_894 : Cond.instanceMethod yX11_end ∈ W0 := w0_in (List.mem_append_right _ (List.mem_of_getElem? (i := 894) rfl)) rfl
set_option maxRecDepth 100000 in
theorem m_895 : Cond.selects RX11 yX11_end yX11_end ∈ W0 := w0_in (List.mem_append_right _ (List.mem_of_getElem? (i := 895) rfl)) rfl
set_option maxRecDepth 100000 in
theorem m_896 : Cond.code yX11_end cX11_end 2 (some .int) ∈ W0 := w0_in (List.mem_append_right _ (List.mem_of_getElem? (i := 896) rfl)) rfl
set_option maxRecDepth 100000 in
theorem m_897 : Cond.methodLink RL 23 yX11_rules ∈ W0 := w0_in (List.mem_append_right _ (List.mem_of_getElem? (i := 897) rfl)) rfl
set_option maxRecDepth 100000 in
theorem m_898 : Cond.instanceMethod yX11_rules ∈ W0 := w0_in (List.mem_append_right _ (List.mem_of_getElem? (i := 898) rfl)) rfl
set_option maxRecDepth 100000 in
theorem m_899 : Cond.selects RX11 yX11_rules yX11_rules ∈ W0 := w0_in (List.mem_append_right _ (List.mem_of_getElem? (i := 899) rfl)) rfl
set_option maxRecDepth 100000 in
theorem m_900 : Cond.code yX11_rules cX11_rules 3 (some .int) ∈ W0 := w0_in (List.mem_append_right _ (List.mem_of_getElem? (i := 900) rfl)) rfl
set_option maxRecDepth 100000 in
theorem m_913 : Cond.methodLink RL 28 yX11_told ∈ W0 := w0_in (List.mem_append_right _ (List.mem_of_getElem? (i := 913) rfl)) rfl
set_option maxRecDepth 100000 in
theorem m_914 : Cond.instanceMethod yX11_told ∈ W0 := w0_in (List.mem_append_right _ (List.mem_of_getElem? (i := 914) rfl)) rfl
set_option maxRecDepth 100000 in
theorem m_915 : Cond.selects RX11 yX11_told yX11_told ∈ W0 := w0_in (List.mem_append_right _ (List.mem_of_getElem? (i := 915) rfl)) rfl
set_option maxRecDepth 100000 in
theorem m_916 : Cond.code yX11_told cX11_told 2 (some .int) ∈ W0 := w0_in (List.mem_append_right _ (List.mem_of_getElem? (i := 916) rfl)) rfl
set_option maxRecDepth 100000 in
theorem m_921 : Cond.methodLink RL 32 yX11_out ∈ W0 := w0_in (List.mem_append_right _ (List.mem_of_getElem? (i := 921) rfl)) rfl
set_option maxRecDepth 100000 in
theorem m_922 : Cond.instanceMethod yX11_out ∈ W0 := w0_in (List.mem_append_right _ (List.mem_of_getElem? (i := 922) rfl)) rfl
set_option maxRecDepth 100000 in
theorem m_923 : Cond.selects RX11 yX11_out yX11_out ∈ W0 := w0_in (List.mem_append_right _ (List.mem_of_getElem? (i := 923) rfl)) rfl
set_option maxRecDepth 100000 in
theorem m_924 : Cond.code yX11_out cX11_out 2 (some .int) ∈ W0 := w0_in (List.mem_append_right _ (List.mem_of_getElem? (i := 924) rfl)) rfl
set_option maxRecDepth 100000 in
theorem m_926 : Cond.methodLink RL 36 yX11_position ∈ W0 := w0_in (List.mem_append_right _ (List.mem_of_getElem? (i := 926) rfl)) rfl
set_option maxRecDepth 100000 in
theorem m_927 : Cond.instanceMethod yX11_position ∈ W0 := w0_in (List.mem_append_right _ (List.mem_of_getElem? (i := 927) rfl)) rfl
set_option maxRecDepth 100000 in
theorem m_928 : Cond.selects RX11 yX11_position yX11_position ∈ W0 := w0_in (List.mem_append_right _ (List.mem_of_getElem? (i := 928) rfl)) rfl
set_option maxRecDepth 100000 in
theorem m_929 : Cond.code yX11_position cX11_position 6 (some .int) ∈ W0 := w0_in (List.mem_append_right _ (List.mem_of_getElem? (i := 929) rfl)) rfl
set_option maxRecDepth 100000 in
theorem m_1076 : Cond.methodLink RL 40 yX11_drop ∈ W0 := w0_in (List.mem_append_right _ (List.mem_of_getElem? (i := 1076) rfl)) rfl
set_option maxRecDepth 100000 in
theorem m_1077 : Cond.instanceMethod yX11_drop ∈ W0 := w0_in (List.mem_append_right _ (List.mem_of_getElem? (i := 1077) rfl)) rfl
set_option maxRecDepth 100000 in
theorem m_1078 : Cond.selects RX11 yX11_drop yX11_drop ∈ W0 := w0_in (List.mem_append_right _ (List.mem_of_getElem? (i := 1078) rfl)) rfl
set_option maxRecDepth 100000 in
theorem m_1079 : Cond.code yX11_drop cX11_drop 2 (some .int) ∈ W0 := w0_in (List.mem_append_right _ (List.mem_of_getElem? (i := 1079) rfl)) rfl
set_option maxRecDepth 100000 in
theorem m_1084 : Cond.methodLink RL 44 yX11_write ∈ W0 := w0_in (List.mem_append_right _ (List.mem_of_getElem? (i := 1084) rfl)) rfl
set_option maxRecDepth 100000 in
theorem m_1085 : Cond.instanceMethod yX11_write ∈ W0 := w0_in (List.mem_append_right _ (List.mem_of_getElem? (i := 1085) rfl)) rfl
set_option maxRecDepth 100000 in
theorem m_1086 : Cond.selects RX11 yX11_write yX11_write ∈ W0 := w0_in (List.mem_append_right _ (List.mem_of_getElem? (i := 1086) rfl)) rfl
set_option maxRecDepth 100000 in
theorem m_1087 : Cond.code yX11_write cX11_write 2 (some .int) ∈ W0 := w0_in (List.mem_append_right _ (List.mem_of_getElem? (i := 1087) rfl)) rfl
set_option maxRecDepth 100000 in
theorem m_1125 : Cond.methodLink RL 48 yX11_same ∈ W0 := w0_in (List.mem_append_right _ (List.mem_of_getElem? (i := 1125) rfl)) rfl
set_option maxRecDepth 100000 in
theorem m_1126 : Cond.instanceMethod yX11_same ∈ W0 := w0_in (List.mem_append_right _ (List.mem_of_getElem? (i := 1126) rfl)) rfl
set_option maxRecDepth 100000 in
theorem m_1127 : Cond.selects RX11 yX11_same yX11_same ∈ W0 := w0_in (List.mem_append_right _ (List.mem_of_getElem? (i := 1127) rfl)) rfl
set_option maxRecDepth 100000 in
theorem m_1128 : Cond.code yX11_same cX11_same 3 (some .boolean) ∈ W0 := w0_in (List.mem_append_right _ (List.mem_of_getElem? (i := 1128) rfl)) rfl
set_option maxRecDepth 100000 in
theorem m_1260 : Cond.methodLink RL 53 yX11_at ∈ W0 := w0_in (List.mem_append_right _ (List.mem_of_getElem? (i := 1260) rfl)) rfl
set_option maxRecDepth 100000 in
theorem m_1261 : Cond.instanceMethod yX11_at ∈ W0 := w0_in (List.mem_append_right _ (List.mem_of_getElem? (i := 1261) rfl)) rfl
set_option maxRecDepth 100000 in
theorem m_1262 : Cond.selects RX11 yX11_at yX11_at ∈ W0 := w0_in (List.mem_append_right _ (List.mem_of_getElem? (i := 1262) rfl)) rfl
set_option maxRecDepth 100000 in
theorem m_1263 : Cond.code yX11_at cX11_at 3 (some .int) ∈ W0 := w0_in (List.mem_append_right _ (List.mem_of_getElem? (i := 1263) rfl)) rfl
set_option maxRecDepth 100000 in
theorem m_1268 : Cond.methodLink RL 58 yX11_figure ∈ W0 := w0_in (List.mem_append_right _ (List.mem_of_getElem? (i := 1268) rfl)) rfl
set_option maxRecDepth 100000 in
theorem m_1269 : Cond.instanceMethod yX11_figure ∈ W0 := w0_in (List.mem_append_right _ (List.mem_of_getElem? (i := 1269) rfl)) rfl
set_option maxRecDepth 100000 in
theorem m_1270 : Cond.selects RX11 yX11_figure yX11_figure ∈ W0 := w0_in (List.mem_append_right _ (List.mem_of_getElem? (i := 1270) rfl)) rfl
set_option maxRecDepth 100000 in
theorem m_1271 : Cond.code yX11_figure cX11_figure 4 (some .int) ∈ W0 := w0_in (List.mem_append_right _ (List.mem_of_getElem? (i := 1271) rfl)) rfl
set_option maxRecDepth 100000 in
theorem m_1285 : Cond.methodLink RL 62 yX11_attacked ∈ W0 := w0_in (List.mem_append_right _ (List.mem_of_getElem? (i := 1285) rfl)) rfl
set_option maxRecDepth 100000 in
theorem m_1286 : Cond.instanceMethod yX11_attacked ∈ W0 := w0_in (List.mem_append_right _ (List.mem_of_getElem? (i := 1286) rfl)) rfl
set_option maxRecDepth 100000 in
theorem m_1287 : Cond.selects RX11 yX11_attacked yX11_attacked ∈ W0 := w0_in (List.mem_append_right _ (List.mem_of_getElem? (i := 1287) rfl)) rfl
set_option maxRecDepth 100000 in
theorem m_1288 : Cond.code yX11_attacked cX11_attacked 4 (some .int) ∈ W0 := w0_in (List.mem_append_right _ (List.mem_of_getElem? (i := 1288) rfl)) rfl
set_option maxRecDepth 100000 in
theorem m_1293 : Cond.methodLink RL 67 yX11_moves ∈ W0 := w0_in (List.mem_append_right _ (List.mem_of_getElem? (i := 1293) rfl)) rfl
set_option maxRecDepth 100000 in
theorem m_1294 : Cond.instanceMethod yX11_moves ∈ W0 := w0_in (List.mem_append_right _ (List.mem_of_getElem? (i := 1294) rfl)) rfl
set_option maxRecDepth 100000 in
theorem m_1295 : Cond.selects RX11 yX11_moves yX11_moves ∈ W0 := w0_in (List.mem_append_right _ (List.mem_of_getElem? (i := 1295) rfl)) rfl
set_option maxRecDepth 100000 in
theorem m_1296 : Cond.code yX11_moves cX11_moves 2 (some .int) ∈ W0 := w0_in (List.mem_append_right _ (List.mem_of_getElem? (i := 1296) rfl)) rfl
set_option maxRecDepth 100000 in
theorem m_1302 : Cond.methodLink RL 71 yX11_move ∈ W0 := w0_in (List.mem_append_right _ (List.mem_of_getElem? (i := 1302) rfl)) rfl
set_option maxRecDepth 100000 in
theorem m_1303 : Cond.instanceMethod yX11_move ∈ W0 := w0_in (List.mem_append_right _ (List.mem_of_getElem? (i := 1303) rfl)) rfl
set_option maxRecDepth 100000 in
theorem m_1304 : Cond.selects RX11 yX11_move yX11_move ∈ W0 := w0_in (List.mem_append_right _ (List.mem_of_getElem? (i := 1304) rfl)) rfl
set_option maxRecDepth 100000 in
theorem m_1305 : Cond.code yX11_move cX11_move 5 (some .int) ∈ W0 := w0_in (List.mem_append_right _ (List.mem_of_getElem? (i := 1305) rfl)) rfl
set_option maxRecDepth 100000 in
theorem m_1312 : Cond.methodLink RL 75 yX11_go ∈ W0 := w0_in (List.mem_append_right _ (List.mem_of_getElem? (i := 1312) rfl)) rfl
set_option maxRecDepth 100000 in
theorem m_1313 : Cond.instanceMethod yX11_go ∈ W0 := w0_in (List.mem_append_right _ (List.mem_of_getElem? (i := 1313) rfl)) rfl
set_option maxRecDepth 100000 in
theorem m_1314 : Cond.selects RX11 yX11_go yX11_go ∈ W0 := w0_in (List.mem_append_right _ (List.mem_of_getElem? (i := 1314) rfl)) rfl
set_option maxRecDepth 100000 in
theorem m_1315 : Cond.code yX11_go cX11_go 4 (some .int) ∈ W0 := w0_in (List.mem_append_right _ (List.mem_of_getElem? (i := 1315) rfl)) rfl
set_option maxRecDepth 100000 in
theorem m_1342 : Cond.methodLink RL 79 yX11_rows ∈ W0 := w0_in (List.mem_append_right _ (List.mem_of_getElem? (i := 1342) rfl)) rfl
set_option maxRecDepth 100000 in
theorem m_1343 : Cond.instanceMethod yX11_rows ∈ W0 := w0_in (List.mem_append_right _ (List.mem_of_getElem? (i := 1343) rfl)) rfl
set_option maxRecDepth 100000 in
theorem m_1344 : Cond.selects RX11 yX11_rows yX11_rows ∈ W0 := w0_in (List.mem_append_right _ (List.mem_of_getElem? (i := 1344) rfl)) rfl
set_option maxRecDepth 100000 in
theorem m_1345 : Cond.code yX11_rows cX11_rows 4 (some .int) ∈ W0 := w0_in (List.mem_append_right _ (List.mem_of_getElem? (i := 1345) rfl)) rfl
set_option maxRecDepth 100000 in
theorem m_1394 : Cond.methodLink RL 83 yX11_ended ∈ W0 := w0_in (List.mem_append_right _ (List.mem_of_getElem? (i := 1394) rfl)) rfl
set_option maxRecDepth 100000 in
theorem m_1395 : Cond.instanceMethod yX11_ended ∈ W0 := w0_in (List.mem_append_right _ (List.mem_of_getElem? (i := 1395) rfl)) rfl
set_option maxRecDepth 100000 in
theorem m_1396 : Cond.selects RX11 yX11_ended yX11_ended ∈ W0 := w0_in (List.mem_append_right _ (List.mem_of_getElem? (i := 1396) rfl)) rfl
set_option maxRecDepth 100000 in
theorem m_1397 : Cond.code yX11_ended cX11_ended 2 (some .int) ∈ W0 := w0_in (List.mem_append_right _ (List.mem_of_getElem? (i := 1397) rfl)) rfl
set_option maxRecDepth 100000 in
theorem m_1399 : Cond.methodLink RL 87 yX11_result ∈ W0 := w0_in (List.mem_append_right _ (List.mem_of_getElem? (i := 1399) rfl)) rfl
set_option maxRecDepth 100000 in
theorem m_1400 : Cond.instanceMethod yX11_result ∈ W0 := w0_in (List.mem_append_right _ (List.mem_of_getElem? (i := 1400) rfl)) rfl
set_option maxRecDepth 100000 in
theorem m_1401 : Cond.selects RX11 yX11_result yX11_result ∈ W0 := w0_in (List.mem_append_right _ (List.mem_of_getElem? (i := 1401) rfl)) rfl
set_option maxRecDepth 100000 in
theorem m_1402 : Cond.code yX11_result cX11_result 2 (some .int) ∈ W0 := w0_in (List.mem_append_right _ (List.mem_of_getElem? (i := 1402) rfl)) rfl
set_option maxRecDepth 100000 in
theorem m_1404 : Cond.methodLink RL 91 yX11_say ∈ W0 := w0_in (List.mem_append_right _ (List.mem_of_getElem? (i := 1404) rfl)) rfl
set_option maxRecDepth 100000 in
theorem m_1405 : Cond.instanceMethod yX11_say ∈ W0 := w0_in (List.mem_append_right _ (List.mem_of_getElem? (i := 1405) rfl)) rfl
set_option maxRecDepth 100000 in
theorem m_1406 : Cond.selects RX11 yX11_say yX11_say ∈ W0 := w0_in (List.mem_append_right _ (List.mem_of_getElem? (i := 1406) rfl)) rfl
set_option maxRecDepth 100000 in
theorem m_1407 : Cond.code yX11_say cX11_say 5 (some .int) ∈ W0 := w0_in (List.mem_append_right _ (List.mem_of_getElem? (i := 1407) rfl)) rfl
set_option maxRecDepth 100000 in
theorem m_1441 : Cond.methodLink RL 95 yX11_hear ∈ W0 := w0_in (List.mem_append_right _ (List.mem_of_getElem? (i := 1441) rfl)) rfl
set_option maxRecDepth 100000 in
theorem m_1442 : Cond.instanceMethod yX11_hear ∈ W0 := w0_in (List.mem_append_right _ (List.mem_of_getElem? (i := 1442) rfl)) rfl
set_option maxRecDepth 100000 in
theorem m_1443 : Cond.selects RX11 yX11_hear yX11_hear ∈ W0 := w0_in (List.mem_append_right _ (List.mem_of_getElem? (i := 1443) rfl)) rfl
set_option maxRecDepth 100000 in
theorem m_1444 : Cond.code yX11_hear cX11_hear 4 (some .int) ∈ W0 := w0_in (List.mem_append_right _ (List.mem_of_getElem? (i := 1444) rfl)) rfl
set_option maxRecDepth 100000 in
theorem m_1460 : Cond.methodLink RL 99 yX11_start ∈ W0 := w0_in (List.mem_append_right _ (List.mem_of_getElem? (i := 1460) rfl)) rfl
set_option maxRecDepth 100000 in
theorem m_1461 : Cond.instanceMethod yX11_start ∈ W0 := w0_in (List.mem_append_right _ (List.mem_of_getElem? (i := 1461) rfl)) rfl
set_option maxRecDepth 100000 in
theorem m_1462 : Cond.selects RX11 yX11_start yX11_start ∈ W0 := w0_in (List.mem_append_right _ (List.mem_of_getElem? (i := 1462) rfl)) rfl
set_option maxRecDepth 100000 in
theorem m_1463 : Cond.code yX11_start cX11_start 3 (some .int) ∈ W0 := w0_in (List.mem_append_right _ (List.mem_of_getElem? (i := 1463) rfl)) rfl
set_option maxRecDepth 100000 in
theorem m_1471 : Cond.methodLink RL 103 yX11_add ∈ W0 := w0_in (List.mem_append_right _ (List.mem_of_getElem? (i := 1471) rfl)) rfl
set_option maxRecDepth 100000 in
theorem m_1472 : Cond.instanceMethod yX11_add ∈ W0 := w0_in (List.mem_append_right _ (List.mem_of_getElem? (i := 1472) rfl)) rfl
set_option maxRecDepth 100000 in
theorem m_1473 : Cond.selects RX11 yX11_add yX11_add ∈ W0 := w0_in (List.mem_append_right _ (List.mem_of_getElem? (i := 1473) rfl)) rfl
set_option maxRecDepth 100000 in
theorem m_1474 : Cond.code yX11_add cX11_add 7 (some .int) ∈ W0 := w0_in (List.mem_append_right _ (List.mem_of_getElem? (i := 1474) rfl)) rfl
set_option maxRecDepth 100000 in
theorem m_1475 : Cond.methodLink RL 107 yX11_back ∈ W0 := w0_in (List.mem_append_right _ (List.mem_of_getElem? (i := 1475) rfl)) rfl
set_option maxRecDepth 100000 in
theorem m_1476 : Cond.instanceMethod yX11_back ∈ W0 := w0_in (List.mem_append_right _ (List.mem_of_getElem? (i := 1476) rfl)) rfl
set_option maxRecDepth 100000 in
theorem m_1477 : Cond.selects RX11 yX11_back yX11_back ∈ W0 := w0_in (List.mem_append_right _ (List.mem_of_getElem? (i := 1477) rfl)) rfl
set_option maxRecDepth 100000 in
theorem m_1478 : Cond.code yX11_back cX11_back 2 (some .int) ∈ W0 := w0_in (List.mem_append_right _ (List.mem_of_getElem? (i := 1478) rfl)) rfl
set_option maxRecDepth 100000 in
theorem m_1479 : Cond.methodLink RL 111 yX11_game ∈ W0 := w0_in (List.mem_append_right _ (List.mem_of_getElem? (i := 1479) rfl)) rfl
set_option maxRecDepth 100000 in
theorem m_1480 : Cond.instanceMethod yX11_game ∈ W0 := w0_in (List.mem_append_right _ (List.mem_of_getElem? (i := 1480) rfl)) rfl
set_option maxRecDepth 100000 in
theorem m_1481 : Cond.selects RX11 yX11_game yX11_game ∈ W0 := w0_in (List.mem_append_right _ (List.mem_of_getElem? (i := 1481) rfl)) rfl
set_option maxRecDepth 100000 in
theorem m_1482 : Cond.code yX11_game cX11_game 5 (some .int) ∈ W0 := w0_in (List.mem_append_right _ (List.mem_of_getElem? (i := 1482) rfl)) rfl
set_option maxRecDepth 100000 in
theorem m_1487 : Cond.methodLink RL 115 yX11_played ∈ W0 := w0_in (List.mem_append_right _ (List.mem_of_getElem? (i := 1487) rfl)) rfl
set_option maxRecDepth 100000 in
theorem m_1488 : Cond.instanceMethod yX11_played ∈ W0 := w0_in (List.mem_append_right _ (List.mem_of_getElem? (i := 1488) rfl)) rfl
set_option maxRecDepth 100000 in
theorem m_1489 : Cond.selects RX11 yX11_played yX11_played ∈ W0 := w0_in (List.mem_append_right _ (List.mem_of_getElem? (i := 1489) rfl)) rfl
set_option maxRecDepth 100000 in
theorem m_1490 : Cond.code yX11_played cX11_played 3 (some .int) ∈ W0 := w0_in (List.mem_append_right _ (List.mem_of_getElem? (i := 1490) rfl)) rfl
set_option maxRecDepth 100000 in
theorem m_1491 : Cond.methodLink RL 119 yX11_now ∈ W0 := w0_in (List.mem_append_right _ (List.mem_of_getElem? (i := 1491) rfl)) rfl
set_option maxRecDepth 100000 in
theorem m_1492 : Cond.instanceMethod yX11_now ∈ W0 := w0_in (List.mem_append_right _ (List.mem_of_getElem? (i := 1492) rfl)) rfl
set_option maxRecDepth 100000 in
theorem m_1493 : Cond.selects RX11 yX11_now yX11_now ∈ W0 := w0_in (List.mem_append_right _ (List.mem_of_getElem? (i := 1493) rfl)) rfl
set_option maxRecDepth 100000 in
theorem m_1494 : Cond.code yX11_now cX11_now 3 (some .int) ∈ W0 := w0_in (List.mem_append_right _ (List.mem_of_getElem? (i := 1494) rfl)) rfl
set_option maxRecDepth 100000 in
theorem m_1495 : Cond.methodLink RL 123 yX11_book ∈ W0 := w0_in (List.mem_append_right _ (List.mem_of_getElem? (i := 1495) rfl)) rfl
set_option maxRecDepth 100000 in
theorem m_1496 : Cond.instanceMethod yX11_book ∈ W0 := w0_in (List.mem_append_right _ (List.mem_of_getElem? (i := 1496) rfl)) rfl
set_option maxRecDepth 100000 in
theorem m_1497 : Cond.selects RX11 yX11_book yX11_book ∈ W0 := w0_in (List.mem_append_right _ (List.mem_of_getElem? (i := 1497) rfl)) rfl
set_option maxRecDepth 100000 in
theorem m_1498 : Cond.code yX11_book cX11_book 5 (some .int) ∈ W0 := w0_in (List.mem_append_right _ (List.mem_of_getElem? (i := 1498) rfl)) rfl
set_option maxRecDepth 100000 in
theorem m_1499 : Cond.methodLink RL 127 yX11_sees ∈ W0 := w0_in (List.mem_append_right _ (List.mem_of_getElem? (i := 1499) rfl)) rfl
set_option maxRecDepth 100000 in
theorem m_1500 : Cond.instanceMethod yX11_sees ∈ W0 := w0_in (List.mem_append_right _ (List.mem_of_getElem? (i := 1500) rfl)) rfl
set_option maxRecDepth 100000 in
theorem m_1501 : Cond.selects RX11 yX11_sees yX11_sees ∈ W0 := w0_in (List.mem_append_right _ (List.mem_of_getElem? (i := 1501) rfl)) rfl
set_option maxRecDepth 100000 in
theorem m_1502 : Cond.code yX11_sees cX11_sees 4 (some .int) ∈ W0 := w0_in (List.mem_append_right _ (List.mem_of_getElem? (i := 1502) rfl)) rfl
set_option maxRecDepth 100000 in
theorem m_1507 : Cond.methodLink RL 131 yX11_view ∈ W0 := w0_in (List.mem_append_right _ (List.mem_of_getElem? (i := 1507) rfl)) rfl
set_option maxRecDepth 100000 in
theorem m_1508 : Cond.instanceMethod yX11_view ∈ W0 := w0_in (List.mem_append_right _ (List.mem_of_getElem? (i := 1508) rfl)) rfl
set_option maxRecDepth 100000 in
theorem m_1509 : Cond.selects RX11 yX11_view yX11_view ∈ W0 := w0_in (List.mem_append_right _ (List.mem_of_getElem? (i := 1509) rfl)) rfl
set_option maxRecDepth 100000 in
theorem m_1510 : Cond.code yX11_view cX11_view 3 (some .int) ∈ W0 := w0_in (List.mem_append_right _ (List.mem_of_getElem? (i := 1510) rfl)) rfl
set_option maxRecDepth 100000 in
theorem m_1512 : Cond.methodLink RL 135 yX11_before ∈ W0 := w0_in (List.mem_append_right _ (List.mem_of_getElem? (i := 1512) rfl)) rfl
set_option maxRecDepth 100000 in
theorem m_1513 : Cond.instanceMethod yX11_before ∈ W0 := w0_in (List.mem_append_right _ (List.mem_of_getElem? (i := 1513) rfl)) rfl
set_option maxRecDepth 100000 in
theorem m_1514 : Cond.selects RX11 yX11_before yX11_before ∈ W0 := w0_in (List.mem_append_right _ (List.mem_of_getElem? (i := 1514) rfl)) rfl
set_option maxRecDepth 100000 in
theorem m_1515 : Cond.code yX11_before cX11_before 2 (some .int) ∈ W0 := w0_in (List.mem_append_right _ (List.mem_of_getElem? (i := 1515) rfl)) rfl
set_option maxRecDepth 100000 in
theorem m_1583 : Cond.methodLink RL 139 yX11_beforeAt ∈ W0 := w0_in (List.mem_append_right _ (List.mem_of_getElem? (i := 1583) rfl)) rfl
set_option maxRecDepth 100000 in
theorem m_1584 : Cond.instanceMethod yX11_beforeAt ∈ W0 := w0_in (List.mem_append_right _ (List.mem_of_getElem? (i := 1584) rfl)) rfl
set_option maxRecDepth 100000 in
theorem m_1585 : Cond.selects RX11 yX11_beforeAt yX11_beforeAt ∈ W0 := w0_in (List.mem_append_right _ (List.mem_of_getElem? (i := 1585) rfl)) rfl
set_option maxRecDepth 100000 in
theorem m_1586 : Cond.code yX11_beforeAt cX11_beforeAt 3 (some .int) ∈ W0 := w0_in (List.mem_append_right _ (List.mem_of_getElem? (i := 1586) rfl)) rfl
set_option maxRecDepth 100000 in
theorem m_1591 : Cond.methodLink RL 143 yX11_solve ∈ W0 := w0_in (List.mem_append_right _ (List.mem_of_getElem? (i := 1591) rfl)) rfl
set_option maxRecDepth 100000 in
theorem m_1592 : Cond.instanceMethod yX11_solve ∈ W0 := w0_in (List.mem_append_right _ (List.mem_of_getElem? (i := 1592) rfl)) rfl
set_option maxRecDepth 100000 in
theorem m_1593 : Cond.selects RX11 yX11_solve yX11_solve ∈ W0 := w0_in (List.mem_append_right _ (List.mem_of_getElem? (i := 1593) rfl)) rfl
set_option maxRecDepth 100000 in
theorem m_1594 : Cond.code yX11_solve cX11_solve 3 (some .int) ∈ W0 := w0_in (List.mem_append_right _ (List.mem_of_getElem? (i := 1594) rfl)) rfl
set_option maxRecDepth 100000 in
theorem m_1737 : Cond.methodLink RL 147 yX11_worth ∈ W0 := w0_in (List.mem_append_right _ (List.mem_of_getElem? (i := 1737) rfl)) rfl
set_option maxRecDepth 100000 in
theorem m_1738 : Cond.instanceMethod yX11_worth ∈ W0 := w0_in (List.mem_append_right _ (List.mem_of_getElem? (i := 1738) rfl)) rfl
set_option maxRecDepth 100000 in
theorem m_1739 : Cond.selects RX11 yX11_worth yX11_worth ∈ W0 := w0_in (List.mem_append_right _ (List.mem_of_getElem? (i := 1739) rfl)) rfl
set_option maxRecDepth 100000 in
theorem m_1740 : Cond.code yX11_worth cX11_worth 3 (some .int) ∈ W0 := w0_in (List.mem_append_right _ (List.mem_of_getElem? (i := 1740) rfl)) rfl
set_option maxRecDepth 100000 in
theorem m_1746 : Cond.methodLink RL 151 yX11_tally ∈ W0 := w0_in (List.mem_append_right _ (List.mem_of_getElem? (i := 1746) rfl)) rfl
set_option maxRecDepth 100000 in
theorem m_1747 : Cond.instanceMethod yX11_tally ∈ W0 := w0_in (List.mem_append_right _ (List.mem_of_getElem? (i := 1747) rfl)) rfl
set_option maxRecDepth 100000 in
theorem m_1748 : Cond.selects RX11 yX11_tally yX11_tally ∈ W0 := w0_in (List.mem_append_right _ (List.mem_of_getElem? (i := 1748) rfl)) rfl
set_option maxRecDepth 100000 in
theorem m_1749 : Cond.code yX11_tally cX11_tally 3 (some .int) ∈ W0 := w0_in (List.mem_append_right _ (List.mem_of_getElem? (i := 1749) rfl)) rfl
set_option maxRecDepth 100000 in
theorem m_1756 : Cond.methodLink RL 155 yX11_problem ∈ W0 := w0_in (List.mem_append_right _ (List.mem_of_getElem? (i := 1756) rfl)) rfl
set_option maxRecDepth 100000 in
theorem m_1757 : Cond.instanceMethod yX11_problem ∈ W0 := w0_in (List.mem_append_right _ (List.mem_of_getElem? (i := 1757) rfl)) rfl
set_option maxRecDepth 100000 in
theorem m_1758 : Cond.selects RX11 yX11_problem yX11_problem ∈ W0 := w0_in (List.mem_append_right _ (List.mem_of_getElem? (i := 1758) rfl)) rfl
set_option maxRecDepth 100000 in
theorem m_1759 : Cond.code yX11_problem cX11_problem 6 (some .int) ∈ W0 := w0_in (List.mem_append_right _ (List.mem_of_getElem? (i := 1759) rfl)) rfl
set_option maxRecDepth 100000 in
theorem m_1766 : Cond.methodLink RL 160 yX11_key ∈ W0 := w0_in (List.mem_append_right _ (List.mem_of_getElem? (i := 1766) rfl)) rfl
set_option maxRecDepth 100000 in
theorem m_1767 : Cond.instanceMethod yX11_key ∈ W0 := w0_in (List.mem_append_right _ (List.mem_of_getElem? (i := 1767) rfl)) rfl
set_option maxRecDepth 100000 in
theorem m_1768 : Cond.selects RX11 yX11_key yX11_key ∈ W0 := w0_in (List.mem_append_right _ (List.mem_of_getElem? (i := 1768) rfl)) rfl
set_option maxRecDepth 100000 in
theorem m_1769 : Cond.code yX11_key cX11_key 2 (some .int) ∈ W0 := w0_in (List.mem_append_right _ (List.mem_of_getElem? (i := 1769) rfl)) rfl
set_option maxRecDepth 100000 in
theorem m_1774 : Cond.methodLink RL 164 yX11_refutes ∈ W0 := w0_in (List.mem_append_right _ (List.mem_of_getElem? (i := 1774) rfl)) rfl
set_option maxRecDepth 100000 in
theorem m_1775 : Cond.instanceMethod yX11_refutes ∈ W0 := w0_in (List.mem_append_right _ (List.mem_of_getElem? (i := 1775) rfl)) rfl
set_option maxRecDepth 100000 in
theorem m_1776 : Cond.selects RX11 yX11_refutes yX11_refutes ∈ W0 := w0_in (List.mem_append_right _ (List.mem_of_getElem? (i := 1776) rfl)) rfl
set_option maxRecDepth 100000 in
theorem m_1777 : Cond.code yX11_refutes cX11_refutes 2 (some .int) ∈ W0 := w0_in (List.mem_append_right _ (List.mem_of_getElem? (i := 1777) rfl)) rfl
set_option maxRecDepth 100000 in
theorem m_1782 : Cond.methodLink RL 17 yX15_feed ∈ W0 := w0_in (List.mem_append_right _ (List.mem_of_getElem? (i := 1782) rfl)) rfl
set_option maxRecDepth 100000 in
theorem m_1783 : Cond.instanceMethod yX15_feed ∈ W0 := w0_in (List.mem_append_right _ (List.mem_of_getElem? (i := 1783) rfl)) rfl
set_option maxRecDepth 100000 in
theorem m_1784 : Cond.selects RX15 yX15_feed yX15_feed ∈ W0 := w0_in (List.mem_append_right _ (List.mem_of_getElem? (i := 1784) rfl)) rfl
set_option maxRecDepth 100000 in
theorem m_1785 : Cond.code yX15_feed cX15_feed 8 (some .int) ∈ W0 := w0_in (List.mem_append_right _ (List.mem_of_getElem? (i := 1785) rfl)) rfl
set_option maxRecDepth 100000 in
theorem m_1786 : Cond.methodLink RL 22 yX15_end ∈ W0 := w0_in (List.mem_append_right _ (List.mem_of_getElem? (i := 1786) rfl)) rfl
set_option maxRecDepth 100000 in
theorem m_1787 : Cond.instanceMethod yX15_end ∈ W0 := w0_in (List.mem_append_right _ (List.mem_of_getElem? (i := 1787) rfl)) rfl
set_option maxRecDepth 100000 in
theorem m_1788 : Cond.selects RX15 yX15_end yX15_end ∈ W0 := w0_in (List.mem_append_right _ (List.mem_of_getElem? (i := 1788) rfl)) rfl
set_option maxRecDepth 100000 in
theorem m_1789 : Cond.code yX15_end cX15_end 2 (some .int) ∈ W0 := w0_in (List.mem_append_right _ (List.mem_of_getElem? (i := 1789) rfl)) rfl
set_option maxRecDepth 100000 in
theorem m_1790 : Cond.methodLink RL 35 yX15_out ∈ W0 := w0_in (List.mem_append_right _ (List.mem_of_getElem? (i := 1790) rfl)) rfl
set_option maxRecDepth 100000 in
theorem m_1791 : Cond.instanceMethod yX15_out ∈ W0 := w0_in (List.mem_append_right _ (List.mem_of_getElem? (i := 1791) rfl)) rfl
set_option maxRecDepth 100000 in
theorem m_1792 : Cond.selects RX15 yX15_out yX15_out ∈ W0 := w0_in (List.mem_append_right _ (List.mem_of_getElem? (i := 1792) rfl)) rfl
set_option maxRecDepth 100000 in
theorem m_1793 : Cond.code yX15_out cX15_out 2 (some .int) ∈ W0 := w0_in (List.mem_append_right _ (List.mem_of_getElem? (i := 1793) rfl)) rfl
set_option maxRecDepth 100000 in
theorem m_1794 : Cond.classLink RL 10 RX15 ∈ W0 := w0_in (List.mem_append_right _ (List.mem_of_getElem? (i := 1794) rfl)) rfl
set_option maxRecDepth 100000 in
theorem m_1795 : Cond.instantiable RX15 71 ∈ W0 := w0_in (List.mem_append_right _ (List.mem_of_getElem? (i := 1795) rfl)) rfl
set_option maxRecDepth 100000 in
theorem m_1796 : Cond.methodLink RL 12 yX15_init ∈ W0 := w0_in (List.mem_append_right _ (List.mem_of_getElem? (i := 1796) rfl)) rfl
set_option maxRecDepth 100000 in
theorem m_1797 : Cond.instanceMethod yX15_init ∈ W0 := w0_in (List.mem_append_right _ (List.mem_of_getElem? (i := 1797) rfl)) rfl
set_option maxRecDepth 100000 in
theorem m_1798 : Cond.code yX15_init cX15_init 4 none ∈ W0 := w0_in (List.mem_append_right _ (List.mem_of_getElem? (i := 1798) rfl)) rfl
set_option maxRecDepth 100000 in
theorem m_2325 : Cond.methodLink RL 27 yX15_rules ∈ W0 := w0_in (List.mem_append_right _ (List.mem_of_getElem? (i := 2325) rfl)) rfl
set_option maxRecDepth 100000 in
theorem m_2326 : Cond.instanceMethod yX15_rules ∈ W0 := w0_in (List.mem_append_right _ (List.mem_of_getElem? (i := 2326) rfl)) rfl
set_option maxRecDepth 100000 in
theorem m_2327 : Cond.selects RX15 yX15_rules yX15_rules ∈ W0 := w0_in (List.mem_append_right _ (List.mem_of_getElem? (i := 2327) rfl)) rfl
set_option maxRecDepth 100000 in
theorem m_2328 : Cond.code yX15_rules cX15_rules 3 (some .int) ∈ W0 := w0_in (List.mem_append_right _ (List.mem_of_getElem? (i := 2328) rfl)) rfl
set_option maxRecDepth 100000 in
theorem m_2329 : Cond.methodLink RL 31 yX15_told ∈ W0 := w0_in (List.mem_append_right _ (List.mem_of_getElem? (i := 2329) rfl)) rfl
set_option maxRecDepth 100000 in
theorem m_2330 : Cond.instanceMethod yX15_told ∈ W0 := w0_in (List.mem_append_right _ (List.mem_of_getElem? (i := 2330) rfl)) rfl
set_option maxRecDepth 100000 in
theorem m_2331 : Cond.selects RX15 yX15_told yX15_told ∈ W0 := w0_in (List.mem_append_right _ (List.mem_of_getElem? (i := 2331) rfl)) rfl
set_option maxRecDepth 100000 in
theorem m_2332 : Cond.code yX15_told cX15_told 4 (some .int) ∈ W0 := w0_in (List.mem_append_right _ (List.mem_of_getElem? (i := 2332) rfl)) rfl
set_option maxRecDepth 100000 in
theorem m_2333 : Cond.methodLink RL 39 yX15_position ∈ W0 := w0_in (List.mem_append_right _ (List.mem_of_getElem? (i := 2333) rfl)) rfl
set_option maxRecDepth 100000 in
theorem m_2334 : Cond.instanceMethod yX15_position ∈ W0 := w0_in (List.mem_append_right _ (List.mem_of_getElem? (i := 2334) rfl)) rfl
set_option maxRecDepth 100000 in
theorem m_2335 : Cond.selects RX15 yX15_position yX15_position ∈ W0 := w0_in (List.mem_append_right _ (List.mem_of_getElem? (i := 2335) rfl)) rfl
set_option maxRecDepth 100000 in
theorem m_2336 : Cond.code yX15_position cX15_position 3 (some .int) ∈ W0 := w0_in (List.mem_append_right _ (List.mem_of_getElem? (i := 2336) rfl)) rfl
set_option maxRecDepth 100000 in
theorem m_2463 : Cond.methodLink RL 43 yX15_drop ∈ W0 := w0_in (List.mem_append_right _ (List.mem_of_getElem? (i := 2463) rfl)) rfl
set_option maxRecDepth 100000 in
theorem m_2464 : Cond.instanceMethod yX15_drop ∈ W0 := w0_in (List.mem_append_right _ (List.mem_of_getElem? (i := 2464) rfl)) rfl
set_option maxRecDepth 100000 in
theorem m_2465 : Cond.selects RX15 yX15_drop yX15_drop ∈ W0 := w0_in (List.mem_append_right _ (List.mem_of_getElem? (i := 2465) rfl)) rfl
set_option maxRecDepth 100000 in
theorem m_2466 : Cond.code yX15_drop cX15_drop 2 (some .int) ∈ W0 := w0_in (List.mem_append_right _ (List.mem_of_getElem? (i := 2466) rfl)) rfl
set_option maxRecDepth 100000 in
theorem m_2471 : Cond.methodLink RL 47 yX15_write ∈ W0 := w0_in (List.mem_append_right _ (List.mem_of_getElem? (i := 2471) rfl)) rfl
set_option maxRecDepth 100000 in
theorem m_2472 : Cond.instanceMethod yX15_write ∈ W0 := w0_in (List.mem_append_right _ (List.mem_of_getElem? (i := 2472) rfl)) rfl
set_option maxRecDepth 100000 in
theorem m_2473 : Cond.selects RX15 yX15_write yX15_write ∈ W0 := w0_in (List.mem_append_right _ (List.mem_of_getElem? (i := 2473) rfl)) rfl
set_option maxRecDepth 100000 in
theorem m_2474 : Cond.code yX15_write cX15_write 2 (some .int) ∈ W0 := w0_in (List.mem_append_right _ (List.mem_of_getElem? (i := 2474) rfl)) rfl
set_option maxRecDepth 100000 in
theorem m_2504 : Cond.methodLink RL 52 yX15_same ∈ W0 := w0_in (List.mem_append_right _ (List.mem_of_getElem? (i := 2504) rfl)) rfl
set_option maxRecDepth 100000 in
theorem m_2505 : Cond.instanceMethod yX15_same ∈ W0 := w0_in (List.mem_append_right _ (List.mem_of_getElem? (i := 2505) rfl)) rfl
set_option maxRecDepth 100000 in
theorem m_2506 : Cond.selects RX15 yX15_same yX15_same ∈ W0 := w0_in (List.mem_append_right _ (List.mem_of_getElem? (i := 2506) rfl)) rfl
set_option maxRecDepth 100000 in
theorem m_2507 : Cond.code yX15_same cX15_same 3 (some .boolean) ∈ W0 := w0_in (List.mem_append_right _ (List.mem_of_getElem? (i := 2507) rfl)) rfl
set_option maxRecDepth 100000 in
theorem m_2584 : Cond.methodLink RL 57 yX15_at ∈ W0 := w0_in (List.mem_append_right _ (List.mem_of_getElem? (i := 2584) rfl)) rfl
set_option maxRecDepth 100000 in
theorem m_2585 : Cond.instanceMethod yX15_at ∈ W0 := w0_in (List.mem_append_right _ (List.mem_of_getElem? (i := 2585) rfl)) rfl
set_option maxRecDepth 100000 in
theorem m_2586 : Cond.selects RX15 yX15_at yX15_at ∈ W0 := w0_in (List.mem_append_right _ (List.mem_of_getElem? (i := 2586) rfl)) rfl
set_option maxRecDepth 100000 in
theorem m_2587 : Cond.code yX15_at cX15_at 3 (some .int) ∈ W0 := w0_in (List.mem_append_right _ (List.mem_of_getElem? (i := 2587) rfl)) rfl
set_option maxRecDepth 100000 in
theorem m_2588 : Cond.methodLink RL 61 yX15_figure ∈ W0 := w0_in (List.mem_append_right _ (List.mem_of_getElem? (i := 2588) rfl)) rfl
set_option maxRecDepth 100000 in
theorem m_2589 : Cond.instanceMethod yX15_figure ∈ W0 := w0_in (List.mem_append_right _ (List.mem_of_getElem? (i := 2589) rfl)) rfl
set_option maxRecDepth 100000 in
theorem m_2590 : Cond.selects RX15 yX15_figure yX15_figure ∈ W0 := w0_in (List.mem_append_right _ (List.mem_of_getElem? (i := 2590) rfl)) rfl
set_option maxRecDepth 100000 in
theorem m_2591 : Cond.code yX15_figure cX15_figure 6 (some .int) ∈ W0 := w0_in (List.mem_append_right _ (List.mem_of_getElem? (i := 2591) rfl)) rfl
set_option maxRecDepth 100000 in
theorem m_2593 : Cond.methodLink RL 66 yX15_attacked ∈ W0 := w0_in (List.mem_append_right _ (List.mem_of_getElem? (i := 2593) rfl)) rfl
set_option maxRecDepth 100000 in
theorem m_2594 : Cond.instanceMethod yX15_attacked ∈ W0 := w0_in (List.mem_append_right _ (List.mem_of_getElem? (i := 2594) rfl)) rfl
set_option maxRecDepth 100000 in
theorem m_2595 : Cond.selects RX15 yX15_attacked yX15_attacked ∈ W0 := w0_in (List.mem_append_right _ (List.mem_of_getElem? (i := 2595) rfl)) rfl
set_option maxRecDepth 100000 in
theorem m_2596 : Cond.code yX15_attacked cX15_attacked 4 (some .int) ∈ W0 := w0_in (List.mem_append_right _ (List.mem_of_getElem? (i := 2596) rfl)) rfl
set_option maxRecDepth 100000 in
theorem m_2597 : Cond.methodLink RL 70 yX15_moves ∈ W0 := w0_in (List.mem_append_right _ (List.mem_of_getElem? (i := 2597) rfl)) rfl
set_option maxRecDepth 100000 in
theorem m_2601 : Cond.methodLink RL 74 yX15_move ∈ W0 := w0_in (List.mem_append_right _ (List.mem_of_getElem? (i := 2601) rfl)) rfl
set_option maxRecDepth 100000 in
theorem m_2602 : Cond.instanceMethod yX15_move ∈ W0 := w0_in (List.mem_append_right _ (List.mem_of_getElem? (i := 2602) rfl)) rfl
set_option maxRecDepth 100000 in
theorem m_2603 : Cond.selects RX15 yX15_move yX15_move ∈ W0 := w0_in (List.mem_append_right _ (List.mem_of_getElem? (i := 2603) rfl)) rfl
set_option maxRecDepth 100000 in
theorem m_2604 : Cond.code yX15_move cX15_move 4 (some .int) ∈ W0 := w0_in (List.mem_append_right _ (List.mem_of_getElem? (i := 2604) rfl)) rfl
set_option maxRecDepth 100000 in
theorem m_2606 : Cond.methodLink RL 78 yX15_go ∈ W0 := w0_in (List.mem_append_right _ (List.mem_of_getElem? (i := 2606) rfl)) rfl
set_option maxRecDepth 100000 in
theorem m_2607 : Cond.instanceMethod yX15_go ∈ W0 := w0_in (List.mem_append_right _ (List.mem_of_getElem? (i := 2607) rfl)) rfl
set_option maxRecDepth 100000 in
theorem m_2608 : Cond.selects RX15 yX15_go yX15_go ∈ W0 := w0_in (List.mem_append_right _ (List.mem_of_getElem? (i := 2608) rfl)) rfl
set_option maxRecDepth 100000 in
theorem m_2609 : Cond.code yX15_go cX15_go 3 (some .int) ∈ W0 := w0_in (List.mem_append_right _ (List.mem_of_getElem? (i := 2609) rfl)) rfl
set_option maxRecDepth 100000 in
theorem m_2610 : Cond.methodLink RL 82 yX15_rows ∈ W0 := w0_in (List.mem_append_right _ (List.mem_of_getElem? (i := 2610) rfl)) rfl
set_option maxRecDepth 100000 in
theorem m_2611 : Cond.instanceMethod yX15_rows ∈ W0 := w0_in (List.mem_append_right _ (List.mem_of_getElem? (i := 2611) rfl)) rfl
set_option maxRecDepth 100000 in
theorem m_2612 : Cond.selects RX15 yX15_rows yX15_rows ∈ W0 := w0_in (List.mem_append_right _ (List.mem_of_getElem? (i := 2612) rfl)) rfl
set_option maxRecDepth 100000 in
theorem m_2613 : Cond.code yX15_rows cX15_rows 3 (some .int) ∈ W0 := w0_in (List.mem_append_right _ (List.mem_of_getElem? (i := 2613) rfl)) rfl
set_option maxRecDepth 100000 in
theorem m_2635 : Cond.methodLink RL 86 yX15_ended ∈ W0 := w0_in (List.mem_append_right _ (List.mem_of_getElem? (i := 2635) rfl)) rfl
set_option maxRecDepth 100000 in
theorem m_2636 : Cond.instanceMethod yX15_ended ∈ W0 := w0_in (List.mem_append_right _ (List.mem_of_getElem? (i := 2636) rfl)) rfl
set_option maxRecDepth 100000 in
theorem m_2637 : Cond.selects RX15 yX15_ended yX15_ended ∈ W0 := w0_in (List.mem_append_right _ (List.mem_of_getElem? (i := 2637) rfl)) rfl
set_option maxRecDepth 100000 in
theorem m_2638 : Cond.code yX15_ended cX15_ended 2 (some .int) ∈ W0 := w0_in (List.mem_append_right _ (List.mem_of_getElem? (i := 2638) rfl)) rfl
set_option maxRecDepth 100000 in
theorem m_2639 : Cond.methodLink RL 90 yX15_result ∈ W0 := w0_in (List.mem_append_right _ (List.mem_of_getElem? (i := 2639) rfl)) rfl
set_option maxRecDepth 100000 in
theorem m_2640 : Cond.instanceMethod yX15_result ∈ W0 := w0_in (List.mem_append_right _ (List.mem_of_getElem? (i := 2640) rfl)) rfl
set_option maxRecDepth 100000 in
theorem m_2641 : Cond.selects RX15 yX15_result yX15_result ∈ W0 := w0_in (List.mem_append_right _ (List.mem_of_getElem? (i := 2641) rfl)) rfl
set_option maxRecDepth 100000 in
theorem m_2642 : Cond.code yX15_result cX15_result 2 (some .int) ∈ W0 := w0_in (List.mem_append_right _ (List.mem_of_getElem? (i := 2642) rfl)) rfl
set_option maxRecDepth 100000 in
theorem m_2643 : Cond.methodLink RL 94 yX15_say_ ∈ W0 := w0_in (List.mem_append_right _ (List.mem_of_getElem? (i := 2643) rfl)) rfl
set_option maxRecDepth 100000 in
theorem m_2644 : Cond.instanceMethod yX15_say_ ∈ W0 := w0_in (List.mem_append_right _ (List.mem_of_getElem? (i := 2644) rfl)) rfl
set_option maxRecDepth 100000 in
theorem m_2645 : Cond.selects RX15 yX15_say_ yX15_say_ ∈ W0 := w0_in (List.mem_append_right _ (List.mem_of_getElem? (i := 2645) rfl)) rfl
set_option maxRecDepth 100000 in
theorem m_2646 : Cond.code yX15_say_ cX15_say_ 3 (some .int) ∈ W0 := w0_in (List.mem_append_right _ (List.mem_of_getElem? (i := 2646) rfl)) rfl
set_option maxRecDepth 100000 in
theorem m_2655 : Cond.methodLink RL 98 yX15_hear ∈ W0 := w0_in (List.mem_append_right _ (List.mem_of_getElem? (i := 2655) rfl)) rfl
set_option maxRecDepth 100000 in
theorem m_2656 : Cond.instanceMethod yX15_hear ∈ W0 := w0_in (List.mem_append_right _ (List.mem_of_getElem? (i := 2656) rfl)) rfl
set_option maxRecDepth 100000 in
theorem m_2657 : Cond.selects RX15 yX15_hear yX15_hear ∈ W0 := w0_in (List.mem_append_right _ (List.mem_of_getElem? (i := 2657) rfl)) rfl
set_option maxRecDepth 100000 in
theorem m_2658 : Cond.code yX15_hear cX15_hear 8 (some .int) ∈ W0 := w0_in (List.mem_append_right _ (List.mem_of_getElem? (i := 2658) rfl)) rfl
set_option maxRecDepth 100000 in
theorem m_2660 : Cond.methodLink RL 102 yX15_start ∈ W0 := w0_in (List.mem_append_right _ (List.mem_of_getElem? (i := 2660) rfl)) rfl
set_option maxRecDepth 100000 in
theorem m_2661 : Cond.instanceMethod yX15_start ∈ W0 := w0_in (List.mem_append_right _ (List.mem_of_getElem? (i := 2661) rfl)) rfl
set_option maxRecDepth 100000 in
theorem m_2662 : Cond.selects RX15 yX15_start yX15_start ∈ W0 := w0_in (List.mem_append_right _ (List.mem_of_getElem? (i := 2662) rfl)) rfl
set_option maxRecDepth 100000 in
theorem m_2663 : Cond.code yX15_start cX15_start 3 (some .int) ∈ W0 := w0_in (List.mem_append_right _ (List.mem_of_getElem? (i := 2663) rfl)) rfl
set_option maxRecDepth 100000 in
theorem m_2671 : Cond.methodLink RL 106 yX15_add ∈ W0 := w0_in (List.mem_append_right _ (List.mem_of_getElem? (i := 2671) rfl)) rfl
set_option maxRecDepth 100000 in
theorem m_2672 : Cond.instanceMethod yX15_add ∈ W0 := w0_in (List.mem_append_right _ (List.mem_of_getElem? (i := 2672) rfl)) rfl
set_option maxRecDepth 100000 in
theorem m_2673 : Cond.selects RX15 yX15_add yX15_add ∈ W0 := w0_in (List.mem_append_right _ (List.mem_of_getElem? (i := 2673) rfl)) rfl
set_option maxRecDepth 100000 in
theorem m_2674 : Cond.code yX15_add cX15_add 4 (some .int) ∈ W0 := w0_in (List.mem_append_right _ (List.mem_of_getElem? (i := 2674) rfl)) rfl
set_option maxRecDepth 100000 in
theorem m_2675 : Cond.methodLink RL 110 yX15_back ∈ W0 := w0_in (List.mem_append_right _ (List.mem_of_getElem? (i := 2675) rfl)) rfl
set_option maxRecDepth 100000 in
theorem m_2676 : Cond.instanceMethod yX15_back ∈ W0 := w0_in (List.mem_append_right _ (List.mem_of_getElem? (i := 2676) rfl)) rfl
set_option maxRecDepth 100000 in
theorem m_2677 : Cond.selects RX15 yX15_back yX15_back ∈ W0 := w0_in (List.mem_append_right _ (List.mem_of_getElem? (i := 2677) rfl)) rfl
set_option maxRecDepth 100000 in
theorem m_2678 : Cond.code yX15_back cX15_back 2 (some .int) ∈ W0 := w0_in (List.mem_append_right _ (List.mem_of_getElem? (i := 2678) rfl)) rfl
set_option maxRecDepth 100000 in
theorem m_2679 : Cond.methodLink RL 114 yX15_game ∈ W0 := w0_in (List.mem_append_right _ (List.mem_of_getElem? (i := 2679) rfl)) rfl
set_option maxRecDepth 100000 in
theorem m_2680 : Cond.instanceMethod yX15_game ∈ W0 := w0_in (List.mem_append_right _ (List.mem_of_getElem? (i := 2680) rfl)) rfl
set_option maxRecDepth 100000 in
theorem m_2681 : Cond.selects RX15 yX15_game yX15_game ∈ W0 := w0_in (List.mem_append_right _ (List.mem_of_getElem? (i := 2681) rfl)) rfl
set_option maxRecDepth 100000 in
theorem m_2682 : Cond.code yX15_game cX15_game 6 (some .int) ∈ W0 := w0_in (List.mem_append_right _ (List.mem_of_getElem? (i := 2682) rfl)) rfl
set_option maxRecDepth 100000 in
theorem m_2683 : Cond.methodLink RL 118 yX15_played ∈ W0 := w0_in (List.mem_append_right _ (List.mem_of_getElem? (i := 2683) rfl)) rfl
set_option maxRecDepth 100000 in
theorem m_2684 : Cond.instanceMethod yX15_played ∈ W0 := w0_in (List.mem_append_right _ (List.mem_of_getElem? (i := 2684) rfl)) rfl
set_option maxRecDepth 100000 in
theorem m_2685 : Cond.selects RX15 yX15_played yX15_played ∈ W0 := w0_in (List.mem_append_right _ (List.mem_of_getElem? (i := 2685) rfl)) rfl
set_option maxRecDepth 100000 in
theorem m_2686 : Cond.code yX15_played cX15_played 3 (some .int) ∈ W0 := w0_in (List.mem_append_right _ (List.mem_of_getElem? (i := 2686) rfl)) rfl
set_option maxRecDepth 100000 in
theorem m_2687 : Cond.methodLink RL 122 yX15_now ∈ W0 := w0_in (List.mem_append_right _ (List.mem_of_getElem? (i := 2687) rfl)) rfl
set_option maxRecDepth 100000 in
theorem m_2688 : Cond.instanceMethod yX15_now ∈ W0 := w0_in (List.mem_append_right _ (List.mem_of_getElem? (i := 2688) rfl)) rfl
set_option maxRecDepth 100000 in
theorem m_2689 : Cond.selects RX15 yX15_now yX15_now ∈ W0 := w0_in (List.mem_append_right _ (List.mem_of_getElem? (i := 2689) rfl)) rfl
set_option maxRecDepth 100000 in
theorem m_2690 : Cond.code yX15_now cX15_now 2 (some .int) ∈ W0 := w0_in (List.mem_append_right _ (List.mem_of_getElem? (i := 2690) rfl)) rfl
set_option maxRecDepth 100000 in
theorem m_2691 : Cond.methodLink RL 126 yX15_book ∈ W0 := w0_in (List.mem_append_right _ (List.mem_of_getElem? (i := 2691) rfl)) rfl
set_option maxRecDepth 100000 in
theorem m_2692 : Cond.instanceMethod yX15_book ∈ W0 := w0_in (List.mem_append_right _ (List.mem_of_getElem? (i := 2692) rfl)) rfl
set_option maxRecDepth 100000 in
theorem m_2693 : Cond.selects RX15 yX15_book yX15_book ∈ W0 := w0_in (List.mem_append_right _ (List.mem_of_getElem? (i := 2693) rfl)) rfl
set_option maxRecDepth 100000 in
theorem m_2694 : Cond.code yX15_book cX15_book 6 (some .int) ∈ W0 := w0_in (List.mem_append_right _ (List.mem_of_getElem? (i := 2694) rfl)) rfl
set_option maxRecDepth 100000 in
theorem m_2695 : Cond.methodLink RL 130 yX15_sees ∈ W0 := w0_in (List.mem_append_right _ (List.mem_of_getElem? (i := 2695) rfl)) rfl
set_option maxRecDepth 100000 in
theorem m_2696 : Cond.instanceMethod yX15_sees ∈ W0 := w0_in (List.mem_append_right _ (List.mem_of_getElem? (i := 2696) rfl)) rfl
set_option maxRecDepth 100000 in
theorem m_2697 : Cond.selects RX15 yX15_sees yX15_sees ∈ W0 := w0_in (List.mem_append_right _ (List.mem_of_getElem? (i := 2697) rfl)) rfl
set_option maxRecDepth 100000 in
theorem m_2698 : Cond.code yX15_sees cX15_sees 4 (some .int) ∈ W0 := w0_in (List.mem_append_right _ (List.mem_of_getElem? (i := 2698) rfl)) rfl
set_option maxRecDepth 100000 in
theorem m_2703 : Cond.methodLink RL 134 yX15_view ∈ W0 := w0_in (List.mem_append_right _ (List.mem_of_getElem? (i := 2703) rfl)) rfl
set_option maxRecDepth 100000 in
theorem m_2704 : Cond.instanceMethod yX15_view ∈ W0 := w0_in (List.mem_append_right _ (List.mem_of_getElem? (i := 2704) rfl)) rfl
set_option maxRecDepth 100000 in
theorem m_2705 : Cond.selects RX15 yX15_view yX15_view ∈ W0 := w0_in (List.mem_append_right _ (List.mem_of_getElem? (i := 2705) rfl)) rfl
set_option maxRecDepth 100000 in
theorem m_2706 : Cond.code yX15_view cX15_view 5 (some .int) ∈ W0 := w0_in (List.mem_append_right _ (List.mem_of_getElem? (i := 2706) rfl)) rfl
set_option maxRecDepth 100000 in
theorem m_2707 : Cond.methodLink RL 138 yX15_before ∈ W0 := w0_in (List.mem_append_right _ (List.mem_of_getElem? (i := 2707) rfl)) rfl
set_option maxRecDepth 100000 in
theorem m_2708 : Cond.instanceMethod yX15_before ∈ W0 := w0_in (List.mem_append_right _ (List.mem_of_getElem? (i := 2708) rfl)) rfl
set_option maxRecDepth 100000 in
theorem m_2709 : Cond.selects RX15 yX15_before yX15_before ∈ W0 := w0_in (List.mem_append_right _ (List.mem_of_getElem? (i := 2709) rfl)) rfl
set_option maxRecDepth 100000 in
theorem m_2710 : Cond.code yX15_before cX15_before 4 (some .int) ∈ W0 := w0_in (List.mem_append_right _ (List.mem_of_getElem? (i := 2710) rfl)) rfl
set_option maxRecDepth 100000 in
theorem m_2735 : Cond.methodLink RL 142 yX15_beforeAt ∈ W0 := w0_in (List.mem_append_right _ (List.mem_of_getElem? (i := 2735) rfl)) rfl
set_option maxRecDepth 100000 in
theorem m_2736 : Cond.instanceMethod yX15_beforeAt ∈ W0 := w0_in (List.mem_append_right _ (List.mem_of_getElem? (i := 2736) rfl)) rfl
set_option maxRecDepth 100000 in
theorem m_2737 : Cond.selects RX15 yX15_beforeAt yX15_beforeAt ∈ W0 := w0_in (List.mem_append_right _ (List.mem_of_getElem? (i := 2737) rfl)) rfl
set_option maxRecDepth 100000 in
theorem m_2738 : Cond.code yX15_beforeAt cX15_beforeAt 2 (some .int) ∈ W0 := w0_in (List.mem_append_right _ (List.mem_of_getElem? (i := 2738) rfl)) rfl
set_option maxRecDepth 100000 in
theorem m_2739 : Cond.methodLink RL 146 yX15_solve ∈ W0 := w0_in (List.mem_append_right _ (List.mem_of_getElem? (i := 2739) rfl)) rfl
set_option maxRecDepth 100000 in
theorem m_2740 : Cond.instanceMethod yX15_solve ∈ W0 := w0_in (List.mem_append_right _ (List.mem_of_getElem? (i := 2740) rfl)) rfl
set_option maxRecDepth 100000 in
theorem m_2741 : Cond.selects RX15 yX15_solve yX15_solve ∈ W0 := w0_in (List.mem_append_right _ (List.mem_of_getElem? (i := 2741) rfl)) rfl
set_option maxRecDepth 100000 in
theorem m_2742 : Cond.code yX15_solve cX15_solve 7 (some .int) ∈ W0 := w0_in (List.mem_append_right _ (List.mem_of_getElem? (i := 2742) rfl)) rfl
set_option maxRecDepth 100000 in
theorem m_2829 : Cond.methodLink RL 150 yX15_worth ∈ W0 := w0_in (List.mem_append_right _ (List.mem_of_getElem? (i := 2829) rfl)) rfl
set_option maxRecDepth 100000 in
theorem m_2830 : Cond.instanceMethod yX15_worth ∈ W0 := w0_in (List.mem_append_right _ (List.mem_of_getElem? (i := 2830) rfl)) rfl
set_option maxRecDepth 100000 in
theorem m_2831 : Cond.selects RX15 yX15_worth yX15_worth ∈ W0 := w0_in (List.mem_append_right _ (List.mem_of_getElem? (i := 2831) rfl)) rfl
set_option maxRecDepth 100000 in
theorem m_2832 : Cond.code yX15_worth cX15_worth 3 (some .int) ∈ W0 := w0_in (List.mem_append_right _ (List.mem_of_getElem? (i := 2832) rfl)) rfl
set_option maxRecDepth 100000 in
theorem m_2837 : Cond.methodLink RL 154 yX15_tally ∈ W0 := w0_in (List.mem_append_right _ (List.mem_of_getElem? (i := 2837) rfl)) rfl
set_option maxRecDepth 100000 in
theorem m_2838 : Cond.instanceMethod yX15_tally ∈ W0 := w0_in (List.mem_append_right _ (List.mem_of_getElem? (i := 2838) rfl)) rfl
set_option maxRecDepth 100000 in
theorem m_2839 : Cond.selects RX15 yX15_tally yX15_tally ∈ W0 := w0_in (List.mem_append_right _ (List.mem_of_getElem? (i := 2839) rfl)) rfl
set_option maxRecDepth 100000 in
theorem m_2840 : Cond.code yX15_tally cX15_tally 6 (some .int) ∈ W0 := w0_in (List.mem_append_right _ (List.mem_of_getElem? (i := 2840) rfl)) rfl
set_option maxRecDepth 100000 in
theorem m_2841 : Cond.methodLink RL 159 yX15_problem ∈ W0 := w0_in (List.mem_append_right _ (List.mem_of_getElem? (i := 2841) rfl)) rfl
set_option maxRecDepth 100000 in
theorem m_2842 : Cond.instanceMethod yX15_problem ∈ W0 := w0_in (List.mem_append_right _ (List.mem_of_getElem? (i := 2842) rfl)) rfl
set_option maxRecDepth 100000 in
theorem m_2843 : Cond.selects RX15 yX15_problem yX15_problem ∈ W0 := w0_in (List.mem_append_right _ (List.mem_of_getElem? (i := 2843) rfl)) rfl
set_option maxRecDepth 100000 in
theorem m_2844 : Cond.code yX15_problem cX15_problem 9 (some .int) ∈ W0 := w0_in (List.mem_append_right _ (List.mem_of_getElem? (i := 2844) rfl)) rfl
set_option maxRecDepth 100000 in
theorem m_2873 : Cond.methodLink RL 163 yX15_key ∈ W0 := w0_in (List.mem_append_right _ (List.mem_of_getElem? (i := 2873) rfl)) rfl
set_option maxRecDepth 100000 in
theorem m_2874 : Cond.instanceMethod yX15_key ∈ W0 := w0_in (List.mem_append_right _ (List.mem_of_getElem? (i := 2874) rfl)) rfl
set_option maxRecDepth 100000 in
theorem m_2875 : Cond.selects RX15 yX15_key yX15_key ∈ W0 := w0_in (List.mem_append_right _ (List.mem_of_getElem? (i := 2875) rfl)) rfl
set_option maxRecDepth 100000 in
theorem m_2876 : Cond.code yX15_key cX15_key 2 (some .int) ∈ W0 := w0_in (List.mem_append_right _ (List.mem_of_getElem? (i := 2876) rfl)) rfl
set_option maxRecDepth 100000 in
theorem m_2881 : Cond.methodLink RL 167 yX15_refutes ∈ W0 := w0_in (List.mem_append_right _ (List.mem_of_getElem? (i := 2881) rfl)) rfl
set_option maxRecDepth 100000 in
theorem m_2882 : Cond.instanceMethod yX15_refutes ∈ W0 := w0_in (List.mem_append_right _ (List.mem_of_getElem? (i := 2882) rfl)) rfl
set_option maxRecDepth 100000 in
theorem m_2883 : Cond.selects RX15 yX15_refutes yX15_refutes ∈ W0 := w0_in (List.mem_append_right _ (List.mem_of_getElem? (i := 2883) rfl)) rfl
set_option maxRecDepth 100000 in
theorem m_2884 : Cond.code yX15_refutes cX15_refutes 4 (some .int) ∈ W0 := w0_in (List.mem_append_right _ (List.mem_of_getElem? (i := 2884) rfl)) rfl
theorem dv_X11 : ∀ j, j < 18 → defaultValue (tyX11 j) = dV ((tl 11).getD j 2) := by decide +kernel
theorem cw_L_17 : cwd RL 17 yX15_feed cX15_feed 8 (some .int) false 5 := ⟨m_1785, m_1782, m_19, ⟨m_1783, m_1784⟩, by decide, by decide, by decide +kernel⟩
theorem cw_L_22 : cwd RL 22 yX15_end cX15_end 2 (some .int) false 1 := ⟨m_1789, m_1786, m_19, ⟨m_1787, m_1788⟩, by decide, by decide, by decide +kernel⟩
theorem cw_L_27 : cwd RL 27 yX15_rules cX15_rules 3 (some .int) false 0 := ⟨m_2328, m_2325, m_19, ⟨m_2326, m_2327⟩, by decide, by decide, by decide +kernel⟩
theorem cw_L_31 : cwd RL 31 yX15_told cX15_told 4 (some .int) false 1 := ⟨m_2332, m_2329, m_19, ⟨m_2330, m_2331⟩, by decide, by decide, by decide +kernel⟩
theorem cw_L_35 : cwd RL 35 yX15_out cX15_out 2 (some .int) false 1 := ⟨m_1793, m_1790, m_19, ⟨m_1791, m_1792⟩, by decide, by decide, by decide +kernel⟩
theorem cw_L_39 : cwd RL 39 yX15_position cX15_position 3 (some .int) false 0 := ⟨m_2336, m_2333, m_19, ⟨m_2334, m_2335⟩, by decide, by decide, by decide +kernel⟩
theorem cw_L_43 : cwd RL 43 yX15_drop cX15_drop 2 (some .int) false 1 := ⟨m_2466, m_2463, m_19, ⟨m_2464, m_2465⟩, by decide, by decide, by decide +kernel⟩
theorem cw_L_47 : cwd RL 47 yX15_write cX15_write 2 (some .int) false 1 := ⟨m_2474, m_2471, m_19, ⟨m_2472, m_2473⟩, by decide, by decide, by decide +kernel⟩
theorem cw_L_52 : cwd RL 52 yX15_same cX15_same 3 (some .boolean) false 2 := ⟨m_2507, m_2504, m_19, ⟨m_2505, m_2506⟩, by decide, by decide, by decide +kernel⟩
theorem cw_L_57 : cwd RL 57 yX15_at cX15_at 3 (some .int) false 2 := ⟨m_2587, m_2584, m_19, ⟨m_2585, m_2586⟩, by decide, by decide, by decide +kernel⟩
theorem cw_L_61 : cwd RL 61 yX15_figure cX15_figure 6 (some .int) false 2 := ⟨m_2591, m_2588, m_19, ⟨m_2589, m_2590⟩, by decide, by decide, by decide +kernel⟩
theorem cw_L_66 : cwd RL 66 yX15_attacked cX15_attacked 4 (some .int) false 3 := ⟨m_2596, m_2593, m_19, ⟨m_2594, m_2595⟩, by decide, by decide, by decide +kernel⟩
theorem cw_L_70 : cwd RL 70 yX15_moves cX15_moves 2 (some .int) false 1 := ⟨m_2600, m_2597, m_19, ⟨m_2598, m_2599⟩, by decide, by decide, by decide +kernel⟩
theorem cw_L_74 : cwd RL 74 yX15_move cX15_move 4 (some .int) false 3 := ⟨m_2604, m_2601, m_19, ⟨m_2602, m_2603⟩, by decide, by decide, by decide +kernel⟩
theorem cw_L_78 : cwd RL 78 yX15_go cX15_go 3 (some .int) false 2 := ⟨m_2609, m_2606, m_19, ⟨m_2607, m_2608⟩, by decide, by decide, by decide +kernel⟩
theorem cw_L_82 : cwd RL 82 yX15_rows cX15_rows 3 (some .int) false 2 := ⟨m_2613, m_2610, m_19, ⟨m_2611, m_2612⟩, by decide, by decide, by decide +kernel⟩
theorem cw_L_86 : cwd RL 86 yX15_ended cX15_ended 2 (some .int) false 1 := ⟨m_2638, m_2635, m_19, ⟨m_2636, m_2637⟩, by decide, by decide, by decide +kernel⟩
theorem cw_L_90 : cwd RL 90 yX15_result cX15_result 2 (some .int) false 1 := ⟨m_2642, m_2639, m_19, ⟨m_2640, m_2641⟩, by decide, by decide, by decide +kernel⟩
theorem cw_L_94 : cwd RL 94 yX15_say_ cX15_say_ 3 (some .int) false 2 := ⟨m_2646, m_2643, m_19, ⟨m_2644, m_2645⟩, by decide, by decide, by decide +kernel⟩
theorem cw_L_98 : cwd RL 98 yX15_hear cX15_hear 8 (some .int) false 1 := ⟨m_2658, m_2655, m_19, ⟨m_2656, m_2657⟩, by decide, by decide, by decide +kernel⟩
theorem cw_L_102 : cwd RL 102 yX15_start cX15_start 3 (some .int) false 2 := ⟨m_2663, m_2660, m_19, ⟨m_2661, m_2662⟩, by decide, by decide, by decide +kernel⟩
theorem cw_L_106 : cwd RL 106 yX15_add cX15_add 4 (some .int) false 2 := ⟨m_2674, m_2671, m_19, ⟨m_2672, m_2673⟩, by decide, by decide, by decide +kernel⟩
theorem cw_L_110 : cwd RL 110 yX15_back cX15_back 2 (some .int) false 1 := ⟨m_2678, m_2675, m_19, ⟨m_2676, m_2677⟩, by decide, by decide, by decide +kernel⟩
theorem cw_L_114 : cwd RL 114 yX15_game cX15_game 6 (some .int) false 2 := ⟨m_2682, m_2679, m_19, ⟨m_2680, m_2681⟩, by decide, by decide, by decide +kernel⟩
theorem cw_L_118 : cwd RL 118 yX15_played cX15_played 3 (some .int) false 2 := ⟨m_2686, m_2683, m_19, ⟨m_2684, m_2685⟩, by decide, by decide, by decide +kernel⟩
theorem cw_L_122 : cwd RL 122 yX15_now cX15_now 2 (some .int) false 1 := ⟨m_2690, m_2687, m_19, ⟨m_2688, m_2689⟩, by decide, by decide, by decide +kernel⟩
theorem cw_L_126 : cwd RL 126 yX15_book cX15_book 6 (some .int) false 2 := ⟨m_2694, m_2691, m_19, ⟨m_2692, m_2693⟩, by decide, by decide, by decide +kernel⟩
theorem cw_L_130 : cwd RL 130 yX15_sees cX15_sees 4 (some .int) false 3 := ⟨m_2698, m_2695, m_19, ⟨m_2696, m_2697⟩, by decide, by decide, by decide +kernel⟩
theorem cw_L_134 : cwd RL 134 yX15_view cX15_view 5 (some .int) false 2 := ⟨m_2706, m_2703, m_19, ⟨m_2704, m_2705⟩, by decide, by decide, by decide +kernel⟩
theorem cw_L_138 : cwd RL 138 yX15_before cX15_before 4 (some .int) false 1 := ⟨m_2710, m_2707, m_19, ⟨m_2708, m_2709⟩, by decide, by decide, by decide +kernel⟩
theorem cw_L_142 : cwd RL 142 yX15_beforeAt cX15_beforeAt 2 (some .int) false 1 := ⟨m_2738, m_2735, m_19, ⟨m_2736, m_2737⟩, by decide, by decide, by decide +kernel⟩
theorem cw_L_146 : cwd RL 146 yX15_solve cX15_solve 7 (some .int) false 0 := ⟨m_2742, m_2739, m_19, ⟨m_2740, m_2741⟩, by decide, by decide, by decide +kernel⟩
theorem cw_L_150 : cwd RL 150 yX15_worth cX15_worth 3 (some .int) false 1 := ⟨m_2832, m_2829, m_19, ⟨m_2830, m_2831⟩, by decide, by decide, by decide +kernel⟩
theorem cw_L_154 : cwd RL 154 yX15_tally cX15_tally 6 (some .int) false 2 := ⟨m_2840, m_2837, m_19, ⟨m_2838, m_2839⟩, by decide, by decide, by decide +kernel⟩
theorem cw_L_159 : cwd RL 159 yX15_problem cX15_problem 9 (some .int) false 4 := ⟨m_2844, m_2841, m_19, ⟨m_2842, m_2843⟩, by decide, by decide, by decide +kernel⟩
theorem cw_L_163 : cwd RL 163 yX15_key cX15_key 2 (some .int) false 1 := ⟨m_2876, m_2873, m_19, ⟨m_2874, m_2875⟩, by decide, by decide, by decide +kernel⟩
theorem cw_L_167 : cwd RL 167 yX15_refutes cX15_refutes 4 (some .int) false 1 := ⟨m_2884, m_2881, m_19, ⟨m_2882, m_2883⟩, by decide, by decide, by decide +kernel⟩
theorem cw_L_13 : cwd RL 13 yX11_feed cX11_feed 6 (some .int) false 5 := ⟨m_888, m_885, m_1, ⟨m_886, m_887⟩, by decide, by decide, by decide +kernel⟩
theorem cw_L_18 : cwd RL 18 yX11_end cX11_end 2 (some .int) false 1 := ⟨m_896, m_893, m_1, ⟨m_894, m_895⟩, by decide, by decide, by decide +kernel⟩
theorem cw_L_23 : cwd RL 23 yX11_rules cX11_rules 3 (some .int) false 0 := ⟨m_900, m_897, m_1, ⟨m_898, m_899⟩, by decide, by decide, by decide +kernel⟩
theorem cw_L_28 : cwd RL 28 yX11_told cX11_told 2 (some .int) false 1 := ⟨m_916, m_913, m_1, ⟨m_914, m_915⟩, by decide, by decide, by decide +kernel⟩
theorem cw_L_32 : cwd RL 32 yX11_out cX11_out 2 (some .int) false 1 := ⟨m_924, m_921, m_1, ⟨m_922, m_923⟩, by decide, by decide, by decide +kernel⟩
theorem cw_L_36 : cwd RL 36 yX11_position cX11_position 6 (some .int) false 0 := ⟨m_929, m_926, m_1, ⟨m_927, m_928⟩, by decide, by decide, by decide +kernel⟩
theorem cw_L_40 : cwd RL 40 yX11_drop cX11_drop 2 (some .int) false 1 := ⟨m_1079, m_1076, m_1, ⟨m_1077, m_1078⟩, by decide, by decide, by decide +kernel⟩
theorem cw_L_44 : cwd RL 44 yX11_write cX11_write 2 (some .int) false 1 := ⟨m_1087, m_1084, m_1, ⟨m_1085, m_1086⟩, by decide, by decide, by decide +kernel⟩
theorem cw_L_48 : cwd RL 48 yX11_same cX11_same 3 (some .boolean) false 2 := ⟨m_1128, m_1125, m_1, ⟨m_1126, m_1127⟩, by decide, by decide, by decide +kernel⟩
theorem cw_L_53 : cwd RL 53 yX11_at cX11_at 3 (some .int) false 2 := ⟨m_1263, m_1260, m_1, ⟨m_1261, m_1262⟩, by decide, by decide, by decide +kernel⟩
theorem cw_L_58 : cwd RL 58 yX11_figure cX11_figure 4 (some .int) false 2 := ⟨m_1271, m_1268, m_1, ⟨m_1269, m_1270⟩, by decide, by decide, by decide +kernel⟩
theorem cw_L_62 : cwd RL 62 yX11_attacked cX11_attacked 4 (some .int) false 3 := ⟨m_1288, m_1285, m_1, ⟨m_1286, m_1287⟩, by decide, by decide, by decide +kernel⟩
theorem cw_L_67 : cwd RL 67 yX11_moves cX11_moves 2 (some .int) false 1 := ⟨m_1296, m_1293, m_1, ⟨m_1294, m_1295⟩, by decide, by decide, by decide +kernel⟩
theorem cw_L_71 : cwd RL 71 yX11_move cX11_move 5 (some .int) false 3 := ⟨m_1305, m_1302, m_1, ⟨m_1303, m_1304⟩, by decide, by decide, by decide +kernel⟩
theorem cw_L_75 : cwd RL 75 yX11_go cX11_go 4 (some .int) false 2 := ⟨m_1315, m_1312, m_1, ⟨m_1313, m_1314⟩, by decide, by decide, by decide +kernel⟩
theorem cw_L_79 : cwd RL 79 yX11_rows cX11_rows 4 (some .int) false 2 := ⟨m_1345, m_1342, m_1, ⟨m_1343, m_1344⟩, by decide, by decide, by decide +kernel⟩
theorem cw_L_83 : cwd RL 83 yX11_ended cX11_ended 2 (some .int) false 1 := ⟨m_1397, m_1394, m_1, ⟨m_1395, m_1396⟩, by decide, by decide, by decide +kernel⟩
theorem cw_L_87 : cwd RL 87 yX11_result cX11_result 2 (some .int) false 1 := ⟨m_1402, m_1399, m_1, ⟨m_1400, m_1401⟩, by decide, by decide, by decide +kernel⟩
theorem cw_L_91 : cwd RL 91 yX11_say cX11_say 5 (some .int) false 2 := ⟨m_1407, m_1404, m_1, ⟨m_1405, m_1406⟩, by decide, by decide, by decide +kernel⟩
theorem cw_L_95 : cwd RL 95 yX11_hear cX11_hear 4 (some .int) false 1 := ⟨m_1444, m_1441, m_1, ⟨m_1442, m_1443⟩, by decide, by decide, by decide +kernel⟩
theorem cw_L_99 : cwd RL 99 yX11_start cX11_start 3 (some .int) false 2 := ⟨m_1463, m_1460, m_1, ⟨m_1461, m_1462⟩, by decide, by decide, by decide +kernel⟩
theorem cw_L_103 : cwd RL 103 yX11_add cX11_add 7 (some .int) false 2 := ⟨m_1474, m_1471, m_1, ⟨m_1472, m_1473⟩, by decide, by decide, by decide +kernel⟩
theorem cw_L_107 : cwd RL 107 yX11_back cX11_back 2 (some .int) false 1 := ⟨m_1478, m_1475, m_1, ⟨m_1476, m_1477⟩, by decide, by decide, by decide +kernel⟩
theorem cw_L_111 : cwd RL 111 yX11_game cX11_game 5 (some .int) false 2 := ⟨m_1482, m_1479, m_1, ⟨m_1480, m_1481⟩, by decide, by decide, by decide +kernel⟩
theorem cw_L_115 : cwd RL 115 yX11_played cX11_played 3 (some .int) false 2 := ⟨m_1490, m_1487, m_1, ⟨m_1488, m_1489⟩, by decide, by decide, by decide +kernel⟩
theorem cw_L_119 : cwd RL 119 yX11_now cX11_now 3 (some .int) false 1 := ⟨m_1494, m_1491, m_1, ⟨m_1492, m_1493⟩, by decide, by decide, by decide +kernel⟩
theorem cw_L_123 : cwd RL 123 yX11_book cX11_book 5 (some .int) false 2 := ⟨m_1498, m_1495, m_1, ⟨m_1496, m_1497⟩, by decide, by decide, by decide +kernel⟩
theorem cw_L_127 : cwd RL 127 yX11_sees cX11_sees 4 (some .int) false 3 := ⟨m_1502, m_1499, m_1, ⟨m_1500, m_1501⟩, by decide, by decide, by decide +kernel⟩
theorem cw_L_131 : cwd RL 131 yX11_view cX11_view 3 (some .int) false 2 := ⟨m_1510, m_1507, m_1, ⟨m_1508, m_1509⟩, by decide, by decide, by decide +kernel⟩
theorem cw_L_135 : cwd RL 135 yX11_before cX11_before 2 (some .int) false 1 := ⟨m_1515, m_1512, m_1, ⟨m_1513, m_1514⟩, by decide, by decide, by decide +kernel⟩
theorem cw_L_139 : cwd RL 139 yX11_beforeAt cX11_beforeAt 3 (some .int) false 1 := ⟨m_1586, m_1583, m_1, ⟨m_1584, m_1585⟩, by decide, by decide, by decide +kernel⟩
theorem cw_L_143 : cwd RL 143 yX11_solve cX11_solve 3 (some .int) false 0 := ⟨m_1594, m_1591, m_1, ⟨m_1592, m_1593⟩, by decide, by decide, by decide +kernel⟩
theorem cw_L_147 : cwd RL 147 yX11_worth cX11_worth 3 (some .int) false 1 := ⟨m_1740, m_1737, m_1, ⟨m_1738, m_1739⟩, by decide, by decide, by decide +kernel⟩
theorem cw_L_151 : cwd RL 151 yX11_tally cX11_tally 3 (some .int) false 2 := ⟨m_1749, m_1746, m_1, ⟨m_1747, m_1748⟩, by decide, by decide, by decide +kernel⟩
theorem cw_L_155 : cwd RL 155 yX11_problem cX11_problem 6 (some .int) false 4 := ⟨m_1759, m_1756, m_1, ⟨m_1757, m_1758⟩, by decide, by decide, by decide +kernel⟩
theorem cw_L_160 : cwd RL 160 yX11_key cX11_key 2 (some .int) false 1 := ⟨m_1769, m_1766, m_1, ⟨m_1767, m_1768⟩, by decide, by decide, by decide +kernel⟩
theorem cw_L_164 : cwd RL 164 yX11_refutes cX11_refutes 2 (some .int) false 1 := ⟨m_1777, m_1774, m_1, ⟨m_1775, m_1776⟩, by decide, by decide, by decide +kernel⟩
theorem ci_L_12 : cwi RL 12 yX15_init cX15_init 4 0 := ⟨m_1798, m_1796, m_19, m_1797, rfl, by decide, by decide, by decide +kernel⟩
theorem ci_L_9 : cwi RL 9 yX11_init cX11_init 2 0 := ⟨m_30, m_28, m_1, m_29, rfl, by decide, by decide, by decide +kernel⟩
theorem dL_law_0 : decode code 0 = .ok (.new 7, 3) := by decide +kernel
theorem dL_law_3 : decode code 3 = .ok (.dup, 1) := by decide +kernel
theorem dL_law_4 : decode code 4 = .ok (.invokespecial 9, 3) := by decide +kernel
theorem dL_law_7 : decode code 7 = .ok (.astore_n 1, 1) := by decide +kernel
theorem dL_law_8 : decode code 8 = .ok (.new 10, 3) := by decide +kernel
theorem dL_law_11 : decode code 11 = .ok (.dup, 1) := by decide +kernel
theorem dL_law_12 : decode code 12 = .ok (.invokespecial 12, 3) := by decide +kernel
theorem dL_law_15 : decode code 15 = .ok (.astore_n 2, 1) := by decide +kernel
theorem dL_law_16 : decode code 16 = .ok (.iconst 0, 1) := by decide +kernel
theorem dL_law_17 : decode code 17 = .ok (.istore_n 3, 1) := by decide +kernel
theorem dL_law_18 : decode code 18 = .ok (.iload_n 3, 1) := by decide +kernel
theorem dL_law_19 : decode code 19 = .ok (.aload_n 0, 1) := by decide +kernel
theorem dL_law_20 : decode code 20 = .ok (.arraylength, 1) := by decide +kernel
theorem dL_law_21 : decode code 21 = .ok (.bipush 6, 2) := by decide +kernel
theorem dL_law_23 : decode code 23 = .ok (.isub, 1) := by decide +kernel
theorem dL_law_24 : decode code 24 = .ok (.if_icmp .gt 1259, 3) := by decide +kernel
theorem dL_law_27 : decode code 27 = .ok (.aload_n 0, 1) := by decide +kernel
theorem dL_law_28 : decode code 28 = .ok (.iload_n 3, 1) := by decide +kernel
theorem dL_law_29 : decode code 29 = .ok (.iaload, 1) := by decide +kernel
theorem dL_law_30 : decode code 30 = .ok (.bipush 63, 2) := by decide +kernel
theorem dL_law_32 : decode code 32 = .ok (.iand, 1) := by decide +kernel
theorem dL_law_33 : decode code 33 = .ok (.tableswitch 1244 0 36 #[163, 226, 249, 262, 285, 308, 321, 344, 367, 400, 433, 466, 509, 532, 575, 608, 641, 664, 687, 720, 743, 776, 809, 832, 865, 898, 921, 954, 997, 1030, 1053, 1076, 1089, 1112, 1145, 1198, 1221], 163) := by decide +kernel
theorem dL_law_196 : decode code 196 = .ok (.aload_n 1, 1) := by decide +kernel
theorem dL_law_197 : decode code 197 = .ok (.aload_n 0, 1) := by decide +kernel
theorem dL_law_198 : decode code 198 = .ok (.iload_n 3, 1) := by decide +kernel
theorem dL_law_199 : decode code 199 = .ok (.iconst 1, 1) := by decide +kernel
theorem dL_law_200 : decode code 200 = .ok (.iadd, 1) := by decide +kernel
theorem dL_law_201 : decode code 201 = .ok (.iaload, 1) := by decide +kernel
theorem dL_law_202 : decode code 202 = .ok (.aload_n 0, 1) := by decide +kernel
theorem dL_law_203 : decode code 203 = .ok (.iload_n 3, 1) := by decide +kernel
theorem dL_law_204 : decode code 204 = .ok (.iconst 2, 1) := by decide +kernel
theorem dL_law_205 : decode code 205 = .ok (.iadd, 1) := by decide +kernel
theorem dL_law_206 : decode code 206 = .ok (.iaload, 1) := by decide +kernel
theorem dL_law_207 : decode code 207 = .ok (.aload_n 0, 1) := by decide +kernel
theorem dL_law_208 : decode code 208 = .ok (.iload_n 3, 1) := by decide +kernel
theorem dL_law_209 : decode code 209 = .ok (.iconst 3, 1) := by decide +kernel
theorem dL_law_210 : decode code 210 = .ok (.iadd, 1) := by decide +kernel
theorem dL_law_211 : decode code 211 = .ok (.iaload, 1) := by decide +kernel
theorem dL_law_212 : decode code 212 = .ok (.aload_n 0, 1) := by decide +kernel
theorem dL_law_213 : decode code 213 = .ok (.iload_n 3, 1) := by decide +kernel
theorem dL_law_214 : decode code 214 = .ok (.iconst 4, 1) := by decide +kernel
theorem dL_law_215 : decode code 215 = .ok (.iadd, 1) := by decide +kernel
theorem dL_law_216 : decode code 216 = .ok (.iaload, 1) := by decide +kernel
theorem dL_law_217 : decode code 217 = .ok (.aload_n 0, 1) := by decide +kernel
theorem dL_law_218 : decode code 218 = .ok (.iload_n 3, 1) := by decide +kernel
theorem dL_law_219 : decode code 219 = .ok (.iconst 5, 1) := by decide +kernel
theorem dL_law_220 : decode code 220 = .ok (.iadd, 1) := by decide +kernel
theorem dL_law_221 : decode code 221 = .ok (.iaload, 1) := by decide +kernel
theorem dL_law_222 : decode code 222 = .ok (.invokevirtual 13, 3) := by decide +kernel
theorem dL_law_225 : decode code 225 = .ok (.aload_n 2, 1) := by decide +kernel
theorem dL_law_226 : decode code 226 = .ok (.aload_n 0, 1) := by decide +kernel
theorem dL_law_227 : decode code 227 = .ok (.iload_n 3, 1) := by decide +kernel
theorem dL_law_228 : decode code 228 = .ok (.iconst 1, 1) := by decide +kernel
theorem dL_law_229 : decode code 229 = .ok (.iadd, 1) := by decide +kernel
theorem dL_law_230 : decode code 230 = .ok (.iaload, 1) := by decide +kernel
theorem dL_law_231 : decode code 231 = .ok (.aload_n 0, 1) := by decide +kernel
theorem dL_law_232 : decode code 232 = .ok (.iload_n 3, 1) := by decide +kernel
theorem dL_law_233 : decode code 233 = .ok (.iconst 2, 1) := by decide +kernel
theorem dL_law_234 : decode code 234 = .ok (.iadd, 1) := by decide +kernel
theorem dL_law_235 : decode code 235 = .ok (.iaload, 1) := by decide +kernel
theorem dL_law_236 : decode code 236 = .ok (.aload_n 0, 1) := by decide +kernel
theorem dL_law_237 : decode code 237 = .ok (.iload_n 3, 1) := by decide +kernel
theorem dL_law_238 : decode code 238 = .ok (.iconst 3, 1) := by decide +kernel
theorem dL_law_239 : decode code 239 = .ok (.iadd, 1) := by decide +kernel
theorem dL_law_240 : decode code 240 = .ok (.iaload, 1) := by decide +kernel
theorem dL_law_241 : decode code 241 = .ok (.aload_n 0, 1) := by decide +kernel
theorem dL_law_242 : decode code 242 = .ok (.iload_n 3, 1) := by decide +kernel
theorem dL_law_243 : decode code 243 = .ok (.iconst 4, 1) := by decide +kernel
theorem dL_law_244 : decode code 244 = .ok (.iadd, 1) := by decide +kernel
theorem dL_law_245 : decode code 245 = .ok (.iaload, 1) := by decide +kernel
theorem dL_law_246 : decode code 246 = .ok (.aload_n 0, 1) := by decide +kernel
theorem dL_law_247 : decode code 247 = .ok (.iload_n 3, 1) := by decide +kernel
theorem dL_law_248 : decode code 248 = .ok (.iconst 5, 1) := by decide +kernel
theorem dL_law_249 : decode code 249 = .ok (.iadd, 1) := by decide +kernel
theorem dL_law_250 : decode code 250 = .ok (.iaload, 1) := by decide +kernel
theorem dL_law_251 : decode code 251 = .ok (.invokevirtual 17, 3) := by decide +kernel
theorem dL_law_254 : decode code 254 = .ok (.if_icmp .eq 1023, 3) := by decide +kernel
theorem dL_law_257 : decode code 257 = .ok (.iconst 0, 1) := by decide +kernel
theorem dL_law_258 : decode code 258 = .ok (.ireturn, 1) := by decide +kernel
theorem dL_law_259 : decode code 259 = .ok (.aload_n 1, 1) := by decide +kernel
theorem dL_law_260 : decode code 260 = .ok (.aload_n 0, 1) := by decide +kernel
theorem dL_law_261 : decode code 261 = .ok (.iload_n 3, 1) := by decide +kernel
theorem dL_law_262 : decode code 262 = .ok (.iconst 1, 1) := by decide +kernel
theorem dL_law_263 : decode code 263 = .ok (.iadd, 1) := by decide +kernel
theorem dL_law_264 : decode code 264 = .ok (.iaload, 1) := by decide +kernel
theorem dL_law_265 : decode code 265 = .ok (.invokevirtual 18, 3) := by decide +kernel
theorem dL_law_268 : decode code 268 = .ok (.aload_n 2, 1) := by decide +kernel
theorem dL_law_269 : decode code 269 = .ok (.aload_n 0, 1) := by decide +kernel
theorem dL_law_270 : decode code 270 = .ok (.iload_n 3, 1) := by decide +kernel
theorem dL_law_271 : decode code 271 = .ok (.iconst 1, 1) := by decide +kernel
theorem dL_law_272 : decode code 272 = .ok (.iadd, 1) := by decide +kernel
theorem dL_law_273 : decode code 273 = .ok (.iaload, 1) := by decide +kernel
theorem dL_law_274 : decode code 274 = .ok (.invokevirtual 22, 3) := by decide +kernel
theorem dL_law_277 : decode code 277 = .ok (.if_icmp .eq 1000, 3) := by decide +kernel
theorem dL_law_280 : decode code 280 = .ok (.iconst 0, 1) := by decide +kernel
theorem dL_law_281 : decode code 281 = .ok (.ireturn, 1) := by decide +kernel
theorem dL_law_282 : decode code 282 = .ok (.aload_n 1, 1) := by decide +kernel
theorem dL_law_283 : decode code 283 = .ok (.invokevirtual 23, 3) := by decide +kernel
theorem dL_law_286 : decode code 286 = .ok (.aload_n 2, 1) := by decide +kernel
theorem dL_law_287 : decode code 287 = .ok (.invokevirtual 27, 3) := by decide +kernel
theorem dL_law_290 : decode code 290 = .ok (.if_icmp .eq 987, 3) := by decide +kernel
theorem dL_law_293 : decode code 293 = .ok (.iconst 0, 1) := by decide +kernel
theorem dL_law_294 : decode code 294 = .ok (.ireturn, 1) := by decide +kernel
theorem dL_law_295 : decode code 295 = .ok (.aload_n 1, 1) := by decide +kernel
theorem dL_law_296 : decode code 296 = .ok (.aload_n 0, 1) := by decide +kernel
theorem dL_law_297 : decode code 297 = .ok (.iload_n 3, 1) := by decide +kernel
theorem dL_law_298 : decode code 298 = .ok (.iconst 1, 1) := by decide +kernel
theorem dL_law_299 : decode code 299 = .ok (.iadd, 1) := by decide +kernel
theorem dL_law_300 : decode code 300 = .ok (.iaload, 1) := by decide +kernel
theorem dL_law_301 : decode code 301 = .ok (.invokevirtual 28, 3) := by decide +kernel
theorem dL_law_304 : decode code 304 = .ok (.aload_n 2, 1) := by decide +kernel
theorem dL_law_305 : decode code 305 = .ok (.aload_n 0, 1) := by decide +kernel
theorem dL_law_306 : decode code 306 = .ok (.iload_n 3, 1) := by decide +kernel
theorem dL_law_307 : decode code 307 = .ok (.iconst 1, 1) := by decide +kernel
theorem dL_law_308 : decode code 308 = .ok (.iadd, 1) := by decide +kernel
theorem dL_law_309 : decode code 309 = .ok (.iaload, 1) := by decide +kernel
theorem dL_law_310 : decode code 310 = .ok (.invokevirtual 31, 3) := by decide +kernel
theorem dL_law_313 : decode code 313 = .ok (.if_icmp .eq 964, 3) := by decide +kernel
theorem dL_law_316 : decode code 316 = .ok (.iconst 0, 1) := by decide +kernel
theorem dL_law_317 : decode code 317 = .ok (.ireturn, 1) := by decide +kernel
theorem dL_law_318 : decode code 318 = .ok (.aload_n 1, 1) := by decide +kernel
theorem dL_law_319 : decode code 319 = .ok (.aload_n 0, 1) := by decide +kernel
theorem dL_law_320 : decode code 320 = .ok (.iload_n 3, 1) := by decide +kernel
theorem dL_law_321 : decode code 321 = .ok (.iconst 1, 1) := by decide +kernel
theorem dL_law_322 : decode code 322 = .ok (.iadd, 1) := by decide +kernel
theorem dL_law_323 : decode code 323 = .ok (.iaload, 1) := by decide +kernel
theorem dL_law_324 : decode code 324 = .ok (.invokevirtual 32, 3) := by decide +kernel
theorem dL_law_327 : decode code 327 = .ok (.aload_n 2, 1) := by decide +kernel
theorem dL_law_328 : decode code 328 = .ok (.aload_n 0, 1) := by decide +kernel
theorem dL_law_329 : decode code 329 = .ok (.iload_n 3, 1) := by decide +kernel
theorem dL_law_330 : decode code 330 = .ok (.iconst 1, 1) := by decide +kernel
theorem dL_law_331 : decode code 331 = .ok (.iadd, 1) := by decide +kernel
theorem dL_law_332 : decode code 332 = .ok (.iaload, 1) := by decide +kernel
theorem dL_law_333 : decode code 333 = .ok (.invokevirtual 35, 3) := by decide +kernel
theorem dL_law_336 : decode code 336 = .ok (.if_icmp .eq 941, 3) := by decide +kernel
theorem dL_law_339 : decode code 339 = .ok (.iconst 0, 1) := by decide +kernel
theorem dL_law_340 : decode code 340 = .ok (.ireturn, 1) := by decide +kernel
theorem dL_law_341 : decode code 341 = .ok (.aload_n 1, 1) := by decide +kernel
theorem dL_law_342 : decode code 342 = .ok (.invokevirtual 36, 3) := by decide +kernel
theorem dL_law_345 : decode code 345 = .ok (.aload_n 2, 1) := by decide +kernel
theorem dL_law_346 : decode code 346 = .ok (.invokevirtual 39, 3) := by decide +kernel
theorem dL_law_349 : decode code 349 = .ok (.if_icmp .eq 928, 3) := by decide +kernel
theorem dL_law_352 : decode code 352 = .ok (.iconst 0, 1) := by decide +kernel
theorem dL_law_353 : decode code 353 = .ok (.ireturn, 1) := by decide +kernel
theorem dL_law_354 : decode code 354 = .ok (.aload_n 1, 1) := by decide +kernel
theorem dL_law_355 : decode code 355 = .ok (.aload_n 0, 1) := by decide +kernel
theorem dL_law_356 : decode code 356 = .ok (.iload_n 3, 1) := by decide +kernel
theorem dL_law_357 : decode code 357 = .ok (.iconst 1, 1) := by decide +kernel
theorem dL_law_358 : decode code 358 = .ok (.iadd, 1) := by decide +kernel
theorem dL_law_359 : decode code 359 = .ok (.iaload, 1) := by decide +kernel
theorem dL_law_360 : decode code 360 = .ok (.invokevirtual 40, 3) := by decide +kernel
theorem dL_law_363 : decode code 363 = .ok (.aload_n 2, 1) := by decide +kernel
theorem dL_law_364 : decode code 364 = .ok (.aload_n 0, 1) := by decide +kernel
theorem dL_law_365 : decode code 365 = .ok (.iload_n 3, 1) := by decide +kernel
theorem dL_law_366 : decode code 366 = .ok (.iconst 1, 1) := by decide +kernel
theorem dL_law_367 : decode code 367 = .ok (.iadd, 1) := by decide +kernel
theorem dL_law_368 : decode code 368 = .ok (.iaload, 1) := by decide +kernel
theorem dL_law_369 : decode code 369 = .ok (.invokevirtual 43, 3) := by decide +kernel
theorem dL_law_372 : decode code 372 = .ok (.if_icmp .eq 905, 3) := by decide +kernel
theorem dL_law_375 : decode code 375 = .ok (.iconst 0, 1) := by decide +kernel
theorem dL_law_376 : decode code 376 = .ok (.ireturn, 1) := by decide +kernel
theorem dL_law_377 : decode code 377 = .ok (.aload_n 1, 1) := by decide +kernel
theorem dL_law_378 : decode code 378 = .ok (.aload_n 0, 1) := by decide +kernel
theorem dL_law_379 : decode code 379 = .ok (.iload_n 3, 1) := by decide +kernel
theorem dL_law_380 : decode code 380 = .ok (.iconst 1, 1) := by decide +kernel
theorem dL_law_381 : decode code 381 = .ok (.iadd, 1) := by decide +kernel
theorem dL_law_382 : decode code 382 = .ok (.iaload, 1) := by decide +kernel
theorem dL_law_383 : decode code 383 = .ok (.invokevirtual 44, 3) := by decide +kernel
theorem dL_law_386 : decode code 386 = .ok (.aload_n 2, 1) := by decide +kernel
theorem dL_law_387 : decode code 387 = .ok (.aload_n 0, 1) := by decide +kernel
theorem dL_law_388 : decode code 388 = .ok (.iload_n 3, 1) := by decide +kernel
theorem dL_law_389 : decode code 389 = .ok (.iconst 1, 1) := by decide +kernel
theorem dL_law_390 : decode code 390 = .ok (.iadd, 1) := by decide +kernel
theorem dL_law_391 : decode code 391 = .ok (.iaload, 1) := by decide +kernel
theorem dL_law_392 : decode code 392 = .ok (.invokevirtual 47, 3) := by decide +kernel
theorem dL_law_395 : decode code 395 = .ok (.if_icmp .eq 882, 3) := by decide +kernel
theorem dL_law_398 : decode code 398 = .ok (.iconst 0, 1) := by decide +kernel
theorem dL_law_399 : decode code 399 = .ok (.ireturn, 1) := by decide +kernel
theorem dL_law_400 : decode code 400 = .ok (.aload_n 1, 1) := by decide +kernel
theorem dL_law_401 : decode code 401 = .ok (.aload_n 0, 1) := by decide +kernel
theorem dL_law_402 : decode code 402 = .ok (.iload_n 3, 1) := by decide +kernel
theorem dL_law_403 : decode code 403 = .ok (.iconst 1, 1) := by decide +kernel
theorem dL_law_404 : decode code 404 = .ok (.iadd, 1) := by decide +kernel
theorem dL_law_405 : decode code 405 = .ok (.iaload, 1) := by decide +kernel
theorem dL_law_406 : decode code 406 = .ok (.aload_n 0, 1) := by decide +kernel
theorem dL_law_407 : decode code 407 = .ok (.iload_n 3, 1) := by decide +kernel
theorem dL_law_408 : decode code 408 = .ok (.iconst 2, 1) := by decide +kernel
theorem dL_law_409 : decode code 409 = .ok (.iadd, 1) := by decide +kernel
theorem dL_law_410 : decode code 410 = .ok (.iaload, 1) := by decide +kernel
theorem dL_law_411 : decode code 411 = .ok (.invokevirtual 48, 3) := by decide +kernel
theorem dL_law_414 : decode code 414 = .ok (.aload_n 2, 1) := by decide +kernel
theorem dL_law_415 : decode code 415 = .ok (.aload_n 0, 1) := by decide +kernel
theorem dL_law_416 : decode code 416 = .ok (.iload_n 3, 1) := by decide +kernel
theorem dL_law_417 : decode code 417 = .ok (.iconst 1, 1) := by decide +kernel
theorem dL_law_418 : decode code 418 = .ok (.iadd, 1) := by decide +kernel
theorem dL_law_419 : decode code 419 = .ok (.iaload, 1) := by decide +kernel
theorem dL_law_420 : decode code 420 = .ok (.aload_n 0, 1) := by decide +kernel
theorem dL_law_421 : decode code 421 = .ok (.iload_n 3, 1) := by decide +kernel
theorem dL_law_422 : decode code 422 = .ok (.iconst 2, 1) := by decide +kernel
theorem dL_law_423 : decode code 423 = .ok (.iadd, 1) := by decide +kernel
theorem dL_law_424 : decode code 424 = .ok (.iaload, 1) := by decide +kernel
theorem dL_law_425 : decode code 425 = .ok (.invokevirtual 52, 3) := by decide +kernel
theorem dL_law_428 : decode code 428 = .ok (.if_icmp .eq 849, 3) := by decide +kernel
theorem dL_law_431 : decode code 431 = .ok (.iconst 0, 1) := by decide +kernel
theorem dL_law_432 : decode code 432 = .ok (.ireturn, 1) := by decide +kernel
theorem dL_law_433 : decode code 433 = .ok (.aload_n 1, 1) := by decide +kernel
theorem dL_law_434 : decode code 434 = .ok (.aload_n 0, 1) := by decide +kernel
theorem dL_law_435 : decode code 435 = .ok (.iload_n 3, 1) := by decide +kernel
theorem dL_law_436 : decode code 436 = .ok (.iconst 1, 1) := by decide +kernel
theorem dL_law_437 : decode code 437 = .ok (.iadd, 1) := by decide +kernel
theorem dL_law_438 : decode code 438 = .ok (.iaload, 1) := by decide +kernel
theorem dL_law_439 : decode code 439 = .ok (.aload_n 0, 1) := by decide +kernel
theorem dL_law_440 : decode code 440 = .ok (.iload_n 3, 1) := by decide +kernel
theorem dL_law_441 : decode code 441 = .ok (.iconst 2, 1) := by decide +kernel
theorem dL_law_442 : decode code 442 = .ok (.iadd, 1) := by decide +kernel
theorem dL_law_443 : decode code 443 = .ok (.iaload, 1) := by decide +kernel
theorem dL_law_444 : decode code 444 = .ok (.invokevirtual 53, 3) := by decide +kernel
theorem dL_law_447 : decode code 447 = .ok (.aload_n 2, 1) := by decide +kernel
theorem dL_law_448 : decode code 448 = .ok (.aload_n 0, 1) := by decide +kernel
theorem dL_law_449 : decode code 449 = .ok (.iload_n 3, 1) := by decide +kernel
theorem dL_law_450 : decode code 450 = .ok (.iconst 1, 1) := by decide +kernel
theorem dL_law_451 : decode code 451 = .ok (.iadd, 1) := by decide +kernel
theorem dL_law_452 : decode code 452 = .ok (.iaload, 1) := by decide +kernel
theorem dL_law_453 : decode code 453 = .ok (.aload_n 0, 1) := by decide +kernel
theorem dL_law_454 : decode code 454 = .ok (.iload_n 3, 1) := by decide +kernel
theorem dL_law_455 : decode code 455 = .ok (.iconst 2, 1) := by decide +kernel
theorem dL_law_456 : decode code 456 = .ok (.iadd, 1) := by decide +kernel
theorem dL_law_457 : decode code 457 = .ok (.iaload, 1) := by decide +kernel
theorem dL_law_458 : decode code 458 = .ok (.invokevirtual 57, 3) := by decide +kernel
theorem dL_law_461 : decode code 461 = .ok (.if_icmp .eq 816, 3) := by decide +kernel
theorem dL_law_464 : decode code 464 = .ok (.iconst 0, 1) := by decide +kernel
theorem dL_law_465 : decode code 465 = .ok (.ireturn, 1) := by decide +kernel
theorem dL_law_466 : decode code 466 = .ok (.aload_n 1, 1) := by decide +kernel
theorem dL_law_467 : decode code 467 = .ok (.aload_n 0, 1) := by decide +kernel
theorem dL_law_468 : decode code 468 = .ok (.iload_n 3, 1) := by decide +kernel
theorem dL_law_469 : decode code 469 = .ok (.iconst 1, 1) := by decide +kernel
theorem dL_law_470 : decode code 470 = .ok (.iadd, 1) := by decide +kernel
theorem dL_law_471 : decode code 471 = .ok (.iaload, 1) := by decide +kernel
theorem dL_law_472 : decode code 472 = .ok (.aload_n 0, 1) := by decide +kernel
theorem dL_law_473 : decode code 473 = .ok (.iload_n 3, 1) := by decide +kernel
theorem dL_law_474 : decode code 474 = .ok (.iconst 2, 1) := by decide +kernel
theorem dL_law_475 : decode code 475 = .ok (.iadd, 1) := by decide +kernel
theorem dL_law_476 : decode code 476 = .ok (.iaload, 1) := by decide +kernel
theorem dL_law_477 : decode code 477 = .ok (.invokevirtual 58, 3) := by decide +kernel
theorem dL_law_480 : decode code 480 = .ok (.aload_n 2, 1) := by decide +kernel
theorem dL_law_481 : decode code 481 = .ok (.aload_n 0, 1) := by decide +kernel
theorem dL_law_482 : decode code 482 = .ok (.iload_n 3, 1) := by decide +kernel
theorem dL_law_483 : decode code 483 = .ok (.iconst 1, 1) := by decide +kernel
theorem dL_law_484 : decode code 484 = .ok (.iadd, 1) := by decide +kernel
theorem dL_law_485 : decode code 485 = .ok (.iaload, 1) := by decide +kernel
theorem dL_law_486 : decode code 486 = .ok (.aload_n 0, 1) := by decide +kernel
theorem dL_law_487 : decode code 487 = .ok (.iload_n 3, 1) := by decide +kernel
theorem dL_law_488 : decode code 488 = .ok (.iconst 2, 1) := by decide +kernel
theorem dL_law_489 : decode code 489 = .ok (.iadd, 1) := by decide +kernel
theorem dL_law_490 : decode code 490 = .ok (.iaload, 1) := by decide +kernel
theorem dL_law_491 : decode code 491 = .ok (.invokevirtual 61, 3) := by decide +kernel
theorem dL_law_494 : decode code 494 = .ok (.if_icmp .eq 783, 3) := by decide +kernel
theorem dL_law_497 : decode code 497 = .ok (.iconst 0, 1) := by decide +kernel
theorem dL_law_498 : decode code 498 = .ok (.ireturn, 1) := by decide +kernel
theorem dL_law_499 : decode code 499 = .ok (.aload_n 1, 1) := by decide +kernel
theorem dL_law_500 : decode code 500 = .ok (.aload_n 0, 1) := by decide +kernel
theorem dL_law_501 : decode code 501 = .ok (.iload_n 3, 1) := by decide +kernel
theorem dL_law_502 : decode code 502 = .ok (.iconst 1, 1) := by decide +kernel
theorem dL_law_503 : decode code 503 = .ok (.iadd, 1) := by decide +kernel
theorem dL_law_504 : decode code 504 = .ok (.iaload, 1) := by decide +kernel
theorem dL_law_505 : decode code 505 = .ok (.aload_n 0, 1) := by decide +kernel
theorem dL_law_506 : decode code 506 = .ok (.iload_n 3, 1) := by decide +kernel
theorem dL_law_507 : decode code 507 = .ok (.iconst 2, 1) := by decide +kernel
theorem dL_law_508 : decode code 508 = .ok (.iadd, 1) := by decide +kernel
theorem dL_law_509 : decode code 509 = .ok (.iaload, 1) := by decide +kernel
theorem dL_law_510 : decode code 510 = .ok (.aload_n 0, 1) := by decide +kernel
theorem dL_law_511 : decode code 511 = .ok (.iload_n 3, 1) := by decide +kernel
theorem dL_law_512 : decode code 512 = .ok (.iconst 3, 1) := by decide +kernel
theorem dL_law_513 : decode code 513 = .ok (.iadd, 1) := by decide +kernel
theorem dL_law_514 : decode code 514 = .ok (.iaload, 1) := by decide +kernel
theorem dL_law_515 : decode code 515 = .ok (.invokevirtual 62, 3) := by decide +kernel
theorem dL_law_518 : decode code 518 = .ok (.aload_n 2, 1) := by decide +kernel
theorem dL_law_519 : decode code 519 = .ok (.aload_n 0, 1) := by decide +kernel
theorem dL_law_520 : decode code 520 = .ok (.iload_n 3, 1) := by decide +kernel
theorem dL_law_521 : decode code 521 = .ok (.iconst 1, 1) := by decide +kernel
theorem dL_law_522 : decode code 522 = .ok (.iadd, 1) := by decide +kernel
theorem dL_law_523 : decode code 523 = .ok (.iaload, 1) := by decide +kernel
theorem dL_law_524 : decode code 524 = .ok (.aload_n 0, 1) := by decide +kernel
theorem dL_law_525 : decode code 525 = .ok (.iload_n 3, 1) := by decide +kernel
theorem dL_law_526 : decode code 526 = .ok (.iconst 2, 1) := by decide +kernel
theorem dL_law_527 : decode code 527 = .ok (.iadd, 1) := by decide +kernel
theorem dL_law_528 : decode code 528 = .ok (.iaload, 1) := by decide +kernel
theorem dL_law_529 : decode code 529 = .ok (.aload_n 0, 1) := by decide +kernel
theorem dL_law_530 : decode code 530 = .ok (.iload_n 3, 1) := by decide +kernel
theorem dL_law_531 : decode code 531 = .ok (.iconst 3, 1) := by decide +kernel
theorem dL_law_532 : decode code 532 = .ok (.iadd, 1) := by decide +kernel
theorem dL_law_533 : decode code 533 = .ok (.iaload, 1) := by decide +kernel
theorem dL_law_534 : decode code 534 = .ok (.invokevirtual 66, 3) := by decide +kernel
theorem dL_law_537 : decode code 537 = .ok (.if_icmp .eq 740, 3) := by decide +kernel
theorem dL_law_540 : decode code 540 = .ok (.iconst 0, 1) := by decide +kernel
theorem dL_law_541 : decode code 541 = .ok (.ireturn, 1) := by decide +kernel
theorem dL_law_542 : decode code 542 = .ok (.aload_n 1, 1) := by decide +kernel
theorem dL_law_543 : decode code 543 = .ok (.aload_n 0, 1) := by decide +kernel
theorem dL_law_544 : decode code 544 = .ok (.iload_n 3, 1) := by decide +kernel
theorem dL_law_545 : decode code 545 = .ok (.iconst 1, 1) := by decide +kernel
theorem dL_law_546 : decode code 546 = .ok (.iadd, 1) := by decide +kernel
theorem dL_law_547 : decode code 547 = .ok (.iaload, 1) := by decide +kernel
theorem dL_law_548 : decode code 548 = .ok (.invokevirtual 67, 3) := by decide +kernel
theorem dL_law_551 : decode code 551 = .ok (.aload_n 2, 1) := by decide +kernel
theorem dL_law_552 : decode code 552 = .ok (.aload_n 0, 1) := by decide +kernel
theorem dL_law_553 : decode code 553 = .ok (.iload_n 3, 1) := by decide +kernel
theorem dL_law_554 : decode code 554 = .ok (.iconst 1, 1) := by decide +kernel
theorem dL_law_555 : decode code 555 = .ok (.iadd, 1) := by decide +kernel
theorem dL_law_556 : decode code 556 = .ok (.iaload, 1) := by decide +kernel
theorem dL_law_557 : decode code 557 = .ok (.invokevirtual 70, 3) := by decide +kernel
theorem dL_law_560 : decode code 560 = .ok (.if_icmp .eq 717, 3) := by decide +kernel
theorem dL_law_563 : decode code 563 = .ok (.iconst 0, 1) := by decide +kernel
theorem dL_law_564 : decode code 564 = .ok (.ireturn, 1) := by decide +kernel
theorem dL_law_565 : decode code 565 = .ok (.aload_n 1, 1) := by decide +kernel
theorem dL_law_566 : decode code 566 = .ok (.aload_n 0, 1) := by decide +kernel
theorem dL_law_567 : decode code 567 = .ok (.iload_n 3, 1) := by decide +kernel
theorem dL_law_568 : decode code 568 = .ok (.iconst 1, 1) := by decide +kernel
theorem dL_law_569 : decode code 569 = .ok (.iadd, 1) := by decide +kernel
theorem dL_law_570 : decode code 570 = .ok (.iaload, 1) := by decide +kernel
theorem dL_law_571 : decode code 571 = .ok (.aload_n 0, 1) := by decide +kernel
theorem dL_law_572 : decode code 572 = .ok (.iload_n 3, 1) := by decide +kernel
theorem dL_law_573 : decode code 573 = .ok (.iconst 2, 1) := by decide +kernel
theorem dL_law_574 : decode code 574 = .ok (.iadd, 1) := by decide +kernel
theorem dL_law_575 : decode code 575 = .ok (.iaload, 1) := by decide +kernel
theorem dL_law_576 : decode code 576 = .ok (.aload_n 0, 1) := by decide +kernel
theorem dL_law_577 : decode code 577 = .ok (.iload_n 3, 1) := by decide +kernel
theorem dL_law_578 : decode code 578 = .ok (.iconst 3, 1) := by decide +kernel
theorem dL_law_579 : decode code 579 = .ok (.iadd, 1) := by decide +kernel
theorem dL_law_580 : decode code 580 = .ok (.iaload, 1) := by decide +kernel
theorem dL_law_581 : decode code 581 = .ok (.invokevirtual 71, 3) := by decide +kernel
theorem dL_law_584 : decode code 584 = .ok (.aload_n 2, 1) := by decide +kernel
theorem dL_law_585 : decode code 585 = .ok (.aload_n 0, 1) := by decide +kernel
theorem dL_law_586 : decode code 586 = .ok (.iload_n 3, 1) := by decide +kernel
theorem dL_law_587 : decode code 587 = .ok (.iconst 1, 1) := by decide +kernel
theorem dL_law_588 : decode code 588 = .ok (.iadd, 1) := by decide +kernel
theorem dL_law_589 : decode code 589 = .ok (.iaload, 1) := by decide +kernel
theorem dL_law_590 : decode code 590 = .ok (.aload_n 0, 1) := by decide +kernel
theorem dL_law_591 : decode code 591 = .ok (.iload_n 3, 1) := by decide +kernel
theorem dL_law_592 : decode code 592 = .ok (.iconst 2, 1) := by decide +kernel
theorem dL_law_593 : decode code 593 = .ok (.iadd, 1) := by decide +kernel
theorem dL_law_594 : decode code 594 = .ok (.iaload, 1) := by decide +kernel
theorem dL_law_595 : decode code 595 = .ok (.aload_n 0, 1) := by decide +kernel
theorem dL_law_596 : decode code 596 = .ok (.iload_n 3, 1) := by decide +kernel
theorem dL_law_597 : decode code 597 = .ok (.iconst 3, 1) := by decide +kernel
theorem dL_law_598 : decode code 598 = .ok (.iadd, 1) := by decide +kernel
theorem dL_law_599 : decode code 599 = .ok (.iaload, 1) := by decide +kernel
theorem dL_law_600 : decode code 600 = .ok (.invokevirtual 74, 3) := by decide +kernel
theorem dL_law_603 : decode code 603 = .ok (.if_icmp .eq 674, 3) := by decide +kernel
theorem dL_law_606 : decode code 606 = .ok (.iconst 0, 1) := by decide +kernel
theorem dL_law_607 : decode code 607 = .ok (.ireturn, 1) := by decide +kernel
theorem dL_law_608 : decode code 608 = .ok (.aload_n 1, 1) := by decide +kernel
theorem dL_law_609 : decode code 609 = .ok (.aload_n 0, 1) := by decide +kernel
theorem dL_law_610 : decode code 610 = .ok (.iload_n 3, 1) := by decide +kernel
theorem dL_law_611 : decode code 611 = .ok (.iconst 1, 1) := by decide +kernel
theorem dL_law_612 : decode code 612 = .ok (.iadd, 1) := by decide +kernel
theorem dL_law_613 : decode code 613 = .ok (.iaload, 1) := by decide +kernel
theorem dL_law_614 : decode code 614 = .ok (.aload_n 0, 1) := by decide +kernel
theorem dL_law_615 : decode code 615 = .ok (.iload_n 3, 1) := by decide +kernel
theorem dL_law_616 : decode code 616 = .ok (.iconst 2, 1) := by decide +kernel
theorem dL_law_617 : decode code 617 = .ok (.iadd, 1) := by decide +kernel
theorem dL_law_618 : decode code 618 = .ok (.iaload, 1) := by decide +kernel
theorem dL_law_619 : decode code 619 = .ok (.invokevirtual 75, 3) := by decide +kernel
theorem dL_law_622 : decode code 622 = .ok (.aload_n 2, 1) := by decide +kernel
theorem dL_law_623 : decode code 623 = .ok (.aload_n 0, 1) := by decide +kernel
theorem dL_law_624 : decode code 624 = .ok (.iload_n 3, 1) := by decide +kernel
theorem dL_law_625 : decode code 625 = .ok (.iconst 1, 1) := by decide +kernel
theorem dL_law_626 : decode code 626 = .ok (.iadd, 1) := by decide +kernel
theorem dL_law_627 : decode code 627 = .ok (.iaload, 1) := by decide +kernel
theorem dL_law_628 : decode code 628 = .ok (.aload_n 0, 1) := by decide +kernel
theorem dL_law_629 : decode code 629 = .ok (.iload_n 3, 1) := by decide +kernel
theorem dL_law_630 : decode code 630 = .ok (.iconst 2, 1) := by decide +kernel
theorem dL_law_631 : decode code 631 = .ok (.iadd, 1) := by decide +kernel
theorem dL_law_632 : decode code 632 = .ok (.iaload, 1) := by decide +kernel
theorem dL_law_633 : decode code 633 = .ok (.invokevirtual 78, 3) := by decide +kernel
theorem dL_law_636 : decode code 636 = .ok (.if_icmp .eq 641, 3) := by decide +kernel
theorem dL_law_639 : decode code 639 = .ok (.iconst 0, 1) := by decide +kernel
theorem dL_law_640 : decode code 640 = .ok (.ireturn, 1) := by decide +kernel
theorem dL_law_641 : decode code 641 = .ok (.aload_n 1, 1) := by decide +kernel
theorem dL_law_642 : decode code 642 = .ok (.aload_n 0, 1) := by decide +kernel
theorem dL_law_643 : decode code 643 = .ok (.iload_n 3, 1) := by decide +kernel
theorem dL_law_644 : decode code 644 = .ok (.iconst 1, 1) := by decide +kernel
theorem dL_law_645 : decode code 645 = .ok (.iadd, 1) := by decide +kernel
theorem dL_law_646 : decode code 646 = .ok (.iaload, 1) := by decide +kernel
theorem dL_law_647 : decode code 647 = .ok (.aload_n 0, 1) := by decide +kernel
theorem dL_law_648 : decode code 648 = .ok (.iload_n 3, 1) := by decide +kernel
theorem dL_law_649 : decode code 649 = .ok (.iconst 2, 1) := by decide +kernel
theorem dL_law_650 : decode code 650 = .ok (.iadd, 1) := by decide +kernel
theorem dL_law_651 : decode code 651 = .ok (.iaload, 1) := by decide +kernel
theorem dL_law_652 : decode code 652 = .ok (.invokevirtual 79, 3) := by decide +kernel
theorem dL_law_655 : decode code 655 = .ok (.aload_n 2, 1) := by decide +kernel
theorem dL_law_656 : decode code 656 = .ok (.aload_n 0, 1) := by decide +kernel
theorem dL_law_657 : decode code 657 = .ok (.iload_n 3, 1) := by decide +kernel
theorem dL_law_658 : decode code 658 = .ok (.iconst 1, 1) := by decide +kernel
theorem dL_law_659 : decode code 659 = .ok (.iadd, 1) := by decide +kernel
theorem dL_law_660 : decode code 660 = .ok (.iaload, 1) := by decide +kernel
theorem dL_law_661 : decode code 661 = .ok (.aload_n 0, 1) := by decide +kernel
theorem dL_law_662 : decode code 662 = .ok (.iload_n 3, 1) := by decide +kernel
theorem dL_law_663 : decode code 663 = .ok (.iconst 2, 1) := by decide +kernel
theorem dL_law_664 : decode code 664 = .ok (.iadd, 1) := by decide +kernel
theorem dL_law_665 : decode code 665 = .ok (.iaload, 1) := by decide +kernel
theorem dL_law_666 : decode code 666 = .ok (.invokevirtual 82, 3) := by decide +kernel
theorem dL_law_669 : decode code 669 = .ok (.if_icmp .eq 608, 3) := by decide +kernel
theorem dL_law_672 : decode code 672 = .ok (.iconst 0, 1) := by decide +kernel
theorem dL_law_673 : decode code 673 = .ok (.ireturn, 1) := by decide +kernel
theorem dL_law_674 : decode code 674 = .ok (.aload_n 1, 1) := by decide +kernel
theorem dL_law_675 : decode code 675 = .ok (.aload_n 0, 1) := by decide +kernel
theorem dL_law_676 : decode code 676 = .ok (.iload_n 3, 1) := by decide +kernel
theorem dL_law_677 : decode code 677 = .ok (.iconst 1, 1) := by decide +kernel
theorem dL_law_678 : decode code 678 = .ok (.iadd, 1) := by decide +kernel
theorem dL_law_679 : decode code 679 = .ok (.iaload, 1) := by decide +kernel
theorem dL_law_680 : decode code 680 = .ok (.invokevirtual 83, 3) := by decide +kernel
theorem dL_law_683 : decode code 683 = .ok (.aload_n 2, 1) := by decide +kernel
theorem dL_law_684 : decode code 684 = .ok (.aload_n 0, 1) := by decide +kernel
theorem dL_law_685 : decode code 685 = .ok (.iload_n 3, 1) := by decide +kernel
theorem dL_law_686 : decode code 686 = .ok (.iconst 1, 1) := by decide +kernel
theorem dL_law_687 : decode code 687 = .ok (.iadd, 1) := by decide +kernel
theorem dL_law_688 : decode code 688 = .ok (.iaload, 1) := by decide +kernel
theorem dL_law_689 : decode code 689 = .ok (.invokevirtual 86, 3) := by decide +kernel
theorem dL_law_692 : decode code 692 = .ok (.if_icmp .eq 585, 3) := by decide +kernel
theorem dL_law_695 : decode code 695 = .ok (.iconst 0, 1) := by decide +kernel
theorem dL_law_696 : decode code 696 = .ok (.ireturn, 1) := by decide +kernel
theorem dL_law_697 : decode code 697 = .ok (.aload_n 1, 1) := by decide +kernel
theorem dL_law_698 : decode code 698 = .ok (.aload_n 0, 1) := by decide +kernel
theorem dL_law_699 : decode code 699 = .ok (.iload_n 3, 1) := by decide +kernel
theorem dL_law_700 : decode code 700 = .ok (.iconst 1, 1) := by decide +kernel
theorem dL_law_701 : decode code 701 = .ok (.iadd, 1) := by decide +kernel
theorem dL_law_702 : decode code 702 = .ok (.iaload, 1) := by decide +kernel
theorem dL_law_703 : decode code 703 = .ok (.invokevirtual 87, 3) := by decide +kernel
theorem dL_law_706 : decode code 706 = .ok (.aload_n 2, 1) := by decide +kernel
theorem dL_law_707 : decode code 707 = .ok (.aload_n 0, 1) := by decide +kernel
theorem dL_law_708 : decode code 708 = .ok (.iload_n 3, 1) := by decide +kernel
theorem dL_law_709 : decode code 709 = .ok (.iconst 1, 1) := by decide +kernel
theorem dL_law_710 : decode code 710 = .ok (.iadd, 1) := by decide +kernel
theorem dL_law_711 : decode code 711 = .ok (.iaload, 1) := by decide +kernel
theorem dL_law_712 : decode code 712 = .ok (.invokevirtual 90, 3) := by decide +kernel
theorem dL_law_715 : decode code 715 = .ok (.if_icmp .eq 562, 3) := by decide +kernel
theorem dL_law_718 : decode code 718 = .ok (.iconst 0, 1) := by decide +kernel
theorem dL_law_719 : decode code 719 = .ok (.ireturn, 1) := by decide +kernel
theorem dL_law_720 : decode code 720 = .ok (.aload_n 1, 1) := by decide +kernel
theorem dL_law_721 : decode code 721 = .ok (.aload_n 0, 1) := by decide +kernel
theorem dL_law_722 : decode code 722 = .ok (.iload_n 3, 1) := by decide +kernel
theorem dL_law_723 : decode code 723 = .ok (.iconst 1, 1) := by decide +kernel
theorem dL_law_724 : decode code 724 = .ok (.iadd, 1) := by decide +kernel
theorem dL_law_725 : decode code 725 = .ok (.iaload, 1) := by decide +kernel
theorem dL_law_726 : decode code 726 = .ok (.aload_n 0, 1) := by decide +kernel
theorem dL_law_727 : decode code 727 = .ok (.iload_n 3, 1) := by decide +kernel
theorem dL_law_728 : decode code 728 = .ok (.iconst 2, 1) := by decide +kernel
theorem dL_law_729 : decode code 729 = .ok (.iadd, 1) := by decide +kernel
theorem dL_law_730 : decode code 730 = .ok (.iaload, 1) := by decide +kernel
theorem dL_law_731 : decode code 731 = .ok (.invokevirtual 91, 3) := by decide +kernel
theorem dL_law_734 : decode code 734 = .ok (.aload_n 2, 1) := by decide +kernel
theorem dL_law_735 : decode code 735 = .ok (.aload_n 0, 1) := by decide +kernel
theorem dL_law_736 : decode code 736 = .ok (.iload_n 3, 1) := by decide +kernel
theorem dL_law_737 : decode code 737 = .ok (.iconst 1, 1) := by decide +kernel
theorem dL_law_738 : decode code 738 = .ok (.iadd, 1) := by decide +kernel
theorem dL_law_739 : decode code 739 = .ok (.iaload, 1) := by decide +kernel
theorem dL_law_740 : decode code 740 = .ok (.aload_n 0, 1) := by decide +kernel
theorem dL_law_741 : decode code 741 = .ok (.iload_n 3, 1) := by decide +kernel
theorem dL_law_742 : decode code 742 = .ok (.iconst 2, 1) := by decide +kernel
theorem dL_law_743 : decode code 743 = .ok (.iadd, 1) := by decide +kernel
theorem dL_law_744 : decode code 744 = .ok (.iaload, 1) := by decide +kernel
theorem dL_law_745 : decode code 745 = .ok (.invokevirtual 94, 3) := by decide +kernel
theorem dL_law_748 : decode code 748 = .ok (.if_icmp .eq 529, 3) := by decide +kernel
theorem dL_law_751 : decode code 751 = .ok (.iconst 0, 1) := by decide +kernel
theorem dL_law_752 : decode code 752 = .ok (.ireturn, 1) := by decide +kernel
theorem dL_law_753 : decode code 753 = .ok (.aload_n 1, 1) := by decide +kernel
theorem dL_law_754 : decode code 754 = .ok (.aload_n 0, 1) := by decide +kernel
theorem dL_law_755 : decode code 755 = .ok (.iload_n 3, 1) := by decide +kernel
theorem dL_law_756 : decode code 756 = .ok (.iconst 1, 1) := by decide +kernel
theorem dL_law_757 : decode code 757 = .ok (.iadd, 1) := by decide +kernel
theorem dL_law_758 : decode code 758 = .ok (.iaload, 1) := by decide +kernel
theorem dL_law_759 : decode code 759 = .ok (.invokevirtual 95, 3) := by decide +kernel
theorem dL_law_762 : decode code 762 = .ok (.aload_n 2, 1) := by decide +kernel
theorem dL_law_763 : decode code 763 = .ok (.aload_n 0, 1) := by decide +kernel
theorem dL_law_764 : decode code 764 = .ok (.iload_n 3, 1) := by decide +kernel
theorem dL_law_765 : decode code 765 = .ok (.iconst 1, 1) := by decide +kernel
theorem dL_law_766 : decode code 766 = .ok (.iadd, 1) := by decide +kernel
theorem dL_law_767 : decode code 767 = .ok (.iaload, 1) := by decide +kernel
theorem dL_law_768 : decode code 768 = .ok (.invokevirtual 98, 3) := by decide +kernel
theorem dL_law_771 : decode code 771 = .ok (.if_icmp .eq 506, 3) := by decide +kernel
theorem dL_law_774 : decode code 774 = .ok (.iconst 0, 1) := by decide +kernel
theorem dL_law_775 : decode code 775 = .ok (.ireturn, 1) := by decide +kernel
theorem dL_law_776 : decode code 776 = .ok (.aload_n 1, 1) := by decide +kernel
theorem dL_law_777 : decode code 777 = .ok (.aload_n 0, 1) := by decide +kernel
theorem dL_law_778 : decode code 778 = .ok (.iload_n 3, 1) := by decide +kernel
theorem dL_law_779 : decode code 779 = .ok (.iconst 1, 1) := by decide +kernel
theorem dL_law_780 : decode code 780 = .ok (.iadd, 1) := by decide +kernel
theorem dL_law_781 : decode code 781 = .ok (.iaload, 1) := by decide +kernel
theorem dL_law_782 : decode code 782 = .ok (.aload_n 0, 1) := by decide +kernel
theorem dL_law_783 : decode code 783 = .ok (.iload_n 3, 1) := by decide +kernel
theorem dL_law_784 : decode code 784 = .ok (.iconst 2, 1) := by decide +kernel
theorem dL_law_785 : decode code 785 = .ok (.iadd, 1) := by decide +kernel
theorem dL_law_786 : decode code 786 = .ok (.iaload, 1) := by decide +kernel
theorem dL_law_787 : decode code 787 = .ok (.invokevirtual 99, 3) := by decide +kernel
theorem dL_law_790 : decode code 790 = .ok (.aload_n 2, 1) := by decide +kernel
theorem dL_law_791 : decode code 791 = .ok (.aload_n 0, 1) := by decide +kernel
theorem dL_law_792 : decode code 792 = .ok (.iload_n 3, 1) := by decide +kernel
theorem dL_law_793 : decode code 793 = .ok (.iconst 1, 1) := by decide +kernel
theorem dL_law_794 : decode code 794 = .ok (.iadd, 1) := by decide +kernel
theorem dL_law_795 : decode code 795 = .ok (.iaload, 1) := by decide +kernel
theorem dL_law_796 : decode code 796 = .ok (.aload_n 0, 1) := by decide +kernel
theorem dL_law_797 : decode code 797 = .ok (.iload_n 3, 1) := by decide +kernel
theorem dL_law_798 : decode code 798 = .ok (.iconst 2, 1) := by decide +kernel
theorem dL_law_799 : decode code 799 = .ok (.iadd, 1) := by decide +kernel
theorem dL_law_800 : decode code 800 = .ok (.iaload, 1) := by decide +kernel
theorem dL_law_801 : decode code 801 = .ok (.invokevirtual 102, 3) := by decide +kernel
theorem dL_law_804 : decode code 804 = .ok (.if_icmp .eq 473, 3) := by decide +kernel
theorem dL_law_807 : decode code 807 = .ok (.iconst 0, 1) := by decide +kernel
theorem dL_law_808 : decode code 808 = .ok (.ireturn, 1) := by decide +kernel
theorem dL_law_809 : decode code 809 = .ok (.aload_n 1, 1) := by decide +kernel
theorem dL_law_810 : decode code 810 = .ok (.aload_n 0, 1) := by decide +kernel
theorem dL_law_811 : decode code 811 = .ok (.iload_n 3, 1) := by decide +kernel
theorem dL_law_812 : decode code 812 = .ok (.iconst 1, 1) := by decide +kernel
theorem dL_law_813 : decode code 813 = .ok (.iadd, 1) := by decide +kernel
theorem dL_law_814 : decode code 814 = .ok (.iaload, 1) := by decide +kernel
theorem dL_law_815 : decode code 815 = .ok (.aload_n 0, 1) := by decide +kernel
theorem dL_law_816 : decode code 816 = .ok (.iload_n 3, 1) := by decide +kernel
theorem dL_law_817 : decode code 817 = .ok (.iconst 2, 1) := by decide +kernel
theorem dL_law_818 : decode code 818 = .ok (.iadd, 1) := by decide +kernel
theorem dL_law_819 : decode code 819 = .ok (.iaload, 1) := by decide +kernel
theorem dL_law_820 : decode code 820 = .ok (.invokevirtual 103, 3) := by decide +kernel
theorem dL_law_823 : decode code 823 = .ok (.aload_n 2, 1) := by decide +kernel
theorem dL_law_824 : decode code 824 = .ok (.aload_n 0, 1) := by decide +kernel
theorem dL_law_825 : decode code 825 = .ok (.iload_n 3, 1) := by decide +kernel
theorem dL_law_826 : decode code 826 = .ok (.iconst 1, 1) := by decide +kernel
theorem dL_law_827 : decode code 827 = .ok (.iadd, 1) := by decide +kernel
theorem dL_law_828 : decode code 828 = .ok (.iaload, 1) := by decide +kernel
theorem dL_law_829 : decode code 829 = .ok (.aload_n 0, 1) := by decide +kernel
theorem dL_law_830 : decode code 830 = .ok (.iload_n 3, 1) := by decide +kernel
theorem dL_law_831 : decode code 831 = .ok (.iconst 2, 1) := by decide +kernel
theorem dL_law_832 : decode code 832 = .ok (.iadd, 1) := by decide +kernel
theorem dL_law_833 : decode code 833 = .ok (.iaload, 1) := by decide +kernel
theorem dL_law_834 : decode code 834 = .ok (.invokevirtual 106, 3) := by decide +kernel
theorem dL_law_837 : decode code 837 = .ok (.if_icmp .eq 440, 3) := by decide +kernel
theorem dL_law_840 : decode code 840 = .ok (.iconst 0, 1) := by decide +kernel
theorem dL_law_841 : decode code 841 = .ok (.ireturn, 1) := by decide +kernel
theorem dL_law_842 : decode code 842 = .ok (.aload_n 1, 1) := by decide +kernel
theorem dL_law_843 : decode code 843 = .ok (.aload_n 0, 1) := by decide +kernel
theorem dL_law_844 : decode code 844 = .ok (.iload_n 3, 1) := by decide +kernel
theorem dL_law_845 : decode code 845 = .ok (.iconst 1, 1) := by decide +kernel
theorem dL_law_846 : decode code 846 = .ok (.iadd, 1) := by decide +kernel
theorem dL_law_847 : decode code 847 = .ok (.iaload, 1) := by decide +kernel
theorem dL_law_848 : decode code 848 = .ok (.invokevirtual 107, 3) := by decide +kernel
theorem dL_law_851 : decode code 851 = .ok (.aload_n 2, 1) := by decide +kernel
theorem dL_law_852 : decode code 852 = .ok (.aload_n 0, 1) := by decide +kernel
theorem dL_law_853 : decode code 853 = .ok (.iload_n 3, 1) := by decide +kernel
theorem dL_law_854 : decode code 854 = .ok (.iconst 1, 1) := by decide +kernel
theorem dL_law_855 : decode code 855 = .ok (.iadd, 1) := by decide +kernel
theorem dL_law_856 : decode code 856 = .ok (.iaload, 1) := by decide +kernel
theorem dL_law_857 : decode code 857 = .ok (.invokevirtual 110, 3) := by decide +kernel
theorem dL_law_860 : decode code 860 = .ok (.if_icmp .eq 417, 3) := by decide +kernel
theorem dL_law_863 : decode code 863 = .ok (.iconst 0, 1) := by decide +kernel
theorem dL_law_864 : decode code 864 = .ok (.ireturn, 1) := by decide +kernel
theorem dL_law_865 : decode code 865 = .ok (.aload_n 1, 1) := by decide +kernel
theorem dL_law_866 : decode code 866 = .ok (.aload_n 0, 1) := by decide +kernel
theorem dL_law_867 : decode code 867 = .ok (.iload_n 3, 1) := by decide +kernel
theorem dL_law_868 : decode code 868 = .ok (.iconst 1, 1) := by decide +kernel
theorem dL_law_869 : decode code 869 = .ok (.iadd, 1) := by decide +kernel
theorem dL_law_870 : decode code 870 = .ok (.iaload, 1) := by decide +kernel
theorem dL_law_871 : decode code 871 = .ok (.aload_n 0, 1) := by decide +kernel
theorem dL_law_872 : decode code 872 = .ok (.iload_n 3, 1) := by decide +kernel
theorem dL_law_873 : decode code 873 = .ok (.iconst 2, 1) := by decide +kernel
theorem dL_law_874 : decode code 874 = .ok (.iadd, 1) := by decide +kernel
theorem dL_law_875 : decode code 875 = .ok (.iaload, 1) := by decide +kernel
theorem dL_law_876 : decode code 876 = .ok (.invokevirtual 111, 3) := by decide +kernel
theorem dL_law_879 : decode code 879 = .ok (.aload_n 2, 1) := by decide +kernel
theorem dL_law_880 : decode code 880 = .ok (.aload_n 0, 1) := by decide +kernel
theorem dL_law_881 : decode code 881 = .ok (.iload_n 3, 1) := by decide +kernel
theorem dL_law_882 : decode code 882 = .ok (.iconst 1, 1) := by decide +kernel
theorem dL_law_883 : decode code 883 = .ok (.iadd, 1) := by decide +kernel
theorem dL_law_884 : decode code 884 = .ok (.iaload, 1) := by decide +kernel
theorem dL_law_885 : decode code 885 = .ok (.aload_n 0, 1) := by decide +kernel
theorem dL_law_886 : decode code 886 = .ok (.iload_n 3, 1) := by decide +kernel
theorem dL_law_887 : decode code 887 = .ok (.iconst 2, 1) := by decide +kernel
theorem dL_law_888 : decode code 888 = .ok (.iadd, 1) := by decide +kernel
theorem dL_law_889 : decode code 889 = .ok (.iaload, 1) := by decide +kernel
theorem dL_law_890 : decode code 890 = .ok (.invokevirtual 114, 3) := by decide +kernel
theorem dL_law_893 : decode code 893 = .ok (.if_icmp .eq 384, 3) := by decide +kernel
theorem dL_law_896 : decode code 896 = .ok (.iconst 0, 1) := by decide +kernel
theorem dL_law_897 : decode code 897 = .ok (.ireturn, 1) := by decide +kernel
theorem dL_law_898 : decode code 898 = .ok (.aload_n 1, 1) := by decide +kernel
theorem dL_law_899 : decode code 899 = .ok (.aload_n 0, 1) := by decide +kernel
theorem dL_law_900 : decode code 900 = .ok (.iload_n 3, 1) := by decide +kernel
theorem dL_law_901 : decode code 901 = .ok (.iconst 1, 1) := by decide +kernel
theorem dL_law_902 : decode code 902 = .ok (.iadd, 1) := by decide +kernel
theorem dL_law_903 : decode code 903 = .ok (.iaload, 1) := by decide +kernel
theorem dL_law_904 : decode code 904 = .ok (.aload_n 0, 1) := by decide +kernel
theorem dL_law_905 : decode code 905 = .ok (.iload_n 3, 1) := by decide +kernel
theorem dL_law_906 : decode code 906 = .ok (.iconst 2, 1) := by decide +kernel
theorem dL_law_907 : decode code 907 = .ok (.iadd, 1) := by decide +kernel
theorem dL_law_908 : decode code 908 = .ok (.iaload, 1) := by decide +kernel
theorem dL_law_909 : decode code 909 = .ok (.invokevirtual 115, 3) := by decide +kernel
theorem dL_law_912 : decode code 912 = .ok (.aload_n 2, 1) := by decide +kernel
theorem dL_law_913 : decode code 913 = .ok (.aload_n 0, 1) := by decide +kernel
theorem dL_law_914 : decode code 914 = .ok (.iload_n 3, 1) := by decide +kernel
theorem dL_law_915 : decode code 915 = .ok (.iconst 1, 1) := by decide +kernel
theorem dL_law_916 : decode code 916 = .ok (.iadd, 1) := by decide +kernel
theorem dL_law_917 : decode code 917 = .ok (.iaload, 1) := by decide +kernel
theorem dL_law_918 : decode code 918 = .ok (.aload_n 0, 1) := by decide +kernel
theorem dL_law_919 : decode code 919 = .ok (.iload_n 3, 1) := by decide +kernel
theorem dL_law_920 : decode code 920 = .ok (.iconst 2, 1) := by decide +kernel
theorem dL_law_921 : decode code 921 = .ok (.iadd, 1) := by decide +kernel
theorem dL_law_922 : decode code 922 = .ok (.iaload, 1) := by decide +kernel
theorem dL_law_923 : decode code 923 = .ok (.invokevirtual 118, 3) := by decide +kernel
theorem dL_law_926 : decode code 926 = .ok (.if_icmp .eq 351, 3) := by decide +kernel
theorem dL_law_929 : decode code 929 = .ok (.iconst 0, 1) := by decide +kernel
theorem dL_law_930 : decode code 930 = .ok (.ireturn, 1) := by decide +kernel
theorem dL_law_931 : decode code 931 = .ok (.aload_n 1, 1) := by decide +kernel
theorem dL_law_932 : decode code 932 = .ok (.aload_n 0, 1) := by decide +kernel
theorem dL_law_933 : decode code 933 = .ok (.iload_n 3, 1) := by decide +kernel
theorem dL_law_934 : decode code 934 = .ok (.iconst 1, 1) := by decide +kernel
theorem dL_law_935 : decode code 935 = .ok (.iadd, 1) := by decide +kernel
theorem dL_law_936 : decode code 936 = .ok (.iaload, 1) := by decide +kernel
theorem dL_law_937 : decode code 937 = .ok (.invokevirtual 119, 3) := by decide +kernel
theorem dL_law_940 : decode code 940 = .ok (.aload_n 2, 1) := by decide +kernel
theorem dL_law_941 : decode code 941 = .ok (.aload_n 0, 1) := by decide +kernel
theorem dL_law_942 : decode code 942 = .ok (.iload_n 3, 1) := by decide +kernel
theorem dL_law_943 : decode code 943 = .ok (.iconst 1, 1) := by decide +kernel
theorem dL_law_944 : decode code 944 = .ok (.iadd, 1) := by decide +kernel
theorem dL_law_945 : decode code 945 = .ok (.iaload, 1) := by decide +kernel
theorem dL_law_946 : decode code 946 = .ok (.invokevirtual 122, 3) := by decide +kernel
theorem dL_law_949 : decode code 949 = .ok (.if_icmp .eq 328, 3) := by decide +kernel
theorem dL_law_952 : decode code 952 = .ok (.iconst 0, 1) := by decide +kernel
theorem dL_law_953 : decode code 953 = .ok (.ireturn, 1) := by decide +kernel
theorem dL_law_954 : decode code 954 = .ok (.aload_n 1, 1) := by decide +kernel
theorem dL_law_955 : decode code 955 = .ok (.aload_n 0, 1) := by decide +kernel
theorem dL_law_956 : decode code 956 = .ok (.iload_n 3, 1) := by decide +kernel
theorem dL_law_957 : decode code 957 = .ok (.iconst 1, 1) := by decide +kernel
theorem dL_law_958 : decode code 958 = .ok (.iadd, 1) := by decide +kernel
theorem dL_law_959 : decode code 959 = .ok (.iaload, 1) := by decide +kernel
theorem dL_law_960 : decode code 960 = .ok (.aload_n 0, 1) := by decide +kernel
theorem dL_law_961 : decode code 961 = .ok (.iload_n 3, 1) := by decide +kernel
theorem dL_law_962 : decode code 962 = .ok (.iconst 2, 1) := by decide +kernel
theorem dL_law_963 : decode code 963 = .ok (.iadd, 1) := by decide +kernel
theorem dL_law_964 : decode code 964 = .ok (.iaload, 1) := by decide +kernel
theorem dL_law_965 : decode code 965 = .ok (.invokevirtual 123, 3) := by decide +kernel
theorem dL_law_968 : decode code 968 = .ok (.aload_n 2, 1) := by decide +kernel
theorem dL_law_969 : decode code 969 = .ok (.aload_n 0, 1) := by decide +kernel
theorem dL_law_970 : decode code 970 = .ok (.iload_n 3, 1) := by decide +kernel
theorem dL_law_971 : decode code 971 = .ok (.iconst 1, 1) := by decide +kernel
theorem dL_law_972 : decode code 972 = .ok (.iadd, 1) := by decide +kernel
theorem dL_law_973 : decode code 973 = .ok (.iaload, 1) := by decide +kernel
theorem dL_law_974 : decode code 974 = .ok (.aload_n 0, 1) := by decide +kernel
theorem dL_law_975 : decode code 975 = .ok (.iload_n 3, 1) := by decide +kernel
theorem dL_law_976 : decode code 976 = .ok (.iconst 2, 1) := by decide +kernel
theorem dL_law_977 : decode code 977 = .ok (.iadd, 1) := by decide +kernel
theorem dL_law_978 : decode code 978 = .ok (.iaload, 1) := by decide +kernel
theorem dL_law_979 : decode code 979 = .ok (.invokevirtual 126, 3) := by decide +kernel
theorem dL_law_982 : decode code 982 = .ok (.if_icmp .eq 295, 3) := by decide +kernel
theorem dL_law_985 : decode code 985 = .ok (.iconst 0, 1) := by decide +kernel
theorem dL_law_986 : decode code 986 = .ok (.ireturn, 1) := by decide +kernel
theorem dL_law_987 : decode code 987 = .ok (.aload_n 1, 1) := by decide +kernel
theorem dL_law_988 : decode code 988 = .ok (.aload_n 0, 1) := by decide +kernel
theorem dL_law_989 : decode code 989 = .ok (.iload_n 3, 1) := by decide +kernel
theorem dL_law_990 : decode code 990 = .ok (.iconst 1, 1) := by decide +kernel
theorem dL_law_991 : decode code 991 = .ok (.iadd, 1) := by decide +kernel
theorem dL_law_992 : decode code 992 = .ok (.iaload, 1) := by decide +kernel
theorem dL_law_993 : decode code 993 = .ok (.aload_n 0, 1) := by decide +kernel
theorem dL_law_994 : decode code 994 = .ok (.iload_n 3, 1) := by decide +kernel
theorem dL_law_995 : decode code 995 = .ok (.iconst 2, 1) := by decide +kernel
theorem dL_law_996 : decode code 996 = .ok (.iadd, 1) := by decide +kernel
theorem dL_law_997 : decode code 997 = .ok (.iaload, 1) := by decide +kernel
theorem dL_law_998 : decode code 998 = .ok (.aload_n 0, 1) := by decide +kernel
theorem dL_law_999 : decode code 999 = .ok (.iload_n 3, 1) := by decide +kernel
theorem dL_law_1000 : decode code 1000 = .ok (.iconst 3, 1) := by decide +kernel
theorem dL_law_1001 : decode code 1001 = .ok (.iadd, 1) := by decide +kernel
theorem dL_law_1002 : decode code 1002 = .ok (.iaload, 1) := by decide +kernel
theorem dL_law_1003 : decode code 1003 = .ok (.invokevirtual 127, 3) := by decide +kernel
theorem dL_law_1006 : decode code 1006 = .ok (.aload_n 2, 1) := by decide +kernel
theorem dL_law_1007 : decode code 1007 = .ok (.aload_n 0, 1) := by decide +kernel
theorem dL_law_1008 : decode code 1008 = .ok (.iload_n 3, 1) := by decide +kernel
theorem dL_law_1009 : decode code 1009 = .ok (.iconst 1, 1) := by decide +kernel
theorem dL_law_1010 : decode code 1010 = .ok (.iadd, 1) := by decide +kernel
theorem dL_law_1011 : decode code 1011 = .ok (.iaload, 1) := by decide +kernel
theorem dL_law_1012 : decode code 1012 = .ok (.aload_n 0, 1) := by decide +kernel
theorem dL_law_1013 : decode code 1013 = .ok (.iload_n 3, 1) := by decide +kernel
theorem dL_law_1014 : decode code 1014 = .ok (.iconst 2, 1) := by decide +kernel
theorem dL_law_1015 : decode code 1015 = .ok (.iadd, 1) := by decide +kernel
theorem dL_law_1016 : decode code 1016 = .ok (.iaload, 1) := by decide +kernel
theorem dL_law_1017 : decode code 1017 = .ok (.aload_n 0, 1) := by decide +kernel
theorem dL_law_1018 : decode code 1018 = .ok (.iload_n 3, 1) := by decide +kernel
theorem dL_law_1019 : decode code 1019 = .ok (.iconst 3, 1) := by decide +kernel
theorem dL_law_1020 : decode code 1020 = .ok (.iadd, 1) := by decide +kernel
theorem dL_law_1021 : decode code 1021 = .ok (.iaload, 1) := by decide +kernel
theorem dL_law_1022 : decode code 1022 = .ok (.invokevirtual 130, 3) := by decide +kernel
theorem dL_law_1025 : decode code 1025 = .ok (.if_icmp .eq 252, 3) := by decide +kernel
theorem dL_law_1028 : decode code 1028 = .ok (.iconst 0, 1) := by decide +kernel
theorem dL_law_1029 : decode code 1029 = .ok (.ireturn, 1) := by decide +kernel
theorem dL_law_1030 : decode code 1030 = .ok (.aload_n 1, 1) := by decide +kernel
theorem dL_law_1031 : decode code 1031 = .ok (.aload_n 0, 1) := by decide +kernel
theorem dL_law_1032 : decode code 1032 = .ok (.iload_n 3, 1) := by decide +kernel
theorem dL_law_1033 : decode code 1033 = .ok (.iconst 1, 1) := by decide +kernel
theorem dL_law_1034 : decode code 1034 = .ok (.iadd, 1) := by decide +kernel
theorem dL_law_1035 : decode code 1035 = .ok (.iaload, 1) := by decide +kernel
theorem dL_law_1036 : decode code 1036 = .ok (.aload_n 0, 1) := by decide +kernel
theorem dL_law_1037 : decode code 1037 = .ok (.iload_n 3, 1) := by decide +kernel
theorem dL_law_1038 : decode code 1038 = .ok (.iconst 2, 1) := by decide +kernel
theorem dL_law_1039 : decode code 1039 = .ok (.iadd, 1) := by decide +kernel
theorem dL_law_1040 : decode code 1040 = .ok (.iaload, 1) := by decide +kernel
theorem dL_law_1041 : decode code 1041 = .ok (.invokevirtual 131, 3) := by decide +kernel
theorem dL_law_1044 : decode code 1044 = .ok (.aload_n 2, 1) := by decide +kernel
theorem dL_law_1045 : decode code 1045 = .ok (.aload_n 0, 1) := by decide +kernel
theorem dL_law_1046 : decode code 1046 = .ok (.iload_n 3, 1) := by decide +kernel
theorem dL_law_1047 : decode code 1047 = .ok (.iconst 1, 1) := by decide +kernel
theorem dL_law_1048 : decode code 1048 = .ok (.iadd, 1) := by decide +kernel
theorem dL_law_1049 : decode code 1049 = .ok (.iaload, 1) := by decide +kernel
theorem dL_law_1050 : decode code 1050 = .ok (.aload_n 0, 1) := by decide +kernel
theorem dL_law_1051 : decode code 1051 = .ok (.iload_n 3, 1) := by decide +kernel
theorem dL_law_1052 : decode code 1052 = .ok (.iconst 2, 1) := by decide +kernel
theorem dL_law_1053 : decode code 1053 = .ok (.iadd, 1) := by decide +kernel
theorem dL_law_1054 : decode code 1054 = .ok (.iaload, 1) := by decide +kernel
theorem dL_law_1055 : decode code 1055 = .ok (.invokevirtual 134, 3) := by decide +kernel
theorem dL_law_1058 : decode code 1058 = .ok (.if_icmp .eq 219, 3) := by decide +kernel
theorem dL_law_1061 : decode code 1061 = .ok (.iconst 0, 1) := by decide +kernel
theorem dL_law_1062 : decode code 1062 = .ok (.ireturn, 1) := by decide +kernel
theorem dL_law_1063 : decode code 1063 = .ok (.aload_n 1, 1) := by decide +kernel
theorem dL_law_1064 : decode code 1064 = .ok (.aload_n 0, 1) := by decide +kernel
theorem dL_law_1065 : decode code 1065 = .ok (.iload_n 3, 1) := by decide +kernel
theorem dL_law_1066 : decode code 1066 = .ok (.iconst 1, 1) := by decide +kernel
theorem dL_law_1067 : decode code 1067 = .ok (.iadd, 1) := by decide +kernel
theorem dL_law_1068 : decode code 1068 = .ok (.iaload, 1) := by decide +kernel
theorem dL_law_1069 : decode code 1069 = .ok (.invokevirtual 135, 3) := by decide +kernel
theorem dL_law_1072 : decode code 1072 = .ok (.aload_n 2, 1) := by decide +kernel
theorem dL_law_1073 : decode code 1073 = .ok (.aload_n 0, 1) := by decide +kernel
theorem dL_law_1074 : decode code 1074 = .ok (.iload_n 3, 1) := by decide +kernel
theorem dL_law_1075 : decode code 1075 = .ok (.iconst 1, 1) := by decide +kernel
theorem dL_law_1076 : decode code 1076 = .ok (.iadd, 1) := by decide +kernel
theorem dL_law_1077 : decode code 1077 = .ok (.iaload, 1) := by decide +kernel
theorem dL_law_1078 : decode code 1078 = .ok (.invokevirtual 138, 3) := by decide +kernel
theorem dL_law_1081 : decode code 1081 = .ok (.if_icmp .eq 196, 3) := by decide +kernel
theorem dL_law_1084 : decode code 1084 = .ok (.iconst 0, 1) := by decide +kernel
theorem dL_law_1085 : decode code 1085 = .ok (.ireturn, 1) := by decide +kernel
theorem dL_law_1086 : decode code 1086 = .ok (.aload_n 1, 1) := by decide +kernel
theorem dL_law_1087 : decode code 1087 = .ok (.aload_n 0, 1) := by decide +kernel
theorem dL_law_1088 : decode code 1088 = .ok (.iload_n 3, 1) := by decide +kernel
theorem dL_law_1089 : decode code 1089 = .ok (.iconst 1, 1) := by decide +kernel
theorem dL_law_1090 : decode code 1090 = .ok (.iadd, 1) := by decide +kernel
theorem dL_law_1091 : decode code 1091 = .ok (.iaload, 1) := by decide +kernel
theorem dL_law_1092 : decode code 1092 = .ok (.invokevirtual 139, 3) := by decide +kernel
theorem dL_law_1095 : decode code 1095 = .ok (.aload_n 2, 1) := by decide +kernel
theorem dL_law_1096 : decode code 1096 = .ok (.aload_n 0, 1) := by decide +kernel
theorem dL_law_1097 : decode code 1097 = .ok (.iload_n 3, 1) := by decide +kernel
theorem dL_law_1098 : decode code 1098 = .ok (.iconst 1, 1) := by decide +kernel
theorem dL_law_1099 : decode code 1099 = .ok (.iadd, 1) := by decide +kernel
theorem dL_law_1100 : decode code 1100 = .ok (.iaload, 1) := by decide +kernel
theorem dL_law_1101 : decode code 1101 = .ok (.invokevirtual 142, 3) := by decide +kernel
theorem dL_law_1104 : decode code 1104 = .ok (.if_icmp .eq 173, 3) := by decide +kernel
theorem dL_law_1107 : decode code 1107 = .ok (.iconst 0, 1) := by decide +kernel
theorem dL_law_1108 : decode code 1108 = .ok (.ireturn, 1) := by decide +kernel
theorem dL_law_1109 : decode code 1109 = .ok (.aload_n 1, 1) := by decide +kernel
theorem dL_law_1110 : decode code 1110 = .ok (.invokevirtual 143, 3) := by decide +kernel
theorem dL_law_1113 : decode code 1113 = .ok (.aload_n 2, 1) := by decide +kernel
theorem dL_law_1114 : decode code 1114 = .ok (.invokevirtual 146, 3) := by decide +kernel
theorem dL_law_1117 : decode code 1117 = .ok (.if_icmp .eq 160, 3) := by decide +kernel
theorem dL_law_1120 : decode code 1120 = .ok (.iconst 0, 1) := by decide +kernel
theorem dL_law_1121 : decode code 1121 = .ok (.ireturn, 1) := by decide +kernel
theorem dL_law_1122 : decode code 1122 = .ok (.aload_n 1, 1) := by decide +kernel
theorem dL_law_1123 : decode code 1123 = .ok (.aload_n 0, 1) := by decide +kernel
theorem dL_law_1124 : decode code 1124 = .ok (.iload_n 3, 1) := by decide +kernel
theorem dL_law_1125 : decode code 1125 = .ok (.iconst 1, 1) := by decide +kernel
theorem dL_law_1126 : decode code 1126 = .ok (.iadd, 1) := by decide +kernel
theorem dL_law_1127 : decode code 1127 = .ok (.iaload, 1) := by decide +kernel
theorem dL_law_1128 : decode code 1128 = .ok (.invokevirtual 147, 3) := by decide +kernel
theorem dL_law_1131 : decode code 1131 = .ok (.aload_n 2, 1) := by decide +kernel
theorem dL_law_1132 : decode code 1132 = .ok (.aload_n 0, 1) := by decide +kernel
theorem dL_law_1133 : decode code 1133 = .ok (.iload_n 3, 1) := by decide +kernel
theorem dL_law_1134 : decode code 1134 = .ok (.iconst 1, 1) := by decide +kernel
theorem dL_law_1135 : decode code 1135 = .ok (.iadd, 1) := by decide +kernel
theorem dL_law_1136 : decode code 1136 = .ok (.iaload, 1) := by decide +kernel
theorem dL_law_1137 : decode code 1137 = .ok (.invokevirtual 150, 3) := by decide +kernel
theorem dL_law_1140 : decode code 1140 = .ok (.if_icmp .eq 137, 3) := by decide +kernel
theorem dL_law_1143 : decode code 1143 = .ok (.iconst 0, 1) := by decide +kernel
theorem dL_law_1144 : decode code 1144 = .ok (.ireturn, 1) := by decide +kernel
theorem dL_law_1145 : decode code 1145 = .ok (.aload_n 1, 1) := by decide +kernel
theorem dL_law_1146 : decode code 1146 = .ok (.aload_n 0, 1) := by decide +kernel
theorem dL_law_1147 : decode code 1147 = .ok (.iload_n 3, 1) := by decide +kernel
theorem dL_law_1148 : decode code 1148 = .ok (.iconst 1, 1) := by decide +kernel
theorem dL_law_1149 : decode code 1149 = .ok (.iadd, 1) := by decide +kernel
theorem dL_law_1150 : decode code 1150 = .ok (.iaload, 1) := by decide +kernel
theorem dL_law_1151 : decode code 1151 = .ok (.aload_n 0, 1) := by decide +kernel
theorem dL_law_1152 : decode code 1152 = .ok (.iload_n 3, 1) := by decide +kernel
theorem dL_law_1153 : decode code 1153 = .ok (.iconst 2, 1) := by decide +kernel
theorem dL_law_1154 : decode code 1154 = .ok (.iadd, 1) := by decide +kernel
theorem dL_law_1155 : decode code 1155 = .ok (.iaload, 1) := by decide +kernel
theorem dL_law_1156 : decode code 1156 = .ok (.invokevirtual 151, 3) := by decide +kernel
theorem dL_law_1159 : decode code 1159 = .ok (.aload_n 2, 1) := by decide +kernel
theorem dL_law_1160 : decode code 1160 = .ok (.aload_n 0, 1) := by decide +kernel
theorem dL_law_1161 : decode code 1161 = .ok (.iload_n 3, 1) := by decide +kernel
theorem dL_law_1162 : decode code 1162 = .ok (.iconst 1, 1) := by decide +kernel
theorem dL_law_1163 : decode code 1163 = .ok (.iadd, 1) := by decide +kernel
theorem dL_law_1164 : decode code 1164 = .ok (.iaload, 1) := by decide +kernel
theorem dL_law_1165 : decode code 1165 = .ok (.aload_n 0, 1) := by decide +kernel
theorem dL_law_1166 : decode code 1166 = .ok (.iload_n 3, 1) := by decide +kernel
theorem dL_law_1167 : decode code 1167 = .ok (.iconst 2, 1) := by decide +kernel
theorem dL_law_1168 : decode code 1168 = .ok (.iadd, 1) := by decide +kernel
theorem dL_law_1169 : decode code 1169 = .ok (.iaload, 1) := by decide +kernel
theorem dL_law_1170 : decode code 1170 = .ok (.invokevirtual 154, 3) := by decide +kernel
theorem dL_law_1173 : decode code 1173 = .ok (.if_icmp .eq 104, 3) := by decide +kernel
theorem dL_law_1176 : decode code 1176 = .ok (.iconst 0, 1) := by decide +kernel
theorem dL_law_1177 : decode code 1177 = .ok (.ireturn, 1) := by decide +kernel
theorem dL_law_1178 : decode code 1178 = .ok (.aload_n 1, 1) := by decide +kernel
theorem dL_law_1179 : decode code 1179 = .ok (.aload_n 0, 1) := by decide +kernel
theorem dL_law_1180 : decode code 1180 = .ok (.iload_n 3, 1) := by decide +kernel
theorem dL_law_1181 : decode code 1181 = .ok (.iconst 1, 1) := by decide +kernel
theorem dL_law_1182 : decode code 1182 = .ok (.iadd, 1) := by decide +kernel
theorem dL_law_1183 : decode code 1183 = .ok (.iaload, 1) := by decide +kernel
theorem dL_law_1184 : decode code 1184 = .ok (.aload_n 0, 1) := by decide +kernel
theorem dL_law_1185 : decode code 1185 = .ok (.iload_n 3, 1) := by decide +kernel
theorem dL_law_1186 : decode code 1186 = .ok (.iconst 2, 1) := by decide +kernel
theorem dL_law_1187 : decode code 1187 = .ok (.iadd, 1) := by decide +kernel
theorem dL_law_1188 : decode code 1188 = .ok (.iaload, 1) := by decide +kernel
theorem dL_law_1189 : decode code 1189 = .ok (.aload_n 0, 1) := by decide +kernel
theorem dL_law_1190 : decode code 1190 = .ok (.iload_n 3, 1) := by decide +kernel
theorem dL_law_1191 : decode code 1191 = .ok (.iconst 3, 1) := by decide +kernel
theorem dL_law_1192 : decode code 1192 = .ok (.iadd, 1) := by decide +kernel
theorem dL_law_1193 : decode code 1193 = .ok (.iaload, 1) := by decide +kernel
theorem dL_law_1194 : decode code 1194 = .ok (.aload_n 0, 1) := by decide +kernel
theorem dL_law_1195 : decode code 1195 = .ok (.iload_n 3, 1) := by decide +kernel
theorem dL_law_1196 : decode code 1196 = .ok (.iconst 4, 1) := by decide +kernel
theorem dL_law_1197 : decode code 1197 = .ok (.iadd, 1) := by decide +kernel
theorem dL_law_1198 : decode code 1198 = .ok (.iaload, 1) := by decide +kernel
theorem dL_law_1199 : decode code 1199 = .ok (.invokevirtual 155, 3) := by decide +kernel
theorem dL_law_1202 : decode code 1202 = .ok (.aload_n 2, 1) := by decide +kernel
theorem dL_law_1203 : decode code 1203 = .ok (.aload_n 0, 1) := by decide +kernel
theorem dL_law_1204 : decode code 1204 = .ok (.iload_n 3, 1) := by decide +kernel
theorem dL_law_1205 : decode code 1205 = .ok (.iconst 1, 1) := by decide +kernel
theorem dL_law_1206 : decode code 1206 = .ok (.iadd, 1) := by decide +kernel
theorem dL_law_1207 : decode code 1207 = .ok (.iaload, 1) := by decide +kernel
theorem dL_law_1208 : decode code 1208 = .ok (.aload_n 0, 1) := by decide +kernel
theorem dL_law_1209 : decode code 1209 = .ok (.iload_n 3, 1) := by decide +kernel
theorem dL_law_1210 : decode code 1210 = .ok (.iconst 2, 1) := by decide +kernel
theorem dL_law_1211 : decode code 1211 = .ok (.iadd, 1) := by decide +kernel
theorem dL_law_1212 : decode code 1212 = .ok (.iaload, 1) := by decide +kernel
theorem dL_law_1213 : decode code 1213 = .ok (.aload_n 0, 1) := by decide +kernel
theorem dL_law_1214 : decode code 1214 = .ok (.iload_n 3, 1) := by decide +kernel
theorem dL_law_1215 : decode code 1215 = .ok (.iconst 3, 1) := by decide +kernel
theorem dL_law_1216 : decode code 1216 = .ok (.iadd, 1) := by decide +kernel
theorem dL_law_1217 : decode code 1217 = .ok (.iaload, 1) := by decide +kernel
theorem dL_law_1218 : decode code 1218 = .ok (.aload_n 0, 1) := by decide +kernel
theorem dL_law_1219 : decode code 1219 = .ok (.iload_n 3, 1) := by decide +kernel
theorem dL_law_1220 : decode code 1220 = .ok (.iconst 4, 1) := by decide +kernel
theorem dL_law_1221 : decode code 1221 = .ok (.iadd, 1) := by decide +kernel
theorem dL_law_1222 : decode code 1222 = .ok (.iaload, 1) := by decide +kernel
theorem dL_law_1223 : decode code 1223 = .ok (.invokevirtual 159, 3) := by decide +kernel
theorem dL_law_1226 : decode code 1226 = .ok (.if_icmp .eq 51, 3) := by decide +kernel
theorem dL_law_1229 : decode code 1229 = .ok (.iconst 0, 1) := by decide +kernel
theorem dL_law_1230 : decode code 1230 = .ok (.ireturn, 1) := by decide +kernel
theorem dL_law_1231 : decode code 1231 = .ok (.aload_n 1, 1) := by decide +kernel
theorem dL_law_1232 : decode code 1232 = .ok (.aload_n 0, 1) := by decide +kernel
theorem dL_law_1233 : decode code 1233 = .ok (.iload_n 3, 1) := by decide +kernel
theorem dL_law_1234 : decode code 1234 = .ok (.iconst 1, 1) := by decide +kernel
theorem dL_law_1235 : decode code 1235 = .ok (.iadd, 1) := by decide +kernel
theorem dL_law_1236 : decode code 1236 = .ok (.iaload, 1) := by decide +kernel
theorem dL_law_1237 : decode code 1237 = .ok (.invokevirtual 160, 3) := by decide +kernel
theorem dL_law_1240 : decode code 1240 = .ok (.aload_n 2, 1) := by decide +kernel
theorem dL_law_1241 : decode code 1241 = .ok (.aload_n 0, 1) := by decide +kernel
theorem dL_law_1242 : decode code 1242 = .ok (.iload_n 3, 1) := by decide +kernel
theorem dL_law_1243 : decode code 1243 = .ok (.iconst 1, 1) := by decide +kernel
theorem dL_law_1244 : decode code 1244 = .ok (.iadd, 1) := by decide +kernel
theorem dL_law_1245 : decode code 1245 = .ok (.iaload, 1) := by decide +kernel
theorem dL_law_1246 : decode code 1246 = .ok (.invokevirtual 163, 3) := by decide +kernel
theorem dL_law_1249 : decode code 1249 = .ok (.if_icmp .eq 28, 3) := by decide +kernel
theorem dL_law_1252 : decode code 1252 = .ok (.iconst 0, 1) := by decide +kernel
theorem dL_law_1253 : decode code 1253 = .ok (.ireturn, 1) := by decide +kernel
theorem dL_law_1254 : decode code 1254 = .ok (.aload_n 1, 1) := by decide +kernel
theorem dL_law_1255 : decode code 1255 = .ok (.aload_n 0, 1) := by decide +kernel
theorem dL_law_1256 : decode code 1256 = .ok (.iload_n 3, 1) := by decide +kernel
theorem dL_law_1257 : decode code 1257 = .ok (.iconst 1, 1) := by decide +kernel
theorem dL_law_1258 : decode code 1258 = .ok (.iadd, 1) := by decide +kernel
theorem dL_law_1259 : decode code 1259 = .ok (.iaload, 1) := by decide +kernel
theorem dL_law_1260 : decode code 1260 = .ok (.invokevirtual 164, 3) := by decide +kernel
theorem dL_law_1263 : decode code 1263 = .ok (.aload_n 2, 1) := by decide +kernel
theorem dL_law_1264 : decode code 1264 = .ok (.aload_n 0, 1) := by decide +kernel
theorem dL_law_1265 : decode code 1265 = .ok (.iload_n 3, 1) := by decide +kernel
theorem dL_law_1266 : decode code 1266 = .ok (.iconst 1, 1) := by decide +kernel
theorem dL_law_1267 : decode code 1267 = .ok (.iadd, 1) := by decide +kernel
theorem dL_law_1268 : decode code 1268 = .ok (.iaload, 1) := by decide +kernel
theorem dL_law_1269 : decode code 1269 = .ok (.invokevirtual 167, 3) := by decide +kernel
theorem dL_law_1272 : decode code 1272 = .ok (.if_icmp .eq 5, 3) := by decide +kernel
theorem dL_law_1275 : decode code 1275 = .ok (.iconst 0, 1) := by decide +kernel
theorem dL_law_1276 : decode code 1276 = .ok (.ireturn, 1) := by decide +kernel
theorem dL_law_1277 : decode code 1277 = .ok (.iinc 3 6, 3) := by decide +kernel
theorem dL_law_1280 : decode code 1280 = .ok (.goto (-1262), 3) := by decide +kernel
theorem dL_law_1283 : decode code 1283 = .ok (.iconst 1, 1) := by decide +kernel
theorem dL_law_1284 : decode code 1284 = .ok (.ireturn, 1) := by decide +kernel
