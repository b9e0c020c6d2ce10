/-! every instruction of the program stands in the tables (written by program) -/
set_option maxRecDepth 1000000 in
theorem ok_119 : (po_119.all (m_okA (yX11_hand, cX11_hand, 3, (some .int), 11, [], po_119))) = true := by decide +kernel
set_option maxRecDepth 1000000 in
theorem oy_119 : (m_okYi 106 1137 1135 1136 (yX11_hand, cX11_hand, 3, (some .int), 11, [], po_119) && m_okH (yX11_hand, cX11_hand, 3, (some .int), 11, [], po_119)) = true := by decide +kernel
set_option maxRecDepth 1000000 in
theorem ok_120 : (po_120.all (m_okA (yX11_hole, cX11_hole, 3, (some .int), 11, [], po_120))) = true := by decide +kernel
set_option maxRecDepth 1000000 in
theorem oy_120 : (m_okYi 106 1149 1147 1148 (yX11_hole, cX11_hole, 3, (some .int), 11, [], po_120) && m_okH (yX11_hole, cX11_hole, 3, (some .int), 11, [], po_120)) = true := by decide +kernel
set_option maxRecDepth 1000000 in
theorem ok_121 : (po_121.all (m_okA (yX11_path, cX11_path, 3, (some .int), 11, [], po_121))) = true := by decide +kernel
set_option maxRecDepth 1000000 in
theorem oy_121 : (m_okYi 106 1164 1162 1163 (yX11_path, cX11_path, 3, (some .int), 11, [], po_121) && m_okH (yX11_path, cX11_path, 3, (some .int), 11, [], po_121)) = true := by decide +kernel
set_option maxRecDepth 1000000 in
theorem ok_122 : (po_122.all (m_okA (yX11_mend, cX11_mend, 4, (some .int), 11, [], po_122))) = true := by decide +kernel
set_option maxRecDepth 1000000 in
theorem oy_122 : (m_okYi 106 1171 1169 1170 (yX11_mend, cX11_mend, 4, (some .int), 11, [], po_122) && m_okH (yX11_mend, cX11_mend, 4, (some .int), 11, [], po_122)) = true := by decide +kernel
set_option maxRecDepth 1000000 in
theorem ok_123 : (po_123.all (m_okA (yX11_would, cX11_would, 9, (some .int), 11, [], po_123))) = true := by decide +kernel
set_option maxRecDepth 1000000 in
theorem oy_123 : (m_okYi 106 1179 1177 1178 (yX11_would, cX11_would, 9, (some .int), 11, [], po_123) && m_okH (yX11_would, cX11_would, 9, (some .int), 11, [], po_123)) = true := by decide +kernel
set_option maxRecDepth 1000000 in
theorem ok_124 : (po_124.all (m_okA (yX11_can, cX11_can, 4, (some .boolean), 11, [], po_124))) = true := by decide +kernel
set_option maxRecDepth 1000000 in
theorem oy_124 : (m_okYi 106 1189 1187 1188 (yX11_can, cX11_can, 4, (some .boolean), 11, [], po_124) && m_okH (yX11_can, cX11_can, 4, (some .boolean), 11, [], po_124)) = true := by decide +kernel
set_option maxRecDepth 1000000 in
theorem ok_125 : (po_125.all (m_okA (yX11_ahead, cX11_ahead, 4, (some .int), 11, [], po_125))) = true := by decide +kernel
set_option maxRecDepth 1000000 in
theorem oy_125 : (m_okYi 106 1197 1195 1196 (yX11_ahead, cX11_ahead, 4, (some .int), 11, [], po_125) && m_okH (yX11_ahead, cX11_ahead, 4, (some .int), 11, [], po_125)) = true := by decide +kernel
set_option maxRecDepth 1000000 in
theorem ok_126 : (po_126.all (m_okA (yX11_whole, cX11_whole, 3, (some .int), 11, [], po_126))) = true := by decide +kernel
set_option maxRecDepth 1000000 in
theorem oy_126 : (m_okYi 106 1215 1213 1214 (yX11_whole, cX11_whole, 3, (some .int), 11, [], po_126) && m_okH (yX11_whole, cX11_whole, 3, (some .int), 11, [], po_126)) = true := by decide +kernel
set_option maxRecDepth 1000000 in
theorem ok_127 : (po_127.all (m_okA (yX11_best, cX11_best, 2, (some .int), 11, [], po_127))) = true := by decide +kernel
set_option maxRecDepth 1000000 in
theorem oy_127 : (m_okYi 106 1222 1220 1221 (yX11_best, cX11_best, 2, (some .int), 11, [], po_127) && m_okH (yX11_best, cX11_best, 2, (some .int), 11, [], po_127)) = true := by decide +kernel
set_option maxRecDepth 1000000 in
theorem ok_128 : (po_128.all (m_okA (yX11_given, cX11_given, 3, (some .int), 11, [], po_128))) = true := by decide +kernel
set_option maxRecDepth 1000000 in
theorem oy_128 : (m_okYi 106 1250 1248 1249 (yX11_given, cX11_given, 3, (some .int), 11, [], po_128) && m_okH (yX11_given, cX11_given, 3, (some .int), 11, [], po_128)) = true := by decide +kernel
set_option maxRecDepth 1000000 in
theorem ok_129 : (po_129.all (m_okA (yX11_round, cX11_round, 2, (some .int), 11, [], po_129))) = true := by decide +kernel
set_option maxRecDepth 1000000 in
theorem oy_129 : (m_okYi 106 1265 1263 1264 (yX11_round, cX11_round, 2, (some .int), 11, [], po_129) && m_okH (yX11_round, cX11_round, 2, (some .int), 11, [], po_129)) = true := by decide +kernel
set_option maxRecDepth 1000000 in
theorem ok_130 : (po_130.all (m_okA (yX11_guards, cX11_guards, 1, (some .int), 11, [], po_130))) = true := by decide +kernel
set_option maxRecDepth 1000000 in
theorem oy_130 : (m_okYi 106 556 554 555 (yX11_guards, cX11_guards, 1, (some .int), 11, [], po_130) && m_okH (yX11_guards, cX11_guards, 1, (some .int), 11, [], po_130)) = true := by decide +kernel
set_option maxRecDepth 1000000 in
theorem ok_131 : (po_131.all (m_okA (yX11_way, cX11_way, 3, (some .int), 11, [], po_131))) = true := by decide +kernel
set_option maxRecDepth 1000000 in
theorem oy_131 : (m_okYi 106 1280 1278 1279 (yX11_way, cX11_way, 3, (some .int), 11, [], po_131) && m_okH (yX11_way, cX11_way, 3, (some .int), 11, [], po_131)) = true := by decide +kernel
set_option maxRecDepth 1000000 in
theorem ok_132 : (po_132.all (m_okA (yX11_fits, cX11_fits, 2, (some .int), 11, [], po_132))) = true := by decide +kernel
set_option maxRecDepth 1000000 in
theorem oy_132 : (m_okYi 106 1287 1285 1286 (yX11_fits, cX11_fits, 2, (some .int), 11, [], po_132) && m_okH (yX11_fits, cX11_fits, 2, (some .int), 11, [], po_132)) = true := by decide +kernel
set_option maxRecDepth 1000000 in
theorem ok_133 : (po_133.all (m_okA (yX11_look, cX11_look, 2, (some .int), 11, [], po_133))) = true := by decide +kernel
set_option maxRecDepth 1000000 in
theorem oy_133 : (m_okYi 106 1310 1308 1309 (yX11_look, cX11_look, 2, (some .int), 11, [], po_133) && m_okH (yX11_look, cX11_look, 2, (some .int), 11, [], po_133)) = true := by decide +kernel
set_option maxRecDepth 1000000 in
theorem ok_134 : (po_134.all (m_okA (yX11_first, cX11_first, 9, (some .long), 11, [], po_134))) = true := by decide +kernel
set_option maxRecDepth 1000000 in
theorem oy_134 : (m_okYi 106 1326 1324 1325 (yX11_first, cX11_first, 9, (some .long), 11, [], po_134) && m_okH (yX11_first, cX11_first, 9, (some .long), 11, [], po_134)) = true := by decide +kernel
set_option maxRecDepth 1000000 in
theorem ok_135 : (po_135.all (m_okA (yX11_ridge, cX11_ridge, 10, (some .int), 11, [], po_135))) = true := by decide +kernel
set_option maxRecDepth 1000000 in
theorem oy_135 : (m_okYi 106 1335 1333 1334 (yX11_ridge, cX11_ridge, 10, (some .int), 11, [], po_135) && m_okH (yX11_ridge, cX11_ridge, 10, (some .int), 11, [], po_135)) = true := by decide +kernel
set_option maxRecDepth 1000000 in
theorem ok_136 : (po_136.all (m_okA (yX11_wool, cX11_wool, 4, (some .int), 11, [], po_136))) = true := by decide +kernel
set_option maxRecDepth 1000000 in
theorem oy_136 : (m_okYi 106 1348 1346 1347 (yX11_wool, cX11_wool, 4, (some .int), 11, [], po_136) && m_okH (yX11_wool, cX11_wool, 4, (some .int), 11, [], po_136)) = true := by decide +kernel
set_option maxRecDepth 1000000 in
theorem ok_137 : (po_137.all (m_okA (yX11_worst, cX11_worst, 3, (some .int), 11, [], po_137))) = true := by decide +kernel
set_option maxRecDepth 1000000 in
theorem oy_137 : (m_okYi 106 1359 1357 1358 (yX11_worst, cX11_worst, 3, (some .int), 11, [], po_137) && m_okH (yX11_worst, cX11_worst, 3, (some .int), 11, [], po_137)) = true := by decide +kernel
set_option maxRecDepth 1000000 in
theorem ok_138 : (po_138.all (m_okA (yX11_goes, cX11_goes, 2, (some .int), 11, [], po_138))) = true := by decide +kernel
set_option maxRecDepth 1000000 in
theorem oy_138 : (m_okYi 106 1367 1365 1366 (yX11_goes, cX11_goes, 2, (some .int), 11, [], po_138) && m_okH (yX11_goes, cX11_goes, 2, (some .int), 11, [], po_138)) = true := by decide +kernel
set_option maxRecDepth 1000000 in
theorem ok_139 : (po_139.all (m_okA (yX11_parts, cX11_parts, 1, (some .int), 11, [], po_139))) = true := by decide +kernel
set_option maxRecDepth 1000000 in
theorem oy_139 : (m_okYi 106 577 575 576 (yX11_parts, cX11_parts, 1, (some .int), 11, [], po_139) && m_okH (yX11_parts, cX11_parts, 1, (some .int), 11, [], po_139)) = true := by decide +kernel
set_option maxRecDepth 1000000 in
theorem ok_140 : (po_140.all (m_okA (yX11_ridges, cX11_ridges, 2, (some .int), 11, [], po_140))) = true := by decide +kernel
set_option maxRecDepth 1000000 in
theorem oy_140 : (m_okYi 106 1374 1372 1373 (yX11_ridges, cX11_ridges, 2, (some .int), 11, [], po_140) && m_okH (yX11_ridges, cX11_ridges, 2, (some .int), 11, [], po_140)) = true := by decide +kernel
set_option maxRecDepth 1000000 in
theorem ok_141 : (po_141.all (m_okA (yX11_generation, cX11_generation, 5, (some .int), 11, [], po_141))) = true := by decide +kernel
set_option maxRecDepth 1000000 in
theorem oy_141 : (m_okYi 106 1385 1383 1384 (yX11_generation, cX11_generation, 5, (some .int), 11, [], po_141) && m_okH (yX11_generation, cX11_generation, 5, (some .int), 11, [], po_141)) = true := by decide +kernel
set_option maxRecDepth 1000000 in
theorem ok_142 : (po_142.all (m_okA (yX11_span, cX11_span, 11, (some .int), 11, [], po_142))) = true := by decide +kernel
set_option maxRecDepth 1000000 in
theorem oy_142 : (m_okYi 106 1407 1405 1406 (yX11_span, cX11_span, 11, (some .int), 11, [], po_142) && m_okH (yX11_span, cX11_span, 11, (some .int), 11, [], po_142)) = true := by decide +kernel
set_option maxRecDepth 1000000 in
theorem ok_143 : (po_143.all (m_okA (yX11_image, cX11_image, 1, (some .int), 11, [], po_143))) = true := by decide +kernel
set_option maxRecDepth 1000000 in
theorem oy_143 : (m_okYi 106 588 586 587 (yX11_image, cX11_image, 1, (some .int), 11, [], po_143) && m_okH (yX11_image, cX11_image, 1, (some .int), 11, [], po_143)) = true := by decide +kernel
set_option maxRecDepth 1000000 in
theorem ok_144 : (po_144.all (m_okA (yX11_restore, cX11_restore, 1, (some .int), 11, [], po_144))) = true := by decide +kernel
set_option maxRecDepth 1000000 in
theorem oy_144 : (m_okYi 106 601 599 600 (yX11_restore, cX11_restore, 1, (some .int), 11, [], po_144) && m_okH (yX11_restore, cX11_restore, 1, (some .int), 11, [], po_144)) = true := by decide +kernel
set_option maxRecDepth 1000000 in
theorem ok_145 : (po_145.all (m_okA (yX11_status, cX11_status, 2, (some .int), 11, [], po_145))) = true := by decide +kernel
set_option maxRecDepth 1000000 in
theorem oy_145 : (m_okYi 106 609 607 608 (yX11_status, cX11_status, 2, (some .int), 11, [], po_145) && m_okH (yX11_status, cX11_status, 2, (some .int), 11, [], po_145)) = true := by decide +kernel
set_option maxRecDepth 1000000 in
theorem ok_146 : (po_146.all (m_okA (yX11_count, cX11_count, 2, (some .int), 11, [], po_146))) = true := by decide +kernel
set_option maxRecDepth 1000000 in
theorem oy_146 : (m_okYi 106 613 611 612 (yX11_count, cX11_count, 2, (some .int), 11, [], po_146) && m_okH (yX11_count, cX11_count, 2, (some .int), 11, [], po_146)) = true := by decide +kernel
set_option maxRecDepth 1000000 in
theorem ok_147 : (po_147.all (m_okA (yX11_takeText, cX11_takeText, 3, none, 11, [], po_147))) = true := by decide +kernel
set_option maxRecDepth 1000000 in
theorem oy_147 : (m_okYi 106 625 624 0 (yX11_takeText, cX11_takeText, 3, none, 11, [], po_147) && m_okH (yX11_takeText, cX11_takeText, 3, none, 11, [], po_147)) = true := by decide +kernel
set_option maxRecDepth 1000000 in
theorem ok_148 : (po_148.all (m_okA (yX11_faulted, cX11_faulted, 1, (some .int), 11, [], po_148))) = true := by decide +kernel
set_option maxRecDepth 1000000 in
theorem oy_148 : (m_okYi 106 827 826 9 (yX11_faulted, cX11_faulted, 1, (some .int), 11, [], po_148) && m_okH (yX11_faulted, cX11_faulted, 1, (some .int), 11, [], po_148)) = true := by decide +kernel
set_option maxRecDepth 1000000 in
theorem ok_149 : (po_149.all (m_okA (yX11_refuseElement, cX11_refuseElement, 1, (some .int), 11, [], po_149))) = true := by decide +kernel
set_option maxRecDepth 1000000 in
theorem oy_149 : (m_okYi 106 1113 1112 27 (yX11_refuseElement, cX11_refuseElement, 1, (some .int), 11, [], po_149) && m_okH (yX11_refuseElement, cX11_refuseElement, 1, (some .int), 11, [], po_149)) = true := by decide +kernel
set_option maxRecDepth 1000000 in
theorem ok_150 : (po_150.all (m_okA (yX11_refuseArgument, cX11_refuseArgument, 1, (some .int), 11, [], po_150))) = true := by decide +kernel
set_option maxRecDepth 1000000 in
theorem oy_150 : (m_okYi 106 636 635 2 (yX11_refuseArgument, cX11_refuseArgument, 1, (some .int), 11, [], po_150) && m_okH (yX11_refuseArgument, cX11_refuseArgument, 1, (some .int), 11, [], po_150)) = true := by decide +kernel
set_option maxRecDepth 1000000 in
theorem ok_151 : (po_151.all (m_okA (yX11_needEgg, cX11_needEgg, 2, none, 11, [], po_151))) = true := by decide +kernel
set_option maxRecDepth 1000000 in
theorem oy_151 : (m_okYi 106 1109 1108 26 (yX11_needEgg, cX11_needEgg, 2, none, 11, [], po_151) && m_okH (yX11_needEgg, cX11_needEgg, 2, none, 11, [], po_151)) = true := by decide +kernel
set_option maxRecDepth 1000000 in
theorem ok_152 : (po_152.all (m_okA (yX11_needHand, cX11_needHand, 2, none, 11, [], po_152))) = true := by decide +kernel
set_option maxRecDepth 1000000 in
theorem oy_152 : (m_okYi 106 1141 1140 28 (yX11_needHand, cX11_needHand, 2, none, 11, [], po_152) && m_okH (yX11_needHand, cX11_needHand, 2, none, 11, [], po_152)) = true := by decide +kernel
set_option maxRecDepth 1000000 in
theorem ok_153 : (po_153.all (m_okA (yX11_needHole, cX11_needHole, 2, none, 11, [], po_153))) = true := by decide +kernel
set_option maxRecDepth 1000000 in
theorem oy_153 : (m_okYi 106 1153 1152 29 (yX11_needHole, cX11_needHole, 2, none, 11, [], po_153) && m_okH (yX11_needHole, cX11_needHole, 2, none, 11, [], po_153)) = true := by decide +kernel
set_option maxRecDepth 1000000 in
theorem ok_154 : (po_154.all (m_okA (yX11_needBetween, cX11_needBetween, 4, none, 11, [], po_154))) = true := by decide +kernel
set_option maxRecDepth 1000000 in
theorem oy_154 : (m_okYi 106 632 631 1 (yX11_needBetween, cX11_needBetween, 4, none, 11, [], po_154) && m_okH (yX11_needBetween, cX11_needBetween, 4, none, 11, [], po_154)) = true := by decide +kernel
set_option maxRecDepth 1000000 in
theorem ok_155 : (po_155.all (m_okA (yX11_restsAt, cX11_restsAt, 4, (some .boolean), 111, [], po_155))) = true := by decide +kernel
set_option maxRecDepth 1000000 in
theorem oy_155 : (m_okYi 106 1338 1337 0 (yX11_restsAt, cX11_restsAt, 4, (some .boolean), 111, [], po_155) && m_okH (yX11_restsAt, cX11_restsAt, 4, (some .boolean), 111, [], po_155)) = true := by decide +kernel
set_option maxRecDepth 1000000 in
theorem ok_156 : (po_156.all (m_okA (yX11_hasBy, cX11_hasBy, 4, (some .int), 111, [], po_156))) = true := by decide +kernel
set_option maxRecDepth 1000000 in
theorem oy_156 : (m_okYi 106 1341 1340 0 (yX11_hasBy, cX11_hasBy, 4, (some .int), 111, [], po_156) && m_okH (yX11_hasBy, cX11_hasBy, 4, (some .int), 111, [], po_156)) = true := by decide +kernel
set_option maxRecDepth 1000000 in
theorem ok_157 : (po_157.all (m_okA (yX11_greatestBound, cX11_greatestBound, 6, (some .int), 11, [], po_157))) = true := by decide +kernel
set_option maxRecDepth 1000000 in
theorem oy_157 : (m_okYi 106 1352 1351 36 (yX11_greatestBound, cX11_greatestBound, 6, (some .int), 11, [], po_157) && m_okH (yX11_greatestBound, cX11_greatestBound, 6, (some .int), 11, [], po_157)) = true := by decide +kernel
set_option maxRecDepth 1000000 in
theorem ok_158 : (po_158.all (m_okA (yX11_live, cX11_live, 6, none, 11, [], po_158))) = true := by decide +kernel
set_option maxRecDepth 1000000 in
theorem oy_158 : (m_okYi 106 1389 1388 37 (yX11_live, cX11_live, 6, none, 11, [], po_158) && m_okH (yX11_live, cX11_live, 6, none, 11, [], po_158)) = true := by decide +kernel
set_option maxRecDepth 1000000 in
theorem ok_159 : (po_159.all (m_okA (yX11_liveOne, cX11_liveOne, 5, none, 11, [], po_159))) = true := by decide +kernel
set_option maxRecDepth 1000000 in
theorem oy_159 : (m_okYi 106 1393 1392 38 (yX11_liveOne, cX11_liveOne, 5, none, 11, [], po_159) && m_okH (yX11_liveOne, cX11_liveOne, 5, none, 11, [], po_159)) = true := by decide +kernel
set_option maxRecDepth 1000000 in
theorem ok_160 : (po_160.all (m_okA (yX12_thrown, cX12_thrown, 1, (some .int), 12, [], po_160))) = true := by decide +kernel
set_option maxRecDepth 1000000 in
theorem oy_160 : (m_okYi 118 1412 1410 1411 (yX12_thrown, cX12_thrown, 1, (some .int), 12, [], po_160) && m_okH (yX12_thrown, cX12_thrown, 1, (some .int), 12, [], po_160)) = true := by decide +kernel
set_option maxRecDepth 1000000 in
theorem ok_161 : (po_161.all (m_okA (yX12_may, cX12_may, 4, (some .boolean), 12, [], po_161))) = true := by decide +kernel
set_option maxRecDepth 1000000 in
theorem oy_161 : (m_okYi 118 1627 1626 42 (yX12_may, cX12_may, 4, (some .boolean), 12, [], po_161) && m_okH (yX12_may, cX12_may, 4, (some .boolean), 12, [], po_161)) = true := by decide +kernel
set_option maxRecDepth 1000000 in
theorem ok_162 : (po_162.all (m_okA (yX12_within, cX12_within, 3, (some .boolean), 112, [], po_162))) = true := by decide +kernel
set_option maxRecDepth 1000000 in
theorem oy_162 : (m_okYi 118 1850 1849 0 (yX12_within, cX12_within, 3, (some .boolean), 112, [], po_162) && m_okH (yX12_within, cX12_within, 3, (some .boolean), 112, [], po_162)) = true := by decide +kernel
set_option maxRecDepth 1000000 in
theorem ok_163 : (po_163.all (m_okA (yX12_init, cX12_init, 1, none, 12, [], po_163))) = true := by decide +kernel
set_option maxRecDepth 1000000 in
theorem oy_163 : (m_okYi 118 1417 1416 0 (yX12_init, cX12_init, 1, none, 12, [], po_163) && m_okH (yX12_init, cX12_init, 1, none, 12, [], po_163)) = true := by decide +kernel
set_option maxRecDepth 1000000 in
theorem ok_164 : (po_164.all (m_okA (yX12_feed, cX12_feed, 8, (some .int), 12, [], po_164))) = true := by decide +kernel
set_option maxRecDepth 1000000 in
theorem oy_164 : (m_okYi 118 1615 1613 1614 (yX12_feed, cX12_feed, 8, (some .int), 12, [], po_164) && m_okH (yX12_feed, cX12_feed, 8, (some .int), 12, [], po_164)) = true := by decide +kernel
set_option maxRecDepth 1000000 in
theorem ok_165 : (po_165.all (m_okA (yX12_fine, cX12_fine, 1, (some .boolean), 12, [], po_165))) = true := by decide +kernel
set_option maxRecDepth 1000000 in
theorem oy_165 : (m_okYi 118 1635 1634 44 (yX12_fine, cX12_fine, 1, (some .boolean), 12, [], po_165) && m_okH (yX12_fine, cX12_fine, 1, (some .boolean), 12, [], po_165)) = true := by decide +kernel
set_option maxRecDepth 1000000 in
theorem ok_166 : (po_166.all (m_okA (yX12_wrong, cX12_wrong, 3, none, 12, [], po_166))) = true := by decide +kernel
set_option maxRecDepth 1000000 in
theorem oy_166 : (m_okYi 118 1668 1667 48 (yX12_wrong, cX12_wrong, 3, none, 12, [], po_166) && m_okH (yX12_wrong, cX12_wrong, 3, none, 12, [], po_166)) = true := by decide +kernel
set_option maxRecDepth 1000000 in
theorem ok_167 : (po_167.all (m_okA (yX12_here, cX12_here, 1, (some .int), 12, [], po_167))) = true := by decide +kernel
set_option maxRecDepth 1000000 in
theorem oy_167 : (m_okYi 118 1643 1642 46 (yX12_here, cX12_here, 1, (some .int), 12, [], po_167) && m_okH (yX12_here, cX12_here, 1, (some .int), 12, [], po_167)) = true := by decide +kernel
set_option maxRecDepth 1000000 in
theorem ok_168 : (po_168.all (m_okA (yX12_isSmall, cX12_isSmall, 1, (some .boolean), 112, [], po_168))) = true := by decide +kernel
set_option maxRecDepth 1000000 in
theorem oy_168 : (m_okYi 118 1650 1649 0 (yX12_isSmall, cX12_isSmall, 1, (some .boolean), 112, [], po_168) && m_okH (yX12_isSmall, cX12_isSmall, 1, (some .boolean), 112, [], po_168)) = true := by decide +kernel
set_option maxRecDepth 1000000 in
theorem ok_169 : (po_169.all (m_okA (yX12_isDigit, cX12_isDigit, 1, (some .boolean), 112, [], po_169))) = true := by decide +kernel
set_option maxRecDepth 1000000 in
theorem oy_169 : (m_okYi 118 1687 1686 0 (yX12_isDigit, cX12_isDigit, 1, (some .boolean), 112, [], po_169) && m_okH (yX12_isDigit, cX12_isDigit, 1, (some .boolean), 112, [], po_169)) = true := by decide +kernel
set_option maxRecDepth 1000000 in
theorem ok_170 : (po_170.all (m_okA (yX12_word, cX12_word, 4, (some .int), 12, [], po_170))) = true := by decide +kernel
set_option maxRecDepth 1000000 in
theorem oy_170 : (m_okYi 118 1647 1646 47 (yX12_word, cX12_word, 4, (some .int), 12, [], po_170) && m_okH (yX12_word, cX12_word, 4, (some .int), 12, [], po_170)) = true := by decide +kernel
set_option maxRecDepth 1000000 in
theorem ok_171 : (po_171.all (m_okA (yX12_of, cX12_of, 3, (some .int), 112, [], po_171))) = true := by decide +kernel
set_option maxRecDepth 1000000 in
theorem oy_171 : (m_okYi 118 1657 1656 0 (yX12_of, cX12_of, 3, (some .int), 112, [], po_171) && m_okH (yX12_of, cX12_of, 3, (some .int), 112, [], po_171)) = true := by decide +kernel
set_option maxRecDepth 1000000 in
theorem ok_172 : (po_172.all (m_okA (yX12_pass, cX12_pass, 1, none, 12, [], po_172))) = true := by decide +kernel
set_option maxRecDepth 1000000 in
theorem oy_172 : (m_okYi 118 1676 1675 50 (yX12_pass, cX12_pass, 1, none, 12, [], po_172) && m_okH (yX12_pass, cX12_pass, 1, none, 12, [], po_172)) = true := by decide +kernel
set_option maxRecDepth 1000000 in
theorem ok_173 : (po_173.all (m_okA (yX12_readNumber, cX12_readNumber, 6, (some .int), 12, [], po_173))) = true := by decide +kernel
set_option maxRecDepth 1000000 in
theorem oy_173 : (m_okYi 118 1684 1683 52 (yX12_readNumber, cX12_readNumber, 6, (some .int), 12, [], po_173) && m_okH (yX12_readNumber, cX12_readNumber, 6, (some .int), 12, [], po_173)) = true := by decide +kernel
set_option maxRecDepth 1000000 in
theorem ok_174 : (po_174.all (m_okA (yX12_sign, cX12_sign, 2, none, 12, [], po_174))) = true := by decide +kernel
set_option maxRecDepth 1000000 in
theorem oy_174 : (m_okYi 118 1695 1694 54 (yX12_sign, cX12_sign, 2, none, 12, [], po_174) && m_okH (yX12_sign, cX12_sign, 2, none, 12, [], po_174)) = true := by decide +kernel
set_option maxRecDepth 1000000 in
theorem ok_175 : (po_175.all (m_okA (yX12_isMore, cX12_isMore, 1, (some .boolean), 12, [], po_175))) = true := by decide +kernel
set_option maxRecDepth 1000000 in
theorem oy_175 : (m_okYi 118 1639 1638 45 (yX12_isMore, cX12_isMore, 1, (some .boolean), 12, [], po_175) && m_okH (yX12_isMore, cX12_isMore, 1, (some .boolean), 12, [], po_175)) = true := by decide +kernel
set_option maxRecDepth 1000000 in
theorem ok_176 : (po_176.all (m_okA (yX12_begins, cX12_begins, 2, none, 12, [], po_176))) = true := by decide +kernel
set_option maxRecDepth 1000000 in
theorem oy_176 : (m_okYi 118 1631 1630 43 (yX12_begins, cX12_begins, 2, none, 12, [], po_176) && m_okH (yX12_begins, cX12_begins, 2, none, 12, [], po_176)) = true := by decide +kernel
set_option maxRecDepth 1000000 in
theorem ok_177 : (po_177.all (m_okA (yX12_result, cX12_result, 2, (some .int), 12, [], po_177))) = true := by decide +kernel
set_option maxRecDepth 1000000 in
theorem oy_177 : (m_okYi 118 1699 1698 55 (yX12_result, cX12_result, 2, (some .int), 12, [], po_177) && m_okH (yX12_result, cX12_result, 2, (some .int), 12, [], po_177)) = true := by decide +kernel
set_option maxRecDepth 1000000 in
theorem ok_178 : (po_178.all (m_okA (yX12_fault, cX12_fault, 1, (some .int), 12, [], po_178))) = true := by decide +kernel
set_option maxRecDepth 1000000 in
theorem oy_178 : (m_okYi 118 1619 1617 1618 (yX12_fault, cX12_fault, 1, (some .int), 12, [], po_178) && m_okH (yX12_fault, cX12_fault, 1, (some .int), 12, [], po_178)) = true := by decide +kernel
set_option maxRecDepth 1000000 in
theorem ok_179 : (po_179.all (m_okA (yX12_copies, cX12_copies, 5, none, 12, [], po_179))) = true := by decide +kernel
set_option maxRecDepth 1000000 in
theorem oy_179 : (m_okYi 118 1430 1429 41 (yX12_copies, cX12_copies, 5, none, 12, [], po_179) && m_okH (yX12_copies, cX12_copies, 5, none, 12, [], po_179)) = true := by decide +kernel
set_option maxRecDepth 1000000 in
theorem ok_180 : (po_180.all (m_okA (yX12_clears, cX12_clears, 1, none, 12, [], po_180))) = true := by decide +kernel
set_option maxRecDepth 1000000 in
theorem oy_180 : (m_okYi 118 1422 1421 39 (yX12_clears, cX12_clears, 1, none, 12, [], po_180) && m_okH (yX12_clears, cX12_clears, 1, none, 12, [], po_180)) = true := by decide +kernel
set_option maxRecDepth 1000000 in
theorem ok_181 : (po_181.all (m_okA (yX12_sets, cX12_sets, 2, none, 12, [], po_181))) = true := by decide +kernel
set_option maxRecDepth 1000000 in
theorem oy_181 : (m_okYi 118 1426 1425 40 (yX12_sets, cX12_sets, 2, none, 12, [], po_181) && m_okH (yX12_sets, cX12_sets, 2, none, 12, [], po_181)) = true := by decide +kernel
set_option maxRecDepth 1000000 in
theorem ok_182 : (po_182.all (m_okA (yX12_isRow, cX12_isRow, 1, (some .boolean), 112, [], po_182))) = true := by decide +kernel
set_option maxRecDepth 1000000 in
theorem oy_182 : (m_okYi 118 1653 1652 0 (yX12_isRow, cX12_isRow, 1, (some .boolean), 112, [], po_182) && m_okH (yX12_isRow, cX12_isRow, 1, (some .boolean), 112, [], po_182)) = true := by decide +kernel
set_option maxRecDepth 1000000 in
theorem ok_183 : (po_183.all (m_okA (yX12_isFull, cX12_isFull, 2, (some .boolean), 12, [], po_183))) = true := by decide +kernel
set_option maxRecDepth 1000000 in
theorem oy_183 : (m_okYi 118 1672 1671 49 (yX12_isFull, cX12_isFull, 2, (some .boolean), 12, [], po_183) && m_okH (yX12_isFull, cX12_isFull, 2, (some .boolean), 12, [], po_183)) = true := by decide +kernel
set_option maxRecDepth 1000000 in
theorem ok_184 : (po_184.all (m_okA (yX12_readPath, cX12_readPath, 5, none, 12, [], po_184))) = true := by decide +kernel
set_option maxRecDepth 1000000 in
theorem oy_184 : (m_okYi 118 1691 1690 53 (yX12_readPath, cX12_readPath, 5, none, 12, [], po_184) && m_okH (yX12_readPath, cX12_readPath, 5, none, 12, [], po_184)) = true := by decide +kernel
