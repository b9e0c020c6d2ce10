/-! every instruction of the program stands in the tables (written by program) -/
set_option maxRecDepth 1000000 in
theorem ok_268 : (po_268.all (m_okA (yX12_generation, cX12_generation, 5, (some .int), 12, [], po_268))) = true := by decide +kernel
set_option maxRecDepth 1000000 in
theorem oy_268 : (m_okYi 118 2028 2026 2027 (yX12_generation, cX12_generation, 5, (some .int), 12, [], po_268) && m_okH (yX12_generation, cX12_generation, 5, (some .int), 12, [], po_268)) = true := by decide +kernel
set_option maxRecDepth 1000000 in
theorem ok_269 : (po_269.all (m_okA (yX12_span, cX12_span, 11, (some .int), 12, [], po_269))) = true := by decide +kernel
set_option maxRecDepth 1000000 in
theorem oy_269 : (m_okYi 118 2044 2042 2043 (yX12_span, cX12_span, 11, (some .int), 12, [], po_269) && m_okH (yX12_span, cX12_span, 11, (some .int), 12, [], po_269)) = true := by decide +kernel
set_option maxRecDepth 1000000 in
theorem ok_270 : (po_270.all (m_okA (yX12_keepsRow, cX12_keepsRow, 6, (some .int), 12, [], po_270))) = true := by decide +kernel
set_option maxRecDepth 1000000 in
theorem oy_270 : (m_okYi 118 2056 2055 104 (yX12_keepsRow, cX12_keepsRow, 6, (some .int), 12, [], po_270) && m_okH (yX12_keepsRow, cX12_keepsRow, 6, (some .int), 12, [], po_270)) = true := by decide +kernel
set_option maxRecDepth 1000000 in
theorem ok_271 : (po_271.all (m_okA (yX12_keepsAll, cX12_keepsAll, 4, none, 12, [], po_271))) = true := by decide +kernel
set_option maxRecDepth 1000000 in
theorem oy_271 : (m_okYi 118 2052 2051 103 (yX12_keepsAll, cX12_keepsAll, 4, none, 12, [], po_271) && m_okH (yX12_keepsAll, cX12_keepsAll, 4, none, 12, [], po_271)) = true := by decide +kernel
set_option maxRecDepth 1000000 in
theorem ok_272 : (po_272.all (m_okA (yX12_image, cX12_image, 1, (some .int), 12, [], po_272))) = true := by decide +kernel
set_option maxRecDepth 1000000 in
theorem oy_272 : (m_okYi 118 2048 2046 2047 (yX12_image, cX12_image, 1, (some .int), 12, [], po_272) && m_okH (yX12_image, cX12_image, 1, (some .int), 12, [], po_272)) = true := by decide +kernel
set_option maxRecDepth 1000000 in
theorem ok_273 : (po_273.all (m_okA (yX12_restore, cX12_restore, 1, (some .int), 12, [], po_273))) = true := by decide +kernel
set_option maxRecDepth 1000000 in
theorem oy_273 : (m_okYi 118 2060 2058 2059 (yX12_restore, cX12_restore, 1, (some .int), 12, [], po_273) && m_okH (yX12_restore, cX12_restore, 1, (some .int), 12, [], po_273)) = true := by decide +kernel
set_option maxRecDepth 1000000 in
theorem ok_274 : (po_274.all (m_okA (yX12_status, cX12_status, 2, (some .int), 12, [], po_274))) = true := by decide +kernel
set_option maxRecDepth 1000000 in
theorem oy_274 : (m_okYi 118 2064 2062 2063 (yX12_status, cX12_status, 2, (some .int), 12, [], po_274) && m_okH (yX12_status, cX12_status, 2, (some .int), 12, [], po_274)) = true := by decide +kernel
set_option maxRecDepth 1000000 in
theorem ok_275 : (po_275.all (m_okA (yX12_count, cX12_count, 2, (some .int), 12, [], po_275))) = true := by decide +kernel
set_option maxRecDepth 1000000 in
theorem oy_275 : (m_okYi 118 2068 2066 2067 (yX12_count, cX12_count, 2, (some .int), 12, [], po_275) && m_okH (yX12_count, cX12_count, 2, (some .int), 12, [], po_275)) = true := by decide +kernel
set_option maxRecDepth 1000000 in
theorem ok_276 : (po_276.all (m_okA (yJ6_bitCount_0f7a4, cJ6_bitCount_0f7a4, 1, (some .int), 114, [], po_276))) = true := by decide +kernel
set_option maxRecDepth 1000000 in
theorem oy_276 : (m_okYi 130 567 566 0 (yJ6_bitCount_0f7a4, cJ6_bitCount_0f7a4, 1, (some .int), 114, [], po_276) && m_okH (yJ6_bitCount_0f7a4, cJ6_bitCount_0f7a4, 1, (some .int), 114, [], po_276)) = true := by decide +kernel
set_option maxRecDepth 1000000 in
theorem ok_277 : (po_277.all (m_okA (yL_village, cL_village, 4, (some .int), 113, [(0, 9, 2, 13, 12, 13)], po_277))) = true := by decide +kernel
set_option maxRecDepth 1000000 in
theorem oy_277 : (m_okYi 105 616 615 0 (yL_village, cL_village, 4, (some .int), 113, [(0, 9, 2, 13, 12, 13)], po_277) && m_okH (yL_village, cL_village, 4, (some .int), 113, [(0, 9, 2, 13, 12, 13)], po_277)) = true := by decide +kernel
set_option maxRecDepth 1000000 in
theorem ok_278 : (po_278.all (m_okA (yL_law, cL_law, 4, (some .int), 113, [(0, 9, 2, 13, 12, 13)], po_278))) = true := by decide +kernel
set_option maxRecDepth 1000000 in
theorem oy_278 : (m_okYi 105 851 850 0 (yL_law, cL_law, 4, (some .int), 113, [(0, 9, 2, 13, 12, 13)], po_278) && m_okH (yL_law, cL_law, 4, (some .int), 113, [(0, 9, 2, 13, 12, 13)], po_278)) = true := by decide +kernel
set_option maxRecDepth 1000000 in
theorem ok_279 : (po_279.all (m_okA (yL_work, cL_work, 4, (some .int), 113, [(0, 9, 2, 13, 12, 13)], po_279))) = true := by decide +kernel
set_option maxRecDepth 1000000 in
theorem oy_279 : (m_okYi 105 908 907 0 (yL_work, cL_work, 4, (some .int), 113, [(0, 9, 2, 13, 12, 13)], po_279) && m_okH (yL_work, cL_work, 4, (some .int), 113, [(0, 9, 2, 13, 12, 13)], po_279)) = true := by decide +kernel
set_option maxRecDepth 1000000 in
theorem ok_280 : (po_280.all (m_okA (yL_book, cL_book, 4, (some .int), 113, [(0, 9, 2, 13, 12, 13)], po_280))) = true := by decide +kernel
set_option maxRecDepth 1000000 in
theorem oy_280 : (m_okYi 105 1061 1060 0 (yL_book, cL_book, 4, (some .int), 113, [(0, 9, 2, 13, 12, 13)], po_280) && m_okH (yL_book, cL_book, 4, (some .int), 113, [(0, 9, 2, 13, 12, 13)], po_280)) = true := by decide +kernel
set_option maxRecDepth 1000000 in
theorem ok_281 : (po_281.all (m_okA (yL_told, cL_told, 4, (some .int), 113, [(0, 9, 2, 13, 12, 13)], po_281))) = true := by decide +kernel
set_option maxRecDepth 1000000 in
theorem oy_281 : (m_okYi 105 1081 1080 0 (yL_told, cL_told, 4, (some .int), 113, [(0, 9, 2, 13, 12, 13)], po_281) && m_okH (yL_told, cL_told, 4, (some .int), 113, [(0, 9, 2, 13, 12, 13)], po_281)) = true := by decide +kernel
set_option maxRecDepth 1000000 in
theorem ok_282 : (po_282.all (m_okA (yL_egg, cL_egg, 5, (some .int), 113, [(0, 10, 1, 15, 13, 31), (0, 10, 2, 19, 17, 13)], po_282))) = true := by decide +kernel
set_option maxRecDepth 1000000 in
theorem oy_282 : (m_okYi 105 1100 1099 0 (yL_egg, cL_egg, 5, (some .int), 113, [(0, 10, 1, 15, 13, 31), (0, 10, 2, 19, 17, 13)], po_282) && m_okH (yL_egg, cL_egg, 5, (some .int), 113, [(0, 10, 1, 15, 13, 31), (0, 10, 2, 19, 17, 13)], po_282)) = true := by decide +kernel
set_option maxRecDepth 1000000 in
theorem ok_283 : (po_283.all (m_okA (yL_hand, cL_hand, 5, (some .int), 113, [(0, 10, 1, 15, 13, 31), (0, 10, 2, 19, 17, 13)], po_283))) = true := by decide +kernel
set_option maxRecDepth 1000000 in
theorem oy_283 : (m_okYi 105 1133 1132 0 (yL_hand, cL_hand, 5, (some .int), 113, [(0, 10, 1, 15, 13, 31), (0, 10, 2, 19, 17, 13)], po_283) && m_okH (yL_hand, cL_hand, 5, (some .int), 113, [(0, 10, 1, 15, 13, 31), (0, 10, 2, 19, 17, 13)], po_283)) = true := by decide +kernel
set_option maxRecDepth 1000000 in
theorem ok_284 : (po_284.all (m_okA (yL_hole, cL_hole, 5, (some .int), 113, [(0, 10, 1, 15, 13, 31), (0, 10, 2, 19, 17, 13)], po_284))) = true := by decide +kernel
set_option maxRecDepth 1000000 in
theorem oy_284 : (m_okYi 105 1145 1144 0 (yL_hole, cL_hole, 5, (some .int), 113, [(0, 10, 1, 15, 13, 31), (0, 10, 2, 19, 17, 13)], po_284) && m_okH (yL_hole, cL_hole, 5, (some .int), 113, [(0, 10, 1, 15, 13, 31), (0, 10, 2, 19, 17, 13)], po_284)) = true := by decide +kernel
set_option maxRecDepth 1000000 in
theorem ok_285 : (po_285.all (m_okA (yL_path, cL_path, 5, (some .int), 113, [(0, 10, 1, 15, 13, 31), (0, 10, 2, 19, 17, 13)], po_285))) = true := by decide +kernel
set_option maxRecDepth 1000000 in
theorem oy_285 : (m_okYi 105 1160 1159 0 (yL_path, cL_path, 5, (some .int), 113, [(0, 10, 1, 15, 13, 31), (0, 10, 2, 19, 17, 13)], po_285) && m_okH (yL_path, cL_path, 5, (some .int), 113, [(0, 10, 1, 15, 13, 31), (0, 10, 2, 19, 17, 13)], po_285)) = true := by decide +kernel
set_option maxRecDepth 1000000 in
theorem ok_286 : (po_286.all (m_okA (yL_mend, cL_mend, 6, (some .int), 113, [(0, 12, 1, 17, 15, 31)], po_286))) = true := by decide +kernel
set_option maxRecDepth 1000000 in
theorem oy_286 : (m_okYi 105 1167 1166 0 (yL_mend, cL_mend, 6, (some .int), 113, [(0, 12, 1, 17, 15, 31)], po_286) && m_okH (yL_mend, cL_mend, 6, (some .int), 113, [(0, 12, 1, 17, 15, 31)], po_286)) = true := by decide +kernel
set_option maxRecDepth 1000000 in
theorem ok_287 : (po_287.all (m_okA (yL_would, cL_would, 11, (some .int), 113, [(0, 22, 2, 27, 25, 13)], po_287))) = true := by decide +kernel
set_option maxRecDepth 1000000 in
theorem oy_287 : (m_okYi 105 1175 1174 0 (yL_would, cL_would, 11, (some .int), 113, [(0, 22, 2, 27, 25, 13)], po_287) && m_okH (yL_would, cL_would, 11, (some .int), 113, [(0, 22, 2, 27, 25, 13)], po_287)) = true := by decide +kernel
set_option maxRecDepth 1000000 in
theorem ok_288 : (po_288.all (m_okA (yL_can, cL_can, 6, (some .int), 113, [(0, 19, 1, 24, 22, 31)], po_288))) = true := by decide +kernel
set_option maxRecDepth 1000000 in
theorem oy_288 : (m_okYi 105 1185 1184 0 (yL_can, cL_can, 6, (some .int), 113, [(0, 19, 1, 24, 22, 31)], po_288) && m_okH (yL_can, cL_can, 6, (some .int), 113, [(0, 19, 1, 24, 22, 31)], po_288)) = true := by decide +kernel
set_option maxRecDepth 1000000 in
theorem ok_289 : (po_289.all (m_okA (yL_ahead, cL_ahead, 5, (some .int), 113, [(0, 10, 2, 15, 13, 13)], po_289))) = true := by decide +kernel
set_option maxRecDepth 1000000 in
theorem oy_289 : (m_okYi 105 1193 1192 0 (yL_ahead, cL_ahead, 5, (some .int), 113, [(0, 10, 2, 15, 13, 13)], po_289) && m_okH (yL_ahead, cL_ahead, 5, (some .int), 113, [(0, 10, 2, 15, 13, 13)], po_289)) = true := by decide +kernel
set_option maxRecDepth 1000000 in
theorem ok_290 : (po_290.all (m_okA (yL_whole, cL_whole, 4, (some .int), 113, [(0, 9, 1, 13, 12, 31)], po_290))) = true := by decide +kernel
set_option maxRecDepth 1000000 in
theorem oy_290 : (m_okYi 105 1211 1210 0 (yL_whole, cL_whole, 4, (some .int), 113, [(0, 9, 1, 13, 12, 31)], po_290) && m_okH (yL_whole, cL_whole, 4, (some .int), 113, [(0, 9, 1, 13, 12, 31)], po_290)) = true := by decide +kernel
set_option maxRecDepth 1000000 in
theorem ok_291 : (po_291.all (m_okA (yL_best, cL_best, 4, (some .int), 113, [(0, 9, 1, 13, 12, 31)], po_291))) = true := by decide +kernel
set_option maxRecDepth 1000000 in
theorem oy_291 : (m_okYi 105 1218 1217 0 (yL_best, cL_best, 4, (some .int), 113, [(0, 9, 1, 13, 12, 31)], po_291) && m_okH (yL_best, cL_best, 4, (some .int), 113, [(0, 9, 1, 13, 12, 31)], po_291)) = true := by decide +kernel
set_option maxRecDepth 1000000 in
theorem ok_292 : (po_292.all (m_okA (yL_given, cL_given, 5, (some .int), 113, [(0, 10, 1, 15, 13, 31)], po_292))) = true := by decide +kernel
set_option maxRecDepth 1000000 in
theorem oy_292 : (m_okYi 105 1246 1245 0 (yL_given, cL_given, 5, (some .int), 113, [(0, 10, 1, 15, 13, 31)], po_292) && m_okH (yL_given, cL_given, 5, (some .int), 113, [(0, 10, 1, 15, 13, 31)], po_292)) = true := by decide +kernel
set_option maxRecDepth 1000000 in
theorem ok_293 : (po_293.all (m_okA (yL_round, cL_round, 4, (some .int), 113, [(0, 9, 1, 13, 12, 31)], po_293))) = true := by decide +kernel
set_option maxRecDepth 1000000 in
theorem oy_293 : (m_okYi 105 1261 1260 0 (yL_round, cL_round, 4, (some .int), 113, [(0, 9, 1, 13, 12, 31)], po_293) && m_okH (yL_round, cL_round, 4, (some .int), 113, [(0, 9, 1, 13, 12, 31)], po_293)) = true := by decide +kernel
set_option maxRecDepth 1000000 in
theorem ok_294 : (po_294.all (m_okA (yL_way, cL_way, 5, (some .int), 113, [(0, 10, 1, 15, 13, 31)], po_294))) = true := by decide +kernel
set_option maxRecDepth 1000000 in
theorem oy_294 : (m_okYi 105 1276 1275 0 (yL_way, cL_way, 5, (some .int), 113, [(0, 10, 1, 15, 13, 31)], po_294) && m_okH (yL_way, cL_way, 5, (some .int), 113, [(0, 10, 1, 15, 13, 31)], po_294)) = true := by decide +kernel
set_option maxRecDepth 1000000 in
theorem ok_295 : (po_295.all (m_okA (yL_fits, cL_fits, 4, (some .int), 113, [(0, 9, 2, 13, 12, 13)], po_295))) = true := by decide +kernel
set_option maxRecDepth 1000000 in
theorem oy_295 : (m_okYi 105 1283 1282 0 (yL_fits, cL_fits, 4, (some .int), 113, [(0, 9, 2, 13, 12, 13)], po_295) && m_okH (yL_fits, cL_fits, 4, (some .int), 113, [(0, 9, 2, 13, 12, 13)], po_295)) = true := by decide +kernel
set_option maxRecDepth 1000000 in
theorem ok_296 : (po_296.all (m_okA (yL_look, cL_look, 4, (some .int), 113, [(0, 9, 2, 13, 12, 13)], po_296))) = true := by decide +kernel
set_option maxRecDepth 1000000 in
theorem oy_296 : (m_okYi 105 1306 1305 0 (yL_look, cL_look, 4, (some .int), 113, [(0, 9, 2, 13, 12, 13)], po_296) && m_okH (yL_look, cL_look, 4, (some .int), 113, [(0, 9, 2, 13, 12, 13)], po_296)) = true := by decide +kernel
set_option maxRecDepth 1000000 in
theorem ok_297 : (po_297.all (m_okA (yL_first, cL_first, 6, (some .int), 113, [(0, 11, 2, 16, 14, 13)], po_297))) = true := by decide +kernel
set_option maxRecDepth 1000000 in
theorem oy_297 : (m_okYi 105 1322 1321 0 (yL_first, cL_first, 6, (some .int), 113, [(0, 11, 2, 16, 14, 13)], po_297) && m_okH (yL_first, cL_first, 6, (some .int), 113, [(0, 11, 2, 16, 14, 13)], po_297)) = true := by decide +kernel
set_option maxRecDepth 1000000 in
theorem ok_298 : (po_298.all (m_okA (yL_ridge, cL_ridge, 6, (some .int), 113, [(0, 12, 2, 17, 15, 13)], po_298))) = true := by decide +kernel
set_option maxRecDepth 1000000 in
theorem oy_298 : (m_okYi 105 1331 1330 0 (yL_ridge, cL_ridge, 6, (some .int), 113, [(0, 12, 2, 17, 15, 13)], po_298) && m_okH (yL_ridge, cL_ridge, 6, (some .int), 113, [(0, 12, 2, 17, 15, 13)], po_298)) = true := by decide +kernel
set_option maxRecDepth 1000000 in
theorem ok_299 : (po_299.all (m_okA (yL_wool, cL_wool, 6, (some .int), 113, [(0, 12, 1, 17, 15, 31), (0, 12, 2, 21, 19, 13)], po_299))) = true := by decide +kernel
set_option maxRecDepth 1000000 in
theorem oy_299 : (m_okYi 105 1344 1343 0 (yL_wool, cL_wool, 6, (some .int), 113, [(0, 12, 1, 17, 15, 31), (0, 12, 2, 21, 19, 13)], po_299) && m_okH (yL_wool, cL_wool, 6, (some .int), 113, [(0, 12, 1, 17, 15, 31), (0, 12, 2, 21, 19, 13)], po_299)) = true := by decide +kernel
set_option maxRecDepth 1000000 in
theorem ok_300 : (po_300.all (m_okA (yL_worst, cL_worst, 4, (some .int), 113, [(0, 9, 2, 13, 12, 13)], po_300))) = true := by decide +kernel
set_option maxRecDepth 1000000 in
theorem oy_300 : (m_okYi 105 1355 1354 0 (yL_worst, cL_worst, 4, (some .int), 113, [(0, 9, 2, 13, 12, 13)], po_300) && m_okH (yL_worst, cL_worst, 4, (some .int), 113, [(0, 9, 2, 13, 12, 13)], po_300)) = true := by decide +kernel
set_option maxRecDepth 1000000 in
theorem ok_301 : (po_301.all (m_okA (yL_goes, cL_goes, 4, (some .int), 113, [(0, 9, 1, 13, 12, 31)], po_301))) = true := by decide +kernel
set_option maxRecDepth 1000000 in
theorem oy_301 : (m_okYi 105 1363 1362 0 (yL_goes, cL_goes, 4, (some .int), 113, [(0, 9, 1, 13, 12, 31)], po_301) && m_okH (yL_goes, cL_goes, 4, (some .int), 113, [(0, 9, 1, 13, 12, 31)], po_301)) = true := by decide +kernel
set_option maxRecDepth 1000000 in
theorem ok_302 : (po_302.all (m_okA (yL_ridges, cL_ridges, 4, (some .int), 113, [(0, 9, 2, 13, 12, 13)], po_302))) = true := by decide +kernel
set_option maxRecDepth 1000000 in
theorem oy_302 : (m_okYi 105 1370 1369 0 (yL_ridges, cL_ridges, 4, (some .int), 113, [(0, 9, 2, 13, 12, 13)], po_302) && m_okH (yL_ridges, cL_ridges, 4, (some .int), 113, [(0, 9, 2, 13, 12, 13)], po_302)) = true := by decide +kernel
set_option maxRecDepth 1000000 in
theorem ok_303 : (po_303.all (m_okA (yL_generation, cL_generation, 7, (some .int), 113, [(0, 14, 2, 19, 17, 13)], po_303))) = true := by decide +kernel
set_option maxRecDepth 1000000 in
theorem oy_303 : (m_okYi 105 1381 1380 0 (yL_generation, cL_generation, 7, (some .int), 113, [(0, 14, 2, 19, 17, 13)], po_303) && m_okH (yL_generation, cL_generation, 7, (some .int), 113, [(0, 14, 2, 19, 17, 13)], po_303)) = true := by decide +kernel
set_option maxRecDepth 1000000 in
theorem ok_304 : (po_304.all (m_okA (yL_span, cL_span, 8, (some .int), 113, [(0, 16, 2, 21, 19, 13)], po_304))) = true := by decide +kernel
set_option maxRecDepth 1000000 in
theorem oy_304 : (m_okYi 105 1403 1402 0 (yL_span, cL_span, 8, (some .int), 113, [(0, 16, 2, 21, 19, 13)], po_304) && m_okH (yL_span, cL_span, 8, (some .int), 113, [(0, 16, 2, 21, 19, 13)], po_304)) = true := by decide +kernel
