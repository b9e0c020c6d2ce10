/-! every instruction of the program stands in the tables (written by program) -/
set_option maxRecDepth 1000000 in
theorem ok_222 : (po_222.all (m_okA (yX12_outAt, cX12_outAt, 4, (some .int), 12, [], po_222))) = true := by decide +kernel
set_option maxRecDepth 1000000 in
theorem oy_222 : (m_okYi 118 1858 1857 84 (yX12_outAt, cX12_outAt, 4, (some .int), 12, [], po_222) && m_okH (yX12_outAt, cX12_outAt, 4, (some .int), 12, [], po_222)) = true := by decide +kernel
set_option maxRecDepth 1000000 in
theorem ok_223 : (po_223.all (m_okA (yX12_busyNow, cX12_busyNow, 3, (some .int), 12, [], po_223))) = true := by decide +kernel
set_option maxRecDepth 1000000 in
theorem oy_223 : (m_okYi 118 1862 1861 85 (yX12_busyNow, cX12_busyNow, 3, (some .int), 12, [], po_223) && m_okH (yX12_busyNow, cX12_busyNow, 3, (some .int), 12, [], po_223)) = true := by decide +kernel
set_option maxRecDepth 1000000 in
theorem ok_224 : (po_224.all (m_okA (yX12_told, cX12_told, 2, (some .int), 12, [], po_224))) = true := by decide +kernel
set_option maxRecDepth 1000000 in
theorem oy_224 : (m_okYi 118 1847 1845 1846 (yX12_told, cX12_told, 2, (some .int), 12, [], po_224) && m_okH (yX12_told, cX12_told, 2, (some .int), 12, [], po_224)) = true := by decide +kernel
set_option maxRecDepth 1000000 in
theorem ok_225 : (po_225.all (m_okA (yX12_isEgg, cX12_isEgg, 3, (some .boolean), 12, [], po_225))) = true := by decide +kernel
set_option maxRecDepth 1000000 in
theorem oy_225 : (m_okYi 118 1874 1873 87 (yX12_isEgg, cX12_isEgg, 3, (some .boolean), 12, [], po_225) && m_okH (yX12_isEgg, cX12_isEgg, 3, (some .boolean), 12, [], po_225)) = true := by decide +kernel
set_option maxRecDepth 1000000 in
theorem ok_226 : (po_226.all (m_okA (yX12_isHand, cX12_isHand, 3, (some .boolean), 12, [], po_226))) = true := by decide +kernel
set_option maxRecDepth 1000000 in
theorem oy_226 : (m_okYi 118 1882 1881 88 (yX12_isHand, cX12_isHand, 3, (some .boolean), 12, [], po_226) && m_okH (yX12_isHand, cX12_isHand, 3, (some .boolean), 12, [], po_226)) = true := by decide +kernel
set_option maxRecDepth 1000000 in
theorem ok_227 : (po_227.all (m_okA (yX12_isHole, cX12_isHole, 3, (some .boolean), 12, [], po_227))) = true := by decide +kernel
set_option maxRecDepth 1000000 in
theorem oy_227 : (m_okYi 118 1890 1889 89 (yX12_isHole, cX12_isHole, 3, (some .boolean), 12, [], po_227) && m_okH (yX12_isHole, cX12_isHole, 3, (some .boolean), 12, [], po_227)) = true := by decide +kernel
set_option maxRecDepth 1000000 in
theorem ok_228 : (po_228.all (m_okA (yX12_egg, cX12_egg, 3, (some .int), 12, [], po_228))) = true := by decide +kernel
set_option maxRecDepth 1000000 in
theorem oy_228 : (m_okYi 118 1870 1868 1869 (yX12_egg, cX12_egg, 3, (some .int), 12, [], po_228) && m_okH (yX12_egg, cX12_egg, 3, (some .int), 12, [], po_228)) = true := by decide +kernel
set_option maxRecDepth 1000000 in
theorem ok_229 : (po_229.all (m_okA (yX12_hand, cX12_hand, 3, (some .int), 12, [], po_229))) = true := by decide +kernel
set_option maxRecDepth 1000000 in
theorem oy_229 : (m_okYi 118 1878 1876 1877 (yX12_hand, cX12_hand, 3, (some .int), 12, [], po_229) && m_okH (yX12_hand, cX12_hand, 3, (some .int), 12, [], po_229)) = true := by decide +kernel
set_option maxRecDepth 1000000 in
theorem ok_230 : (po_230.all (m_okA (yX12_hole, cX12_hole, 3, (some .int), 12, [], po_230))) = true := by decide +kernel
set_option maxRecDepth 1000000 in
theorem oy_230 : (m_okYi 118 1886 1884 1885 (yX12_hole, cX12_hole, 3, (some .int), 12, [], po_230) && m_okH (yX12_hole, cX12_hole, 3, (some .int), 12, [], po_230)) = true := by decide +kernel
set_option maxRecDepth 1000000 in
theorem ok_231 : (po_231.all (m_okA (yX12_path, cX12_path, 3, (some .int), 12, [], po_231))) = true := by decide +kernel
set_option maxRecDepth 1000000 in
theorem oy_231 : (m_okYi 118 1894 1892 1893 (yX12_path, cX12_path, 3, (some .int), 12, [], po_231) && m_okH (yX12_path, cX12_path, 3, (some .int), 12, [], po_231)) = true := by decide +kernel
set_option maxRecDepth 1000000 in
theorem ok_232 : (po_232.all (m_okA (yX12_mend, cX12_mend, 4, (some .int), 12, [], po_232))) = true := by decide +kernel
set_option maxRecDepth 1000000 in
theorem oy_232 : (m_okYi 118 1898 1896 1897 (yX12_mend, cX12_mend, 4, (some .int), 12, [], po_232) && m_okH (yX12_mend, cX12_mend, 4, (some .int), 12, [], po_232)) = true := by decide +kernel
set_option maxRecDepth 1000000 in
theorem ok_233 : (po_233.all (m_okA (yX12_would, cX12_would, 9, (some .int), 12, [], po_233))) = true := by decide +kernel
set_option maxRecDepth 1000000 in
theorem oy_233 : (m_okYi 118 1902 1900 1901 (yX12_would, cX12_would, 9, (some .int), 12, [], po_233) && m_okH (yX12_would, cX12_would, 9, (some .int), 12, [], po_233)) = true := by decide +kernel
set_option maxRecDepth 1000000 in
theorem ok_234 : (po_234.all (m_okA (yX12_can, cX12_can, 4, (some .boolean), 12, [], po_234))) = true := by decide +kernel
set_option maxRecDepth 1000000 in
theorem oy_234 : (m_okYi 118 1906 1904 1905 (yX12_can, cX12_can, 4, (some .boolean), 12, [], po_234) && m_okH (yX12_can, cX12_can, 4, (some .boolean), 12, [], po_234)) = true := by decide +kernel
set_option maxRecDepth 1000000 in
theorem ok_235 : (po_235.all (m_okA (yX12_mendedNow, cX12_mendedNow, 3, (some .int), 12, [], po_235))) = true := by decide +kernel
set_option maxRecDepth 1000000 in
theorem oy_235 : (m_okYi 118 1914 1913 90 (yX12_mendedNow, cX12_mendedNow, 3, (some .int), 12, [], po_235) && m_okH (yX12_mendedNow, cX12_mendedNow, 3, (some .int), 12, [], po_235)) = true := by decide +kernel
set_option maxRecDepth 1000000 in
theorem ok_236 : (po_236.all (m_okA (yX12_ahead, cX12_ahead, 4, (some .int), 12, [], po_236))) = true := by decide +kernel
set_option maxRecDepth 1000000 in
theorem oy_236 : (m_okYi 118 1910 1908 1909 (yX12_ahead, cX12_ahead, 4, (some .int), 12, [], po_236) && m_okH (yX12_ahead, cX12_ahead, 4, (some .int), 12, [], po_236)) = true := by decide +kernel
set_option maxRecDepth 1000000 in
theorem ok_237 : (po_237.all (m_okA (yX12_whole, cX12_whole, 3, (some .int), 12, [], po_237))) = true := by decide +kernel
set_option maxRecDepth 1000000 in
theorem oy_237 : (m_okYi 118 1918 1916 1917 (yX12_whole, cX12_whole, 3, (some .int), 12, [], po_237) && m_okH (yX12_whole, cX12_whole, 3, (some .int), 12, [], po_237)) = true := by decide +kernel
set_option maxRecDepth 1000000 in
theorem ok_238 : (po_238.all (m_okA (yX12_goes, cX12_goes, 2, (some .int), 12, [], po_238))) = true := by decide +kernel
set_option maxRecDepth 1000000 in
theorem oy_238 : (m_okYi 118 1922 1920 1921 (yX12_goes, cX12_goes, 2, (some .int), 12, [], po_238) && m_okH (yX12_goes, cX12_goes, 2, (some .int), 12, [], po_238)) = true := by decide +kernel
set_option maxRecDepth 1000000 in
theorem ok_239 : (po_239.all (m_okA (yX12_findBest, cX12_findBest, 6, none, 12, [], po_239))) = true := by decide +kernel
set_option maxRecDepth 1000000 in
theorem oy_239 : (m_okYi 118 1930 1929 91 (yX12_findBest, cX12_findBest, 6, none, 12, [], po_239) && m_okH (yX12_findBest, cX12_findBest, 6, none, 12, [], po_239)) = true := by decide +kernel
set_option maxRecDepth 1000000 in
theorem ok_240 : (po_240.all (m_okA (yX12_takenBy, cX12_takenBy, 4, (some .int), 12, [], po_240))) = true := by decide +kernel
set_option maxRecDepth 1000000 in
theorem oy_240 : (m_okYi 118 1938 1937 93 (yX12_takenBy, cX12_takenBy, 4, (some .int), 12, [], po_240) && m_okH (yX12_takenBy, cX12_takenBy, 4, (some .int), 12, [], po_240)) = true := by decide +kernel
set_option maxRecDepth 1000000 in
theorem ok_241 : (po_241.all (m_okA (yX12_mayTake, cX12_mayTake, 5, (some .boolean), 12, [], po_241))) = true := by decide +kernel
set_option maxRecDepth 1000000 in
theorem oy_241 : (m_okYi 118 1934 1933 92 (yX12_mayTake, cX12_mayTake, 5, (some .boolean), 12, [], po_241) && m_okH (yX12_mayTake, cX12_mayTake, 5, (some .boolean), 12, [], po_241)) = true := by decide +kernel
set_option maxRecDepth 1000000 in
theorem ok_242 : (po_242.all (m_okA (yX12_best, cX12_best, 2, (some .int), 12, [], po_242))) = true := by decide +kernel
set_option maxRecDepth 1000000 in
theorem oy_242 : (m_okYi 118 1926 1924 1925 (yX12_best, cX12_best, 2, (some .int), 12, [], po_242) && m_okH (yX12_best, cX12_best, 2, (some .int), 12, [], po_242)) = true := by decide +kernel
set_option maxRecDepth 1000000 in
theorem ok_243 : (po_243.all (m_okA (yX12_given, cX12_given, 3, (some .int), 12, [], po_243))) = true := by decide +kernel
set_option maxRecDepth 1000000 in
theorem oy_243 : (m_okYi 118 1942 1940 1941 (yX12_given, cX12_given, 3, (some .int), 12, [], po_243) && m_okH (yX12_given, cX12_given, 3, (some .int), 12, [], po_243)) = true := by decide +kernel
set_option maxRecDepth 1000000 in
theorem ok_244 : (po_244.all (m_okA (yX12_worn, cX12_worn, 3, (some .int), 12, [], po_244))) = true := by decide +kernel
set_option maxRecDepth 1000000 in
theorem oy_244 : (m_okYi 118 1950 1949 94 (yX12_worn, cX12_worn, 3, (some .int), 12, [], po_244) && m_okH (yX12_worn, cX12_worn, 3, (some .int), 12, [], po_244)) = true := by decide +kernel
set_option maxRecDepth 1000000 in
theorem ok_245 : (po_245.all (m_okA (yX12_round, cX12_round, 9, (some .int), 12, [], po_245))) = true := by decide +kernel
set_option maxRecDepth 1000000 in
theorem oy_245 : (m_okYi 118 1946 1944 1945 (yX12_round, cX12_round, 9, (some .int), 12, [], po_245) && m_okH (yX12_round, cX12_round, 9, (some .int), 12, [], po_245)) = true := by decide +kernel
set_option maxRecDepth 1000000 in
theorem ok_246 : (po_246.all (m_okA (yX12_ones, cX12_ones, 3, (some .int), 112, [], po_246))) = true := by decide +kernel
set_option maxRecDepth 1000000 in
theorem oy_246 : (m_okYi 118 1961 1960 0 (yX12_ones, cX12_ones, 3, (some .int), 112, [], po_246) && m_okH (yX12_ones, cX12_ones, 3, (some .int), 112, [], po_246)) = true := by decide +kernel
set_option maxRecDepth 1000000 in
theorem ok_247 : (po_247.all (m_okA (yX12_nearTo, cX12_nearTo, 4, (some .int), 12, [], po_247))) = true := by decide +kernel
set_option maxRecDepth 1000000 in
theorem oy_247 : (m_okYi 118 1958 1957 95 (yX12_nearTo, cX12_nearTo, 4, (some .int), 12, [], po_247) && m_okH (yX12_nearTo, cX12_nearTo, 4, (some .int), 12, [], po_247)) = true := by decide +kernel
set_option maxRecDepth 1000000 in
theorem ok_248 : (po_248.all (m_okA (yX12_guards, cX12_guards, 3, (some .int), 12, [], po_248))) = true := by decide +kernel
set_option maxRecDepth 1000000 in
theorem oy_248 : (m_okYi 118 1954 1952 1953 (yX12_guards, cX12_guards, 3, (some .int), 12, [], po_248) && m_okH (yX12_guards, cX12_guards, 3, (some .int), 12, [], po_248)) = true := by decide +kernel
set_option maxRecDepth 1000000 in
theorem ok_249 : (po_249.all (m_okA (yX12_way, cX12_way, 5, (some .int), 12, [], po_249))) = true := by decide +kernel
set_option maxRecDepth 1000000 in
theorem oy_249 : (m_okYi 118 1965 1963 1964 (yX12_way, cX12_way, 5, (some .int), 12, [], po_249) && m_okH (yX12_way, cX12_way, 5, (some .int), 12, [], po_249)) = true := by decide +kernel
set_option maxRecDepth 1000000 in
theorem ok_250 : (po_250.all (m_okA (yX12_parts, cX12_parts, 6, (some .int), 12, [], po_250))) = true := by decide +kernel
set_option maxRecDepth 1000000 in
theorem oy_250 : (m_okYi 118 1969 1967 1968 (yX12_parts, cX12_parts, 6, (some .int), 12, [], po_250) && m_okH (yX12_parts, cX12_parts, 6, (some .int), 12, [], po_250)) = true := by decide +kernel
set_option maxRecDepth 1000000 in
theorem ok_251 : (po_251.all (m_okA (yX12_leaves, cX12_leaves, 4, (some .int), 12, [], po_251))) = true := by decide +kernel
set_option maxRecDepth 1000000 in
theorem oy_251 : (m_okYi 118 1981 1980 97 (yX12_leaves, cX12_leaves, 4, (some .int), 12, [], po_251) && m_okH (yX12_leaves, cX12_leaves, 4, (some .int), 12, [], po_251)) = true := by decide +kernel
set_option maxRecDepth 1000000 in
theorem ok_252 : (po_252.all (m_okA (yX12_isFit, cX12_isFit, 5, (some .boolean), 12, [], po_252))) = true := by decide +kernel
set_option maxRecDepth 1000000 in
theorem oy_252 : (m_okYi 118 1977 1976 96 (yX12_isFit, cX12_isFit, 5, (some .boolean), 12, [], po_252) && m_okH (yX12_isFit, cX12_isFit, 5, (some .boolean), 12, [], po_252)) = true := by decide +kernel
set_option maxRecDepth 1000000 in
theorem ok_253 : (po_253.all (m_okA (yX12_fits, cX12_fits, 6, (some .int), 12, [], po_253))) = true := by decide +kernel
set_option maxRecDepth 1000000 in
theorem oy_253 : (m_okYi 118 1973 1971 1972 (yX12_fits, cX12_fits, 6, (some .int), 12, [], po_253) && m_okH (yX12_fits, cX12_fits, 6, (some .int), 12, [], po_253)) = true := by decide +kernel
set_option maxRecDepth 1000000 in
theorem ok_254 : (po_254.all (m_okA (yX12_worstOf, cX12_worstOf, 6, (some .int), 12, [], po_254))) = true := by decide +kernel
set_option maxRecDepth 1000000 in
theorem oy_254 : (m_okYi 118 1989 1988 98 (yX12_worstOf, cX12_worstOf, 6, (some .int), 12, [], po_254) && m_okH (yX12_worstOf, cX12_worstOf, 6, (some .int), 12, [], po_254)) = true := by decide +kernel
set_option maxRecDepth 1000000 in
theorem ok_255 : (po_255.all (m_okA (yX12_look, cX12_look, 6, (some .int), 12, [], po_255))) = true := by decide +kernel
set_option maxRecDepth 1000000 in
theorem oy_255 : (m_okYi 118 1985 1983 1984 (yX12_look, cX12_look, 6, (some .int), 12, [], po_255) && m_okH (yX12_look, cX12_look, 6, (some .int), 12, [], po_255)) = true := by decide +kernel
set_option maxRecDepth 1000000 in
theorem ok_256 : (po_256.all (m_okA (yX12_least, cX12_least, 11, (some .long), 112, [], po_256))) = true := by decide +kernel
set_option maxRecDepth 1000000 in
theorem oy_256 : (m_okYi 118 1997 1996 0 (yX12_least, cX12_least, 11, (some .long), 112, [], po_256) && m_okH (yX12_least, cX12_least, 11, (some .long), 112, [], po_256)) = true := by decide +kernel
set_option maxRecDepth 1000000 in
theorem ok_257 : (po_257.all (m_okA (yX12_first, cX12_first, 9, (some .long), 12, [], po_257))) = true := by decide +kernel
set_option maxRecDepth 1000000 in
theorem oy_257 : (m_okYi 118 1993 1991 1992 (yX12_first, cX12_first, 9, (some .long), 12, [], po_257) && m_okH (yX12_first, cX12_first, 9, (some .long), 12, [], po_257)) = true := by decide +kernel
set_option maxRecDepth 1000000 in
theorem ok_258 : (po_258.all (m_okA (yX12_hasBy, cX12_hasBy, 4, (some .int), 112, [], po_258))) = true := by decide +kernel
set_option maxRecDepth 1000000 in
theorem oy_258 : (m_okYi 118 2004 2003 0 (yX12_hasBy, cX12_hasBy, 4, (some .int), 112, [], po_258) && m_okH (yX12_hasBy, cX12_hasBy, 4, (some .int), 112, [], po_258)) = true := by decide +kernel
set_option maxRecDepth 1000000 in
theorem ok_259 : (po_259.all (m_okA (yX12_ridge, cX12_ridge, 9, (some .int), 12, [], po_259))) = true := by decide +kernel
set_option maxRecDepth 1000000 in
theorem oy_259 : (m_okYi 118 2001 1999 2000 (yX12_ridge, cX12_ridge, 9, (some .int), 12, [], po_259) && m_okH (yX12_ridge, cX12_ridge, 9, (some .int), 12, [], po_259)) = true := by decide +kernel
set_option maxRecDepth 1000000 in
theorem ok_260 : (po_260.all (m_okA (yX12_woolBy, cX12_woolBy, 5, (some .int), 12, [], po_260))) = true := by decide +kernel
set_option maxRecDepth 1000000 in
theorem oy_260 : (m_okYi 118 2012 2011 99 (yX12_woolBy, cX12_woolBy, 5, (some .int), 12, [], po_260) && m_okH (yX12_woolBy, cX12_woolBy, 5, (some .int), 12, [], po_260)) = true := by decide +kernel
set_option maxRecDepth 1000000 in
theorem ok_261 : (po_261.all (m_okA (yX12_wool, cX12_wool, 5, (some .int), 12, [], po_261))) = true := by decide +kernel
set_option maxRecDepth 1000000 in
theorem oy_261 : (m_okYi 118 2008 2006 2007 (yX12_wool, cX12_wool, 5, (some .int), 12, [], po_261) && m_okH (yX12_wool, cX12_wool, 5, (some .int), 12, [], po_261)) = true := by decide +kernel
set_option maxRecDepth 1000000 in
theorem ok_262 : (po_262.all (m_okA (yX12_greatest, cX12_greatest, 5, (some .int), 12, [], po_262))) = true := by decide +kernel
set_option maxRecDepth 1000000 in
theorem oy_262 : (m_okYi 118 2020 2019 100 (yX12_greatest, cX12_greatest, 5, (some .int), 12, [], po_262) && m_okH (yX12_greatest, cX12_greatest, 5, (some .int), 12, [], po_262)) = true := by decide +kernel
set_option maxRecDepth 1000000 in
theorem ok_263 : (po_263.all (m_okA (yX12_worst, cX12_worst, 3, (some .int), 12, [], po_263))) = true := by decide +kernel
set_option maxRecDepth 1000000 in
theorem oy_263 : (m_okYi 118 2016 2014 2015 (yX12_worst, cX12_worst, 3, (some .int), 12, [], po_263) && m_okH (yX12_worst, cX12_worst, 3, (some .int), 12, [], po_263)) = true := by decide +kernel
set_option maxRecDepth 1000000 in
theorem ok_264 : (po_264.all (m_okA (yX12_ridges, cX12_ridges, 2, (some .int), 12, [], po_264))) = true := by decide +kernel
set_option maxRecDepth 1000000 in
theorem oy_264 : (m_okYi 118 2024 2022 2023 (yX12_ridges, cX12_ridges, 2, (some .int), 12, [], po_264) && m_okH (yX12_ridges, cX12_ridges, 2, (some .int), 12, [], po_264)) = true := by decide +kernel
set_option maxRecDepth 1000000 in
theorem ok_265 : (po_265.all (m_okA (yX12_draws, cX12_draws, 2, (some .int), 12, [], po_265))) = true := by decide +kernel
set_option maxRecDepth 1000000 in
theorem oy_265 : (m_okYi 118 2039 2038 102 (yX12_draws, cX12_draws, 2, (some .int), 12, [], po_265) && m_okH (yX12_draws, cX12_draws, 2, (some .int), 12, [], po_265)) = true := by decide +kernel
set_option maxRecDepth 1000000 in
theorem ok_266 : (po_266.all (m_okA (yX12_generationGoes, cX12_generationGoes, 9, none, 12, [], po_266))) = true := by decide +kernel
set_option maxRecDepth 1000000 in
theorem oy_266 : (m_okYi 118 2035 2034 101 (yX12_generationGoes, cX12_generationGoes, 9, none, 12, [], po_266) && m_okH (yX12_generationGoes, cX12_generationGoes, 9, none, 12, [], po_266)) = true := by decide +kernel
set_option maxRecDepth 1000000 in
theorem ok_267 : (po_267.all (m_okA (yX12_isGeneration, cX12_isGeneration, 2, (some .boolean), 112, [], po_267))) = true := by decide +kernel
set_option maxRecDepth 1000000 in
theorem oy_267 : (m_okYi 118 2031 2030 0 (yX12_isGeneration, cX12_isGeneration, 2, (some .boolean), 112, [], po_267) && m_okH (yX12_isGeneration, cX12_isGeneration, 2, (some .boolean), 112, [], po_267)) = true := by decide +kernel
