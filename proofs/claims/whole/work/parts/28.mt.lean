/-! the rows of the program, the cells and references by name (written by program) -/
theorem mt_0 : mP[0]? = some (yX0_init, cX0_init, 1, none, 0, [], po_0) := by rfl
theorem mt_1 : mP[1]? = some (yX0_forget, cX0_forget, 1, none, 0, [], po_1) := by rfl
theorem mt_2 : mP[2]? = some (yX0_read, cX0_read, 4, (some .boolean), 0, [], po_2) := by rfl
theorem mt_3 : mP[3]? = some (yX0_readLine, cX0_readLine, 4, (some .boolean), 0, [], po_3) := by rfl
theorem mt_4 : mP[4]? = some (yX0_findPairs, cX0_findPairs, 7, none, 0, [], po_4) := by rfl
theorem mt_5 : mP[5]? = some (yX0_isFit, cX0_isFit, 7, (some .boolean), 0, [], po_5) := by rfl
theorem mt_6 : mP[6]? = some (yX0_firstPair, cX0_firstPair, 2, (some .int), 0, [], po_6) := by rfl
theorem mt_7 : mP[7]? = some (yX0_findLook, cX0_findLook, 6, none, 0, [], po_7) := by rfl
theorem mt_8 : mP[8]? = some (yX0_mostLeftBy, cX0_mostLeftBy, 8, (some .int), 0, [], po_8) := by rfl
theorem mt_9 : mP[9]? = some (yX1_init, cX1_init, 1, none, 1, [], po_9) := by rfl
theorem mt_10 : mP[10]? = some (yX1_settle, cX1_settle, 8, none, 1, [], po_10) := by rfl
theorem mt_11 : mP[11]? = some (yX1_mostFrom, cX1_mostFrom, 7, (some .int), 1, [], po_11) := by rfl
theorem mt_12 : mP[12]? = some (yX1_takenBy, cX1_takenBy, 4, (some .int), 1, [], po_12) := by rfl
theorem mt_13 : mP[13]? = some (yX1_taken, cX1_taken, 1, (some .int), 1, [], po_13) := by rfl
theorem mt_14 : mP[14]? = some (yX1_holeOf, cX1_holeOf, 7, (some .int), 1, [], po_14) := by rfl
theorem mt_15 : mP[15]? = some (yX1_firstHole, cX1_firstHole, 6, (some .int), 1, [], po_15) := by rfl
theorem mt_16 : mP[16]? = some (yX2_init, cX2_init, 2, none, 2, [], po_16) := by rfl
theorem mt_17 : mP[17]? = some (yX2_forget, cX2_forget, 1, none, 2, [], po_17) := by rfl
theorem mt_18 : mP[18]? = some (yX2_push, cX2_push, 3, (some .int), 2, [], po_18) := by rfl
theorem mt_19 : mP[19]? = some (yX2_pop, cX2_pop, 3, (some .boolean), 2, [], po_19) := by rfl
theorem mt_20 : mP[20]? = some (yX3_init, cX3_init, 1, none, 3, [], po_20) := by rfl
theorem mt_21 : mP[21]? = some (yX3_forget, cX3_forget, 1, none, 3, [], po_21) := by rfl
theorem mt_22 : mP[22]? = some (yX3_read, cX3_read, 2, (some .boolean), 3, [], po_22) := by rfl
theorem mt_23 : mP[23]? = some (yX3_readSum, cX3_readSum, 5, (some .boolean), 3, [], po_23) := by rfl
theorem mt_24 : mP[24]? = some (yX3_readProduct, cX3_readProduct, 5, (some .boolean), 3, [], po_24) := by rfl
theorem mt_25 : mP[25]? = some (yX3_readUnit, cX3_readUnit, 4, (some .boolean), 3, [], po_25) := by rfl
theorem mt_26 : mP[26]? = some (yX3_readNested, cX3_readNested, 3, (some .boolean), 3, [], po_26) := by rfl
theorem mt_27 : mP[27]? = some (yX3_readChoice, cX3_readChoice, 4, (some .boolean), 3, [], po_27) := by rfl
theorem mt_28 : mP[28]? = some (yX3_factOf, cX3_factOf, 1, (some .int), 103, [], po_28) := by rfl
theorem mt_29 : mP[29]? = some (yX3_put, cX3_put, 2, (some .boolean), 3, [], po_29) := by rfl
theorem mt_30 : mP[30]? = some (yX3_setThings, cX3_setThings, 5, none, 3, [], po_30) := by rfl
theorem mt_31 : mP[31]? = some (yX3_setPlace, cX3_setPlace, 5, none, 3, [], po_31) := by rfl
theorem mt_32 : mP[32]? = some (yX3_mends, cX3_mends, 4, (some .int), 3, [], po_32) := by rfl
theorem mt_33 : mP[33]? = some (yX3_valueOf, cX3_valueOf, 3, (some .int), 103, [], po_33) := by rfl
theorem mt_34 : mP[34]? = some (yX4_init, cX4_init, 2, none, 4, [], po_34) := by rfl
theorem mt_35 : mP[35]? = some (yX4_forget, cX4_forget, 1, none, 4, [], po_35) := by rfl
theorem mt_36 : mP[36]? = some (yX4_isFull, cX4_isFull, 1, (some .boolean), 4, [], po_36) := by rfl
theorem mt_37 : mP[37]? = some (yX4_push, cX4_push, 2, none, 4, [], po_37) := by rfl
theorem mt_38 : mP[38]? = some (yX4_pop, cX4_pop, 2, (some .boolean), 4, [], po_38) := by rfl
theorem mt_39 : mP[39]? = some (yX4_copy, cX4_copy, 3, none, 4, [], po_39) := by rfl
theorem mt_40 : mP[40]? = some (yX5_init, cX5_init, 1, none, 5, [], po_40) := by rfl
theorem mt_41 : mP[41]? = some (yX5_draw, cX5_draw, 2, (some .int), 5, [], po_41) := by rfl
theorem mt_42 : mP[42]? = some (yX6_init, cX6_init, 2, none, 6, [], po_42) := by rfl
theorem mt_43 : mP[43]? = some (yX6_start, cX6_start, 3, none, 6, [], po_43) := by rfl
theorem mt_44 : mP[44]? = some (yX6_copy, cX6_copy, 2, none, 6, [], po_44) := by rfl
theorem mt_45 : mP[45]? = some (yX6_isHatched, cX6_isHatched, 3, (some .boolean), 6, [], po_45) := by rfl
theorem mt_46 : mP[46]? = some (yX6_isHooked, cX6_isHooked, 2, (some .boolean), 6, [], po_46) := by rfl
theorem mt_47 : mP[47]? = some (yX6_darnedToday, cX6_darnedToday, 2, (some .boolean), 6, [], po_47) := by rfl
theorem mt_48 : mP[48]? = some (yX6_mendBy, cX6_mendBy, 6, (some .int), 6, [], po_48) := by rfl
theorem mt_49 : mP[49]? = some (yX6_wearLeft, cX6_wearLeft, 6, (some .int), 6, [], po_49) := by rfl
theorem mt_50 : mP[50]? = some (yX6_canDarn, cX6_canDarn, 5, (some .boolean), 6, [], po_50) := by rfl
theorem mt_51 : mP[51]? = some (yX6_darn, cX6_darn, 8, (some .boolean), 6, [], po_51) := by rfl
theorem mt_52 : mP[52]? = some (yX6_letOut, cX6_letOut, 4, (some .boolean), 6, [], po_52) := by rfl
theorem mt_53 : mP[53]? = some (yX6_callIn, cX6_callIn, 2, (some .boolean), 6, [], po_53) := by rfl
theorem mt_54 : mP[54]? = some (yX6_unpick, cX6_unpick, 3, (some .boolean), 6, [], po_54) := by rfl
theorem mt_55 : mP[55]? = some (yX6_shear, cX6_shear, 2, (some .boolean), 6, [], po_55) := by rfl
theorem mt_56 : mP[56]? = some (yX6_endDay, cX6_endDay, 2, (some .boolean), 6, [], po_56) := by rfl
theorem mt_57 : mP[57]? = some (yX6_passDay, cX6_passDay, 3, none, 6, [], po_57) := by rfl
theorem mt_58 : mP[58]? = some (yX6_doItsPart, cX6_doItsPart, 5, none, 6, [], po_58) := by rfl
theorem mt_59 : mP[59]? = some (yX6_mostWorn, cX6_mostWorn, 6, (some .int), 6, [], po_59) := by rfl
theorem mt_60 : mP[60]? = some (yX6_mostRidged, cX6_mostRidged, 5, (some .int), 6, [], po_60) := by rfl
theorem mt_61 : mP[61]? = some (yX6_allWear, cX6_allWear, 4, (some .int), 6, [], po_61) := by rfl
theorem mt_62 : mP[62]? = some (yX6_allRidges, cX6_allRidges, 4, (some .int), 6, [], po_62) := by rfl
theorem mt_63 : mP[63]? = some (yX6_wornHoles, cX6_wornHoles, 4, (some .int), 6, [], po_63) := by rfl
theorem mt_64 : mP[64]? = some (yX6_wholeHoles, cX6_wholeHoles, 2, (some .int), 6, [], po_64) := by rfl
theorem mt_65 : mP[65]? = some (yX6_hatchedEggs, cX6_hatchedEggs, 4, (some .int), 6, [], po_65) := by rfl
theorem mt_66 : mP[66]? = some (yX6_eggsOut, cX6_eggsOut, 4, (some .int), 6, [], po_66) := by rfl
theorem mt_67 : mP[67]? = some (yX6_eggsOutAt, cX6_eggsOutAt, 5, (some .int), 6, [], po_67) := by rfl
theorem mt_68 : mP[68]? = some (yX7_init, cX7_init, 1, none, 7, [], po_68) := by rfl
theorem mt_69 : mP[69]? = some (yX7_read, cX7_read, 3, (some .boolean), 7, [], po_69) := by rfl
theorem mt_70 : mP[70]? = some (yX7_readSteps, cX7_readSteps, 5, (some .boolean), 7, [], po_70) := by rfl
theorem mt_71 : mP[71]? = some (yX7_readStep, cX7_readStep, 6, (some .boolean), 7, [], po_71) := by rfl
theorem mt_72 : mP[72]? = some (yX7_kindOf, cX7_kindOf, 1, (some .int), 107, [], po_72) := by rfl
theorem mt_73 : mP[73]? = some (yX7_readAgain, cX7_readAgain, 6, (some .boolean), 7, [], po_73) := by rfl
theorem mt_74 : mP[74]? = some (yX7_readInto, cX7_readInto, 5, (some .boolean), 107, [], po_74) := by rfl
theorem mt_75 : mP[75]? = some (yX7_put, cX7_put, 3, (some .int), 7, [], po_75) := by rfl
theorem mt_76 : mP[76]? = some (yX7_run, cX7_run, 7, none, 7, [], po_76) := by rfl
theorem mt_77 : mP[77]? = some (yX7_tally, cX7_tally, 2, none, 7, [], po_77) := by rfl
theorem mt_78 : mP[78]? = some (yX7_behindAgain, cX7_behindAgain, 2, (some .int), 7, [], po_78) := by rfl
theorem mt_79 : mP[79]? = some (yX7_behindEnd, cX7_behindEnd, 3, (some .int), 7, [], po_79) := by rfl
theorem mt_80 : mP[80]? = some (yX7_runOne, cX7_runOne, 6, (some .boolean), 7, [], po_80) := by rfl
theorem mt_81 : mP[81]? = some (yX8_init, cX8_init, 1, none, 8, [], po_81) := by rfl
theorem mt_82 : mP[82]? = some (yX8_put, cX8_put, 3, none, 8, [], po_82) := by rfl
theorem mt_83 : mP[83]? = some (yX8_take, cX8_take, 2, none, 8, [], po_83) := by rfl
theorem mt_84 : mP[84]? = some (yX8_blame, cX8_blame, 3, (some .boolean), 8, [], po_84) := by rfl
theorem mt_85 : mP[85]? = some (yX8_next, cX8_next, 1, (some .int), 8, [], po_85) := by rfl
theorem mt_86 : mP[86]? = some (yX8_isEnded, cX8_isEnded, 1, (some .boolean), 8, [], po_86) := by rfl
theorem mt_87 : mP[87]? = some (yX8_readSign, cX8_readSign, 2, (some .boolean), 8, [], po_87) := by rfl
theorem mt_88 : mP[88]? = some (yX8_readWord, cX8_readWord, 1, none, 8, [], po_88) := by rfl
theorem mt_89 : mP[89]? = some (yX8_wordIs, cX8_wordIs, 3, (some .boolean), 8, [], po_89) := by rfl
theorem mt_90 : mP[90]? = some (yX8_isAtDigit, cX8_isAtDigit, 1, (some .boolean), 8, [], po_90) := by rfl
theorem mt_91 : mP[91]? = some (yX8_readNumber, cX8_readNumber, 3, (some .boolean), 8, [], po_91) := by rfl
theorem mt_92 : mP[92]? = some (yX9_init, cX9_init, 1, none, 9, [], po_92) := by rfl
theorem mt_93 : mP[93]? = some (yX9_clear, cX9_clear, 2, none, 9, [], po_93) := by rfl
theorem mt_94 : mP[94]? = some (yX9_read, cX9_read, 3, (some .boolean), 9, [], po_94) := by rfl
theorem mt_95 : mP[95]? = some (yX9_readClause, cX9_readClause, 4, (some .boolean), 9, [], po_95) := by rfl
theorem mt_96 : mP[96]? = some (yX9_kindOf, cX9_kindOf, 1, (some .int), 109, [], po_96) := by rfl
theorem mt_97 : mP[97]? = some (yX9_isFull, cX9_isFull, 2, (some .boolean), 9, [], po_97) := by rfl
theorem mt_98 : mP[98]? = some (yX9_readOne, cX9_readOne, 3, (some .boolean), 9, [], po_98) := by rfl
theorem mt_99 : mP[99]? = some (yX9_leastOf, cX9_leastOf, 1, (some .int), 109, [], po_99) := by rfl
theorem mt_100 : mP[100]? = some (yX9_mostOf, cX9_mostOf, 1, (some .int), 109, [], po_100) := by rfl
theorem mt_101 : mP[101]? = some (yX9_readPath, cX9_readPath, 4, (some .boolean), 9, [], po_101) := by rfl
theorem mt_102 : mP[102]? = some (yX10_init, cX10_init, 1, none, 10, [], po_102) := by rfl
theorem mt_103 : mP[103]? = some (yX10_roundFrom, cX10_roundFrom, 9, (some .int), 10, [], po_103) := by rfl
theorem mt_104 : mP[104]? = some (yX10_reach, cX10_reach, 5, none, 10, [], po_104) := by rfl
theorem mt_105 : mP[105]? = some (yX10_fewestGuards, cX10_fewestGuards, 8, (some .int), 10, [], po_105) := by rfl
theorem mt_106 : mP[106]? = some (yX10_guardedBy, cX10_guardedBy, 4, (some .int), 110, [], po_106) := by rfl
theorem mt_107 : mP[107]? = some (yX10_sets, cX10_sets, 5, (some .int), 10, [], po_107) := by rfl
theorem mt_108 : mP[108]? = some (yX10_hangingWith, cX10_hangingWith, 4, (some .int), 110, [], po_108) := by rfl
theorem mt_109 : mP[109]? = some (yX11_init, cX11_init, 1, none, 11, [], po_109) := by rfl
theorem mt_110 : mP[110]? = some (yX11_feed, cX11_feed, 6, (some .int), 11, [], po_110) := by rfl
theorem mt_111 : mP[111]? = some (yX11_village, cX11_village, 3, (some .int), 11, [], po_111) := by rfl
theorem mt_112 : mP[112]? = some (yX11_law, cX11_law, 3, (some .int), 11, [], po_112) := by rfl
theorem mt_113 : mP[113]? = some (yX11_work, cX11_work, 2, (some .int), 11, [], po_113) := by rfl
theorem mt_114 : mP[114]? = some (yX11_book, cX11_book, 3, (some .int), 11, [], po_114) := by rfl
theorem mt_115 : mP[115]? = some (yX11_fault, cX11_fault, 1, (some .int), 11, [], po_115) := by rfl
theorem mt_116 : mP[116]? = some (yX11_undo, cX11_undo, 1, (some .int), 11, [], po_116) := by rfl
theorem mt_117 : mP[117]? = some (yX11_told, cX11_told, 2, (some .int), 11, [], po_117) := by rfl
theorem mt_118 : mP[118]? = some (yX11_egg, cX11_egg, 3, (some .int), 11, [], po_118) := by rfl
theorem mt_119 : mP[119]? = some (yX11_hand, cX11_hand, 3, (some .int), 11, [], po_119) := by rfl
theorem mt_120 : mP[120]? = some (yX11_hole, cX11_hole, 3, (some .int), 11, [], po_120) := by rfl
theorem mt_121 : mP[121]? = some (yX11_path, cX11_path, 3, (some .int), 11, [], po_121) := by rfl
theorem mt_122 : mP[122]? = some (yX11_mend, cX11_mend, 4, (some .int), 11, [], po_122) := by rfl
theorem mt_123 : mP[123]? = some (yX11_would, cX11_would, 9, (some .int), 11, [], po_123) := by rfl
theorem mt_124 : mP[124]? = some (yX11_can, cX11_can, 4, (some .boolean), 11, [], po_124) := by rfl
theorem mt_125 : mP[125]? = some (yX11_ahead, cX11_ahead, 4, (some .int), 11, [], po_125) := by rfl
theorem mt_126 : mP[126]? = some (yX11_whole, cX11_whole, 3, (some .int), 11, [], po_126) := by rfl
theorem mt_127 : mP[127]? = some (yX11_best, cX11_best, 2, (some .int), 11, [], po_127) := by rfl
theorem mt_128 : mP[128]? = some (yX11_given, cX11_given, 3, (some .int), 11, [], po_128) := by rfl
theorem mt_129 : mP[129]? = some (yX11_round, cX11_round, 2, (some .int), 11, [], po_129) := by rfl
theorem mt_130 : mP[130]? = some (yX11_guards, cX11_guards, 1, (some .int), 11, [], po_130) := by rfl
theorem mt_131 : mP[131]? = some (yX11_way, cX11_way, 3, (some .int), 11, [], po_131) := by rfl
theorem mt_132 : mP[132]? = some (yX11_fits, cX11_fits, 2, (some .int), 11, [], po_132) := by rfl
theorem mt_133 : mP[133]? = some (yX11_look, cX11_look, 2, (some .int), 11, [], po_133) := by rfl
theorem mt_134 : mP[134]? = some (yX11_first, cX11_first, 9, (some .long), 11, [], po_134) := by rfl
theorem mt_135 : mP[135]? = some (yX11_ridge, cX11_ridge, 10, (some .int), 11, [], po_135) := by rfl
theorem mt_136 : mP[136]? = some (yX11_wool, cX11_wool, 4, (some .int), 11, [], po_136) := by rfl
theorem mt_137 : mP[137]? = some (yX11_worst, cX11_worst, 3, (some .int), 11, [], po_137) := by rfl
theorem mt_138 : mP[138]? = some (yX11_goes, cX11_goes, 2, (some .int), 11, [], po_138) := by rfl
theorem mt_139 : mP[139]? = some (yX11_parts, cX11_parts, 1, (some .int), 11, [], po_139) := by rfl
theorem mt_140 : mP[140]? = some (yX11_ridges, cX11_ridges, 2, (some .int), 11, [], po_140) := by rfl
theorem mt_141 : mP[141]? = some (yX11_generation, cX11_generation, 5, (some .int), 11, [], po_141) := by rfl
theorem mt_142 : mP[142]? = some (yX11_span, cX11_span, 11, (some .int), 11, [], po_142) := by rfl
theorem mt_143 : mP[143]? = some (yX11_image, cX11_image, 1, (some .int), 11, [], po_143) := by rfl
theorem mt_144 : mP[144]? = some (yX11_restore, cX11_restore, 1, (some .int), 11, [], po_144) := by rfl
theorem mt_145 : mP[145]? = some (yX11_status, cX11_status, 2, (some .int), 11, [], po_145) := by rfl
theorem mt_146 : mP[146]? = some (yX11_count, cX11_count, 2, (some .int), 11, [], po_146) := by rfl
theorem mt_147 : mP[147]? = some (yX11_takeText, cX11_takeText, 3, none, 11, [], po_147) := by rfl
theorem mt_148 : mP[148]? = some (yX11_faulted, cX11_faulted, 1, (some .int), 11, [], po_148) := by rfl
theorem mt_149 : mP[149]? = some (yX11_refuseElement, cX11_refuseElement, 1, (some .int), 11, [], po_149) := by rfl
theorem mt_150 : mP[150]? = some (yX11_refuseArgument, cX11_refuseArgument, 1, (some .int), 11, [], po_150) := by rfl
theorem mt_151 : mP[151]? = some (yX11_needEgg, cX11_needEgg, 2, none, 11, [], po_151) := by rfl
theorem mt_152 : mP[152]? = some (yX11_needHand, cX11_needHand, 2, none, 11, [], po_152) := by rfl
theorem mt_153 : mP[153]? = some (yX11_needHole, cX11_needHole, 2, none, 11, [], po_153) := by rfl
theorem mt_154 : mP[154]? = some (yX11_needBetween, cX11_needBetween, 4, none, 11, [], po_154) := by rfl
theorem mt_155 : mP[155]? = some (yX11_restsAt, cX11_restsAt, 4, (some .boolean), 111, [], po_155) := by rfl
theorem mt_156 : mP[156]? = some (yX11_hasBy, cX11_hasBy, 4, (some .int), 111, [], po_156) := by rfl
theorem mt_157 : mP[157]? = some (yX11_greatestBound, cX11_greatestBound, 6, (some .int), 11, [], po_157) := by rfl
theorem mt_158 : mP[158]? = some (yX11_live, cX11_live, 6, none, 11, [], po_158) := by rfl
theorem mt_159 : mP[159]? = some (yX11_liveOne, cX11_liveOne, 5, none, 11, [], po_159) := by rfl
theorem mt_160 : mP[160]? = some (yX12_thrown, cX12_thrown, 1, (some .int), 12, [], po_160) := by rfl
theorem mt_161 : mP[161]? = some (yX12_may, cX12_may, 4, (some .boolean), 12, [], po_161) := by rfl
theorem mt_162 : mP[162]? = some (yX12_within, cX12_within, 3, (some .boolean), 112, [], po_162) := by rfl
theorem mt_163 : mP[163]? = some (yX12_init, cX12_init, 1, none, 12, [], po_163) := by rfl
theorem mt_164 : mP[164]? = some (yX12_feed, cX12_feed, 8, (some .int), 12, [], po_164) := by rfl
theorem mt_165 : mP[165]? = some (yX12_fine, cX12_fine, 1, (some .boolean), 12, [], po_165) := by rfl
theorem mt_166 : mP[166]? = some (yX12_wrong, cX12_wrong, 3, none, 12, [], po_166) := by rfl
theorem mt_167 : mP[167]? = some (yX12_here, cX12_here, 1, (some .int), 12, [], po_167) := by rfl
theorem mt_168 : mP[168]? = some (yX12_isSmall, cX12_isSmall, 1, (some .boolean), 112, [], po_168) := by rfl
theorem mt_169 : mP[169]? = some (yX12_isDigit, cX12_isDigit, 1, (some .boolean), 112, [], po_169) := by rfl
theorem mt_170 : mP[170]? = some (yX12_word, cX12_word, 4, (some .int), 12, [], po_170) := by rfl
theorem mt_171 : mP[171]? = some (yX12_of, cX12_of, 3, (some .int), 112, [], po_171) := by rfl
theorem mt_172 : mP[172]? = some (yX12_pass, cX12_pass, 1, none, 12, [], po_172) := by rfl
theorem mt_173 : mP[173]? = some (yX12_readNumber, cX12_readNumber, 6, (some .int), 12, [], po_173) := by rfl
theorem mt_174 : mP[174]? = some (yX12_sign, cX12_sign, 2, none, 12, [], po_174) := by rfl
theorem mt_175 : mP[175]? = some (yX12_isMore, cX12_isMore, 1, (some .boolean), 12, [], po_175) := by rfl
theorem mt_176 : mP[176]? = some (yX12_begins, cX12_begins, 2, none, 12, [], po_176) := by rfl
theorem mt_177 : mP[177]? = some (yX12_result, cX12_result, 2, (some .int), 12, [], po_177) := by rfl
theorem mt_178 : mP[178]? = some (yX12_fault, cX12_fault, 1, (some .int), 12, [], po_178) := by rfl
theorem mt_179 : mP[179]? = some (yX12_copies, cX12_copies, 5, none, 12, [], po_179) := by rfl
theorem mt_180 : mP[180]? = some (yX12_clears, cX12_clears, 1, none, 12, [], po_180) := by rfl
theorem mt_181 : mP[181]? = some (yX12_sets, cX12_sets, 2, none, 12, [], po_181) := by rfl
theorem mt_182 : mP[182]? = some (yX12_isRow, cX12_isRow, 1, (some .boolean), 112, [], po_182) := by rfl
theorem mt_183 : mP[183]? = some (yX12_isFull, cX12_isFull, 2, (some .boolean), 12, [], po_183) := by rfl
theorem mt_184 : mP[184]? = some (yX12_readPath, cX12_readPath, 5, none, 12, [], po_184) := by rfl
theorem mt_185 : mP[185]? = some (yX12_readRow, cX12_readRow, 2, none, 12, [], po_185) := by rfl
theorem mt_186 : mP[186]? = some (yX12_village, cX12_village, 4, (some .int), 12, [], po_186) := by rfl
theorem mt_187 : mP[187]? = some (yX12_emit, cX12_emit, 3, none, 12, [], po_187) := by rfl
theorem mt_188 : mP[188]? = some (yX12_opensOne, cX12_opensOne, 2, none, 12, [], po_188) := by rfl
theorem mt_189 : mP[189]? = some (yX12_readSum, cX12_readSum, 2, none, 12, [], po_189) := by rfl
theorem mt_190 : mP[190]? = some (yX12_readProduct, cX12_readProduct, 2, none, 12, [], po_190) := by rfl
theorem mt_191 : mP[191]? = some (yX12_readTwo, cX12_readTwo, 3, none, 12, [], po_191) := by rfl
theorem mt_192 : mP[192]? = some (yX12_factHere, cX12_factHere, 2, (some .int), 12, [], po_192) := by rfl
theorem mt_193 : mP[193]? = some (yX12_readUnit, cX12_readUnit, 2, none, 12, [], po_193) := by rfl
theorem mt_194 : mP[194]? = some (yX12_law, cX12_law, 3, (some .int), 12, [], po_194) := by rfl
theorem mt_195 : mP[195]? = some (yX12_valueNow, cX12_valueNow, 4, (some .int), 12, [], po_195) := by rfl
theorem mt_196 : mP[196]? = some (yX12_both, cX12_both, 3, (some .int), 112, [], po_196) := by rfl
theorem mt_197 : mP[197]? = some (yX12_mendNow, cX12_mendNow, 2, (some .int), 12, [], po_197) := by rfl
theorem mt_198 : mP[198]? = some (yX12_tellsStep, cX12_tellsStep, 5, none, 12, [], po_198) := by rfl
theorem mt_199 : mP[199]? = some (yX12_readEgg, cX12_readEgg, 1, (some .int), 12, [], po_199) := by rfl
theorem mt_200 : mP[200]? = some (yX12_readHole, cX12_readHole, 1, (some .int), 12, [], po_200) := by rfl
theorem mt_201 : mP[201]? = some (yX12_readStep, cX12_readStep, 4, none, 12, [], po_201) := by rfl
theorem mt_202 : mP[202]? = some (yX12_work, cX12_work, 4, (some .int), 12, [], po_202) := by rfl
theorem mt_203 : mP[203]? = some (yX12_goesSteps, cX12_goesSteps, 6, none, 12, [], po_203) := by rfl
theorem mt_204 : mP[204]? = some (yX12_take, cX12_take, 1, none, 12, [], po_204) := by rfl
theorem mt_205 : mP[205]? = some (yX12_pathsOf, cX12_pathsOf, 4, (some .int), 12, [], po_205) := by rfl
theorem mt_206 : mP[206]? = some (yX12_mendOf, cX12_mendOf, 9, (some .int), 12, [], po_206) := by rfl
theorem mt_207 : mP[207]? = some (yX12_mendBy, cX12_mendBy, 4, (some .int), 12, [], po_207) := by rfl
theorem mt_208 : mP[208]? = some (yX12_isHatched, cX12_isHatched, 2, (some .boolean), 12, [], po_208) := by rfl
theorem mt_209 : mP[209]? = some (yX12_isHooked, cX12_isHooked, 2, (some .boolean), 12, [], po_209) := by rfl
theorem mt_210 : mP[210]? = some (yX12_held, cX12_held, 1, (some .int), 112, [], po_210) := by rfl
theorem mt_211 : mP[211]? = some (yX12_canDarn, cX12_canDarn, 4, (some .boolean), 12, [], po_211) := by rfl
theorem mt_212 : mP[212]? = some (yX12_darns, cX12_darns, 5, (some .boolean), 12, [], po_212) := by rfl
theorem mt_213 : mP[213]? = some (yX12_lets, cX12_lets, 3, (some .boolean), 12, [], po_213) := by rfl
theorem mt_214 : mP[214]? = some (yX12_unpicks, cX12_unpicks, 3, (some .boolean), 12, [], po_214) := by rfl
theorem mt_215 : mP[215]? = some (yX12_acts, cX12_acts, 5, none, 12, [], po_215) := by rfl
theorem mt_216 : mP[216]? = some (yX12_passes, cX12_passes, 3, none, 12, [], po_216) := by rfl
theorem mt_217 : mP[217]? = some (yX12_isDone, cX12_isDone, 5, (some .boolean), 12, [], po_217) := by rfl
theorem mt_218 : mP[218]? = some (yX12_book, cX12_book, 6, (some .int), 12, [], po_218) := by rfl
theorem mt_219 : mP[219]? = some (yX12_undo, cX12_undo, 2, (some .int), 12, [], po_219) := by rfl
theorem mt_220 : mP[220]? = some (yX12_sumOf, cX12_sumOf, 4, (some .int), 12, [], po_220) := by rfl
theorem mt_221 : mP[221]? = some (yX12_hatchedNow, cX12_hatchedNow, 3, (some .int), 12, [], po_221) := by rfl
theorem mt_222 : mP[222]? = some (yX12_outAt, cX12_outAt, 4, (some .int), 12, [], po_222) := by rfl
theorem mt_223 : mP[223]? = some (yX12_busyNow, cX12_busyNow, 3, (some .int), 12, [], po_223) := by rfl
theorem mt_224 : mP[224]? = some (yX12_told, cX12_told, 2, (some .int), 12, [], po_224) := by rfl
theorem mt_225 : mP[225]? = some (yX12_isEgg, cX12_isEgg, 3, (some .boolean), 12, [], po_225) := by rfl
theorem mt_226 : mP[226]? = some (yX12_isHand, cX12_isHand, 3, (some .boolean), 12, [], po_226) := by rfl
theorem mt_227 : mP[227]? = some (yX12_isHole, cX12_isHole, 3, (some .boolean), 12, [], po_227) := by rfl
theorem mt_228 : mP[228]? = some (yX12_egg, cX12_egg, 3, (some .int), 12, [], po_228) := by rfl
theorem mt_229 : mP[229]? = some (yX12_hand, cX12_hand, 3, (some .int), 12, [], po_229) := by rfl
theorem mt_230 : mP[230]? = some (yX12_hole, cX12_hole, 3, (some .int), 12, [], po_230) := by rfl
theorem mt_231 : mP[231]? = some (yX12_path, cX12_path, 3, (some .int), 12, [], po_231) := by rfl
theorem mt_232 : mP[232]? = some (yX12_mend, cX12_mend, 4, (some .int), 12, [], po_232) := by rfl
theorem mt_233 : mP[233]? = some (yX12_would, cX12_would, 9, (some .int), 12, [], po_233) := by rfl
theorem mt_234 : mP[234]? = some (yX12_can, cX12_can, 4, (some .boolean), 12, [], po_234) := by rfl
theorem mt_235 : mP[235]? = some (yX12_mendedNow, cX12_mendedNow, 3, (some .int), 12, [], po_235) := by rfl
theorem mt_236 : mP[236]? = some (yX12_ahead, cX12_ahead, 4, (some .int), 12, [], po_236) := by rfl
theorem mt_237 : mP[237]? = some (yX12_whole, cX12_whole, 3, (some .int), 12, [], po_237) := by rfl
theorem mt_238 : mP[238]? = some (yX12_goes, cX12_goes, 2, (some .int), 12, [], po_238) := by rfl
theorem mt_239 : mP[239]? = some (yX12_findBest, cX12_findBest, 6, none, 12, [], po_239) := by rfl
theorem mt_240 : mP[240]? = some (yX12_takenBy, cX12_takenBy, 4, (some .int), 12, [], po_240) := by rfl
theorem mt_241 : mP[241]? = some (yX12_mayTake, cX12_mayTake, 5, (some .boolean), 12, [], po_241) := by rfl
theorem mt_242 : mP[242]? = some (yX12_best, cX12_best, 2, (some .int), 12, [], po_242) := by rfl
theorem mt_243 : mP[243]? = some (yX12_given, cX12_given, 3, (some .int), 12, [], po_243) := by rfl
theorem mt_244 : mP[244]? = some (yX12_worn, cX12_worn, 3, (some .int), 12, [], po_244) := by rfl
theorem mt_245 : mP[245]? = some (yX12_round, cX12_round, 9, (some .int), 12, [], po_245) := by rfl
theorem mt_246 : mP[246]? = some (yX12_ones, cX12_ones, 3, (some .int), 112, [], po_246) := by rfl
theorem mt_247 : mP[247]? = some (yX12_nearTo, cX12_nearTo, 4, (some .int), 12, [], po_247) := by rfl
theorem mt_248 : mP[248]? = some (yX12_guards, cX12_guards, 3, (some .int), 12, [], po_248) := by rfl
theorem mt_249 : mP[249]? = some (yX12_way, cX12_way, 5, (some .int), 12, [], po_249) := by rfl
theorem mt_250 : mP[250]? = some (yX12_parts, cX12_parts, 6, (some .int), 12, [], po_250) := by rfl
theorem mt_251 : mP[251]? = some (yX12_leaves, cX12_leaves, 4, (some .int), 12, [], po_251) := by rfl
theorem mt_252 : mP[252]? = some (yX12_isFit, cX12_isFit, 5, (some .boolean), 12, [], po_252) := by rfl
theorem mt_253 : mP[253]? = some (yX12_fits, cX12_fits, 6, (some .int), 12, [], po_253) := by rfl
theorem mt_254 : mP[254]? = some (yX12_worstOf, cX12_worstOf, 6, (some .int), 12, [], po_254) := by rfl
theorem mt_255 : mP[255]? = some (yX12_look, cX12_look, 6, (some .int), 12, [], po_255) := by rfl
theorem mt_256 : mP[256]? = some (yX12_least, cX12_least, 11, (some .long), 112, [], po_256) := by rfl
theorem mt_257 : mP[257]? = some (yX12_first, cX12_first, 9, (some .long), 12, [], po_257) := by rfl
theorem mt_258 : mP[258]? = some (yX12_hasBy, cX12_hasBy, 4, (some .int), 112, [], po_258) := by rfl
theorem mt_259 : mP[259]? = some (yX12_ridge, cX12_ridge, 9, (some .int), 12, [], po_259) := by rfl
theorem mt_260 : mP[260]? = some (yX12_woolBy, cX12_woolBy, 5, (some .int), 12, [], po_260) := by rfl
theorem mt_261 : mP[261]? = some (yX12_wool, cX12_wool, 5, (some .int), 12, [], po_261) := by rfl
theorem mt_262 : mP[262]? = some (yX12_greatest, cX12_greatest, 5, (some .int), 12, [], po_262) := by rfl
theorem mt_263 : mP[263]? = some (yX12_worst, cX12_worst, 3, (some .int), 12, [], po_263) := by rfl
theorem mt_264 : mP[264]? = some (yX12_ridges, cX12_ridges, 2, (some .int), 12, [], po_264) := by rfl
theorem mt_265 : mP[265]? = some (yX12_draws, cX12_draws, 2, (some .int), 12, [], po_265) := by rfl
theorem mt_266 : mP[266]? = some (yX12_generationGoes, cX12_generationGoes, 9, none, 12, [], po_266) := by rfl
theorem mt_267 : mP[267]? = some (yX12_isGeneration, cX12_isGeneration, 2, (some .boolean), 112, [], po_267) := by rfl
theorem mt_268 : mP[268]? = some (yX12_generation, cX12_generation, 5, (some .int), 12, [], po_268) := by rfl
theorem mt_269 : mP[269]? = some (yX12_span, cX12_span, 11, (some .int), 12, [], po_269) := by rfl
theorem mt_270 : mP[270]? = some (yX12_keepsRow, cX12_keepsRow, 6, (some .int), 12, [], po_270) := by rfl
theorem mt_271 : mP[271]? = some (yX12_keepsAll, cX12_keepsAll, 4, none, 12, [], po_271) := by rfl
theorem mt_272 : mP[272]? = some (yX12_image, cX12_image, 1, (some .int), 12, [], po_272) := by rfl
theorem mt_273 : mP[273]? = some (yX12_restore, cX12_restore, 1, (some .int), 12, [], po_273) := by rfl
theorem mt_274 : mP[274]? = some (yX12_status, cX12_status, 2, (some .int), 12, [], po_274) := by rfl
theorem mt_275 : mP[275]? = some (yX12_count, cX12_count, 2, (some .int), 12, [], po_275) := by rfl
theorem mt_276 : mP[276]? = some (yJ6_bitCount_0f7a4, cJ6_bitCount_0f7a4, 1, (some .int), 114, [], po_276) := by rfl
theorem mt_277 : mP[277]? = some (yL_village, cL_village, 4, (some .int), 113, [(0, 9, 2, 13, 12, 13)], po_277) := by rfl
theorem mt_278 : mP[278]? = some (yL_law, cL_law, 4, (some .int), 113, [(0, 9, 2, 13, 12, 13)], po_278) := by rfl
theorem mt_279 : mP[279]? = some (yL_work, cL_work, 4, (some .int), 113, [(0, 9, 2, 13, 12, 13)], po_279) := by rfl
theorem mt_280 : mP[280]? = some (yL_book, cL_book, 4, (some .int), 113, [(0, 9, 2, 13, 12, 13)], po_280) := by rfl
theorem mt_281 : mP[281]? = some (yL_told, cL_told, 4, (some .int), 113, [(0, 9, 2, 13, 12, 13)], po_281) := by rfl
theorem mt_282 : mP[282]? = some (yL_egg, cL_egg, 5, (some .int), 113, [(0, 10, 1, 15, 13, 31), (0, 10, 2, 19, 17, 13)], po_282) := by rfl
theorem mt_283 : mP[283]? = some (yL_hand, cL_hand, 5, (some .int), 113, [(0, 10, 1, 15, 13, 31), (0, 10, 2, 19, 17, 13)], po_283) := by rfl
theorem mt_284 : mP[284]? = some (yL_hole, cL_hole, 5, (some .int), 113, [(0, 10, 1, 15, 13, 31), (0, 10, 2, 19, 17, 13)], po_284) := by rfl
theorem mt_285 : mP[285]? = some (yL_path, cL_path, 5, (some .int), 113, [(0, 10, 1, 15, 13, 31), (0, 10, 2, 19, 17, 13)], po_285) := by rfl
theorem mt_286 : mP[286]? = some (yL_mend, cL_mend, 6, (some .int), 113, [(0, 12, 1, 17, 15, 31)], po_286) := by rfl
theorem mt_287 : mP[287]? = some (yL_would, cL_would, 11, (some .int), 113, [(0, 22, 2, 27, 25, 13)], po_287) := by rfl
theorem mt_288 : mP[288]? = some (yL_can, cL_can, 6, (some .int), 113, [(0, 19, 1, 24, 22, 31)], po_288) := by rfl
theorem mt_289 : mP[289]? = some (yL_ahead, cL_ahead, 5, (some .int), 113, [(0, 10, 2, 15, 13, 13)], po_289) := by rfl
theorem mt_290 : mP[290]? = some (yL_whole, cL_whole, 4, (some .int), 113, [(0, 9, 1, 13, 12, 31)], po_290) := by rfl
theorem mt_291 : mP[291]? = some (yL_best, cL_best, 4, (some .int), 113, [(0, 9, 1, 13, 12, 31)], po_291) := by rfl
theorem mt_292 : mP[292]? = some (yL_given, cL_given, 5, (some .int), 113, [(0, 10, 1, 15, 13, 31)], po_292) := by rfl
theorem mt_293 : mP[293]? = some (yL_round, cL_round, 4, (some .int), 113, [(0, 9, 1, 13, 12, 31)], po_293) := by rfl
theorem mt_294 : mP[294]? = some (yL_way, cL_way, 5, (some .int), 113, [(0, 10, 1, 15, 13, 31)], po_294) := by rfl
theorem mt_295 : mP[295]? = some (yL_fits, cL_fits, 4, (some .int), 113, [(0, 9, 2, 13, 12, 13)], po_295) := by rfl
theorem mt_296 : mP[296]? = some (yL_look, cL_look, 4, (some .int), 113, [(0, 9, 2, 13, 12, 13)], po_296) := by rfl
theorem mt_297 : mP[297]? = some (yL_first, cL_first, 6, (some .int), 113, [(0, 11, 2, 16, 14, 13)], po_297) := by rfl
theorem mt_298 : mP[298]? = some (yL_ridge, cL_ridge, 6, (some .int), 113, [(0, 12, 2, 17, 15, 13)], po_298) := by rfl
theorem mt_299 : mP[299]? = some (yL_wool, cL_wool, 6, (some .int), 113, [(0, 12, 1, 17, 15, 31), (0, 12, 2, 21, 19, 13)], po_299) := by rfl
theorem mt_300 : mP[300]? = some (yL_worst, cL_worst, 4, (some .int), 113, [(0, 9, 2, 13, 12, 13)], po_300) := by rfl
theorem mt_301 : mP[301]? = some (yL_goes, cL_goes, 4, (some .int), 113, [(0, 9, 1, 13, 12, 31)], po_301) := by rfl
theorem mt_302 : mP[302]? = some (yL_ridges, cL_ridges, 4, (some .int), 113, [(0, 9, 2, 13, 12, 13)], po_302) := by rfl
theorem mt_303 : mP[303]? = some (yL_generation, cL_generation, 7, (some .int), 113, [(0, 14, 2, 19, 17, 13)], po_303) := by rfl
theorem mt_304 : mP[304]? = some (yL_span, cL_span, 8, (some .int), 113, [(0, 16, 2, 21, 19, 13)], po_304) := by rfl
theorem mt_305 : mP[305]? = some (x, code, 8, (some .boolean), 113, [], po_305) := by rfl
theorem c_0 : SH[0]? = some (16, 19) := by decide +kernel
theorem c_1 : SH[1]? = some (13, 8) := by decide +kernel
theorem c_2 : SH[2]? = some (0, 600) := by decide +kernel
theorem c_3 : SH[3]? = some (14, 12) := by decide +kernel
theorem c_4 : SH[4]? = some (0, 6) := by decide +kernel
theorem c_5 : SH[5]? = some (0, 6) := by decide +kernel
theorem c_6 : SH[6]? = some (0, 9) := by decide +kernel
theorem c_7 : SH[7]? = some (0, 9) := by decide +kernel
theorem c_8 : SH[8]? = some (0, 14) := by decide +kernel
theorem c_9 : SH[9]? = some (0, 14) := by decide +kernel
theorem c_10 : SH[10]? = some (14, 12) := by decide +kernel
theorem c_11 : SH[11]? = some (0, 6) := by decide +kernel
theorem c_12 : SH[12]? = some (0, 6) := by decide +kernel
theorem c_13 : SH[13]? = some (0, 9) := by decide +kernel
theorem c_14 : SH[14]? = some (0, 9) := by decide +kernel
theorem c_15 : SH[15]? = some (0, 14) := by decide +kernel
theorem c_16 : SH[16]? = some (0, 14) := by decide +kernel
theorem c_17 : SH[17]? = some (8, 4) := by decide +kernel
theorem c_18 : SH[18]? = some (0, 150) := by decide +kernel
theorem c_19 : SH[19]? = some (0, 8) := by decide +kernel
theorem c_20 : SH[20]? = some (0, 40) := by decide +kernel
theorem c_21 : SH[21]? = some (8, 4) := by decide +kernel
theorem c_22 : SH[22]? = some (0, 150) := by decide +kernel
theorem c_23 : SH[23]? = some (0, 8) := by decide +kernel
theorem c_24 : SH[24]? = some (0, 40) := by decide +kernel
theorem c_25 : SH[25]? = some (5, 9) := by decide +kernel
theorem c_26 : SH[26]? = some (0, 8) := by decide +kernel
theorem c_27 : SH[27]? = some (0, 8) := by decide +kernel
theorem c_28 : SH[28]? = some (1, 36) := by decide +kernel
theorem c_29 : SH[29]? = some (0, 100) := by decide +kernel
theorem c_30 : SH[30]? = some (5, 9) := by decide +kernel
theorem c_31 : SH[31]? = some (0, 8) := by decide +kernel
theorem c_32 : SH[32]? = some (0, 8) := by decide +kernel
theorem c_33 : SH[33]? = some (1, 36) := by decide +kernel
theorem c_34 : SH[34]? = some (0, 100) := by decide +kernel
theorem c_35 : SH[35]? = some (12, 8) := by decide +kernel
theorem c_36 : SH[36]? = some (0, 150) := by decide +kernel
theorem c_37 : SH[37]? = some (0, 150) := by decide +kernel
theorem c_38 : SH[38]? = some (0, 150) := by decide +kernel
theorem c_39 : SH[39]? = some (0, 150) := by decide +kernel
theorem c_40 : SH[40]? = some (0, 150) := by decide +kernel
theorem c_41 : SH[41]? = some (11, 9) := by decide +kernel
theorem c_42 : SH[42]? = some (0, 6) := by decide +kernel
theorem c_43 : SH[43]? = some (0, 6) := by decide +kernel
theorem c_44 : SH[44]? = some (0, 6) := by decide +kernel
theorem c_45 : SH[45]? = some (0, 6) := by decide +kernel
theorem c_46 : SH[46]? = some (0, 9) := by decide +kernel
theorem c_47 : SH[47]? = some (0, 9) := by decide +kernel
theorem c_48 : SH[48]? = some (11, 9) := by decide +kernel
theorem c_49 : SH[49]? = some (0, 6) := by decide +kernel
theorem c_50 : SH[50]? = some (0, 6) := by decide +kernel
theorem c_51 : SH[51]? = some (0, 6) := by decide +kernel
theorem c_52 : SH[52]? = some (0, 6) := by decide +kernel
theorem c_53 : SH[53]? = some (0, 9) := by decide +kernel
theorem c_54 : SH[54]? = some (0, 9) := by decide +kernel
theorem c_55 : SH[55]? = some (10, 1) := by decide +kernel
theorem c_56 : SH[56]? = some (9, 2) := by decide +kernel
theorem c_57 : SH[57]? = some (3, 16) := by decide +kernel
theorem c_58 : SH[58]? = some (11, 9) := by decide +kernel
theorem c_59 : SH[59]? = some (0, 6) := by decide +kernel
set_option maxRecDepth 100000 in
theorem c_170 : SH[170]? = some (7, 3) := by decide +kernel
set_option maxRecDepth 100000 in
theorem c_171 : SH[171]? = some (3, 3) := by decide +kernel
set_option maxRecDepth 100000 in
theorem c_172 : SH[172]? = some (4, 3) := by decide +kernel
set_option maxRecDepth 100000 in
theorem c_536 : SH[536]? = some (6, 2) := by decide +kernel
set_option maxRecDepth 100000 in
theorem c_537 : SH[537]? = some (0, 54) := by decide +kernel
set_option maxRecDepth 100000 in
theorem c_538 : SH[538]? = some (0, 3584) := by decide +kernel
set_option maxRecDepth 100000 in
theorem c_539 : SH[539]? = some (15, 3) := by decide +kernel
set_option maxRecDepth 100000 in
theorem c_540 : SH[540]? = some (0, 4608) := by decide +kernel
set_option maxRecDepth 100000 in
theorem c_541 : SH[541]? = some (0, 4608) := by decide +kernel
set_option maxRecDepth 100000 in
theorem c_542 : SH[542]? = some (17, 60) := by decide +kernel
set_option maxRecDepth 100000 in
theorem c_543 : SH[543]? = some (0, 2) := by decide +kernel
set_option maxRecDepth 100000 in
theorem c_544 : SH[544]? = some (0, 600) := by decide +kernel
set_option maxRecDepth 100000 in
theorem c_545 : SH[545]? = some (0, 6) := by decide +kernel
set_option maxRecDepth 100000 in
theorem c_546 : SH[546]? = some (0, 6) := by decide +kernel
set_option maxRecDepth 100000 in
theorem c_547 : SH[547]? = some (0, 9) := by decide +kernel
set_option maxRecDepth 100000 in
theorem c_548 : SH[548]? = some (0, 28) := by decide +kernel
set_option maxRecDepth 100000 in
theorem c_549 : SH[549]? = some (0, 6) := by decide +kernel
set_option maxRecDepth 100000 in
theorem c_550 : SH[550]? = some (0, 6) := by decide +kernel
set_option maxRecDepth 100000 in
theorem c_551 : SH[551]? = some (0, 9) := by decide +kernel
set_option maxRecDepth 100000 in
theorem c_552 : SH[552]? = some (0, 28) := by decide +kernel
set_option maxRecDepth 100000 in
theorem c_553 : SH[553]? = some (0, 150) := by decide +kernel
set_option maxRecDepth 100000 in
theorem c_554 : SH[554]? = some (0, 150) := by decide +kernel
set_option maxRecDepth 100000 in
theorem c_555 : SH[555]? = some (0, 150) := by decide +kernel
set_option maxRecDepth 100000 in
theorem c_556 : SH[556]? = some (0, 150) := by decide +kernel
set_option maxRecDepth 100000 in
theorem c_557 : SH[557]? = some (0, 150) := by decide +kernel
set_option maxRecDepth 100000 in
theorem c_558 : SH[558]? = some (0, 8) := by decide +kernel
set_option maxRecDepth 100000 in
theorem c_559 : SH[559]? = some (0, 200) := by decide +kernel
set_option maxRecDepth 100000 in
theorem c_560 : SH[560]? = some (0, 200) := by decide +kernel
set_option maxRecDepth 100000 in
theorem c_561 : SH[561]? = some (0, 50) := by decide +kernel
set_option maxRecDepth 100000 in
theorem c_562 : SH[562]? = some (0, 50) := by decide +kernel
set_option maxRecDepth 100000 in
theorem c_563 : SH[563]? = some (0, 800) := by decide +kernel
set_option maxRecDepth 100000 in
theorem c_564 : SH[564]? = some (0, 9) := by decide +kernel
set_option maxRecDepth 100000 in
theorem c_565 : SH[565]? = some (0, 9) := by decide +kernel
set_option maxRecDepth 100000 in
theorem c_566 : SH[566]? = some (0, 3584) := by decide +kernel
set_option maxRecDepth 100000 in
theorem c_567 : SH[567]? = some (0, 54) := by decide +kernel
set_option maxRecDepth 100000 in
theorem c_568 : SH[568]? = some (0, 6) := by decide +kernel
set_option maxRecDepth 100000 in
theorem c_569 : SH[569]? = some (0, 4608) := by decide +kernel
set_option maxRecDepth 100000 in
theorem c_570 : SH[570]? = some (0, 4608) := by decide +kernel
set_option maxRecDepth 100000 in
theorem c_571 : SH[571]? = some (0, 100) := by decide +kernel
set_option maxRecDepth 100000 in
theorem c_572 : SH[572]? = some (0, 2553) := by decide +kernel
set_option maxRecDepth 100000 in
theorem c_573 : SH[573]? = some (2, 1) := by decide +kernel
def vA (sw : Bool × Bool × Bool) : Nat := if sw.1 then 10 else 3
theorem cvA (sw : Bool × Bool × Bool) : SH[vA sw]? = some (14, 12) := by
  unfold vA
  split <;> rfl
def vB (sw : Bool × Bool × Bool) : Nat := if sw.1 then 3 else 10
theorem cvB (sw : Bool × Bool × Bool) : SH[vB sw]? = some (14, 12) := by
  unfold vB
  split <;> rfl
def lA (sw : Bool × Bool × Bool) : Nat := if sw.2.1 then 21 else 17
theorem clA (sw : Bool × Bool × Bool) : SH[lA sw]? = some (8, 4) := by
  unfold lA
  split <;> rfl
def lB (sw : Bool × Bool × Bool) : Nat := if sw.2.1 then 17 else 21
theorem clB (sw : Bool × Bool × Bool) : SH[lB sw]? = some (8, 4) := by
  unfold lB
  split <;> rfl
def bA (sw : Bool × Bool × Bool) : Nat := if sw.2.2 then 30 else 25
theorem cbA (sw : Bool × Bool × Bool) : SH[bA sw]? = some (5, 9) := by
  unfold bA
  split <;> rfl
def bB (sw : Bool × Bool × Bool) : Nat := if sw.2.2 then 25 else 30
theorem cbB (sw : Bool × Bool × Bool) : SH[bB sw]? = some (5, 9) := by
  unfold bB
  split <;> rfl
set_option maxRecDepth 100000 in
theorem bnd_90 : ∀ a, a < 574 → SH[a]? = some (14, 12) → 3 ≤ a ∧ a ≤ 10 := by decide +kernel
theorem bnd_9 {a : Nat} (h : SH[a]? = some (14, 12)) : 3 ≤ a ∧ a ≤ 10 := bnd_90 a (SH_lt h) h
set_option maxRecDepth 100000 in
theorem bnd_30 : ∀ a, a < 574 → SH[a]? = some (8, 4) → 17 ≤ a ∧ a ≤ 21 := by decide +kernel
theorem bnd_3 {a : Nat} (h : SH[a]? = some (8, 4)) : 17 ≤ a ∧ a ≤ 21 := bnd_30 a (SH_lt h) h
set_option maxRecDepth 100000 in
theorem bnd_00 : ∀ a, a < 574 → SH[a]? = some (5, 9) → 25 ≤ a ∧ a ≤ 30 := by decide +kernel
theorem bnd_0 {a : Nat} (h : SH[a]? = some (5, 9)) : 25 ≤ a ∧ a ≤ 30 := bnd_00 a (SH_lt h) h
set_option maxRecDepth 100000 in
theorem bnd_60 : ∀ a, a < 574 → SH[a]? = some (11, 9) → 41 ≤ a ∧ a ≤ 529 := by decide +kernel
theorem bnd_6 {a : Nat} (h : SH[a]? = some (11, 9)) : 41 ≤ a ∧ a ≤ 529 := bnd_60 a (SH_lt h) h
set_option maxRecDepth 100000 in
theorem bnd_40 : ∀ a, a < 574 → SH[a]? = some (9, 2) → 56 ≤ a ∧ a ≤ 424 := by decide +kernel
theorem bnd_4 {a : Nat} (h : SH[a]? = some (9, 2)) : 56 ≤ a ∧ a ≤ 424 := bnd_40 a (SH_lt h) h
theorem g_0_1 {sw : Bool × Bool × Bool} {r : Nat} (h : SH[r]? = some (5, 9)) : GR sw r 1 = some (r + 1) := by
  unfold GR
  rw [h]
  rfl
theorem g_0_2 {sw : Bool × Bool × Bool} {r : Nat} (h : SH[r]? = some (5, 9)) : GR sw r 2 = some (r + 2) := by
  unfold GR
  rw [h]
  rfl
theorem g_0_4 {sw : Bool × Bool × Bool} {r : Nat} (h : SH[r]? = some (5, 9)) : GR sw r 4 = some (r + 3) := by
  unfold GR
  rw [h]
  rfl
theorem g_0_5 {sw : Bool × Bool × Bool} {r : Nat} (h : SH[r]? = some (5, 9)) : GR sw r 5 = some (r + 4) := by
  unfold GR
  rw [h]
  rfl
theorem g_1_0 {sw : Bool × Bool × Bool} {r : Nat} (h : SH[r]? = some (6, 2)) : GR sw r 0 = some (r + 1) := by
  unfold GR
  rw [h]
  rfl
theorem g_1_1 {sw : Bool × Bool × Bool} {r : Nat} (h : SH[r]? = some (6, 2)) : GR sw r 1 = some (r + 2) := by
  unfold GR
  rw [h]
  rfl
theorem g_2_0 {sw : Bool × Bool × Bool} {r : Nat} (h : SH[r]? = some (7, 3)) : GR sw r 0 = some (r + 1) := by
  unfold GR
  rw [h]
  rfl
theorem g_2_1 {sw : Bool × Bool × Bool} {r : Nat} (h : SH[r]? = some (7, 3)) : GR sw r 1 = some (r + 2) := by
  unfold GR
  rw [h]
  rfl
theorem g_3_0 {sw : Bool × Bool × Bool} {r : Nat} (h : SH[r]? = some (8, 4)) : GR sw r 0 = some (r + 1) := by
  unfold GR
  rw [h]
  rfl
theorem g_3_2 {sw : Bool × Bool × Bool} {r : Nat} (h : SH[r]? = some (8, 4)) : GR sw r 2 = some (r + 2) := by
  unfold GR
  rw [h]
  rfl
theorem g_3_3 {sw : Bool × Bool × Bool} {r : Nat} (h : SH[r]? = some (8, 4)) : GR sw r 3 = some (r + 3) := by
  unfold GR
  rw [h]
  rfl
theorem g_4_0 {sw : Bool × Bool × Bool} {r : Nat} (h : SH[r]? = some (9, 2)) : GR sw r 0 = some (r + 1) := by
  unfold GR
  rw [h]
  rfl
theorem g_6_0 {sw : Bool × Bool × Bool} {r : Nat} (h : SH[r]? = some (11, 9)) : GR sw r 0 = some (r + 1) := by
  unfold GR
  rw [h]
  rfl
theorem g_6_1 {sw : Bool × Bool × Bool} {r : Nat} (h : SH[r]? = some (11, 9)) : GR sw r 1 = some (r + 2) := by
  unfold GR
  rw [h]
  rfl
theorem g_6_2 {sw : Bool × Bool × Bool} {r : Nat} (h : SH[r]? = some (11, 9)) : GR sw r 2 = some (r + 3) := by
  unfold GR
  rw [h]
  rfl
theorem g_6_3 {sw : Bool × Bool × Bool} {r : Nat} (h : SH[r]? = some (11, 9)) : GR sw r 3 = some (r + 4) := by
  unfold GR
  rw [h]
  rfl
theorem g_6_4 {sw : Bool × Bool × Bool} {r : Nat} (h : SH[r]? = some (11, 9)) : GR sw r 4 = some (r + 5) := by
  unfold GR
  rw [h]
  rfl
theorem g_6_5 {sw : Bool × Bool × Bool} {r : Nat} (h : SH[r]? = some (11, 9)) : GR sw r 5 = some (r + 6) := by
  unfold GR
  rw [h]
  rfl
theorem g_7_3 {sw : Bool × Bool × Bool} {r : Nat} (h : SH[r]? = some (12, 8)) : GR sw r 3 = some (r + 1) := by
  unfold GR
  rw [h]
  rfl
theorem g_7_4 {sw : Bool × Bool × Bool} {r : Nat} (h : SH[r]? = some (12, 8)) : GR sw r 4 = some (r + 2) := by
  unfold GR
  rw [h]
  rfl
theorem g_7_5 {sw : Bool × Bool × Bool} {r : Nat} (h : SH[r]? = some (12, 8)) : GR sw r 5 = some (r + 3) := by
  unfold GR
  rw [h]
  rfl
theorem g_7_6 {sw : Bool × Bool × Bool} {r : Nat} (h : SH[r]? = some (12, 8)) : GR sw r 6 = some (r + 4) := by
  unfold GR
  rw [h]
  rfl
theorem g_7_7 {sw : Bool × Bool × Bool} {r : Nat} (h : SH[r]? = some (12, 8)) : GR sw r 7 = some (r + 5) := by
  unfold GR
  rw [h]
  rfl
theorem g_8_0 {sw : Bool × Bool × Bool} {r : Nat} (h : SH[r]? = some (13, 8)) : GR sw r 0 = some (r + 1) := by
  unfold GR
  rw [h]
  rfl
theorem g_9_6 {sw : Bool × Bool × Bool} {r : Nat} (h : SH[r]? = some (14, 12)) : GR sw r 6 = some (r + 1) := by
  unfold GR
  rw [h]
  rfl
theorem g_9_7 {sw : Bool × Bool × Bool} {r : Nat} (h : SH[r]? = some (14, 12)) : GR sw r 7 = some (r + 2) := by
  unfold GR
  rw [h]
  rfl
theorem g_9_8 {sw : Bool × Bool × Bool} {r : Nat} (h : SH[r]? = some (14, 12)) : GR sw r 8 = some (r + 3) := by
  unfold GR
  rw [h]
  rfl
theorem g_9_9 {sw : Bool × Bool × Bool} {r : Nat} (h : SH[r]? = some (14, 12)) : GR sw r 9 = some (r + 5) := by
  unfold GR
  rw [h]
  rfl
theorem g_9_10 {sw : Bool × Bool × Bool} {r : Nat} (h : SH[r]? = some (14, 12)) : GR sw r 10 = some (r + 6) := by
  unfold GR
  rw [h]
  rfl
theorem g_9_11 {sw : Bool × Bool × Bool} {r : Nat} (h : SH[r]? = some (14, 12)) : GR sw r 11 = some (r + 4) := by
  unfold GR
  rw [h]
  rfl
theorem g_10_0 {sw : Bool × Bool × Bool} {r : Nat} (h : SH[r]? = some (15, 3)) : GR sw r 0 = some (r + 1) := by
  unfold GR
  rw [h]
  rfl
theorem g_10_1 {sw : Bool × Bool × Bool} {r : Nat} (h : SH[r]? = some (15, 3)) : GR sw r 1 = some (r + 2) := by
  unfold GR
  rw [h]
  rfl
theorem g_11_0 {sw : Bool × Bool × Bool} : GR sw 0 0 = some (1) := rfl
theorem g_11_2 {sw : Bool × Bool × Bool} : GR sw 0 2 = some (vA sw) := rfl
theorem g_11_3 {sw : Bool × Bool × Bool} : GR sw 0 3 = some (vB sw) := rfl
theorem g_11_4 {sw : Bool × Bool × Bool} : GR sw 0 4 = some (lA sw) := rfl
theorem g_11_5 {sw : Bool × Bool × Bool} : GR sw 0 5 = some (lB sw) := rfl
theorem g_11_6 {sw : Bool × Bool × Bool} : GR sw 0 6 = some (bA sw) := rfl
theorem g_11_7 {sw : Bool × Bool × Bool} : GR sw 0 7 = some (bB sw) := rfl
theorem g_11_8 {sw : Bool × Bool × Bool} : GR sw 0 8 = some (35) := rfl
theorem g_11_9 {sw : Bool × Bool × Bool} : GR sw 0 9 = some (41) := rfl
theorem g_11_10 {sw : Bool × Bool × Bool} : GR sw 0 10 = some (48) := rfl
theorem g_11_11 {sw : Bool × Bool × Bool} : GR sw 0 11 = some (55) := rfl
theorem g_11_12 {sw : Bool × Bool × Bool} : GR sw 0 12 = some (56) := rfl
theorem g_11_13 {sw : Bool × Bool × Bool} : GR sw 0 13 = some (170) := rfl
theorem g_11_14 {sw : Bool × Bool × Bool} : GR sw 0 14 = some (536) := rfl
theorem g_11_15 {sw : Bool × Bool × Bool} : GR sw 0 15 = some (539) := rfl
theorem g_12_1 {sw : Bool × Bool × Bool} {r : Nat} (h : SH[r]? = some (17, 60)) : GR sw r 1 = some 543 := by
  unfold GR
  rw [h]
  rfl
theorem g_12_9 {sw : Bool × Bool × Bool} {r : Nat} (h : SH[r]? = some (17, 60)) : GR sw r 9 = some 544 := by
  unfold GR
  rw [h]
  rfl
theorem g_12_10 {sw : Bool × Bool × Bool} {r : Nat} (h : SH[r]? = some (17, 60)) : GR sw r 10 = some 545 := by
  unfold GR
  rw [h]
  rfl
theorem g_12_11 {sw : Bool × Bool × Bool} {r : Nat} (h : SH[r]? = some (17, 60)) : GR sw r 11 = some 546 := by
  unfold GR
  rw [h]
  rfl
theorem g_12_12 {sw : Bool × Bool × Bool} {r : Nat} (h : SH[r]? = some (17, 60)) : GR sw r 12 = some 547 := by
  unfold GR
  rw [h]
  rfl
theorem g_12_13 {sw : Bool × Bool × Bool} {r : Nat} (h : SH[r]? = some (17, 60)) : GR sw r 13 = some 548 := by
  unfold GR
  rw [h]
  rfl
theorem g_12_14 {sw : Bool × Bool × Bool} {r : Nat} (h : SH[r]? = some (17, 60)) : GR sw r 14 = some 549 := by
  unfold GR
  rw [h]
  rfl
theorem g_12_15 {sw : Bool × Bool × Bool} {r : Nat} (h : SH[r]? = some (17, 60)) : GR sw r 15 = some 550 := by
  unfold GR
  rw [h]
  rfl
theorem g_12_16 {sw : Bool × Bool × Bool} {r : Nat} (h : SH[r]? = some (17, 60)) : GR sw r 16 = some 551 := by
  unfold GR
  rw [h]
  rfl
theorem g_12_17 {sw : Bool × Bool × Bool} {r : Nat} (h : SH[r]? = some (17, 60)) : GR sw r 17 = some 552 := by
  unfold GR
  rw [h]
  rfl
theorem g_12_29 {sw : Bool × Bool × Bool} {r : Nat} (h : SH[r]? = some (17, 60)) : GR sw r 29 = some 553 := by
  unfold GR
  rw [h]
  rfl
theorem g_12_30 {sw : Bool × Bool × Bool} {r : Nat} (h : SH[r]? = some (17, 60)) : GR sw r 30 = some 554 := by
  unfold GR
  rw [h]
  rfl
theorem g_12_31 {sw : Bool × Bool × Bool} {r : Nat} (h : SH[r]? = some (17, 60)) : GR sw r 31 = some 555 := by
  unfold GR
  rw [h]
  rfl
theorem g_12_32 {sw : Bool × Bool × Bool} {r : Nat} (h : SH[r]? = some (17, 60)) : GR sw r 32 = some 556 := by
  unfold GR
  rw [h]
  rfl
theorem g_12_33 {sw : Bool × Bool × Bool} {r : Nat} (h : SH[r]? = some (17, 60)) : GR sw r 33 = some 557 := by
  unfold GR
  rw [h]
  rfl
theorem g_12_36 {sw : Bool × Bool × Bool} {r : Nat} (h : SH[r]? = some (17, 60)) : GR sw r 36 = some 558 := by
  unfold GR
  rw [h]
  rfl
theorem g_12_37 {sw : Bool × Bool × Bool} {r : Nat} (h : SH[r]? = some (17, 60)) : GR sw r 37 = some 559 := by
  unfold GR
  rw [h]
  rfl
theorem g_12_38 {sw : Bool × Bool × Bool} {r : Nat} (h : SH[r]? = some (17, 60)) : GR sw r 38 = some 560 := by
  unfold GR
  rw [h]
  rfl
theorem g_12_45 {sw : Bool × Bool × Bool} {r : Nat} (h : SH[r]? = some (17, 60)) : GR sw r 45 = some 561 := by
  unfold GR
  rw [h]
  rfl
theorem g_12_46 {sw : Bool × Bool × Bool} {r : Nat} (h : SH[r]? = some (17, 60)) : GR sw r 46 = some 562 := by
  unfold GR
  rw [h]
  rfl
theorem g_12_47 {sw : Bool × Bool × Bool} {r : Nat} (h : SH[r]? = some (17, 60)) : GR sw r 47 = some 563 := by
  unfold GR
  rw [h]
  rfl
theorem g_12_48 {sw : Bool × Bool × Bool} {r : Nat} (h : SH[r]? = some (17, 60)) : GR sw r 48 = some 564 := by
  unfold GR
  rw [h]
  rfl
theorem g_12_49 {sw : Bool × Bool × Bool} {r : Nat} (h : SH[r]? = some (17, 60)) : GR sw r 49 = some 565 := by
  unfold GR
  rw [h]
  rfl
theorem g_12_51 {sw : Bool × Bool × Bool} {r : Nat} (h : SH[r]? = some (17, 60)) : GR sw r 51 = some 566 := by
  unfold GR
  rw [h]
  rfl
theorem g_12_52 {sw : Bool × Bool × Bool} {r : Nat} (h : SH[r]? = some (17, 60)) : GR sw r 52 = some 567 := by
  unfold GR
  rw [h]
  rfl
theorem g_12_53 {sw : Bool × Bool × Bool} {r : Nat} (h : SH[r]? = some (17, 60)) : GR sw r 53 = some 568 := by
  unfold GR
  rw [h]
  rfl
theorem g_12_54 {sw : Bool × Bool × Bool} {r : Nat} (h : SH[r]? = some (17, 60)) : GR sw r 54 = some 569 := by
  unfold GR
  rw [h]
  rfl
theorem g_12_55 {sw : Bool × Bool × Bool} {r : Nat} (h : SH[r]? = some (17, 60)) : GR sw r 55 = some 570 := by
  unfold GR
  rw [h]
  rfl
theorem g_12_56 {sw : Bool × Bool × Bool} {r : Nat} (h : SH[r]? = some (17, 60)) : GR sw r 56 = some 571 := by
  unfold GR
  rw [h]
  rfl
theorem g_12_58 {sw : Bool × Bool × Bool} {r : Nat} (h : SH[r]? = some (17, 60)) : GR sw r 58 = some 572 := by
  unfold GR
  rw [h]
  rfl
theorem j_retb {X : Nat × (Nat → Int32)} {d y pc : Nat} {L : mL} {M : mM} {K : (Option Value ⊕ Nat) → mM → Prop} {mm : mMeth} {l a0 b0 : Nat} {e : Int} (hm : mP[y]? = some mm) (ho : mm.2.2.2.2.2.2.lookup pc = some (.ireturn, l, a0, b0)) (hr : mm.2.2.2.1 = some .boolean) (he : e = 0 ∨ e = 1) (h : K (.inl (some (iv e))) M) : VV X d y (pc, L, [iv e], M) K := by
  refine v_ret hm ho rfl ?_ h
  simp only [m_ret, hr]
  rcases he with rfl | rfl <;> rfl
