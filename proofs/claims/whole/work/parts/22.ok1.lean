/-! every instruction of the program stands in the tables (written by program) -/
set_option maxRecDepth 1000000 in
theorem ok_60 : (po_60.all (m_okA (yX6_mostRidged, cX6_mostRidged, 5, (some .int), 6, [], po_60))) = true := by decide +kernel
set_option maxRecDepth 1000000 in
theorem oy_60 : (m_okYi 112 1378 1376 1377 (yX6_mostRidged, cX6_mostRidged, 5, (some .int), 6, [], po_60) && m_okH (yX6_mostRidged, cX6_mostRidged, 5, (some .int), 6, [], po_60)) = true := by decide +kernel
set_option maxRecDepth 1000000 in
theorem ok_61 : (po_61.all (m_okA (yX6_allWear, cX6_allWear, 4, (some .int), 6, [], po_61))) = true := by decide +kernel
set_option maxRecDepth 1000000 in
theorem oy_61 : (m_okYi 112 1097 1095 1096 (yX6_allWear, cX6_allWear, 4, (some .int), 6, [], po_61) && m_okH (yX6_allWear, cX6_allWear, 4, (some .int), 6, [], po_61)) = true := by decide +kernel
set_option maxRecDepth 1000000 in
theorem ok_62 : (po_62.all (m_okA (yX6_allRidges, cX6_allRidges, 4, (some .int), 6, [], po_62))) = true := by decide +kernel
set_option maxRecDepth 1000000 in
theorem oy_62 : (m_okYi 112 1203 1201 1202 (yX6_allRidges, cX6_allRidges, 4, (some .int), 6, [], po_62) && m_okH (yX6_allRidges, cX6_allRidges, 4, (some .int), 6, [], po_62)) = true := by decide +kernel
set_option maxRecDepth 1000000 in
theorem ok_63 : (po_63.all (m_okA (yX6_wornHoles, cX6_wornHoles, 4, (some .int), 6, [], po_63))) = true := by decide +kernel
set_option maxRecDepth 1000000 in
theorem oy_63 : (m_okYi 112 560 558 559 (yX6_wornHoles, cX6_wornHoles, 4, (some .int), 6, [], po_63) && m_okH (yX6_wornHoles, cX6_wornHoles, 4, (some .int), 6, [], po_63)) = true := by decide +kernel
set_option maxRecDepth 1000000 in
theorem ok_64 : (po_64.all (m_okA (yX6_wholeHoles, cX6_wholeHoles, 2, (some .int), 6, [], po_64))) = true := by decide +kernel
set_option maxRecDepth 1000000 in
theorem oy_64 : (m_okYi 112 1207 1205 1206 (yX6_wholeHoles, cX6_wholeHoles, 2, (some .int), 6, [], po_64) && m_okH (yX6_wholeHoles, cX6_wholeHoles, 2, (some .int), 6, [], po_64)) = true := by decide +kernel
set_option maxRecDepth 1000000 in
theorem ok_65 : (po_65.all (m_okA (yX6_hatchedEggs, cX6_hatchedEggs, 4, (some .int), 6, [], po_65))) = true := by decide +kernel
set_option maxRecDepth 1000000 in
theorem oy_65 : (m_okYi 112 1089 1087 1088 (yX6_hatchedEggs, cX6_hatchedEggs, 4, (some .int), 6, [], po_65) && m_okH (yX6_hatchedEggs, cX6_hatchedEggs, 4, (some .int), 6, [], po_65)) = true := by decide +kernel
set_option maxRecDepth 1000000 in
theorem ok_66 : (po_66.all (m_okA (yX6_eggsOut, cX6_eggsOut, 4, (some .int), 6, [], po_66))) = true := by decide +kernel
set_option maxRecDepth 1000000 in
theorem oy_66 : (m_okYi 112 1093 1091 1092 (yX6_eggsOut, cX6_eggsOut, 4, (some .int), 6, [], po_66) && m_okH (yX6_eggsOut, cX6_eggsOut, 4, (some .int), 6, [], po_66)) = true := by decide +kernel
set_option maxRecDepth 1000000 in
theorem ok_67 : (po_67.all (m_okA (yX6_eggsOutAt, cX6_eggsOutAt, 5, (some .int), 6, [], po_67))) = true := by decide +kernel
set_option maxRecDepth 1000000 in
theorem oy_67 : (m_okYi 112 1157 1155 1156 (yX6_eggsOutAt, cX6_eggsOutAt, 5, (some .int), 6, [], po_67) && m_okH (yX6_eggsOutAt, cX6_eggsOutAt, 5, (some .int), 6, [], po_67)) = true := by decide +kernel
set_option maxRecDepth 1000000 in
theorem ok_68 : (po_68.all (m_okA (yX7_init, cX7_init, 1, none, 7, [], po_68))) = true := by decide +kernel
set_option maxRecDepth 1000000 in
theorem oy_68 : (m_okYi 111 316 315 0 (yX7_init, cX7_init, 1, none, 7, [], po_68) && m_okH (yX7_init, cX7_init, 1, none, 7, [], po_68)) = true := by decide +kernel
set_option maxRecDepth 1000000 in
theorem ok_69 : (po_69.all (m_okA (yX7_read, cX7_read, 3, (some .boolean), 7, [], po_69))) = true := by decide +kernel
set_option maxRecDepth 1000000 in
theorem oy_69 : (m_okYi 111 920 918 919 (yX7_read, cX7_read, 3, (some .boolean), 7, [], po_69) && m_okH (yX7_read, cX7_read, 3, (some .boolean), 7, [], po_69)) = true := by decide +kernel
set_option maxRecDepth 1000000 in
theorem ok_70 : (po_70.all (m_okA (yX7_readSteps, cX7_readSteps, 5, (some .boolean), 7, [], po_70))) = true := by decide +kernel
set_option maxRecDepth 1000000 in
theorem oy_70 : (m_okYi 111 924 923 16 (yX7_readSteps, cX7_readSteps, 5, (some .boolean), 7, [], po_70) && m_okH (yX7_readSteps, cX7_readSteps, 5, (some .boolean), 7, [], po_70)) = true := by decide +kernel
set_option maxRecDepth 1000000 in
theorem ok_71 : (po_71.all (m_okA (yX7_readStep, cX7_readStep, 6, (some .boolean), 7, [], po_71))) = true := by decide +kernel
set_option maxRecDepth 1000000 in
theorem oy_71 : (m_okYi 111 930 929 17 (yX7_readStep, cX7_readStep, 6, (some .boolean), 7, [], po_71) && m_okH (yX7_readStep, cX7_readStep, 6, (some .boolean), 7, [], po_71)) = true := by decide +kernel
set_option maxRecDepth 1000000 in
theorem ok_72 : (po_72.all (m_okA (yX7_kindOf, cX7_kindOf, 1, (some .int), 107, [], po_72))) = true := by decide +kernel
set_option maxRecDepth 1000000 in
theorem oy_72 : (m_okYi 111 934 933 0 (yX7_kindOf, cX7_kindOf, 1, (some .int), 107, [], po_72) && m_okH (yX7_kindOf, cX7_kindOf, 1, (some .int), 107, [], po_72)) = true := by decide +kernel
set_option maxRecDepth 1000000 in
theorem ok_73 : (po_73.all (m_okA (yX7_readAgain, cX7_readAgain, 6, (some .boolean), 7, [], po_73))) = true := by decide +kernel
set_option maxRecDepth 1000000 in
theorem oy_73 : (m_okYi 111 956 955 19 (yX7_readAgain, cX7_readAgain, 6, (some .boolean), 7, [], po_73) && m_okH (yX7_readAgain, cX7_readAgain, 6, (some .boolean), 7, [], po_73)) = true := by decide +kernel
set_option maxRecDepth 1000000 in
theorem ok_74 : (po_74.all (m_okA (yX7_readInto, cX7_readInto, 5, (some .boolean), 107, [], po_74))) = true := by decide +kernel
set_option maxRecDepth 1000000 in
theorem oy_74 : (m_okYi 111 951 950 0 (yX7_readInto, cX7_readInto, 5, (some .boolean), 107, [], po_74) && m_okH (yX7_readInto, cX7_readInto, 5, (some .boolean), 107, [], po_74)) = true := by decide +kernel
set_option maxRecDepth 1000000 in
theorem ok_75 : (po_75.all (m_okA (yX7_put, cX7_put, 3, (some .int), 7, [], po_75))) = true := by decide +kernel
set_option maxRecDepth 1000000 in
theorem oy_75 : (m_okYi 111 947 946 18 (yX7_put, cX7_put, 3, (some .int), 7, [], po_75) && m_okH (yX7_put, cX7_put, 3, (some .int), 7, [], po_75)) = true := by decide +kernel
set_option maxRecDepth 1000000 in
theorem ok_76 : (po_76.all (m_okA (yX7_run, cX7_run, 7, none, 7, [], po_76))) = true := by decide +kernel
set_option maxRecDepth 1000000 in
theorem oy_76 : (m_okYi 111 965 963 964 (yX7_run, cX7_run, 7, none, 7, [], po_76) && m_okH (yX7_run, cX7_run, 7, none, 7, [], po_76)) = true := by decide +kernel
set_option maxRecDepth 1000000 in
theorem ok_77 : (po_77.all (m_okA (yX7_tally, cX7_tally, 2, none, 7, [], po_77))) = true := by decide +kernel
set_option maxRecDepth 1000000 in
theorem oy_77 : (m_okYi 111 1058 1057 24 (yX7_tally, cX7_tally, 2, none, 7, [], po_77) && m_okH (yX7_tally, cX7_tally, 2, none, 7, [], po_77)) = true := by decide +kernel
set_option maxRecDepth 1000000 in
theorem ok_78 : (po_78.all (m_okA (yX7_behindAgain, cX7_behindAgain, 2, (some .int), 7, [], po_78))) = true := by decide +kernel
set_option maxRecDepth 1000000 in
theorem oy_78 : (m_okYi 111 973 972 21 (yX7_behindAgain, cX7_behindAgain, 2, (some .int), 7, [], po_78) && m_okH (yX7_behindAgain, cX7_behindAgain, 2, (some .int), 7, [], po_78)) = true := by decide +kernel
set_option maxRecDepth 1000000 in
theorem ok_79 : (po_79.all (m_okA (yX7_behindEnd, cX7_behindEnd, 3, (some .int), 7, [], po_79))) = true := by decide +kernel
set_option maxRecDepth 1000000 in
theorem oy_79 : (m_okYi 111 969 968 20 (yX7_behindEnd, cX7_behindEnd, 3, (some .int), 7, [], po_79) && m_okH (yX7_behindEnd, cX7_behindEnd, 3, (some .int), 7, [], po_79)) = true := by decide +kernel
set_option maxRecDepth 1000000 in
theorem ok_80 : (po_80.all (m_okA (yX7_runOne, cX7_runOne, 6, (some .boolean), 7, [], po_80))) = true := by decide +kernel
set_option maxRecDepth 1000000 in
theorem oy_80 : (m_okYi 111 977 976 22 (yX7_runOne, cX7_runOne, 6, (some .boolean), 7, [], po_80) && m_okH (yX7_runOne, cX7_runOne, 6, (some .boolean), 7, [], po_80)) = true := by decide +kernel
set_option maxRecDepth 1000000 in
theorem ok_81 : (po_81.all (m_okA (yX8_init, cX8_init, 1, none, 8, [], po_81))) = true := by decide +kernel
set_option maxRecDepth 1000000 in
theorem oy_81 : (m_okYi 107 143 142 0 (yX8_init, cX8_init, 1, none, 8, [], po_81) && m_okH (yX8_init, cX8_init, 1, none, 8, [], po_81)) = true := by decide +kernel
set_option maxRecDepth 1000000 in
theorem ok_82 : (po_82.all (m_okA (yX8_put, cX8_put, 3, none, 8, [], po_82))) = true := by decide +kernel
set_option maxRecDepth 1000000 in
theorem oy_82 : (m_okYi 107 533 531 532 (yX8_put, cX8_put, 3, none, 8, [], po_82) && m_okH (yX8_put, cX8_put, 3, none, 8, [], po_82)) = true := by decide +kernel
set_option maxRecDepth 1000000 in
theorem ok_83 : (po_83.all (m_okA (yX8_take, cX8_take, 2, none, 8, [], po_83))) = true := by decide +kernel
set_option maxRecDepth 1000000 in
theorem oy_83 : (m_okYi 107 702 700 701 (yX8_take, cX8_take, 2, none, 8, [], po_83) && m_okH (yX8_take, cX8_take, 2, none, 8, [], po_83)) = true := by decide +kernel
set_option maxRecDepth 1000000 in
theorem ok_84 : (po_84.all (m_okA (yX8_blame, cX8_blame, 3, (some .boolean), 8, [], po_84))) = true := by decide +kernel
set_option maxRecDepth 1000000 in
theorem oy_84 : (m_okYi 107 792 790 791 (yX8_blame, cX8_blame, 3, (some .boolean), 8, [], po_84) && m_okH (yX8_blame, cX8_blame, 3, (some .boolean), 8, [], po_84)) = true := by decide +kernel
set_option maxRecDepth 1000000 in
theorem ok_85 : (po_85.all (m_okA (yX8_next, cX8_next, 1, (some .int), 8, [], po_85))) = true := by decide +kernel
set_option maxRecDepth 1000000 in
theorem oy_85 : (m_okYi 107 719 717 718 (yX8_next, cX8_next, 1, (some .int), 8, [], po_85) && m_okH (yX8_next, cX8_next, 1, (some .int), 8, [], po_85)) = true := by decide +kernel
set_option maxRecDepth 1000000 in
theorem ok_86 : (po_86.all (m_okA (yX8_isEnded, cX8_isEnded, 1, (some .boolean), 8, [], po_86))) = true := by decide +kernel
set_option maxRecDepth 1000000 in
theorem oy_86 : (m_okYi 107 715 713 714 (yX8_isEnded, cX8_isEnded, 1, (some .boolean), 8, [], po_86) && m_okH (yX8_isEnded, cX8_isEnded, 1, (some .boolean), 8, [], po_86)) = true := by decide +kernel
set_option maxRecDepth 1000000 in
theorem ok_87 : (po_87.all (m_okA (yX8_readSign, cX8_readSign, 2, (some .boolean), 8, [], po_87))) = true := by decide +kernel
set_option maxRecDepth 1000000 in
theorem oy_87 : (m_okYi 107 823 821 822 (yX8_readSign, cX8_readSign, 2, (some .boolean), 8, [], po_87) && m_okH (yX8_readSign, cX8_readSign, 2, (some .boolean), 8, [], po_87)) = true := by decide +kernel
set_option maxRecDepth 1000000 in
theorem ok_88 : (po_88.all (m_okA (yX8_readWord, cX8_readWord, 1, none, 8, [], po_88))) = true := by decide +kernel
set_option maxRecDepth 1000000 in
theorem oy_88 : (m_okYi 107 727 725 726 (yX8_readWord, cX8_readWord, 1, none, 8, [], po_88) && m_okH (yX8_readWord, cX8_readWord, 1, none, 8, [], po_88)) = true := by decide +kernel
set_option maxRecDepth 1000000 in
theorem ok_89 : (po_89.all (m_okA (yX8_wordIs, cX8_wordIs, 3, (some .boolean), 8, [], po_89))) = true := by decide +kernel
set_option maxRecDepth 1000000 in
theorem oy_89 : (m_okYi 107 735 733 734 (yX8_wordIs, cX8_wordIs, 3, (some .boolean), 8, [], po_89) && m_okH (yX8_wordIs, cX8_wordIs, 3, (some .boolean), 8, [], po_89)) = true := by decide +kernel
set_option maxRecDepth 1000000 in
theorem ok_90 : (po_90.all (m_okA (yX8_isAtDigit, cX8_isAtDigit, 1, (some .boolean), 8, [], po_90))) = true := by decide +kernel
set_option maxRecDepth 1000000 in
theorem oy_90 : (m_okYi 107 808 806 807 (yX8_isAtDigit, cX8_isAtDigit, 1, (some .boolean), 8, [], po_90) && m_okH (yX8_isAtDigit, cX8_isAtDigit, 1, (some .boolean), 8, [], po_90)) = true := by decide +kernel
set_option maxRecDepth 1000000 in
theorem ok_91 : (po_91.all (m_okA (yX8_readNumber, cX8_readNumber, 3, (some .boolean), 8, [], po_91))) = true := by decide +kernel
set_option maxRecDepth 1000000 in
theorem oy_91 : (m_okYi 107 804 802 803 (yX8_readNumber, cX8_readNumber, 3, (some .boolean), 8, [], po_91) && m_okH (yX8_readNumber, cX8_readNumber, 3, (some .boolean), 8, [], po_91)) = true := by decide +kernel
set_option maxRecDepth 1000000 in
theorem ok_92 : (po_92.all (m_okA (yX9_init, cX9_init, 1, none, 9, [], po_92))) = true := by decide +kernel
set_option maxRecDepth 1000000 in
theorem oy_92 : (m_okYi 108 187 186 0 (yX9_init, cX9_init, 1, none, 9, [], po_92) && m_okH (yX9_init, cX9_init, 1, none, 9, [], po_92)) = true := by decide +kernel
set_option maxRecDepth 1000000 in
theorem ok_93 : (po_93.all (m_okA (yX9_clear, cX9_clear, 2, none, 9, [], po_93))) = true := by decide +kernel
set_option maxRecDepth 1000000 in
theorem oy_93 : (m_okYi 108 711 710 4 (yX9_clear, cX9_clear, 2, none, 9, [], po_93) && m_okH (yX9_clear, cX9_clear, 2, none, 9, [], po_93)) = true := by decide +kernel
set_option maxRecDepth 1000000 in
theorem ok_94 : (po_94.all (m_okA (yX9_read, cX9_read, 3, (some .boolean), 9, [], po_94))) = true := by decide +kernel
set_option maxRecDepth 1000000 in
theorem oy_94 : (m_okYi 108 707 705 706 (yX9_read, cX9_read, 3, (some .boolean), 9, [], po_94) && m_okH (yX9_read, cX9_read, 3, (some .boolean), 9, [], po_94)) = true := by decide +kernel
set_option maxRecDepth 1000000 in
theorem ok_95 : (po_95.all (m_okA (yX9_readClause, cX9_readClause, 4, (some .boolean), 9, [], po_95))) = true := by decide +kernel
set_option maxRecDepth 1000000 in
theorem oy_95 : (m_okYi 108 723 722 5 (yX9_readClause, cX9_readClause, 4, (some .boolean), 9, [], po_95) && m_okH (yX9_readClause, cX9_readClause, 4, (some .boolean), 9, [], po_95)) = true := by decide +kernel
set_option maxRecDepth 1000000 in
theorem ok_96 : (po_96.all (m_okA (yX9_kindOf, cX9_kindOf, 1, (some .int), 109, [], po_96))) = true := by decide +kernel
set_option maxRecDepth 1000000 in
theorem oy_96 : (m_okYi 108 730 729 0 (yX9_kindOf, cX9_kindOf, 1, (some .int), 109, [], po_96) && m_okH (yX9_kindOf, cX9_kindOf, 1, (some .int), 109, [], po_96)) = true := by decide +kernel
set_option maxRecDepth 1000000 in
theorem ok_97 : (po_97.all (m_okA (yX9_isFull, cX9_isFull, 2, (some .boolean), 9, [], po_97))) = true := by decide +kernel
set_option maxRecDepth 1000000 in
theorem oy_97 : (m_okYi 108 796 795 6 (yX9_isFull, cX9_isFull, 2, (some .boolean), 9, [], po_97) && m_okH (yX9_isFull, cX9_isFull, 2, (some .boolean), 9, [], po_97)) = true := by decide +kernel
set_option maxRecDepth 1000000 in
theorem ok_98 : (po_98.all (m_okA (yX9_readOne, cX9_readOne, 3, (some .boolean), 9, [], po_98))) = true := by decide +kernel
set_option maxRecDepth 1000000 in
theorem oy_98 : (m_okYi 108 813 812 8 (yX9_readOne, cX9_readOne, 3, (some .boolean), 9, [], po_98) && m_okH (yX9_readOne, cX9_readOne, 3, (some .boolean), 9, [], po_98)) = true := by decide +kernel
set_option maxRecDepth 1000000 in
theorem ok_99 : (po_99.all (m_okA (yX9_leastOf, cX9_leastOf, 1, (some .int), 109, [], po_99))) = true := by decide +kernel
set_option maxRecDepth 1000000 in
theorem oy_99 : (m_okYi 108 816 815 0 (yX9_leastOf, cX9_leastOf, 1, (some .int), 109, [], po_99) && m_okH (yX9_leastOf, cX9_leastOf, 1, (some .int), 109, [], po_99)) = true := by decide +kernel
set_option maxRecDepth 1000000 in
theorem ok_100 : (po_100.all (m_okA (yX9_mostOf, cX9_mostOf, 1, (some .int), 109, [], po_100))) = true := by decide +kernel
set_option maxRecDepth 1000000 in
theorem oy_100 : (m_okYi 108 819 818 0 (yX9_mostOf, cX9_mostOf, 1, (some .int), 109, [], po_100) && m_okH (yX9_mostOf, cX9_mostOf, 1, (some .int), 109, [], po_100)) = true := by decide +kernel
set_option maxRecDepth 1000000 in
theorem ok_101 : (po_101.all (m_okA (yX9_readPath, cX9_readPath, 4, (some .boolean), 9, [], po_101))) = true := by decide +kernel
set_option maxRecDepth 1000000 in
theorem oy_101 : (m_okYi 108 800 799 7 (yX9_readPath, cX9_readPath, 4, (some .boolean), 9, [], po_101) && m_okH (yX9_readPath, cX9_readPath, 4, (some .boolean), 9, [], po_101)) = true := by decide +kernel
set_option maxRecDepth 1000000 in
theorem ok_102 : (po_102.all (m_okA (yX10_init, cX10_init, 1, none, 10, [], po_102))) = true := by decide +kernel
set_option maxRecDepth 1000000 in
theorem oy_102 : (m_okYi 117 456 455 0 (yX10_init, cX10_init, 1, none, 10, [], po_102) && m_okH (yX10_init, cX10_init, 1, none, 10, [], po_102)) = true := by decide +kernel
set_option maxRecDepth 1000000 in
theorem ok_103 : (po_103.all (m_okA (yX10_roundFrom, cX10_roundFrom, 9, (some .int), 10, [], po_103))) = true := by decide +kernel
set_option maxRecDepth 1000000 in
theorem oy_103 : (m_okYi 117 1269 1267 1268 (yX10_roundFrom, cX10_roundFrom, 9, (some .int), 10, [], po_103) && m_okH (yX10_roundFrom, cX10_roundFrom, 9, (some .int), 10, [], po_103)) = true := by decide +kernel
set_option maxRecDepth 1000000 in
theorem ok_104 : (po_104.all (m_okA (yX10_reach, cX10_reach, 5, none, 10, [], po_104))) = true := by decide +kernel
set_option maxRecDepth 1000000 in
theorem oy_104 : (m_okYi 117 1273 1272 33 (yX10_reach, cX10_reach, 5, none, 10, [], po_104) && m_okH (yX10_reach, cX10_reach, 5, none, 10, [], po_104)) = true := by decide +kernel
set_option maxRecDepth 1000000 in
theorem ok_105 : (po_105.all (m_okA (yX10_fewestGuards, cX10_fewestGuards, 8, (some .int), 10, [], po_105))) = true := by decide +kernel
set_option maxRecDepth 1000000 in
theorem oy_105 : (m_okYi 117 564 562 563 (yX10_fewestGuards, cX10_fewestGuards, 8, (some .int), 10, [], po_105) && m_okH (yX10_fewestGuards, cX10_fewestGuards, 8, (some .int), 10, [], po_105)) = true := by decide +kernel
set_option maxRecDepth 1000000 in
theorem ok_106 : (po_106.all (m_okA (yX10_guardedBy, cX10_guardedBy, 4, (some .int), 110, [], po_106))) = true := by decide +kernel
set_option maxRecDepth 1000000 in
theorem oy_106 : (m_okYi 117 573 572 0 (yX10_guardedBy, cX10_guardedBy, 4, (some .int), 110, [], po_106) && m_okH (yX10_guardedBy, cX10_guardedBy, 4, (some .int), 110, [], po_106)) = true := by decide +kernel
set_option maxRecDepth 1000000 in
theorem ok_107 : (po_107.all (m_okA (yX10_sets, cX10_sets, 5, (some .int), 10, [], po_107))) = true := by decide +kernel
set_option maxRecDepth 1000000 in
theorem oy_107 : (m_okYi 117 581 579 580 (yX10_sets, cX10_sets, 5, (some .int), 10, [], po_107) && m_okH (yX10_sets, cX10_sets, 5, (some .int), 10, [], po_107)) = true := by decide +kernel
set_option maxRecDepth 1000000 in
theorem ok_108 : (po_108.all (m_okA (yX10_hangingWith, cX10_hangingWith, 4, (some .int), 110, [], po_108))) = true := by decide +kernel
set_option maxRecDepth 1000000 in
theorem oy_108 : (m_okYi 117 584 583 0 (yX10_hangingWith, cX10_hangingWith, 4, (some .int), 110, [], po_108) && m_okH (yX10_hangingWith, cX10_hangingWith, 4, (some .int), 110, [], po_108)) = true := by decide +kernel
set_option maxRecDepth 1000000 in
theorem ok_109 : (po_109.all (m_okA (yX11_init, cX11_init, 1, none, 11, [], po_109))) = true := by decide +kernel
set_option maxRecDepth 1000000 in
theorem oy_109 : (m_okYi 106 135 134 0 (yX11_init, cX11_init, 1, none, 11, [], po_109) && m_okH (yX11_init, cX11_init, 1, none, 11, [], po_109)) = true := by decide +kernel
set_option maxRecDepth 1000000 in
theorem ok_110 : (po_110.all (m_okA (yX11_feed, cX11_feed, 6, (some .int), 11, [], po_110))) = true := by decide +kernel
set_option maxRecDepth 1000000 in
theorem oy_110 : (m_okYi 106 529 527 528 (yX11_feed, cX11_feed, 6, (some .int), 11, [], po_110) && m_okH (yX11_feed, cX11_feed, 6, (some .int), 11, [], po_110)) = true := by decide +kernel
set_option maxRecDepth 1000000 in
theorem ok_111 : (po_111.all (m_okA (yX11_village, cX11_village, 3, (some .int), 11, [], po_111))) = true := by decide +kernel
set_option maxRecDepth 1000000 in
theorem oy_111 : (m_okYi 106 621 619 620 (yX11_village, cX11_village, 3, (some .int), 11, [], po_111) && m_okH (yX11_village, cX11_village, 3, (some .int), 11, [], po_111)) = true := by decide +kernel
set_option maxRecDepth 1000000 in
theorem ok_112 : (po_112.all (m_okA (yX11_law, cX11_law, 3, (some .int), 11, [], po_112))) = true := by decide +kernel
set_option maxRecDepth 1000000 in
theorem oy_112 : (m_okYi 106 855 853 854 (yX11_law, cX11_law, 3, (some .int), 11, [], po_112) && m_okH (yX11_law, cX11_law, 3, (some .int), 11, [], po_112)) = true := by decide +kernel
set_option maxRecDepth 1000000 in
theorem ok_113 : (po_113.all (m_okA (yX11_work, cX11_work, 2, (some .int), 11, [], po_113))) = true := by decide +kernel
set_option maxRecDepth 1000000 in
theorem oy_113 : (m_okYi 106 912 910 911 (yX11_work, cX11_work, 2, (some .int), 11, [], po_113) && m_okH (yX11_work, cX11_work, 2, (some .int), 11, [], po_113)) = true := by decide +kernel
set_option maxRecDepth 1000000 in
theorem ok_114 : (po_114.all (m_okA (yX11_book, cX11_book, 3, (some .int), 11, [], po_114))) = true := by decide +kernel
set_option maxRecDepth 1000000 in
theorem oy_114 : (m_okYi 106 1065 1063 1064 (yX11_book, cX11_book, 3, (some .int), 11, [], po_114) && m_okH (yX11_book, cX11_book, 3, (some .int), 11, [], po_114)) = true := by decide +kernel
set_option maxRecDepth 1000000 in
theorem ok_115 : (po_115.all (m_okA (yX11_fault, cX11_fault, 1, (some .int), 11, [], po_115))) = true := by decide +kernel
set_option maxRecDepth 1000000 in
theorem oy_115 : (m_okYi 106 537 535 536 (yX11_fault, cX11_fault, 1, (some .int), 11, [], po_115) && m_okH (yX11_fault, cX11_fault, 1, (some .int), 11, [], po_115)) = true := by decide +kernel
set_option maxRecDepth 1000000 in
theorem ok_116 : (po_116.all (m_okA (yX11_undo, cX11_undo, 1, (some .int), 11, [], po_116))) = true := by decide +kernel
set_option maxRecDepth 1000000 in
theorem oy_116 : (m_okYi 106 541 539 540 (yX11_undo, cX11_undo, 1, (some .int), 11, [], po_116) && m_okH (yX11_undo, cX11_undo, 1, (some .int), 11, [], po_116)) = true := by decide +kernel
set_option maxRecDepth 1000000 in
theorem ok_117 : (po_117.all (m_okA (yX11_told, cX11_told, 2, (some .int), 11, [], po_117))) = true := by decide +kernel
set_option maxRecDepth 1000000 in
theorem oy_117 : (m_okYi 106 1085 1083 1084 (yX11_told, cX11_told, 2, (some .int), 11, [], po_117) && m_okH (yX11_told, cX11_told, 2, (some .int), 11, [], po_117)) = true := by decide +kernel
set_option maxRecDepth 1000000 in
theorem ok_118 : (po_118.all (m_okA (yX11_egg, cX11_egg, 3, (some .int), 11, [], po_118))) = true := by decide +kernel
set_option maxRecDepth 1000000 in
theorem oy_118 : (m_okYi 106 1105 1103 1104 (yX11_egg, cX11_egg, 3, (some .int), 11, [], po_118) && m_okH (yX11_egg, cX11_egg, 3, (some .int), 11, [], po_118)) = true := by decide +kernel
