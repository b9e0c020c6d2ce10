/-! every instruction of the program stands in the tables (written by program) -/
noncomputable def m_okA (mm : mMeth) (e : Nat × mOp) : Bool := m_okOp mP mSx mm e && decide (e.2.2.2.1 ≠ 305 ∨ m_ck e.2 ≠ 2)
set_option maxRecDepth 1000000 in
theorem ok_0 : (po_0.all (m_okA (yX0_init, cX0_init, 1, none, 0, [], po_0))) = true := by decide +kernel
set_option maxRecDepth 1000000 in
theorem oy_0 : (m_okYi 110 277 276 0 (yX0_init, cX0_init, 1, none, 0, [], po_0) && m_okH (yX0_init, cX0_init, 1, none, 0, [], po_0)) = true := by decide +kernel
set_option maxRecDepth 1000000 in
theorem ok_1 : (po_1.all (m_okA (yX0_forget, cX0_forget, 1, none, 0, [], po_1))) = true := by decide +kernel
set_option maxRecDepth 1000000 in
theorem oy_1 : (m_okYi 110 835 833 834 (yX0_forget, cX0_forget, 1, none, 0, [], po_1) && m_okH (yX0_forget, cX0_forget, 1, none, 0, [], po_1)) = true := by decide +kernel
set_option maxRecDepth 1000000 in
theorem ok_2 : (po_2.all (m_okA (yX0_read, cX0_read, 4, (some .boolean), 0, [], po_2))) = true := by decide +kernel
set_option maxRecDepth 1000000 in
theorem oy_2 : (m_okYi 110 1069 1067 1068 (yX0_read, cX0_read, 4, (some .boolean), 0, [], po_2) && m_okH (yX0_read, cX0_read, 4, (some .boolean), 0, [], po_2)) = true := by decide +kernel
set_option maxRecDepth 1000000 in
theorem ok_3 : (po_3.all (m_okA (yX0_readLine, cX0_readLine, 4, (some .boolean), 0, [], po_3))) = true := by decide +kernel
set_option maxRecDepth 1000000 in
theorem oy_3 : (m_okYi 110 1075 1074 25 (yX0_readLine, cX0_readLine, 4, (some .boolean), 0, [], po_3) && m_okH (yX0_readLine, cX0_readLine, 4, (some .boolean), 0, [], po_3)) = true := by decide +kernel
set_option maxRecDepth 1000000 in
theorem ok_4 : (po_4.all (m_okA (yX0_findPairs, cX0_findPairs, 7, none, 0, [], po_4))) = true := by decide +kernel
set_option maxRecDepth 1000000 in
theorem oy_4 : (m_okYi 110 1291 1289 1290 (yX0_findPairs, cX0_findPairs, 7, none, 0, [], po_4) && m_okH (yX0_findPairs, cX0_findPairs, 7, none, 0, [], po_4)) = true := by decide +kernel
set_option maxRecDepth 1000000 in
theorem ok_5 : (po_5.all (m_okA (yX0_isFit, cX0_isFit, 7, (some .boolean), 0, [], po_5))) = true := by decide +kernel
set_option maxRecDepth 1000000 in
theorem oy_5 : (m_okYi 110 1295 1294 34 (yX0_isFit, cX0_isFit, 7, (some .boolean), 0, [], po_5) && m_okH (yX0_isFit, cX0_isFit, 7, (some .boolean), 0, [], po_5)) = true := by decide +kernel
set_option maxRecDepth 1000000 in
theorem ok_6 : (po_6.all (m_okA (yX0_firstPair, cX0_firstPair, 2, (some .int), 0, [], po_6))) = true := by decide +kernel
set_option maxRecDepth 1000000 in
theorem oy_6 : (m_okYi 110 1303 1301 1302 (yX0_firstPair, cX0_firstPair, 2, (some .int), 0, [], po_6) && m_okH (yX0_firstPair, cX0_firstPair, 2, (some .int), 0, [], po_6)) = true := by decide +kernel
set_option maxRecDepth 1000000 in
theorem ok_7 : (po_7.all (m_okA (yX0_findLook, cX0_findLook, 6, none, 0, [], po_7))) = true := by decide +kernel
set_option maxRecDepth 1000000 in
theorem oy_7 : (m_okYi 110 1314 1312 1313 (yX0_findLook, cX0_findLook, 6, none, 0, [], po_7) && m_okH (yX0_findLook, cX0_findLook, 6, none, 0, [], po_7)) = true := by decide +kernel
set_option maxRecDepth 1000000 in
theorem ok_8 : (po_8.all (m_okA (yX0_mostLeftBy, cX0_mostLeftBy, 8, (some .int), 0, [], po_8))) = true := by decide +kernel
set_option maxRecDepth 1000000 in
theorem oy_8 : (m_okYi 110 1318 1317 35 (yX0_mostLeftBy, cX0_mostLeftBy, 8, (some .int), 0, [], po_8) && m_okH (yX0_mostLeftBy, cX0_mostLeftBy, 8, (some .int), 0, [], po_8)) = true := by decide +kernel
set_option maxRecDepth 1000000 in
theorem ok_9 : (po_9.all (m_okA (yX1_init, cX1_init, 1, none, 1, [], po_9))) = true := by decide +kernel
set_option maxRecDepth 1000000 in
theorem oy_9 : (m_okYi 116 443 442 0 (yX1_init, cX1_init, 1, none, 1, [], po_9) && m_okH (yX1_init, cX1_init, 1, none, 1, [], po_9)) = true := by decide +kernel
set_option maxRecDepth 1000000 in
theorem ok_10 : (po_10.all (m_okA (yX1_settle, cX1_settle, 8, none, 1, [], po_10))) = true := by decide +kernel
set_option maxRecDepth 1000000 in
theorem oy_10 : (m_okYi 116 1226 1224 1225 (yX1_settle, cX1_settle, 8, none, 1, [], po_10) && m_okH (yX1_settle, cX1_settle, 8, none, 1, [], po_10)) = true := by decide +kernel
set_option maxRecDepth 1000000 in
theorem ok_11 : (po_11.all (m_okA (yX1_mostFrom, cX1_mostFrom, 7, (some .int), 1, [], po_11))) = true := by decide +kernel
set_option maxRecDepth 1000000 in
theorem oy_11 : (m_okYi 116 1233 1232 30 (yX1_mostFrom, cX1_mostFrom, 7, (some .int), 1, [], po_11) && m_okH (yX1_mostFrom, cX1_mostFrom, 7, (some .int), 1, [], po_11)) = true := by decide +kernel
set_option maxRecDepth 1000000 in
theorem ok_12 : (po_12.all (m_okA (yX1_takenBy, cX1_takenBy, 4, (some .int), 1, [], po_12))) = true := by decide +kernel
set_option maxRecDepth 1000000 in
theorem oy_12 : (m_okYi 116 1238 1237 31 (yX1_takenBy, cX1_takenBy, 4, (some .int), 1, [], po_12) && m_okH (yX1_takenBy, cX1_takenBy, 4, (some .int), 1, [], po_12)) = true := by decide +kernel
set_option maxRecDepth 1000000 in
theorem ok_13 : (po_13.all (m_okA (yX1_taken, cX1_taken, 1, (some .int), 1, [], po_13))) = true := by decide +kernel
set_option maxRecDepth 1000000 in
theorem oy_13 : (m_okYi 116 1243 1241 1242 (yX1_taken, cX1_taken, 1, (some .int), 1, [], po_13) && m_okH (yX1_taken, cX1_taken, 1, (some .int), 1, [], po_13)) = true := by decide +kernel
set_option maxRecDepth 1000000 in
theorem ok_14 : (po_14.all (m_okA (yX1_holeOf, cX1_holeOf, 7, (some .int), 1, [], po_14))) = true := by decide +kernel
set_option maxRecDepth 1000000 in
theorem oy_14 : (m_okYi 116 1254 1252 1253 (yX1_holeOf, cX1_holeOf, 7, (some .int), 1, [], po_14) && m_okH (yX1_holeOf, cX1_holeOf, 7, (some .int), 1, [], po_14)) = true := by decide +kernel
set_option maxRecDepth 1000000 in
theorem ok_15 : (po_15.all (m_okA (yX1_firstHole, cX1_firstHole, 6, (some .int), 1, [], po_15))) = true := by decide +kernel
set_option maxRecDepth 1000000 in
theorem oy_15 : (m_okYi 116 1258 1257 32 (yX1_firstHole, cX1_firstHole, 6, (some .int), 1, [], po_15) && m_okH (yX1_firstHole, cX1_firstHole, 6, (some .int), 1, [], po_15)) = true := by decide +kernel
set_option maxRecDepth 1000000 in
theorem ok_16 : (po_16.all (m_okA (yX2_init, cX2_init, 2, none, 2, [], po_16))) = true := by decide +kernel
set_option maxRecDepth 1000000 in
theorem oy_16 : (m_okYi 115 421 420 0 (yX2_init, cX2_init, 2, none, 2, [], po_16) && m_okH (yX2_init, cX2_init, 2, none, 2, [], po_16)) = true := by decide +kernel
set_option maxRecDepth 1000000 in
theorem ok_17 : (po_17.all (m_okA (yX2_forget, cX2_forget, 1, none, 2, [], po_17))) = true := by decide +kernel
set_option maxRecDepth 1000000 in
theorem oy_17 : (m_okYi 115 843 841 842 (yX2_forget, cX2_forget, 1, none, 2, [], po_17) && m_okH (yX2_forget, cX2_forget, 1, none, 2, [], po_17)) = true := by decide +kernel
set_option maxRecDepth 1000000 in
theorem ok_18 : (po_18.all (m_okA (yX2_push, cX2_push, 3, (some .int), 2, [], po_18))) = true := by decide +kernel
set_option maxRecDepth 1000000 in
theorem oy_18 : (m_okYi 115 592 590 591 (yX2_push, cX2_push, 3, (some .int), 2, [], po_18) && m_okH (yX2_push, cX2_push, 3, (some .int), 2, [], po_18)) = true := by decide +kernel
set_option maxRecDepth 1000000 in
theorem ok_19 : (po_19.all (m_okA (yX2_pop, cX2_pop, 3, (some .boolean), 2, [], po_19))) = true := by decide +kernel
set_option maxRecDepth 1000000 in
theorem oy_19 : (m_okYi 115 605 603 604 (yX2_pop, cX2_pop, 3, (some .boolean), 2, [], po_19) && m_okH (yX2_pop, cX2_pop, 3, (some .boolean), 2, [], po_19)) = true := by decide +kernel
set_option maxRecDepth 1000000 in
theorem ok_20 : (po_20.all (m_okA (yX3_init, cX3_init, 1, none, 3, [], po_20))) = true := by decide +kernel
set_option maxRecDepth 1000000 in
theorem oy_20 : (m_okYi 109 258 257 0 (yX3_init, cX3_init, 1, none, 3, [], po_20) && m_okH (yX3_init, cX3_init, 1, none, 3, [], po_20)) = true := by decide +kernel
set_option maxRecDepth 1000000 in
theorem ok_21 : (po_21.all (m_okA (yX3_forget, cX3_forget, 1, none, 3, [], po_21))) = true := by decide +kernel
set_option maxRecDepth 1000000 in
theorem oy_21 : (m_okYi 109 831 829 830 (yX3_forget, cX3_forget, 1, none, 3, [], po_21) && m_okH (yX3_forget, cX3_forget, 1, none, 3, [], po_21)) = true := by decide +kernel
set_option maxRecDepth 1000000 in
theorem ok_22 : (po_22.all (m_okA (yX3_read, cX3_read, 2, (some .boolean), 3, [], po_22))) = true := by decide +kernel
set_option maxRecDepth 1000000 in
theorem oy_22 : (m_okYi 109 859 857 858 (yX3_read, cX3_read, 2, (some .boolean), 3, [], po_22) && m_okH (yX3_read, cX3_read, 2, (some .boolean), 3, [], po_22)) = true := by decide +kernel
set_option maxRecDepth 1000000 in
theorem ok_23 : (po_23.all (m_okA (yX3_readSum, cX3_readSum, 5, (some .boolean), 3, [], po_23))) = true := by decide +kernel
set_option maxRecDepth 1000000 in
theorem oy_23 : (m_okYi 109 864 863 10 (yX3_readSum, cX3_readSum, 5, (some .boolean), 3, [], po_23) && m_okH (yX3_readSum, cX3_readSum, 5, (some .boolean), 3, [], po_23)) = true := by decide +kernel
set_option maxRecDepth 1000000 in
theorem ok_24 : (po_24.all (m_okA (yX3_readProduct, cX3_readProduct, 5, (some .boolean), 3, [], po_24))) = true := by decide +kernel
set_option maxRecDepth 1000000 in
theorem oy_24 : (m_okYi 109 868 867 11 (yX3_readProduct, cX3_readProduct, 5, (some .boolean), 3, [], po_24) && m_okH (yX3_readProduct, cX3_readProduct, 5, (some .boolean), 3, [], po_24)) = true := by decide +kernel
set_option maxRecDepth 1000000 in
theorem ok_25 : (po_25.all (m_okA (yX3_readUnit, cX3_readUnit, 4, (some .boolean), 3, [], po_25))) = true := by decide +kernel
set_option maxRecDepth 1000000 in
theorem oy_25 : (m_okYi 109 872 871 12 (yX3_readUnit, cX3_readUnit, 4, (some .boolean), 3, [], po_25) && m_okH (yX3_readUnit, cX3_readUnit, 4, (some .boolean), 3, [], po_25)) = true := by decide +kernel
set_option maxRecDepth 1000000 in
theorem ok_26 : (po_26.all (m_okA (yX3_readNested, cX3_readNested, 3, (some .boolean), 3, [], po_26))) = true := by decide +kernel
set_option maxRecDepth 1000000 in
theorem oy_26 : (m_okYi 109 877 876 13 (yX3_readNested, cX3_readNested, 3, (some .boolean), 3, [], po_26) && m_okH (yX3_readNested, cX3_readNested, 3, (some .boolean), 3, [], po_26)) = true := by decide +kernel
set_option maxRecDepth 1000000 in
theorem ok_27 : (po_27.all (m_okA (yX3_readChoice, cX3_readChoice, 4, (some .boolean), 3, [], po_27))) = true := by decide +kernel
set_option maxRecDepth 1000000 in
theorem oy_27 : (m_okYi 109 892 891 15 (yX3_readChoice, cX3_readChoice, 4, (some .boolean), 3, [], po_27) && m_okH (yX3_readChoice, cX3_readChoice, 4, (some .boolean), 3, [], po_27)) = true := by decide +kernel
set_option maxRecDepth 1000000 in
theorem ok_28 : (po_28.all (m_okA (yX3_factOf, cX3_factOf, 1, (some .int), 103, [], po_28))) = true := by decide +kernel
set_option maxRecDepth 1000000 in
theorem oy_28 : (m_okYi 109 896 895 0 (yX3_factOf, cX3_factOf, 1, (some .int), 103, [], po_28) && m_okH (yX3_factOf, cX3_factOf, 1, (some .int), 103, [], po_28)) = true := by decide +kernel
set_option maxRecDepth 1000000 in
theorem ok_29 : (po_29.all (m_okA (yX3_put, cX3_put, 2, (some .boolean), 3, [], po_29))) = true := by decide +kernel
set_option maxRecDepth 1000000 in
theorem oy_29 : (m_okYi 109 885 884 14 (yX3_put, cX3_put, 2, (some .boolean), 3, [], po_29) && m_okH (yX3_put, cX3_put, 2, (some .boolean), 3, [], po_29)) = true := by decide +kernel
set_option maxRecDepth 1000000 in
theorem ok_30 : (po_30.all (m_okA (yX3_setThings, cX3_setThings, 5, none, 3, [], po_30))) = true := by decide +kernel
set_option maxRecDepth 1000000 in
theorem oy_30 : (m_okYi 109 1001 999 1000 (yX3_setThings, cX3_setThings, 5, none, 3, [], po_30) && m_okH (yX3_setThings, cX3_setThings, 5, none, 3, [], po_30)) = true := by decide +kernel
set_option maxRecDepth 1000000 in
theorem ok_31 : (po_31.all (m_okA (yX3_setPlace, cX3_setPlace, 5, none, 3, [], po_31))) = true := by decide +kernel
set_option maxRecDepth 1000000 in
theorem oy_31 : (m_okYi 109 1005 1003 1004 (yX3_setPlace, cX3_setPlace, 5, none, 3, [], po_31) && m_okH (yX3_setPlace, cX3_setPlace, 5, none, 3, [], po_31)) = true := by decide +kernel
set_option maxRecDepth 1000000 in
theorem ok_32 : (po_32.all (m_okA (yX3_mends, cX3_mends, 4, (some .int), 3, [], po_32))) = true := by decide +kernel
set_option maxRecDepth 1000000 in
theorem oy_32 : (m_okYi 109 1009 1007 1008 (yX3_mends, cX3_mends, 4, (some .int), 3, [], po_32) && m_okH (yX3_mends, cX3_mends, 4, (some .int), 3, [], po_32)) = true := by decide +kernel
set_option maxRecDepth 1000000 in
theorem ok_33 : (po_33.all (m_okA (yX3_valueOf, cX3_valueOf, 3, (some .int), 103, [], po_33))) = true := by decide +kernel
set_option maxRecDepth 1000000 in
theorem oy_33 : (m_okYi 109 1012 1011 0 (yX3_valueOf, cX3_valueOf, 3, (some .int), 103, [], po_33) && m_okH (yX3_valueOf, cX3_valueOf, 3, (some .int), 103, [], po_33)) = true := by decide +kernel
set_option maxRecDepth 1000000 in
theorem ok_34 : (po_34.all (m_okA (yX4_init, cX4_init, 2, none, 4, [], po_34))) = true := by decide +kernel
set_option maxRecDepth 1000000 in
theorem oy_34 : (m_okYi 114 404 403 0 (yX4_init, cX4_init, 2, none, 4, [], po_34) && m_okH (yX4_init, cX4_init, 2, none, 4, [], po_34)) = true := by decide +kernel
set_option maxRecDepth 1000000 in
theorem ok_35 : (po_35.all (m_okA (yX4_forget, cX4_forget, 1, none, 4, [], po_35))) = true := by decide +kernel
set_option maxRecDepth 1000000 in
theorem oy_35 : (m_okYi 114 839 837 838 (yX4_forget, cX4_forget, 1, none, 4, [], po_35) && m_okH (yX4_forget, cX4_forget, 1, none, 4, [], po_35)) = true := by decide +kernel
set_option maxRecDepth 1000000 in
theorem ok_36 : (po_36.all (m_okA (yX4_isFull, cX4_isFull, 1, (some .boolean), 4, [], po_36))) = true := by decide +kernel
set_option maxRecDepth 1000000 in
theorem oy_36 : (m_okYi 114 916 914 915 (yX4_isFull, cX4_isFull, 1, (some .boolean), 4, [], po_36) && m_okH (yX4_isFull, cX4_isFull, 1, (some .boolean), 4, [], po_36)) = true := by decide +kernel
set_option maxRecDepth 1000000 in
theorem ok_37 : (po_37.all (m_okA (yX4_push, cX4_push, 2, none, 4, [], po_37))) = true := by decide +kernel
set_option maxRecDepth 1000000 in
theorem oy_37 : (m_okYi 114 961 959 960 (yX4_push, cX4_push, 2, none, 4, [], po_37) && m_okH (yX4_push, cX4_push, 2, none, 4, [], po_37)) = true := by decide +kernel
set_option maxRecDepth 1000000 in
theorem ok_38 : (po_38.all (m_okA (yX4_pop, cX4_pop, 2, (some .boolean), 4, [], po_38))) = true := by decide +kernel
set_option maxRecDepth 1000000 in
theorem oy_38 : (m_okYi 114 545 543 544 (yX4_pop, cX4_pop, 2, (some .boolean), 4, [], po_38) && m_okH (yX4_pop, cX4_pop, 2, (some .boolean), 4, [], po_38)) = true := by decide +kernel
set_option maxRecDepth 1000000 in
theorem ok_39 : (po_39.all (m_okA (yX4_copy, cX4_copy, 3, none, 4, [], po_39))) = true := by decide +kernel
set_option maxRecDepth 1000000 in
theorem oy_39 : (m_okYi 114 597 595 596 (yX4_copy, cX4_copy, 3, none, 4, [], po_39) && m_okH (yX4_copy, cX4_copy, 3, none, 4, [], po_39)) = true := by decide +kernel
set_option maxRecDepth 1000000 in
theorem ok_40 : (po_40.all (m_okA (yX5_init, cX5_init, 1, none, 5, [], po_40))) = true := by decide +kernel
set_option maxRecDepth 1000000 in
theorem oy_40 : (m_okYi 113 393 392 0 (yX5_init, cX5_init, 1, none, 5, [], po_40) && m_okH (yX5_init, cX5_init, 1, none, 5, [], po_40)) = true := by decide +kernel
set_option maxRecDepth 1000000 in
theorem ok_41 : (po_41.all (m_okA (yX5_draw, cX5_draw, 2, (some .int), 5, [], po_41))) = true := by decide +kernel
set_option maxRecDepth 1000000 in
theorem oy_41 : (m_okYi 113 1397 1395 1396 (yX5_draw, cX5_draw, 2, (some .int), 5, [], po_41) && m_okH (yX5_draw, cX5_draw, 2, (some .int), 5, [], po_41)) = true := by decide +kernel
set_option maxRecDepth 1000000 in
theorem ok_42 : (po_42.all (m_okA (yX6_init, cX6_init, 2, none, 6, [], po_42))) = true := by decide +kernel
set_option maxRecDepth 1000000 in
theorem oy_42 : (m_okYi 112 349 348 0 (yX6_init, cX6_init, 2, none, 6, [], po_42) && m_okH (yX6_init, cX6_init, 2, none, 6, [], po_42)) = true := by decide +kernel
set_option maxRecDepth 1000000 in
theorem ok_43 : (po_43.all (m_okA (yX6_start, cX6_start, 3, none, 6, [], po_43))) = true := by decide +kernel
set_option maxRecDepth 1000000 in
theorem oy_43 : (m_okYi 112 847 845 846 (yX6_start, cX6_start, 3, none, 6, [], po_43) && m_okH (yX6_start, cX6_start, 3, none, 6, [], po_43)) = true := by decide +kernel
set_option maxRecDepth 1000000 in
theorem ok_44 : (po_44.all (m_okA (yX6_copy, cX6_copy, 2, none, 6, [], po_44))) = true := by decide +kernel
set_option maxRecDepth 1000000 in
theorem oy_44 : (m_okYi 112 549 547 548 (yX6_copy, cX6_copy, 2, none, 6, [], po_44) && m_okH (yX6_copy, cX6_copy, 2, none, 6, [], po_44)) = true := by decide +kernel
set_option maxRecDepth 1000000 in
theorem ok_45 : (po_45.all (m_okA (yX6_isHatched, cX6_isHatched, 3, (some .boolean), 6, [], po_45))) = true := by decide +kernel
set_option maxRecDepth 1000000 in
theorem oy_45 : (m_okYi 112 989 987 988 (yX6_isHatched, cX6_isHatched, 3, (some .boolean), 6, [], po_45) && m_okH (yX6_isHatched, cX6_isHatched, 3, (some .boolean), 6, [], po_45)) = true := by decide +kernel
set_option maxRecDepth 1000000 in
theorem ok_46 : (po_46.all (m_okA (yX6_isHooked, cX6_isHooked, 2, (some .boolean), 6, [], po_46))) = true := by decide +kernel
set_option maxRecDepth 1000000 in
theorem oy_46 : (m_okYi 112 1050 1048 1049 (yX6_isHooked, cX6_isHooked, 2, (some .boolean), 6, [], po_46) && m_okH (yX6_isHooked, cX6_isHooked, 2, (some .boolean), 6, [], po_46)) = true := by decide +kernel
set_option maxRecDepth 1000000 in
theorem ok_47 : (po_47.all (m_okA (yX6_darnedToday, cX6_darnedToday, 2, (some .boolean), 6, [], po_47))) = true := by decide +kernel
set_option maxRecDepth 1000000 in
theorem oy_47 : (m_okYi 112 993 991 992 (yX6_darnedToday, cX6_darnedToday, 2, (some .boolean), 6, [], po_47) && m_okH (yX6_darnedToday, cX6_darnedToday, 2, (some .boolean), 6, [], po_47)) = true := by decide +kernel
set_option maxRecDepth 1000000 in
theorem ok_48 : (po_48.all (m_okA (yX6_mendBy, cX6_mendBy, 6, (some .int), 6, [], po_48))) = true := by decide +kernel
set_option maxRecDepth 1000000 in
theorem oy_48 : (m_okYi 112 997 995 996 (yX6_mendBy, cX6_mendBy, 6, (some .int), 6, [], po_48) && m_okH (yX6_mendBy, cX6_mendBy, 6, (some .int), 6, [], po_48)) = true := by decide +kernel
set_option maxRecDepth 1000000 in
theorem ok_49 : (po_49.all (m_okA (yX6_wearLeft, cX6_wearLeft, 6, (some .int), 6, [], po_49))) = true := by decide +kernel
set_option maxRecDepth 1000000 in
theorem oy_49 : (m_okYi 112 1299 1297 1298 (yX6_wearLeft, cX6_wearLeft, 6, (some .int), 6, [], po_49) && m_okH (yX6_wearLeft, cX6_wearLeft, 6, (some .int), 6, [], po_49)) = true := by decide +kernel
set_option maxRecDepth 1000000 in
theorem ok_50 : (po_50.all (m_okA (yX6_canDarn, cX6_canDarn, 5, (some .boolean), 6, [], po_50))) = true := by decide +kernel
set_option maxRecDepth 1000000 in
theorem oy_50 : (m_okYi 112 985 983 984 (yX6_canDarn, cX6_canDarn, 5, (some .boolean), 6, [], po_50) && m_okH (yX6_canDarn, cX6_canDarn, 5, (some .boolean), 6, [], po_50)) = true := by decide +kernel
set_option maxRecDepth 1000000 in
theorem ok_51 : (po_51.all (m_okA (yX6_darn, cX6_darn, 8, (some .boolean), 6, [], po_51))) = true := by decide +kernel
set_option maxRecDepth 1000000 in
theorem oy_51 : (m_okYi 112 981 979 980 (yX6_darn, cX6_darn, 8, (some .boolean), 6, [], po_51) && m_okH (yX6_darn, cX6_darn, 8, (some .boolean), 6, [], po_51)) = true := by decide +kernel
set_option maxRecDepth 1000000 in
theorem ok_52 : (po_52.all (m_okA (yX6_letOut, cX6_letOut, 4, (some .boolean), 6, [], po_52))) = true := by decide +kernel
set_option maxRecDepth 1000000 in
theorem oy_52 : (m_okYi 112 1022 1020 1021 (yX6_letOut, cX6_letOut, 4, (some .boolean), 6, [], po_52) && m_okH (yX6_letOut, cX6_letOut, 4, (some .boolean), 6, [], po_52)) = true := by decide +kernel
set_option maxRecDepth 1000000 in
theorem ok_53 : (po_53.all (m_okA (yX6_callIn, cX6_callIn, 2, (some .boolean), 6, [], po_53))) = true := by decide +kernel
set_option maxRecDepth 1000000 in
theorem oy_53 : (m_okYi 112 1026 1024 1025 (yX6_callIn, cX6_callIn, 2, (some .boolean), 6, [], po_53) && m_okH (yX6_callIn, cX6_callIn, 2, (some .boolean), 6, [], po_53)) = true := by decide +kernel
set_option maxRecDepth 1000000 in
theorem ok_54 : (po_54.all (m_okA (yX6_unpick, cX6_unpick, 3, (some .boolean), 6, [], po_54))) = true := by decide +kernel
set_option maxRecDepth 1000000 in
theorem oy_54 : (m_okYi 112 1030 1028 1029 (yX6_unpick, cX6_unpick, 3, (some .boolean), 6, [], po_54) && m_okH (yX6_unpick, cX6_unpick, 3, (some .boolean), 6, [], po_54)) = true := by decide +kernel
set_option maxRecDepth 1000000 in
theorem ok_55 : (po_55.all (m_okA (yX6_shear, cX6_shear, 2, (some .boolean), 6, [], po_55))) = true := by decide +kernel
set_option maxRecDepth 1000000 in
theorem oy_55 : (m_okYi 112 1034 1032 1033 (yX6_shear, cX6_shear, 2, (some .boolean), 6, [], po_55) && m_okH (yX6_shear, cX6_shear, 2, (some .boolean), 6, [], po_55)) = true := by decide +kernel
set_option maxRecDepth 1000000 in
theorem ok_56 : (po_56.all (m_okA (yX6_endDay, cX6_endDay, 2, (some .boolean), 6, [], po_56))) = true := by decide +kernel
set_option maxRecDepth 1000000 in
theorem oy_56 : (m_okYi 112 1038 1036 1037 (yX6_endDay, cX6_endDay, 2, (some .boolean), 6, [], po_56) && m_okH (yX6_endDay, cX6_endDay, 2, (some .boolean), 6, [], po_56)) = true := by decide +kernel
set_option maxRecDepth 1000000 in
theorem ok_57 : (po_57.all (m_okA (yX6_passDay, cX6_passDay, 3, none, 6, [], po_57))) = true := by decide +kernel
set_option maxRecDepth 1000000 in
theorem oy_57 : (m_okYi 112 1042 1040 1041 (yX6_passDay, cX6_passDay, 3, none, 6, [], po_57) && m_okH (yX6_passDay, cX6_passDay, 3, none, 6, [], po_57)) = true := by decide +kernel
set_option maxRecDepth 1000000 in
theorem ok_58 : (po_58.all (m_okA (yX6_doItsPart, cX6_doItsPart, 5, none, 6, [], po_58))) = true := by decide +kernel
set_option maxRecDepth 1000000 in
theorem oy_58 : (m_okYi 112 1046 1045 23 (yX6_doItsPart, cX6_doItsPart, 5, none, 6, [], po_58) && m_okH (yX6_doItsPart, cX6_doItsPart, 5, none, 6, [], po_58)) = true := by decide +kernel
set_option maxRecDepth 1000000 in
theorem ok_59 : (po_59.all (m_okA (yX6_mostWorn, cX6_mostWorn, 6, (some .int), 6, [], po_59))) = true := by decide +kernel
set_option maxRecDepth 1000000 in
theorem oy_59 : (m_okYi 112 1054 1052 1053 (yX6_mostWorn, cX6_mostWorn, 6, (some .int), 6, [], po_59) && m_okH (yX6_mostWorn, cX6_mostWorn, 6, (some .int), 6, [], po_59)) = true := by decide +kernel
