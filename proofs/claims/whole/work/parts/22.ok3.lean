/-! every instruction of the program stands in the tables (written by program) -/
set_option maxRecDepth 1000000 in
theorem ok_185 : (po_185.all (m_okA (yX12_readRow, cX12_readRow, 2, none, 12, [], po_185))) = true := by decide +kernel
set_option maxRecDepth 1000000 in
theorem oy_185 : (m_okYi 118 1680 1679 51 (yX12_readRow, cX12_readRow, 2, none, 12, [], po_185) && m_okH (yX12_readRow, cX12_readRow, 2, none, 12, [], po_185)) = true := by decide +kernel
set_option maxRecDepth 1000000 in
theorem ok_186 : (po_186.all (m_okA (yX12_village, cX12_village, 4, (some .int), 12, [], po_186))) = true := by decide +kernel
set_option maxRecDepth 1000000 in
theorem oy_186 : (m_okYi 118 1623 1621 1622 (yX12_village, cX12_village, 4, (some .int), 12, [], po_186) && m_okH (yX12_village, cX12_village, 4, (some .int), 12, [], po_186)) = true := by decide +kernel
set_option maxRecDepth 1000000 in
theorem ok_187 : (po_187.all (m_okA (yX12_emit, cX12_emit, 3, none, 12, [], po_187))) = true := by decide +kernel
set_option maxRecDepth 1000000 in
theorem oy_187 : (m_okYi 118 1723 1722 60 (yX12_emit, cX12_emit, 3, none, 12, [], po_187) && m_okH (yX12_emit, cX12_emit, 3, none, 12, [], po_187)) = true := by decide +kernel
set_option maxRecDepth 1000000 in
theorem ok_188 : (po_188.all (m_okA (yX12_opensOne, cX12_opensOne, 2, none, 12, [], po_188))) = true := by decide +kernel
set_option maxRecDepth 1000000 in
theorem oy_188 : (m_okYi 118 1719 1718 59 (yX12_opensOne, cX12_opensOne, 2, none, 12, [], po_188) && m_okH (yX12_opensOne, cX12_opensOne, 2, none, 12, [], po_188)) = true := by decide +kernel
set_option maxRecDepth 1000000 in
theorem ok_189 : (po_189.all (m_okA (yX12_readSum, cX12_readSum, 2, none, 12, [], po_189))) = true := by decide +kernel
set_option maxRecDepth 1000000 in
theorem oy_189 : (m_okYi 118 1707 1706 56 (yX12_readSum, cX12_readSum, 2, none, 12, [], po_189) && m_okH (yX12_readSum, cX12_readSum, 2, none, 12, [], po_189)) = true := by decide +kernel
set_option maxRecDepth 1000000 in
theorem ok_190 : (po_190.all (m_okA (yX12_readProduct, cX12_readProduct, 2, none, 12, [], po_190))) = true := by decide +kernel
set_option maxRecDepth 1000000 in
theorem oy_190 : (m_okYi 118 1711 1710 57 (yX12_readProduct, cX12_readProduct, 2, none, 12, [], po_190) && m_okH (yX12_readProduct, cX12_readProduct, 2, none, 12, [], po_190)) = true := by decide +kernel
set_option maxRecDepth 1000000 in
theorem ok_191 : (po_191.all (m_okA (yX12_readTwo, cX12_readTwo, 3, none, 12, [], po_191))) = true := by decide +kernel
set_option maxRecDepth 1000000 in
theorem oy_191 : (m_okYi 118 1728 1727 61 (yX12_readTwo, cX12_readTwo, 3, none, 12, [], po_191) && m_okH (yX12_readTwo, cX12_readTwo, 3, none, 12, [], po_191)) = true := by decide +kernel
set_option maxRecDepth 1000000 in
theorem ok_192 : (po_192.all (m_okA (yX12_factHere, cX12_factHere, 2, (some .int), 12, [], po_192))) = true := by decide +kernel
set_option maxRecDepth 1000000 in
theorem oy_192 : (m_okYi 118 1733 1732 62 (yX12_factHere, cX12_factHere, 2, (some .int), 12, [], po_192) && m_okH (yX12_factHere, cX12_factHere, 2, (some .int), 12, [], po_192)) = true := by decide +kernel
set_option maxRecDepth 1000000 in
theorem ok_193 : (po_193.all (m_okA (yX12_readUnit, cX12_readUnit, 2, none, 12, [], po_193))) = true := by decide +kernel
set_option maxRecDepth 1000000 in
theorem oy_193 : (m_okYi 118 1715 1714 58 (yX12_readUnit, cX12_readUnit, 2, none, 12, [], po_193) && m_okH (yX12_readUnit, cX12_readUnit, 2, none, 12, [], po_193)) = true := by decide +kernel
set_option maxRecDepth 1000000 in
theorem ok_194 : (po_194.all (m_okA (yX12_law, cX12_law, 3, (some .int), 12, [], po_194))) = true := by decide +kernel
set_option maxRecDepth 1000000 in
theorem oy_194 : (m_okYi 118 1703 1701 1702 (yX12_law, cX12_law, 3, (some .int), 12, [], po_194) && m_okH (yX12_law, cX12_law, 3, (some .int), 12, [], po_194)) = true := by decide +kernel
set_option maxRecDepth 1000000 in
theorem ok_195 : (po_195.all (m_okA (yX12_valueNow, cX12_valueNow, 4, (some .int), 12, [], po_195))) = true := by decide +kernel
set_option maxRecDepth 1000000 in
theorem oy_195 : (m_okYi 118 1805 1804 76 (yX12_valueNow, cX12_valueNow, 4, (some .int), 12, [], po_195) && m_okH (yX12_valueNow, cX12_valueNow, 4, (some .int), 12, [], po_195)) = true := by decide +kernel
set_option maxRecDepth 1000000 in
theorem ok_196 : (po_196.all (m_okA (yX12_both, cX12_both, 3, (some .int), 112, [], po_196))) = true := by decide +kernel
set_option maxRecDepth 1000000 in
theorem oy_196 : (m_okYi 118 1808 1807 0 (yX12_both, cX12_both, 3, (some .int), 112, [], po_196) && m_okH (yX12_both, cX12_both, 3, (some .int), 112, [], po_196)) = true := by decide +kernel
set_option maxRecDepth 1000000 in
theorem ok_197 : (po_197.all (m_okA (yX12_mendNow, cX12_mendNow, 2, (some .int), 12, [], po_197))) = true := by decide +kernel
set_option maxRecDepth 1000000 in
theorem oy_197 : (m_okYi 118 1801 1800 75 (yX12_mendNow, cX12_mendNow, 2, (some .int), 12, [], po_197) && m_okH (yX12_mendNow, cX12_mendNow, 2, (some .int), 12, [], po_197)) = true := by decide +kernel
set_option maxRecDepth 1000000 in
theorem ok_198 : (po_198.all (m_okA (yX12_tellsStep, cX12_tellsStep, 5, none, 12, [], po_198))) = true := by decide +kernel
set_option maxRecDepth 1000000 in
theorem oy_198 : (m_okYi 118 1760 1759 66 (yX12_tellsStep, cX12_tellsStep, 5, none, 12, [], po_198) && m_okH (yX12_tellsStep, cX12_tellsStep, 5, none, 12, [], po_198)) = true := by decide +kernel
set_option maxRecDepth 1000000 in
theorem ok_199 : (po_199.all (m_okA (yX12_readEgg, cX12_readEgg, 1, (some .int), 12, [], po_199))) = true := by decide +kernel
set_option maxRecDepth 1000000 in
theorem oy_199 : (m_okYi 118 1752 1751 64 (yX12_readEgg, cX12_readEgg, 1, (some .int), 12, [], po_199) && m_okH (yX12_readEgg, cX12_readEgg, 1, (some .int), 12, [], po_199)) = true := by decide +kernel
set_option maxRecDepth 1000000 in
theorem ok_200 : (po_200.all (m_okA (yX12_readHole, cX12_readHole, 1, (some .int), 12, [], po_200))) = true := by decide +kernel
set_option maxRecDepth 1000000 in
theorem oy_200 : (m_okYi 118 1756 1755 65 (yX12_readHole, cX12_readHole, 1, (some .int), 12, [], po_200) && m_okH (yX12_readHole, cX12_readHole, 1, (some .int), 12, [], po_200)) = true := by decide +kernel
set_option maxRecDepth 1000000 in
theorem ok_201 : (po_201.all (m_okA (yX12_readStep, cX12_readStep, 4, none, 12, [], po_201))) = true := by decide +kernel
set_option maxRecDepth 1000000 in
theorem oy_201 : (m_okYi 118 1747 1746 63 (yX12_readStep, cX12_readStep, 4, none, 12, [], po_201) && m_okH (yX12_readStep, cX12_readStep, 4, none, 12, [], po_201)) = true := by decide +kernel
set_option maxRecDepth 1000000 in
theorem ok_202 : (po_202.all (m_okA (yX12_work, cX12_work, 4, (some .int), 12, [], po_202))) = true := by decide +kernel
set_option maxRecDepth 1000000 in
theorem oy_202 : (m_okYi 118 1743 1741 1742 (yX12_work, cX12_work, 4, (some .int), 12, [], po_202) && m_okH (yX12_work, cX12_work, 4, (some .int), 12, [], po_202)) = true := by decide +kernel
set_option maxRecDepth 1000000 in
theorem ok_203 : (po_203.all (m_okA (yX12_goesSteps, cX12_goesSteps, 6, none, 12, [], po_203))) = true := by decide +kernel
set_option maxRecDepth 1000000 in
theorem oy_203 : (m_okYi 118 1773 1772 68 (yX12_goesSteps, cX12_goesSteps, 6, none, 12, [], po_203) && m_okH (yX12_goesSteps, cX12_goesSteps, 6, none, 12, [], po_203)) = true := by decide +kernel
set_option maxRecDepth 1000000 in
theorem ok_204 : (po_204.all (m_okA (yX12_take, cX12_take, 1, none, 12, [], po_204))) = true := by decide +kernel
set_option maxRecDepth 1000000 in
theorem oy_204 : (m_okYi 118 1769 1768 67 (yX12_take, cX12_take, 1, none, 12, [], po_204) && m_okH (yX12_take, cX12_take, 1, none, 12, [], po_204)) = true := by decide +kernel
set_option maxRecDepth 1000000 in
theorem ok_205 : (po_205.all (m_okA (yX12_pathsOf, cX12_pathsOf, 4, (some .int), 12, [], po_205))) = true := by decide +kernel
set_option maxRecDepth 1000000 in
theorem oy_205 : (m_okYi 118 1835 1834 82 (yX12_pathsOf, cX12_pathsOf, 4, (some .int), 12, [], po_205) && m_okH (yX12_pathsOf, cX12_pathsOf, 4, (some .int), 12, [], po_205)) = true := by decide +kernel
set_option maxRecDepth 1000000 in
theorem ok_206 : (po_206.all (m_okA (yX12_mendOf, cX12_mendOf, 9, (some .int), 12, [], po_206))) = true := by decide +kernel
set_option maxRecDepth 1000000 in
theorem oy_206 : (m_okYi 118 1797 1796 74 (yX12_mendOf, cX12_mendOf, 9, (some .int), 12, [], po_206) && m_okH (yX12_mendOf, cX12_mendOf, 9, (some .int), 12, [], po_206)) = true := by decide +kernel
set_option maxRecDepth 1000000 in
theorem ok_207 : (po_207.all (m_okA (yX12_mendBy, cX12_mendBy, 4, (some .int), 12, [], po_207))) = true := by decide +kernel
set_option maxRecDepth 1000000 in
theorem oy_207 : (m_okYi 118 1793 1792 73 (yX12_mendBy, cX12_mendBy, 4, (some .int), 12, [], po_207) && m_okH (yX12_mendBy, cX12_mendBy, 4, (some .int), 12, [], po_207)) = true := by decide +kernel
set_option maxRecDepth 1000000 in
theorem ok_208 : (po_208.all (m_okA (yX12_isHatched, cX12_isHatched, 2, (some .boolean), 12, [], po_208))) = true := by decide +kernel
set_option maxRecDepth 1000000 in
theorem oy_208 : (m_okYi 118 1789 1788 72 (yX12_isHatched, cX12_isHatched, 2, (some .boolean), 12, [], po_208) && m_okH (yX12_isHatched, cX12_isHatched, 2, (some .boolean), 12, [], po_208)) = true := by decide +kernel
set_option maxRecDepth 1000000 in
theorem ok_209 : (po_209.all (m_okA (yX12_isHooked, cX12_isHooked, 2, (some .boolean), 12, [], po_209))) = true := by decide +kernel
set_option maxRecDepth 1000000 in
theorem oy_209 : (m_okYi 118 1831 1830 81 (yX12_isHooked, cX12_isHooked, 2, (some .boolean), 12, [], po_209) && m_okH (yX12_isHooked, cX12_isHooked, 2, (some .boolean), 12, [], po_209)) = true := by decide +kernel
set_option maxRecDepth 1000000 in
theorem ok_210 : (po_210.all (m_okA (yX12_held, cX12_held, 1, (some .int), 112, [], po_210))) = true := by decide +kernel
set_option maxRecDepth 1000000 in
theorem oy_210 : (m_okYi 118 1811 1810 0 (yX12_held, cX12_held, 1, (some .int), 112, [], po_210) && m_okH (yX12_held, cX12_held, 1, (some .int), 112, [], po_210)) = true := by decide +kernel
set_option maxRecDepth 1000000 in
theorem ok_211 : (po_211.all (m_okA (yX12_canDarn, cX12_canDarn, 4, (some .boolean), 12, [], po_211))) = true := by decide +kernel
set_option maxRecDepth 1000000 in
theorem oy_211 : (m_okYi 118 1785 1784 71 (yX12_canDarn, cX12_canDarn, 4, (some .boolean), 12, [], po_211) && m_okH (yX12_canDarn, cX12_canDarn, 4, (some .boolean), 12, [], po_211)) = true := by decide +kernel
set_option maxRecDepth 1000000 in
theorem ok_212 : (po_212.all (m_okA (yX12_darns, cX12_darns, 5, (some .boolean), 12, [], po_212))) = true := by decide +kernel
set_option maxRecDepth 1000000 in
theorem oy_212 : (m_okYi 118 1781 1780 70 (yX12_darns, cX12_darns, 5, (some .boolean), 12, [], po_212) && m_okH (yX12_darns, cX12_darns, 5, (some .boolean), 12, [], po_212)) = true := by decide +kernel
set_option maxRecDepth 1000000 in
theorem ok_213 : (po_213.all (m_okA (yX12_lets, cX12_lets, 3, (some .boolean), 12, [], po_213))) = true := by decide +kernel
set_option maxRecDepth 1000000 in
theorem oy_213 : (m_okYi 118 1815 1814 77 (yX12_lets, cX12_lets, 3, (some .boolean), 12, [], po_213) && m_okH (yX12_lets, cX12_lets, 3, (some .boolean), 12, [], po_213)) = true := by decide +kernel
set_option maxRecDepth 1000000 in
theorem ok_214 : (po_214.all (m_okA (yX12_unpicks, cX12_unpicks, 3, (some .boolean), 12, [], po_214))) = true := by decide +kernel
set_option maxRecDepth 1000000 in
theorem oy_214 : (m_okYi 118 1819 1818 78 (yX12_unpicks, cX12_unpicks, 3, (some .boolean), 12, [], po_214) && m_okH (yX12_unpicks, cX12_unpicks, 3, (some .boolean), 12, [], po_214)) = true := by decide +kernel
set_option maxRecDepth 1000000 in
theorem ok_215 : (po_215.all (m_okA (yX12_acts, cX12_acts, 5, none, 12, [], po_215))) = true := by decide +kernel
set_option maxRecDepth 1000000 in
theorem oy_215 : (m_okYi 118 1827 1826 80 (yX12_acts, cX12_acts, 5, none, 12, [], po_215) && m_okH (yX12_acts, cX12_acts, 5, none, 12, [], po_215)) = true := by decide +kernel
set_option maxRecDepth 1000000 in
theorem ok_216 : (po_216.all (m_okA (yX12_passes, cX12_passes, 3, none, 12, [], po_216))) = true := by decide +kernel
set_option maxRecDepth 1000000 in
theorem oy_216 : (m_okYi 118 1823 1822 79 (yX12_passes, cX12_passes, 3, none, 12, [], po_216) && m_okH (yX12_passes, cX12_passes, 3, none, 12, [], po_216)) = true := by decide +kernel
set_option maxRecDepth 1000000 in
theorem ok_217 : (po_217.all (m_okA (yX12_isDone, cX12_isDone, 5, (some .boolean), 12, [], po_217))) = true := by decide +kernel
set_option maxRecDepth 1000000 in
theorem oy_217 : (m_okYi 118 1777 1776 69 (yX12_isDone, cX12_isDone, 5, (some .boolean), 12, [], po_217) && m_okH (yX12_isDone, cX12_isDone, 5, (some .boolean), 12, [], po_217)) = true := by decide +kernel
set_option maxRecDepth 1000000 in
theorem ok_218 : (po_218.all (m_okA (yX12_book, cX12_book, 6, (some .int), 12, [], po_218))) = true := by decide +kernel
set_option maxRecDepth 1000000 in
theorem oy_218 : (m_okYi 118 1839 1837 1838 (yX12_book, cX12_book, 6, (some .int), 12, [], po_218) && m_okH (yX12_book, cX12_book, 6, (some .int), 12, [], po_218)) = true := by decide +kernel
set_option maxRecDepth 1000000 in
theorem ok_219 : (po_219.all (m_okA (yX12_undo, cX12_undo, 2, (some .int), 12, [], po_219))) = true := by decide +kernel
set_option maxRecDepth 1000000 in
theorem oy_219 : (m_okYi 118 1843 1841 1842 (yX12_undo, cX12_undo, 2, (some .int), 12, [], po_219) && m_okH (yX12_undo, cX12_undo, 2, (some .int), 12, [], po_219)) = true := by decide +kernel
set_option maxRecDepth 1000000 in
theorem ok_220 : (po_220.all (m_okA (yX12_sumOf, cX12_sumOf, 4, (some .int), 12, [], po_220))) = true := by decide +kernel
set_option maxRecDepth 1000000 in
theorem oy_220 : (m_okYi 118 1866 1865 86 (yX12_sumOf, cX12_sumOf, 4, (some .int), 12, [], po_220) && m_okH (yX12_sumOf, cX12_sumOf, 4, (some .int), 12, [], po_220)) = true := by decide +kernel
set_option maxRecDepth 1000000 in
theorem ok_221 : (po_221.all (m_okA (yX12_hatchedNow, cX12_hatchedNow, 3, (some .int), 12, [], po_221))) = true := by decide +kernel
set_option maxRecDepth 1000000 in
theorem oy_221 : (m_okYi 118 1854 1853 83 (yX12_hatchedNow, cX12_hatchedNow, 3, (some .int), 12, [], po_221) && m_okH (yX12_hatchedNow, cX12_hatchedNow, 3, (some .int), 12, [], po_221)) = true := by decide +kernel
