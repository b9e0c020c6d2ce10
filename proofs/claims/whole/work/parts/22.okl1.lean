/-! every instruction of the program stands in the tables (written by program) -/
set_option maxRecDepth 1000000 in
theorem ok_305_6 : (po_305_6.all (m_okA (x, code, 8, (some .boolean), 113, [], po_305))) = true := by decide +kernel
set_option maxRecDepth 1000000 in
theorem ok_305_7 : (po_305_7.all (m_okA (x, code, 8, (some .boolean), 113, [], po_305))) = true := by decide +kernel
set_option maxRecDepth 1000000 in
theorem ok_305_8 : (po_305_8.all (m_okA (x, code, 8, (some .boolean), 113, [], po_305))) = true := by decide +kernel
set_option maxRecDepth 1000000 in
theorem ok_305_9 : (po_305_9.all (m_okA (x, code, 8, (some .boolean), 113, [], po_305))) = true := by decide +kernel
