/-! every instruction of the program stands in the tables (written by program) -/
set_option maxRecDepth 1000000 in
theorem ok_305_0 : (po_305_0.all (m_okA (x, code, 8, (some .boolean), 113, [], po_305))) = true := by decide +kernel
set_option maxRecDepth 1000000 in
theorem ok_305_1 : (po_305_1.all (m_okA (x, code, 8, (some .boolean), 113, [], po_305))) = true := by decide +kernel
set_option maxRecDepth 1000000 in
theorem ok_305_2 : (po_305_2.all (m_okA (x, code, 8, (some .boolean), 113, [], po_305))) = true := by decide +kernel
set_option maxRecDepth 1000000 in
theorem ok_305_3 : (po_305_3.all (m_okA (x, code, 8, (some .boolean), 113, [], po_305))) = true := by decide +kernel
set_option maxRecDepth 1000000 in
theorem ok_305_4 : (po_305_4.all (m_okA (x, code, 8, (some .boolean), 113, [], po_305))) = true := by decide +kernel
set_option maxRecDepth 1000000 in
theorem ok_305_5 : (po_305_5.all (m_okA (x, code, 8, (some .boolean), 113, [], po_305))) = true := by decide +kernel
