/-! the classes' facts, class by class (written by program) -/
def mw (w : Cond) : Bool := decide (w ∈ lw_tbl) && goodWord w
def mwi (i : Nat) (w : Cond) : Bool := decide (lw_tbl[i]? = some w) && goodWord w
theorem mwi_in {i : Nat} {w : Cond} (h : mwi i w = true) : w ∈ gw := by
  unfold mwi at h
  simp only [Bool.and_eq_true, decide_eq_true_eq] at h
  exact gw_in (List.mem_of_getElem? h.1) h.2
theorem mw_in {w : Cond} (h : mw w = true) : w ∈ gw := by
  unfold mw at h
  simp only [Bool.and_eq_true, decide_eq_true_eq] at h
  exact gw_in h.1 h.2
/-- words that are kept, but not by the same law -/
def m_ex (w : Cond) : Bool := match w with
  | .castable _ _ => true
  | .declares _ => true
  | .methodLinkNest _ _ _ _ => true
  | .arrayOver (.object _) => true
  | _ => false
def xw : List Cond := lw_tbl.filter m_ex
def mx (w : Cond) : Bool := decide (w ∈ lw_tbl) && m_ex w
theorem mx_in {w : Cond} (h : mx w = true) : w ∈ xw := by
  unfold mx at h
  simp only [Bool.and_eq_true, decide_eq_true_eq] at h
  exact List.mem_filter.mpr h
def m_rty : FieldType → Bool
  | .object _ => true
  | .array _ => true
  | _ => false
/-- what is known of a class of the world -/
def m_CF (q : vw_C) : Prop := (∀ w ∈ u_ws q.1 q.2.1 q.2.2, w ∈ gw) ∧ (.instantiable q.1 q.2.2 ∈ gw ∧ .initialized q.1 ∈ gw) ∧ (∀ a, a < q.2.2 → ∀ b, b < q.2.2 → a ≠ b → (q.2.1 a).2.1 ≠ (q.2.1 b).2.1) ∧ ∃ ty : Nat → FieldType, (∀ k, k < q.2.2 → parseFieldDescriptor (q.2.1 k).2.2.1 = some (ty k)) ∧ ∀ k, k < q.2.2 → (ty k = .int ∧ (q.2.1 k).2.2.1 = "I") ∨ (m_rty (ty k) = true ∧ (q.2.1 k).2.2.1 ≠ "I")
set_option maxRecDepth 100000 in
theorem kw_0 : ∀ w ∈ u_ws RX0 TX0 9, mw w = true := by decide +kernel
set_option maxRecDepth 100000 in
theorem kt_0 : ∀ k, k < 9 → (tyX0 k = .int ∧ (TX0 k).2.2.1 = "I") ∨ (m_rty (tyX0 k) = true ∧ (TX0 k).2.2.1 ≠ "I") := by decide +kernel
set_option maxRecDepth 100000 in
theorem ki_0 : mw (.instantiable RX0 9) = true ∧ mw (.initialized RX0) = true := by decide +kernel
theorem kc_0 : m_CF (RX0, TX0, 9) := ⟨fun w h => mw_in (kw_0 w h), ⟨mw_in ki_0.1, mw_in ki_0.2⟩, nmX0, tyX0, tyX0_ok, kt_0⟩
set_option maxRecDepth 100000 in
theorem kw_1 : ∀ w ∈ u_ws RX1 TX1 2, mw w = true := by decide +kernel
set_option maxRecDepth 100000 in
theorem kt_1 : ∀ k, k < 2 → (tyX1 k = .int ∧ (TX1 k).2.2.1 = "I") ∨ (m_rty (tyX1 k) = true ∧ (TX1 k).2.2.1 ≠ "I") := by decide +kernel
set_option maxRecDepth 100000 in
theorem ki_1 : mw (.instantiable RX1 2) = true ∧ mw (.initialized RX1) = true := by decide +kernel
theorem kc_1 : m_CF (RX1, TX1, 2) := ⟨fun w h => mw_in (kw_1 w h), ⟨mw_in ki_1.1, mw_in ki_1.2⟩, nmX1, tyX1, tyX1_ok, kt_1⟩
set_option maxRecDepth 100000 in
theorem kw_2 : ∀ w ∈ u_ws RX2 TX2 3, mw w = true := by decide +kernel
set_option maxRecDepth 100000 in
theorem kt_2 : ∀ k, k < 3 → (tyX2 k = .int ∧ (TX2 k).2.2.1 = "I") ∨ (m_rty (tyX2 k) = true ∧ (TX2 k).2.2.1 ≠ "I") := by decide +kernel
set_option maxRecDepth 100000 in
theorem ki_2 : mw (.instantiable RX2 3) = true ∧ mw (.initialized RX2) = true := by decide +kernel
theorem kc_2 : m_CF (RX2, TX2, 3) := ⟨fun w h => mw_in (kw_2 w h), ⟨mw_in ki_2.1, mw_in ki_2.2⟩, nmX2, tyX2, tyX2_ok, kt_2⟩
set_option maxRecDepth 100000 in
theorem kw_3 : ∀ w ∈ u_ws RX3 TX3 4, mw w = true := by decide +kernel
set_option maxRecDepth 100000 in
theorem kt_3 : ∀ k, k < 4 → (tyX3 k = .int ∧ (TX3 k).2.2.1 = "I") ∨ (m_rty (tyX3 k) = true ∧ (TX3 k).2.2.1 ≠ "I") := by decide +kernel
set_option maxRecDepth 100000 in
theorem ki_3 : mw (.instantiable RX3 4) = true ∧ mw (.initialized RX3) = true := by decide +kernel
theorem kc_3 : m_CF (RX3, TX3, 4) := ⟨fun w h => mw_in (kw_3 w h), ⟨mw_in ki_3.1, mw_in ki_3.2⟩, nmX3, tyX3, tyX3_ok, kt_3⟩
set_option maxRecDepth 100000 in
theorem kw_4 : ∀ w ∈ u_ws RX4 TX4 2, mw w = true := by decide +kernel
set_option maxRecDepth 100000 in
theorem kt_4 : ∀ k, k < 2 → (tyX4 k = .int ∧ (TX4 k).2.2.1 = "I") ∨ (m_rty (tyX4 k) = true ∧ (TX4 k).2.2.1 ≠ "I") := by decide +kernel
set_option maxRecDepth 100000 in
theorem ki_4 : mw (.instantiable RX4 2) = true ∧ mw (.initialized RX4) = true := by decide +kernel
theorem kc_4 : m_CF (RX4, TX4, 2) := ⟨fun w h => mw_in (kw_4 w h), ⟨mw_in ki_4.1, mw_in ki_4.2⟩, nmX4, tyX4, tyX4_ok, kt_4⟩
set_option maxRecDepth 100000 in
theorem kw_5 : ∀ w ∈ u_ws RX5 TX5 1, mw w = true := by decide +kernel
set_option maxRecDepth 100000 in
theorem kt_5 : ∀ k, k < 1 → (tyX5 k = .int ∧ (TX5 k).2.2.1 = "I") ∨ (m_rty (tyX5 k) = true ∧ (TX5 k).2.2.1 ≠ "I") := by decide +kernel
set_option maxRecDepth 100000 in
theorem ki_5 : mw (.instantiable RX5 1) = true ∧ mw (.initialized RX5) = true := by decide +kernel
theorem kc_5 : m_CF (RX5, TX5, 1) := ⟨fun w h => mw_in (kw_5 w h), ⟨mw_in ki_5.1, mw_in ki_5.2⟩, nmX5, tyX5, tyX5_ok, kt_5⟩
set_option maxRecDepth 100000 in
theorem kw_6 : ∀ w ∈ u_ws RX6 TX6 9, mw w = true := by decide +kernel
set_option maxRecDepth 100000 in
theorem kt_6 : ∀ k, k < 9 → (tyX6 k = .int ∧ (TX6 k).2.2.1 = "I") ∨ (m_rty (tyX6 k) = true ∧ (TX6 k).2.2.1 ≠ "I") := by decide +kernel
set_option maxRecDepth 100000 in
theorem ki_6 : mw (.instantiable RX6 9) = true ∧ mw (.initialized RX6) = true := by decide +kernel
theorem kc_6 : m_CF (RX6, TX6, 9) := ⟨fun w h => mw_in (kw_6 w h), ⟨mw_in ki_6.1, mw_in ki_6.2⟩, nmX6, tyX6, tyX6_ok, kt_6⟩
set_option maxRecDepth 100000 in
theorem kw_7 : ∀ w ∈ u_ws RX7 TX7 8, mw w = true := by decide +kernel
set_option maxRecDepth 100000 in
theorem kt_7 : ∀ k, k < 8 → (tyX7 k = .int ∧ (TX7 k).2.2.1 = "I") ∨ (m_rty (tyX7 k) = true ∧ (TX7 k).2.2.1 ≠ "I") := by decide +kernel
set_option maxRecDepth 100000 in
theorem ki_7 : mw (.instantiable RX7 8) = true ∧ mw (.initialized RX7) = true := by decide +kernel
theorem kc_7 : m_CF (RX7, TX7, 8) := ⟨fun w h => mw_in (kw_7 w h), ⟨mw_in ki_7.1, mw_in ki_7.2⟩, nmX7, tyX7, tyX7_ok, kt_7⟩
set_option maxRecDepth 100000 in
theorem kw_8 : ∀ w ∈ u_ws RX8 TX8 8, mw w = true := by decide +kernel
set_option maxRecDepth 100000 in
theorem kt_8 : ∀ k, k < 8 → (tyX8 k = .int ∧ (TX8 k).2.2.1 = "I") ∨ (m_rty (tyX8 k) = true ∧ (TX8 k).2.2.1 ≠ "I") := by decide +kernel
set_option maxRecDepth 100000 in
theorem ki_8 : mw (.instantiable RX8 8) = true ∧ mw (.initialized RX8) = true := by decide +kernel
theorem kc_8 : m_CF (RX8, TX8, 8) := ⟨fun w h => mw_in (kw_8 w h), ⟨mw_in ki_8.1, mw_in ki_8.2⟩, nmX8, tyX8, tyX8_ok, kt_8⟩
set_option maxRecDepth 100000 in
theorem kw_9 : ∀ w ∈ u_ws RX9 TX9 12, mw w = true := by decide +kernel
set_option maxRecDepth 100000 in
theorem kt_9 : ∀ k, k < 12 → (tyX9 k = .int ∧ (TX9 k).2.2.1 = "I") ∨ (m_rty (tyX9 k) = true ∧ (TX9 k).2.2.1 ≠ "I") := by decide +kernel
set_option maxRecDepth 100000 in
theorem ki_9 : mw (.instantiable RX9 12) = true ∧ mw (.initialized RX9) = true := by decide +kernel
theorem kc_9 : m_CF (RX9, TX9, 12) := ⟨fun w h => mw_in (kw_9 w h), ⟨mw_in ki_9.1, mw_in ki_9.2⟩, nmX9, tyX9, tyX9_ok, kt_9⟩
set_option maxRecDepth 100000 in
theorem kw_10 : ∀ w ∈ u_ws RX10 TX10 3, mw w = true := by decide +kernel
set_option maxRecDepth 100000 in
theorem kt_10 : ∀ k, k < 3 → (tyX10 k = .int ∧ (TX10 k).2.2.1 = "I") ∨ (m_rty (tyX10 k) = true ∧ (TX10 k).2.2.1 ≠ "I") := by decide +kernel
set_option maxRecDepth 100000 in
theorem ki_10 : mw (.instantiable RX10 3) = true ∧ mw (.initialized RX10) = true := by decide +kernel
theorem kc_10 : m_CF (RX10, TX10, 3) := ⟨fun w h => mw_in (kw_10 w h), ⟨mw_in ki_10.1, mw_in ki_10.2⟩, nmX10, tyX10, tyX10_ok, kt_10⟩
set_option maxRecDepth 100000 in
theorem kw_11 : ∀ w ∈ u_ws RX11 TX11 19, mw w = true := by decide +kernel
set_option maxRecDepth 100000 in
theorem kt_11 : ∀ k, k < 19 → (tyX11 k = .int ∧ (TX11 k).2.2.1 = "I") ∨ (m_rty (tyX11 k) = true ∧ (TX11 k).2.2.1 ≠ "I") := by decide +kernel
set_option maxRecDepth 100000 in
theorem ki_11 : mw (.instantiable RX11 19) = true ∧ mw (.initialized RX11) = true := by decide +kernel
theorem kc_11 : m_CF (RX11, TX11, 19) := ⟨fun w h => mw_in (kw_11 w h), ⟨mw_in ki_11.1, mw_in ki_11.2⟩, nmX11, tyX11, tyX11_ok, kt_11⟩
set_option maxRecDepth 100000 in
theorem kw_12 : ∀ w ∈ u_ws RX12 TX12 60, mw w = true := by decide +kernel
set_option maxRecDepth 100000 in
theorem kt_12 : ∀ k, k < 60 → (tyX12 k = .int ∧ (TX12 k).2.2.1 = "I") ∨ (m_rty (tyX12 k) = true ∧ (TX12 k).2.2.1 ≠ "I") := by decide +kernel
set_option maxRecDepth 100000 in
theorem ki_12 : mw (.instantiable RX12 60) = true ∧ mw (.initialized RX12) = true := by decide +kernel
theorem kc_12 : m_CF (RX12, TX12, 60) := ⟨fun w h => mw_in (kw_12 w h), ⟨mw_in ki_12.1, mw_in ki_12.2⟩, nmX12, tyX12, tyX12_ok, kt_12⟩
theorem m_cls {ci : Nat} {q : vw_C} (h : vwCl[ci]? = some q) : m_CF q := by
  match ci, h with
  | 0, h => cases h; exact kc_0
  | 1, h => cases h; exact kc_1
  | 2, h => cases h; exact kc_2
  | 3, h => cases h; exact kc_3
  | 4, h => cases h; exact kc_4
  | 5, h => cases h; exact kc_5
  | 6, h => cases h; exact kc_6
  | 7, h => cases h; exact kc_7
  | 8, h => cases h; exact kc_8
  | 9, h => cases h; exact kc_9
  | 10, h => cases h; exact kc_10
  | 11, h => cases h; exact kc_11
  | 12, h => cases h; exact kc_12
  | n + 13, h => simp [vwCl] at h
