/-! the text constants, as the Statement has them: by their places in it (written by program) -/
def nfl : List Cond := flatC (Jvm.Cond.and given_1 narrow_1)
def t_val (q : String × Nat × String) : Term := .field (.string q.1 q.2.1) "java/lang/String" "value" "[B"
def t_S (q : String × Nat × String) (t : List Int32) : List Cond := [.exactly (.string q.1 q.2.1) "java/lang/String", .eq (.field (.string q.1 q.2.1) "java/lang/String" "coder" "B") (.int 0), .arrayOf (t_val q) .byte, .eq (.length (t_val q)) (.int (Int32.ofNat t.length))] ++ (List.range t.length).map (fun j => .eq (.elem (t_val q) (.int (Int32.ofNat j))) (.int (t.getD j 0)))
def t_ok (ix : List Nat) (z : (String × Nat × String) × List Int32) : Bool := decide ((t_S z.1 z.2).map some = ix.map (fun j => nfl[j]?))
theorem t_ok_s {ix : List Nat} {z : (String × Nat × String) × List Int32} (h : t_ok ix z = true) : ∀ w ∈ t_S z.1 z.2, w ∈ nfl := by
  intro w hw
  simp only [t_ok, decide_eq_true_eq] at h
  have h1 : some w ∈ ix.map (fun j => nfl[j]?) := by rw [← h]; exact List.mem_map.mpr ⟨w, hw, rfl⟩
  obtain ⟨j, -, hj⟩ := List.mem_map.mp h1
  exact List.mem_of_getElem? hj
set_option maxRecDepth 1000000 in
theorem kt_S0 : t_ok [71, 72, 73, 74, 75, 76, 77] (("DarnEggs$Village", 92, "egg"), [101, 103, 103]) = true := by decide +kernel
set_option maxRecDepth 1000000 in
theorem kt_S1 : t_ok [78, 79, 80, 81, 82, 83, 84, 85] (("DarnEggs$Village", 98, "hand"), [104, 97, 110, 100]) = true := by decide +kernel
set_option maxRecDepth 1000000 in
theorem kt_S2 : t_ok [86, 87, 88, 89, 90, 91, 92, 93] (("DarnEggs$Village", 100, "hole"), [104, 111, 108, 101]) = true := by decide +kernel
set_option maxRecDepth 1000000 in
theorem kt_S3 : t_ok [94, 95, 96, 97, 98, 99, 100, 101] (("DarnEggs$Village", 102, "path"), [112, 97, 116, 104]) = true := by decide +kernel
set_option maxRecDepth 1000000 in
theorem kt_S4 : t_ok [102, 103, 104, 105, 106, 107, 108, 109] (("DarnEggs$Village", 104, "wool"), [119, 111, 111, 108]) = true := by decide +kernel
set_option maxRecDepth 1000000 in
theorem kt_S5 : t_ok [110, 111, 112, 113, 114, 115, 116, 117, 118] (("DarnEggs$Village", 105, "moths"), [109, 111, 116, 104, 115]) = true := by decide +kernel
set_option maxRecDepth 1000000 in
theorem kt_S6 : t_ok [119, 120, 121, 122, 123, 124, 125, 126, 127] (("DarnEggs$Law", 74, "least"), [108, 101, 97, 115, 116]) = true := by decide +kernel
set_option maxRecDepth 1000000 in
theorem kt_S7 : t_ok [128, 129, 130, 131, 132, 133, 134, 135] (("DarnEggs$Law", 84, "most"), [109, 111, 115, 116]) = true := by decide +kernel
set_option maxRecDepth 1000000 in
theorem kt_S8 : t_ok [136, 137, 138, 139, 140, 141, 142, 143, 144] (("DarnEggs$Law", 97, "heels"), [104, 101, 101, 108, 115]) = true := by decide +kernel
set_option maxRecDepth 1000000 in
theorem kt_S9 : t_ok [145, 146, 147, 148, 149, 150, 151, 152, 153] (("DarnEggs$Law", 99, "anger"), [97, 110, 103, 101, 114]) = true := by decide +kernel
set_option maxRecDepth 1000000 in
theorem kt_S10 : t_ok [154, 155, 156, 157, 158, 159, 160, 161] (("DarnEggs$Law", 101, "wear"), [119, 101, 97, 114]) = true := by decide +kernel
set_option maxRecDepth 1000000 in
theorem kt_S11 : t_ok [162, 163, 164, 165, 166, 167, 168, 169, 170] (("DarnEggs$Law", 103, "ridge"), [114, 105, 100, 103, 101]) = true := by decide +kernel
set_option maxRecDepth 1000000 in
theorem kt_S12 : t_ok [171, 172, 173, 174, 175, 176, 177, 178] (("DarnEggs$Law", 105, "wool"), [119, 111, 111, 108]) = true := by decide +kernel
set_option maxRecDepth 1000000 in
theorem kt_S13 : t_ok [180, 181, 182, 183, 184, 185, 186, 187, 188] (("DarnEggs$Law", 107, "hooks"), [104, 111, 111, 107, 115]) = true := by decide +kernel
set_option maxRecDepth 1000000 in
theorem kt_S14 : t_ok [189, 190, 191, 192, 193, 194, 195] (("DarnEggs$Law", 109, "day"), [100, 97, 121]) = true := by decide +kernel
set_option maxRecDepth 1000000 in
theorem kt_S15 : t_ok [196, 197, 198, 199, 200, 201, 202, 203] (("DarnEggs$Law", 111, "hand"), [104, 97, 110, 100]) = true := by decide +kernel
set_option maxRecDepth 1000000 in
theorem kt_S16 : t_ok [205, 206, 207, 208, 209, 210, 211, 212] (("DarnEggs$Steps", 89, "darn"), [100, 97, 114, 110]) = true := by decide +kernel
set_option maxRecDepth 1000000 in
theorem kt_S17 : t_ok [213, 214, 215, 216, 217, 218, 219] (("DarnEggs$Steps", 95, "let"), [108, 101, 116]) = true := by decide +kernel
set_option maxRecDepth 1000000 in
theorem kt_S18 : t_ok [220, 221, 222, 223, 224, 225, 226, 227] (("DarnEggs$Steps", 97, "call"), [99, 97, 108, 108]) = true := by decide +kernel
set_option maxRecDepth 1000000 in
theorem kt_S19 : t_ok [228, 229, 230, 231, 232, 233, 234, 235, 236, 237] (("DarnEggs$Steps", 99, "unpick"), [117, 110, 112, 105, 99, 107]) = true := by decide +kernel
set_option maxRecDepth 1000000 in
theorem kt_S20 : t_ok [238, 239, 240, 241, 242, 243, 244, 245, 246] (("DarnEggs$Steps", 101, "shear"), [115, 104, 101, 97, 114]) = true := by decide +kernel
set_option maxRecDepth 1000000 in
theorem kt_S21 : t_ok [247, 248, 249, 250, 251, 252, 253] (("DarnEggs$Steps", 103, "day"), [100, 97, 121]) = true := by decide +kernel
set_option maxRecDepth 1000000 in
theorem kt_S22 : t_ok [255, 256, 257, 258, 259, 260, 261, 262, 263] (("DarnEggs$Steps", 105, "again"), [97, 103, 97, 105, 110]) = true := by decide +kernel
set_option maxRecDepth 1000000 in
theorem kt_S23 : t_ok [264, 265, 266, 267, 268, 269, 270] (("DarnEggsModel", 211, "egg"), [101, 103, 103]) = true := by decide +kernel
set_option maxRecDepth 1000000 in
theorem kt_S24 : t_ok [272, 273, 274, 275, 276, 277, 278, 279] (("DarnEggsModel", 217, "hand"), [104, 97, 110, 100]) = true := by decide +kernel
set_option maxRecDepth 1000000 in
theorem kt_S25 : t_ok [282, 283, 284, 285, 286, 287, 288, 289] (("DarnEggsModel", 219, "hole"), [104, 111, 108, 101]) = true := by decide +kernel
set_option maxRecDepth 1000000 in
theorem kt_S26 : t_ok [291, 292, 293, 294, 295, 296, 297, 298] (("DarnEggsModel", 221, "path"), [112, 97, 116, 104]) = true := by decide +kernel
set_option maxRecDepth 1000000 in
theorem kt_S27 : t_ok [300, 301, 302, 303, 304, 305, 306, 307] (("DarnEggsModel", 222, "wool"), [119, 111, 111, 108]) = true := by decide +kernel
set_option maxRecDepth 1000000 in
theorem kt_S28 : t_ok [310, 311, 312, 313, 314, 315, 316, 317, 318] (("DarnEggsModel", 224, "moths"), [109, 111, 116, 104, 115]) = true := by decide +kernel
set_option maxRecDepth 1000000 in
theorem kt_S29 : t_ok [320, 321, 322, 323, 324, 325, 326, 327, 328] (("DarnEggsModel", 294, "least"), [108, 101, 97, 115, 116]) = true := by decide +kernel
set_option maxRecDepth 1000000 in
theorem kt_S30 : t_ok [330, 331, 332, 333, 334, 335, 336, 337] (("DarnEggsModel", 299, "most"), [109, 111, 115, 116]) = true := by decide +kernel
set_option maxRecDepth 1000000 in
theorem kt_S31 : t_ok [339, 340, 341, 342, 343, 344, 345, 346, 347] (("DarnEggsModel", 283, "heels"), [104, 101, 101, 108, 115]) = true := by decide +kernel
set_option maxRecDepth 1000000 in
theorem kt_S32 : t_ok [349, 350, 351, 352, 353, 354, 355, 356, 357] (("DarnEggsModel", 285, "anger"), [97, 110, 103, 101, 114]) = true := by decide +kernel
set_option maxRecDepth 1000000 in
theorem kt_S33 : t_ok [359, 360, 361, 362, 363, 364, 365, 366] (("DarnEggsModel", 286, "wear"), [119, 101, 97, 114]) = true := by decide +kernel
set_option maxRecDepth 1000000 in
theorem kt_S34 : t_ok [368, 369, 370, 371, 372, 373, 374, 375, 376] (("DarnEggsModel", 288, "ridge"), [114, 105, 100, 103, 101]) = true := by decide +kernel
set_option maxRecDepth 1000000 in
theorem kt_S35 : t_ok [378, 379, 380, 381, 382, 383, 384, 385, 386] (("DarnEggsModel", 290, "hooks"), [104, 111, 111, 107, 115]) = true := by decide +kernel
set_option maxRecDepth 1000000 in
theorem kt_S36 : t_ok [388, 389, 390, 391, 392, 393, 394] (("DarnEggsModel", 292, "day"), [100, 97, 121]) = true := by decide +kernel
set_option maxRecDepth 1000000 in
theorem kt_S37 : t_ok [397, 398, 399, 400, 401, 402, 403, 404] (("DarnEggsModel", 314, "darn"), [100, 97, 114, 110]) = true := by decide +kernel
set_option maxRecDepth 1000000 in
theorem kt_S38 : t_ok [406, 407, 408, 409, 410, 411, 412] (("DarnEggsModel", 326, "let"), [108, 101, 116]) = true := by decide +kernel
set_option maxRecDepth 1000000 in
theorem kt_S39 : t_ok [414, 415, 416, 417, 418, 419, 420, 421] (("DarnEggsModel", 328, "call"), [99, 97, 108, 108]) = true := by decide +kernel
set_option maxRecDepth 1000000 in
theorem kt_S40 : t_ok [423, 424, 425, 426, 427, 428, 429, 430, 431, 432] (("DarnEggsModel", 330, "unpick"), [117, 110, 112, 105, 99, 107]) = true := by decide +kernel
set_option maxRecDepth 1000000 in
theorem kt_S41 : t_ok [434, 435, 436, 437, 438, 439, 440, 441, 442] (("DarnEggsModel", 332, "shear"), [115, 104, 101, 97, 114]) = true := by decide +kernel
set_option maxRecDepth 1000000 in
theorem kt_S42 : t_ok [444, 445, 446, 447, 448, 449, 450, 451, 452] (("DarnEggsModel", 334, "again"), [97, 103, 97, 105, 110]) = true := by decide +kernel
theorem kt_S : ∀ z ∈ mSx.zip mT, ∀ w ∈ t_S z.1 z.2, w ∈ nfl := List.forall_mem_cons.mpr ⟨t_ok_s kt_S0, List.forall_mem_cons.mpr ⟨t_ok_s kt_S1, List.forall_mem_cons.mpr ⟨t_ok_s kt_S2, List.forall_mem_cons.mpr ⟨t_ok_s kt_S3, List.forall_mem_cons.mpr ⟨t_ok_s kt_S4, List.forall_mem_cons.mpr ⟨t_ok_s kt_S5, List.forall_mem_cons.mpr ⟨t_ok_s kt_S6, List.forall_mem_cons.mpr ⟨t_ok_s kt_S7, List.forall_mem_cons.mpr ⟨t_ok_s kt_S8, List.forall_mem_cons.mpr ⟨t_ok_s kt_S9, List.forall_mem_cons.mpr ⟨t_ok_s kt_S10, List.forall_mem_cons.mpr ⟨t_ok_s kt_S11, List.forall_mem_cons.mpr ⟨t_ok_s kt_S12, List.forall_mem_cons.mpr ⟨t_ok_s kt_S13, List.forall_mem_cons.mpr ⟨t_ok_s kt_S14, List.forall_mem_cons.mpr ⟨t_ok_s kt_S15, List.forall_mem_cons.mpr ⟨t_ok_s kt_S16, List.forall_mem_cons.mpr ⟨t_ok_s kt_S17, List.forall_mem_cons.mpr ⟨t_ok_s kt_S18, List.forall_mem_cons.mpr ⟨t_ok_s kt_S19, List.forall_mem_cons.mpr ⟨t_ok_s kt_S20, List.forall_mem_cons.mpr ⟨t_ok_s kt_S21, List.forall_mem_cons.mpr ⟨t_ok_s kt_S22, List.forall_mem_cons.mpr ⟨t_ok_s kt_S23, List.forall_mem_cons.mpr ⟨t_ok_s kt_S24, List.forall_mem_cons.mpr ⟨t_ok_s kt_S25, List.forall_mem_cons.mpr ⟨t_ok_s kt_S26, List.forall_mem_cons.mpr ⟨t_ok_s kt_S27, List.forall_mem_cons.mpr ⟨t_ok_s kt_S28, List.forall_mem_cons.mpr ⟨t_ok_s kt_S29, List.forall_mem_cons.mpr ⟨t_ok_s kt_S30, List.forall_mem_cons.mpr ⟨t_ok_s kt_S31, List.forall_mem_cons.mpr ⟨t_ok_s kt_S32, List.forall_mem_cons.mpr ⟨t_ok_s kt_S33, List.forall_mem_cons.mpr ⟨t_ok_s kt_S34, List.forall_mem_cons.mpr ⟨t_ok_s kt_S35, List.forall_mem_cons.mpr ⟨t_ok_s kt_S36, List.forall_mem_cons.mpr ⟨t_ok_s kt_S37, List.forall_mem_cons.mpr ⟨t_ok_s kt_S38, List.forall_mem_cons.mpr ⟨t_ok_s kt_S39, List.forall_mem_cons.mpr ⟨t_ok_s kt_S40, List.forall_mem_cons.mpr ⟨t_ok_s kt_S41, List.forall_mem_cons.mpr ⟨t_ok_s kt_S42, fun _ h => (List.not_mem_nil h).elim⟩⟩⟩⟩⟩⟩⟩⟩⟩⟩⟩⟩⟩⟩⟩⟩⟩⟩⟩⟩⟩⟩⟩⟩⟩⟩⟩⟩⟩⟩⟩⟩⟩⟩⟩⟩⟩⟩⟩⟩⟩⟩⟩
