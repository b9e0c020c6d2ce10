set_option maxHeartbeats 600000 in
theorem b_125_0 {X : Nat × (Nat → Int32)} {d : Nat} {J : Nat → Nat → Int} {sw : Bool × Bool × Bool} {lg : Nat → Nat → Int64} {x : Nat} {K : (Option Value ⊕ Nat) → mM → Prop} {x1 x2 : Int} {o3 : Option Value} (hd : 3 ≤ d)
    (h : InR x1 ∧ (x1 < 0 → K (.inr 2) (mj (m_up J 0 18 ((J 0 18) + 1)) sw lg (x + 1))) ∧ (0 ≤ x1 → ((x1 ≤ 99 → (InR x2 ∧ (x2 < 0 → K (.inr 2) (mj (m_up J 0 18 ((J 0 18) + 1)) sw lg (x + 1))) ∧ (0 ≤ x2 → ((x2 ≤ 2 → (∃ (J1 : Nat → Nat → Int), EE X 0 44 [.ref 48, .ref 41] (mj J sw lg x) (.inl none) (mj J1 sw lg x) ∧ VV X d 125 (28, [some (.ref 0), some (iv x1), some (iv x2), some (iv 0)], [], mj J1 sw lg x) K)) ∧ (2 < x2 → K (.inr 2) (mj (m_up J 0 18 ((J 0 18) + 1)) sw lg (x + 1))))))) ∧ (99 < x1 → K (.inr 2) (mj (m_up J 0 18 ((J 0 18) + 1)) sw lg (x + 1)))))) : VV X d 125 (0, [some (.ref 0), some (iv x1), some (iv x2), o3], [], mj J sw lg x) K := by
  refine v_s mt_125 rfl rfl rfl ?_
  refine v_s mt_125 rfl rfl rfl ?_
  refine v_ic (v := Int32.ofInt 0) mt_125 rfl rfl ?_
  refine v_bp (v := Int32.ofInt 99) mt_125 rfl rfl ?_
  refine v_inx (L1 := [some (.ref 0), some (iv x1), some (iv 0), some (iv 99)]) mt_125 rfl rfl mt_154 rfl rfl (m_callj (As := [iv x1, iv 0, iv 99]) (rest := []) rfl rfl c_0 rfl (Nat.le_of_ble_eq_true rfl) (Nat.le_of_ble_eq_true rfl)) rfl (by clear h; omega) rfl rfl ?_
  refine v_s mt_154 rfl rfl rfl ?_
  refine v_s mt_154 rfl rfl rfl ?_
  obtain ⟨z1, h⟩ := h
  refine j_if2 mt_154 rfl rfl z1 ⟨by decide, by decide⟩ (fun c => ?_) (fun c => ?_)
  · replace h := h.1 c
    refine v_s mt_154 rfl rfl rfl ?_
    refine v_inx (L1 := [some (.ref 0)]) mt_154 rfl rfl mt_150 rfl rfl (m_callj (As := []) (rest := []) rfl rfl c_0 rfl (Nat.le_of_ble_eq_true rfl) (Nat.le_of_ble_eq_true rfl)) rfl (by clear h; omega) rfl rfl ?_
    refine v_s mt_150 rfl rfl rfl ?_
    refine v_s mt_150 rfl rfl rfl ?_
    refine j_gi (w := J 0 18) 18 mt_150 rfl rfl c_0 (by decide) rfl ?_
    refine v_ic (v := Int32.ofInt 1) mt_150 rfl rfl ?_
    refine j_add (e := (J 0 18) + 1) mt_150 rfl rfl ?_
    refine j_pi 18 mt_150 rfl rfl c_0 (by decide) ?_
    exact v_thr mt_150 rfl rfl (Nat.le_of_ble_eq_true rfl) h
  · replace h := h.2 (Int.not_lt.mp c)
    refine v_s mt_154 rfl rfl rfl ?_
    refine v_s mt_154 rfl rfl rfl ?_
    refine j_if2 mt_154 rfl rfl z1 ⟨by decide, by decide⟩ (fun c => ?_) (fun c => ?_)
    · replace h := h.1 c
      refine v_ret mt_154 rfl rfl rfl ?_
      refine v_s mt_125 rfl rfl rfl ?_
      refine v_s mt_125 rfl rfl rfl ?_
      refine v_ic (v := Int32.ofInt 0) mt_125 rfl rfl ?_
      refine v_ic (v := Int32.ofInt 2) mt_125 rfl rfl ?_
      refine v_inx (L1 := [some (.ref 0), some (iv x2), some (iv 0), some (iv 2)]) mt_125 rfl rfl mt_154 rfl rfl (m_callj (As := [iv x2, iv 0, iv 2]) (rest := []) rfl rfl c_0 rfl (Nat.le_of_ble_eq_true rfl) (Nat.le_of_ble_eq_true rfl)) rfl (by clear h; omega) rfl rfl ?_
      refine v_s mt_154 rfl rfl rfl ?_
      refine v_s mt_154 rfl rfl rfl ?_
      obtain ⟨z2, h⟩ := h
      refine j_if2 mt_154 rfl rfl z2 ⟨by decide, by decide⟩ (fun c => ?_) (fun c => ?_)
      · replace h := h.1 c
        refine v_s mt_154 rfl rfl rfl ?_
        refine v_inx (L1 := [some (.ref 0)]) mt_154 rfl rfl mt_150 rfl rfl (m_callj (As := []) (rest := []) rfl rfl c_0 rfl (Nat.le_of_ble_eq_true rfl) (Nat.le_of_ble_eq_true rfl)) rfl (by clear h; omega) rfl rfl ?_
        refine v_s mt_150 rfl rfl rfl ?_
        refine v_s mt_150 rfl rfl rfl ?_
        refine j_gi (w := J 0 18) 18 mt_150 rfl rfl c_0 (by decide) rfl ?_
        refine v_ic (v := Int32.ofInt 1) mt_150 rfl rfl ?_
        refine j_add (e := (J 0 18) + 1) mt_150 rfl rfl ?_
        refine j_pi 18 mt_150 rfl rfl c_0 (by decide) ?_
        exact v_thr mt_150 rfl rfl (Nat.le_of_ble_eq_true rfl) h
      · replace h := h.2 (Int.not_lt.mp c)
        refine v_s mt_154 rfl rfl rfl ?_
        refine v_s mt_154 rfl rfl rfl ?_
        refine j_if2 mt_154 rfl rfl z2 ⟨by decide, by decide⟩ (fun c => ?_) (fun c => ?_)
        · replace h := h.1 c
          refine v_ret mt_154 rfl rfl rfl ?_
          refine v_s mt_125 rfl rfl rfl ?_
          refine v_gr (w := 48) 10 mt_125 rfl rfl c_0 (by decide) g_11_10 ?_
          refine v_s mt_125 rfl rfl rfl ?_
          refine v_gr (w := 41) 9 mt_125 rfl rfl c_0 (by decide) g_11_9 ?_
          obtain ⟨J1, z3, h⟩ := h
          refine v_call (d1 := 0) mt_125 rfl rfl mt_44 rfl rfl (m_callj (As := [.ref 41]) (rest := []) rfl rfl c_48 rfl (Nat.le_of_ble_eq_true rfl) (Nat.le_of_ble_eq_true rfl)) z3 (by clear h; omega) ?_
          refine v_ic (v := Int32.ofInt 0) mt_125 rfl rfl ?_
          refine v_isn (L' := [some (.ref 0), some (iv x1), some (iv x2), some (iv 0)]) mt_125 rfl (Nat.le_of_ble_eq_true rfl) rfl ?_
          exact h
        · replace h := h.2 (Int.not_le.mp c)
          refine v_s mt_154 rfl rfl rfl ?_
          refine v_inx (L1 := [some (.ref 0)]) mt_154 rfl rfl mt_150 rfl rfl (m_callj (As := []) (rest := []) rfl rfl c_0 rfl (Nat.le_of_ble_eq_true rfl) (Nat.le_of_ble_eq_true rfl)) rfl (by clear h; omega) rfl rfl ?_
          refine v_s mt_150 rfl rfl rfl ?_
          refine v_s mt_150 rfl rfl rfl ?_
          refine j_gi (w := J 0 18) 18 mt_150 rfl rfl c_0 (by decide) rfl ?_
          refine v_ic (v := Int32.ofInt 1) mt_150 rfl rfl ?_
          refine j_add (e := (J 0 18) + 1) mt_150 rfl rfl ?_
          refine j_pi 18 mt_150 rfl rfl c_0 (by decide) ?_
          exact v_thr mt_150 rfl rfl (Nat.le_of_ble_eq_true rfl) h
    · replace h := h.2 (Int.not_le.mp c)
      refine v_s mt_154 rfl rfl rfl ?_
      refine v_inx (L1 := [some (.ref 0)]) mt_154 rfl rfl mt_150 rfl rfl (m_callj (As := []) (rest := []) rfl rfl c_0 rfl (Nat.le_of_ble_eq_true rfl) (Nat.le_of_ble_eq_true rfl)) rfl (by clear h; omega) rfl rfl ?_
      refine v_s mt_150 rfl rfl rfl ?_
      refine v_s mt_150 rfl rfl rfl ?_
      refine j_gi (w := J 0 18) 18 mt_150 rfl rfl c_0 (by decide) rfl ?_
      refine v_ic (v := Int32.ofInt 1) mt_150 rfl rfl ?_
      refine j_add (e := (J 0 18) + 1) mt_150 rfl rfl ?_
      refine j_pi 18 mt_150 rfl rfl c_0 (by decide) ?_
      exact v_thr mt_150 rfl rfl (Nat.le_of_ble_eq_true rfl) h
set_option maxHeartbeats 600000 in
theorem b_125_28 {X : Nat × (Nat → Int32)} {d : Nat} {J : Nat → Nat → Int} {sw : Bool × Bool × Bool} {lg : Nat → Nat → Int64} {x : Nat} {K : (Option Value ⊕ Nat) → mM → Prop} {x1 x2 x3 : Int} (hd : 3 ≤ d)
    (h : InR x3 ∧ InR x1 ∧ (x1 ≤ x3 → (InR x2 ∧ (¬ x2 = 0 → ((¬ x2 = 1 → (∃ (c2 : Int) (J1 : Nat → Nat → Int), EE X 0 63 [.ref 48, .ref (vA sw)] (mj J sw lg x) (.inl (some (iv c2))) (mj J1 sw lg x) ∧ K (.inl (some (iv (bAnd ((bShl 1 (J (vA sw) 2)) - 1) (bXor c2 (-1)))))) (mj J1 sw lg x))) ∧ (x2 = 1 → (∃ (c4 : Int) (J3 : Nat → Nat → Int), EE X 0 62 [.ref 48, .ref (vA sw)] (mj J sw lg x) (.inl (some (iv c4))) (mj J3 sw lg x) ∧ K (.inl (some (iv c4))) (mj J3 sw lg x))))) ∧ (x2 = 0 → (∃ (c6 : Int) (J5 : Nat → Nat → Int), EE X 0 61 [.ref 48, .ref (vA sw)] (mj J sw lg x) (.inl (some (iv c6))) (mj J5 sw lg x) ∧ K (.inl (some (iv c6))) (mj J5 sw lg x))))) ∧ (x3 < x1 → (∃ (J7 : Nat → Nat → Int), EE X 2 57 [.ref 48, .ref (vA sw)] (mj J sw lg x) (.inl none) (mj J7 sw lg x) ∧ VV X d 125 (28, [some (.ref 0), some (iv x1), some (iv x2), some (iv (x3 + 1))], [], mj J7 sw lg x) K))) : VV X d 125 (28, [some (.ref 0), some (iv x1), some (iv x2), some (iv x3)], [], mj J sw lg x) K := by
  refine v_s mt_125 rfl rfl rfl ?_
  refine v_s mt_125 rfl rfl rfl ?_
  obtain ⟨z1, h⟩ := h
  obtain ⟨z2, h⟩ := h
  refine j_if2 mt_125 rfl rfl z1 z2 (fun c => ?_) (fun c => ?_)
  · replace h := h.1 c
    refine v_s mt_125 rfl rfl rfl ?_
    obtain ⟨z3, h⟩ := h
    refine j_if1 mt_125 rfl rfl z3 (fun c => ?_) (fun c => ?_)
    · replace h := h.1 c
      refine v_s mt_125 rfl rfl rfl ?_
      refine v_ic (v := Int32.ofInt 1) mt_125 rfl rfl ?_
      refine j_if2 mt_125 rfl rfl z3 ⟨by decide, by decide⟩ (fun c => ?_) (fun c => ?_)
      · replace h := h.1 c
        refine v_s mt_125 rfl rfl rfl ?_
        refine v_gr (w := 48) 10 mt_125 rfl rfl c_0 (by decide) g_11_10 ?_
        refine v_s mt_125 rfl rfl rfl ?_
        refine v_gr (w := (vA sw)) 2 mt_125 rfl rfl c_0 (by decide) g_11_2 ?_
        refine v_inl (L1 := [some (.ref 48), some (.ref (vA sw))]) mt_125 rfl rfl mt_64 rfl rfl (m_callj (As := [.ref (vA sw)]) (rest := []) rfl rfl c_48 rfl (Nat.le_of_ble_eq_true rfl) (Nat.le_of_ble_eq_true rfl)) rfl (by clear h; omega) ?_
        refine v_ic (v := Int32.ofInt 1) mt_64 rfl rfl ?_
        refine v_s mt_64 rfl rfl rfl ?_
        refine j_gi (w := J (vA sw) 2) 2 mt_64 rfl rfl (cvA sw) (by decide) rfl ?_
        refine j_shl (e := bShl 1 (J (vA sw) 2)) mt_64 rfl rfl ?_
        refine v_ic (v := Int32.ofInt 1) mt_64 rfl rfl ?_
        refine j_sub (e := (bShl 1 (J (vA sw) 2)) - 1) mt_64 rfl rfl ?_
        refine v_s mt_64 rfl rfl rfl ?_
        refine v_s mt_64 rfl rfl rfl ?_
        obtain ⟨c2, J1, z4, h⟩ := h
        refine v_call (d1 := 0) mt_64 rfl rfl mt_63 rfl rfl (m_callj (As := [.ref (vA sw)]) (rest := [iv ((bShl 1 (J (vA sw) 2)) - 1)]) rfl rfl c_48 rfl (Nat.le_of_ble_eq_true rfl) (Nat.le_of_ble_eq_true rfl)) z4 (by clear h; omega) ?_
        refine v_ic (v := Int32.ofInt (-1)) mt_64 rfl rfl ?_
        refine j_xor (e := bXor c2 (-1)) mt_64 rfl rfl ?_
        refine j_and (e := bAnd ((bShl 1 (J (vA sw) 2)) - 1) (bXor c2 (-1))) mt_64 rfl rfl ?_
        refine v_ret mt_64 rfl rfl rfl ?_
        exact v_ret mt_125 rfl rfl rfl h
      · replace h := h.2 (Decidable.not_not.mp c)
        refine v_s mt_125 rfl rfl rfl ?_
        refine v_gr (w := 48) 10 mt_125 rfl rfl c_0 (by decide) g_11_10 ?_
        refine v_s mt_125 rfl rfl rfl ?_
        refine v_gr (w := (vA sw)) 2 mt_125 rfl rfl c_0 (by decide) g_11_2 ?_
        obtain ⟨c4, J3, z5, h⟩ := h
        refine v_call (d1 := 0) mt_125 rfl rfl mt_62 rfl rfl (m_callj (As := [.ref (vA sw)]) (rest := []) rfl rfl c_48 rfl (Nat.le_of_ble_eq_true rfl) (Nat.le_of_ble_eq_true rfl)) z5 (by clear h; omega) ?_
        refine v_go mt_125 rfl rfl ?_
        exact v_ret mt_125 rfl rfl rfl h
    · replace h := h.2 (Decidable.not_not.mp c)
      refine v_s mt_125 rfl rfl rfl ?_
      refine v_gr (w := 48) 10 mt_125 rfl rfl c_0 (by decide) g_11_10 ?_
      refine v_s mt_125 rfl rfl rfl ?_
      refine v_gr (w := (vA sw)) 2 mt_125 rfl rfl c_0 (by decide) g_11_2 ?_
      obtain ⟨c6, J5, z6, h⟩ := h
      refine v_call (d1 := 0) mt_125 rfl rfl mt_61 rfl rfl (m_callj (As := [.ref (vA sw)]) (rest := []) rfl rfl c_48 rfl (Nat.le_of_ble_eq_true rfl) (Nat.le_of_ble_eq_true rfl)) z6 (by clear h; omega) ?_
      exact v_ret mt_125 rfl rfl rfl h
  · replace h := h.2 (Int.not_le.mp c)
    refine v_s mt_125 rfl rfl rfl ?_
    refine v_gr (w := 48) 10 mt_125 rfl rfl c_0 (by decide) g_11_10 ?_
    refine v_s mt_125 rfl rfl rfl ?_
    refine v_gr (w := (vA sw)) 2 mt_125 rfl rfl c_0 (by decide) g_11_2 ?_
    obtain ⟨J7, z7, h⟩ := h
    refine v_call (d1 := 2) mt_125 rfl rfl mt_57 rfl rfl (m_callj (As := [.ref (vA sw)]) (rest := []) rfl rfl c_48 rfl (Nat.le_of_ble_eq_true rfl) (Nat.le_of_ble_eq_true rfl)) z7 (by clear h; omega) ?_
    refine j_inc (e := x3 + 1) (L' := [some (.ref 0), some (iv x1), some (iv x2), some (iv (x3 + 1))]) mt_125 rfl rfl (Nat.le_of_ble_eq_true rfl) rfl rfl ?_
    refine v_go mt_125 rfl rfl ?_
    exact h
set_option maxHeartbeats 600000 in
theorem b_126_0 {X : Nat × (Nat → Int32)} {d : Nat} {J : Nat → Nat → Int} {sw : Bool × Bool × Bool} {lg : Nat → Nat → Int64} {x : Nat} {K : (Option Value ⊕ Nat) → mM → Prop} {x1 : Int} {o2 : Option Value} (hd : 3 ≤ d)
    (h : InR x1 ∧ (x1 < 0 → K (.inr 1) (mj (m_up J 0 17 ((J 0 17) + 1)) sw lg (x + 1))) ∧ (0 ≤ x1 → (InR (J (vA sw) 2) ∧ (x1 < J (vA sw) 2 → (∃ (J1 : Nat → Nat → Int), EE X 0 44 [.ref 48, .ref 41] (mj J sw lg x) (.inl none) (mj J1 sw lg x) ∧ VV X d 126 (18, [some (.ref 0), some (iv x1), some (iv 0)], [], mj J1 sw lg x) K)) ∧ (J (vA sw) 2 ≤ x1 → K (.inr 1) (mj (m_up J 0 17 ((J 0 17) + 1)) sw lg (x + 1)))))) : VV X d 126 (0, [some (.ref 0), some (iv x1), o2], [], mj J sw lg x) K := by
  refine v_s mt_126 rfl rfl rfl ?_
  refine v_s mt_126 rfl rfl rfl ?_
  refine v_inx (L1 := [some (.ref 0), some (iv x1)]) mt_126 rfl rfl mt_153 rfl rfl (m_callj (As := [iv x1]) (rest := []) rfl rfl c_0 rfl (Nat.le_of_ble_eq_true rfl) (Nat.le_of_ble_eq_true rfl)) rfl (by clear h; omega) rfl rfl ?_
  refine v_s mt_153 rfl rfl rfl ?_
  obtain ⟨z1, h⟩ := h
  refine j_if1 mt_153 rfl rfl z1 (fun c => ?_) (fun c => ?_)
  · replace h := h.1 c
    refine v_s mt_153 rfl rfl rfl ?_
    refine v_inx (L1 := [some (.ref 0)]) mt_153 rfl rfl mt_149 rfl rfl (m_callj (As := []) (rest := []) rfl rfl c_0 rfl (Nat.le_of_ble_eq_true rfl) (Nat.le_of_ble_eq_true rfl)) rfl (by clear h; omega) rfl rfl ?_
    refine v_s mt_149 rfl rfl rfl ?_
    refine v_s mt_149 rfl rfl rfl ?_
    refine j_gi (w := J 0 17) 17 mt_149 rfl rfl c_0 (by decide) rfl ?_
    refine v_ic (v := Int32.ofInt 1) mt_149 rfl rfl ?_
    refine j_add (e := (J 0 17) + 1) mt_149 rfl rfl ?_
    refine j_pi 17 mt_149 rfl rfl c_0 (by decide) ?_
    exact v_thr mt_149 rfl rfl (Nat.le_of_ble_eq_true rfl) h
  · replace h := h.2 (Int.not_lt.mp c)
    refine v_s mt_153 rfl rfl rfl ?_
    refine v_s mt_153 rfl rfl rfl ?_
    refine v_gr (w := (vA sw)) 2 mt_153 rfl rfl c_0 (by decide) g_11_2 ?_
    refine j_gi (w := J (vA sw) 2) 2 mt_153 rfl rfl (cvA sw) (by decide) rfl ?_
    obtain ⟨z2, h⟩ := h
    refine j_if2 mt_153 rfl rfl z1 z2 (fun c => ?_) (fun c => ?_)
    · replace h := h.1 c
      refine v_ret mt_153 rfl rfl rfl ?_
      refine v_s mt_126 rfl rfl rfl ?_
      refine v_gr (w := 48) 10 mt_126 rfl rfl c_0 (by decide) g_11_10 ?_
      refine v_s mt_126 rfl rfl rfl ?_
      refine v_gr (w := 41) 9 mt_126 rfl rfl c_0 (by decide) g_11_9 ?_
      obtain ⟨J1, z3, h⟩ := h
      refine v_call (d1 := 0) mt_126 rfl rfl mt_44 rfl rfl (m_callj (As := [.ref 41]) (rest := []) rfl rfl c_48 rfl (Nat.le_of_ble_eq_true rfl) (Nat.le_of_ble_eq_true rfl)) z3 (by clear h; omega) ?_
      refine v_ic (v := Int32.ofInt 0) mt_126 rfl rfl ?_
      refine v_isn (L' := [some (.ref 0), some (iv x1), some (iv 0)]) mt_126 rfl (Nat.le_of_ble_eq_true rfl) rfl ?_
      exact h
    · replace h := h.2 (Int.not_lt.mp c)
      refine v_s mt_153 rfl rfl rfl ?_
      refine v_inx (L1 := [some (.ref 0)]) mt_153 rfl rfl mt_149 rfl rfl (m_callj (As := []) (rest := []) rfl rfl c_0 rfl (Nat.le_of_ble_eq_true rfl) (Nat.le_of_ble_eq_true rfl)) rfl (by clear h; omega) rfl rfl ?_
      refine v_s mt_149 rfl rfl rfl ?_
      refine v_s mt_149 rfl rfl rfl ?_
      refine j_gi (w := J 0 17) 17 mt_149 rfl rfl c_0 (by decide) rfl ?_
      refine v_ic (v := Int32.ofInt 1) mt_149 rfl rfl ?_
      refine j_add (e := (J 0 17) + 1) mt_149 rfl rfl ?_
      refine j_pi 17 mt_149 rfl rfl c_0 (by decide) ?_
      exact v_thr mt_149 rfl rfl (Nat.le_of_ble_eq_true rfl) h
set_option maxHeartbeats 600000 in
theorem b_126_18 {X : Nat × (Nat → Int32)} {d : Nat} {J : Nat → Nat → Int} {sw : Bool × Bool × Bool} {lg : Nat → Nat → Int64} {x : Nat} {K : (Option Value ⊕ Nat) → mM → Prop} {x1 x2 : Int} (hd : 3 ≤ d)
    (h : InR x2 ∧ (200 < x2 → K (.inl (some (iv (-1)))) (mj J sw lg x)) ∧ (x2 ≤ 200 → ((0 ≤ x1 ∧ x1 < 9) ∧ InR (J 53 x1.toNat) ∧ (¬ J 53 x1.toNat = 0 → (∃ (J1 : Nat → Nat → Int), EE X 2 57 [.ref 48, .ref (vA sw)] (mj J sw lg x) (.inl none) (mj J1 sw lg x) ∧ VV X d 126 (18, [some (.ref 0), some (iv x1), some (iv (x2 + 1))], [], mj J1 sw lg x) K)) ∧ (J 53 x1.toNat = 0 → K (.inl (some (iv x2))) (mj J sw lg x))))) : VV X d 126 (18, [some (.ref 0), some (iv x1), some (iv x2)], [], mj J sw lg x) K := by
  refine v_s mt_126 rfl rfl rfl ?_
  refine v_sp (v := Int32.ofInt 200) mt_126 rfl rfl ?_
  obtain ⟨z1, h⟩ := h
  refine j_if2 mt_126 rfl rfl z1 ⟨by decide, by decide⟩ (fun c => ?_) (fun c => ?_)
  · replace h := h.1 c
    refine v_ic (v := Int32.ofInt (-1)) mt_126 rfl rfl ?_
    exact v_ret mt_126 rfl rfl rfl h
  · replace h := h.2 (Int.not_lt.mp c)
    refine v_s mt_126 rfl rfl rfl ?_
    refine v_gr (w := 48) 10 mt_126 rfl rfl c_0 (by decide) g_11_10 ?_
    refine v_gr (w := 53) 4 mt_126 rfl rfl c_48 (by decide) (g_6_4 c_48) ?_
    refine v_s mt_126 rfl rfl rfl ?_
    obtain ⟨z2, h⟩ := h
    refine j_al (w := J 53 x1.toNat) mt_126 rfl c_53 z2 (by decide) rfl ?_
    obtain ⟨z3, h⟩ := h
    refine j_if1 mt_126 rfl rfl z3 (fun c => ?_) (fun c => ?_)
    · replace h := h.1 c
      refine v_s mt_126 rfl rfl rfl ?_
      refine v_gr (w := 48) 10 mt_126 rfl rfl c_0 (by decide) g_11_10 ?_
      refine v_s mt_126 rfl rfl rfl ?_
      refine v_gr (w := (vA sw)) 2 mt_126 rfl rfl c_0 (by decide) g_11_2 ?_
      obtain ⟨J1, z4, h⟩ := h
      refine v_call (d1 := 2) mt_126 rfl rfl mt_57 rfl rfl (m_callj (As := [.ref (vA sw)]) (rest := []) rfl rfl c_48 rfl (Nat.le_of_ble_eq_true rfl) (Nat.le_of_ble_eq_true rfl)) z4 (by clear h; omega) ?_
      refine j_inc (e := x2 + 1) (L' := [some (.ref 0), some (iv x1), some (iv (x2 + 1))]) mt_126 rfl rfl (Nat.le_of_ble_eq_true rfl) rfl rfl ?_
      refine v_go mt_126 rfl rfl ?_
      exact h
    · replace h := h.2 (Decidable.not_not.mp c)
      refine v_s mt_126 rfl rfl rfl ?_
      exact v_ret mt_126 rfl rfl rfl h
set_option maxHeartbeats 600000 in
theorem b_127_0 {X : Nat × (Nat → Int32)} {d : Nat} {J : Nat → Nat → Int} {sw : Bool × Bool × Bool} {lg : Nat → Nat → Int64} {x : Nat} {K : (Option Value ⊕ Nat) → mM → Prop} {x1 : Int} (hd : 4 ≤ d)
    (h : InR x1 ∧ (x1 < 0 → K (.inr 1) (mj (m_up J 0 17 ((J 0 17) + 1)) sw lg (x + 1))) ∧ (0 ≤ x1 → (InR (J (vA sw) 0) ∧ (x1 < J (vA sw) 0 → (∃ (J1 : Nat → Nat → Int), EE X 3 10 [.ref 536, .ref 41, .ref (vA sw), .ref (lA sw), iv x1] (mj J sw lg x) (.inl none) (mj J1 sw lg x) ∧ K (.inl (some (iv (J1 538 0)))) (mj J1 sw lg x))) ∧ (J (vA sw) 0 ≤ x1 → K (.inr 1) (mj (m_up J 0 17 ((J 0 17) + 1)) sw lg (x + 1)))))) : VV X d 127 (0, [some (.ref 0), some (iv x1)], [], mj J sw lg x) K := by
  refine v_s mt_127 rfl rfl rfl ?_
  refine v_s mt_127 rfl rfl rfl ?_
  refine v_inx (L1 := [some (.ref 0), some (iv x1)]) mt_127 rfl rfl mt_151 rfl rfl (m_callj (As := [iv x1]) (rest := []) rfl rfl c_0 rfl (Nat.le_of_ble_eq_true rfl) (Nat.le_of_ble_eq_true rfl)) rfl (by clear h; omega) rfl rfl ?_
  refine v_s mt_151 rfl rfl rfl ?_
  obtain ⟨z1, h⟩ := h
  refine j_if1 mt_151 rfl rfl z1 (fun c => ?_) (fun c => ?_)
  · replace h := h.1 c
    refine v_s mt_151 rfl rfl rfl ?_
    refine v_inx (L1 := [some (.ref 0)]) mt_151 rfl rfl mt_149 rfl rfl (m_callj (As := []) (rest := []) rfl rfl c_0 rfl (Nat.le_of_ble_eq_true rfl) (Nat.le_of_ble_eq_true rfl)) rfl (by clear h; omega) rfl rfl ?_
    refine v_s mt_149 rfl rfl rfl ?_
    refine v_s mt_149 rfl rfl rfl ?_
    refine j_gi (w := J 0 17) 17 mt_149 rfl rfl c_0 (by decide) rfl ?_
    refine v_ic (v := Int32.ofInt 1) mt_149 rfl rfl ?_
    refine j_add (e := (J 0 17) + 1) mt_149 rfl rfl ?_
    refine j_pi 17 mt_149 rfl rfl c_0 (by decide) ?_
    exact v_thr mt_149 rfl rfl (Nat.le_of_ble_eq_true rfl) h
  · replace h := h.2 (Int.not_lt.mp c)
    refine v_s mt_151 rfl rfl rfl ?_
    refine v_s mt_151 rfl rfl rfl ?_
    refine v_gr (w := (vA sw)) 2 mt_151 rfl rfl c_0 (by decide) g_11_2 ?_
    refine j_gi (w := J (vA sw) 0) 0 mt_151 rfl rfl (cvA sw) (by decide) rfl ?_
    obtain ⟨z2, h⟩ := h
    refine j_if2 mt_151 rfl rfl z1 z2 (fun c => ?_) (fun c => ?_)
    · replace h := h.1 c
      refine v_ret mt_151 rfl rfl rfl ?_
      refine v_s mt_127 rfl rfl rfl ?_
      refine v_gr (w := 536) 14 mt_127 rfl rfl c_0 (by decide) g_11_14 ?_
      refine v_s mt_127 rfl rfl rfl ?_
      refine v_gr (w := 41) 9 mt_127 rfl rfl c_0 (by decide) g_11_9 ?_
      refine v_s mt_127 rfl rfl rfl ?_
      refine v_gr (w := (vA sw)) 2 mt_127 rfl rfl c_0 (by decide) g_11_2 ?_
      refine v_s mt_127 rfl rfl rfl ?_
      refine v_gr (w := (lA sw)) 4 mt_127 rfl rfl c_0 (by decide) g_11_4 ?_
      refine v_s mt_127 rfl rfl rfl ?_
      obtain ⟨J1, z3, h⟩ := h
      refine v_call (d1 := 3) mt_127 rfl rfl mt_10 rfl rfl (m_callj (As := [.ref 41, .ref (vA sw), .ref (lA sw), iv x1]) (rest := []) rfl rfl c_536 rfl (Nat.le_of_ble_eq_true rfl) (Nat.le_of_ble_eq_true rfl)) z3 (by clear h; omega) ?_
      refine v_s mt_127 rfl rfl rfl ?_
      refine v_gr (w := 536) 14 mt_127 rfl rfl c_0 (by decide) g_11_14 ?_
      refine v_inl (L1 := [some (.ref 536)]) mt_127 rfl rfl mt_13 rfl rfl (m_callj (As := []) (rest := []) rfl rfl c_536 rfl (Nat.le_of_ble_eq_true rfl) (Nat.le_of_ble_eq_true rfl)) rfl (by clear h; omega) ?_
      refine v_s mt_13 rfl rfl rfl ?_
      refine v_gr (w := 538) 1 mt_13 rfl rfl c_536 (by decide) (g_1_1 c_536) ?_
      refine v_ic (v := Int32.ofInt 0) mt_13 rfl rfl ?_
      refine j_al (w := J1 538 0) mt_13 rfl c_538 ⟨by decide, by decide⟩ (by decide) rfl ?_
      refine v_ret mt_13 rfl rfl rfl ?_
      exact v_ret mt_127 rfl rfl rfl h
    · replace h := h.2 (Int.not_lt.mp c)
      refine v_s mt_151 rfl rfl rfl ?_
      refine v_inx (L1 := [some (.ref 0)]) mt_151 rfl rfl mt_149 rfl rfl (m_callj (As := []) (rest := []) rfl rfl c_0 rfl (Nat.le_of_ble_eq_true rfl) (Nat.le_of_ble_eq_true rfl)) rfl (by clear h; omega) rfl rfl ?_
      refine v_s mt_149 rfl rfl rfl ?_
      refine v_s mt_149 rfl rfl rfl ?_
      refine j_gi (w := J 0 17) 17 mt_149 rfl rfl c_0 (by decide) rfl ?_
      refine v_ic (v := Int32.ofInt 1) mt_149 rfl rfl ?_
      refine j_add (e := (J 0 17) + 1) mt_149 rfl rfl ?_
      refine j_pi 17 mt_149 rfl rfl c_0 (by decide) ?_
      exact v_thr mt_149 rfl rfl (Nat.le_of_ble_eq_true rfl) h
set_option maxHeartbeats 600000 in
theorem b_128_0 {X : Nat × (Nat → Int32)} {d : Nat} {J : Nat → Nat → Int} {sw : Bool × Bool × Bool} {lg : Nat → Nat → Int64} {x : Nat} {K : (Option Value ⊕ Nat) → mM → Prop} {x1 x2 : Int} (hd : 4 ≤ d)
    (h : InR x1 ∧ (x1 < 0 → K (.inr 1) (mj (m_up J 0 17 ((J 0 17) + 1)) sw lg (x + 1))) ∧ (0 ≤ x1 → (InR (J (vA sw) 0) ∧ (x1 < J (vA sw) 0 → (InR x2 ∧ (x2 < 0 → K (.inr 1) (mj (m_up J 0 17 ((J 0 17) + 1)) sw lg (x + 1))) ∧ (0 ≤ x2 → (InR (J (vA sw) 1) ∧ (x2 < J (vA sw) 1 → (∃ (J1 : Nat → Nat → Int), EE X 3 10 [.ref 536, .ref 41, .ref (vA sw), .ref (lA sw), iv x1] (mj J sw lg x) (.inl none) (mj J1 sw lg x) ∧ ∃ (c3 : Int) (J2 : Nat → Nat → Int), EE X 2 14 [.ref 536, .ref 41, .ref (vA sw), iv x2] (mj J1 sw lg x) (.inl (some (iv c3))) (mj J2 sw lg x) ∧ K (.inl (some (iv c3))) (mj J2 sw lg x))) ∧ (J (vA sw) 1 ≤ x2 → K (.inr 1) (mj (m_up J 0 17 ((J 0 17) + 1)) sw lg (x + 1))))))) ∧ (J (vA sw) 0 ≤ x1 → K (.inr 1) (mj (m_up J 0 17 ((J 0 17) + 1)) sw lg (x + 1)))))) : VV X d 128 (0, [some (.ref 0), some (iv x1), some (iv x2)], [], mj J sw lg x) K := by
  refine v_s mt_128 rfl rfl rfl ?_
  refine v_s mt_128 rfl rfl rfl ?_
  refine v_inx (L1 := [some (.ref 0), some (iv x1)]) mt_128 rfl rfl mt_151 rfl rfl (m_callj (As := [iv x1]) (rest := []) rfl rfl c_0 rfl (Nat.le_of_ble_eq_true rfl) (Nat.le_of_ble_eq_true rfl)) rfl (by clear h; omega) rfl rfl ?_
  refine v_s mt_151 rfl rfl rfl ?_
  obtain ⟨z1, h⟩ := h
  refine j_if1 mt_151 rfl rfl z1 (fun c => ?_) (fun c => ?_)
  · replace h := h.1 c
    refine v_s mt_151 rfl rfl rfl ?_
    refine v_inx (L1 := [some (.ref 0)]) mt_151 rfl rfl mt_149 rfl rfl (m_callj (As := []) (rest := []) rfl rfl c_0 rfl (Nat.le_of_ble_eq_true rfl) (Nat.le_of_ble_eq_true rfl)) rfl (by clear h; omega) rfl rfl ?_
    refine v_s mt_149 rfl rfl rfl ?_
    refine v_s mt_149 rfl rfl rfl ?_
    refine j_gi (w := J 0 17) 17 mt_149 rfl rfl c_0 (by decide) rfl ?_
    refine v_ic (v := Int32.ofInt 1) mt_149 rfl rfl ?_
    refine j_add (e := (J 0 17) + 1) mt_149 rfl rfl ?_
    refine j_pi 17 mt_149 rfl rfl c_0 (by decide) ?_
    exact v_thr mt_149 rfl rfl (Nat.le_of_ble_eq_true rfl) h
  · replace h := h.2 (Int.not_lt.mp c)
    refine v_s mt_151 rfl rfl rfl ?_
    refine v_s mt_151 rfl rfl rfl ?_
    refine v_gr (w := (vA sw)) 2 mt_151 rfl rfl c_0 (by decide) g_11_2 ?_
    refine j_gi (w := J (vA sw) 0) 0 mt_151 rfl rfl (cvA sw) (by decide) rfl ?_
    obtain ⟨z2, h⟩ := h
    refine j_if2 mt_151 rfl rfl z1 z2 (fun c => ?_) (fun c => ?_)
    · replace h := h.1 c
      refine v_ret mt_151 rfl rfl rfl ?_
      refine v_s mt_128 rfl rfl rfl ?_
      refine v_s mt_128 rfl rfl rfl ?_
      refine v_inx (L1 := [some (.ref 0), some (iv x2)]) mt_128 rfl rfl mt_152 rfl rfl (m_callj (As := [iv x2]) (rest := []) rfl rfl c_0 rfl (Nat.le_of_ble_eq_true rfl) (Nat.le_of_ble_eq_true rfl)) rfl (by clear h; omega) rfl rfl ?_
      refine v_s mt_152 rfl rfl rfl ?_
      obtain ⟨z3, h⟩ := h
      refine j_if1 mt_152 rfl rfl z3 (fun c => ?_) (fun c => ?_)
      · replace h := h.1 c
        refine v_s mt_152 rfl rfl rfl ?_
        refine v_inx (L1 := [some (.ref 0)]) mt_152 rfl rfl mt_149 rfl rfl (m_callj (As := []) (rest := []) rfl rfl c_0 rfl (Nat.le_of_ble_eq_true rfl) (Nat.le_of_ble_eq_true rfl)) rfl (by clear h; omega) rfl rfl ?_
        refine v_s mt_149 rfl rfl rfl ?_
        refine v_s mt_149 rfl rfl rfl ?_
        refine j_gi (w := J 0 17) 17 mt_149 rfl rfl c_0 (by decide) rfl ?_
        refine v_ic (v := Int32.ofInt 1) mt_149 rfl rfl ?_
        refine j_add (e := (J 0 17) + 1) mt_149 rfl rfl ?_
        refine j_pi 17 mt_149 rfl rfl c_0 (by decide) ?_
        exact v_thr mt_149 rfl rfl (Nat.le_of_ble_eq_true rfl) h
      · replace h := h.2 (Int.not_lt.mp c)
        refine v_s mt_152 rfl rfl rfl ?_
        refine v_s mt_152 rfl rfl rfl ?_
        refine v_gr (w := (vA sw)) 2 mt_152 rfl rfl c_0 (by decide) g_11_2 ?_
        refine j_gi (w := J (vA sw) 1) 1 mt_152 rfl rfl (cvA sw) (by decide) rfl ?_
        obtain ⟨z4, h⟩ := h
        refine j_if2 mt_152 rfl rfl z3 z4 (fun c => ?_) (fun c => ?_)
        · replace h := h.1 c
          refine v_ret mt_152 rfl rfl rfl ?_
          refine v_s mt_128 rfl rfl rfl ?_
          refine v_gr (w := 536) 14 mt_128 rfl rfl c_0 (by decide) g_11_14 ?_
          refine v_s mt_128 rfl rfl rfl ?_
          refine v_gr (w := 41) 9 mt_128 rfl rfl c_0 (by decide) g_11_9 ?_
          refine v_s mt_128 rfl rfl rfl ?_
          refine v_gr (w := (vA sw)) 2 mt_128 rfl rfl c_0 (by decide) g_11_2 ?_
          refine v_s mt_128 rfl rfl rfl ?_
          refine v_gr (w := (lA sw)) 4 mt_128 rfl rfl c_0 (by decide) g_11_4 ?_
          refine v_s mt_128 rfl rfl rfl ?_
          obtain ⟨J1, z5, h⟩ := h
          refine v_call (d1 := 3) mt_128 rfl rfl mt_10 rfl rfl (m_callj (As := [.ref 41, .ref (vA sw), .ref (lA sw), iv x1]) (rest := []) rfl rfl c_536 rfl (Nat.le_of_ble_eq_true rfl) (Nat.le_of_ble_eq_true rfl)) z5 (by clear h; omega) ?_
          refine v_s mt_128 rfl rfl rfl ?_
          refine v_gr (w := 536) 14 mt_128 rfl rfl c_0 (by decide) g_11_14 ?_
          refine v_s mt_128 rfl rfl rfl ?_
          refine v_gr (w := 41) 9 mt_128 rfl rfl c_0 (by decide) g_11_9 ?_
          refine v_s mt_128 rfl rfl rfl ?_
          refine v_gr (w := (vA sw)) 2 mt_128 rfl rfl c_0 (by decide) g_11_2 ?_
          refine v_s mt_128 rfl rfl rfl ?_
          obtain ⟨c3, J2, z6, h⟩ := h
          refine v_call (d1 := 2) mt_128 rfl rfl mt_14 rfl rfl (m_callj (As := [.ref 41, .ref (vA sw), iv x2]) (rest := []) rfl rfl c_536 rfl (Nat.le_of_ble_eq_true rfl) (Nat.le_of_ble_eq_true rfl)) z6 (by clear h; omega) ?_
          exact v_ret mt_128 rfl rfl rfl h
        · replace h := h.2 (Int.not_lt.mp c)
          refine v_s mt_152 rfl rfl rfl ?_
          refine v_inx (L1 := [some (.ref 0)]) mt_152 rfl rfl mt_149 rfl rfl (m_callj (As := []) (rest := []) rfl rfl c_0 rfl (Nat.le_of_ble_eq_true rfl) (Nat.le_of_ble_eq_true rfl)) rfl (by clear h; omega) rfl rfl ?_
          refine v_s mt_149 rfl rfl rfl ?_
          refine v_s mt_149 rfl rfl rfl ?_
          refine j_gi (w := J 0 17) 17 mt_149 rfl rfl c_0 (by decide) rfl ?_
          refine v_ic (v := Int32.ofInt 1) mt_149 rfl rfl ?_
          refine j_add (e := (J 0 17) + 1) mt_149 rfl rfl ?_
          refine j_pi 17 mt_149 rfl rfl c_0 (by decide) ?_
          exact v_thr mt_149 rfl rfl (Nat.le_of_ble_eq_true rfl) h
    · replace h := h.2 (Int.not_lt.mp c)
      refine v_s mt_151 rfl rfl rfl ?_
      refine v_inx (L1 := [some (.ref 0)]) mt_151 rfl rfl mt_149 rfl rfl (m_callj (As := []) (rest := []) rfl rfl c_0 rfl (Nat.le_of_ble_eq_true rfl) (Nat.le_of_ble_eq_true rfl)) rfl (by clear h; omega) rfl rfl ?_
      refine v_s mt_149 rfl rfl rfl ?_
      refine v_s mt_149 rfl rfl rfl ?_
      refine j_gi (w := J 0 17) 17 mt_149 rfl rfl c_0 (by decide) rfl ?_
      refine v_ic (v := Int32.ofInt 1) mt_149 rfl rfl ?_
      refine j_add (e := (J 0 17) + 1) mt_149 rfl rfl ?_
      refine j_pi 17 mt_149 rfl rfl c_0 (by decide) ?_
      exact v_thr mt_149 rfl rfl (Nat.le_of_ble_eq_true rfl) h
set_option maxHeartbeats 600000 in
theorem b_129_0 {X : Nat × (Nat → Int32)} {d : Nat} {J : Nat → Nat → Int} {sw : Bool × Bool × Bool} {lg : Nat → Nat → Int64} {x : Nat} {K : (Option Value ⊕ Nat) → mM → Prop} {x1 : Int} (hd : 2 ≤ d)
    (h : InR x1 ∧ (x1 < 0 → K (.inr 1) (mj (m_up J 0 17 ((J 0 17) + 1)) sw lg (x + 1))) ∧ (0 ≤ x1 → (InR (J (vA sw) 2) ∧ (x1 < J (vA sw) 2 → (∃ (c2 : Int) (J1 : Nat → Nat → Int), EE X 0 63 [.ref 41, .ref (vA sw)] (mj J sw lg x) (.inl (some (iv c2))) (mj J1 sw lg x) ∧ ∃ (c4 : Int) (J3 : Nat → Nat → Int), EE X 1 103 [.ref 539, .ref (vA sw), iv c2, iv x1] (mj J1 sw lg x) (.inl (some (iv c4))) (mj J3 sw lg x) ∧ K (.inl (some (iv c4))) (mj J3 sw lg x))) ∧ (J (vA sw) 2 ≤ x1 → K (.inr 1) (mj (m_up J 0 17 ((J 0 17) + 1)) sw lg (x + 1)))))) : VV X d 129 (0, [some (.ref 0), some (iv x1)], [], mj J sw lg x) K := by
  refine v_s mt_129 rfl rfl rfl ?_
  refine v_s mt_129 rfl rfl rfl ?_
  refine v_inx (L1 := [some (.ref 0), some (iv x1)]) mt_129 rfl rfl mt_153 rfl rfl (m_callj (As := [iv x1]) (rest := []) rfl rfl c_0 rfl (Nat.le_of_ble_eq_true rfl) (Nat.le_of_ble_eq_true rfl)) rfl (by clear h; omega) rfl rfl ?_
  refine v_s mt_153 rfl rfl rfl ?_
  obtain ⟨z1, h⟩ := h
  refine j_if1 mt_153 rfl rfl z1 (fun c => ?_) (fun c => ?_)
  · replace h := h.1 c
    refine v_s mt_153 rfl rfl rfl ?_
    refine v_inx (L1 := [some (.ref 0)]) mt_153 rfl rfl mt_149 rfl rfl (m_callj (As := []) (rest := []) rfl rfl c_0 rfl (Nat.le_of_ble_eq_true rfl) (Nat.le_of_ble_eq_true rfl)) rfl (by clear h; omega) rfl rfl ?_
    refine v_s mt_149 rfl rfl rfl ?_
    refine v_s mt_149 rfl rfl rfl ?_
    refine j_gi (w := J 0 17) 17 mt_149 rfl rfl c_0 (by decide) rfl ?_
    refine v_ic (v := Int32.ofInt 1) mt_149 rfl rfl ?_
    refine j_add (e := (J 0 17) + 1) mt_149 rfl rfl ?_
    refine j_pi 17 mt_149 rfl rfl c_0 (by decide) ?_
    exact v_thr mt_149 rfl rfl (Nat.le_of_ble_eq_true rfl) h
  · replace h := h.2 (Int.not_lt.mp c)
    refine v_s mt_153 rfl rfl rfl ?_
    refine v_s mt_153 rfl rfl rfl ?_
    refine v_gr (w := (vA sw)) 2 mt_153 rfl rfl c_0 (by decide) g_11_2 ?_
    refine j_gi (w := J (vA sw) 2) 2 mt_153 rfl rfl (cvA sw) (by decide) rfl ?_
    obtain ⟨z2, h⟩ := h
    refine j_if2 mt_153 rfl rfl z1 z2 (fun c => ?_) (fun c => ?_)
    · replace h := h.1 c
      refine v_ret mt_153 rfl rfl rfl ?_
      refine v_s mt_129 rfl rfl rfl ?_
      refine v_gr (w := 539) 15 mt_129 rfl rfl c_0 (by decide) g_11_15 ?_
      refine v_s mt_129 rfl rfl rfl ?_
      refine v_gr (w := (vA sw)) 2 mt_129 rfl rfl c_0 (by decide) g_11_2 ?_
      refine v_s mt_129 rfl rfl rfl ?_
      refine v_gr (w := 41) 9 mt_129 rfl rfl c_0 (by decide) g_11_9 ?_
      refine v_s mt_129 rfl rfl rfl ?_
      refine v_gr (w := (vA sw)) 2 mt_129 rfl rfl c_0 (by decide) g_11_2 ?_
      obtain ⟨c2, J1, z3, h⟩ := h
      refine v_call (d1 := 0) mt_129 rfl rfl mt_63 rfl rfl (m_callj (As := [.ref (vA sw)]) (rest := [.ref (vA sw), .ref 539]) rfl rfl c_41 rfl (Nat.le_of_ble_eq_true rfl) (Nat.le_of_ble_eq_true rfl)) z3 (by clear h; omega) ?_
      refine v_s mt_129 rfl rfl rfl ?_
      obtain ⟨c4, J3, z4, h⟩ := h
      refine v_call (d1 := 1) mt_129 rfl rfl mt_103 rfl rfl (m_callj (As := [.ref (vA sw), iv c2, iv x1]) (rest := []) rfl rfl c_539 rfl (Nat.le_of_ble_eq_true rfl) (Nat.le_of_ble_eq_true rfl)) z4 (by clear h; omega) ?_
      exact v_ret mt_129 rfl rfl rfl h
    · replace h := h.2 (Int.not_lt.mp c)
      refine v_s mt_153 rfl rfl rfl ?_
      refine v_inx (L1 := [some (.ref 0)]) mt_153 rfl rfl mt_149 rfl rfl (m_callj (As := []) (rest := []) rfl rfl c_0 rfl (Nat.le_of_ble_eq_true rfl) (Nat.le_of_ble_eq_true rfl)) rfl (by clear h; omega) rfl rfl ?_
      refine v_s mt_149 rfl rfl rfl ?_
      refine v_s mt_149 rfl rfl rfl ?_
      refine j_gi (w := J 0 17) 17 mt_149 rfl rfl c_0 (by decide) rfl ?_
      refine v_ic (v := Int32.ofInt 1) mt_149 rfl rfl ?_
      refine j_add (e := (J 0 17) + 1) mt_149 rfl rfl ?_
      refine j_pi 17 mt_149 rfl rfl c_0 (by decide) ?_
      exact v_thr mt_149 rfl rfl (Nat.le_of_ble_eq_true rfl) h
set_option maxHeartbeats 600000 in
theorem b_130_0 {X : Nat × (Nat → Int32)} {d : Nat} {J : Nat → Nat → Int} {sw : Bool × Bool × Bool} {lg : Nat → Nat → Int64} {x : Nat} {K : (Option Value ⊕ Nat) → mM → Prop} (hd : 2 ≤ d)
    (h : ∃ (c2 : Int) (J1 : Nat → Nat → Int), EE X 0 63 [.ref 41, .ref (vA sw)] (mj J sw lg x) (.inl (some (iv c2))) (mj J1 sw lg x) ∧ ∃ (c4 : Int) (J3 : Nat → Nat → Int), EE X 1 105 [.ref 539, .ref (vA sw), iv c2] (mj J1 sw lg x) (.inl (some (iv c4))) (mj J3 sw lg x) ∧ K (.inl (some (iv c4))) (mj J3 sw lg x)) : VV X d 130 (0, [some (.ref 0)], [], mj J sw lg x) K := by
  refine v_s mt_130 rfl rfl rfl ?_
  refine v_gr (w := 539) 15 mt_130 rfl rfl c_0 (by decide) g_11_15 ?_
  refine v_s mt_130 rfl rfl rfl ?_
  refine v_gr (w := (vA sw)) 2 mt_130 rfl rfl c_0 (by decide) g_11_2 ?_
  refine v_s mt_130 rfl rfl rfl ?_
  refine v_gr (w := 41) 9 mt_130 rfl rfl c_0 (by decide) g_11_9 ?_
  refine v_s mt_130 rfl rfl rfl ?_
  refine v_gr (w := (vA sw)) 2 mt_130 rfl rfl c_0 (by decide) g_11_2 ?_
  obtain ⟨c2, J1, z1, h⟩ := h
  refine v_call (d1 := 0) mt_130 rfl rfl mt_63 rfl rfl (m_callj (As := [.ref (vA sw)]) (rest := [.ref (vA sw), .ref 539]) rfl rfl c_41 rfl (Nat.le_of_ble_eq_true rfl) (Nat.le_of_ble_eq_true rfl)) z1 (by clear h; omega) ?_
  obtain ⟨c4, J3, z2, h⟩ := h
  refine v_call (d1 := 1) mt_130 rfl rfl mt_105 rfl rfl (m_callj (As := [.ref (vA sw), iv c2]) (rest := []) rfl rfl c_539 rfl (Nat.le_of_ble_eq_true rfl) (Nat.le_of_ble_eq_true rfl)) z2 (by clear h; omega) ?_
  exact v_ret mt_130 rfl rfl rfl h
set_option maxHeartbeats 600000 in
theorem b_131_0 {X : Nat × (Nat → Int32)} {d : Nat} {J : Nat → Nat → Int} {sw : Bool × Bool × Bool} {lg : Nat → Nat → Int64} {x : Nat} {K : (Option Value ⊕ Nat) → mM → Prop} {x1 x2 : Int} (hd : 2 ≤ d)
    (h : InR x1 ∧ (x1 < 0 → K (.inr 1) (mj (m_up J 0 17 ((J 0 17) + 1)) sw lg (x + 1))) ∧ (0 ≤ x1 → (InR (J (vA sw) 2) ∧ (x1 < J (vA sw) 2 → (InR x2 ∧ (x2 < 0 → K (.inr 1) (mj (m_up J 0 17 ((J 0 17) + 1)) sw lg (x + 1))) ∧ (0 ≤ x2 → ((x2 < J (vA sw) 2 → (∃ (c2 : Int) (J1 : Nat → Nat → Int), EE X 1 103 [.ref 539, .ref (vA sw), iv (bShl 1 x2), iv x1] (mj J sw lg x) (.inl (some (iv c2))) (mj J1 sw lg x) ∧ K (.inl (some (iv c2))) (mj J1 sw lg x))) ∧ (J (vA sw) 2 ≤ x2 → K (.inr 1) (mj (m_up J 0 17 ((J 0 17) + 1)) sw lg (x + 1))))))) ∧ (J (vA sw) 2 ≤ x1 → K (.inr 1) (mj (m_up J 0 17 ((J 0 17) + 1)) sw lg (x + 1)))))) : VV X d 131 (0, [some (.ref 0), some (iv x1), some (iv x2)], [], mj J sw lg x) K := by
  refine v_s mt_131 rfl rfl rfl ?_
  refine v_s mt_131 rfl rfl rfl ?_
  refine v_inx (L1 := [some (.ref 0), some (iv x1)]) mt_131 rfl rfl mt_153 rfl rfl (m_callj (As := [iv x1]) (rest := []) rfl rfl c_0 rfl (Nat.le_of_ble_eq_true rfl) (Nat.le_of_ble_eq_true rfl)) rfl (by clear h; omega) rfl rfl ?_
  refine v_s mt_153 rfl rfl rfl ?_
  obtain ⟨z1, h⟩ := h
  refine j_if1 mt_153 rfl rfl z1 (fun c => ?_) (fun c => ?_)
  · replace h := h.1 c
    refine v_s mt_153 rfl rfl rfl ?_
    refine v_inx (L1 := [some (.ref 0)]) mt_153 rfl rfl mt_149 rfl rfl (m_callj (As := []) (rest := []) rfl rfl c_0 rfl (Nat.le_of_ble_eq_true rfl) (Nat.le_of_ble_eq_true rfl)) rfl (by clear h; omega) rfl rfl ?_
    refine v_s mt_149 rfl rfl rfl ?_
    refine v_s mt_149 rfl rfl rfl ?_
    refine j_gi (w := J 0 17) 17 mt_149 rfl rfl c_0 (by decide) rfl ?_
    refine v_ic (v := Int32.ofInt 1) mt_149 rfl rfl ?_
    refine j_add (e := (J 0 17) + 1) mt_149 rfl rfl ?_
    refine j_pi 17 mt_149 rfl rfl c_0 (by decide) ?_
    exact v_thr mt_149 rfl rfl (Nat.le_of_ble_eq_true rfl) h
  · replace h := h.2 (Int.not_lt.mp c)
    refine v_s mt_153 rfl rfl rfl ?_
    refine v_s mt_153 rfl rfl rfl ?_
    refine v_gr (w := (vA sw)) 2 mt_153 rfl rfl c_0 (by decide) g_11_2 ?_
    refine j_gi (w := J (vA sw) 2) 2 mt_153 rfl rfl (cvA sw) (by decide) rfl ?_
    obtain ⟨z2, h⟩ := h
    refine j_if2 mt_153 rfl rfl z1 z2 (fun c => ?_) (fun c => ?_)
    · replace h := h.1 c
      refine v_ret mt_153 rfl rfl rfl ?_
      refine v_s mt_131 rfl rfl rfl ?_
      refine v_s mt_131 rfl rfl rfl ?_
      refine v_inx (L1 := [some (.ref 0), some (iv x2)]) mt_131 rfl rfl mt_153 rfl rfl (m_callj (As := [iv x2]) (rest := []) rfl rfl c_0 rfl (Nat.le_of_ble_eq_true rfl) (Nat.le_of_ble_eq_true rfl)) rfl (by clear h; omega) rfl rfl ?_
      refine v_s mt_153 rfl rfl rfl ?_
      obtain ⟨z3, h⟩ := h
      refine j_if1 mt_153 rfl rfl z3 (fun c => ?_) (fun c => ?_)
      · replace h := h.1 c
        refine v_s mt_153 rfl rfl rfl ?_
        refine v_inx (L1 := [some (.ref 0)]) mt_153 rfl rfl mt_149 rfl rfl (m_callj (As := []) (rest := []) rfl rfl c_0 rfl (Nat.le_of_ble_eq_true rfl) (Nat.le_of_ble_eq_true rfl)) rfl (by clear h; omega) rfl rfl ?_
        refine v_s mt_149 rfl rfl rfl ?_
        refine v_s mt_149 rfl rfl rfl ?_
        refine j_gi (w := J 0 17) 17 mt_149 rfl rfl c_0 (by decide) rfl ?_
        refine v_ic (v := Int32.ofInt 1) mt_149 rfl rfl ?_
        refine j_add (e := (J 0 17) + 1) mt_149 rfl rfl ?_
        refine j_pi 17 mt_149 rfl rfl c_0 (by decide) ?_
        exact v_thr mt_149 rfl rfl (Nat.le_of_ble_eq_true rfl) h
      · replace h := h.2 (Int.not_lt.mp c)
        refine v_s mt_153 rfl rfl rfl ?_
        refine v_s mt_153 rfl rfl rfl ?_
        refine v_gr (w := (vA sw)) 2 mt_153 rfl rfl c_0 (by decide) g_11_2 ?_
        refine j_gi (w := J (vA sw) 2) 2 mt_153 rfl rfl (cvA sw) (by decide) rfl ?_
        refine j_if2 mt_153 rfl rfl z3 z2 (fun c => ?_) (fun c => ?_)
        · replace h := h.1 c
          refine v_ret mt_153 rfl rfl rfl ?_
          refine v_s mt_131 rfl rfl rfl ?_
          refine v_gr (w := 539) 15 mt_131 rfl rfl c_0 (by decide) g_11_15 ?_
          refine v_s mt_131 rfl rfl rfl ?_
          refine v_gr (w := (vA sw)) 2 mt_131 rfl rfl c_0 (by decide) g_11_2 ?_
          refine v_ic (v := Int32.ofInt 1) mt_131 rfl rfl ?_
          refine v_s mt_131 rfl rfl rfl ?_
          refine j_shl (e := bShl 1 x2) mt_131 rfl rfl ?_
          refine v_s mt_131 rfl rfl rfl ?_
          obtain ⟨c2, J1, z4, h⟩ := h
          refine v_call (d1 := 1) mt_131 rfl rfl mt_103 rfl rfl (m_callj (As := [.ref (vA sw), iv (bShl 1 x2), iv x1]) (rest := []) rfl rfl c_539 rfl (Nat.le_of_ble_eq_true rfl) (Nat.le_of_ble_eq_true rfl)) z4 (by clear h; omega) ?_
          exact v_ret mt_131 rfl rfl rfl h
        · replace h := h.2 (Int.not_lt.mp c)
          refine v_s mt_153 rfl rfl rfl ?_
          refine v_inx (L1 := [some (.ref 0)]) mt_153 rfl rfl mt_149 rfl rfl (m_callj (As := []) (rest := []) rfl rfl c_0 rfl (Nat.le_of_ble_eq_true rfl) (Nat.le_of_ble_eq_true rfl)) rfl (by clear h; omega) rfl rfl ?_
          refine v_s mt_149 rfl rfl rfl ?_
          refine v_s mt_149 rfl rfl rfl ?_
          refine j_gi (w := J 0 17) 17 mt_149 rfl rfl c_0 (by decide) rfl ?_
          refine v_ic (v := Int32.ofInt 1) mt_149 rfl rfl ?_
          refine j_add (e := (J 0 17) + 1) mt_149 rfl rfl ?_
          refine j_pi 17 mt_149 rfl rfl c_0 (by decide) ?_
          exact v_thr mt_149 rfl rfl (Nat.le_of_ble_eq_true rfl) h
    · replace h := h.2 (Int.not_lt.mp c)
      refine v_s mt_153 rfl rfl rfl ?_
      refine v_inx (L1 := [some (.ref 0)]) mt_153 rfl rfl mt_149 rfl rfl (m_callj (As := []) (rest := []) rfl rfl c_0 rfl (Nat.le_of_ble_eq_true rfl) (Nat.le_of_ble_eq_true rfl)) rfl (by clear h; omega) rfl rfl ?_
      refine v_s mt_149 rfl rfl rfl ?_
      refine v_s mt_149 rfl rfl rfl ?_
      refine j_gi (w := J 0 17) 17 mt_149 rfl rfl c_0 (by decide) rfl ?_
      refine v_ic (v := Int32.ofInt 1) mt_149 rfl rfl ?_
      refine j_add (e := (J 0 17) + 1) mt_149 rfl rfl ?_
      refine j_pi 17 mt_149 rfl rfl c_0 (by decide) ?_
      exact v_thr mt_149 rfl rfl (Nat.le_of_ble_eq_true rfl) h
set_option maxHeartbeats 600000 in
theorem b_137_0 {X : Nat × (Nat → Int32)} {d : Nat} {J : Nat → Nat → Int} {sw : Bool × Bool × Bool} {lg : Nat → Nat → Int64} {x : Nat} {K : (Option Value ⊕ Nat) → mM → Prop} {x1 : Int} {o2 : Option Value} (hd : 2 ≤ d)
    (h : InR x1 ∧ (x1 < 0 → K (.inr 2) (mj (m_up J 0 18 ((J 0 18) + 1)) sw lg (x + 1))) ∧ (0 ≤ x1 → ((x1 ≤ 1 → (∃ (c2 : Int) (J1 : Nat → Nat → Int), EE X 0 59 [.ref 41, .ref (vA sw), iv ((bShl 1 (J (vA sw) 2)) - 1)] (mj J sw lg x) (.inl (some (iv c2))) (mj J1 sw lg x) ∧ InR c2 ∧ (¬ c2 = (-1) → ((¬ x1 = 0 → ((0 ≤ c2 ∧ c2 < 9) ∧ K (.inl (some (iv (J1 46 c2.toNat)))) (mj J1 sw lg x))) ∧ (x1 = 0 → K (.inl (some (iv c2))) (mj J1 sw lg x)))) ∧ (c2 = (-1) → K (.inl (some (iv (-1)))) (mj J1 sw lg x)))) ∧ (1 < x1 → K (.inr 2) (mj (m_up J 0 18 ((J 0 18) + 1)) sw lg (x + 1)))))) : VV X d 137 (0, [some (.ref 0), some (iv x1), o2], [], mj J sw lg x) K := by
  refine v_s mt_137 rfl rfl rfl ?_
  refine v_s mt_137 rfl rfl rfl ?_
  refine v_ic (v := Int32.ofInt 0) mt_137 rfl rfl ?_
  refine v_ic (v := Int32.ofInt 1) mt_137 rfl rfl ?_
  refine v_inx (L1 := [some (.ref 0), some (iv x1), some (iv 0), some (iv 1)]) mt_137 rfl rfl mt_154 rfl rfl (m_callj (As := [iv x1, iv 0, iv 1]) (rest := []) rfl rfl c_0 rfl (Nat.le_of_ble_eq_true rfl) (Nat.le_of_ble_eq_true rfl)) rfl (by clear h; omega) rfl rfl ?_
  refine v_s mt_154 rfl rfl rfl ?_
  refine v_s mt_154 rfl rfl rfl ?_
  obtain ⟨z1, h⟩ := h
  refine j_if2 mt_154 rfl rfl z1 ⟨by decide, by decide⟩ (fun c => ?_) (fun c => ?_)
  · replace h := h.1 c
    refine v_s mt_154 rfl rfl rfl ?_
    refine v_inx (L1 := [some (.ref 0)]) mt_154 rfl rfl mt_150 rfl rfl (m_callj (As := []) (rest := []) rfl rfl c_0 rfl (Nat.le_of_ble_eq_true rfl) (Nat.le_of_ble_eq_true rfl)) rfl (by clear h; omega) rfl rfl ?_
    refine v_s mt_150 rfl rfl rfl ?_
    refine v_s mt_150 rfl rfl rfl ?_
    refine j_gi (w := J 0 18) 18 mt_150 rfl rfl c_0 (by decide) rfl ?_
    refine v_ic (v := Int32.ofInt 1) mt_150 rfl rfl ?_
    refine j_add (e := (J 0 18) + 1) mt_150 rfl rfl ?_
    refine j_pi 18 mt_150 rfl rfl c_0 (by decide) ?_
    exact v_thr mt_150 rfl rfl (Nat.le_of_ble_eq_true rfl) h
  · replace h := h.2 (Int.not_lt.mp c)
    refine v_s mt_154 rfl rfl rfl ?_
    refine v_s mt_154 rfl rfl rfl ?_
    refine j_if2 mt_154 rfl rfl z1 ⟨by decide, by decide⟩ (fun c => ?_) (fun c => ?_)
    · replace h := h.1 c
      refine v_ret mt_154 rfl rfl rfl ?_
      refine v_s mt_137 rfl rfl rfl ?_
      refine v_gr (w := 41) 9 mt_137 rfl rfl c_0 (by decide) g_11_9 ?_
      refine v_s mt_137 rfl rfl rfl ?_
      refine v_gr (w := (vA sw)) 2 mt_137 rfl rfl c_0 (by decide) g_11_2 ?_
      refine v_ic (v := Int32.ofInt 1) mt_137 rfl rfl ?_
      refine v_s mt_137 rfl rfl rfl ?_
      refine v_gr (w := (vA sw)) 2 mt_137 rfl rfl c_0 (by decide) g_11_2 ?_
      refine j_gi (w := J (vA sw) 2) 2 mt_137 rfl rfl (cvA sw) (by decide) rfl ?_
      refine j_shl (e := bShl 1 (J (vA sw) 2)) mt_137 rfl rfl ?_
      refine v_ic (v := Int32.ofInt 1) mt_137 rfl rfl ?_
      refine j_sub (e := (bShl 1 (J (vA sw) 2)) - 1) mt_137 rfl rfl ?_
      obtain ⟨c2, J1, z2, h⟩ := h
      refine v_call (d1 := 0) mt_137 rfl rfl mt_59 rfl rfl (m_callj (As := [.ref (vA sw), iv ((bShl 1 (J (vA sw) 2)) - 1)]) (rest := []) rfl rfl c_41 rfl (Nat.le_of_ble_eq_true rfl) (Nat.le_of_ble_eq_true rfl)) z2 (by clear h; omega) ?_
      refine v_isn (L' := [some (.ref 0), some (iv x1), some (iv c2)]) mt_137 rfl (Nat.le_of_ble_eq_true rfl) rfl ?_
      refine v_s mt_137 rfl rfl rfl ?_
      refine v_ic (v := Int32.ofInt (-1)) mt_137 rfl rfl ?_
      obtain ⟨z3, h⟩ := h
      refine j_if2 mt_137 rfl rfl z3 ⟨by decide, by decide⟩ (fun c => ?_) (fun c => ?_)
      · replace h := h.1 c
        refine v_s mt_137 rfl rfl rfl ?_
        refine j_if1 mt_137 rfl rfl z1 (fun c => ?_) (fun c => ?_)
        · replace h := h.1 c
          refine v_s mt_137 rfl rfl rfl ?_
          refine v_gr (w := 41) 9 mt_137 rfl rfl c_0 (by decide) g_11_9 ?_
          refine v_gr (w := 46) 4 mt_137 rfl rfl c_41 (by decide) (g_6_4 c_41) ?_
          refine v_s mt_137 rfl rfl rfl ?_
          obtain ⟨z4, h⟩ := h
          refine j_al (w := J1 46 c2.toNat) mt_137 rfl c_46 z4 (by decide) rfl ?_
          exact v_ret mt_137 rfl rfl rfl h
        · replace h := h.2 (Decidable.not_not.mp c)
          refine v_s mt_137 rfl rfl rfl ?_
          refine v_go mt_137 rfl rfl ?_
          exact v_ret mt_137 rfl rfl rfl h
      · replace h := h.2 (Decidable.not_not.mp c)
        refine v_ic (v := Int32.ofInt (-1)) mt_137 rfl rfl ?_
        exact v_ret mt_137 rfl rfl rfl h
    · replace h := h.2 (Int.not_le.mp c)
      refine v_s mt_154 rfl rfl rfl ?_
      refine v_inx (L1 := [some (.ref 0)]) mt_154 rfl rfl mt_150 rfl rfl (m_callj (As := []) (rest := []) rfl rfl c_0 rfl (Nat.le_of_ble_eq_true rfl) (Nat.le_of_ble_eq_true rfl)) rfl (by clear h; omega) rfl rfl ?_
      refine v_s mt_150 rfl rfl rfl ?_
      refine v_s mt_150 rfl rfl rfl ?_
      refine j_gi (w := J 0 18) 18 mt_150 rfl rfl c_0 (by decide) rfl ?_
      refine v_ic (v := Int32.ofInt 1) mt_150 rfl rfl ?_
      refine j_add (e := (J 0 18) + 1) mt_150 rfl rfl ?_
      refine j_pi 18 mt_150 rfl rfl c_0 (by decide) ?_
      exact v_thr mt_150 rfl rfl (Nat.le_of_ble_eq_true rfl) h
set_option maxHeartbeats 600000 in
theorem b_138_0 {X : Nat × (Nat → Int32)} {d : Nat} {J : Nat → Nat → Int} {sw : Bool × Bool × Bool} {lg : Nat → Nat → Int64} {x : Nat} {K : (Option Value ⊕ Nat) → mM → Prop} {x1 : Int} (hd : 3 ≤ d)
    (h : InR x1 ∧ (x1 < 0 → K (.inr 1) (mj (m_up J 0 17 ((J 0 17) + 1)) sw lg (x + 1))) ∧ (0 ≤ x1 → (InR (J (vA sw) 0) ∧ (x1 < J (vA sw) 0 → (∃ (J1 : Nat → Nat → Int), EE X 0 44 [.ref 48, .ref 41] (mj J sw lg x) (.inl none) (mj J1 sw lg x) ∧ ∃ (J2 : Nat → Nat → Int), EE X 2 57 [.ref 48, .ref (vA sw)] (mj J1 sw lg x) (.inl none) (mj J2 sw lg x) ∧ (0 ≤ x1 ∧ x1 < 6) ∧ K (.inl (some (iv (J2 51 x1.toNat)))) (mj J2 sw lg x))) ∧ (J (vA sw) 0 ≤ x1 → K (.inr 1) (mj (m_up J 0 17 ((J 0 17) + 1)) sw lg (x + 1)))))) : VV X d 138 (0, [some (.ref 0), some (iv x1)], [], mj J sw lg x) K := by
  refine v_s mt_138 rfl rfl rfl ?_
  refine v_s mt_138 rfl rfl rfl ?_
  refine v_inx (L1 := [some (.ref 0), some (iv x1)]) mt_138 rfl rfl mt_151 rfl rfl (m_callj (As := [iv x1]) (rest := []) rfl rfl c_0 rfl (Nat.le_of_ble_eq_true rfl) (Nat.le_of_ble_eq_true rfl)) rfl (by clear h; omega) rfl rfl ?_
  refine v_s mt_151 rfl rfl rfl ?_
  obtain ⟨z1, h⟩ := h
  refine j_if1 mt_151 rfl rfl z1 (fun c => ?_) (fun c => ?_)
  · replace h := h.1 c
    refine v_s mt_151 rfl rfl rfl ?_
    refine v_inx (L1 := [some (.ref 0)]) mt_151 rfl rfl mt_149 rfl rfl (m_callj (As := []) (rest := []) rfl rfl c_0 rfl (Nat.le_of_ble_eq_true rfl) (Nat.le_of_ble_eq_true rfl)) rfl (by clear h; omega) rfl rfl ?_
    refine v_s mt_149 rfl rfl rfl ?_
    refine v_s mt_149 rfl rfl rfl ?_
    refine j_gi (w := J 0 17) 17 mt_149 rfl rfl c_0 (by decide) rfl ?_
    refine v_ic (v := Int32.ofInt 1) mt_149 rfl rfl ?_
    refine j_add (e := (J 0 17) + 1) mt_149 rfl rfl ?_
    refine j_pi 17 mt_149 rfl rfl c_0 (by decide) ?_
    exact v_thr mt_149 rfl rfl (Nat.le_of_ble_eq_true rfl) h
  · replace h := h.2 (Int.not_lt.mp c)
    refine v_s mt_151 rfl rfl rfl ?_
    refine v_s mt_151 rfl rfl rfl ?_
    refine v_gr (w := (vA sw)) 2 mt_151 rfl rfl c_0 (by decide) g_11_2 ?_
    refine j_gi (w := J (vA sw) 0) 0 mt_151 rfl rfl (cvA sw) (by decide) rfl ?_
    obtain ⟨z2, h⟩ := h
    refine j_if2 mt_151 rfl rfl z1 z2 (fun c => ?_) (fun c => ?_)
    · replace h := h.1 c
      refine v_ret mt_151 rfl rfl rfl ?_
      refine v_s mt_138 rfl rfl rfl ?_
      refine v_gr (w := 48) 10 mt_138 rfl rfl c_0 (by decide) g_11_10 ?_
      refine v_s mt_138 rfl rfl rfl ?_
      refine v_gr (w := 41) 9 mt_138 rfl rfl c_0 (by decide) g_11_9 ?_
      obtain ⟨J1, z3, h⟩ := h
      refine v_call (d1 := 0) mt_138 rfl rfl mt_44 rfl rfl (m_callj (As := [.ref 41]) (rest := []) rfl rfl c_48 rfl (Nat.le_of_ble_eq_true rfl) (Nat.le_of_ble_eq_true rfl)) z3 (by clear h; omega) ?_
      refine v_s mt_138 rfl rfl rfl ?_
      refine v_gr (w := 48) 10 mt_138 rfl rfl c_0 (by decide) g_11_10 ?_
      refine v_s mt_138 rfl rfl rfl ?_
      refine v_gr (w := (vA sw)) 2 mt_138 rfl rfl c_0 (by decide) g_11_2 ?_
      obtain ⟨J2, z4, h⟩ := h
      refine v_call (d1 := 2) mt_138 rfl rfl mt_57 rfl rfl (m_callj (As := [.ref (vA sw)]) (rest := []) rfl rfl c_48 rfl (Nat.le_of_ble_eq_true rfl) (Nat.le_of_ble_eq_true rfl)) z4 (by clear h; omega) ?_
      refine v_s mt_138 rfl rfl rfl ?_
      refine v_gr (w := 48) 10 mt_138 rfl rfl c_0 (by decide) g_11_10 ?_
      refine v_gr (w := 51) 2 mt_138 rfl rfl c_48 (by decide) (g_6_2 c_48) ?_
      refine v_s mt_138 rfl rfl rfl ?_
      obtain ⟨z5, h⟩ := h
      refine j_al (w := J2 51 x1.toNat) mt_138 rfl c_51 z5 (by decide) rfl ?_
      exact v_ret mt_138 rfl rfl rfl h
    · replace h := h.2 (Int.not_lt.mp c)
      refine v_s mt_151 rfl rfl rfl ?_
      refine v_inx (L1 := [some (.ref 0)]) mt_151 rfl rfl mt_149 rfl rfl (m_callj (As := []) (rest := []) rfl rfl c_0 rfl (Nat.le_of_ble_eq_true rfl) (Nat.le_of_ble_eq_true rfl)) rfl (by clear h; omega) rfl rfl ?_
      refine v_s mt_149 rfl rfl rfl ?_
      refine v_s mt_149 rfl rfl rfl ?_
      refine j_gi (w := J 0 17) 17 mt_149 rfl rfl c_0 (by decide) rfl ?_
      refine v_ic (v := Int32.ofInt 1) mt_149 rfl rfl ?_
      refine j_add (e := (J 0 17) + 1) mt_149 rfl rfl ?_
      refine j_pi 17 mt_149 rfl rfl c_0 (by decide) ?_
      exact v_thr mt_149 rfl rfl (Nat.le_of_ble_eq_true rfl) h
set_option maxHeartbeats 600000 in
theorem b_139_0 {X : Nat × (Nat → Int32)} {d : Nat} {J : Nat → Nat → Int} {sw : Bool × Bool × Bool} {lg : Nat → Nat → Int64} {x : Nat} {K : (Option Value ⊕ Nat) → mM → Prop} (hd : 3 ≤ d)
    (h : ∃ (c2 : Int) (J1 : Nat → Nat → Int), EE X 2 107 [.ref 539, .ref (vA sw)] (mj J sw lg x) (.inl (some (iv c2))) (mj J1 sw lg x) ∧ K (.inl (some (iv c2))) (mj J1 sw lg x)) : VV X d 139 (0, [some (.ref 0)], [], mj J sw lg x) K := by
  refine v_s mt_139 rfl rfl rfl ?_
  refine v_gr (w := 539) 15 mt_139 rfl rfl c_0 (by decide) g_11_15 ?_
  refine v_s mt_139 rfl rfl rfl ?_
  refine v_gr (w := (vA sw)) 2 mt_139 rfl rfl c_0 (by decide) g_11_2 ?_
  obtain ⟨c2, J1, z1, h⟩ := h
  refine v_call (d1 := 2) mt_139 rfl rfl mt_107 rfl rfl (m_callj (As := [.ref (vA sw)]) (rest := []) rfl rfl c_539 rfl (Nat.le_of_ble_eq_true rfl) (Nat.le_of_ble_eq_true rfl)) z1 (by clear h; omega) ?_
  exact v_ret mt_139 rfl rfl rfl h
set_option maxHeartbeats 600000 in
theorem b_140_0 {X : Nat × (Nat → Int32)} {d : Nat} {J : Nat → Nat → Int} {sw : Bool × Bool × Bool} {lg : Nat → Nat → Int64} {x : Nat} {K : (Option Value ⊕ Nat) → mM → Prop} {x1 : Int} (hd : 2 ≤ d)
    (h : InR x1 ∧ (x1 < 0 → K (.inr 2) (mj (m_up J 0 18 ((J 0 18) + 1)) sw lg (x + 1))) ∧ (0 ≤ x1 → ((x1 ≤ 1 → ((¬ x1 = 0 → (∃ (c2 : Int) (J1 : Nat → Nat → Int), EE X 0 60 [.ref 41, .ref (vA sw)] (mj J sw lg x) (.inl (some (iv c2))) (mj J1 sw lg x) ∧ K (.inl (some (iv c2))) (mj J1 sw lg x))) ∧ (x1 = 0 → (∃ (c4 : Int) (J3 : Nat → Nat → Int), EE X 0 62 [.ref 41, .ref (vA sw)] (mj J sw lg x) (.inl (some (iv c4))) (mj J3 sw lg x) ∧ K (.inl (some (iv c4))) (mj J3 sw lg x))))) ∧ (1 < x1 → K (.inr 2) (mj (m_up J 0 18 ((J 0 18) + 1)) sw lg (x + 1)))))) : VV X d 140 (0, [some (.ref 0), some (iv x1)], [], mj J sw lg x) K := by
  refine v_s mt_140 rfl rfl rfl ?_
  refine v_s mt_140 rfl rfl rfl ?_
  refine v_ic (v := Int32.ofInt 0) mt_140 rfl rfl ?_
  refine v_ic (v := Int32.ofInt 1) mt_140 rfl rfl ?_
  refine v_inx (L1 := [some (.ref 0), some (iv x1), some (iv 0), some (iv 1)]) mt_140 rfl rfl mt_154 rfl rfl (m_callj (As := [iv x1, iv 0, iv 1]) (rest := []) rfl rfl c_0 rfl (Nat.le_of_ble_eq_true rfl) (Nat.le_of_ble_eq_true rfl)) rfl (by clear h; omega) rfl rfl ?_
  refine v_s mt_154 rfl rfl rfl ?_
  refine v_s mt_154 rfl rfl rfl ?_
  obtain ⟨z1, h⟩ := h
  refine j_if2 mt_154 rfl rfl z1 ⟨by decide, by decide⟩ (fun c => ?_) (fun c => ?_)
  · replace h := h.1 c
    refine v_s mt_154 rfl rfl rfl ?_
    refine v_inx (L1 := [some (.ref 0)]) mt_154 rfl rfl mt_150 rfl rfl (m_callj (As := []) (rest := []) rfl rfl c_0 rfl (Nat.le_of_ble_eq_true rfl) (Nat.le_of_ble_eq_true rfl)) rfl (by clear h; omega) rfl rfl ?_
    refine v_s mt_150 rfl rfl rfl ?_
    refine v_s mt_150 rfl rfl rfl ?_
    refine j_gi (w := J 0 18) 18 mt_150 rfl rfl c_0 (by decide) rfl ?_
    refine v_ic (v := Int32.ofInt 1) mt_150 rfl rfl ?_
    refine j_add (e := (J 0 18) + 1) mt_150 rfl rfl ?_
    refine j_pi 18 mt_150 rfl rfl c_0 (by decide) ?_
    exact v_thr mt_150 rfl rfl (Nat.le_of_ble_eq_true rfl) h
  · replace h := h.2 (Int.not_lt.mp c)
    refine v_s mt_154 rfl rfl rfl ?_
    refine v_s mt_154 rfl rfl rfl ?_
    refine j_if2 mt_154 rfl rfl z1 ⟨by decide, by decide⟩ (fun c => ?_) (fun c => ?_)
    · replace h := h.1 c
      refine v_ret mt_154 rfl rfl rfl ?_
      refine v_s mt_140 rfl rfl rfl ?_
      refine j_if1 mt_140 rfl rfl z1 (fun c => ?_) (fun c => ?_)
      · replace h := h.1 c
        refine v_s mt_140 rfl rfl rfl ?_
        refine v_gr (w := 41) 9 mt_140 rfl rfl c_0 (by decide) g_11_9 ?_
        refine v_s mt_140 rfl rfl rfl ?_
        refine v_gr (w := (vA sw)) 2 mt_140 rfl rfl c_0 (by decide) g_11_2 ?_
        obtain ⟨c2, J1, z2, h⟩ := h
        refine v_call (d1 := 0) mt_140 rfl rfl mt_60 rfl rfl (m_callj (As := [.ref (vA sw)]) (rest := []) rfl rfl c_41 rfl (Nat.le_of_ble_eq_true rfl) (Nat.le_of_ble_eq_true rfl)) z2 (by clear h; omega) ?_
        exact v_ret mt_140 rfl rfl rfl h
      · replace h := h.2 (Decidable.not_not.mp c)
        refine v_s mt_140 rfl rfl rfl ?_
        refine v_gr (w := 41) 9 mt_140 rfl rfl c_0 (by decide) g_11_9 ?_
        refine v_s mt_140 rfl rfl rfl ?_
        refine v_gr (w := (vA sw)) 2 mt_140 rfl rfl c_0 (by decide) g_11_2 ?_
        obtain ⟨c4, J3, z3, h⟩ := h
        refine v_call (d1 := 0) mt_140 rfl rfl mt_62 rfl rfl (m_callj (As := [.ref (vA sw)]) (rest := []) rfl rfl c_41 rfl (Nat.le_of_ble_eq_true rfl) (Nat.le_of_ble_eq_true rfl)) z3 (by clear h; omega) ?_
        refine v_go mt_140 rfl rfl ?_
        exact v_ret mt_140 rfl rfl rfl h
    · replace h := h.2 (Int.not_le.mp c)
      refine v_s mt_154 rfl rfl rfl ?_
      refine v_inx (L1 := [some (.ref 0)]) mt_154 rfl rfl mt_150 rfl rfl (m_callj (As := []) (rest := []) rfl rfl c_0 rfl (Nat.le_of_ble_eq_true rfl) (Nat.le_of_ble_eq_true rfl)) rfl (by clear h; omega) rfl rfl ?_
      refine v_s mt_150 rfl rfl rfl ?_
      refine v_s mt_150 rfl rfl rfl ?_
      refine j_gi (w := J 0 18) 18 mt_150 rfl rfl c_0 (by decide) rfl ?_
      refine v_ic (v := Int32.ofInt 1) mt_150 rfl rfl ?_
      refine j_add (e := (J 0 18) + 1) mt_150 rfl rfl ?_
      refine j_pi 18 mt_150 rfl rfl c_0 (by decide) ?_
      exact v_thr mt_150 rfl rfl (Nat.le_of_ble_eq_true rfl) h
set_option maxHeartbeats 600000 in
theorem b_236_0 {X : Nat × (Nat → Int32)} {d : Nat} {J : Nat → Nat → Int} {sw : Bool × Bool × Bool} {lg : Nat → Nat → Int64} {x : Nat} {K : (Option Value ⊕ Nat) → mM → Prop} {x1 x2 : Int} {o3 : Option Value} (hd : 3 ≤ d)
    (h : InR x1 ∧ (x1 < 0 → K (.inl (some (iv 0))) (mj (m_up (m_up (m_up J 542 0 0) 542 0 1) 543 1 ((J 543 1) + 1)) sw lg x)) ∧ (0 ≤ x1 → ((99 < x1 → K (.inl (some (iv 0))) (mj (m_up (m_up (m_up J 542 0 0) 542 0 1) 543 1 ((J 543 1) + 1)) sw lg x)) ∧ (x1 ≤ 99 → (InR x2 ∧ (x2 < 0 → K (.inl (some (iv 0))) (mj (m_up (m_up (m_up J 542 0 0) 542 0 1) 543 1 ((J 543 1) + 1)) sw lg x)) ∧ (0 ≤ x2 → ((2 < x2 → K (.inl (some (iv 0))) (mj (m_up (m_up (m_up J 542 0 0) 542 0 1) 543 1 ((J 543 1) + 1)) sw lg x)) ∧ (x2 ≤ 2 → (∃ (J1 : Nat → Nat → Int), EE X 1 204 [.ref 542] (mj (m_up J 542 0 0) sw lg x) (.inl none) (mj J1 sw lg x) ∧ VV X d 236 (46, [some (.ref 542), some (iv x1), some (iv x2), some (iv 0)], [], mj J1 sw lg x) K))))))))) : VV X d 236 (0, [some (.ref 542), some (iv x1), some (iv x2), o3], [], mj J sw lg x) K := by
  refine v_s mt_236 rfl rfl rfl ?_
  refine v_ic (v := Int32.ofInt 0) mt_236 rfl rfl ?_
  refine j_pi 0 mt_236 rfl rfl c_542 (by decide) ?_
  refine v_s mt_236 rfl rfl rfl ?_
  refine v_s mt_236 rfl rfl rfl ?_
  refine v_ic (v := Int32.ofInt 0) mt_236 rfl rfl ?_
  refine v_bp (v := Int32.ofInt 99) mt_236 rfl rfl ?_
  refine v_inl (L1 := [some (iv x1), some (iv 0), some (iv 99)]) mt_236 rfl rfl mt_162 rfl rfl rfl rfl (by clear h; omega) ?_
  refine v_s mt_162 rfl rfl rfl ?_
  refine v_s mt_162 rfl rfl rfl ?_
  obtain ⟨z1, h⟩ := h
  refine j_if2 mt_162 rfl rfl z1 ⟨by decide, by decide⟩ (fun c => ?_) (fun c => ?_)
  · replace h := h.1 c
    refine v_ic (v := Int32.ofInt 0) mt_162 rfl rfl ?_
    refine j_retb mt_162 rfl rfl (by decide) ?_
    refine j_if1 mt_236 rfl rfl ⟨by decide, by decide⟩ (fun _ => ?_) (fun c => (c (show (0 : Int) = 0 by decide)).elim)
    refine v_ic (v := Int32.ofInt 0) mt_236 rfl rfl ?_
    refine v_ic (v := Int32.ofInt 1) mt_236 rfl rfl ?_
    refine v_ic (v := Int32.ofInt 1) mt_236 rfl rfl ?_
    refine v_inl (L1 := [some (.ref 542), some (iv 0), some (iv 1), some (iv 1)]) mt_236 rfl rfl mt_161 rfl rfl (m_callj (As := [iv 0, iv 1, iv 1]) (rest := []) rfl rfl c_542 rfl (Nat.le_of_ble_eq_true rfl) (Nat.le_of_ble_eq_true rfl)) rfl (by clear h; omega) ?_
    refine v_s mt_161 rfl rfl rfl ?_
    refine j_if1 mt_161 rfl rfl ⟨by decide, by decide⟩ (fun c => absurd (show ¬ (0 : Int) = 0 from c) (by decide)) (fun _ => ?_)
    refine v_s mt_161 rfl rfl rfl ?_
    refine j_gi (w := 0) 0 mt_161 rfl rfl c_542 (by decide) (up_eq _ _ _ _) ?_
    refine j_if1 mt_161 rfl rfl ⟨by decide, by decide⟩ (fun c => absurd (show ¬ (0 : Int) = 0 from c) (by decide)) (fun _ => ?_)
    refine v_s mt_161 rfl rfl rfl ?_
    refine v_s mt_161 rfl rfl rfl ?_
    refine j_pi 0 mt_161 rfl rfl c_542 (by decide) ?_
    refine v_s mt_161 rfl rfl rfl ?_
    refine v_gr (w := 543) 1 mt_161 rfl rfl c_542 (by decide) (g_12_1 c_542) ?_
    refine v_s mt_161 rfl rfl rfl ?_
    refine v_s mt_161 rfl rfl rfl ?_
    refine j_al (w := J 543 1) mt_161 rfl c_543 ⟨by decide, by decide⟩ (by decide) ((up_na (by decide)).trans ((up_na (by decide)).trans rfl)) ?_
    refine v_ic (v := Int32.ofInt 1) mt_161 rfl rfl ?_
    refine j_add (e := (J 543 1) + 1) mt_161 rfl rfl ?_
    refine j_as mt_161 rfl c_543 ⟨by decide, by decide⟩ (by decide) ?_
    refine v_s mt_161 rfl rfl rfl ?_
    refine j_gi (w := 1) 0 mt_161 rfl rfl c_542 (by decide) ((up_na (by decide)).trans (up_eq _ _ _ _)) ?_
    refine j_if1 mt_161 rfl rfl ⟨by decide, by decide⟩ (fun _ => ?_) (fun c => (c (show ¬ (1 : Int) = 0 by decide)).elim)
    refine v_ic (v := Int32.ofInt 0) mt_161 rfl rfl ?_
    refine j_retb mt_161 rfl rfl (by decide) ?_
    refine j_if1 mt_236 rfl rfl ⟨by decide, by decide⟩ (fun c => absurd (show ¬ (0 : Int) = 0 from c) (by decide)) (fun _ => ?_)
    refine v_ic (v := Int32.ofInt 0) mt_236 rfl rfl ?_
    exact v_ret mt_236 rfl rfl rfl h
  · replace h := h.2 (Int.not_lt.mp c)
    refine v_s mt_162 rfl rfl rfl ?_
    refine v_s mt_162 rfl rfl rfl ?_
    refine j_if2 mt_162 rfl rfl z1 ⟨by decide, by decide⟩ (fun c => ?_) (fun c => ?_)
    · replace h := h.1 c
      refine v_ic (v := Int32.ofInt 0) mt_162 rfl rfl ?_
      refine j_retb mt_162 rfl rfl (by decide) ?_
      refine j_if1 mt_236 rfl rfl ⟨by decide, by decide⟩ (fun _ => ?_) (fun c => (c (show (0 : Int) = 0 by decide)).elim)
      refine v_ic (v := Int32.ofInt 0) mt_236 rfl rfl ?_
      refine v_ic (v := Int32.ofInt 1) mt_236 rfl rfl ?_
      refine v_ic (v := Int32.ofInt 1) mt_236 rfl rfl ?_
      refine v_inl (L1 := [some (.ref 542), some (iv 0), some (iv 1), some (iv 1)]) mt_236 rfl rfl mt_161 rfl rfl (m_callj (As := [iv 0, iv 1, iv 1]) (rest := []) rfl rfl c_542 rfl (Nat.le_of_ble_eq_true rfl) (Nat.le_of_ble_eq_true rfl)) rfl (by clear h; omega) ?_
      refine v_s mt_161 rfl rfl rfl ?_
      refine j_if1 mt_161 rfl rfl ⟨by decide, by decide⟩ (fun c => absurd (show ¬ (0 : Int) = 0 from c) (by decide)) (fun _ => ?_)
      refine v_s mt_161 rfl rfl rfl ?_
      refine j_gi (w := 0) 0 mt_161 rfl rfl c_542 (by decide) (up_eq _ _ _ _) ?_
      refine j_if1 mt_161 rfl rfl ⟨by decide, by decide⟩ (fun c => absurd (show ¬ (0 : Int) = 0 from c) (by decide)) (fun _ => ?_)
      refine v_s mt_161 rfl rfl rfl ?_
      refine v_s mt_161 rfl rfl rfl ?_
      refine j_pi 0 mt_161 rfl rfl c_542 (by decide) ?_
      refine v_s mt_161 rfl rfl rfl ?_
      refine v_gr (w := 543) 1 mt_161 rfl rfl c_542 (by decide) (g_12_1 c_542) ?_
      refine v_s mt_161 rfl rfl rfl ?_
      refine v_s mt_161 rfl rfl rfl ?_
      refine j_al (w := J 543 1) mt_161 rfl c_543 ⟨by decide, by decide⟩ (by decide) ((up_na (by decide)).trans ((up_na (by decide)).trans rfl)) ?_
      refine v_ic (v := Int32.ofInt 1) mt_161 rfl rfl ?_
      refine j_add (e := (J 543 1) + 1) mt_161 rfl rfl ?_
      refine j_as mt_161 rfl c_543 ⟨by decide, by decide⟩ (by decide) ?_
      refine v_s mt_161 rfl rfl rfl ?_
      refine j_gi (w := 1) 0 mt_161 rfl rfl c_542 (by decide) ((up_na (by decide)).trans (up_eq _ _ _ _)) ?_
      refine j_if1 mt_161 rfl rfl ⟨by decide, by decide⟩ (fun _ => ?_) (fun c => (c (show ¬ (1 : Int) = 0 by decide)).elim)
      refine v_ic (v := Int32.ofInt 0) mt_161 rfl rfl ?_
      refine j_retb mt_161 rfl rfl (by decide) ?_
      refine j_if1 mt_236 rfl rfl ⟨by decide, by decide⟩ (fun c => absurd (show ¬ (0 : Int) = 0 from c) (by decide)) (fun _ => ?_)
      refine v_ic (v := Int32.ofInt 0) mt_236 rfl rfl ?_
      exact v_ret mt_236 rfl rfl rfl h
    · replace h := h.2 (Int.not_lt.mp c)
      refine v_ic (v := Int32.ofInt 1) mt_162 rfl rfl ?_
      refine v_go mt_162 rfl rfl ?_
      refine j_retb mt_162 rfl rfl (by decide) ?_
      refine j_if1 mt_236 rfl rfl ⟨by decide, by decide⟩ (fun c => absurd (show (1 : Int) = 0 from c) (by decide)) (fun _ => ?_)
      refine v_s mt_236 rfl rfl rfl ?_
      refine v_ic (v := Int32.ofInt 0) mt_236 rfl rfl ?_
      refine v_ic (v := Int32.ofInt 2) mt_236 rfl rfl ?_
      refine v_inl (L1 := [some (iv x2), some (iv 0), some (iv 2)]) mt_236 rfl rfl mt_162 rfl rfl rfl rfl (by clear h; omega) ?_
      refine v_s mt_162 rfl rfl rfl ?_
      refine v_s mt_162 rfl rfl rfl ?_
      obtain ⟨z2, h⟩ := h
      refine j_if2 mt_162 rfl rfl z2 ⟨by decide, by decide⟩ (fun c => ?_) (fun c => ?_)
      · replace h := h.1 c
        refine v_ic (v := Int32.ofInt 0) mt_162 rfl rfl ?_
        refine j_retb mt_162 rfl rfl (by decide) ?_
        refine j_if1 mt_236 rfl rfl ⟨by decide, by decide⟩ (fun _ => ?_) (fun c => (c (show (0 : Int) = 0 by decide)).elim)
        refine v_ic (v := Int32.ofInt 0) mt_236 rfl rfl ?_
        refine v_ic (v := Int32.ofInt 1) mt_236 rfl rfl ?_
        refine v_ic (v := Int32.ofInt 1) mt_236 rfl rfl ?_
        refine v_inl (L1 := [some (.ref 542), some (iv 0), some (iv 1), some (iv 1)]) mt_236 rfl rfl mt_161 rfl rfl (m_callj (As := [iv 0, iv 1, iv 1]) (rest := []) rfl rfl c_542 rfl (Nat.le_of_ble_eq_true rfl) (Nat.le_of_ble_eq_true rfl)) rfl (by clear h; omega) ?_
        refine v_s mt_161 rfl rfl rfl ?_
        refine j_if1 mt_161 rfl rfl ⟨by decide, by decide⟩ (fun c => absurd (show ¬ (0 : Int) = 0 from c) (by decide)) (fun _ => ?_)
        refine v_s mt_161 rfl rfl rfl ?_
        refine j_gi (w := 0) 0 mt_161 rfl rfl c_542 (by decide) (up_eq _ _ _ _) ?_
        refine j_if1 mt_161 rfl rfl ⟨by decide, by decide⟩ (fun c => absurd (show ¬ (0 : Int) = 0 from c) (by decide)) (fun _ => ?_)
        refine v_s mt_161 rfl rfl rfl ?_
        refine v_s mt_161 rfl rfl rfl ?_
        refine j_pi 0 mt_161 rfl rfl c_542 (by decide) ?_
        refine v_s mt_161 rfl rfl rfl ?_
        refine v_gr (w := 543) 1 mt_161 rfl rfl c_542 (by decide) (g_12_1 c_542) ?_
        refine v_s mt_161 rfl rfl rfl ?_
        refine v_s mt_161 rfl rfl rfl ?_
        refine j_al (w := J 543 1) mt_161 rfl c_543 ⟨by decide, by decide⟩ (by decide) ((up_na (by decide)).trans ((up_na (by decide)).trans rfl)) ?_
        refine v_ic (v := Int32.ofInt 1) mt_161 rfl rfl ?_
        refine j_add (e := (J 543 1) + 1) mt_161 rfl rfl ?_
        refine j_as mt_161 rfl c_543 ⟨by decide, by decide⟩ (by decide) ?_
        refine v_s mt_161 rfl rfl rfl ?_
        refine j_gi (w := 1) 0 mt_161 rfl rfl c_542 (by decide) ((up_na (by decide)).trans (up_eq _ _ _ _)) ?_
        refine j_if1 mt_161 rfl rfl ⟨by decide, by decide⟩ (fun _ => ?_) (fun c => (c (show ¬ (1 : Int) = 0 by decide)).elim)
        refine v_ic (v := Int32.ofInt 0) mt_161 rfl rfl ?_
        refine j_retb mt_161 rfl rfl (by decide) ?_
        refine j_if1 mt_236 rfl rfl ⟨by decide, by decide⟩ (fun c => absurd (show ¬ (0 : Int) = 0 from c) (by decide)) (fun _ => ?_)
        refine v_ic (v := Int32.ofInt 0) mt_236 rfl rfl ?_
        exact v_ret mt_236 rfl rfl rfl h
      · replace h := h.2 (Int.not_lt.mp c)
        refine v_s mt_162 rfl rfl rfl ?_
        refine v_s mt_162 rfl rfl rfl ?_
        refine j_if2 mt_162 rfl rfl z2 ⟨by decide, by decide⟩ (fun c => ?_) (fun c => ?_)
        · replace h := h.1 c
          refine v_ic (v := Int32.ofInt 0) mt_162 rfl rfl ?_
          refine j_retb mt_162 rfl rfl (by decide) ?_
          refine j_if1 mt_236 rfl rfl ⟨by decide, by decide⟩ (fun _ => ?_) (fun c => (c (show (0 : Int) = 0 by decide)).elim)
          refine v_ic (v := Int32.ofInt 0) mt_236 rfl rfl ?_
          refine v_ic (v := Int32.ofInt 1) mt_236 rfl rfl ?_
          refine v_ic (v := Int32.ofInt 1) mt_236 rfl rfl ?_
          refine v_inl (L1 := [some (.ref 542), some (iv 0), some (iv 1), some (iv 1)]) mt_236 rfl rfl mt_161 rfl rfl (m_callj (As := [iv 0, iv 1, iv 1]) (rest := []) rfl rfl c_542 rfl (Nat.le_of_ble_eq_true rfl) (Nat.le_of_ble_eq_true rfl)) rfl (by clear h; omega) ?_
          refine v_s mt_161 rfl rfl rfl ?_
          refine j_if1 mt_161 rfl rfl ⟨by decide, by decide⟩ (fun c => absurd (show ¬ (0 : Int) = 0 from c) (by decide)) (fun _ => ?_)
          refine v_s mt_161 rfl rfl rfl ?_
          refine j_gi (w := 0) 0 mt_161 rfl rfl c_542 (by decide) (up_eq _ _ _ _) ?_
          refine j_if1 mt_161 rfl rfl ⟨by decide, by decide⟩ (fun c => absurd (show ¬ (0 : Int) = 0 from c) (by decide)) (fun _ => ?_)
          refine v_s mt_161 rfl rfl rfl ?_
          refine v_s mt_161 rfl rfl rfl ?_
          refine j_pi 0 mt_161 rfl rfl c_542 (by decide) ?_
          refine v_s mt_161 rfl rfl rfl ?_
          refine v_gr (w := 543) 1 mt_161 rfl rfl c_542 (by decide) (g_12_1 c_542) ?_
          refine v_s mt_161 rfl rfl rfl ?_
          refine v_s mt_161 rfl rfl rfl ?_
          refine j_al (w := J 543 1) mt_161 rfl c_543 ⟨by decide, by decide⟩ (by decide) ((up_na (by decide)).trans ((up_na (by decide)).trans rfl)) ?_
          refine v_ic (v := Int32.ofInt 1) mt_161 rfl rfl ?_
          refine j_add (e := (J 543 1) + 1) mt_161 rfl rfl ?_
          refine j_as mt_161 rfl c_543 ⟨by decide, by decide⟩ (by decide) ?_
          refine v_s mt_161 rfl rfl rfl ?_
          refine j_gi (w := 1) 0 mt_161 rfl rfl c_542 (by decide) ((up_na (by decide)).trans (up_eq _ _ _ _)) ?_
          refine j_if1 mt_161 rfl rfl ⟨by decide, by decide⟩ (fun _ => ?_) (fun c => (c (show ¬ (1 : Int) = 0 by decide)).elim)
          refine v_ic (v := Int32.ofInt 0) mt_161 rfl rfl ?_
          refine j_retb mt_161 rfl rfl (by decide) ?_
          refine j_if1 mt_236 rfl rfl ⟨by decide, by decide⟩ (fun c => absurd (show ¬ (0 : Int) = 0 from c) (by decide)) (fun _ => ?_)
          refine v_ic (v := Int32.ofInt 0) mt_236 rfl rfl ?_
          exact v_ret mt_236 rfl rfl rfl h
        · replace h := h.2 (Int.not_lt.mp c)
          refine v_ic (v := Int32.ofInt 1) mt_162 rfl rfl ?_
          refine v_go mt_162 rfl rfl ?_
          refine j_retb mt_162 rfl rfl (by decide) ?_
          refine j_if1 mt_236 rfl rfl ⟨by decide, by decide⟩ (fun c => absurd (show (1 : Int) = 0 from c) (by decide)) (fun _ => ?_)
          refine v_ic (v := Int32.ofInt 1) mt_236 rfl rfl ?_
          refine v_go mt_236 rfl rfl ?_
          refine v_ic (v := Int32.ofInt 1) mt_236 rfl rfl ?_
          refine v_ic (v := Int32.ofInt 1) mt_236 rfl rfl ?_
          refine v_inl (L1 := [some (.ref 542), some (iv 1), some (iv 1), some (iv 1)]) mt_236 rfl rfl mt_161 rfl rfl (m_callj (As := [iv 1, iv 1, iv 1]) (rest := []) rfl rfl c_542 rfl (Nat.le_of_ble_eq_true rfl) (Nat.le_of_ble_eq_true rfl)) rfl (by clear h; omega) ?_
          refine v_s mt_161 rfl rfl rfl ?_
          refine j_if1 mt_161 rfl rfl ⟨by decide, by decide⟩ (fun _ => ?_) (fun c => (c (show ¬ (1 : Int) = 0 by decide)).elim)
          refine v_s mt_161 rfl rfl rfl ?_
          refine j_gi (w := 0) 0 mt_161 rfl rfl c_542 (by decide) (up_eq _ _ _ _) ?_
          refine j_if1 mt_161 rfl rfl ⟨by decide, by decide⟩ (fun c => absurd (show ¬ (0 : Int) = 0 from c) (by decide)) (fun _ => ?_)
          refine v_ic (v := Int32.ofInt 1) mt_161 rfl rfl ?_
          refine v_go mt_161 rfl rfl ?_
          refine j_retb mt_161 rfl rfl (by decide) ?_
          refine j_if1 mt_236 rfl rfl ⟨by decide, by decide⟩ (fun _ => ?_) (fun c => (c (show ¬ (1 : Int) = 0 by decide)).elim)
          refine v_s mt_236 rfl rfl rfl ?_
          obtain ⟨J1, z3, h⟩ := h
          refine v_call (d1 := 1) mt_236 rfl rfl mt_204 rfl rfl (m_callj (As := []) (rest := []) rfl rfl c_542 rfl (Nat.le_of_ble_eq_true rfl) (Nat.le_of_ble_eq_true rfl)) z3 (by clear h; omega) ?_
          refine v_ic (v := Int32.ofInt 0) mt_236 rfl rfl ?_
          refine v_isn (L' := [some (.ref 542), some (iv x1), some (iv x2), some (iv 0)]) mt_236 rfl (Nat.le_of_ble_eq_true rfl) rfl ?_
          exact h
set_option maxHeartbeats 600000 in
theorem b_236_46 {X : Nat × (Nat → Int32)} {d : Nat} {J : Nat → Nat → Int} {sw : Bool × Bool × Bool} {lg : Nat → Nat → Int64} {x : Nat} {K : (Option Value ⊕ Nat) → mM → Prop} {x1 x2 x3 : Int} (hd : 3 ≤ d)
    (h : InR x3 ∧ InR x1 ∧ (x1 ≤ x3 → (InR x2 ∧ (¬ x2 = 2 → ((¬ x2 = 0 → (∃ (c2 : Int) (J1 : Nat → Nat → Int), EE X 0 220 [.ref 542, iv 39] (mj J sw lg x) (.inl (some (iv c2))) (mj J1 sw lg x) ∧ K (.inl (some (iv c2))) (mj J1 sw lg x))) ∧ (x2 = 0 → (∃ (c4 : Int) (J3 : Nat → Nat → Int), EE X 0 220 [.ref 542, iv 30] (mj J sw lg x) (.inl (some (iv c4))) (mj J3 sw lg x) ∧ K (.inl (some (iv c4))) (mj J3 sw lg x))))) ∧ (x2 = 2 → (∃ (c6 : Int) (J5 : Nat → Nat → Int), EE X 0 235 [.ref 542] (mj J sw lg x) (.inl (some (iv c6))) (mj J5 sw lg x) ∧ K (.inl (some (iv c6))) (mj J5 sw lg x))))) ∧ (x3 < x1 → (∃ (J7 : Nat → Nat → Int), EE X 2 216 [.ref 542] (mj J sw lg x) (.inl none) (mj J7 sw lg x) ∧ VV X d 236 (46, [some (.ref 542), some (iv x1), some (iv x2), some (iv (x3 + 1))], [], mj J7 sw lg x) K))) : VV X d 236 (46, [some (.ref 542), some (iv x1), some (iv x2), some (iv x3)], [], mj J sw lg x) K := by
  refine v_s mt_236 rfl rfl rfl ?_
  refine v_s mt_236 rfl rfl rfl ?_
  obtain ⟨z1, h⟩ := h
  obtain ⟨z2, h⟩ := h
  refine j_if2 mt_236 rfl rfl z1 z2 (fun c => ?_) (fun c => ?_)
  · replace h := h.1 c
    refine v_s mt_236 rfl rfl rfl ?_
    refine v_ic (v := Int32.ofInt 2) mt_236 rfl rfl ?_
    obtain ⟨z3, h⟩ := h
    refine j_if2 mt_236 rfl rfl z3 ⟨by decide, by decide⟩ (fun c => ?_) (fun c => ?_)
    · replace h := h.1 c
      refine v_s mt_236 rfl rfl rfl ?_
      refine v_s mt_236 rfl rfl rfl ?_
      refine j_if1 mt_236 rfl rfl z3 (fun c => ?_) (fun c => ?_)
      · replace h := h.1 c
        refine v_bp (v := Int32.ofInt 39) mt_236 rfl rfl ?_
        obtain ⟨c2, J1, z4, h⟩ := h
        refine v_call (d1 := 0) mt_236 rfl rfl mt_220 rfl rfl (m_callj (As := [iv 39]) (rest := []) rfl rfl c_542 rfl (Nat.le_of_ble_eq_true rfl) (Nat.le_of_ble_eq_true rfl)) z4 (by clear h; omega) ?_
        exact v_ret mt_236 rfl rfl rfl h
      · replace h := h.2 (Decidable.not_not.mp c)
        refine v_bp (v := Int32.ofInt 30) mt_236 rfl rfl ?_
        refine v_go mt_236 rfl rfl ?_
        obtain ⟨c4, J3, z5, h⟩ := h
        refine v_call (d1 := 0) mt_236 rfl rfl mt_220 rfl rfl (m_callj (As := [iv 30]) (rest := []) rfl rfl c_542 rfl (Nat.le_of_ble_eq_true rfl) (Nat.le_of_ble_eq_true rfl)) z5 (by clear h; omega) ?_
        exact v_ret mt_236 rfl rfl rfl h
    · replace h := h.2 (Decidable.not_not.mp c)
      refine v_s mt_236 rfl rfl rfl ?_
      obtain ⟨c6, J5, z6, h⟩ := h
      refine v_call (d1 := 0) mt_236 rfl rfl mt_235 rfl rfl (m_callj (As := []) (rest := []) rfl rfl c_542 rfl (Nat.le_of_ble_eq_true rfl) (Nat.le_of_ble_eq_true rfl)) z6 (by clear h; omega) ?_
      refine v_go mt_236 rfl rfl ?_
      exact v_ret mt_236 rfl rfl rfl h
  · replace h := h.2 (Int.not_le.mp c)
    refine v_s mt_236 rfl rfl rfl ?_
    obtain ⟨J7, z7, h⟩ := h
    refine v_call (d1 := 2) mt_236 rfl rfl mt_216 rfl rfl (m_callj (As := []) (rest := []) rfl rfl c_542 rfl (Nat.le_of_ble_eq_true rfl) (Nat.le_of_ble_eq_true rfl)) z7 (by clear h; omega) ?_
    refine j_inc (e := x3 + 1) (L' := [some (.ref 542), some (iv x1), some (iv x2), some (iv (x3 + 1))]) mt_236 rfl rfl (Nat.le_of_ble_eq_true rfl) rfl rfl ?_
    refine v_go mt_236 rfl rfl ?_
    exact h
set_option maxHeartbeats 600000 in
theorem b_237_0 {X : Nat × (Nat → Int32)} {d : Nat} {J : Nat → Nat → Int} {sw : Bool × Bool × Bool} {lg : Nat → Nat → Int64} {x : Nat} {K : (Option Value ⊕ Nat) → mM → Prop} {x1 : Int} {o2 : Option Value} (hd : 3 ≤ d)
    (h : InR x1 ∧ (x1 < 0 → K (.inl (some (iv 0))) (mj (m_up (m_up (m_up J 542 0 0) 542 0 1) 543 0 ((J 543 0) + 1)) sw lg x)) ∧ (0 ≤ x1 → (InR ((J 542 26) - 1) ∧ ((J 542 26) - 1 < x1 → K (.inl (some (iv 0))) (mj (m_up (m_up (m_up J 542 0 0) 542 0 1) 543 0 ((J 543 0) + 1)) sw lg x)) ∧ (x1 ≤ (J 542 26) - 1 → (∃ (J1 : Nat → Nat → Int), EE X 1 204 [.ref 542] (mj (m_up J 542 0 0) sw lg x) (.inl none) (mj J1 sw lg x) ∧ VV X d 237 (22, [some (.ref 542), some (iv x1), some (iv 0)], [], mj J1 sw lg x) K))))) : VV X d 237 (0, [some (.ref 542), some (iv x1), o2], [], mj J sw lg x) K := by
  refine v_s mt_237 rfl rfl rfl ?_
  refine v_ic (v := Int32.ofInt 0) mt_237 rfl rfl ?_
  refine j_pi 0 mt_237 rfl rfl c_542 (by decide) ?_
  refine v_s mt_237 rfl rfl rfl ?_
  refine v_s mt_237 rfl rfl rfl ?_
  refine v_ic (v := Int32.ofInt 1) mt_237 rfl rfl ?_
  refine v_inl (L1 := [some (.ref 542), some (iv x1), some (iv 1)]) mt_237 rfl rfl mt_227 rfl rfl (m_callj (As := [iv x1, iv 1]) (rest := []) rfl rfl c_542 rfl (Nat.le_of_ble_eq_true rfl) (Nat.le_of_ble_eq_true rfl)) rfl (by clear h; omega) ?_
  refine v_s mt_227 rfl rfl rfl ?_
  refine v_s mt_227 rfl rfl rfl ?_
  refine v_ic (v := Int32.ofInt 0) mt_227 rfl rfl ?_
  refine v_s mt_227 rfl rfl rfl ?_
  refine j_gi (w := J 542 26) 26 mt_227 rfl rfl c_542 (by decide) ((up_nk (by decide)).trans rfl) ?_
  refine v_ic (v := Int32.ofInt 1) mt_227 rfl rfl ?_
  refine j_sub (e := (J 542 26) - 1) mt_227 rfl rfl ?_
  refine v_inl (L1 := [some (iv x1), some (iv 0), some (iv ((J 542 26) - 1))]) mt_227 rfl rfl mt_162 rfl rfl rfl rfl (by clear h; omega) ?_
  refine v_s mt_162 rfl rfl rfl ?_
  refine v_s mt_162 rfl rfl rfl ?_
  obtain ⟨z1, h⟩ := h
  refine j_if2 mt_162 rfl rfl z1 ⟨by decide, by decide⟩ (fun c => ?_) (fun c => ?_)
  · replace h := h.1 c
    refine v_ic (v := Int32.ofInt 0) mt_162 rfl rfl ?_
    refine j_retb mt_162 rfl rfl (by decide) ?_
    refine v_s mt_227 rfl rfl rfl ?_
    refine v_ic (v := Int32.ofInt 0) mt_227 rfl rfl ?_
    refine v_inl (L1 := [some (.ref 542), some (iv 0), some (iv 1), some (iv 0)]) mt_227 rfl rfl mt_161 rfl rfl (m_callj (As := [iv 0, iv 1, iv 0]) (rest := []) rfl rfl c_542 rfl (Nat.le_of_ble_eq_true rfl) (Nat.le_of_ble_eq_true rfl)) rfl (by clear h; omega) ?_
    refine v_s mt_161 rfl rfl rfl ?_
    refine j_if1 mt_161 rfl rfl ⟨by decide, by decide⟩ (fun c => absurd (show ¬ (0 : Int) = 0 from c) (by decide)) (fun _ => ?_)
    refine v_s mt_161 rfl rfl rfl ?_
    refine j_gi (w := 0) 0 mt_161 rfl rfl c_542 (by decide) (up_eq _ _ _ _) ?_
    refine j_if1 mt_161 rfl rfl ⟨by decide, by decide⟩ (fun c => absurd (show ¬ (0 : Int) = 0 from c) (by decide)) (fun _ => ?_)
    refine v_s mt_161 rfl rfl rfl ?_
    refine v_s mt_161 rfl rfl rfl ?_
    refine j_pi 0 mt_161 rfl rfl c_542 (by decide) ?_
    refine v_s mt_161 rfl rfl rfl ?_
    refine v_gr (w := 543) 1 mt_161 rfl rfl c_542 (by decide) (g_12_1 c_542) ?_
    refine v_s mt_161 rfl rfl rfl ?_
    refine v_s mt_161 rfl rfl rfl ?_
    refine j_al (w := J 543 0) mt_161 rfl c_543 ⟨by decide, by decide⟩ (by decide) ((up_na (by decide)).trans ((up_na (by decide)).trans rfl)) ?_
    refine v_ic (v := Int32.ofInt 1) mt_161 rfl rfl ?_
    refine j_add (e := (J 543 0) + 1) mt_161 rfl rfl ?_
    refine j_as mt_161 rfl c_543 ⟨by decide, by decide⟩ (by decide) ?_
    refine v_s mt_161 rfl rfl rfl ?_
    refine j_gi (w := 1) 0 mt_161 rfl rfl c_542 (by decide) ((up_na (by decide)).trans (up_eq _ _ _ _)) ?_
    refine j_if1 mt_161 rfl rfl ⟨by decide, by decide⟩ (fun _ => ?_) (fun c => (c (show ¬ (1 : Int) = 0 by decide)).elim)
    refine v_ic (v := Int32.ofInt 0) mt_161 rfl rfl ?_
    refine j_retb mt_161 rfl rfl (by decide) ?_
    refine j_retb mt_227 rfl rfl (by decide) ?_
    refine j_if1 mt_237 rfl rfl ⟨by decide, by decide⟩ (fun c => absurd (show ¬ (0 : Int) = 0 from c) (by decide)) (fun _ => ?_)
    refine v_ic (v := Int32.ofInt 0) mt_237 rfl rfl ?_
    exact v_ret mt_237 rfl rfl rfl h
  · replace h := h.2 (Int.not_lt.mp c)
    refine v_s mt_162 rfl rfl rfl ?_
    refine v_s mt_162 rfl rfl rfl ?_
    obtain ⟨z2, h⟩ := h
    refine j_if2 mt_162 rfl rfl z1 z2 (fun c => ?_) (fun c => ?_)
    · replace h := h.1 c
      refine v_ic (v := Int32.ofInt 0) mt_162 rfl rfl ?_
      refine j_retb mt_162 rfl rfl (by decide) ?_
      refine v_s mt_227 rfl rfl rfl ?_
      refine v_ic (v := Int32.ofInt 0) mt_227 rfl rfl ?_
      refine v_inl (L1 := [some (.ref 542), some (iv 0), some (iv 1), some (iv 0)]) mt_227 rfl rfl mt_161 rfl rfl (m_callj (As := [iv 0, iv 1, iv 0]) (rest := []) rfl rfl c_542 rfl (Nat.le_of_ble_eq_true rfl) (Nat.le_of_ble_eq_true rfl)) rfl (by clear h; omega) ?_
      refine v_s mt_161 rfl rfl rfl ?_
      refine j_if1 mt_161 rfl rfl ⟨by decide, by decide⟩ (fun c => absurd (show ¬ (0 : Int) = 0 from c) (by decide)) (fun _ => ?_)
      refine v_s mt_161 rfl rfl rfl ?_
      refine j_gi (w := 0) 0 mt_161 rfl rfl c_542 (by decide) (up_eq _ _ _ _) ?_
      refine j_if1 mt_161 rfl rfl ⟨by decide, by decide⟩ (fun c => absurd (show ¬ (0 : Int) = 0 from c) (by decide)) (fun _ => ?_)
      refine v_s mt_161 rfl rfl rfl ?_
      refine v_s mt_161 rfl rfl rfl ?_
      refine j_pi 0 mt_161 rfl rfl c_542 (by decide) ?_
      refine v_s mt_161 rfl rfl rfl ?_
      refine v_gr (w := 543) 1 mt_161 rfl rfl c_542 (by decide) (g_12_1 c_542) ?_
      refine v_s mt_161 rfl rfl rfl ?_
      refine v_s mt_161 rfl rfl rfl ?_
      refine j_al (w := J 543 0) mt_161 rfl c_543 ⟨by decide, by decide⟩ (by decide) ((up_na (by decide)).trans ((up_na (by decide)).trans rfl)) ?_
      refine v_ic (v := Int32.ofInt 1) mt_161 rfl rfl ?_
      refine j_add (e := (J 543 0) + 1) mt_161 rfl rfl ?_
      refine j_as mt_161 rfl c_543 ⟨by decide, by decide⟩ (by decide) ?_
      refine v_s mt_161 rfl rfl rfl ?_
      refine j_gi (w := 1) 0 mt_161 rfl rfl c_542 (by decide) ((up_na (by decide)).trans (up_eq _ _ _ _)) ?_
      refine j_if1 mt_161 rfl rfl ⟨by decide, by decide⟩ (fun _ => ?_) (fun c => (c (show ¬ (1 : Int) = 0 by decide)).elim)
      refine v_ic (v := Int32.ofInt 0) mt_161 rfl rfl ?_
      refine j_retb mt_161 rfl rfl (by decide) ?_
      refine j_retb mt_227 rfl rfl (by decide) ?_
      refine j_if1 mt_237 rfl rfl ⟨by decide, by decide⟩ (fun c => absurd (show ¬ (0 : Int) = 0 from c) (by decide)) (fun _ => ?_)
      refine v_ic (v := Int32.ofInt 0) mt_237 rfl rfl ?_
      exact v_ret mt_237 rfl rfl rfl h
    · replace h := h.2 (Int.not_lt.mp c)
      refine v_ic (v := Int32.ofInt 1) mt_162 rfl rfl ?_
      refine v_go mt_162 rfl rfl ?_
      refine j_retb mt_162 rfl rfl (by decide) ?_
      refine v_s mt_227 rfl rfl rfl ?_
      refine v_ic (v := Int32.ofInt 0) mt_227 rfl rfl ?_
      refine v_inl (L1 := [some (.ref 542), some (iv 1), some (iv 1), some (iv 0)]) mt_227 rfl rfl mt_161 rfl rfl (m_callj (As := [iv 1, iv 1, iv 0]) (rest := []) rfl rfl c_542 rfl (Nat.le_of_ble_eq_true rfl) (Nat.le_of_ble_eq_true rfl)) rfl (by clear h; omega) ?_
      refine v_s mt_161 rfl rfl rfl ?_
      refine j_if1 mt_161 rfl rfl ⟨by decide, by decide⟩ (fun _ => ?_) (fun c => (c (show ¬ (1 : Int) = 0 by decide)).elim)
      refine v_s mt_161 rfl rfl rfl ?_
      refine j_gi (w := 0) 0 mt_161 rfl rfl c_542 (by decide) (up_eq _ _ _ _) ?_
      refine j_if1 mt_161 rfl rfl ⟨by decide, by decide⟩ (fun c => absurd (show ¬ (0 : Int) = 0 from c) (by decide)) (fun _ => ?_)
      refine v_ic (v := Int32.ofInt 1) mt_161 rfl rfl ?_
      refine v_go mt_161 rfl rfl ?_
      refine j_retb mt_161 rfl rfl (by decide) ?_
      refine j_retb mt_227 rfl rfl (by decide) ?_
      refine j_if1 mt_237 rfl rfl ⟨by decide, by decide⟩ (fun _ => ?_) (fun c => (c (show ¬ (1 : Int) = 0 by decide)).elim)
      refine v_s mt_237 rfl rfl rfl ?_
      obtain ⟨J1, z3, h⟩ := h
      refine v_call (d1 := 1) mt_237 rfl rfl mt_204 rfl rfl (m_callj (As := []) (rest := []) rfl rfl c_542 rfl (Nat.le_of_ble_eq_true rfl) (Nat.le_of_ble_eq_true rfl)) z3 (by clear h; omega) ?_
      refine v_ic (v := Int32.ofInt 0) mt_237 rfl rfl ?_
      refine v_isn (L' := [some (.ref 542), some (iv x1), some (iv 0)]) mt_237 rfl (Nat.le_of_ble_eq_true rfl) rfl ?_
      exact h
set_option maxHeartbeats 600000 in
theorem b_237_22 {X : Nat × (Nat → Int32)} {d : Nat} {J : Nat → Nat → Int} {sw : Bool × Bool × Bool} {lg : Nat → Nat → Int64} {x : Nat} {K : (Option Value ⊕ Nat) → mM → Prop} {x1 x2 : Int} (hd : 3 ≤ d)
    (h : InR x2 ∧ (200 < x2 → K (.inl (some (iv (-1)))) (mj J sw lg x)) ∧ (x2 ≤ 200 → ((0 ≤ 30 + x1 ∧ 30 + x1 < 50) ∧ InR (J 562 ((30 + x1).toNat)) ∧ (¬ J 562 ((30 + x1).toNat) = 0 → (∃ (J1 : Nat → Nat → Int), EE X 2 216 [.ref 542] (mj J sw lg x) (.inl none) (mj J1 sw lg x) ∧ VV X d 237 (22, [some (.ref 542), some (iv x1), some (iv (x2 + 1))], [], mj J1 sw lg x) K)) ∧ (J 562 ((30 + x1).toNat) = 0 → K (.inl (some (iv x2))) (mj J sw lg x))))) : VV X d 237 (22, [some (.ref 542), some (iv x1), some (iv x2)], [], mj J sw lg x) K := by
  refine v_s mt_237 rfl rfl rfl ?_
  refine v_sp (v := Int32.ofInt 200) mt_237 rfl rfl ?_
  obtain ⟨z1, h⟩ := h
  refine j_if2 mt_237 rfl rfl z1 ⟨by decide, by decide⟩ (fun c => ?_) (fun c => ?_)
  · replace h := h.1 c
    refine v_ic (v := Int32.ofInt (-1)) mt_237 rfl rfl ?_
    exact v_ret mt_237 rfl rfl rfl h
  · replace h := h.2 (Int.not_lt.mp c)
    refine v_s mt_237 rfl rfl rfl ?_
    refine v_gr (w := 562) 46 mt_237 rfl rfl c_542 (by decide) (g_12_46 c_542) ?_
    refine v_bp (v := Int32.ofInt 30) mt_237 rfl rfl ?_
    refine v_s mt_237 rfl rfl rfl ?_
    refine j_add (e := 30 + x1) mt_237 rfl rfl ?_
    obtain ⟨z2, h⟩ := h
    refine j_al (w := J 562 ((30 + x1).toNat)) mt_237 rfl c_562 z2 (by decide) rfl ?_
    obtain ⟨z3, h⟩ := h
    refine j_if1 mt_237 rfl rfl z3 (fun c => ?_) (fun c => ?_)
    · replace h := h.1 c
      refine v_s mt_237 rfl rfl rfl ?_
      obtain ⟨J1, z4, h⟩ := h
      refine v_call (d1 := 2) mt_237 rfl rfl mt_216 rfl rfl (m_callj (As := []) (rest := []) rfl rfl c_542 rfl (Nat.le_of_ble_eq_true rfl) (Nat.le_of_ble_eq_true rfl)) z4 (by clear h; omega) ?_
      refine j_inc (e := x2 + 1) (L' := [some (.ref 542), some (iv x1), some (iv (x2 + 1))]) mt_237 rfl rfl (Nat.le_of_ble_eq_true rfl) rfl rfl ?_
      refine v_go mt_237 rfl rfl ?_
      exact h
    · replace h := h.2 (Decidable.not_not.mp c)
      refine v_s mt_237 rfl rfl rfl ?_
      exact v_ret mt_237 rfl rfl rfl h
set_option maxHeartbeats 600000 in
theorem b_238_0 {X : Nat × (Nat → Int32)} {d : Nat} {J : Nat → Nat → Int} {sw : Bool × Bool × Bool} {lg : Nat → Nat → Int64} {x : Nat} {K : (Option Value ⊕ Nat) → mM → Prop} {x1 : Int} (hd : 3 ≤ d)
    (h : InR x1 ∧ (x1 < 0 → K (.inl (some (iv 0))) (mj (m_up (m_up (m_up J 542 0 0) 542 0 1) 543 0 ((J 543 0) + 1)) sw lg x)) ∧ (0 ≤ x1 → (InR ((J 542 24) - 1) ∧ ((J 542 24) - 1 < x1 → K (.inl (some (iv 0))) (mj (m_up (m_up (m_up J 542 0 0) 542 0 1) 543 0 ((J 543 0) + 1)) sw lg x)) ∧ (x1 ≤ (J 542 24) - 1 → (∃ (J1 : Nat → Nat → Int), EE X 1 204 [.ref 542] (mj (m_up J 542 0 0) sw lg x) (.inl none) (mj J1 sw lg x) ∧ ∃ (J2 : Nat → Nat → Int), EE X 2 216 [.ref 542] (mj J1 sw lg x) (.inl none) (mj J2 sw lg x) ∧ (0 ≤ 12 + x1 ∧ 12 + x1 < 50) ∧ K (.inl (some (iv (J2 562 ((12 + x1).toNat))))) (mj J2 sw lg x)))))) : VV X d 238 (0, [some (.ref 542), some (iv x1)], [], mj J sw lg x) K := by
  refine v_s mt_238 rfl rfl rfl ?_
  refine v_ic (v := Int32.ofInt 0) mt_238 rfl rfl ?_
  refine j_pi 0 mt_238 rfl rfl c_542 (by decide) ?_
  refine v_s mt_238 rfl rfl rfl ?_
  refine v_s mt_238 rfl rfl rfl ?_
  refine v_ic (v := Int32.ofInt 1) mt_238 rfl rfl ?_
  refine v_inl (L1 := [some (.ref 542), some (iv x1), some (iv 1)]) mt_238 rfl rfl mt_225 rfl rfl (m_callj (As := [iv x1, iv 1]) (rest := []) rfl rfl c_542 rfl (Nat.le_of_ble_eq_true rfl) (Nat.le_of_ble_eq_true rfl)) rfl (by clear h; omega) ?_
  refine v_s mt_225 rfl rfl rfl ?_
  refine v_s mt_225 rfl rfl rfl ?_
  refine v_ic (v := Int32.ofInt 0) mt_225 rfl rfl ?_
  refine v_s mt_225 rfl rfl rfl ?_
  refine j_gi (w := J 542 24) 24 mt_225 rfl rfl c_542 (by decide) ((up_nk (by decide)).trans rfl) ?_
  refine v_ic (v := Int32.ofInt 1) mt_225 rfl rfl ?_
  refine j_sub (e := (J 542 24) - 1) mt_225 rfl rfl ?_
  refine v_inl (L1 := [some (iv x1), some (iv 0), some (iv ((J 542 24) - 1))]) mt_225 rfl rfl mt_162 rfl rfl rfl rfl (by clear h; omega) ?_
  refine v_s mt_162 rfl rfl rfl ?_
  refine v_s mt_162 rfl rfl rfl ?_
  obtain ⟨z1, h⟩ := h
  refine j_if2 mt_162 rfl rfl z1 ⟨by decide, by decide⟩ (fun c => ?_) (fun c => ?_)
  · replace h := h.1 c
    refine v_ic (v := Int32.ofInt 0) mt_162 rfl rfl ?_
    refine j_retb mt_162 rfl rfl (by decide) ?_
    refine v_s mt_225 rfl rfl rfl ?_
    refine v_ic (v := Int32.ofInt 0) mt_225 rfl rfl ?_
    refine v_inl (L1 := [some (.ref 542), some (iv 0), some (iv 1), some (iv 0)]) mt_225 rfl rfl mt_161 rfl rfl (m_callj (As := [iv 0, iv 1, iv 0]) (rest := []) rfl rfl c_542 rfl (Nat.le_of_ble_eq_true rfl) (Nat.le_of_ble_eq_true rfl)) rfl (by clear h; omega) ?_
    refine v_s mt_161 rfl rfl rfl ?_
    refine j_if1 mt_161 rfl rfl ⟨by decide, by decide⟩ (fun c => absurd (show ¬ (0 : Int) = 0 from c) (by decide)) (fun _ => ?_)
    refine v_s mt_161 rfl rfl rfl ?_
    refine j_gi (w := 0) 0 mt_161 rfl rfl c_542 (by decide) (up_eq _ _ _ _) ?_
    refine j_if1 mt_161 rfl rfl ⟨by decide, by decide⟩ (fun c => absurd (show ¬ (0 : Int) = 0 from c) (by decide)) (fun _ => ?_)
    refine v_s mt_161 rfl rfl rfl ?_
    refine v_s mt_161 rfl rfl rfl ?_
    refine j_pi 0 mt_161 rfl rfl c_542 (by decide) ?_
    refine v_s mt_161 rfl rfl rfl ?_
    refine v_gr (w := 543) 1 mt_161 rfl rfl c_542 (by decide) (g_12_1 c_542) ?_
    refine v_s mt_161 rfl rfl rfl ?_
    refine v_s mt_161 rfl rfl rfl ?_
    refine j_al (w := J 543 0) mt_161 rfl c_543 ⟨by decide, by decide⟩ (by decide) ((up_na (by decide)).trans ((up_na (by decide)).trans rfl)) ?_
    refine v_ic (v := Int32.ofInt 1) mt_161 rfl rfl ?_
    refine j_add (e := (J 543 0) + 1) mt_161 rfl rfl ?_
    refine j_as mt_161 rfl c_543 ⟨by decide, by decide⟩ (by decide) ?_
    refine v_s mt_161 rfl rfl rfl ?_
    refine j_gi (w := 1) 0 mt_161 rfl rfl c_542 (by decide) ((up_na (by decide)).trans (up_eq _ _ _ _)) ?_
    refine j_if1 mt_161 rfl rfl ⟨by decide, by decide⟩ (fun _ => ?_) (fun c => (c (show ¬ (1 : Int) = 0 by decide)).elim)
    refine v_ic (v := Int32.ofInt 0) mt_161 rfl rfl ?_
    refine j_retb mt_161 rfl rfl (by decide) ?_
    refine j_retb mt_225 rfl rfl (by decide) ?_
    refine j_if1 mt_238 rfl rfl ⟨by decide, by decide⟩ (fun c => absurd (show ¬ (0 : Int) = 0 from c) (by decide)) (fun _ => ?_)
    refine v_ic (v := Int32.ofInt 0) mt_238 rfl rfl ?_
    exact v_ret mt_238 rfl rfl rfl h
  · replace h := h.2 (Int.not_lt.mp c)
    refine v_s mt_162 rfl rfl rfl ?_
    refine v_s mt_162 rfl rfl rfl ?_
    obtain ⟨z2, h⟩ := h
    refine j_if2 mt_162 rfl rfl z1 z2 (fun c => ?_) (fun c => ?_)
    · replace h := h.1 c
      refine v_ic (v := Int32.ofInt 0) mt_162 rfl rfl ?_
      refine j_retb mt_162 rfl rfl (by decide) ?_
      refine v_s mt_225 rfl rfl rfl ?_
      refine v_ic (v := Int32.ofInt 0) mt_225 rfl rfl ?_
      refine v_inl (L1 := [some (.ref 542), some (iv 0), some (iv 1), some (iv 0)]) mt_225 rfl rfl mt_161 rfl rfl (m_callj (As := [iv 0, iv 1, iv 0]) (rest := []) rfl rfl c_542 rfl (Nat.le_of_ble_eq_true rfl) (Nat.le_of_ble_eq_true rfl)) rfl (by clear h; omega) ?_
      refine v_s mt_161 rfl rfl rfl ?_
      refine j_if1 mt_161 rfl rfl ⟨by decide, by decide⟩ (fun c => absurd (show ¬ (0 : Int) = 0 from c) (by decide)) (fun _ => ?_)
      refine v_s mt_161 rfl rfl rfl ?_
      refine j_gi (w := 0) 0 mt_161 rfl rfl c_542 (by decide) (up_eq _ _ _ _) ?_
      refine j_if1 mt_161 rfl rfl ⟨by decide, by decide⟩ (fun c => absurd (show ¬ (0 : Int) = 0 from c) (by decide)) (fun _ => ?_)
      refine v_s mt_161 rfl rfl rfl ?_
      refine v_s mt_161 rfl rfl rfl ?_
      refine j_pi 0 mt_161 rfl rfl c_542 (by decide) ?_
      refine v_s mt_161 rfl rfl rfl ?_
      refine v_gr (w := 543) 1 mt_161 rfl rfl c_542 (by decide) (g_12_1 c_542) ?_
      refine v_s mt_161 rfl rfl rfl ?_
      refine v_s mt_161 rfl rfl rfl ?_
      refine j_al (w := J 543 0) mt_161 rfl c_543 ⟨by decide, by decide⟩ (by decide) ((up_na (by decide)).trans ((up_na (by decide)).trans rfl)) ?_
      refine v_ic (v := Int32.ofInt 1) mt_161 rfl rfl ?_
      refine j_add (e := (J 543 0) + 1) mt_161 rfl rfl ?_
      refine j_as mt_161 rfl c_543 ⟨by decide, by decide⟩ (by decide) ?_
      refine v_s mt_161 rfl rfl rfl ?_
      refine j_gi (w := 1) 0 mt_161 rfl rfl c_542 (by decide) ((up_na (by decide)).trans (up_eq _ _ _ _)) ?_
      refine j_if1 mt_161 rfl rfl ⟨by decide, by decide⟩ (fun _ => ?_) (fun c => (c (show ¬ (1 : Int) = 0 by decide)).elim)
      refine v_ic (v := Int32.ofInt 0) mt_161 rfl rfl ?_
      refine j_retb mt_161 rfl rfl (by decide) ?_
      refine j_retb mt_225 rfl rfl (by decide) ?_
      refine j_if1 mt_238 rfl rfl ⟨by decide, by decide⟩ (fun c => absurd (show ¬ (0 : Int) = 0 from c) (by decide)) (fun _ => ?_)
      refine v_ic (v := Int32.ofInt 0) mt_238 rfl rfl ?_
      exact v_ret mt_238 rfl rfl rfl h
    · replace h := h.2 (Int.not_lt.mp c)
      refine v_ic (v := Int32.ofInt 1) mt_162 rfl rfl ?_
      refine v_go mt_162 rfl rfl ?_
      refine j_retb mt_162 rfl rfl (by decide) ?_
      refine v_s mt_225 rfl rfl rfl ?_
      refine v_ic (v := Int32.ofInt 0) mt_225 rfl rfl ?_
      refine v_inl (L1 := [some (.ref 542), some (iv 1), some (iv 1), some (iv 0)]) mt_225 rfl rfl mt_161 rfl rfl (m_callj (As := [iv 1, iv 1, iv 0]) (rest := []) rfl rfl c_542 rfl (Nat.le_of_ble_eq_true rfl) (Nat.le_of_ble_eq_true rfl)) rfl (by clear h; omega) ?_
      refine v_s mt_161 rfl rfl rfl ?_
      refine j_if1 mt_161 rfl rfl ⟨by decide, by decide⟩ (fun _ => ?_) (fun c => (c (show ¬ (1 : Int) = 0 by decide)).elim)
      refine v_s mt_161 rfl rfl rfl ?_
      refine j_gi (w := 0) 0 mt_161 rfl rfl c_542 (by decide) (up_eq _ _ _ _) ?_
      refine j_if1 mt_161 rfl rfl ⟨by decide, by decide⟩ (fun c => absurd (show ¬ (0 : Int) = 0 from c) (by decide)) (fun _ => ?_)
      refine v_ic (v := Int32.ofInt 1) mt_161 rfl rfl ?_
      refine v_go mt_161 rfl rfl ?_
      refine j_retb mt_161 rfl rfl (by decide) ?_
      refine j_retb mt_225 rfl rfl (by decide) ?_
      refine j_if1 mt_238 rfl rfl ⟨by decide, by decide⟩ (fun _ => ?_) (fun c => (c (show ¬ (1 : Int) = 0 by decide)).elim)
      refine v_s mt_238 rfl rfl rfl ?_
      obtain ⟨J1, z3, h⟩ := h
      refine v_call (d1 := 1) mt_238 rfl rfl mt_204 rfl rfl (m_callj (As := []) (rest := []) rfl rfl c_542 rfl (Nat.le_of_ble_eq_true rfl) (Nat.le_of_ble_eq_true rfl)) z3 (by clear h; omega) ?_
      refine v_s mt_238 rfl rfl rfl ?_
      obtain ⟨J2, z4, h⟩ := h
      refine v_call (d1 := 2) mt_238 rfl rfl mt_216 rfl rfl (m_callj (As := []) (rest := []) rfl rfl c_542 rfl (Nat.le_of_ble_eq_true rfl) (Nat.le_of_ble_eq_true rfl)) z4 (by clear h; omega) ?_
      refine v_s mt_238 rfl rfl rfl ?_
      refine v_gr (w := 562) 46 mt_238 rfl rfl c_542 (by decide) (g_12_46 c_542) ?_
      refine v_bp (v := Int32.ofInt 12) mt_238 rfl rfl ?_
      refine v_s mt_238 rfl rfl rfl ?_
      refine j_add (e := 12 + x1) mt_238 rfl rfl ?_
      obtain ⟨z5, h⟩ := h
      refine j_al (w := J2 562 ((12 + x1).toNat)) mt_238 rfl c_562 z5 (by decide) rfl ?_
      exact v_ret mt_238 rfl rfl rfl h
set_option maxHeartbeats 600000 in
theorem b_242_0 {X : Nat × (Nat → Int32)} {d : Nat} {J : Nat → Nat → Int} {sw : Bool × Bool × Bool} {lg : Nat → Nat → Int64} {x : Nat} {K : (Option Value ⊕ Nat) → mM → Prop} {x1 : Int} (hd : 6 ≤ d)
    (h : InR x1 ∧ (x1 < 0 → K (.inl (some (iv 0))) (mj (m_up (m_up (m_up J 542 0 0) 542 0 1) 543 0 ((J 543 0) + 1)) sw lg x)) ∧ (0 ≤ x1 → (InR ((J 542 24) - 1) ∧ ((J 542 24) - 1 < x1 → K (.inl (some (iv 0))) (mj (m_up (m_up (m_up J 542 0 0) 542 0 1) 543 0 ((J 543 0) + 1)) sw lg x)) ∧ (x1 ≤ (J 542 24) - 1 → (∃ (J1 : Nat → Nat → Int), EE X 5 239 [.ref 542, iv x1] (mj (m_up J 542 0 0) sw lg x) (.inl none) (mj J1 sw lg x) ∧ K (.inl (some (iv (J1 566 0)))) (mj J1 sw lg x)))))) : VV X d 242 (0, [some (.ref 542), some (iv x1)], [], mj J sw lg x) K := by
  refine v_s mt_242 rfl rfl rfl ?_
  refine v_ic (v := Int32.ofInt 0) mt_242 rfl rfl ?_
  refine j_pi 0 mt_242 rfl rfl c_542 (by decide) ?_
  refine v_s mt_242 rfl rfl rfl ?_
  refine v_s mt_242 rfl rfl rfl ?_
  refine v_ic (v := Int32.ofInt 1) mt_242 rfl rfl ?_
  refine v_inl (L1 := [some (.ref 542), some (iv x1), some (iv 1)]) mt_242 rfl rfl mt_225 rfl rfl (m_callj (As := [iv x1, iv 1]) (rest := []) rfl rfl c_542 rfl (Nat.le_of_ble_eq_true rfl) (Nat.le_of_ble_eq_true rfl)) rfl (by clear h; omega) ?_
  refine v_s mt_225 rfl rfl rfl ?_
  refine v_s mt_225 rfl rfl rfl ?_
  refine v_ic (v := Int32.ofInt 0) mt_225 rfl rfl ?_
  refine v_s mt_225 rfl rfl rfl ?_
  refine j_gi (w := J 542 24) 24 mt_225 rfl rfl c_542 (by decide) ((up_nk (by decide)).trans rfl) ?_
  refine v_ic (v := Int32.ofInt 1) mt_225 rfl rfl ?_
  refine j_sub (e := (J 542 24) - 1) mt_225 rfl rfl ?_
  refine v_inl (L1 := [some (iv x1), some (iv 0), some (iv ((J 542 24) - 1))]) mt_225 rfl rfl mt_162 rfl rfl rfl rfl (by clear h; omega) ?_
  refine v_s mt_162 rfl rfl rfl ?_
  refine v_s mt_162 rfl rfl rfl ?_
  obtain ⟨z1, h⟩ := h
  refine j_if2 mt_162 rfl rfl z1 ⟨by decide, by decide⟩ (fun c => ?_) (fun c => ?_)
  · replace h := h.1 c
    refine v_ic (v := Int32.ofInt 0) mt_162 rfl rfl ?_
    refine j_retb mt_162 rfl rfl (by decide) ?_
    refine v_s mt_225 rfl rfl rfl ?_
    refine v_ic (v := Int32.ofInt 0) mt_225 rfl rfl ?_
    refine v_inl (L1 := [some (.ref 542), some (iv 0), some (iv 1), some (iv 0)]) mt_225 rfl rfl mt_161 rfl rfl (m_callj (As := [iv 0, iv 1, iv 0]) (rest := []) rfl rfl c_542 rfl (Nat.le_of_ble_eq_true rfl) (Nat.le_of_ble_eq_true rfl)) rfl (by clear h; omega) ?_
    refine v_s mt_161 rfl rfl rfl ?_
    refine j_if1 mt_161 rfl rfl ⟨by decide, by decide⟩ (fun c => absurd (show ¬ (0 : Int) = 0 from c) (by decide)) (fun _ => ?_)
    refine v_s mt_161 rfl rfl rfl ?_
    refine j_gi (w := 0) 0 mt_161 rfl rfl c_542 (by decide) (up_eq _ _ _ _) ?_
    refine j_if1 mt_161 rfl rfl ⟨by decide, by decide⟩ (fun c => absurd (show ¬ (0 : Int) = 0 from c) (by decide)) (fun _ => ?_)
    refine v_s mt_161 rfl rfl rfl ?_
    refine v_s mt_161 rfl rfl rfl ?_
    refine j_pi 0 mt_161 rfl rfl c_542 (by decide) ?_
    refine v_s mt_161 rfl rfl rfl ?_
    refine v_gr (w := 543) 1 mt_161 rfl rfl c_542 (by decide) (g_12_1 c_542) ?_
    refine v_s mt_161 rfl rfl rfl ?_
    refine v_s mt_161 rfl rfl rfl ?_
    refine j_al (w := J 543 0) mt_161 rfl c_543 ⟨by decide, by decide⟩ (by decide) ((up_na (by decide)).trans ((up_na (by decide)).trans rfl)) ?_
    refine v_ic (v := Int32.ofInt 1) mt_161 rfl rfl ?_
    refine j_add (e := (J 543 0) + 1) mt_161 rfl rfl ?_
    refine j_as mt_161 rfl c_543 ⟨by decide, by decide⟩ (by decide) ?_
    refine v_s mt_161 rfl rfl rfl ?_
    refine j_gi (w := 1) 0 mt_161 rfl rfl c_542 (by decide) ((up_na (by decide)).trans (up_eq _ _ _ _)) ?_
    refine j_if1 mt_161 rfl rfl ⟨by decide, by decide⟩ (fun _ => ?_) (fun c => (c (show ¬ (1 : Int) = 0 by decide)).elim)
    refine v_ic (v := Int32.ofInt 0) mt_161 rfl rfl ?_
    refine j_retb mt_161 rfl rfl (by decide) ?_
    refine j_retb mt_225 rfl rfl (by decide) ?_
    refine j_if1 mt_242 rfl rfl ⟨by decide, by decide⟩ (fun c => absurd (show ¬ (0 : Int) = 0 from c) (by decide)) (fun _ => ?_)
    refine v_ic (v := Int32.ofInt 0) mt_242 rfl rfl ?_
    exact v_ret mt_242 rfl rfl rfl h
  · replace h := h.2 (Int.not_lt.mp c)
    refine v_s mt_162 rfl rfl rfl ?_
    refine v_s mt_162 rfl rfl rfl ?_
    obtain ⟨z2, h⟩ := h
    refine j_if2 mt_162 rfl rfl z1 z2 (fun c => ?_) (fun c => ?_)
    · replace h := h.1 c
      refine v_ic (v := Int32.ofInt 0) mt_162 rfl rfl ?_
      refine j_retb mt_162 rfl rfl (by decide) ?_
      refine v_s mt_225 rfl rfl rfl ?_
      refine v_ic (v := Int32.ofInt 0) mt_225 rfl rfl ?_
      refine v_inl (L1 := [some (.ref 542), some (iv 0), some (iv 1), some (iv 0)]) mt_225 rfl rfl mt_161 rfl rfl (m_callj (As := [iv 0, iv 1, iv 0]) (rest := []) rfl rfl c_542 rfl (Nat.le_of_ble_eq_true rfl) (Nat.le_of_ble_eq_true rfl)) rfl (by clear h; omega) ?_
      refine v_s mt_161 rfl rfl rfl ?_
      refine j_if1 mt_161 rfl rfl ⟨by decide, by decide⟩ (fun c => absurd (show ¬ (0 : Int) = 0 from c) (by decide)) (fun _ => ?_)
      refine v_s mt_161 rfl rfl rfl ?_
      refine j_gi (w := 0) 0 mt_161 rfl rfl c_542 (by decide) (up_eq _ _ _ _) ?_
      refine j_if1 mt_161 rfl rfl ⟨by decide, by decide⟩ (fun c => absurd (show ¬ (0 : Int) = 0 from c) (by decide)) (fun _ => ?_)
      refine v_s mt_161 rfl rfl rfl ?_
      refine v_s mt_161 rfl rfl rfl ?_
      refine j_pi 0 mt_161 rfl rfl c_542 (by decide) ?_
      refine v_s mt_161 rfl rfl rfl ?_
      refine v_gr (w := 543) 1 mt_161 rfl rfl c_542 (by decide) (g_12_1 c_542) ?_
      refine v_s mt_161 rfl rfl rfl ?_
      refine v_s mt_161 rfl rfl rfl ?_
      refine j_al (w := J 543 0) mt_161 rfl c_543 ⟨by decide, by decide⟩ (by decide) ((up_na (by decide)).trans ((up_na (by decide)).trans rfl)) ?_
      refine v_ic (v := Int32.ofInt 1) mt_161 rfl rfl ?_
      refine j_add (e := (J 543 0) + 1) mt_161 rfl rfl ?_
      refine j_as mt_161 rfl c_543 ⟨by decide, by decide⟩ (by decide) ?_
      refine v_s mt_161 rfl rfl rfl ?_
      refine j_gi (w := 1) 0 mt_161 rfl rfl c_542 (by decide) ((up_na (by decide)).trans (up_eq _ _ _ _)) ?_
      refine j_if1 mt_161 rfl rfl ⟨by decide, by decide⟩ (fun _ => ?_) (fun c => (c (show ¬ (1 : Int) = 0 by decide)).elim)
      refine v_ic (v := Int32.ofInt 0) mt_161 rfl rfl ?_
      refine j_retb mt_161 rfl rfl (by decide) ?_
      refine j_retb mt_225 rfl rfl (by decide) ?_
      refine j_if1 mt_242 rfl rfl ⟨by decide, by decide⟩ (fun c => absurd (show ¬ (0 : Int) = 0 from c) (by decide)) (fun _ => ?_)
      refine v_ic (v := Int32.ofInt 0) mt_242 rfl rfl ?_
      exact v_ret mt_242 rfl rfl rfl h
    · replace h := h.2 (Int.not_lt.mp c)
      refine v_ic (v := Int32.ofInt 1) mt_162 rfl rfl ?_
      refine v_go mt_162 rfl rfl ?_
      refine j_retb mt_162 rfl rfl (by decide) ?_
      refine v_s mt_225 rfl rfl rfl ?_
      refine v_ic (v := Int32.ofInt 0) mt_225 rfl rfl ?_
      refine v_inl (L1 := [some (.ref 542), some (iv 1), some (iv 1), some (iv 0)]) mt_225 rfl rfl mt_161 rfl rfl (m_callj (As := [iv 1, iv 1, iv 0]) (rest := []) rfl rfl c_542 rfl (Nat.le_of_ble_eq_true rfl) (Nat.le_of_ble_eq_true rfl)) rfl (by clear h; omega) ?_
      refine v_s mt_161 rfl rfl rfl ?_
      refine j_if1 mt_161 rfl rfl ⟨by decide, by decide⟩ (fun _ => ?_) (fun c => (c (show ¬ (1 : Int) = 0 by decide)).elim)
      refine v_s mt_161 rfl rfl rfl ?_
      refine j_gi (w := 0) 0 mt_161 rfl rfl c_542 (by decide) (up_eq _ _ _ _) ?_
      refine j_if1 mt_161 rfl rfl ⟨by decide, by decide⟩ (fun c => absurd (show ¬ (0 : Int) = 0 from c) (by decide)) (fun _ => ?_)
      refine v_ic (v := Int32.ofInt 1) mt_161 rfl rfl ?_
      refine v_go mt_161 rfl rfl ?_
      refine j_retb mt_161 rfl rfl (by decide) ?_
      refine j_retb mt_225 rfl rfl (by decide) ?_
      refine j_if1 mt_242 rfl rfl ⟨by decide, by decide⟩ (fun _ => ?_) (fun c => (c (show ¬ (1 : Int) = 0 by decide)).elim)
      refine v_s mt_242 rfl rfl rfl ?_
      refine v_s mt_242 rfl rfl rfl ?_
      obtain ⟨J1, z3, h⟩ := h
      refine v_call (d1 := 5) mt_242 rfl rfl mt_239 rfl rfl (m_callj (As := [iv x1]) (rest := []) rfl rfl c_542 rfl (Nat.le_of_ble_eq_true rfl) (Nat.le_of_ble_eq_true rfl)) z3 (by clear h; omega) ?_
      refine v_s mt_242 rfl rfl rfl ?_
      refine v_gr (w := 566) 51 mt_242 rfl rfl c_542 (by decide) (g_12_51 c_542) ?_
      refine v_ic (v := Int32.ofInt 0) mt_242 rfl rfl ?_
      refine j_al (w := J1 566 0) mt_242 rfl c_566 ⟨by decide, by decide⟩ (by decide) rfl ?_
      exact v_ret mt_242 rfl rfl rfl h
set_option maxHeartbeats 600000 in
theorem b_243_0 {X : Nat × (Nat → Int32)} {d : Nat} {J : Nat → Nat → Int} {sw : Bool × Bool × Bool} {lg : Nat → Nat → Int64} {x : Nat} {K : (Option Value ⊕ Nat) → mM → Prop} {x1 x2 : Int} (hd : 6 ≤ d)
    (h : InR x1 ∧ (x1 < 0 → K (.inl (some (iv 0))) (mj (m_up (m_up (m_up J 542 0 0) 542 0 1) 543 0 ((J 543 0) + 1)) sw lg x)) ∧ (0 ≤ x1 → (InR ((J 542 24) - 1) ∧ ((J 542 24) - 1 < x1 → K (.inl (some (iv 0))) (mj (m_up (m_up (m_up J 542 0 0) 542 0 1) 543 0 ((J 543 0) + 1)) sw lg x)) ∧ (x1 ≤ (J 542 24) - 1 → (InR x2 ∧ (x2 < 0 → K (.inl (some (iv 0))) (mj (m_up (m_up (m_up J 542 0 0) 542 0 1) 543 0 ((J 543 0) + 1)) sw lg x)) ∧ (0 ≤ x2 → (InR ((J 542 25) - 1) ∧ ((J 542 25) - 1 < x2 → K (.inl (some (iv 0))) (mj (m_up (m_up (m_up J 542 0 0) 542 0 1) 543 0 ((J 543 0) + 1)) sw lg x)) ∧ (x2 ≤ (J 542 25) - 1 → (∃ (J1 : Nat → Nat → Int), EE X 5 239 [.ref 542, iv x1] (mj (m_up J 542 0 0) sw lg x) (.inl none) (mj J1 sw lg x) ∧ (0 ≤ x2 ∧ x2 < 6) ∧ K (.inl (some (iv (J1 568 x2.toNat)))) (mj J1 sw lg x)))))))))) : VV X d 243 (0, [some (.ref 542), some (iv x1), some (iv x2)], [], mj J sw lg x) K := by
  refine v_s mt_243 rfl rfl rfl ?_
  refine v_ic (v := Int32.ofInt 0) mt_243 rfl rfl ?_
  refine j_pi 0 mt_243 rfl rfl c_542 (by decide) ?_
  refine v_s mt_243 rfl rfl rfl ?_
  refine v_s mt_243 rfl rfl rfl ?_
  refine v_ic (v := Int32.ofInt 1) mt_243 rfl rfl ?_
  refine v_inl (L1 := [some (.ref 542), some (iv x1), some (iv 1)]) mt_243 rfl rfl mt_225 rfl rfl (m_callj (As := [iv x1, iv 1]) (rest := []) rfl rfl c_542 rfl (Nat.le_of_ble_eq_true rfl) (Nat.le_of_ble_eq_true rfl)) rfl (by clear h; omega) ?_
  refine v_s mt_225 rfl rfl rfl ?_
  refine v_s mt_225 rfl rfl rfl ?_
  refine v_ic (v := Int32.ofInt 0) mt_225 rfl rfl ?_
  refine v_s mt_225 rfl rfl rfl ?_
  refine j_gi (w := J 542 24) 24 mt_225 rfl rfl c_542 (by decide) ((up_nk (by decide)).trans rfl) ?_
  refine v_ic (v := Int32.ofInt 1) mt_225 rfl rfl ?_
  refine j_sub (e := (J 542 24) - 1) mt_225 rfl rfl ?_
  refine v_inl (L1 := [some (iv x1), some (iv 0), some (iv ((J 542 24) - 1))]) mt_225 rfl rfl mt_162 rfl rfl rfl rfl (by clear h; omega) ?_
  refine v_s mt_162 rfl rfl rfl ?_
  refine v_s mt_162 rfl rfl rfl ?_
  obtain ⟨z1, h⟩ := h
  refine j_if2 mt_162 rfl rfl z1 ⟨by decide, by decide⟩ (fun c => ?_) (fun c => ?_)
  · replace h := h.1 c
    refine v_ic (v := Int32.ofInt 0) mt_162 rfl rfl ?_
    refine j_retb mt_162 rfl rfl (by decide) ?_
    refine v_s mt_225 rfl rfl rfl ?_
    refine v_ic (v := Int32.ofInt 0) mt_225 rfl rfl ?_
    refine v_inl (L1 := [some (.ref 542), some (iv 0), some (iv 1), some (iv 0)]) mt_225 rfl rfl mt_161 rfl rfl (m_callj (As := [iv 0, iv 1, iv 0]) (rest := []) rfl rfl c_542 rfl (Nat.le_of_ble_eq_true rfl) (Nat.le_of_ble_eq_true rfl)) rfl (by clear h; omega) ?_
    refine v_s mt_161 rfl rfl rfl ?_
    refine j_if1 mt_161 rfl rfl ⟨by decide, by decide⟩ (fun c => absurd (show ¬ (0 : Int) = 0 from c) (by decide)) (fun _ => ?_)
    refine v_s mt_161 rfl rfl rfl ?_
    refine j_gi (w := 0) 0 mt_161 rfl rfl c_542 (by decide) (up_eq _ _ _ _) ?_
    refine j_if1 mt_161 rfl rfl ⟨by decide, by decide⟩ (fun c => absurd (show ¬ (0 : Int) = 0 from c) (by decide)) (fun _ => ?_)
    refine v_s mt_161 rfl rfl rfl ?_
    refine v_s mt_161 rfl rfl rfl ?_
    refine j_pi 0 mt_161 rfl rfl c_542 (by decide) ?_
    refine v_s mt_161 rfl rfl rfl ?_
    refine v_gr (w := 543) 1 mt_161 rfl rfl c_542 (by decide) (g_12_1 c_542) ?_
    refine v_s mt_161 rfl rfl rfl ?_
    refine v_s mt_161 rfl rfl rfl ?_
    refine j_al (w := J 543 0) mt_161 rfl c_543 ⟨by decide, by decide⟩ (by decide) ((up_na (by decide)).trans ((up_na (by decide)).trans rfl)) ?_
    refine v_ic (v := Int32.ofInt 1) mt_161 rfl rfl ?_
    refine j_add (e := (J 543 0) + 1) mt_161 rfl rfl ?_
    refine j_as mt_161 rfl c_543 ⟨by decide, by decide⟩ (by decide) ?_
    refine v_s mt_161 rfl rfl rfl ?_
    refine j_gi (w := 1) 0 mt_161 rfl rfl c_542 (by decide) ((up_na (by decide)).trans (up_eq _ _ _ _)) ?_
    refine j_if1 mt_161 rfl rfl ⟨by decide, by decide⟩ (fun _ => ?_) (fun c => (c (show ¬ (1 : Int) = 0 by decide)).elim)
    refine v_ic (v := Int32.ofInt 0) mt_161 rfl rfl ?_
    refine j_retb mt_161 rfl rfl (by decide) ?_
    refine j_retb mt_225 rfl rfl (by decide) ?_
    refine j_if1 mt_243 rfl rfl ⟨by decide, by decide⟩ (fun _ => ?_) (fun c => (c (show (0 : Int) = 0 by decide)).elim)
    refine v_ic (v := Int32.ofInt 0) mt_243 rfl rfl ?_
    exact v_ret mt_243 rfl rfl rfl h
  · replace h := h.2 (Int.not_lt.mp c)
    refine v_s mt_162 rfl rfl rfl ?_
    refine v_s mt_162 rfl rfl rfl ?_
    obtain ⟨z2, h⟩ := h
    refine j_if2 mt_162 rfl rfl z1 z2 (fun c => ?_) (fun c => ?_)
    · replace h := h.1 c
      refine v_ic (v := Int32.ofInt 0) mt_162 rfl rfl ?_
      refine j_retb mt_162 rfl rfl (by decide) ?_
      refine v_s mt_225 rfl rfl rfl ?_
      refine v_ic (v := Int32.ofInt 0) mt_225 rfl rfl ?_
      refine v_inl (L1 := [some (.ref 542), some (iv 0), some (iv 1), some (iv 0)]) mt_225 rfl rfl mt_161 rfl rfl (m_callj (As := [iv 0, iv 1, iv 0]) (rest := []) rfl rfl c_542 rfl (Nat.le_of_ble_eq_true rfl) (Nat.le_of_ble_eq_true rfl)) rfl (by clear h; omega) ?_
      refine v_s mt_161 rfl rfl rfl ?_
      refine j_if1 mt_161 rfl rfl ⟨by decide, by decide⟩ (fun c => absurd (show ¬ (0 : Int) = 0 from c) (by decide)) (fun _ => ?_)
      refine v_s mt_161 rfl rfl rfl ?_
      refine j_gi (w := 0) 0 mt_161 rfl rfl c_542 (by decide) (up_eq _ _ _ _) ?_
      refine j_if1 mt_161 rfl rfl ⟨by decide, by decide⟩ (fun c => absurd (show ¬ (0 : Int) = 0 from c) (by decide)) (fun _ => ?_)
      refine v_s mt_161 rfl rfl rfl ?_
      refine v_s mt_161 rfl rfl rfl ?_
      refine j_pi 0 mt_161 rfl rfl c_542 (by decide) ?_
      refine v_s mt_161 rfl rfl rfl ?_
      refine v_gr (w := 543) 1 mt_161 rfl rfl c_542 (by decide) (g_12_1 c_542) ?_
      refine v_s mt_161 rfl rfl rfl ?_
      refine v_s mt_161 rfl rfl rfl ?_
      refine j_al (w := J 543 0) mt_161 rfl c_543 ⟨by decide, by decide⟩ (by decide) ((up_na (by decide)).trans ((up_na (by decide)).trans rfl)) ?_
      refine v_ic (v := Int32.ofInt 1) mt_161 rfl rfl ?_
      refine j_add (e := (J 543 0) + 1) mt_161 rfl rfl ?_
      refine j_as mt_161 rfl c_543 ⟨by decide, by decide⟩ (by decide) ?_
      refine v_s mt_161 rfl rfl rfl ?_
      refine j_gi (w := 1) 0 mt_161 rfl rfl c_542 (by decide) ((up_na (by decide)).trans (up_eq _ _ _ _)) ?_
      refine j_if1 mt_161 rfl rfl ⟨by decide, by decide⟩ (fun _ => ?_) (fun c => (c (show ¬ (1 : Int) = 0 by decide)).elim)
      refine v_ic (v := Int32.ofInt 0) mt_161 rfl rfl ?_
      refine j_retb mt_161 rfl rfl (by decide) ?_
      refine j_retb mt_225 rfl rfl (by decide) ?_
      refine j_if1 mt_243 rfl rfl ⟨by decide, by decide⟩ (fun _ => ?_) (fun c => (c (show (0 : Int) = 0 by decide)).elim)
      refine v_ic (v := Int32.ofInt 0) mt_243 rfl rfl ?_
      exact v_ret mt_243 rfl rfl rfl h
    · replace h := h.2 (Int.not_lt.mp c)
      refine v_ic (v := Int32.ofInt 1) mt_162 rfl rfl ?_
      refine v_go mt_162 rfl rfl ?_
      refine j_retb mt_162 rfl rfl (by decide) ?_
      refine v_s mt_225 rfl rfl rfl ?_
      refine v_ic (v := Int32.ofInt 0) mt_225 rfl rfl ?_
      refine v_inl (L1 := [some (.ref 542), some (iv 1), some (iv 1), some (iv 0)]) mt_225 rfl rfl mt_161 rfl rfl (m_callj (As := [iv 1, iv 1, iv 0]) (rest := []) rfl rfl c_542 rfl (Nat.le_of_ble_eq_true rfl) (Nat.le_of_ble_eq_true rfl)) rfl (by clear h; omega) ?_
      refine v_s mt_161 rfl rfl rfl ?_
      refine j_if1 mt_161 rfl rfl ⟨by decide, by decide⟩ (fun _ => ?_) (fun c => (c (show ¬ (1 : Int) = 0 by decide)).elim)
      refine v_s mt_161 rfl rfl rfl ?_
      refine j_gi (w := 0) 0 mt_161 rfl rfl c_542 (by decide) (up_eq _ _ _ _) ?_
      refine j_if1 mt_161 rfl rfl ⟨by decide, by decide⟩ (fun c => absurd (show ¬ (0 : Int) = 0 from c) (by decide)) (fun _ => ?_)
      refine v_ic (v := Int32.ofInt 1) mt_161 rfl rfl ?_
      refine v_go mt_161 rfl rfl ?_
      refine j_retb mt_161 rfl rfl (by decide) ?_
      refine j_retb mt_225 rfl rfl (by decide) ?_
      refine j_if1 mt_243 rfl rfl ⟨by decide, by decide⟩ (fun c => absurd (show (1 : Int) = 0 from c) (by decide)) (fun _ => ?_)
      refine v_s mt_243 rfl rfl rfl ?_
      refine v_s mt_243 rfl rfl rfl ?_
      refine v_ic (v := Int32.ofInt 1) mt_243 rfl rfl ?_
      refine v_inl (L1 := [some (.ref 542), some (iv x2), some (iv 1)]) mt_243 rfl rfl mt_226 rfl rfl (m_callj (As := [iv x2, iv 1]) (rest := []) rfl rfl c_542 rfl (Nat.le_of_ble_eq_true rfl) (Nat.le_of_ble_eq_true rfl)) rfl (by clear h; omega) ?_
      refine v_s mt_226 rfl rfl rfl ?_
      refine v_s mt_226 rfl rfl rfl ?_
      refine v_ic (v := Int32.ofInt 0) mt_226 rfl rfl ?_
      refine v_s mt_226 rfl rfl rfl ?_
      refine j_gi (w := J 542 25) 25 mt_226 rfl rfl c_542 (by decide) ((up_nk (by decide)).trans rfl) ?_
      refine v_ic (v := Int32.ofInt 1) mt_226 rfl rfl ?_
      refine j_sub (e := (J 542 25) - 1) mt_226 rfl rfl ?_
      refine v_inl (L1 := [some (iv x2), some (iv 0), some (iv ((J 542 25) - 1))]) mt_226 rfl rfl mt_162 rfl rfl rfl rfl (by clear h; omega) ?_
      refine v_s mt_162 rfl rfl rfl ?_
      refine v_s mt_162 rfl rfl rfl ?_
      obtain ⟨z3, h⟩ := h
      refine j_if2 mt_162 rfl rfl z3 ⟨by decide, by decide⟩ (fun c => ?_) (fun c => ?_)
      · replace h := h.1 c
        refine v_ic (v := Int32.ofInt 0) mt_162 rfl rfl ?_
        refine j_retb mt_162 rfl rfl (by decide) ?_
        refine v_s mt_226 rfl rfl rfl ?_
        refine v_ic (v := Int32.ofInt 0) mt_226 rfl rfl ?_
        refine v_inl (L1 := [some (.ref 542), some (iv 0), some (iv 1), some (iv 0)]) mt_226 rfl rfl mt_161 rfl rfl (m_callj (As := [iv 0, iv 1, iv 0]) (rest := []) rfl rfl c_542 rfl (Nat.le_of_ble_eq_true rfl) (Nat.le_of_ble_eq_true rfl)) rfl (by clear h; omega) ?_
        refine v_s mt_161 rfl rfl rfl ?_
        refine j_if1 mt_161 rfl rfl ⟨by decide, by decide⟩ (fun c => absurd (show ¬ (0 : Int) = 0 from c) (by decide)) (fun _ => ?_)
        refine v_s mt_161 rfl rfl rfl ?_
        refine j_gi (w := 0) 0 mt_161 rfl rfl c_542 (by decide) (up_eq _ _ _ _) ?_
        refine j_if1 mt_161 rfl rfl ⟨by decide, by decide⟩ (fun c => absurd (show ¬ (0 : Int) = 0 from c) (by decide)) (fun _ => ?_)
        refine v_s mt_161 rfl rfl rfl ?_
        refine v_s mt_161 rfl rfl rfl ?_
        refine j_pi 0 mt_161 rfl rfl c_542 (by decide) ?_
        refine v_s mt_161 rfl rfl rfl ?_
        refine v_gr (w := 543) 1 mt_161 rfl rfl c_542 (by decide) (g_12_1 c_542) ?_
        refine v_s mt_161 rfl rfl rfl ?_
        refine v_s mt_161 rfl rfl rfl ?_
        refine j_al (w := J 543 0) mt_161 rfl c_543 ⟨by decide, by decide⟩ (by decide) ((up_na (by decide)).trans ((up_na (by decide)).trans rfl)) ?_
        refine v_ic (v := Int32.ofInt 1) mt_161 rfl rfl ?_
        refine j_add (e := (J 543 0) + 1) mt_161 rfl rfl ?_
        refine j_as mt_161 rfl c_543 ⟨by decide, by decide⟩ (by decide) ?_
        refine v_s mt_161 rfl rfl rfl ?_
        refine j_gi (w := 1) 0 mt_161 rfl rfl c_542 (by decide) ((up_na (by decide)).trans (up_eq _ _ _ _)) ?_
        refine j_if1 mt_161 rfl rfl ⟨by decide, by decide⟩ (fun _ => ?_) (fun c => (c (show ¬ (1 : Int) = 0 by decide)).elim)
        refine v_ic (v := Int32.ofInt 0) mt_161 rfl rfl ?_
        refine j_retb mt_161 rfl rfl (by decide) ?_
        refine j_retb mt_226 rfl rfl (by decide) ?_
        refine j_if1 mt_243 rfl rfl ⟨by decide, by decide⟩ (fun c => absurd (show ¬ (0 : Int) = 0 from c) (by decide)) (fun _ => ?_)
        refine v_ic (v := Int32.ofInt 0) mt_243 rfl rfl ?_
        exact v_ret mt_243 rfl rfl rfl h
      · replace h := h.2 (Int.not_lt.mp c)
        refine v_s mt_162 rfl rfl rfl ?_
        refine v_s mt_162 rfl rfl rfl ?_
        obtain ⟨z4, h⟩ := h
        refine j_if2 mt_162 rfl rfl z3 z4 (fun c => ?_) (fun c => ?_)
        · replace h := h.1 c
          refine v_ic (v := Int32.ofInt 0) mt_162 rfl rfl ?_
          refine j_retb mt_162 rfl rfl (by decide) ?_
          refine v_s mt_226 rfl rfl rfl ?_
          refine v_ic (v := Int32.ofInt 0) mt_226 rfl rfl ?_
          refine v_inl (L1 := [some (.ref 542), some (iv 0), some (iv 1), some (iv 0)]) mt_226 rfl rfl mt_161 rfl rfl (m_callj (As := [iv 0, iv 1, iv 0]) (rest := []) rfl rfl c_542 rfl (Nat.le_of_ble_eq_true rfl) (Nat.le_of_ble_eq_true rfl)) rfl (by clear h; omega) ?_
          refine v_s mt_161 rfl rfl rfl ?_
          refine j_if1 mt_161 rfl rfl ⟨by decide, by decide⟩ (fun c => absurd (show ¬ (0 : Int) = 0 from c) (by decide)) (fun _ => ?_)
          refine v_s mt_161 rfl rfl rfl ?_
          refine j_gi (w := 0) 0 mt_161 rfl rfl c_542 (by decide) (up_eq _ _ _ _) ?_
          refine j_if1 mt_161 rfl rfl ⟨by decide, by decide⟩ (fun c => absurd (show ¬ (0 : Int) = 0 from c) (by decide)) (fun _ => ?_)
          refine v_s mt_161 rfl rfl rfl ?_
          refine v_s mt_161 rfl rfl rfl ?_
          refine j_pi 0 mt_161 rfl rfl c_542 (by decide) ?_
          refine v_s mt_161 rfl rfl rfl ?_
          refine v_gr (w := 543) 1 mt_161 rfl rfl c_542 (by decide) (g_12_1 c_542) ?_
          refine v_s mt_161 rfl rfl rfl ?_
          refine v_s mt_161 rfl rfl rfl ?_
          refine j_al (w := J 543 0) mt_161 rfl c_543 ⟨by decide, by decide⟩ (by decide) ((up_na (by decide)).trans ((up_na (by decide)).trans rfl)) ?_
          refine v_ic (v := Int32.ofInt 1) mt_161 rfl rfl ?_
          refine j_add (e := (J 543 0) + 1) mt_161 rfl rfl ?_
          refine j_as mt_161 rfl c_543 ⟨by decide, by decide⟩ (by decide) ?_
          refine v_s mt_161 rfl rfl rfl ?_
          refine j_gi (w := 1) 0 mt_161 rfl rfl c_542 (by decide) ((up_na (by decide)).trans (up_eq _ _ _ _)) ?_
          refine j_if1 mt_161 rfl rfl ⟨by decide, by decide⟩ (fun _ => ?_) (fun c => (c (show ¬ (1 : Int) = 0 by decide)).elim)
          refine v_ic (v := Int32.ofInt 0) mt_161 rfl rfl ?_
          refine j_retb mt_161 rfl rfl (by decide) ?_
          refine j_retb mt_226 rfl rfl (by decide) ?_
          refine j_if1 mt_243 rfl rfl ⟨by decide, by decide⟩ (fun c => absurd (show ¬ (0 : Int) = 0 from c) (by decide)) (fun _ => ?_)
          refine v_ic (v := Int32.ofInt 0) mt_243 rfl rfl ?_
          exact v_ret mt_243 rfl rfl rfl h
        · replace h := h.2 (Int.not_lt.mp c)
          refine v_ic (v := Int32.ofInt 1) mt_162 rfl rfl ?_
          refine v_go mt_162 rfl rfl ?_
          refine j_retb mt_162 rfl rfl (by decide) ?_
          refine v_s mt_226 rfl rfl rfl ?_
          refine v_ic (v := Int32.ofInt 0) mt_226 rfl rfl ?_
          refine v_inl (L1 := [some (.ref 542), some (iv 1), some (iv 1), some (iv 0)]) mt_226 rfl rfl mt_161 rfl rfl (m_callj (As := [iv 1, iv 1, iv 0]) (rest := []) rfl rfl c_542 rfl (Nat.le_of_ble_eq_true rfl) (Nat.le_of_ble_eq_true rfl)) rfl (by clear h; omega) ?_
          refine v_s mt_161 rfl rfl rfl ?_
          refine j_if1 mt_161 rfl rfl ⟨by decide, by decide⟩ (fun _ => ?_) (fun c => (c (show ¬ (1 : Int) = 0 by decide)).elim)
          refine v_s mt_161 rfl rfl rfl ?_
          refine j_gi (w := 0) 0 mt_161 rfl rfl c_542 (by decide) (up_eq _ _ _ _) ?_
          refine j_if1 mt_161 rfl rfl ⟨by decide, by decide⟩ (fun c => absurd (show ¬ (0 : Int) = 0 from c) (by decide)) (fun _ => ?_)
          refine v_ic (v := Int32.ofInt 1) mt_161 rfl rfl ?_
          refine v_go mt_161 rfl rfl ?_
          refine j_retb mt_161 rfl rfl (by decide) ?_
          refine j_retb mt_226 rfl rfl (by decide) ?_
          refine j_if1 mt_243 rfl rfl ⟨by decide, by decide⟩ (fun _ => ?_) (fun c => (c (show ¬ (1 : Int) = 0 by decide)).elim)
          refine v_s mt_243 rfl rfl rfl ?_
          refine v_s mt_243 rfl rfl rfl ?_
          obtain ⟨J1, z5, h⟩ := h
          refine v_call (d1 := 5) mt_243 rfl rfl mt_239 rfl rfl (m_callj (As := [iv x1]) (rest := []) rfl rfl c_542 rfl (Nat.le_of_ble_eq_true rfl) (Nat.le_of_ble_eq_true rfl)) z5 (by clear h; omega) ?_
          refine v_s mt_243 rfl rfl rfl ?_
          refine v_gr (w := 568) 53 mt_243 rfl rfl c_542 (by decide) (g_12_53 c_542) ?_
          refine v_s mt_243 rfl rfl rfl ?_
          obtain ⟨z6, h⟩ := h
          refine j_al (w := J1 568 x2.toNat) mt_243 rfl c_568 z6 (by decide) rfl ?_
          exact v_ret mt_243 rfl rfl rfl h
set_option maxHeartbeats 600000 in
theorem b_263_0 {X : Nat × (Nat → Int32)} {d : Nat} {J : Nat → Nat → Int} {sw : Bool × Bool × Bool} {lg : Nat → Nat → Int64} {x : Nat} {K : (Option Value ⊕ Nat) → mM → Prop} {x1 : Int} {o2 : Option Value} (hd : 1 ≤ d)
    (h : InR x1 ∧ (x1 < 0 → K (.inl (some (iv 0))) (mj (m_up (m_up (m_up J 542 0 0) 542 0 1) 543 1 ((J 543 1) + 1)) sw lg x)) ∧ (0 ≤ x1 → ((1 < x1 → K (.inl (some (iv 0))) (mj (m_up (m_up (m_up J 542 0 0) 542 0 1) 543 1 ((J 543 1) + 1)) sw lg x)) ∧ (x1 ≤ 1 → (∃ (c2 : Int) (J1 : Nat → Nat → Int), EE X 0 262 [.ref 542, iv 30] (mj (m_up J 542 0 0) sw lg x) (.inl (some (iv c2))) (mj J1 sw lg x) ∧ (x1 = 0 → K (.inl (some (iv c2))) (mj J1 sw lg x)) ∧ (¬ x1 = 0 → (InR c2 ∧ (¬ c2 = (-1) → ((0 ≤ 30 + c2 ∧ 30 + c2 < 50) ∧ K (.inl (some (iv (J1 561 ((30 + c2).toNat))))) (mj J1 sw lg x))) ∧ (c2 = (-1) → K (.inl (some (iv c2))) (mj J1 sw lg x))))))))) : VV X d 263 (0, [some (.ref 542), some (iv x1), o2], [], mj J sw lg x) K := by
  refine v_s mt_263 rfl rfl rfl ?_
  refine v_ic (v := Int32.ofInt 0) mt_263 rfl rfl ?_
  refine j_pi 0 mt_263 rfl rfl c_542 (by decide) ?_
  refine v_s mt_263 rfl rfl rfl ?_
  refine v_s mt_263 rfl rfl rfl ?_
  refine v_ic (v := Int32.ofInt 0) mt_263 rfl rfl ?_
  refine v_ic (v := Int32.ofInt 1) mt_263 rfl rfl ?_
  refine v_inl (L1 := [some (iv x1), some (iv 0), some (iv 1)]) mt_263 rfl rfl mt_162 rfl rfl rfl rfl (by clear h; omega) ?_
  refine v_s mt_162 rfl rfl rfl ?_
  refine v_s mt_162 rfl rfl rfl ?_
  obtain ⟨z1, h⟩ := h
  refine j_if2 mt_162 rfl rfl z1 ⟨by decide, by decide⟩ (fun c => ?_) (fun c => ?_)
  · replace h := h.1 c
    refine v_ic (v := Int32.ofInt 0) mt_162 rfl rfl ?_
    refine j_retb mt_162 rfl rfl (by decide) ?_
    refine v_ic (v := Int32.ofInt 1) mt_263 rfl rfl ?_
    refine v_ic (v := Int32.ofInt 1) mt_263 rfl rfl ?_
    refine v_inl (L1 := [some (.ref 542), some (iv 0), some (iv 1), some (iv 1)]) mt_263 rfl rfl mt_161 rfl rfl (m_callj (As := [iv 0, iv 1, iv 1]) (rest := []) rfl rfl c_542 rfl (Nat.le_of_ble_eq_true rfl) (Nat.le_of_ble_eq_true rfl)) rfl (by clear h; omega) ?_
    refine v_s mt_161 rfl rfl rfl ?_
    refine j_if1 mt_161 rfl rfl ⟨by decide, by decide⟩ (fun c => absurd (show ¬ (0 : Int) = 0 from c) (by decide)) (fun _ => ?_)
    refine v_s mt_161 rfl rfl rfl ?_
    refine j_gi (w := 0) 0 mt_161 rfl rfl c_542 (by decide) (up_eq _ _ _ _) ?_
    refine j_if1 mt_161 rfl rfl ⟨by decide, by decide⟩ (fun c => absurd (show ¬ (0 : Int) = 0 from c) (by decide)) (fun _ => ?_)
    refine v_s mt_161 rfl rfl rfl ?_
    refine v_s mt_161 rfl rfl rfl ?_
    refine j_pi 0 mt_161 rfl rfl c_542 (by decide) ?_
    refine v_s mt_161 rfl rfl rfl ?_
    refine v_gr (w := 543) 1 mt_161 rfl rfl c_542 (by decide) (g_12_1 c_542) ?_
    refine v_s mt_161 rfl rfl rfl ?_
    refine v_s mt_161 rfl rfl rfl ?_
    refine j_al (w := J 543 1) mt_161 rfl c_543 ⟨by decide, by decide⟩ (by decide) ((up_na (by decide)).trans ((up_na (by decide)).trans rfl)) ?_
    refine v_ic (v := Int32.ofInt 1) mt_161 rfl rfl ?_
    refine j_add (e := (J 543 1) + 1) mt_161 rfl rfl ?_
    refine j_as mt_161 rfl c_543 ⟨by decide, by decide⟩ (by decide) ?_
    refine v_s mt_161 rfl rfl rfl ?_
    refine j_gi (w := 1) 0 mt_161 rfl rfl c_542 (by decide) ((up_na (by decide)).trans (up_eq _ _ _ _)) ?_
    refine j_if1 mt_161 rfl rfl ⟨by decide, by decide⟩ (fun _ => ?_) (fun c => (c (show ¬ (1 : Int) = 0 by decide)).elim)
    refine v_ic (v := Int32.ofInt 0) mt_161 rfl rfl ?_
    refine j_retb mt_161 rfl rfl (by decide) ?_
    refine j_if1 mt_263 rfl rfl ⟨by decide, by decide⟩ (fun c => absurd (show ¬ (0 : Int) = 0 from c) (by decide)) (fun _ => ?_)
    refine v_ic (v := Int32.ofInt 0) mt_263 rfl rfl ?_
    exact v_ret mt_263 rfl rfl rfl h
  · replace h := h.2 (Int.not_lt.mp c)
    refine v_s mt_162 rfl rfl rfl ?_
    refine v_s mt_162 rfl rfl rfl ?_
    refine j_if2 mt_162 rfl rfl z1 ⟨by decide, by decide⟩ (fun c => ?_) (fun c => ?_)
    · replace h := h.1 c
      refine v_ic (v := Int32.ofInt 0) mt_162 rfl rfl ?_
      refine j_retb mt_162 rfl rfl (by decide) ?_
      refine v_ic (v := Int32.ofInt 1) mt_263 rfl rfl ?_
      refine v_ic (v := Int32.ofInt 1) mt_263 rfl rfl ?_
      refine v_inl (L1 := [some (.ref 542), some (iv 0), some (iv 1), some (iv 1)]) mt_263 rfl rfl mt_161 rfl rfl (m_callj (As := [iv 0, iv 1, iv 1]) (rest := []) rfl rfl c_542 rfl (Nat.le_of_ble_eq_true rfl) (Nat.le_of_ble_eq_true rfl)) rfl (by clear h; omega) ?_
      refine v_s mt_161 rfl rfl rfl ?_
      refine j_if1 mt_161 rfl rfl ⟨by decide, by decide⟩ (fun c => absurd (show ¬ (0 : Int) = 0 from c) (by decide)) (fun _ => ?_)
      refine v_s mt_161 rfl rfl rfl ?_
      refine j_gi (w := 0) 0 mt_161 rfl rfl c_542 (by decide) (up_eq _ _ _ _) ?_
      refine j_if1 mt_161 rfl rfl ⟨by decide, by decide⟩ (fun c => absurd (show ¬ (0 : Int) = 0 from c) (by decide)) (fun _ => ?_)
      refine v_s mt_161 rfl rfl rfl ?_
      refine v_s mt_161 rfl rfl rfl ?_
      refine j_pi 0 mt_161 rfl rfl c_542 (by decide) ?_
      refine v_s mt_161 rfl rfl rfl ?_
      refine v_gr (w := 543) 1 mt_161 rfl rfl c_542 (by decide) (g_12_1 c_542) ?_
      refine v_s mt_161 rfl rfl rfl ?_
      refine v_s mt_161 rfl rfl rfl ?_
      refine j_al (w := J 543 1) mt_161 rfl c_543 ⟨by decide, by decide⟩ (by decide) ((up_na (by decide)).trans ((up_na (by decide)).trans rfl)) ?_
      refine v_ic (v := Int32.ofInt 1) mt_161 rfl rfl ?_
      refine j_add (e := (J 543 1) + 1) mt_161 rfl rfl ?_
      refine j_as mt_161 rfl c_543 ⟨by decide, by decide⟩ (by decide) ?_
      refine v_s mt_161 rfl rfl rfl ?_
      refine j_gi (w := 1) 0 mt_161 rfl rfl c_542 (by decide) ((up_na (by decide)).trans (up_eq _ _ _ _)) ?_
      refine j_if1 mt_161 rfl rfl ⟨by decide, by decide⟩ (fun _ => ?_) (fun c => (c (show ¬ (1 : Int) = 0 by decide)).elim)
      refine v_ic (v := Int32.ofInt 0) mt_161 rfl rfl ?_
      refine j_retb mt_161 rfl rfl (by decide) ?_
      refine j_if1 mt_263 rfl rfl ⟨by decide, by decide⟩ (fun c => absurd (show ¬ (0 : Int) = 0 from c) (by decide)) (fun _ => ?_)
      refine v_ic (v := Int32.ofInt 0) mt_263 rfl rfl ?_
      exact v_ret mt_263 rfl rfl rfl h
    · replace h := h.2 (Int.not_lt.mp c)
      refine v_ic (v := Int32.ofInt 1) mt_162 rfl rfl ?_
      refine v_go mt_162 rfl rfl ?_
      refine j_retb mt_162 rfl rfl (by decide) ?_
      refine v_ic (v := Int32.ofInt 1) mt_263 rfl rfl ?_
      refine v_ic (v := Int32.ofInt 1) mt_263 rfl rfl ?_
      refine v_inl (L1 := [some (.ref 542), some (iv 1), some (iv 1), some (iv 1)]) mt_263 rfl rfl mt_161 rfl rfl (m_callj (As := [iv 1, iv 1, iv 1]) (rest := []) rfl rfl c_542 rfl (Nat.le_of_ble_eq_true rfl) (Nat.le_of_ble_eq_true rfl)) rfl (by clear h; omega) ?_
      refine v_s mt_161 rfl rfl rfl ?_
      refine j_if1 mt_161 rfl rfl ⟨by decide, by decide⟩ (fun _ => ?_) (fun c => (c (show ¬ (1 : Int) = 0 by decide)).elim)
      refine v_s mt_161 rfl rfl rfl ?_
      refine j_gi (w := 0) 0 mt_161 rfl rfl c_542 (by decide) (up_eq _ _ _ _) ?_
      refine j_if1 mt_161 rfl rfl ⟨by decide, by decide⟩ (fun c => absurd (show ¬ (0 : Int) = 0 from c) (by decide)) (fun _ => ?_)
      refine v_ic (v := Int32.ofInt 1) mt_161 rfl rfl ?_
      refine v_go mt_161 rfl rfl ?_
      refine j_retb mt_161 rfl rfl (by decide) ?_
      refine j_if1 mt_263 rfl rfl ⟨by decide, by decide⟩ (fun _ => ?_) (fun c => (c (show ¬ (1 : Int) = 0 by decide)).elim)
      refine v_s mt_263 rfl rfl rfl ?_
      refine v_bp (v := Int32.ofInt 30) mt_263 rfl rfl ?_
      obtain ⟨c2, J1, z2, h⟩ := h
      refine v_call (d1 := 0) mt_263 rfl rfl mt_262 rfl rfl (m_callj (As := [iv 30]) (rest := []) rfl rfl c_542 rfl (Nat.le_of_ble_eq_true rfl) (Nat.le_of_ble_eq_true rfl)) z2 (by clear h; omega) ?_
      refine v_isn (L' := [some (.ref 542), some (iv x1), some (iv c2)]) mt_263 rfl (Nat.le_of_ble_eq_true rfl) rfl ?_
      refine v_s mt_263 rfl rfl rfl ?_
      refine j_if1 mt_263 rfl rfl z1 (fun c => ?_) (fun c => ?_)
      · replace h := h.1 c
        refine v_s mt_263 rfl rfl rfl ?_
        refine v_go mt_263 rfl rfl ?_
        exact v_ret mt_263 rfl rfl rfl h
      · replace h := h.2 c
        refine v_s mt_263 rfl rfl rfl ?_
        refine v_ic (v := Int32.ofInt (-1)) mt_263 rfl rfl ?_
        obtain ⟨z3, h⟩ := h
        refine j_if2 mt_263 rfl rfl z3 ⟨by decide, by decide⟩ (fun c => ?_) (fun c => ?_)
        · replace h := h.1 c
          refine v_s mt_263 rfl rfl rfl ?_
          refine v_gr (w := 561) 45 mt_263 rfl rfl c_542 (by decide) (g_12_45 c_542) ?_
          refine v_bp (v := Int32.ofInt 30) mt_263 rfl rfl ?_
          refine v_s mt_263 rfl rfl rfl ?_
          refine j_add (e := 30 + c2) mt_263 rfl rfl ?_
          obtain ⟨z4, h⟩ := h
          refine j_al (w := J1 561 ((30 + c2).toNat)) mt_263 rfl c_561 z4 (by decide) rfl ?_
          exact v_ret mt_263 rfl rfl rfl h
        · replace h := h.2 (Decidable.not_not.mp c)
          refine v_s mt_263 rfl rfl rfl ?_
          refine v_go mt_263 rfl rfl ?_
          exact v_ret mt_263 rfl rfl rfl h
set_option maxHeartbeats 600000 in
theorem b_264_0 {X : Nat × (Nat → Int32)} {d : Nat} {J : Nat → Nat → Int} {sw : Bool × Bool × Bool} {lg : Nat → Nat → Int64} {x : Nat} {K : (Option Value ⊕ Nat) → mM → Prop} {x1 : Int} (hd : 2 ≤ d)
    (h : InR x1 ∧ (x1 < 0 → K (.inl (some (iv 0))) (mj (m_up (m_up (m_up J 542 0 0) 542 0 1) 543 1 ((J 543 1) + 1)) sw lg x)) ∧ (0 ≤ x1 → ((1 < x1 → K (.inl (some (iv 0))) (mj (m_up (m_up (m_up J 542 0 0) 542 0 1) 543 1 ((J 543 1) + 1)) sw lg x)) ∧ (x1 ≤ 1 → (∃ (J1 : Nat → Nat → Int), EE X 1 204 [.ref 542] (mj (m_up J 542 0 0) sw lg x) (.inl none) (mj J1 sw lg x) ∧ (¬ x1 = 0 → (∃ (c3 : Int) (J2 : Nat → Nat → Int), EE X 0 262 [.ref 542, iv 39] (mj J1 sw lg x) (.inl (some (iv c3))) (mj J2 sw lg x) ∧ K (.inl (some (iv c3))) (mj J2 sw lg x))) ∧ (x1 = 0 → (∃ (c5 : Int) (J4 : Nat → Nat → Int), EE X 0 220 [.ref 542, iv 39] (mj J1 sw lg x) (.inl (some (iv c5))) (mj J4 sw lg x) ∧ K (.inl (some (iv c5))) (mj J4 sw lg x)))))))) : VV X d 264 (0, [some (.ref 542), some (iv x1)], [], mj J sw lg x) K := by
  refine v_s mt_264 rfl rfl rfl ?_
  refine v_ic (v := Int32.ofInt 0) mt_264 rfl rfl ?_
  refine j_pi 0 mt_264 rfl rfl c_542 (by decide) ?_
  refine v_s mt_264 rfl rfl rfl ?_
  refine v_s mt_264 rfl rfl rfl ?_
  refine v_ic (v := Int32.ofInt 0) mt_264 rfl rfl ?_
  refine v_ic (v := Int32.ofInt 1) mt_264 rfl rfl ?_
  refine v_inl (L1 := [some (iv x1), some (iv 0), some (iv 1)]) mt_264 rfl rfl mt_162 rfl rfl rfl rfl (by clear h; omega) ?_
  refine v_s mt_162 rfl rfl rfl ?_
  refine v_s mt_162 rfl rfl rfl ?_
  obtain ⟨z1, h⟩ := h
  refine j_if2 mt_162 rfl rfl z1 ⟨by decide, by decide⟩ (fun c => ?_) (fun c => ?_)
  · replace h := h.1 c
    refine v_ic (v := Int32.ofInt 0) mt_162 rfl rfl ?_
    refine j_retb mt_162 rfl rfl (by decide) ?_
    refine v_ic (v := Int32.ofInt 1) mt_264 rfl rfl ?_
    refine v_ic (v := Int32.ofInt 1) mt_264 rfl rfl ?_
    refine v_inl (L1 := [some (.ref 542), some (iv 0), some (iv 1), some (iv 1)]) mt_264 rfl rfl mt_161 rfl rfl (m_callj (As := [iv 0, iv 1, iv 1]) (rest := []) rfl rfl c_542 rfl (Nat.le_of_ble_eq_true rfl) (Nat.le_of_ble_eq_true rfl)) rfl (by clear h; omega) ?_
    refine v_s mt_161 rfl rfl rfl ?_
    refine j_if1 mt_161 rfl rfl ⟨by decide, by decide⟩ (fun c => absurd (show ¬ (0 : Int) = 0 from c) (by decide)) (fun _ => ?_)
    refine v_s mt_161 rfl rfl rfl ?_
    refine j_gi (w := 0) 0 mt_161 rfl rfl c_542 (by decide) (up_eq _ _ _ _) ?_
    refine j_if1 mt_161 rfl rfl ⟨by decide, by decide⟩ (fun c => absurd (show ¬ (0 : Int) = 0 from c) (by decide)) (fun _ => ?_)
    refine v_s mt_161 rfl rfl rfl ?_
    refine v_s mt_161 rfl rfl rfl ?_
    refine j_pi 0 mt_161 rfl rfl c_542 (by decide) ?_
    refine v_s mt_161 rfl rfl rfl ?_
    refine v_gr (w := 543) 1 mt_161 rfl rfl c_542 (by decide) (g_12_1 c_542) ?_
    refine v_s mt_161 rfl rfl rfl ?_
    refine v_s mt_161 rfl rfl rfl ?_
    refine j_al (w := J 543 1) mt_161 rfl c_543 ⟨by decide, by decide⟩ (by decide) ((up_na (by decide)).trans ((up_na (by decide)).trans rfl)) ?_
    refine v_ic (v := Int32.ofInt 1) mt_161 rfl rfl ?_
    refine j_add (e := (J 543 1) + 1) mt_161 rfl rfl ?_
    refine j_as mt_161 rfl c_543 ⟨by decide, by decide⟩ (by decide) ?_
    refine v_s mt_161 rfl rfl rfl ?_
    refine j_gi (w := 1) 0 mt_161 rfl rfl c_542 (by decide) ((up_na (by decide)).trans (up_eq _ _ _ _)) ?_
    refine j_if1 mt_161 rfl rfl ⟨by decide, by decide⟩ (fun _ => ?_) (fun c => (c (show ¬ (1 : Int) = 0 by decide)).elim)
    refine v_ic (v := Int32.ofInt 0) mt_161 rfl rfl ?_
    refine j_retb mt_161 rfl rfl (by decide) ?_
    refine j_if1 mt_264 rfl rfl ⟨by decide, by decide⟩ (fun c => absurd (show ¬ (0 : Int) = 0 from c) (by decide)) (fun _ => ?_)
    refine v_ic (v := Int32.ofInt 0) mt_264 rfl rfl ?_
    exact v_ret mt_264 rfl rfl rfl h
  · replace h := h.2 (Int.not_lt.mp c)
    refine v_s mt_162 rfl rfl rfl ?_
    refine v_s mt_162 rfl rfl rfl ?_
    refine j_if2 mt_162 rfl rfl z1 ⟨by decide, by decide⟩ (fun c => ?_) (fun c => ?_)
    · replace h := h.1 c
      refine v_ic (v := Int32.ofInt 0) mt_162 rfl rfl ?_
      refine j_retb mt_162 rfl rfl (by decide) ?_
      refine v_ic (v := Int32.ofInt 1) mt_264 rfl rfl ?_
      refine v_ic (v := Int32.ofInt 1) mt_264 rfl rfl ?_
      refine v_inl (L1 := [some (.ref 542), some (iv 0), some (iv 1), some (iv 1)]) mt_264 rfl rfl mt_161 rfl rfl (m_callj (As := [iv 0, iv 1, iv 1]) (rest := []) rfl rfl c_542 rfl (Nat.le_of_ble_eq_true rfl) (Nat.le_of_ble_eq_true rfl)) rfl (by clear h; omega) ?_
      refine v_s mt_161 rfl rfl rfl ?_
      refine j_if1 mt_161 rfl rfl ⟨by decide, by decide⟩ (fun c => absurd (show ¬ (0 : Int) = 0 from c) (by decide)) (fun _ => ?_)
      refine v_s mt_161 rfl rfl rfl ?_
      refine j_gi (w := 0) 0 mt_161 rfl rfl c_542 (by decide) (up_eq _ _ _ _) ?_
      refine j_if1 mt_161 rfl rfl ⟨by decide, by decide⟩ (fun c => absurd (show ¬ (0 : Int) = 0 from c) (by decide)) (fun _ => ?_)
      refine v_s mt_161 rfl rfl rfl ?_
      refine v_s mt_161 rfl rfl rfl ?_
      refine j_pi 0 mt_161 rfl rfl c_542 (by decide) ?_
      refine v_s mt_161 rfl rfl rfl ?_
      refine v_gr (w := 543) 1 mt_161 rfl rfl c_542 (by decide) (g_12_1 c_542) ?_
      refine v_s mt_161 rfl rfl rfl ?_
      refine v_s mt_161 rfl rfl rfl ?_
      refine j_al (w := J 543 1) mt_161 rfl c_543 ⟨by decide, by decide⟩ (by decide) ((up_na (by decide)).trans ((up_na (by decide)).trans rfl)) ?_
      refine v_ic (v := Int32.ofInt 1) mt_161 rfl rfl ?_
      refine j_add (e := (J 543 1) + 1) mt_161 rfl rfl ?_
      refine j_as mt_161 rfl c_543 ⟨by decide, by decide⟩ (by decide) ?_
      refine v_s mt_161 rfl rfl rfl ?_
      refine j_gi (w := 1) 0 mt_161 rfl rfl c_542 (by decide) ((up_na (by decide)).trans (up_eq _ _ _ _)) ?_
      refine j_if1 mt_161 rfl rfl ⟨by decide, by decide⟩ (fun _ => ?_) (fun c => (c (show ¬ (1 : Int) = 0 by decide)).elim)
      refine v_ic (v := Int32.ofInt 0) mt_161 rfl rfl ?_
      refine j_retb mt_161 rfl rfl (by decide) ?_
      refine j_if1 mt_264 rfl rfl ⟨by decide, by decide⟩ (fun c => absurd (show ¬ (0 : Int) = 0 from c) (by decide)) (fun _ => ?_)
      refine v_ic (v := Int32.ofInt 0) mt_264 rfl rfl ?_
      exact v_ret mt_264 rfl rfl rfl h
    · replace h := h.2 (Int.not_lt.mp c)
      refine v_ic (v := Int32.ofInt 1) mt_162 rfl rfl ?_
      refine v_go mt_162 rfl rfl ?_
      refine j_retb mt_162 rfl rfl (by decide) ?_
      refine v_ic (v := Int32.ofInt 1) mt_264 rfl rfl ?_
      refine v_ic (v := Int32.ofInt 1) mt_264 rfl rfl ?_
      refine v_inl (L1 := [some (.ref 542), some (iv 1), some (iv 1), some (iv 1)]) mt_264 rfl rfl mt_161 rfl rfl (m_callj (As := [iv 1, iv 1, iv 1]) (rest := []) rfl rfl c_542 rfl (Nat.le_of_ble_eq_true rfl) (Nat.le_of_ble_eq_true rfl)) rfl (by clear h; omega) ?_
      refine v_s mt_161 rfl rfl rfl ?_
      refine j_if1 mt_161 rfl rfl ⟨by decide, by decide⟩ (fun _ => ?_) (fun c => (c (show ¬ (1 : Int) = 0 by decide)).elim)
      refine v_s mt_161 rfl rfl rfl ?_
      refine j_gi (w := 0) 0 mt_161 rfl rfl c_542 (by decide) (up_eq _ _ _ _) ?_
      refine j_if1 mt_161 rfl rfl ⟨by decide, by decide⟩ (fun c => absurd (show ¬ (0 : Int) = 0 from c) (by decide)) (fun _ => ?_)
      refine v_ic (v := Int32.ofInt 1) mt_161 rfl rfl ?_
      refine v_go mt_161 rfl rfl ?_
      refine j_retb mt_161 rfl rfl (by decide) ?_
      refine j_if1 mt_264 rfl rfl ⟨by decide, by decide⟩ (fun _ => ?_) (fun c => (c (show ¬ (1 : Int) = 0 by decide)).elim)
      refine v_s mt_264 rfl rfl rfl ?_
      obtain ⟨J1, z2, h⟩ := h
      refine v_call (d1 := 1) mt_264 rfl rfl mt_204 rfl rfl (m_callj (As := []) (rest := []) rfl rfl c_542 rfl (Nat.le_of_ble_eq_true rfl) (Nat.le_of_ble_eq_true rfl)) z2 (by clear h; omega) ?_
      refine v_s mt_264 rfl rfl rfl ?_
      refine j_if1 mt_264 rfl rfl z1 (fun c => ?_) (fun c => ?_)
      · replace h := h.1 c
        refine v_s mt_264 rfl rfl rfl ?_
        refine v_bp (v := Int32.ofInt 39) mt_264 rfl rfl ?_
        obtain ⟨c3, J2, z3, h⟩ := h
        refine v_call (d1 := 0) mt_264 rfl rfl mt_262 rfl rfl (m_callj (As := [iv 39]) (rest := []) rfl rfl c_542 rfl (Nat.le_of_ble_eq_true rfl) (Nat.le_of_ble_eq_true rfl)) z3 (by clear h; omega) ?_
        exact v_ret mt_264 rfl rfl rfl h
      · replace h := h.2 (Decidable.not_not.mp c)
        refine v_s mt_264 rfl rfl rfl ?_
        refine v_bp (v := Int32.ofInt 39) mt_264 rfl rfl ?_
        obtain ⟨c5, J4, z4, h⟩ := h
        refine v_call (d1 := 0) mt_264 rfl rfl mt_220 rfl rfl (m_callj (As := [iv 39]) (rest := []) rfl rfl c_542 rfl (Nat.le_of_ble_eq_true rfl) (Nat.le_of_ble_eq_true rfl)) z4 (by clear h; omega) ?_
        refine v_go mt_264 rfl rfl ?_
        exact v_ret mt_264 rfl rfl rfl h
