set_option maxHeartbeats 600000 in
theorem b_41_0 {X : Nat × (Nat → Int32)} {d : Nat} {J : Nat → Nat → Int} {sw : Bool × Bool × Bool} {lg : Nat → Nat → Int64} {x : Nat} {K : (Option Value ⊕ Nat) → mM → Prop} {x1 : Int}
    (h : InR x1 ∧ (x1 ≤ 0 → K (.inl (some (iv 0))) (mj (m_up J 55 0 (((J 55 0) * 1103515245) + 12345)) sw lg x)) ∧ (0 < x1 → (¬ x1 = 0 ∧ K (.inl (some (iv (bRem (bAnd (bShr (((J 55 0) * 1103515245) + 12345) 16) 32767) x1)))) (mj (m_up J 55 0 (((J 55 0) * 1103515245) + 12345)) sw lg x)))) : VV X d 41 (0, [some (.ref 55), some (iv x1)], [], mj J sw lg x) K := by
  refine v_s mt_41 rfl rfl rfl ?_
  refine v_s mt_41 rfl rfl rfl ?_
  refine j_gi (w := J 55 0) 0 mt_41 rfl rfl c_55 (by decide) rfl ?_
  refine j_ldc (e := 1103515245) mt_41 rfl rfl ?_
  refine j_mul (e := (J 55 0) * 1103515245) mt_41 rfl rfl ?_
  refine v_sp (v := Int32.ofInt 12345) mt_41 rfl rfl ?_
  refine j_add (e := ((J 55 0) * 1103515245) + 12345) mt_41 rfl rfl ?_
  refine j_pi 0 mt_41 rfl rfl c_55 (by decide) ?_
  refine v_s mt_41 rfl rfl rfl ?_
  obtain ⟨z1, h⟩ := h
  refine j_if1 mt_41 rfl rfl z1 (fun c => ?_) (fun c => ?_)
  · replace h := h.1 c
    refine v_ic (v := Int32.ofInt 0) mt_41 rfl rfl ?_
    exact v_ret mt_41 rfl rfl rfl h
  · replace h := h.2 (Int.not_le.mp c)
    refine v_s mt_41 rfl rfl rfl ?_
    refine j_gi (w := ((J 55 0) * 1103515245) + 12345) 0 mt_41 rfl rfl c_55 (by decide) (up_eq _ _ _ _) ?_
    refine v_bp (v := Int32.ofInt 16) mt_41 rfl rfl ?_
    refine j_shr (e := bShr (((J 55 0) * 1103515245) + 12345) 16) mt_41 rfl rfl ?_
    refine v_sp (v := Int32.ofInt 32767) mt_41 rfl rfl ?_
    refine j_and (e := bAnd (bShr (((J 55 0) * 1103515245) + 12345) 16) 32767) mt_41 rfl rfl ?_
    refine v_s mt_41 rfl rfl rfl ?_
    obtain ⟨z2, h⟩ := h
    refine j_rem (e := bRem (bAnd (bShr (((J 55 0) * 1103515245) + 12345) 16) 32767) x1) mt_41 rfl z1 z2 rfl ?_
    refine v_go mt_41 rfl rfl ?_
    exact v_ret mt_41 rfl rfl rfl h
set_option maxHeartbeats 600000 in
theorem b_132_0 {X : Nat × (Nat → Int32)} {d : Nat} {J : Nat → Nat → Int} {sw : Bool × Bool × Bool} {lg : Nat → Nat → Int64} {x : Nat} {K : (Option Value ⊕ Nat) → mM → Prop} {x1 : Int} (hd : 6 ≤ d)
    (h : InR x1 ∧ (x1 < 0 → K (.inr 2) (mj (m_up J 0 18 ((J 0 18) + 1)) sw lg (x + 1))) ∧ (0 ≤ x1 → ((x1 ≤ 1 → (∃ (J1 : Nat → Nat → Int), EE X 5 4 [.ref (bA sw), .ref 41, .ref (vA sw), .ref (lA sw)] (mj J sw lg x) (.inl none) (mj J1 sw lg x) ∧ (¬ x1 = 0 → (∃ (c3 : Int) (J2 : Nat → Nat → Int), EE X 0 6 [.ref (bA sw)] (mj J1 sw lg x) (.inl (some (iv c3))) (mj J2 sw lg x) ∧ K (.inl (some (iv c3))) (mj J2 sw lg x))) ∧ (x1 = 0 → K (.inl (some (iv (J1 (bA sw) 6)))) (mj J1 sw lg x)))) ∧ (1 < x1 → K (.inr 2) (mj (m_up J 0 18 ((J 0 18) + 1)) sw lg (x + 1)))))) : VV X d 132 (0, [some (.ref 0), some (iv x1)], [], mj J sw lg x) K := by
  refine v_s mt_132 rfl rfl rfl ?_
  refine v_s mt_132 rfl rfl rfl ?_
  refine v_ic (v := Int32.ofInt 0) mt_132 rfl rfl ?_
  refine v_ic (v := Int32.ofInt 1) mt_132 rfl rfl ?_
  refine v_inx (L1 := [some (.ref 0), some (iv x1), some (iv 0), some (iv 1)]) mt_132 rfl rfl mt_154 rfl rfl (m_callj (As := [iv x1, iv 0, iv 1]) (rest := []) rfl rfl c_0 rfl (Nat.le_of_ble_eq_true rfl) (Nat.le_of_ble_eq_true rfl)) rfl (by clear h; omega) rfl rfl ?_
  refine v_s mt_154 rfl rfl rfl ?_
  refine v_s mt_154 rfl rfl rfl ?_
  obtain ⟨z1, h⟩ := h
  refine j_if2 mt_154 rfl rfl z1 ⟨by decide, by decide⟩ (fun c => ?_) (fun c => ?_)
  · replace h := h.1 c
    refine v_s mt_154 rfl rfl rfl ?_
    refine v_inx (L1 := [some (.ref 0)]) mt_154 rfl rfl mt_150 rfl rfl (m_callj (As := []) (rest := []) rfl rfl c_0 rfl (Nat.le_of_ble_eq_true rfl) (Nat.le_of_ble_eq_true rfl)) rfl (by clear h; omega) rfl rfl ?_
    refine v_s mt_150 rfl rfl rfl ?_
    refine v_s mt_150 rfl rfl rfl ?_
    refine j_gi (w := J 0 18) 18 mt_150 rfl rfl c_0 (by decide) rfl ?_
    refine v_ic (v := Int32.ofInt 1) mt_150 rfl rfl ?_
    refine j_add (e := (J 0 18) + 1) mt_150 rfl rfl ?_
    refine j_pi 18 mt_150 rfl rfl c_0 (by decide) ?_
    exact v_thr mt_150 rfl rfl (Nat.le_of_ble_eq_true rfl) h
  · replace h := h.2 (Int.not_lt.mp c)
    refine v_s mt_154 rfl rfl rfl ?_
    refine v_s mt_154 rfl rfl rfl ?_
    refine j_if2 mt_154 rfl rfl z1 ⟨by decide, by decide⟩ (fun c => ?_) (fun c => ?_)
    · replace h := h.1 c
      refine v_ret mt_154 rfl rfl rfl ?_
      refine v_s mt_132 rfl rfl rfl ?_
      refine v_gr (w := (bA sw)) 6 mt_132 rfl rfl c_0 (by decide) g_11_6 ?_
      refine v_s mt_132 rfl rfl rfl ?_
      refine v_gr (w := 41) 9 mt_132 rfl rfl c_0 (by decide) g_11_9 ?_
      refine v_s mt_132 rfl rfl rfl ?_
      refine v_gr (w := (vA sw)) 2 mt_132 rfl rfl c_0 (by decide) g_11_2 ?_
      refine v_s mt_132 rfl rfl rfl ?_
      refine v_gr (w := (lA sw)) 4 mt_132 rfl rfl c_0 (by decide) g_11_4 ?_
      obtain ⟨J1, z2, h⟩ := h
      refine v_call (d1 := 5) mt_132 rfl rfl mt_4 rfl rfl (m_callj (As := [.ref 41, .ref (vA sw), .ref (lA sw)]) (rest := []) rfl rfl (cbA sw) rfl (Nat.le_of_ble_eq_true rfl) (Nat.le_of_ble_eq_true rfl)) z2 (by clear h; omega) ?_
      refine v_s mt_132 rfl rfl rfl ?_
      refine j_if1 mt_132 rfl rfl z1 (fun c => ?_) (fun c => ?_)
      · replace h := h.1 c
        refine v_s mt_132 rfl rfl rfl ?_
        refine v_gr (w := (bA sw)) 6 mt_132 rfl rfl c_0 (by decide) g_11_6 ?_
        obtain ⟨c3, J2, z3, h⟩ := h
        refine v_call (d1 := 0) mt_132 rfl rfl mt_6 rfl rfl (m_callj (As := []) (rest := []) rfl rfl (cbA sw) rfl (Nat.le_of_ble_eq_true rfl) (Nat.le_of_ble_eq_true rfl)) z3 (by clear h; omega) ?_
        exact v_ret mt_132 rfl rfl rfl h
      · replace h := h.2 (Decidable.not_not.mp c)
        refine v_s mt_132 rfl rfl rfl ?_
        refine v_gr (w := (bA sw)) 6 mt_132 rfl rfl c_0 (by decide) g_11_6 ?_
        refine j_gi (w := J1 (bA sw) 6) 6 mt_132 rfl rfl (cbA sw) (by decide) rfl ?_
        refine v_go mt_132 rfl rfl ?_
        exact v_ret mt_132 rfl rfl rfl h
    · replace h := h.2 (Int.not_le.mp c)
      refine v_s mt_154 rfl rfl rfl ?_
      refine v_inx (L1 := [some (.ref 0)]) mt_154 rfl rfl mt_150 rfl rfl (m_callj (As := []) (rest := []) rfl rfl c_0 rfl (Nat.le_of_ble_eq_true rfl) (Nat.le_of_ble_eq_true rfl)) rfl (by clear h; omega) rfl rfl ?_
      refine v_s mt_150 rfl rfl rfl ?_
      refine v_s mt_150 rfl rfl rfl ?_
      refine j_gi (w := J 0 18) 18 mt_150 rfl rfl c_0 (by decide) rfl ?_
      refine v_ic (v := Int32.ofInt 1) mt_150 rfl rfl ?_
      refine j_add (e := (J 0 18) + 1) mt_150 rfl rfl ?_
      refine j_pi 18 mt_150 rfl rfl c_0 (by decide) ?_
      exact v_thr mt_150 rfl rfl (Nat.le_of_ble_eq_true rfl) h
set_option maxHeartbeats 600000 in
theorem b_133_0 {X : Nat × (Nat → Int32)} {d : Nat} {J : Nat → Nat → Int} {sw : Bool × Bool × Bool} {lg : Nat → Nat → Int64} {x : Nat} {K : (Option Value ⊕ Nat) → mM → Prop} {x1 : Int} (hd : 6 ≤ d)
    (h : InR x1 ∧ (x1 < 0 → K (.inr 2) (mj (m_up J 0 18 ((J 0 18) + 1)) sw lg (x + 1))) ∧ (0 ≤ x1 → ((x1 ≤ 1 → (∃ (J1 : Nat → Nat → Int), EE X 5 4 [.ref (bA sw), .ref 41, .ref (vA sw), .ref (lA sw)] (mj J sw lg x) (.inl none) (mj J1 sw lg x) ∧ ∃ (J2 : Nat → Nat → Int), EE X 5 7 [.ref (bA sw), .ref 41, .ref (vA sw), .ref (lA sw)] (mj J1 sw lg x) (.inl none) (mj J2 sw lg x) ∧ (¬ x1 = 0 → K (.inl (some (iv (J2 (bA sw) 8)))) (mj J2 sw lg x)) ∧ (x1 = 0 → K (.inl (some (iv (J2 (bA sw) 7)))) (mj J2 sw lg x)))) ∧ (1 < x1 → K (.inr 2) (mj (m_up J 0 18 ((J 0 18) + 1)) sw lg (x + 1)))))) : VV X d 133 (0, [some (.ref 0), some (iv x1)], [], mj J sw lg x) K := by
  refine v_s mt_133 rfl rfl rfl ?_
  refine v_s mt_133 rfl rfl rfl ?_
  refine v_ic (v := Int32.ofInt 0) mt_133 rfl rfl ?_
  refine v_ic (v := Int32.ofInt 1) mt_133 rfl rfl ?_
  refine v_inx (L1 := [some (.ref 0), some (iv x1), some (iv 0), some (iv 1)]) mt_133 rfl rfl mt_154 rfl rfl (m_callj (As := [iv x1, iv 0, iv 1]) (rest := []) rfl rfl c_0 rfl (Nat.le_of_ble_eq_true rfl) (Nat.le_of_ble_eq_true rfl)) rfl (by clear h; omega) rfl rfl ?_
  refine v_s mt_154 rfl rfl rfl ?_
  refine v_s mt_154 rfl rfl rfl ?_
  obtain ⟨z1, h⟩ := h
  refine j_if2 mt_154 rfl rfl z1 ⟨by decide, by decide⟩ (fun c => ?_) (fun c => ?_)
  · replace h := h.1 c
    refine v_s mt_154 rfl rfl rfl ?_
    refine v_inx (L1 := [some (.ref 0)]) mt_154 rfl rfl mt_150 rfl rfl (m_callj (As := []) (rest := []) rfl rfl c_0 rfl (Nat.le_of_ble_eq_true rfl) (Nat.le_of_ble_eq_true rfl)) rfl (by clear h; omega) rfl rfl ?_
    refine v_s mt_150 rfl rfl rfl ?_
    refine v_s mt_150 rfl rfl rfl ?_
    refine j_gi (w := J 0 18) 18 mt_150 rfl rfl c_0 (by decide) rfl ?_
    refine v_ic (v := Int32.ofInt 1) mt_150 rfl rfl ?_
    refine j_add (e := (J 0 18) + 1) mt_150 rfl rfl ?_
    refine j_pi 18 mt_150 rfl rfl c_0 (by decide) ?_
    exact v_thr mt_150 rfl rfl (Nat.le_of_ble_eq_true rfl) h
  · replace h := h.2 (Int.not_lt.mp c)
    refine v_s mt_154 rfl rfl rfl ?_
    refine v_s mt_154 rfl rfl rfl ?_
    refine j_if2 mt_154 rfl rfl z1 ⟨by decide, by decide⟩ (fun c => ?_) (fun c => ?_)
    · replace h := h.1 c
      refine v_ret mt_154 rfl rfl rfl ?_
      refine v_s mt_133 rfl rfl rfl ?_
      refine v_gr (w := (bA sw)) 6 mt_133 rfl rfl c_0 (by decide) g_11_6 ?_
      refine v_s mt_133 rfl rfl rfl ?_
      refine v_gr (w := 41) 9 mt_133 rfl rfl c_0 (by decide) g_11_9 ?_
      refine v_s mt_133 rfl rfl rfl ?_
      refine v_gr (w := (vA sw)) 2 mt_133 rfl rfl c_0 (by decide) g_11_2 ?_
      refine v_s mt_133 rfl rfl rfl ?_
      refine v_gr (w := (lA sw)) 4 mt_133 rfl rfl c_0 (by decide) g_11_4 ?_
      obtain ⟨J1, z2, h⟩ := h
      refine v_call (d1 := 5) mt_133 rfl rfl mt_4 rfl rfl (m_callj (As := [.ref 41, .ref (vA sw), .ref (lA sw)]) (rest := []) rfl rfl (cbA sw) rfl (Nat.le_of_ble_eq_true rfl) (Nat.le_of_ble_eq_true rfl)) z2 (by clear h; omega) ?_
      refine v_s mt_133 rfl rfl rfl ?_
      refine v_gr (w := (bA sw)) 6 mt_133 rfl rfl c_0 (by decide) g_11_6 ?_
      refine v_s mt_133 rfl rfl rfl ?_
      refine v_gr (w := 41) 9 mt_133 rfl rfl c_0 (by decide) g_11_9 ?_
      refine v_s mt_133 rfl rfl rfl ?_
      refine v_gr (w := (vA sw)) 2 mt_133 rfl rfl c_0 (by decide) g_11_2 ?_
      refine v_s mt_133 rfl rfl rfl ?_
      refine v_gr (w := (lA sw)) 4 mt_133 rfl rfl c_0 (by decide) g_11_4 ?_
      obtain ⟨J2, z3, h⟩ := h
      refine v_call (d1 := 5) mt_133 rfl rfl mt_7 rfl rfl (m_callj (As := [.ref 41, .ref (vA sw), .ref (lA sw)]) (rest := []) rfl rfl (cbA sw) rfl (Nat.le_of_ble_eq_true rfl) (Nat.le_of_ble_eq_true rfl)) z3 (by clear h; omega) ?_
      refine v_s mt_133 rfl rfl rfl ?_
      refine j_if1 mt_133 rfl rfl z1 (fun c => ?_) (fun c => ?_)
      · replace h := h.1 c
        refine v_s mt_133 rfl rfl rfl ?_
        refine v_gr (w := (bA sw)) 6 mt_133 rfl rfl c_0 (by decide) g_11_6 ?_
        refine j_gi (w := J2 (bA sw) 8) 8 mt_133 rfl rfl (cbA sw) (by decide) rfl ?_
        exact v_ret mt_133 rfl rfl rfl h
      · replace h := h.2 (Decidable.not_not.mp c)
        refine v_s mt_133 rfl rfl rfl ?_
        refine v_gr (w := (bA sw)) 6 mt_133 rfl rfl c_0 (by decide) g_11_6 ?_
        refine j_gi (w := J2 (bA sw) 7) 7 mt_133 rfl rfl (cbA sw) (by decide) rfl ?_
        refine v_go mt_133 rfl rfl ?_
        exact v_ret mt_133 rfl rfl rfl h
    · replace h := h.2 (Int.not_le.mp c)
      refine v_s mt_154 rfl rfl rfl ?_
      refine v_inx (L1 := [some (.ref 0)]) mt_154 rfl rfl mt_150 rfl rfl (m_callj (As := []) (rest := []) rfl rfl c_0 rfl (Nat.le_of_ble_eq_true rfl) (Nat.le_of_ble_eq_true rfl)) rfl (by clear h; omega) rfl rfl ?_
      refine v_s mt_150 rfl rfl rfl ?_
      refine v_s mt_150 rfl rfl rfl ?_
      refine j_gi (w := J 0 18) 18 mt_150 rfl rfl c_0 (by decide) rfl ?_
      refine v_ic (v := Int32.ofInt 1) mt_150 rfl rfl ?_
      refine j_add (e := (J 0 18) + 1) mt_150 rfl rfl ?_
      refine j_pi 18 mt_150 rfl rfl c_0 (by decide) ?_
      exact v_thr mt_150 rfl rfl (Nat.le_of_ble_eq_true rfl) h
set_option maxHeartbeats 600000 in
theorem b_134_0 {X : Nat × (Nat → Int32)} {d : Nat} {J : Nat → Nat → Int} {sw : Bool × Bool × Bool} {lg : Nat → Nat → Int64} {x : Nat} {K : (Option Value ⊕ Nat) → mM → Prop} {x1 x2 x3 : Int} {o4 o5 o6 o7 o8 : Option Value} (hd : 2 ≤ d)
    (h : InR x1 ∧ (x1 < 1 → K (.inr 2) (mj (m_up J 0 18 ((J 0 18) + 1)) sw lg (x + 1))) ∧ (1 ≤ x1 → ((x1 ≤ 12 → (InR x2 ∧ (x2 < 0 → K (.inr 2) (mj (m_up J 0 18 ((J 0 18) + 1)) sw lg (x + 1))) ∧ (0 ≤ x2 → ((x2 ≤ 16 → (InR x3 ∧ (x3 < 0 → K (.inr 2) (mj (m_up J 0 18 ((J 0 18) + 1)) sw lg (x + 1))) ∧ (0 ≤ x3 → ((x3 ≤ 1 → VV X d 134 (35, [some (.ref 0), some (iv x1), some (iv x2), some (iv x3), some (.long ((Int32.ofInt x2).toInt64)), none, some (.long (Int64.ofNat 16)), none, some (iv 1)], [], mj J sw lg x) K) ∧ (1 < x3 → K (.inr 2) (mj (m_up J 0 18 ((J 0 18) + 1)) sw lg (x + 1))))))) ∧ (16 < x2 → K (.inr 2) (mj (m_up J 0 18 ((J 0 18) + 1)) sw lg (x + 1))))))) ∧ (12 < x1 → K (.inr 2) (mj (m_up J 0 18 ((J 0 18) + 1)) sw lg (x + 1)))))) : VV X d 134 (0, [some (.ref 0), some (iv x1), some (iv x2), some (iv x3), o4, o5, o6, o7, o8], [], mj J sw lg x) K := by
  refine v_s mt_134 rfl rfl rfl ?_
  refine v_s mt_134 rfl rfl rfl ?_
  refine v_ic (v := Int32.ofInt 1) mt_134 rfl rfl ?_
  refine v_bp (v := Int32.ofInt 12) mt_134 rfl rfl ?_
  refine v_inx (L1 := [some (.ref 0), some (iv x1), some (iv 1), some (iv 12)]) mt_134 rfl rfl mt_154 rfl rfl (m_callj (As := [iv x1, iv 1, iv 12]) (rest := []) rfl rfl c_0 rfl (Nat.le_of_ble_eq_true rfl) (Nat.le_of_ble_eq_true rfl)) rfl (by clear h; omega) rfl rfl ?_
  refine v_s mt_154 rfl rfl rfl ?_
  refine v_s mt_154 rfl rfl rfl ?_
  obtain ⟨z1, h⟩ := h
  refine j_if2 mt_154 rfl rfl z1 ⟨by decide, by decide⟩ (fun c => ?_) (fun c => ?_)
  · replace h := h.1 c
    refine v_s mt_154 rfl rfl rfl ?_
    refine v_inx (L1 := [some (.ref 0)]) mt_154 rfl rfl mt_150 rfl rfl (m_callj (As := []) (rest := []) rfl rfl c_0 rfl (Nat.le_of_ble_eq_true rfl) (Nat.le_of_ble_eq_true rfl)) rfl (by clear h; omega) rfl rfl ?_
    refine v_s mt_150 rfl rfl rfl ?_
    refine v_s mt_150 rfl rfl rfl ?_
    refine j_gi (w := J 0 18) 18 mt_150 rfl rfl c_0 (by decide) rfl ?_
    refine v_ic (v := Int32.ofInt 1) mt_150 rfl rfl ?_
    refine j_add (e := (J 0 18) + 1) mt_150 rfl rfl ?_
    refine j_pi 18 mt_150 rfl rfl c_0 (by decide) ?_
    exact v_thr mt_150 rfl rfl (Nat.le_of_ble_eq_true rfl) h
  · replace h := h.2 (Int.not_lt.mp c)
    refine v_s mt_154 rfl rfl rfl ?_
    refine v_s mt_154 rfl rfl rfl ?_
    refine j_if2 mt_154 rfl rfl z1 ⟨by decide, by decide⟩ (fun c => ?_) (fun c => ?_)
    · replace h := h.1 c
      refine v_ret mt_154 rfl rfl rfl ?_
      refine v_s mt_134 rfl rfl rfl ?_
      refine v_s mt_134 rfl rfl rfl ?_
      refine v_ic (v := Int32.ofInt 0) mt_134 rfl rfl ?_
      refine v_bp (v := Int32.ofInt 16) mt_134 rfl rfl ?_
      refine v_inx (L1 := [some (.ref 0), some (iv x2), some (iv 0), some (iv 16)]) mt_134 rfl rfl mt_154 rfl rfl (m_callj (As := [iv x2, iv 0, iv 16]) (rest := []) rfl rfl c_0 rfl (Nat.le_of_ble_eq_true rfl) (Nat.le_of_ble_eq_true rfl)) rfl (by clear h; omega) rfl rfl ?_
      refine v_s mt_154 rfl rfl rfl ?_
      refine v_s mt_154 rfl rfl rfl ?_
      obtain ⟨z2, h⟩ := h
      refine j_if2 mt_154 rfl rfl z2 ⟨by decide, by decide⟩ (fun c => ?_) (fun c => ?_)
      · replace h := h.1 c
        refine v_s mt_154 rfl rfl rfl ?_
        refine v_inx (L1 := [some (.ref 0)]) mt_154 rfl rfl mt_150 rfl rfl (m_callj (As := []) (rest := []) rfl rfl c_0 rfl (Nat.le_of_ble_eq_true rfl) (Nat.le_of_ble_eq_true rfl)) rfl (by clear h; omega) rfl rfl ?_
        refine v_s mt_150 rfl rfl rfl ?_
        refine v_s mt_150 rfl rfl rfl ?_
        refine j_gi (w := J 0 18) 18 mt_150 rfl rfl c_0 (by decide) rfl ?_
        refine v_ic (v := Int32.ofInt 1) mt_150 rfl rfl ?_
        refine j_add (e := (J 0 18) + 1) mt_150 rfl rfl ?_
        refine j_pi 18 mt_150 rfl rfl c_0 (by decide) ?_
        exact v_thr mt_150 rfl rfl (Nat.le_of_ble_eq_true rfl) h
      · replace h := h.2 (Int.not_lt.mp c)
        refine v_s mt_154 rfl rfl rfl ?_
        refine v_s mt_154 rfl rfl rfl ?_
        refine j_if2 mt_154 rfl rfl z2 ⟨by decide, by decide⟩ (fun c => ?_) (fun c => ?_)
        · replace h := h.1 c
          refine v_ret mt_154 rfl rfl rfl ?_
          refine v_s mt_134 rfl rfl rfl ?_
          refine v_s mt_134 rfl rfl rfl ?_
          refine v_ic (v := Int32.ofInt 0) mt_134 rfl rfl ?_
          refine v_ic (v := Int32.ofInt 1) mt_134 rfl rfl ?_
          refine v_inx (L1 := [some (.ref 0), some (iv x3), some (iv 0), some (iv 1)]) mt_134 rfl rfl mt_154 rfl rfl (m_callj (As := [iv x3, iv 0, iv 1]) (rest := []) rfl rfl c_0 rfl (Nat.le_of_ble_eq_true rfl) (Nat.le_of_ble_eq_true rfl)) rfl (by clear h; omega) rfl rfl ?_
          refine v_s mt_154 rfl rfl rfl ?_
          refine v_s mt_154 rfl rfl rfl ?_
          obtain ⟨z3, h⟩ := h
          refine j_if2 mt_154 rfl rfl z3 ⟨by decide, by decide⟩ (fun c => ?_) (fun c => ?_)
          · replace h := h.1 c
            refine v_s mt_154 rfl rfl rfl ?_
            refine v_inx (L1 := [some (.ref 0)]) mt_154 rfl rfl mt_150 rfl rfl (m_callj (As := []) (rest := []) rfl rfl c_0 rfl (Nat.le_of_ble_eq_true rfl) (Nat.le_of_ble_eq_true rfl)) rfl (by clear h; omega) rfl rfl ?_
            refine v_s mt_150 rfl rfl rfl ?_
            refine v_s mt_150 rfl rfl rfl ?_
            refine j_gi (w := J 0 18) 18 mt_150 rfl rfl c_0 (by decide) rfl ?_
            refine v_ic (v := Int32.ofInt 1) mt_150 rfl rfl ?_
            refine j_add (e := (J 0 18) + 1) mt_150 rfl rfl ?_
            refine j_pi 18 mt_150 rfl rfl c_0 (by decide) ?_
            exact v_thr mt_150 rfl rfl (Nat.le_of_ble_eq_true rfl) h
          · replace h := h.2 (Int.not_lt.mp c)
            refine v_s mt_154 rfl rfl rfl ?_
            refine v_s mt_154 rfl rfl rfl ?_
            refine j_if2 mt_154 rfl rfl z3 ⟨by decide, by decide⟩ (fun c => ?_) (fun c => ?_)
            · replace h := h.1 c
              refine v_ret mt_154 rfl rfl rfl ?_
              refine v_s mt_134 rfl rfl rfl ?_
              refine v_s mt_134 rfl rfl rfl ?_
              refine v_lst (L' := [some (.ref 0), some (iv x1), some (iv x2), some (iv x3), some (.long ((Int32.ofInt x2).toInt64)), none, o6, o7, o8]) mt_134 rfl (Nat.le_of_ble_eq_true rfl) rfl ?_
              refine v_s mt_134 rfl rfl rfl ?_
              refine v_lst (L' := [some (.ref 0), some (iv x1), some (iv x2), some (iv x3), some (.long ((Int32.ofInt x2).toInt64)), none, some (.long (Int64.ofNat 16)), none, o8]) mt_134 rfl (Nat.le_of_ble_eq_true rfl) rfl ?_
              refine v_ic (v := Int32.ofInt 1) mt_134 rfl rfl ?_
              refine v_is (L' := [some (.ref 0), some (iv x1), some (iv x2), some (iv x3), some (.long ((Int32.ofInt x2).toInt64)), none, some (.long (Int64.ofNat 16)), none, some (iv 1)]) mt_134 rfl (Nat.le_of_ble_eq_true rfl) rfl ?_
              exact h
            · replace h := h.2 (Int.not_le.mp c)
              refine v_s mt_154 rfl rfl rfl ?_
              refine v_inx (L1 := [some (.ref 0)]) mt_154 rfl rfl mt_150 rfl rfl (m_callj (As := []) (rest := []) rfl rfl c_0 rfl (Nat.le_of_ble_eq_true rfl) (Nat.le_of_ble_eq_true rfl)) rfl (by clear h; omega) rfl rfl ?_
              refine v_s mt_150 rfl rfl rfl ?_
              refine v_s mt_150 rfl rfl rfl ?_
              refine j_gi (w := J 0 18) 18 mt_150 rfl rfl c_0 (by decide) rfl ?_
              refine v_ic (v := Int32.ofInt 1) mt_150 rfl rfl ?_
              refine j_add (e := (J 0 18) + 1) mt_150 rfl rfl ?_
              refine j_pi 18 mt_150 rfl rfl c_0 (by decide) ?_
              exact v_thr mt_150 rfl rfl (Nat.le_of_ble_eq_true rfl) h
        · replace h := h.2 (Int.not_le.mp c)
          refine v_s mt_154 rfl rfl rfl ?_
          refine v_inx (L1 := [some (.ref 0)]) mt_154 rfl rfl mt_150 rfl rfl (m_callj (As := []) (rest := []) rfl rfl c_0 rfl (Nat.le_of_ble_eq_true rfl) (Nat.le_of_ble_eq_true rfl)) rfl (by clear h; omega) rfl rfl ?_
          refine v_s mt_150 rfl rfl rfl ?_
          refine v_s mt_150 rfl rfl rfl ?_
          refine j_gi (w := J 0 18) 18 mt_150 rfl rfl c_0 (by decide) rfl ?_
          refine v_ic (v := Int32.ofInt 1) mt_150 rfl rfl ?_
          refine j_add (e := (J 0 18) + 1) mt_150 rfl rfl ?_
          refine j_pi 18 mt_150 rfl rfl c_0 (by decide) ?_
          exact v_thr mt_150 rfl rfl (Nat.le_of_ble_eq_true rfl) h
    · replace h := h.2 (Int.not_le.mp c)
      refine v_s mt_154 rfl rfl rfl ?_
      refine v_inx (L1 := [some (.ref 0)]) mt_154 rfl rfl mt_150 rfl rfl (m_callj (As := []) (rest := []) rfl rfl c_0 rfl (Nat.le_of_ble_eq_true rfl) (Nat.le_of_ble_eq_true rfl)) rfl (by clear h; omega) rfl rfl ?_
      refine v_s mt_150 rfl rfl rfl ?_
      refine v_s mt_150 rfl rfl rfl ?_
      refine j_gi (w := J 0 18) 18 mt_150 rfl rfl c_0 (by decide) rfl ?_
      refine v_ic (v := Int32.ofInt 1) mt_150 rfl rfl ?_
      refine j_add (e := (J 0 18) + 1) mt_150 rfl rfl ?_
      refine j_pi 18 mt_150 rfl rfl c_0 (by decide) ?_
      exact v_thr mt_150 rfl rfl (Nat.le_of_ble_eq_true rfl) h
set_option maxHeartbeats 600000 in
theorem b_134_35 {X : Nat × (Nat → Int32)} {d : Nat} {J : Nat → Nat → Int} {sw : Bool × Bool × Bool} {lg : Nat → Nat → Int64} {x : Nat} {K : (Option Value ⊕ Nat) → mM → Prop} {x1 x2 x3 x8 : Int} {l4 l6 : Int64} {o0 : Option Value} (hd : 2 ≤ d)
    (h : InR x8 ∧ InR x1 ∧ (x1 ≤ x8 → VV X d 134 (68, [o0, some (iv x1), some (iv x2), some (iv x3), some (.long l4), none, some (.long l6), none, some (iv 0)], [], mj J sw lg x) K) ∧ (x8 < x1 → VV X d 134 (35, [o0, some (iv x1), some (iv x2), some (iv x3), some (.long (l4 * ((Int32.ofInt (16 - x2)).toInt64))), none, some (.long (l6 * (Int64.ofNat 16))), none, some (iv (x8 + 1))], [], mj J sw lg x) K)) : VV X d 134 (35, [o0, some (iv x1), some (iv x2), some (iv x3), some (.long l4), none, some (.long l6), none, some (iv x8)], [], mj J sw lg x) K := by
  refine v_s mt_134 rfl rfl rfl ?_
  refine v_s mt_134 rfl rfl rfl ?_
  obtain ⟨z1, h⟩ := h
  obtain ⟨z2, h⟩ := h
  refine j_if2 mt_134 rfl rfl z1 z2 (fun c => ?_) (fun c => ?_)
  · replace h := h.1 c
    refine v_ic (v := Int32.ofInt 0) mt_134 rfl rfl ?_
    refine v_is (L' := [o0, some (iv x1), some (iv x2), some (iv x3), some (.long l4), none, some (.long l6), none, some (iv 0)]) mt_134 rfl (Nat.le_of_ble_eq_true rfl) rfl ?_
    exact h
  · replace h := h.2 (Int.not_le.mp c)
    refine v_s mt_134 rfl rfl rfl ?_
    refine v_bp (v := Int32.ofInt 16) mt_134 rfl rfl ?_
    refine v_s mt_134 rfl rfl rfl ?_
    refine j_sub (e := 16 - x2) mt_134 rfl rfl ?_
    refine v_s mt_134 rfl rfl rfl ?_
    refine v_s mt_134 rfl rfl rfl ?_
    refine v_lst (L' := [o0, some (iv x1), some (iv x2), some (iv x3), some (.long (l4 * ((Int32.ofInt (16 - x2)).toInt64))), none, some (.long l6), none, some (iv x8)]) mt_134 rfl (Nat.le_of_ble_eq_true rfl) rfl ?_
    refine v_s mt_134 rfl rfl rfl ?_
    refine v_s mt_134 rfl rfl rfl ?_
    refine v_s mt_134 rfl rfl rfl ?_
    refine v_lst (L' := [o0, some (iv x1), some (iv x2), some (iv x3), some (.long (l4 * ((Int32.ofInt (16 - x2)).toInt64))), none, some (.long (l6 * (Int64.ofNat 16))), none, some (iv x8)]) mt_134 rfl (Nat.le_of_ble_eq_true rfl) rfl ?_
    refine j_inc (e := x8 + 1) (L' := [o0, some (iv x1), some (iv x2), some (iv x3), some (.long (l4 * ((Int32.ofInt (16 - x2)).toInt64))), none, some (.long (l6 * (Int64.ofNat 16))), none, some (iv (x8 + 1))]) mt_134 rfl rfl (Nat.le_of_ble_eq_true rfl) rfl rfl ?_
    refine v_go mt_134 rfl rfl ?_
    exact h
set_option maxHeartbeats 600000 in
theorem b_134_68 {X : Nat × (Nat → Int32)} {d : Nat} {J : Nat → Nat → Int} {sw : Bool × Bool × Bool} {lg : Nat → Nat → Int64} {x : Nat} {K : (Option Value ⊕ Nat) → mM → Prop} {x1 x2 x3 x8 : Int} {l4 l6 : Int64} {o0 : Option Value} (hd : 2 ≤ d)
    (h : InR x8 ∧ InR (4 * x1) ∧ (4 * x1 ≤ x8 → (InR x3 ∧ (¬ x3 = 0 → K (.inl (some (.long l6))) (mj J sw lg x)) ∧ (x3 = 0 → K (.inl (some (.long l4))) (mj J sw lg x)))) ∧ (x8 < 4 * x1 → ((¬ lcI (l4 - l4 / (Int64.ofNat 2) * (Int64.ofNat 2)) (Int64.ofNat 0) = 0 → (InR x3 ∧ (¬ x3 = 0 → K (.inl (some (.long l6))) (mj J sw lg x)) ∧ (x3 = 0 → K (.inl (some (.long l4))) (mj J sw lg x)))) ∧ (lcI (l4 - l4 / (Int64.ofNat 2) * (Int64.ofNat 2)) (Int64.ofNat 0) = 0 → ((lcI l6 (Int64.ofNat 1) ≤ 0 → (InR x3 ∧ (¬ x3 = 0 → K (.inl (some (.long l6))) (mj J sw lg x)) ∧ (x3 = 0 → K (.inl (some (.long l4))) (mj J sw lg x)))) ∧ (0 < lcI l6 (Int64.ofNat 1) → VV X d 134 (68, [o0, some (iv x1), some (iv x2), some (iv x3), some (.long (l4 / (Int64.ofNat 2))), none, some (.long (l6 / (Int64.ofNat 2))), none, some (iv (x8 + 1))], [], mj J sw lg x) K)))))) : VV X d 134 (68, [o0, some (iv x1), some (iv x2), some (iv x3), some (.long l4), none, some (.long l6), none, some (iv x8)], [], mj J sw lg x) K := by
  refine v_s mt_134 rfl rfl rfl ?_
  refine v_ic (v := Int32.ofInt 4) mt_134 rfl rfl ?_
  refine v_s mt_134 rfl rfl rfl ?_
  refine j_mul (e := 4 * x1) mt_134 rfl rfl ?_
  obtain ⟨z1, h⟩ := h
  obtain ⟨z2, h⟩ := h
  refine j_if2 mt_134 rfl rfl z1 z2 (fun c => ?_) (fun c => ?_)
  · replace h := h.1 c
    refine v_s mt_134 rfl rfl rfl ?_
    obtain ⟨z3, h⟩ := h
    refine j_if1 mt_134 rfl rfl z3 (fun c => ?_) (fun c => ?_)
    · replace h := h.1 c
      refine v_s mt_134 rfl rfl rfl ?_
      exact v_ret mt_134 rfl rfl rfl h
    · replace h := h.2 (Decidable.not_not.mp c)
      refine v_s mt_134 rfl rfl rfl ?_
      refine v_go mt_134 rfl rfl ?_
      exact v_ret mt_134 rfl rfl rfl h
  · replace h := h.2 (Int.not_le.mp c)
    refine v_s mt_134 rfl rfl rfl ?_
    refine v_s mt_134 rfl rfl rfl ?_
    refine j_lrm mt_134 rfl (by decide) ?_
    refine v_s mt_134 rfl rfl rfl ?_
    refine j_lcmp mt_134 rfl ?_
    refine j_if1 mt_134 rfl rfl (inT _) (fun c => ?_) (fun c => ?_)
    · replace h := h.1 c
      refine v_s mt_134 rfl rfl rfl ?_
      obtain ⟨z4, h⟩ := h
      refine j_if1 mt_134 rfl rfl z4 (fun c => ?_) (fun c => ?_)
      · replace h := h.1 c
        refine v_s mt_134 rfl rfl rfl ?_
        exact v_ret mt_134 rfl rfl rfl h
      · replace h := h.2 (Decidable.not_not.mp c)
        refine v_s mt_134 rfl rfl rfl ?_
        refine v_go mt_134 rfl rfl ?_
        exact v_ret mt_134 rfl rfl rfl h
    · replace h := h.2 (Decidable.not_not.mp c)
      refine v_s mt_134 rfl rfl rfl ?_
      refine v_s mt_134 rfl rfl rfl ?_
      refine j_lcmp mt_134 rfl ?_
      refine j_if1 mt_134 rfl rfl (inT _) (fun c => ?_) (fun c => ?_)
      · replace h := h.1 c
        refine v_s mt_134 rfl rfl rfl ?_
        obtain ⟨z5, h⟩ := h
        refine j_if1 mt_134 rfl rfl z5 (fun c => ?_) (fun c => ?_)
        · replace h := h.1 c
          refine v_s mt_134 rfl rfl rfl ?_
          exact v_ret mt_134 rfl rfl rfl h
        · replace h := h.2 (Decidable.not_not.mp c)
          refine v_s mt_134 rfl rfl rfl ?_
          refine v_go mt_134 rfl rfl ?_
          exact v_ret mt_134 rfl rfl rfl h
      · replace h := h.2 (Int.not_le.mp c)
        refine v_s mt_134 rfl rfl rfl ?_
        refine v_s mt_134 rfl rfl rfl ?_
        refine j_ldv mt_134 rfl (by decide) ?_
        refine v_lst (L' := [o0, some (iv x1), some (iv x2), some (iv x3), some (.long (l4 / (Int64.ofNat 2))), none, some (.long l6), none, some (iv x8)]) mt_134 rfl (Nat.le_of_ble_eq_true rfl) rfl ?_
        refine v_s mt_134 rfl rfl rfl ?_
        refine v_s mt_134 rfl rfl rfl ?_
        refine j_ldv mt_134 rfl (by decide) ?_
        refine v_lst (L' := [o0, some (iv x1), some (iv x2), some (iv x3), some (.long (l4 / (Int64.ofNat 2))), none, some (.long (l6 / (Int64.ofNat 2))), none, some (iv x8)]) mt_134 rfl (Nat.le_of_ble_eq_true rfl) rfl ?_
        refine j_inc (e := x8 + 1) (L' := [o0, some (iv x1), some (iv x2), some (iv x3), some (.long (l4 / (Int64.ofNat 2))), none, some (.long (l6 / (Int64.ofNat 2))), none, some (iv (x8 + 1))]) mt_134 rfl rfl (Nat.le_of_ble_eq_true rfl) rfl rfl ?_
        refine v_go mt_134 rfl rfl ?_
        exact h
set_option maxHeartbeats 600000 in
theorem b_135_0 {X : Nat × (Nat → Int32)} {d : Nat} {J : Nat → Nat → Int} {sw : Bool × Bool × Bool} {lg : Nat → Nat → Int64} {x : Nat} {K : (Option Value ⊕ Nat) → mM → Prop} {x1 x2 x3 : Int} {o4 o5 o6 o7 o8 o9 : Option Value} (hd : 2 ≤ d)
    (h : InR x1 ∧ (x1 < 0 → K (.inr 2) (mj (m_up J 0 18 ((J 0 18) + 1)) sw lg (x + 1))) ∧ (0 ≤ x1 → ((x1 ≤ 99 → (InR x2 ∧ (x2 < 0 → K (.inr 2) (mj (m_up J 0 18 ((J 0 18) + 1)) sw lg (x + 1))) ∧ (0 ≤ x2 → ((x2 ≤ 99 → (InR x3 ∧ (x3 < 0 → K (.inr 2) (mj (m_up J 0 18 ((J 0 18) + 1)) sw lg (x + 1))) ∧ (0 ≤ x3 → ((x3 ≤ 2 → VV X d 135 (35, [some (.ref 0), some (iv x1), some (iv x2), some (iv x3), some (iv 0), some (iv (-1)), some (iv 0), some (iv 0), o8, o9], [], mj J sw lg x) K) ∧ (2 < x3 → K (.inr 2) (mj (m_up J 0 18 ((J 0 18) + 1)) sw lg (x + 1))))))) ∧ (99 < x2 → K (.inr 2) (mj (m_up J 0 18 ((J 0 18) + 1)) sw lg (x + 1))))))) ∧ (99 < x1 → K (.inr 2) (mj (m_up J 0 18 ((J 0 18) + 1)) sw lg (x + 1)))))) : VV X d 135 (0, [some (.ref 0), some (iv x1), some (iv x2), some (iv x3), o4, o5, o6, o7, o8, o9], [], mj J sw lg x) K := by
  refine v_s mt_135 rfl rfl rfl ?_
  refine v_s mt_135 rfl rfl rfl ?_
  refine v_ic (v := Int32.ofInt 0) mt_135 rfl rfl ?_
  refine v_bp (v := Int32.ofInt 99) mt_135 rfl rfl ?_
  refine v_inx (L1 := [some (.ref 0), some (iv x1), some (iv 0), some (iv 99)]) mt_135 rfl rfl mt_154 rfl rfl (m_callj (As := [iv x1, iv 0, iv 99]) (rest := []) rfl rfl c_0 rfl (Nat.le_of_ble_eq_true rfl) (Nat.le_of_ble_eq_true rfl)) rfl (by clear h; omega) rfl rfl ?_
  refine v_s mt_154 rfl rfl rfl ?_
  refine v_s mt_154 rfl rfl rfl ?_
  obtain ⟨z1, h⟩ := h
  refine j_if2 mt_154 rfl rfl z1 ⟨by decide, by decide⟩ (fun c => ?_) (fun c => ?_)
  · replace h := h.1 c
    refine v_s mt_154 rfl rfl rfl ?_
    refine v_inx (L1 := [some (.ref 0)]) mt_154 rfl rfl mt_150 rfl rfl (m_callj (As := []) (rest := []) rfl rfl c_0 rfl (Nat.le_of_ble_eq_true rfl) (Nat.le_of_ble_eq_true rfl)) rfl (by clear h; omega) rfl rfl ?_
    refine v_s mt_150 rfl rfl rfl ?_
    refine v_s mt_150 rfl rfl rfl ?_
    refine j_gi (w := J 0 18) 18 mt_150 rfl rfl c_0 (by decide) rfl ?_
    refine v_ic (v := Int32.ofInt 1) mt_150 rfl rfl ?_
    refine j_add (e := (J 0 18) + 1) mt_150 rfl rfl ?_
    refine j_pi 18 mt_150 rfl rfl c_0 (by decide) ?_
    exact v_thr mt_150 rfl rfl (Nat.le_of_ble_eq_true rfl) h
  · replace h := h.2 (Int.not_lt.mp c)
    refine v_s mt_154 rfl rfl rfl ?_
    refine v_s mt_154 rfl rfl rfl ?_
    refine j_if2 mt_154 rfl rfl z1 ⟨by decide, by decide⟩ (fun c => ?_) (fun c => ?_)
    · replace h := h.1 c
      refine v_ret mt_154 rfl rfl rfl ?_
      refine v_s mt_135 rfl rfl rfl ?_
      refine v_s mt_135 rfl rfl rfl ?_
      refine v_ic (v := Int32.ofInt 0) mt_135 rfl rfl ?_
      refine v_bp (v := Int32.ofInt 99) mt_135 rfl rfl ?_
      refine v_inx (L1 := [some (.ref 0), some (iv x2), some (iv 0), some (iv 99)]) mt_135 rfl rfl mt_154 rfl rfl (m_callj (As := [iv x2, iv 0, iv 99]) (rest := []) rfl rfl c_0 rfl (Nat.le_of_ble_eq_true rfl) (Nat.le_of_ble_eq_true rfl)) rfl (by clear h; omega) rfl rfl ?_
      refine v_s mt_154 rfl rfl rfl ?_
      refine v_s mt_154 rfl rfl rfl ?_
      obtain ⟨z2, h⟩ := h
      refine j_if2 mt_154 rfl rfl z2 ⟨by decide, by decide⟩ (fun c => ?_) (fun c => ?_)
      · replace h := h.1 c
        refine v_s mt_154 rfl rfl rfl ?_
        refine v_inx (L1 := [some (.ref 0)]) mt_154 rfl rfl mt_150 rfl rfl (m_callj (As := []) (rest := []) rfl rfl c_0 rfl (Nat.le_of_ble_eq_true rfl) (Nat.le_of_ble_eq_true rfl)) rfl (by clear h; omega) rfl rfl ?_
        refine v_s mt_150 rfl rfl rfl ?_
        refine v_s mt_150 rfl rfl rfl ?_
        refine j_gi (w := J 0 18) 18 mt_150 rfl rfl c_0 (by decide) rfl ?_
        refine v_ic (v := Int32.ofInt 1) mt_150 rfl rfl ?_
        refine j_add (e := (J 0 18) + 1) mt_150 rfl rfl ?_
        refine j_pi 18 mt_150 rfl rfl c_0 (by decide) ?_
        exact v_thr mt_150 rfl rfl (Nat.le_of_ble_eq_true rfl) h
      · replace h := h.2 (Int.not_lt.mp c)
        refine v_s mt_154 rfl rfl rfl ?_
        refine v_s mt_154 rfl rfl rfl ?_
        refine j_if2 mt_154 rfl rfl z2 ⟨by decide, by decide⟩ (fun c => ?_) (fun c => ?_)
        · replace h := h.1 c
          refine v_ret mt_154 rfl rfl rfl ?_
          refine v_s mt_135 rfl rfl rfl ?_
          refine v_s mt_135 rfl rfl rfl ?_
          refine v_ic (v := Int32.ofInt 0) mt_135 rfl rfl ?_
          refine v_ic (v := Int32.ofInt 2) mt_135 rfl rfl ?_
          refine v_inx (L1 := [some (.ref 0), some (iv x3), some (iv 0), some (iv 2)]) mt_135 rfl rfl mt_154 rfl rfl (m_callj (As := [iv x3, iv 0, iv 2]) (rest := []) rfl rfl c_0 rfl (Nat.le_of_ble_eq_true rfl) (Nat.le_of_ble_eq_true rfl)) rfl (by clear h; omega) rfl rfl ?_
          refine v_s mt_154 rfl rfl rfl ?_
          refine v_s mt_154 rfl rfl rfl ?_
          obtain ⟨z3, h⟩ := h
          refine j_if2 mt_154 rfl rfl z3 ⟨by decide, by decide⟩ (fun c => ?_) (fun c => ?_)
          · replace h := h.1 c
            refine v_s mt_154 rfl rfl rfl ?_
            refine v_inx (L1 := [some (.ref 0)]) mt_154 rfl rfl mt_150 rfl rfl (m_callj (As := []) (rest := []) rfl rfl c_0 rfl (Nat.le_of_ble_eq_true rfl) (Nat.le_of_ble_eq_true rfl)) rfl (by clear h; omega) rfl rfl ?_
            refine v_s mt_150 rfl rfl rfl ?_
            refine v_s mt_150 rfl rfl rfl ?_
            refine j_gi (w := J 0 18) 18 mt_150 rfl rfl c_0 (by decide) rfl ?_
            refine v_ic (v := Int32.ofInt 1) mt_150 rfl rfl ?_
            refine j_add (e := (J 0 18) + 1) mt_150 rfl rfl ?_
            refine j_pi 18 mt_150 rfl rfl c_0 (by decide) ?_
            exact v_thr mt_150 rfl rfl (Nat.le_of_ble_eq_true rfl) h
          · replace h := h.2 (Int.not_lt.mp c)
            refine v_s mt_154 rfl rfl rfl ?_
            refine v_s mt_154 rfl rfl rfl ?_
            refine j_if2 mt_154 rfl rfl z3 ⟨by decide, by decide⟩ (fun c => ?_) (fun c => ?_)
            · replace h := h.1 c
              refine v_ret mt_154 rfl rfl rfl ?_
              refine v_ic (v := Int32.ofInt 0) mt_135 rfl rfl ?_
              refine v_is (L' := [some (.ref 0), some (iv x1), some (iv x2), some (iv x3), some (iv 0), o5, o6, o7, o8, o9]) mt_135 rfl (Nat.le_of_ble_eq_true rfl) rfl ?_
              refine v_ic (v := Int32.ofInt (-1)) mt_135 rfl rfl ?_
              refine v_is (L' := [some (.ref 0), some (iv x1), some (iv x2), some (iv x3), some (iv 0), some (iv (-1)), o6, o7, o8, o9]) mt_135 rfl (Nat.le_of_ble_eq_true rfl) rfl ?_
              refine v_ic (v := Int32.ofInt 0) mt_135 rfl rfl ?_
              refine v_is (L' := [some (.ref 0), some (iv x1), some (iv x2), some (iv x3), some (iv 0), some (iv (-1)), some (iv 0), o7, o8, o9]) mt_135 rfl (Nat.le_of_ble_eq_true rfl) rfl ?_
              refine v_ic (v := Int32.ofInt 0) mt_135 rfl rfl ?_
              refine v_is (L' := [some (.ref 0), some (iv x1), some (iv x2), some (iv x3), some (iv 0), some (iv (-1)), some (iv 0), some (iv 0), o8, o9]) mt_135 rfl (Nat.le_of_ble_eq_true rfl) rfl ?_
              exact h
            · replace h := h.2 (Int.not_le.mp c)
              refine v_s mt_154 rfl rfl rfl ?_
              refine v_inx (L1 := [some (.ref 0)]) mt_154 rfl rfl mt_150 rfl rfl (m_callj (As := []) (rest := []) rfl rfl c_0 rfl (Nat.le_of_ble_eq_true rfl) (Nat.le_of_ble_eq_true rfl)) rfl (by clear h; omega) rfl rfl ?_
              refine v_s mt_150 rfl rfl rfl ?_
              refine v_s mt_150 rfl rfl rfl ?_
              refine j_gi (w := J 0 18) 18 mt_150 rfl rfl c_0 (by decide) rfl ?_
              refine v_ic (v := Int32.ofInt 1) mt_150 rfl rfl ?_
              refine j_add (e := (J 0 18) + 1) mt_150 rfl rfl ?_
              refine j_pi 18 mt_150 rfl rfl c_0 (by decide) ?_
              exact v_thr mt_150 rfl rfl (Nat.le_of_ble_eq_true rfl) h
        · replace h := h.2 (Int.not_le.mp c)
          refine v_s mt_154 rfl rfl rfl ?_
          refine v_inx (L1 := [some (.ref 0)]) mt_154 rfl rfl mt_150 rfl rfl (m_callj (As := []) (rest := []) rfl rfl c_0 rfl (Nat.le_of_ble_eq_true rfl) (Nat.le_of_ble_eq_true rfl)) rfl (by clear h; omega) rfl rfl ?_
          refine v_s mt_150 rfl rfl rfl ?_
          refine v_s mt_150 rfl rfl rfl ?_
          refine j_gi (w := J 0 18) 18 mt_150 rfl rfl c_0 (by decide) rfl ?_
          refine v_ic (v := Int32.ofInt 1) mt_150 rfl rfl ?_
          refine j_add (e := (J 0 18) + 1) mt_150 rfl rfl ?_
          refine j_pi 18 mt_150 rfl rfl c_0 (by decide) ?_
          exact v_thr mt_150 rfl rfl (Nat.le_of_ble_eq_true rfl) h
    · replace h := h.2 (Int.not_le.mp c)
      refine v_s mt_154 rfl rfl rfl ?_
      refine v_inx (L1 := [some (.ref 0)]) mt_154 rfl rfl mt_150 rfl rfl (m_callj (As := []) (rest := []) rfl rfl c_0 rfl (Nat.le_of_ble_eq_true rfl) (Nat.le_of_ble_eq_true rfl)) rfl (by clear h; omega) rfl rfl ?_
      refine v_s mt_150 rfl rfl rfl ?_
      refine v_s mt_150 rfl rfl rfl ?_
      refine j_gi (w := J 0 18) 18 mt_150 rfl rfl c_0 (by decide) rfl ?_
      refine v_ic (v := Int32.ofInt 1) mt_150 rfl rfl ?_
      refine j_add (e := (J 0 18) + 1) mt_150 rfl rfl ?_
      refine j_pi 18 mt_150 rfl rfl c_0 (by decide) ?_
      exact v_thr mt_150 rfl rfl (Nat.le_of_ble_eq_true rfl) h
set_option maxHeartbeats 600000 in
theorem b_135_35 {X : Nat × (Nat → Int32)} {d : Nat} {J : Nat → Nat → Int} {sw : Bool × Bool × Bool} {lg : Nat → Nat → Int64} {x : Nat} {K : (Option Value ⊕ Nat) → mM → Prop} {x1 x2 x3 x4 x5 x6 x7 : Int} {o0 o8 o9 : Option Value} (hd : 2 ≤ d)
    (h : InR x7 ∧ (4 ≤ x7 → (InR x3 ∧ (¬ x3 = 0 → ((¬ x3 = 1 → K (.inl (some (iv x6))) (mj J sw lg x)) ∧ (x3 = 1 → K (.inl (some (iv x5))) (mj J sw lg x)))) ∧ (x3 = 0 → K (.inl (some (iv x4))) (mj J sw lg x)))) ∧ (x7 < 4 → (∃ (c2 : Int) (J1 : Nat → Nat → Int), EE X 1 155 [iv x1, iv x2, iv (bDiv x7 2), iv (bRem x7 2)] (mj J sw lg x) (.inl (some (iv c2))) (mj J1 sw lg x) ∧ InR c2 ∧ (c2 = 0 → VV X d 135 (35, [o0, some (iv x1), some (iv x2), some (iv x3), some (iv x4), some (iv x5), some (iv x6), some (iv (x7 + 1)), some (iv (bDiv x7 2)), some (iv (bRem x7 2))], [], mj J1 sw lg x) K) ∧ (¬ c2 = 0 → (InR x4 ∧ (¬ x4 = 0 → VV X d 135 (35, [o0, some (iv x1), some (iv x2), some (iv x3), some (iv (x4 + 1)), some (iv x5), some (iv x6), some (iv (x7 + 1)), some (iv (bDiv x7 2)), some (iv (bRem x7 2))], [], mj J1 sw lg x) K) ∧ (x4 = 0 → (∃ (c4 : Int) (J3 : Nat → Nat → Int), EE X 0 156 [iv x1, iv x2, iv (bDiv x7 2), iv (bRem x7 2)] (mj J1 sw lg x) (.inl (some (iv c4))) (mj J3 sw lg x) ∧ ∃ (c6 : Int) (J5 : Nat → Nat → Int), EE X 0 156 [iv x1, iv x2, iv (bRem x7 2), iv (bDiv x7 2)] (mj J3 sw lg x) (.inl (some (iv c6))) (mj J5 sw lg x) ∧ VV X d 135 (35, [o0, some (iv x1), some (iv x2), some (iv x3), some (iv (x4 + 1)), some (iv ((10 * (bDiv x7 2)) + (bRem x7 2))), some (iv (c4 + c6)), some (iv (x7 + 1)), some (iv (bDiv x7 2)), some (iv (bRem x7 2))], [], mj J5 sw lg x) K))))))) : VV X d 135 (35, [o0, some (iv x1), some (iv x2), some (iv x3), some (iv x4), some (iv x5), some (iv x6), some (iv x7), o8, o9], [], mj J sw lg x) K := by
  refine v_s mt_135 rfl rfl rfl ?_
  refine v_ic (v := Int32.ofInt 4) mt_135 rfl rfl ?_
  obtain ⟨z1, h⟩ := h
  refine j_if2 mt_135 rfl rfl z1 ⟨by decide, by decide⟩ (fun c => ?_) (fun c => ?_)
  · replace h := h.1 c
    refine v_s mt_135 rfl rfl rfl ?_
    obtain ⟨z2, h⟩ := h
    refine j_if1 mt_135 rfl rfl z2 (fun c => ?_) (fun c => ?_)
    · replace h := h.1 c
      refine v_s mt_135 rfl rfl rfl ?_
      refine v_ic (v := Int32.ofInt 1) mt_135 rfl rfl ?_
      refine j_if2 mt_135 rfl rfl z2 ⟨by decide, by decide⟩ (fun c => ?_) (fun c => ?_)
      · replace h := h.1 c
        refine v_s mt_135 rfl rfl rfl ?_
        exact v_ret mt_135 rfl rfl rfl h
      · replace h := h.2 (Decidable.not_not.mp c)
        refine v_s mt_135 rfl rfl rfl ?_
        refine v_go mt_135 rfl rfl ?_
        exact v_ret mt_135 rfl rfl rfl h
    · replace h := h.2 (Decidable.not_not.mp c)
      refine v_s mt_135 rfl rfl rfl ?_
      exact v_ret mt_135 rfl rfl rfl h
  · replace h := h.2 (Int.not_le.mp c)
    refine v_s mt_135 rfl rfl rfl ?_
    refine v_ic (v := Int32.ofInt 2) mt_135 rfl rfl ?_
    refine j_div (e := bDiv x7 2) mt_135 rfl ⟨by decide, by decide⟩ (by decide) rfl ?_
    refine v_is (L' := [o0, some (iv x1), some (iv x2), some (iv x3), some (iv x4), some (iv x5), some (iv x6), some (iv x7), some (iv (bDiv x7 2)), o9]) mt_135 rfl (Nat.le_of_ble_eq_true rfl) rfl ?_
    refine v_s mt_135 rfl rfl rfl ?_
    refine v_ic (v := Int32.ofInt 2) mt_135 rfl rfl ?_
    refine j_rem (e := bRem x7 2) mt_135 rfl ⟨by decide, by decide⟩ (by decide) rfl ?_
    refine v_is (L' := [o0, some (iv x1), some (iv x2), some (iv x3), some (iv x4), some (iv x5), some (iv x6), some (iv x7), some (iv (bDiv x7 2)), some (iv (bRem x7 2))]) mt_135 rfl (Nat.le_of_ble_eq_true rfl) rfl ?_
    refine v_s mt_135 rfl rfl rfl ?_
    refine v_s mt_135 rfl rfl rfl ?_
    refine v_s mt_135 rfl rfl rfl ?_
    refine v_s mt_135 rfl rfl rfl ?_
    obtain ⟨c2, J1, z3, h⟩ := h
    refine v_call (d1 := 1) mt_135 rfl rfl mt_155 rfl rfl rfl z3 (by clear h; omega) ?_
    obtain ⟨z4, h⟩ := h
    refine j_if1 mt_135 rfl rfl z4 (fun c => ?_) (fun c => ?_)
    · replace h := h.1 c
      refine j_inc (e := x7 + 1) (L' := [o0, some (iv x1), some (iv x2), some (iv x3), some (iv x4), some (iv x5), some (iv x6), some (iv (x7 + 1)), some (iv (bDiv x7 2)), some (iv (bRem x7 2))]) mt_135 rfl rfl (Nat.le_of_ble_eq_true rfl) rfl rfl ?_
      refine v_go mt_135 rfl rfl ?_
      exact h
    · replace h := h.2 c
      refine v_s mt_135 rfl rfl rfl ?_
      obtain ⟨z5, h⟩ := h
      refine j_if1 mt_135 rfl rfl z5 (fun c => ?_) (fun c => ?_)
      · replace h := h.1 c
        refine j_inc (e := x4 + 1) (L' := [o0, some (iv x1), some (iv x2), some (iv x3), some (iv (x4 + 1)), some (iv x5), some (iv x6), some (iv x7), some (iv (bDiv x7 2)), some (iv (bRem x7 2))]) mt_135 rfl rfl (Nat.le_of_ble_eq_true rfl) rfl rfl ?_
        refine j_inc (e := x7 + 1) (L' := [o0, some (iv x1), some (iv x2), some (iv x3), some (iv (x4 + 1)), some (iv x5), some (iv x6), some (iv (x7 + 1)), some (iv (bDiv x7 2)), some (iv (bRem x7 2))]) mt_135 rfl rfl (Nat.le_of_ble_eq_true rfl) rfl rfl ?_
        refine v_go mt_135 rfl rfl ?_
        exact h
      · replace h := h.2 (Decidable.not_not.mp c)
        refine v_bp (v := Int32.ofInt 10) mt_135 rfl rfl ?_
        refine v_s mt_135 rfl rfl rfl ?_
        refine j_mul (e := 10 * (bDiv x7 2)) mt_135 rfl rfl ?_
        refine v_s mt_135 rfl rfl rfl ?_
        refine j_add (e := (10 * (bDiv x7 2)) + (bRem x7 2)) mt_135 rfl rfl ?_
        refine v_is (L' := [o0, some (iv x1), some (iv x2), some (iv x3), some (iv x4), some (iv ((10 * (bDiv x7 2)) + (bRem x7 2))), some (iv x6), some (iv x7), some (iv (bDiv x7 2)), some (iv (bRem x7 2))]) mt_135 rfl (Nat.le_of_ble_eq_true rfl) rfl ?_
        refine v_s mt_135 rfl rfl rfl ?_
        refine v_s mt_135 rfl rfl rfl ?_
        refine v_s mt_135 rfl rfl rfl ?_
        refine v_s mt_135 rfl rfl rfl ?_
        obtain ⟨c4, J3, z6, h⟩ := h
        refine v_call (d1 := 0) mt_135 rfl rfl mt_156 rfl rfl rfl z6 (by clear h; omega) ?_
        refine v_s mt_135 rfl rfl rfl ?_
        refine v_s mt_135 rfl rfl rfl ?_
        refine v_s mt_135 rfl rfl rfl ?_
        refine v_s mt_135 rfl rfl rfl ?_
        obtain ⟨c6, J5, z7, h⟩ := h
        refine v_call (d1 := 0) mt_135 rfl rfl mt_156 rfl rfl rfl z7 (by clear h; omega) ?_
        refine j_add (e := c4 + c6) mt_135 rfl rfl ?_
        refine v_is (L' := [o0, some (iv x1), some (iv x2), some (iv x3), some (iv x4), some (iv ((10 * (bDiv x7 2)) + (bRem x7 2))), some (iv (c4 + c6)), some (iv x7), some (iv (bDiv x7 2)), some (iv (bRem x7 2))]) mt_135 rfl (Nat.le_of_ble_eq_true rfl) rfl ?_
        refine j_inc (e := x4 + 1) (L' := [o0, some (iv x1), some (iv x2), some (iv x3), some (iv (x4 + 1)), some (iv ((10 * (bDiv x7 2)) + (bRem x7 2))), some (iv (c4 + c6)), some (iv x7), some (iv (bDiv x7 2)), some (iv (bRem x7 2))]) mt_135 rfl rfl (Nat.le_of_ble_eq_true rfl) rfl rfl ?_
        refine j_inc (e := x7 + 1) (L' := [o0, some (iv x1), some (iv x2), some (iv x3), some (iv (x4 + 1)), some (iv ((10 * (bDiv x7 2)) + (bRem x7 2))), some (iv (c4 + c6)), some (iv (x7 + 1)), some (iv (bDiv x7 2)), some (iv (bRem x7 2))]) mt_135 rfl rfl (Nat.le_of_ble_eq_true rfl) rfl rfl ?_
        refine v_go mt_135 rfl rfl ?_
        exact h
set_option maxHeartbeats 600000 in
theorem b_136_0 {X : Nat × (Nat → Int32)} {d : Nat} {J : Nat → Nat → Int} {sw : Bool × Bool × Bool} {lg : Nat → Nat → Int64} {x : Nat} {K : (Option Value ⊕ Nat) → mM → Prop} {x1 x2 x3 : Int} (hd : 2 ≤ d)
    (h : InR x1 ∧ (x1 < 0 → K (.inr 1) (mj (m_up J 0 17 ((J 0 17) + 1)) sw lg (x + 1))) ∧ (0 ≤ x1 → (InR (J (vA sw) 2) ∧ (x1 < J (vA sw) 2 → (InR x2 ∧ (x2 < 0 → K (.inr 2) (mj (m_up J 0 18 ((J 0 18) + 1)) sw lg (x + 1))) ∧ (0 ≤ x2 → (InR ((bShl 1 (J (vA sw) 2)) - 1) ∧ (x2 ≤ (bShl 1 (J (vA sw) 2)) - 1 → (InR x3 ∧ (x3 < 0 → K (.inr 2) (mj (m_up J 0 18 ((J 0 18) + 1)) sw lg (x + 1))) ∧ (0 ≤ x3 → ((x3 ≤ 999 → ((¬ bAnd (bShr x2 x1) 1 = 0 → ((0 ≤ x1 ∧ x1 < 9) ∧ ∃ (c2 : Int) (J1 : Nat → Nat → Int), EE X 0 157 [.ref 0, iv x2, iv x3] (mj J sw lg x) (.inl (some (iv c2))) (mj J1 sw lg x) ∧ InR (J 46 x1.toNat) ∧ InR c2 ∧ K (.inl (some (iv (min (J 46 x1.toNat) c2)))) (mj J1 sw lg x))) ∧ (bAnd (bShr x2 x1) 1 = 0 → K (.inl (some (iv 0))) (mj J sw lg x)))) ∧ (999 < x3 → K (.inr 2) (mj (m_up J 0 18 ((J 0 18) + 1)) sw lg (x + 1))))))) ∧ ((bShl 1 (J (vA sw) 2)) - 1 < x2 → K (.inr 2) (mj (m_up J 0 18 ((J 0 18) + 1)) sw lg (x + 1))))))) ∧ (J (vA sw) 2 ≤ x1 → K (.inr 1) (mj (m_up J 0 17 ((J 0 17) + 1)) sw lg (x + 1)))))) : VV X d 136 (0, [some (.ref 0), some (iv x1), some (iv x2), some (iv x3)], [], mj J sw lg x) K := by
  refine v_s mt_136 rfl rfl rfl ?_
  refine v_s mt_136 rfl rfl rfl ?_
  refine v_inx (L1 := [some (.ref 0), some (iv x1)]) mt_136 rfl rfl mt_153 rfl rfl (m_callj (As := [iv x1]) (rest := []) rfl rfl c_0 rfl (Nat.le_of_ble_eq_true rfl) (Nat.le_of_ble_eq_true rfl)) rfl (by clear h; omega) rfl rfl ?_
  refine v_s mt_153 rfl rfl rfl ?_
  obtain ⟨z1, h⟩ := h
  refine j_if1 mt_153 rfl rfl z1 (fun c => ?_) (fun c => ?_)
  · replace h := h.1 c
    refine v_s mt_153 rfl rfl rfl ?_
    refine v_inx (L1 := [some (.ref 0)]) mt_153 rfl rfl mt_149 rfl rfl (m_callj (As := []) (rest := []) rfl rfl c_0 rfl (Nat.le_of_ble_eq_true rfl) (Nat.le_of_ble_eq_true rfl)) rfl (by clear h; omega) rfl rfl ?_
    refine v_s mt_149 rfl rfl rfl ?_
    refine v_s mt_149 rfl rfl rfl ?_
    refine j_gi (w := J 0 17) 17 mt_149 rfl rfl c_0 (by decide) rfl ?_
    refine v_ic (v := Int32.ofInt 1) mt_149 rfl rfl ?_
    refine j_add (e := (J 0 17) + 1) mt_149 rfl rfl ?_
    refine j_pi 17 mt_149 rfl rfl c_0 (by decide) ?_
    exact v_thr mt_149 rfl rfl (Nat.le_of_ble_eq_true rfl) h
  · replace h := h.2 (Int.not_lt.mp c)
    refine v_s mt_153 rfl rfl rfl ?_
    refine v_s mt_153 rfl rfl rfl ?_
    refine v_gr (w := (vA sw)) 2 mt_153 rfl rfl c_0 (by decide) g_11_2 ?_
    refine j_gi (w := J (vA sw) 2) 2 mt_153 rfl rfl (cvA sw) (by decide) rfl ?_
    obtain ⟨z2, h⟩ := h
    refine j_if2 mt_153 rfl rfl z1 z2 (fun c => ?_) (fun c => ?_)
    · replace h := h.1 c
      refine v_ret mt_153 rfl rfl rfl ?_
      refine v_s mt_136 rfl rfl rfl ?_
      refine v_s mt_136 rfl rfl rfl ?_
      refine v_ic (v := Int32.ofInt 0) mt_136 rfl rfl ?_
      refine v_ic (v := Int32.ofInt 1) mt_136 rfl rfl ?_
      refine v_s mt_136 rfl rfl rfl ?_
      refine v_gr (w := (vA sw)) 2 mt_136 rfl rfl c_0 (by decide) g_11_2 ?_
      refine j_gi (w := J (vA sw) 2) 2 mt_136 rfl rfl (cvA sw) (by decide) rfl ?_
      refine j_shl (e := bShl 1 (J (vA sw) 2)) mt_136 rfl rfl ?_
      refine v_ic (v := Int32.ofInt 1) mt_136 rfl rfl ?_
      refine j_sub (e := (bShl 1 (J (vA sw) 2)) - 1) mt_136 rfl rfl ?_
      refine v_inx (L1 := [some (.ref 0), some (iv x2), some (iv 0), some (iv ((bShl 1 (J (vA sw) 2)) - 1))]) mt_136 rfl rfl mt_154 rfl rfl (m_callj (As := [iv x2, iv 0, iv ((bShl 1 (J (vA sw) 2)) - 1)]) (rest := []) rfl rfl c_0 rfl (Nat.le_of_ble_eq_true rfl) (Nat.le_of_ble_eq_true rfl)) rfl (by clear h; omega) rfl rfl ?_
      refine v_s mt_154 rfl rfl rfl ?_
      refine v_s mt_154 rfl rfl rfl ?_
      obtain ⟨z3, h⟩ := h
      refine j_if2 mt_154 rfl rfl z3 ⟨by decide, by decide⟩ (fun c => ?_) (fun c => ?_)
      · replace h := h.1 c
        refine v_s mt_154 rfl rfl rfl ?_
        refine v_inx (L1 := [some (.ref 0)]) mt_154 rfl rfl mt_150 rfl rfl (m_callj (As := []) (rest := []) rfl rfl c_0 rfl (Nat.le_of_ble_eq_true rfl) (Nat.le_of_ble_eq_true rfl)) rfl (by clear h; omega) rfl rfl ?_
        refine v_s mt_150 rfl rfl rfl ?_
        refine v_s mt_150 rfl rfl rfl ?_
        refine j_gi (w := J 0 18) 18 mt_150 rfl rfl c_0 (by decide) rfl ?_
        refine v_ic (v := Int32.ofInt 1) mt_150 rfl rfl ?_
        refine j_add (e := (J 0 18) + 1) mt_150 rfl rfl ?_
        refine j_pi 18 mt_150 rfl rfl c_0 (by decide) ?_
        exact v_thr mt_150 rfl rfl (Nat.le_of_ble_eq_true rfl) h
      · replace h := h.2 (Int.not_lt.mp c)
        refine v_s mt_154 rfl rfl rfl ?_
        refine v_s mt_154 rfl rfl rfl ?_
        obtain ⟨z4, h⟩ := h
        refine j_if2 mt_154 rfl rfl z3 z4 (fun c => ?_) (fun c => ?_)
        · replace h := h.1 c
          refine v_ret mt_154 rfl rfl rfl ?_
          refine v_s mt_136 rfl rfl rfl ?_
          refine v_s mt_136 rfl rfl rfl ?_
          refine v_ic (v := Int32.ofInt 0) mt_136 rfl rfl ?_
          refine v_sp (v := Int32.ofInt 999) mt_136 rfl rfl ?_
          refine v_inx (L1 := [some (.ref 0), some (iv x3), some (iv 0), some (iv 999)]) mt_136 rfl rfl mt_154 rfl rfl (m_callj (As := [iv x3, iv 0, iv 999]) (rest := []) rfl rfl c_0 rfl (Nat.le_of_ble_eq_true rfl) (Nat.le_of_ble_eq_true rfl)) rfl (by clear h; omega) rfl rfl ?_
          refine v_s mt_154 rfl rfl rfl ?_
          refine v_s mt_154 rfl rfl rfl ?_
          obtain ⟨z5, h⟩ := h
          refine j_if2 mt_154 rfl rfl z5 ⟨by decide, by decide⟩ (fun c => ?_) (fun c => ?_)
          · replace h := h.1 c
            refine v_s mt_154 rfl rfl rfl ?_
            refine v_inx (L1 := [some (.ref 0)]) mt_154 rfl rfl mt_150 rfl rfl (m_callj (As := []) (rest := []) rfl rfl c_0 rfl (Nat.le_of_ble_eq_true rfl) (Nat.le_of_ble_eq_true rfl)) rfl (by clear h; omega) rfl rfl ?_
            refine v_s mt_150 rfl rfl rfl ?_
            refine v_s mt_150 rfl rfl rfl ?_
            refine j_gi (w := J 0 18) 18 mt_150 rfl rfl c_0 (by decide) rfl ?_
            refine v_ic (v := Int32.ofInt 1) mt_150 rfl rfl ?_
            refine j_add (e := (J 0 18) + 1) mt_150 rfl rfl ?_
            refine j_pi 18 mt_150 rfl rfl c_0 (by decide) ?_
            exact v_thr mt_150 rfl rfl (Nat.le_of_ble_eq_true rfl) h
          · replace h := h.2 (Int.not_lt.mp c)
            refine v_s mt_154 rfl rfl rfl ?_
            refine v_s mt_154 rfl rfl rfl ?_
            refine j_if2 mt_154 rfl rfl z5 ⟨by decide, by decide⟩ (fun c => ?_) (fun c => ?_)
            · replace h := h.1 c
              refine v_ret mt_154 rfl rfl rfl ?_
              refine v_s mt_136 rfl rfl rfl ?_
              refine v_s mt_136 rfl rfl rfl ?_
              refine j_shr (e := bShr x2 x1) mt_136 rfl rfl ?_
              refine v_ic (v := Int32.ofInt 1) mt_136 rfl rfl ?_
              refine j_and (e := bAnd (bShr x2 x1) 1) mt_136 rfl rfl ?_
              refine j_if1 mt_136 rfl rfl (inT _) (fun c => ?_) (fun c => ?_)
              · replace h := h.1 c
                refine v_s mt_136 rfl rfl rfl ?_
                refine v_gr (w := 41) 9 mt_136 rfl rfl c_0 (by decide) g_11_9 ?_
                refine v_gr (w := 46) 4 mt_136 rfl rfl c_41 (by decide) (g_6_4 c_41) ?_
                refine v_s mt_136 rfl rfl rfl ?_
                obtain ⟨z6, h⟩ := h
                refine j_al (w := J 46 x1.toNat) mt_136 rfl c_46 z6 (by decide) rfl ?_
                refine v_s mt_136 rfl rfl rfl ?_
                refine v_s mt_136 rfl rfl rfl ?_
                refine v_s mt_136 rfl rfl rfl ?_
                obtain ⟨c2, J1, z7, h⟩ := h
                refine v_call (d1 := 0) mt_136 rfl rfl mt_157 rfl rfl (m_callj (As := [iv x2, iv x3]) (rest := [iv (J 46 x1.toNat)]) rfl rfl c_0 rfl (Nat.le_of_ble_eq_true rfl) (Nat.le_of_ble_eq_true rfl)) z7 (by clear h; omega) ?_
                obtain ⟨z8, h⟩ := h
                obtain ⟨z9, h⟩ := h
                refine j_min mt_136 rfl (Nat.le_of_ble_eq_true rfl) z8 z9 ?_
                exact v_ret mt_136 rfl rfl rfl h
              · replace h := h.2 (Decidable.not_not.mp c)
                refine v_ic (v := Int32.ofInt 0) mt_136 rfl rfl ?_
                exact v_ret mt_136 rfl rfl rfl h
            · replace h := h.2 (Int.not_le.mp c)
              refine v_s mt_154 rfl rfl rfl ?_
              refine v_inx (L1 := [some (.ref 0)]) mt_154 rfl rfl mt_150 rfl rfl (m_callj (As := []) (rest := []) rfl rfl c_0 rfl (Nat.le_of_ble_eq_true rfl) (Nat.le_of_ble_eq_true rfl)) rfl (by clear h; omega) rfl rfl ?_
              refine v_s mt_150 rfl rfl rfl ?_
              refine v_s mt_150 rfl rfl rfl ?_
              refine j_gi (w := J 0 18) 18 mt_150 rfl rfl c_0 (by decide) rfl ?_
              refine v_ic (v := Int32.ofInt 1) mt_150 rfl rfl ?_
              refine j_add (e := (J 0 18) + 1) mt_150 rfl rfl ?_
              refine j_pi 18 mt_150 rfl rfl c_0 (by decide) ?_
              exact v_thr mt_150 rfl rfl (Nat.le_of_ble_eq_true rfl) h
        · replace h := h.2 (Int.not_le.mp c)
          refine v_s mt_154 rfl rfl rfl ?_
          refine v_inx (L1 := [some (.ref 0)]) mt_154 rfl rfl mt_150 rfl rfl (m_callj (As := []) (rest := []) rfl rfl c_0 rfl (Nat.le_of_ble_eq_true rfl) (Nat.le_of_ble_eq_true rfl)) rfl (by clear h; omega) rfl rfl ?_
          refine v_s mt_150 rfl rfl rfl ?_
          refine v_s mt_150 rfl rfl rfl ?_
          refine j_gi (w := J 0 18) 18 mt_150 rfl rfl c_0 (by decide) rfl ?_
          refine v_ic (v := Int32.ofInt 1) mt_150 rfl rfl ?_
          refine j_add (e := (J 0 18) + 1) mt_150 rfl rfl ?_
          refine j_pi 18 mt_150 rfl rfl c_0 (by decide) ?_
          exact v_thr mt_150 rfl rfl (Nat.le_of_ble_eq_true rfl) h
    · replace h := h.2 (Int.not_lt.mp c)
      refine v_s mt_153 rfl rfl rfl ?_
      refine v_inx (L1 := [some (.ref 0)]) mt_153 rfl rfl mt_149 rfl rfl (m_callj (As := []) (rest := []) rfl rfl c_0 rfl (Nat.le_of_ble_eq_true rfl) (Nat.le_of_ble_eq_true rfl)) rfl (by clear h; omega) rfl rfl ?_
      refine v_s mt_149 rfl rfl rfl ?_
      refine v_s mt_149 rfl rfl rfl ?_
      refine j_gi (w := J 0 17) 17 mt_149 rfl rfl c_0 (by decide) rfl ?_
      refine v_ic (v := Int32.ofInt 1) mt_149 rfl rfl ?_
      refine j_add (e := (J 0 17) + 1) mt_149 rfl rfl ?_
      refine j_pi 17 mt_149 rfl rfl c_0 (by decide) ?_
      exact v_thr mt_149 rfl rfl (Nat.le_of_ble_eq_true rfl) h
set_option maxHeartbeats 600000 in
theorem b_141_0 {X : Nat × (Nat → Int32)} {d : Nat} {J : Nat → Nat → Int} {sw : Bool × Bool × Bool} {lg : Nat → Nat → Int64} {x : Nat} {K : (Option Value ⊕ Nat) → mM → Prop} {x1 x2 x3 x4 : Int} (hd : 6 ≤ d)
    (h : InR x2 ∧ (x2 < 0 → K (.inr 2) (mj (m_up J 0 18 ((J 0 18) + 1)) sw lg (x + 1))) ∧ (0 ≤ x2 → ((x2 ≤ 16 → (InR x3 ∧ (x3 < 1 → K (.inr 2) (mj (m_up J 0 18 ((J 0 18) + 1)) sw lg (x + 1))) ∧ (1 ≤ x3 → ((x3 ≤ 96 → (InR x4 ∧ (x4 < 0 → K (.inr 2) (mj (m_up J 0 18 ((J 0 18) + 1)) sw lg (x + 1))) ∧ (0 ≤ x4 → ((x4 ≤ 3 → (∃ (J1 : Nat → Nat → Int), EE X 5 158 [.ref 0, iv x1, iv x2, iv x3] (mj J sw lg x) (.inl none) (mj J1 sw lg x) ∧ (x4 = 0 → (∃ (c3 : Int) (J2 : Nat → Nat → Int), EE X 0 61 [.ref 48, .ref (vA sw)] (mj J1 sw lg x) (.inl (some (iv c3))) (mj J2 sw lg x) ∧ K (.inl (some (iv c3))) (mj J2 sw lg x))) ∧ (x4 = 1 → (∃ (c5 : Int) (J4 : Nat → Nat → Int), EE X 0 62 [.ref 48, .ref (vA sw)] (mj J1 sw lg x) (.inl (some (iv c5))) (mj J4 sw lg x) ∧ K (.inl (some (iv c5))) (mj J4 sw lg x))) ∧ (x4 = 2 → (∃ (c7 : Int) (J6 : Nat → Nat → Int), EE X 1 65 [.ref 48, .ref (vA sw)] (mj J1 sw lg x) (.inl (some (iv c7))) (mj J6 sw lg x) ∧ K (.inl (some (iv c7))) (mj J6 sw lg x))) ∧ (x4 < 0 ∨ 2 < x4 → K (.inl (some (iv (J1 48 8)))) (mj J1 sw lg x)))) ∧ (3 < x4 → K (.inr 2) (mj (m_up J 0 18 ((J 0 18) + 1)) sw lg (x + 1))))))) ∧ (96 < x3 → K (.inr 2) (mj (m_up J 0 18 ((J 0 18) + 1)) sw lg (x + 1))))))) ∧ (16 < x2 → K (.inr 2) (mj (m_up J 0 18 ((J 0 18) + 1)) sw lg (x + 1)))))) : VV X d 141 (0, [some (.ref 0), some (iv x1), some (iv x2), some (iv x3), some (iv x4)], [], mj J sw lg x) K := by
  refine v_s mt_141 rfl rfl rfl ?_
  refine v_s mt_141 rfl rfl rfl ?_
  refine v_ic (v := Int32.ofInt 0) mt_141 rfl rfl ?_
  refine v_bp (v := Int32.ofInt 16) mt_141 rfl rfl ?_
  refine v_inx (L1 := [some (.ref 0), some (iv x2), some (iv 0), some (iv 16)]) mt_141 rfl rfl mt_154 rfl rfl (m_callj (As := [iv x2, iv 0, iv 16]) (rest := []) rfl rfl c_0 rfl (Nat.le_of_ble_eq_true rfl) (Nat.le_of_ble_eq_true rfl)) rfl (by clear h; omega) rfl rfl ?_
  refine v_s mt_154 rfl rfl rfl ?_
  refine v_s mt_154 rfl rfl rfl ?_
  obtain ⟨z1, h⟩ := h
  refine j_if2 mt_154 rfl rfl z1 ⟨by decide, by decide⟩ (fun c => ?_) (fun c => ?_)
  · replace h := h.1 c
    refine v_s mt_154 rfl rfl rfl ?_
    refine v_inx (L1 := [some (.ref 0)]) mt_154 rfl rfl mt_150 rfl rfl (m_callj (As := []) (rest := []) rfl rfl c_0 rfl (Nat.le_of_ble_eq_true rfl) (Nat.le_of_ble_eq_true rfl)) rfl (by clear h; omega) rfl rfl ?_
    refine v_s mt_150 rfl rfl rfl ?_
    refine v_s mt_150 rfl rfl rfl ?_
    refine j_gi (w := J 0 18) 18 mt_150 rfl rfl c_0 (by decide) rfl ?_
    refine v_ic (v := Int32.ofInt 1) mt_150 rfl rfl ?_
    refine j_add (e := (J 0 18) + 1) mt_150 rfl rfl ?_
    refine j_pi 18 mt_150 rfl rfl c_0 (by decide) ?_
    exact v_thr mt_150 rfl rfl (Nat.le_of_ble_eq_true rfl) h
  · replace h := h.2 (Int.not_lt.mp c)
    refine v_s mt_154 rfl rfl rfl ?_
    refine v_s mt_154 rfl rfl rfl ?_
    refine j_if2 mt_154 rfl rfl z1 ⟨by decide, by decide⟩ (fun c => ?_) (fun c => ?_)
    · replace h := h.1 c
      refine v_ret mt_154 rfl rfl rfl ?_
      refine v_s mt_141 rfl rfl rfl ?_
      refine v_s mt_141 rfl rfl rfl ?_
      refine v_ic (v := Int32.ofInt 1) mt_141 rfl rfl ?_
      refine v_bp (v := Int32.ofInt 96) mt_141 rfl rfl ?_
      refine v_inx (L1 := [some (.ref 0), some (iv x3), some (iv 1), some (iv 96)]) mt_141 rfl rfl mt_154 rfl rfl (m_callj (As := [iv x3, iv 1, iv 96]) (rest := []) rfl rfl c_0 rfl (Nat.le_of_ble_eq_true rfl) (Nat.le_of_ble_eq_true rfl)) rfl (by clear h; omega) rfl rfl ?_
      refine v_s mt_154 rfl rfl rfl ?_
      refine v_s mt_154 rfl rfl rfl ?_
      obtain ⟨z2, h⟩ := h
      refine j_if2 mt_154 rfl rfl z2 ⟨by decide, by decide⟩ (fun c => ?_) (fun c => ?_)
      · replace h := h.1 c
        refine v_s mt_154 rfl rfl rfl ?_
        refine v_inx (L1 := [some (.ref 0)]) mt_154 rfl rfl mt_150 rfl rfl (m_callj (As := []) (rest := []) rfl rfl c_0 rfl (Nat.le_of_ble_eq_true rfl) (Nat.le_of_ble_eq_true rfl)) rfl (by clear h; omega) rfl rfl ?_
        refine v_s mt_150 rfl rfl rfl ?_
        refine v_s mt_150 rfl rfl rfl ?_
        refine j_gi (w := J 0 18) 18 mt_150 rfl rfl c_0 (by decide) rfl ?_
        refine v_ic (v := Int32.ofInt 1) mt_150 rfl rfl ?_
        refine j_add (e := (J 0 18) + 1) mt_150 rfl rfl ?_
        refine j_pi 18 mt_150 rfl rfl c_0 (by decide) ?_
        exact v_thr mt_150 rfl rfl (Nat.le_of_ble_eq_true rfl) h
      · replace h := h.2 (Int.not_lt.mp c)
        refine v_s mt_154 rfl rfl rfl ?_
        refine v_s mt_154 rfl rfl rfl ?_
        refine j_if2 mt_154 rfl rfl z2 ⟨by decide, by decide⟩ (fun c => ?_) (fun c => ?_)
        · replace h := h.1 c
          refine v_ret mt_154 rfl rfl rfl ?_
          refine v_s mt_141 rfl rfl rfl ?_
          refine v_s mt_141 rfl rfl rfl ?_
          refine v_ic (v := Int32.ofInt 0) mt_141 rfl rfl ?_
          refine v_ic (v := Int32.ofInt 3) mt_141 rfl rfl ?_
          refine v_inx (L1 := [some (.ref 0), some (iv x4), some (iv 0), some (iv 3)]) mt_141 rfl rfl mt_154 rfl rfl (m_callj (As := [iv x4, iv 0, iv 3]) (rest := []) rfl rfl c_0 rfl (Nat.le_of_ble_eq_true rfl) (Nat.le_of_ble_eq_true rfl)) rfl (by clear h; omega) rfl rfl ?_
          refine v_s mt_154 rfl rfl rfl ?_
          refine v_s mt_154 rfl rfl rfl ?_
          obtain ⟨z3, h⟩ := h
          refine j_if2 mt_154 rfl rfl z3 ⟨by decide, by decide⟩ (fun c => ?_) (fun c => ?_)
          · replace h := h.1 c
            refine v_s mt_154 rfl rfl rfl ?_
            refine v_inx (L1 := [some (.ref 0)]) mt_154 rfl rfl mt_150 rfl rfl (m_callj (As := []) (rest := []) rfl rfl c_0 rfl (Nat.le_of_ble_eq_true rfl) (Nat.le_of_ble_eq_true rfl)) rfl (by clear h; omega) rfl rfl ?_
            refine v_s mt_150 rfl rfl rfl ?_
            refine v_s mt_150 rfl rfl rfl ?_
            refine j_gi (w := J 0 18) 18 mt_150 rfl rfl c_0 (by decide) rfl ?_
            refine v_ic (v := Int32.ofInt 1) mt_150 rfl rfl ?_
            refine j_add (e := (J 0 18) + 1) mt_150 rfl rfl ?_
            refine j_pi 18 mt_150 rfl rfl c_0 (by decide) ?_
            exact v_thr mt_150 rfl rfl (Nat.le_of_ble_eq_true rfl) h
          · replace h := h.2 (Int.not_lt.mp c)
            refine v_s mt_154 rfl rfl rfl ?_
            refine v_s mt_154 rfl rfl rfl ?_
            refine j_if2 mt_154 rfl rfl z3 ⟨by decide, by decide⟩ (fun c => ?_) (fun c => ?_)
            · replace h := h.1 c
              refine v_ret mt_154 rfl rfl rfl ?_
              refine v_s mt_141 rfl rfl rfl ?_
              refine v_s mt_141 rfl rfl rfl ?_
              refine v_s mt_141 rfl rfl rfl ?_
              refine v_s mt_141 rfl rfl rfl ?_
              obtain ⟨J1, z4, h⟩ := h
              refine v_call (d1 := 5) mt_141 rfl rfl mt_158 rfl rfl (m_callj (As := [iv x1, iv x2, iv x3]) (rest := []) rfl rfl c_0 rfl (Nat.le_of_ble_eq_true rfl) (Nat.le_of_ble_eq_true rfl)) z4 (by clear h; omega) ?_
              refine v_s mt_141 rfl rfl rfl ?_
              by_cases c : x4 = 0
              · replace h := h.1 c
                refine j_si 0 mt_141 rfl ⟨by decide, by decide⟩ c (by decide) rfl rfl ?_
                refine v_s mt_141 rfl rfl rfl ?_
                refine v_gr (w := 48) 10 mt_141 rfl rfl c_0 (by decide) g_11_10 ?_
                refine v_s mt_141 rfl rfl rfl ?_
                refine v_gr (w := (vA sw)) 2 mt_141 rfl rfl c_0 (by decide) g_11_2 ?_
                obtain ⟨c3, J2, z5, h⟩ := h
                refine v_call (d1 := 0) mt_141 rfl rfl mt_61 rfl rfl (m_callj (As := [.ref (vA sw)]) (rest := []) rfl rfl c_48 rfl (Nat.le_of_ble_eq_true rfl) (Nat.le_of_ble_eq_true rfl)) z5 (by clear h; omega) ?_
                exact v_ret mt_141 rfl rfl rfl h
              have c0 := c
              replace h := h.2
              by_cases c : x4 = 1
              · replace h := h.1 c
                refine j_si 1 mt_141 rfl ⟨by decide, by decide⟩ c (by decide) rfl rfl ?_
                refine v_s mt_141 rfl rfl rfl ?_
                refine v_gr (w := 48) 10 mt_141 rfl rfl c_0 (by decide) g_11_10 ?_
                refine v_s mt_141 rfl rfl rfl ?_
                refine v_gr (w := (vA sw)) 2 mt_141 rfl rfl c_0 (by decide) g_11_2 ?_
                obtain ⟨c5, J4, z6, h⟩ := h
                refine v_call (d1 := 0) mt_141 rfl rfl mt_62 rfl rfl (m_callj (As := [.ref (vA sw)]) (rest := []) rfl rfl c_48 rfl (Nat.le_of_ble_eq_true rfl) (Nat.le_of_ble_eq_true rfl)) z6 (by clear h; omega) ?_
                exact v_ret mt_141 rfl rfl rfl h
              have c1 := c
              replace h := h.2
              by_cases c : x4 = 2
              · replace h := h.1 c
                refine j_si 2 mt_141 rfl ⟨by decide, by decide⟩ c (by decide) rfl rfl ?_
                refine v_s mt_141 rfl rfl rfl ?_
                refine v_gr (w := 48) 10 mt_141 rfl rfl c_0 (by decide) g_11_10 ?_
                refine v_s mt_141 rfl rfl rfl ?_
                refine v_gr (w := (vA sw)) 2 mt_141 rfl rfl c_0 (by decide) g_11_2 ?_
                obtain ⟨c7, J6, z7, h⟩ := h
                refine v_call (d1 := 1) mt_141 rfl rfl mt_65 rfl rfl (m_callj (As := [.ref (vA sw)]) (rest := []) rfl rfl c_48 rfl (Nat.le_of_ble_eq_true rfl) (Nat.le_of_ble_eq_true rfl)) z7 (by clear h; omega) ?_
                exact v_ret mt_141 rfl rfl rfl h
              have c2 := c
              replace h := h.2
              have hz : x4 < 0 ∨ 2 < x4 := sw_0_2 c0 c1 c2
              replace h := h hz
              refine j_sd mt_141 rfl z3 hz rfl ?_
              refine v_s mt_141 rfl rfl rfl ?_
              refine v_gr (w := 48) 10 mt_141 rfl rfl c_0 (by decide) g_11_10 ?_
              refine j_gi (w := J1 48 8) 8 mt_141 rfl rfl c_48 (by decide) rfl ?_
              exact v_ret mt_141 rfl rfl rfl h
            · replace h := h.2 (Int.not_le.mp c)
              refine v_s mt_154 rfl rfl rfl ?_
              refine v_inx (L1 := [some (.ref 0)]) mt_154 rfl rfl mt_150 rfl rfl (m_callj (As := []) (rest := []) rfl rfl c_0 rfl (Nat.le_of_ble_eq_true rfl) (Nat.le_of_ble_eq_true rfl)) rfl (by clear h; omega) rfl rfl ?_
              refine v_s mt_150 rfl rfl rfl ?_
              refine v_s mt_150 rfl rfl rfl ?_
              refine j_gi (w := J 0 18) 18 mt_150 rfl rfl c_0 (by decide) rfl ?_
              refine v_ic (v := Int32.ofInt 1) mt_150 rfl rfl ?_
              refine j_add (e := (J 0 18) + 1) mt_150 rfl rfl ?_
              refine j_pi 18 mt_150 rfl rfl c_0 (by decide) ?_
              exact v_thr mt_150 rfl rfl (Nat.le_of_ble_eq_true rfl) h
        · replace h := h.2 (Int.not_le.mp c)
          refine v_s mt_154 rfl rfl rfl ?_
          refine v_inx (L1 := [some (.ref 0)]) mt_154 rfl rfl mt_150 rfl rfl (m_callj (As := []) (rest := []) rfl rfl c_0 rfl (Nat.le_of_ble_eq_true rfl) (Nat.le_of_ble_eq_true rfl)) rfl (by clear h; omega) rfl rfl ?_
          refine v_s mt_150 rfl rfl rfl ?_
          refine v_s mt_150 rfl rfl rfl ?_
          refine j_gi (w := J 0 18) 18 mt_150 rfl rfl c_0 (by decide) rfl ?_
          refine v_ic (v := Int32.ofInt 1) mt_150 rfl rfl ?_
          refine j_add (e := (J 0 18) + 1) mt_150 rfl rfl ?_
          refine j_pi 18 mt_150 rfl rfl c_0 (by decide) ?_
          exact v_thr mt_150 rfl rfl (Nat.le_of_ble_eq_true rfl) h
    · replace h := h.2 (Int.not_le.mp c)
      refine v_s mt_154 rfl rfl rfl ?_
      refine v_inx (L1 := [some (.ref 0)]) mt_154 rfl rfl mt_150 rfl rfl (m_callj (As := []) (rest := []) rfl rfl c_0 rfl (Nat.le_of_ble_eq_true rfl) (Nat.le_of_ble_eq_true rfl)) rfl (by clear h; omega) rfl rfl ?_
      refine v_s mt_150 rfl rfl rfl ?_
      refine v_s mt_150 rfl rfl rfl ?_
      refine j_gi (w := J 0 18) 18 mt_150 rfl rfl c_0 (by decide) rfl ?_
      refine v_ic (v := Int32.ofInt 1) mt_150 rfl rfl ?_
      refine j_add (e := (J 0 18) + 1) mt_150 rfl rfl ?_
      refine j_pi 18 mt_150 rfl rfl c_0 (by decide) ?_
      exact v_thr mt_150 rfl rfl (Nat.le_of_ble_eq_true rfl) h
set_option maxHeartbeats 600000 in
theorem b_142_0 {X : Nat × (Nat → Int32)} {d : Nat} {J : Nat → Nat → Int} {sw : Bool × Bool × Bool} {lg : Nat → Nat → Int64} {x : Nat} {K : (Option Value ⊕ Nat) → mM → Prop} {x1 x2 x3 x4 x5 : Int} {o6 o7 o8 o9 o10 : Option Value} (hd : 6 ≤ d)
    (h : InR x2 ∧ (x2 < 1 → K (.inr 2) (mj (m_up J 0 18 ((J 0 18) + 1)) sw lg (x + 1))) ∧ (1 ≤ x2 → ((x2 ≤ 20 → (InR x3 ∧ (x3 < 0 → K (.inr 2) (mj (m_up J 0 18 ((J 0 18) + 1)) sw lg (x + 1))) ∧ (0 ≤ x3 → ((x3 ≤ 16 → (InR x4 ∧ (x4 < 1 → K (.inr 2) (mj (m_up J 0 18 ((J 0 18) + 1)) sw lg (x + 1))) ∧ (1 ≤ x4 → ((x4 ≤ 96 → (InR x5 ∧ (x5 < 0 → K (.inr 2) (mj (m_up J 0 18 ((J 0 18) + 1)) sw lg (x + 1))) ∧ (0 ≤ x5 → ((x5 ≤ 2 → VV X d 142 (47, [some (.ref 0), some (iv x1), some (iv x2), some (iv x3), some (iv x4), some (iv x5), some (iv 2147483647), some (iv 0), some (iv 0), some (iv 0), o10], [], mj J sw lg x) K) ∧ (2 < x5 → K (.inr 2) (mj (m_up J 0 18 ((J 0 18) + 1)) sw lg (x + 1))))))) ∧ (96 < x4 → K (.inr 2) (mj (m_up J 0 18 ((J 0 18) + 1)) sw lg (x + 1))))))) ∧ (16 < x3 → K (.inr 2) (mj (m_up J 0 18 ((J 0 18) + 1)) sw lg (x + 1))))))) ∧ (20 < x2 → K (.inr 2) (mj (m_up J 0 18 ((J 0 18) + 1)) sw lg (x + 1)))))) : VV X d 142 (0, [some (.ref 0), some (iv x1), some (iv x2), some (iv x3), some (iv x4), some (iv x5), o6, o7, o8, o9, o10], [], mj J sw lg x) K := by
  refine v_s mt_142 rfl rfl rfl ?_
  refine v_s mt_142 rfl rfl rfl ?_
  refine v_ic (v := Int32.ofInt 1) mt_142 rfl rfl ?_
  refine v_bp (v := Int32.ofInt 20) mt_142 rfl rfl ?_
  refine v_inx (L1 := [some (.ref 0), some (iv x2), some (iv 1), some (iv 20)]) mt_142 rfl rfl mt_154 rfl rfl (m_callj (As := [iv x2, iv 1, iv 20]) (rest := []) rfl rfl c_0 rfl (Nat.le_of_ble_eq_true rfl) (Nat.le_of_ble_eq_true rfl)) rfl (by clear h; omega) rfl rfl ?_
  refine v_s mt_154 rfl rfl rfl ?_
  refine v_s mt_154 rfl rfl rfl ?_
  obtain ⟨z1, h⟩ := h
  refine j_if2 mt_154 rfl rfl z1 ⟨by decide, by decide⟩ (fun c => ?_) (fun c => ?_)
  · replace h := h.1 c
    refine v_s mt_154 rfl rfl rfl ?_
    refine v_inx (L1 := [some (.ref 0)]) mt_154 rfl rfl mt_150 rfl rfl (m_callj (As := []) (rest := []) rfl rfl c_0 rfl (Nat.le_of_ble_eq_true rfl) (Nat.le_of_ble_eq_true rfl)) rfl (by clear h; omega) rfl rfl ?_
    refine v_s mt_150 rfl rfl rfl ?_
    refine v_s mt_150 rfl rfl rfl ?_
    refine j_gi (w := J 0 18) 18 mt_150 rfl rfl c_0 (by decide) rfl ?_
    refine v_ic (v := Int32.ofInt 1) mt_150 rfl rfl ?_
    refine j_add (e := (J 0 18) + 1) mt_150 rfl rfl ?_
    refine j_pi 18 mt_150 rfl rfl c_0 (by decide) ?_
    exact v_thr mt_150 rfl rfl (Nat.le_of_ble_eq_true rfl) h
  · replace h := h.2 (Int.not_lt.mp c)
    refine v_s mt_154 rfl rfl rfl ?_
    refine v_s mt_154 rfl rfl rfl ?_
    refine j_if2 mt_154 rfl rfl z1 ⟨by decide, by decide⟩ (fun c => ?_) (fun c => ?_)
    · replace h := h.1 c
      refine v_ret mt_154 rfl rfl rfl ?_
      refine v_s mt_142 rfl rfl rfl ?_
      refine v_s mt_142 rfl rfl rfl ?_
      refine v_ic (v := Int32.ofInt 0) mt_142 rfl rfl ?_
      refine v_bp (v := Int32.ofInt 16) mt_142 rfl rfl ?_
      refine v_inx (L1 := [some (.ref 0), some (iv x3), some (iv 0), some (iv 16)]) mt_142 rfl rfl mt_154 rfl rfl (m_callj (As := [iv x3, iv 0, iv 16]) (rest := []) rfl rfl c_0 rfl (Nat.le_of_ble_eq_true rfl) (Nat.le_of_ble_eq_true rfl)) rfl (by clear h; omega) rfl rfl ?_
      refine v_s mt_154 rfl rfl rfl ?_
      refine v_s mt_154 rfl rfl rfl ?_
      obtain ⟨z2, h⟩ := h
      refine j_if2 mt_154 rfl rfl z2 ⟨by decide, by decide⟩ (fun c => ?_) (fun c => ?_)
      · replace h := h.1 c
        refine v_s mt_154 rfl rfl rfl ?_
        refine v_inx (L1 := [some (.ref 0)]) mt_154 rfl rfl mt_150 rfl rfl (m_callj (As := []) (rest := []) rfl rfl c_0 rfl (Nat.le_of_ble_eq_true rfl) (Nat.le_of_ble_eq_true rfl)) rfl (by clear h; omega) rfl rfl ?_
        refine v_s mt_150 rfl rfl rfl ?_
        refine v_s mt_150 rfl rfl rfl ?_
        refine j_gi (w := J 0 18) 18 mt_150 rfl rfl c_0 (by decide) rfl ?_
        refine v_ic (v := Int32.ofInt 1) mt_150 rfl rfl ?_
        refine j_add (e := (J 0 18) + 1) mt_150 rfl rfl ?_
        refine j_pi 18 mt_150 rfl rfl c_0 (by decide) ?_
        exact v_thr mt_150 rfl rfl (Nat.le_of_ble_eq_true rfl) h
      · replace h := h.2 (Int.not_lt.mp c)
        refine v_s mt_154 rfl rfl rfl ?_
        refine v_s mt_154 rfl rfl rfl ?_
        refine j_if2 mt_154 rfl rfl z2 ⟨by decide, by decide⟩ (fun c => ?_) (fun c => ?_)
        · replace h := h.1 c
          refine v_ret mt_154 rfl rfl rfl ?_
          refine v_s mt_142 rfl rfl rfl ?_
          refine v_s mt_142 rfl rfl rfl ?_
          refine v_ic (v := Int32.ofInt 1) mt_142 rfl rfl ?_
          refine v_bp (v := Int32.ofInt 96) mt_142 rfl rfl ?_
          refine v_inx (L1 := [some (.ref 0), some (iv x4), some (iv 1), some (iv 96)]) mt_142 rfl rfl mt_154 rfl rfl (m_callj (As := [iv x4, iv 1, iv 96]) (rest := []) rfl rfl c_0 rfl (Nat.le_of_ble_eq_true rfl) (Nat.le_of_ble_eq_true rfl)) rfl (by clear h; omega) rfl rfl ?_
          refine v_s mt_154 rfl rfl rfl ?_
          refine v_s mt_154 rfl rfl rfl ?_
          obtain ⟨z3, h⟩ := h
          refine j_if2 mt_154 rfl rfl z3 ⟨by decide, by decide⟩ (fun c => ?_) (fun c => ?_)
          · replace h := h.1 c
            refine v_s mt_154 rfl rfl rfl ?_
            refine v_inx (L1 := [some (.ref 0)]) mt_154 rfl rfl mt_150 rfl rfl (m_callj (As := []) (rest := []) rfl rfl c_0 rfl (Nat.le_of_ble_eq_true rfl) (Nat.le_of_ble_eq_true rfl)) rfl (by clear h; omega) rfl rfl ?_
            refine v_s mt_150 rfl rfl rfl ?_
            refine v_s mt_150 rfl rfl rfl ?_
            refine j_gi (w := J 0 18) 18 mt_150 rfl rfl c_0 (by decide) rfl ?_
            refine v_ic (v := Int32.ofInt 1) mt_150 rfl rfl ?_
            refine j_add (e := (J 0 18) + 1) mt_150 rfl rfl ?_
            refine j_pi 18 mt_150 rfl rfl c_0 (by decide) ?_
            exact v_thr mt_150 rfl rfl (Nat.le_of_ble_eq_true rfl) h
          · replace h := h.2 (Int.not_lt.mp c)
            refine v_s mt_154 rfl rfl rfl ?_
            refine v_s mt_154 rfl rfl rfl ?_
            refine j_if2 mt_154 rfl rfl z3 ⟨by decide, by decide⟩ (fun c => ?_) (fun c => ?_)
            · replace h := h.1 c
              refine v_ret mt_154 rfl rfl rfl ?_
              refine v_s mt_142 rfl rfl rfl ?_
              refine v_s mt_142 rfl rfl rfl ?_
              refine v_ic (v := Int32.ofInt 0) mt_142 rfl rfl ?_
              refine v_ic (v := Int32.ofInt 2) mt_142 rfl rfl ?_
              refine v_inx (L1 := [some (.ref 0), some (iv x5), some (iv 0), some (iv 2)]) mt_142 rfl rfl mt_154 rfl rfl (m_callj (As := [iv x5, iv 0, iv 2]) (rest := []) rfl rfl c_0 rfl (Nat.le_of_ble_eq_true rfl) (Nat.le_of_ble_eq_true rfl)) rfl (by clear h; omega) rfl rfl ?_
              refine v_s mt_154 rfl rfl rfl ?_
              refine v_s mt_154 rfl rfl rfl ?_
              obtain ⟨z4, h⟩ := h
              refine j_if2 mt_154 rfl rfl z4 ⟨by decide, by decide⟩ (fun c => ?_) (fun c => ?_)
              · replace h := h.1 c
                refine v_s mt_154 rfl rfl rfl ?_
                refine v_inx (L1 := [some (.ref 0)]) mt_154 rfl rfl mt_150 rfl rfl (m_callj (As := []) (rest := []) rfl rfl c_0 rfl (Nat.le_of_ble_eq_true rfl) (Nat.le_of_ble_eq_true rfl)) rfl (by clear h; omega) rfl rfl ?_
                refine v_s mt_150 rfl rfl rfl ?_
                refine v_s mt_150 rfl rfl rfl ?_
                refine j_gi (w := J 0 18) 18 mt_150 rfl rfl c_0 (by decide) rfl ?_
                refine v_ic (v := Int32.ofInt 1) mt_150 rfl rfl ?_
                refine j_add (e := (J 0 18) + 1) mt_150 rfl rfl ?_
                refine j_pi 18 mt_150 rfl rfl c_0 (by decide) ?_
                exact v_thr mt_150 rfl rfl (Nat.le_of_ble_eq_true rfl) h
              · replace h := h.2 (Int.not_lt.mp c)
                refine v_s mt_154 rfl rfl rfl ?_
                refine v_s mt_154 rfl rfl rfl ?_
                refine j_if2 mt_154 rfl rfl z4 ⟨by decide, by decide⟩ (fun c => ?_) (fun c => ?_)
                · replace h := h.1 c
                  refine v_ret mt_154 rfl rfl rfl ?_
                  refine j_ldw (e := 2147483647) mt_142 rfl rfl ?_
                  refine v_is (L' := [some (.ref 0), some (iv x1), some (iv x2), some (iv x3), some (iv x4), some (iv x5), some (iv 2147483647), o7, o8, o9, o10]) mt_142 rfl (Nat.le_of_ble_eq_true rfl) rfl ?_
                  refine v_ic (v := Int32.ofInt 0) mt_142 rfl rfl ?_
                  refine v_is (L' := [some (.ref 0), some (iv x1), some (iv x2), some (iv x3), some (iv x4), some (iv x5), some (iv 2147483647), some (iv 0), o8, o9, o10]) mt_142 rfl (Nat.le_of_ble_eq_true rfl) rfl ?_
                  refine v_ic (v := Int32.ofInt 0) mt_142 rfl rfl ?_
                  refine v_is (L' := [some (.ref 0), some (iv x1), some (iv x2), some (iv x3), some (iv x4), some (iv x5), some (iv 2147483647), some (iv 0), some (iv 0), o9, o10]) mt_142 rfl (Nat.le_of_ble_eq_true rfl) rfl ?_
                  refine v_ic (v := Int32.ofInt 0) mt_142 rfl rfl ?_
                  refine v_is (L' := [some (.ref 0), some (iv x1), some (iv x2), some (iv x3), some (iv x4), some (iv x5), some (iv 2147483647), some (iv 0), some (iv 0), some (iv 0), o10]) mt_142 rfl (Nat.le_of_ble_eq_true rfl) rfl ?_
                  exact h
                · replace h := h.2 (Int.not_le.mp c)
                  refine v_s mt_154 rfl rfl rfl ?_
                  refine v_inx (L1 := [some (.ref 0)]) mt_154 rfl rfl mt_150 rfl rfl (m_callj (As := []) (rest := []) rfl rfl c_0 rfl (Nat.le_of_ble_eq_true rfl) (Nat.le_of_ble_eq_true rfl)) rfl (by clear h; omega) rfl rfl ?_
                  refine v_s mt_150 rfl rfl rfl ?_
                  refine v_s mt_150 rfl rfl rfl ?_
                  refine j_gi (w := J 0 18) 18 mt_150 rfl rfl c_0 (by decide) rfl ?_
                  refine v_ic (v := Int32.ofInt 1) mt_150 rfl rfl ?_
                  refine j_add (e := (J 0 18) + 1) mt_150 rfl rfl ?_
                  refine j_pi 18 mt_150 rfl rfl c_0 (by decide) ?_
                  exact v_thr mt_150 rfl rfl (Nat.le_of_ble_eq_true rfl) h
            · replace h := h.2 (Int.not_le.mp c)
              refine v_s mt_154 rfl rfl rfl ?_
              refine v_inx (L1 := [some (.ref 0)]) mt_154 rfl rfl mt_150 rfl rfl (m_callj (As := []) (rest := []) rfl rfl c_0 rfl (Nat.le_of_ble_eq_true rfl) (Nat.le_of_ble_eq_true rfl)) rfl (by clear h; omega) rfl rfl ?_
              refine v_s mt_150 rfl rfl rfl ?_
              refine v_s mt_150 rfl rfl rfl ?_
              refine j_gi (w := J 0 18) 18 mt_150 rfl rfl c_0 (by decide) rfl ?_
              refine v_ic (v := Int32.ofInt 1) mt_150 rfl rfl ?_
              refine j_add (e := (J 0 18) + 1) mt_150 rfl rfl ?_
              refine j_pi 18 mt_150 rfl rfl c_0 (by decide) ?_
              exact v_thr mt_150 rfl rfl (Nat.le_of_ble_eq_true rfl) h
        · replace h := h.2 (Int.not_le.mp c)
          refine v_s mt_154 rfl rfl rfl ?_
          refine v_inx (L1 := [some (.ref 0)]) mt_154 rfl rfl mt_150 rfl rfl (m_callj (As := []) (rest := []) rfl rfl c_0 rfl (Nat.le_of_ble_eq_true rfl) (Nat.le_of_ble_eq_true rfl)) rfl (by clear h; omega) rfl rfl ?_
          refine v_s mt_150 rfl rfl rfl ?_
          refine v_s mt_150 rfl rfl rfl ?_
          refine j_gi (w := J 0 18) 18 mt_150 rfl rfl c_0 (by decide) rfl ?_
          refine v_ic (v := Int32.ofInt 1) mt_150 rfl rfl ?_
          refine j_add (e := (J 0 18) + 1) mt_150 rfl rfl ?_
          refine j_pi 18 mt_150 rfl rfl c_0 (by decide) ?_
          exact v_thr mt_150 rfl rfl (Nat.le_of_ble_eq_true rfl) h
    · replace h := h.2 (Int.not_le.mp c)
      refine v_s mt_154 rfl rfl rfl ?_
      refine v_inx (L1 := [some (.ref 0)]) mt_154 rfl rfl mt_150 rfl rfl (m_callj (As := []) (rest := []) rfl rfl c_0 rfl (Nat.le_of_ble_eq_true rfl) (Nat.le_of_ble_eq_true rfl)) rfl (by clear h; omega) rfl rfl ?_
      refine v_s mt_150 rfl rfl rfl ?_
      refine v_s mt_150 rfl rfl rfl ?_
      refine j_gi (w := J 0 18) 18 mt_150 rfl rfl c_0 (by decide) rfl ?_
      refine v_ic (v := Int32.ofInt 1) mt_150 rfl rfl ?_
      refine j_add (e := (J 0 18) + 1) mt_150 rfl rfl ?_
      refine j_pi 18 mt_150 rfl rfl c_0 (by decide) ?_
      exact v_thr mt_150 rfl rfl (Nat.le_of_ble_eq_true rfl) h
set_option maxHeartbeats 600000 in
theorem b_142_47 {X : Nat × (Nat → Int32)} {d : Nat} {J : Nat → Nat → Int} {sw : Bool × Bool × Bool} {lg : Nat → Nat → Int64} {x : Nat} {K : (Option Value ⊕ Nat) → mM → Prop} {x1 x2 x3 x4 x5 x6 x7 x8 x9 : Int} {o10 : Option Value} (hd : 6 ≤ d)
    (h : InR x9 ∧ InR x2 ∧ (x2 ≤ x9 → (InR x5 ∧ (¬ x5 = 0 → ((¬ x5 = 1 → K (.inl (some (iv x8))) (mj J sw lg x)) ∧ (x5 = 1 → K (.inl (some (iv x7))) (mj J sw lg x)))) ∧ (x5 = 0 → K (.inl (some (iv x6))) (mj J sw lg x)))) ∧ (x9 < x2 → (∃ (J1 : Nat → Nat → Int), EE X 5 158 [.ref 0, iv (x1 + x9), iv x3, iv x4] (mj J sw lg x) (.inl none) (mj J1 sw lg x) ∧ ∃ (c3 : Int) (J2 : Nat → Nat → Int), EE X 0 61 [.ref 48, .ref (vA sw)] (mj J1 sw lg x) (.inl (some (iv c3))) (mj J2 sw lg x) ∧ InR x6 ∧ InR c3 ∧ InR x7 ∧ ∃ (c5 : Int) (J4 : Nat → Nat → Int), EE X 1 65 [.ref 48, .ref (vA sw)] (mj J2 sw lg x) (.inl (some (iv c5))) (mj J4 sw lg x) ∧ InR c5 ∧ InR ((bShl 1 (J4 (vA sw) 0)) - 1) ∧ (¬ c5 = (bShl 1 (J4 (vA sw) 0)) - 1 → VV X d 142 (47, [some (.ref 0), some (iv x1), some (iv x2), some (iv x3), some (iv x4), some (iv x5), some (iv (min x6 c3)), some (iv (max x7 c3)), some (iv x8), some (iv (x9 + 1)), some (iv c3)], [], mj J4 sw lg x) K) ∧ (c5 = (bShl 1 (J4 (vA sw) 0)) - 1 → VV X d 142 (47, [some (.ref 0), some (iv x1), some (iv x2), some (iv x3), some (iv x4), some (iv x5), some (iv (min x6 c3)), some (iv (max x7 c3)), some (iv (x8 + 1)), some (iv (x9 + 1)), some (iv c3)], [], mj J4 sw lg x) K)))) : VV X d 142 (47, [some (.ref 0), some (iv x1), some (iv x2), some (iv x3), some (iv x4), some (iv x5), some (iv x6), some (iv x7), some (iv x8), some (iv x9), o10], [], mj J sw lg x) K := by
  refine v_s mt_142 rfl rfl rfl ?_
  refine v_s mt_142 rfl rfl rfl ?_
  obtain ⟨z1, h⟩ := h
  obtain ⟨z2, h⟩ := h
  refine j_if2 mt_142 rfl rfl z1 z2 (fun c => ?_) (fun c => ?_)
  · replace h := h.1 c
    refine v_s mt_142 rfl rfl rfl ?_
    obtain ⟨z3, h⟩ := h
    refine j_if1 mt_142 rfl rfl z3 (fun c => ?_) (fun c => ?_)
    · replace h := h.1 c
      refine v_s mt_142 rfl rfl rfl ?_
      refine v_ic (v := Int32.ofInt 1) mt_142 rfl rfl ?_
      refine j_if2 mt_142 rfl rfl z3 ⟨by decide, by decide⟩ (fun c => ?_) (fun c => ?_)
      · replace h := h.1 c
        refine v_s mt_142 rfl rfl rfl ?_
        exact v_ret mt_142 rfl rfl rfl h
      · replace h := h.2 (Decidable.not_not.mp c)
        refine v_s mt_142 rfl rfl rfl ?_
        refine v_go mt_142 rfl rfl ?_
        exact v_ret mt_142 rfl rfl rfl h
    · replace h := h.2 (Decidable.not_not.mp c)
      refine v_s mt_142 rfl rfl rfl ?_
      exact v_ret mt_142 rfl rfl rfl h
  · replace h := h.2 (Int.not_le.mp c)
    refine v_s mt_142 rfl rfl rfl ?_
    refine v_s mt_142 rfl rfl rfl ?_
    refine v_s mt_142 rfl rfl rfl ?_
    refine j_add (e := x1 + x9) mt_142 rfl rfl ?_
    refine v_s mt_142 rfl rfl rfl ?_
    refine v_s mt_142 rfl rfl rfl ?_
    obtain ⟨J1, z4, h⟩ := h
    refine v_call (d1 := 5) mt_142 rfl rfl mt_158 rfl rfl (m_callj (As := [iv (x1 + x9), iv x3, iv x4]) (rest := []) rfl rfl c_0 rfl (Nat.le_of_ble_eq_true rfl) (Nat.le_of_ble_eq_true rfl)) z4 (by clear h; omega) ?_
    refine v_s mt_142 rfl rfl rfl ?_
    refine v_gr (w := 48) 10 mt_142 rfl rfl c_0 (by decide) g_11_10 ?_
    refine v_s mt_142 rfl rfl rfl ?_
    refine v_gr (w := (vA sw)) 2 mt_142 rfl rfl c_0 (by decide) g_11_2 ?_
    obtain ⟨c3, J2, z5, h⟩ := h
    refine v_call (d1 := 0) mt_142 rfl rfl mt_61 rfl rfl (m_callj (As := [.ref (vA sw)]) (rest := []) rfl rfl c_48 rfl (Nat.le_of_ble_eq_true rfl) (Nat.le_of_ble_eq_true rfl)) z5 (by clear h; omega) ?_
    refine v_is (L' := [some (.ref 0), some (iv x1), some (iv x2), some (iv x3), some (iv x4), some (iv x5), some (iv x6), some (iv x7), some (iv x8), some (iv x9), some (iv c3)]) mt_142 rfl (Nat.le_of_ble_eq_true rfl) rfl ?_
    refine v_s mt_142 rfl rfl rfl ?_
    refine v_s mt_142 rfl rfl rfl ?_
    obtain ⟨z6, h⟩ := h
    obtain ⟨z7, h⟩ := h
    refine j_min mt_142 rfl (Nat.le_of_ble_eq_true rfl) z6 z7 ?_
    refine v_is (L' := [some (.ref 0), some (iv x1), some (iv x2), some (iv x3), some (iv x4), some (iv x5), some (iv (min x6 c3)), some (iv x7), some (iv x8), some (iv x9), some (iv c3)]) mt_142 rfl (Nat.le_of_ble_eq_true rfl) rfl ?_
    refine v_s mt_142 rfl rfl rfl ?_
    refine v_s mt_142 rfl rfl rfl ?_
    obtain ⟨z8, h⟩ := h
    refine j_max mt_142 rfl (Nat.le_of_ble_eq_true rfl) z8 z7 ?_
    refine v_is (L' := [some (.ref 0), some (iv x1), some (iv x2), some (iv x3), some (iv x4), some (iv x5), some (iv (min x6 c3)), some (iv (max x7 c3)), some (iv x8), some (iv x9), some (iv c3)]) mt_142 rfl (Nat.le_of_ble_eq_true rfl) rfl ?_
    refine v_s mt_142 rfl rfl rfl ?_
    refine v_gr (w := 48) 10 mt_142 rfl rfl c_0 (by decide) g_11_10 ?_
    refine v_s mt_142 rfl rfl rfl ?_
    refine v_gr (w := (vA sw)) 2 mt_142 rfl rfl c_0 (by decide) g_11_2 ?_
    obtain ⟨c5, J4, z9, h⟩ := h
    refine v_call (d1 := 1) mt_142 rfl rfl mt_65 rfl rfl (m_callj (As := [.ref (vA sw)]) (rest := []) rfl rfl c_48 rfl (Nat.le_of_ble_eq_true rfl) (Nat.le_of_ble_eq_true rfl)) z9 (by clear h; omega) ?_
    refine v_ic (v := Int32.ofInt 1) mt_142 rfl rfl ?_
    refine v_s mt_142 rfl rfl rfl ?_
    refine v_gr (w := (vA sw)) 2 mt_142 rfl rfl c_0 (by decide) g_11_2 ?_
    refine j_gi (w := J4 (vA sw) 0) 0 mt_142 rfl rfl (cvA sw) (by decide) rfl ?_
    refine j_shl (e := bShl 1 (J4 (vA sw) 0)) mt_142 rfl rfl ?_
    refine v_ic (v := Int32.ofInt 1) mt_142 rfl rfl ?_
    refine j_sub (e := (bShl 1 (J4 (vA sw) 0)) - 1) mt_142 rfl rfl ?_
    obtain ⟨z10, h⟩ := h
    obtain ⟨z11, h⟩ := h
    refine j_if2 mt_142 rfl rfl z10 z11 (fun c => ?_) (fun c => ?_)
    · replace h := h.1 c
      refine j_inc (e := x9 + 1) (L' := [some (.ref 0), some (iv x1), some (iv x2), some (iv x3), some (iv x4), some (iv x5), some (iv (min x6 c3)), some (iv (max x7 c3)), some (iv x8), some (iv (x9 + 1)), some (iv c3)]) mt_142 rfl rfl (Nat.le_of_ble_eq_true rfl) rfl rfl ?_
      refine v_go mt_142 rfl rfl ?_
      exact h
    · replace h := h.2 (Decidable.not_not.mp c)
      refine j_inc (e := x8 + 1) (L' := [some (.ref 0), some (iv x1), some (iv x2), some (iv x3), some (iv x4), some (iv x5), some (iv (min x6 c3)), some (iv (max x7 c3)), some (iv (x8 + 1)), some (iv x9), some (iv c3)]) mt_142 rfl rfl (Nat.le_of_ble_eq_true rfl) rfl rfl ?_
      refine j_inc (e := x9 + 1) (L' := [some (.ref 0), some (iv x1), some (iv x2), some (iv x3), some (iv x4), some (iv x5), some (iv (min x6 c3)), some (iv (max x7 c3)), some (iv (x8 + 1)), some (iv (x9 + 1)), some (iv c3)]) mt_142 rfl rfl (Nat.le_of_ble_eq_true rfl) rfl rfl ?_
      refine v_go mt_142 rfl rfl ?_
      exact h
set_option maxHeartbeats 600000 in
theorem b_155_0 {X : Nat × (Nat → Int32)} {d : Nat} {J : Nat → Nat → Int} {sw : Bool × Bool × Bool} {lg : Nat → Nat → Int64} {x : Nat} {K : (Option Value ⊕ Nat) → mM → Prop} {x0 x1 x2 x3 : Int} (hd : 1 ≤ d)
    (h : ∃ (c2 : Int) (J1 : Nat → Nat → Int), EE X 0 156 [iv x0, iv x1, iv x2, iv x3] (mj J sw lg x) (.inl (some (iv c2))) (mj J1 sw lg x) ∧ ∃ (c4 : Int) (J3 : Nat → Nat → Int), EE X 0 156 [iv x0, iv x1, iv (1 - x2), iv x3] (mj J1 sw lg x) (.inl (some (iv c4))) (mj J3 sw lg x) ∧ InR c2 ∧ InR c4 ∧ (c2 < c4 → K (.inl (some (iv 0))) (mj J3 sw lg x)) ∧ (c4 ≤ c2 → (∃ (c6 : Int) (J5 : Nat → Nat → Int), EE X 0 156 [iv x0, iv x1, iv x3, iv x2] (mj J3 sw lg x) (.inl (some (iv c6))) (mj J5 sw lg x) ∧ ∃ (c8 : Int) (J7 : Nat → Nat → Int), EE X 0 156 [iv x0, iv x1, iv (1 - x3), iv x2] (mj J5 sw lg x) (.inl (some (iv c8))) (mj J7 sw lg x) ∧ InR c6 ∧ InR c8 ∧ (c6 < c8 → K (.inl (some (iv 0))) (mj J7 sw lg x)) ∧ (c8 ≤ c6 → K (.inl (some (iv 1))) (mj J7 sw lg x))))) : VV X d 155 (0, [some (iv x0), some (iv x1), some (iv x2), some (iv x3)], [], mj J sw lg x) K := by
  refine v_s mt_155 rfl rfl rfl ?_
  refine v_s mt_155 rfl rfl rfl ?_
  refine v_s mt_155 rfl rfl rfl ?_
  refine v_s mt_155 rfl rfl rfl ?_
  obtain ⟨c2, J1, z1, h⟩ := h
  refine v_call (d1 := 0) mt_155 rfl rfl mt_156 rfl rfl rfl z1 (by clear h; omega) ?_
  refine v_s mt_155 rfl rfl rfl ?_
  refine v_s mt_155 rfl rfl rfl ?_
  refine v_ic (v := Int32.ofInt 1) mt_155 rfl rfl ?_
  refine v_s mt_155 rfl rfl rfl ?_
  refine j_sub (e := 1 - x2) mt_155 rfl rfl ?_
  refine v_s mt_155 rfl rfl rfl ?_
  obtain ⟨c4, J3, z2, h⟩ := h
  refine v_call (d1 := 0) mt_155 rfl rfl mt_156 rfl rfl rfl z2 (by clear h; omega) ?_
  obtain ⟨z3, h⟩ := h
  obtain ⟨z4, h⟩ := h
  refine j_if2 mt_155 rfl rfl z3 z4 (fun c => ?_) (fun c => ?_)
  · replace h := h.1 c
    refine v_ic (v := Int32.ofInt 0) mt_155 rfl rfl ?_
    exact j_retb mt_155 rfl rfl (by decide) h
  · replace h := h.2 (Int.not_lt.mp c)
    refine v_s mt_155 rfl rfl rfl ?_
    refine v_s mt_155 rfl rfl rfl ?_
    refine v_s mt_155 rfl rfl rfl ?_
    refine v_s mt_155 rfl rfl rfl ?_
    obtain ⟨c6, J5, z5, h⟩ := h
    refine v_call (d1 := 0) mt_155 rfl rfl mt_156 rfl rfl rfl z5 (by clear h; omega) ?_
    refine v_s mt_155 rfl rfl rfl ?_
    refine v_s mt_155 rfl rfl rfl ?_
    refine v_ic (v := Int32.ofInt 1) mt_155 rfl rfl ?_
    refine v_s mt_155 rfl rfl rfl ?_
    refine j_sub (e := 1 - x3) mt_155 rfl rfl ?_
    refine v_s mt_155 rfl rfl rfl ?_
    obtain ⟨c8, J7, z6, h⟩ := h
    refine v_call (d1 := 0) mt_155 rfl rfl mt_156 rfl rfl rfl z6 (by clear h; omega) ?_
    obtain ⟨z7, h⟩ := h
    obtain ⟨z8, h⟩ := h
    refine j_if2 mt_155 rfl rfl z7 z8 (fun c => ?_) (fun c => ?_)
    · replace h := h.1 c
      refine v_ic (v := Int32.ofInt 0) mt_155 rfl rfl ?_
      exact j_retb mt_155 rfl rfl (by decide) h
    · replace h := h.2 (Int.not_lt.mp c)
      refine v_ic (v := Int32.ofInt 1) mt_155 rfl rfl ?_
      refine v_go mt_155 rfl rfl ?_
      exact j_retb mt_155 rfl rfl (by decide) h
set_option maxHeartbeats 600000 in
theorem b_156_0 {X : Nat × (Nat → Int32)} {d : Nat} {J : Nat → Nat → Int} {sw : Bool × Bool × Bool} {lg : Nat → Nat → Int64} {x : Nat} {K : (Option Value ⊕ Nat) → mM → Prop} {x0 x1 x2 x3 : Int}
    (h : InR x2 ∧ (¬ x2 = 0 → (InR x3 ∧ (¬ x3 = 0 → K (.inl (some (iv x0))) (mj J sw lg x)) ∧ (x3 = 0 → K (.inl (some (iv (bDiv x0 2)))) (mj J sw lg x)))) ∧ (x2 = 0 → (InR x3 ∧ (¬ x3 = 0 → K (.inl (some (iv x1))) (mj J sw lg x)) ∧ (x3 = 0 → K (.inl (some (iv (-x1)))) (mj J sw lg x))))) : VV X d 156 (0, [some (iv x0), some (iv x1), some (iv x2), some (iv x3)], [], mj J sw lg x) K := by
  refine v_s mt_156 rfl rfl rfl ?_
  obtain ⟨z1, h⟩ := h
  refine j_if1 mt_156 rfl rfl z1 (fun c => ?_) (fun c => ?_)
  · replace h := h.1 c
    refine v_s mt_156 rfl rfl rfl ?_
    obtain ⟨z2, h⟩ := h
    refine j_if1 mt_156 rfl rfl z2 (fun c => ?_) (fun c => ?_)
    · replace h := h.1 c
      refine v_s mt_156 rfl rfl rfl ?_
      exact v_ret mt_156 rfl rfl rfl h
    · replace h := h.2 (Decidable.not_not.mp c)
      refine v_s mt_156 rfl rfl rfl ?_
      refine v_ic (v := Int32.ofInt 2) mt_156 rfl rfl ?_
      refine j_div (e := bDiv x0 2) mt_156 rfl ⟨by decide, by decide⟩ (by decide) rfl ?_
      refine v_go mt_156 rfl rfl ?_
      exact v_ret mt_156 rfl rfl rfl h
  · replace h := h.2 (Decidable.not_not.mp c)
    refine v_s mt_156 rfl rfl rfl ?_
    obtain ⟨z3, h⟩ := h
    refine j_if1 mt_156 rfl rfl z3 (fun c => ?_) (fun c => ?_)
    · replace h := h.1 c
      refine v_s mt_156 rfl rfl rfl ?_
      exact v_ret mt_156 rfl rfl rfl h
    · replace h := h.2 (Decidable.not_not.mp c)
      refine v_s mt_156 rfl rfl rfl ?_
      refine j_neg (e := -x1) mt_156 rfl rfl ?_
      refine v_go mt_156 rfl rfl ?_
      exact v_ret mt_156 rfl rfl rfl h
set_option maxHeartbeats 600000 in
theorem b_157_0 {X : Nat × (Nat → Int32)} {d : Nat} {J : Nat → Nat → Int} {sw : Bool × Bool × Bool} {lg : Nat → Nat → Int64} {x : Nat} {K : (Option Value ⊕ Nat) → mM → Prop} {x1 x2 : Int} {o3 o4 o5 : Option Value}
    (h : VV X d 157 (3, [some (.ref 0), some (iv x1), some (iv x2), some (iv 99), o4, o5], [], mj J sw lg x) K) : VV X d 157 (0, [some (.ref 0), some (iv x1), some (iv x2), o3, o4, o5], [], mj J sw lg x) K := by
  refine v_bp (v := Int32.ofInt 99) mt_157 rfl rfl ?_
  refine v_isn (L' := [some (.ref 0), some (iv x1), some (iv x2), some (iv 99), o4, o5]) mt_157 rfl (Nat.le_of_ble_eq_true rfl) rfl ?_
  exact h
set_option maxHeartbeats 600000 in
theorem b_157_3 {X : Nat × (Nat → Int32)} {d : Nat} {J : Nat → Nat → Int} {sw : Bool × Bool × Bool} {lg : Nat → Nat → Int64} {x : Nat} {K : (Option Value ⊕ Nat) → mM → Prop} {x1 x2 x3 : Int} {o4 o5 : Option Value}
    (h : InR x3 ∧ (x3 ≤ 0 → K (.inl (some (iv 0))) (mj J sw lg x)) ∧ (0 < x3 → VV X d 157 (13, [some (.ref 0), some (iv x1), some (iv x2), some (iv x3), some (iv 0), some (iv 0)], [], mj J sw lg x) K)) : VV X d 157 (3, [some (.ref 0), some (iv x1), some (iv x2), some (iv x3), o4, o5], [], mj J sw lg x) K := by
  refine v_s mt_157 rfl rfl rfl ?_
  obtain ⟨z1, h⟩ := h
  refine j_if1 mt_157 rfl rfl z1 (fun c => ?_) (fun c => ?_)
  · replace h := h.1 c
    refine v_ic (v := Int32.ofInt 0) mt_157 rfl rfl ?_
    exact v_ret mt_157 rfl rfl rfl h
  · replace h := h.2 (Int.not_le.mp c)
    refine v_ic (v := Int32.ofInt 0) mt_157 rfl rfl ?_
    refine v_is (L' := [some (.ref 0), some (iv x1), some (iv x2), some (iv x3), some (iv 0), o5]) mt_157 rfl (Nat.le_of_ble_eq_true rfl) rfl ?_
    refine v_ic (v := Int32.ofInt 0) mt_157 rfl rfl ?_
    refine v_is (L' := [some (.ref 0), some (iv x1), some (iv x2), some (iv x3), some (iv 0), some (iv 0)]) mt_157 rfl (Nat.le_of_ble_eq_true rfl) rfl ?_
    exact h
set_option maxHeartbeats 600000 in
theorem b_157_13 {X : Nat × (Nat → Int32)} {d : Nat} {J : Nat → Nat → Int} {sw : Bool × Bool × Bool} {lg : Nat → Nat → Int64} {x : Nat} {K : (Option Value ⊕ Nat) → mM → Prop} {x1 x2 x3 x4 x5 : Int}
    (h : InR x5 ∧ InR (J (vA sw) 2) ∧ (J (vA sw) 2 ≤ x5 → (InR x4 ∧ InR x2 ∧ (x2 < x4 → VV X d 157 (3, [some (.ref 0), some (iv x1), some (iv x2), some (iv (x3 + (-1))), some (iv x4), some (iv x5)], [], mj J sw lg x) K) ∧ (x4 ≤ x2 → K (.inl (some (iv x3))) (mj J sw lg x)))) ∧ (x5 < J (vA sw) 2 → ((bAnd (bShr x1 x5) 1 = 0 → VV X d 157 (13, [some (.ref 0), some (iv x1), some (iv x2), some (iv x3), some (iv x4), some (iv (x5 + 1))], [], mj J sw lg x) K) ∧ (¬ bAnd (bShr x1 x5) 1 = 0 → ((0 ≤ x5 ∧ x5 < 9) ∧ InR (J 46 x5.toNat) ∧ InR x3 ∧ VV X d 157 (13, [some (.ref 0), some (iv x1), some (iv x2), some (iv x3), some (iv (x4 + (min (J 46 x5.toNat) x3))), some (iv (x5 + 1))], [], mj J sw lg x) K))))) : VV X d 157 (13, [some (.ref 0), some (iv x1), some (iv x2), some (iv x3), some (iv x4), some (iv x5)], [], mj J sw lg x) K := by
  refine v_s mt_157 rfl rfl rfl ?_
  refine v_s mt_157 rfl rfl rfl ?_
  refine v_gr (w := (vA sw)) 2 mt_157 rfl rfl c_0 (by decide) g_11_2 ?_
  refine j_gi (w := J (vA sw) 2) 2 mt_157 rfl rfl (cvA sw) (by decide) rfl ?_
  obtain ⟨z1, h⟩ := h
  obtain ⟨z2, h⟩ := h
  refine j_if2 mt_157 rfl rfl z1 z2 (fun c => ?_) (fun c => ?_)
  · replace h := h.1 c
    refine v_s mt_157 rfl rfl rfl ?_
    refine v_s mt_157 rfl rfl rfl ?_
    obtain ⟨z3, h⟩ := h
    obtain ⟨z4, h⟩ := h
    refine j_if2 mt_157 rfl rfl z3 z4 (fun c => ?_) (fun c => ?_)
    · replace h := h.1 c
      refine j_inc (e := x3 + (-1)) (L' := [some (.ref 0), some (iv x1), some (iv x2), some (iv (x3 + (-1))), some (iv x4), some (iv x5)]) mt_157 rfl rfl (Nat.le_of_ble_eq_true rfl) rfl rfl ?_
      refine v_go mt_157 rfl rfl ?_
      exact h
    · replace h := h.2 (Int.not_lt.mp c)
      refine v_s mt_157 rfl rfl rfl ?_
      exact v_ret mt_157 rfl rfl rfl h
  · replace h := h.2 (Int.not_le.mp c)
    refine v_s mt_157 rfl rfl rfl ?_
    refine v_s mt_157 rfl rfl rfl ?_
    refine j_shr (e := bShr x1 x5) mt_157 rfl rfl ?_
    refine v_ic (v := Int32.ofInt 1) mt_157 rfl rfl ?_
    refine j_and (e := bAnd (bShr x1 x5) 1) mt_157 rfl rfl ?_
    refine j_if1 mt_157 rfl rfl (inT _) (fun c => ?_) (fun c => ?_)
    · replace h := h.1 c
      refine j_inc (e := x5 + 1) (L' := [some (.ref 0), some (iv x1), some (iv x2), some (iv x3), some (iv x4), some (iv (x5 + 1))]) mt_157 rfl rfl (Nat.le_of_ble_eq_true rfl) rfl rfl ?_
      refine v_go mt_157 rfl rfl ?_
      exact h
    · replace h := h.2 c
      refine v_s mt_157 rfl rfl rfl ?_
      refine v_s mt_157 rfl rfl rfl ?_
      refine v_gr (w := 41) 9 mt_157 rfl rfl c_0 (by decide) g_11_9 ?_
      refine v_gr (w := 46) 4 mt_157 rfl rfl c_41 (by decide) (g_6_4 c_41) ?_
      refine v_s mt_157 rfl rfl rfl ?_
      obtain ⟨z5, h⟩ := h
      refine j_al (w := J 46 x5.toNat) mt_157 rfl c_46 z5 (by decide) rfl ?_
      refine v_s mt_157 rfl rfl rfl ?_
      obtain ⟨z6, h⟩ := h
      obtain ⟨z7, h⟩ := h
      refine j_min mt_157 rfl (Nat.le_of_ble_eq_true rfl) z6 z7 ?_
      refine j_add (e := x4 + (min (J 46 x5.toNat) x3)) mt_157 rfl rfl ?_
      refine v_is (L' := [some (.ref 0), some (iv x1), some (iv x2), some (iv x3), some (iv (x4 + (min (J 46 x5.toNat) x3))), some (iv x5)]) mt_157 rfl (Nat.le_of_ble_eq_true rfl) rfl ?_
      refine j_inc (e := x5 + 1) (L' := [some (.ref 0), some (iv x1), some (iv x2), some (iv x3), some (iv (x4 + (min (J 46 x5.toNat) x3))), some (iv (x5 + 1))]) mt_157 rfl rfl (Nat.le_of_ble_eq_true rfl) rfl rfl ?_
      refine v_go mt_157 rfl rfl ?_
      exact h
set_option maxHeartbeats 600000 in
theorem b_158_0 {X : Nat × (Nat → Int32)} {d : Nat} {J : Nat → Nat → Int} {sw : Bool × Bool × Bool} {lg : Nat → Nat → Int64} {x : Nat} {K : (Option Value ⊕ Nat) → mM → Prop} {x1 x2 x3 : Int} {o4 o5 : Option Value} (hd : 5 ≤ d)
    (h : ∃ (J1 : Nat → Nat → Int), EE X 0 44 [.ref 48, .ref 41] (mj J sw lg x) (.inl none) (mj J1 sw lg x) ∧ InR (J1 (vA sw) 1) ∧ (J1 (vA sw) 1 ≤ 0 → VV X d 158 (59, [some (.ref 0), some (iv x1), some (iv x2), some (iv x3), some (iv 0), some (iv 0)], [], mj (m_up J1 55 0 x1) sw lg x) K) ∧ (0 < J1 (vA sw) 1 → (InR (J1 (vA sw) 0) ∧ (J1 (vA sw) 0 ≤ 0 → VV X d 158 (59, [some (.ref 0), some (iv x1), some (iv x2), some (iv x3), some (iv 0), some (iv 0)], [], mj (m_up J1 55 0 x1) sw lg x) K) ∧ (0 < J1 (vA sw) 0 → (InR (J1 (vA sw) 2) ∧ (J1 (vA sw) 2 ≤ 0 → VV X d 158 (59, [some (.ref 0), some (iv x1), some (iv x2), some (iv x3), some (iv 0), some (iv 0)], [], mj (m_up J1 55 0 x1) sw lg x) K) ∧ (0 < J1 (vA sw) 2 → VV X d 158 (59, [some (.ref 0), some (iv x1), some (iv x2), some (iv x3), some (iv 1), some (iv 0)], [], mj (m_up J1 55 0 x1) sw lg x) K)))))) : VV X d 158 (0, [some (.ref 0), some (iv x1), some (iv x2), some (iv x3), o4, o5], [], mj J sw lg x) K := by
  refine v_s mt_158 rfl rfl rfl ?_
  refine v_gr (w := 48) 10 mt_158 rfl rfl c_0 (by decide) g_11_10 ?_
  refine v_s mt_158 rfl rfl rfl ?_
  refine v_gr (w := 41) 9 mt_158 rfl rfl c_0 (by decide) g_11_9 ?_
  obtain ⟨J1, z1, h⟩ := h
  refine v_call (d1 := 0) mt_158 rfl rfl mt_44 rfl rfl (m_callj (As := [.ref 41]) (rest := []) rfl rfl c_48 rfl (Nat.le_of_ble_eq_true rfl) (Nat.le_of_ble_eq_true rfl)) z1 (by clear h; omega) ?_
  refine v_s mt_158 rfl rfl rfl ?_
  refine v_gr (w := 55) 11 mt_158 rfl rfl c_0 (by decide) g_11_11 ?_
  refine v_s mt_158 rfl rfl rfl ?_
  refine j_pi 0 mt_158 rfl rfl c_55 (by decide) ?_
  refine v_s mt_158 rfl rfl rfl ?_
  refine v_gr (w := (vA sw)) 2 mt_158 rfl rfl c_0 (by decide) g_11_2 ?_
  refine j_gi (w := J1 (vA sw) 1) 1 mt_158 rfl rfl (cvA sw) (by decide) ((up_na (sh_ne (cvA sw) c_55 (by decide))).trans rfl) ?_
  obtain ⟨z2, h⟩ := h
  refine j_if1 mt_158 rfl rfl z2 (fun c => ?_) (fun c => ?_)
  · replace h := h.1 c
    refine v_ic (v := Int32.ofInt 0) mt_158 rfl rfl ?_
    refine v_is (L' := [some (.ref 0), some (iv x1), some (iv x2), some (iv x3), some (iv 0), o5]) mt_158 rfl (Nat.le_of_ble_eq_true rfl) rfl ?_
    refine v_ic (v := Int32.ofInt 0) mt_158 rfl rfl ?_
    refine v_is (L' := [some (.ref 0), some (iv x1), some (iv x2), some (iv x3), some (iv 0), some (iv 0)]) mt_158 rfl (Nat.le_of_ble_eq_true rfl) rfl ?_
    exact h
  · replace h := h.2 (Int.not_le.mp c)
    refine v_s mt_158 rfl rfl rfl ?_
    refine v_gr (w := (vA sw)) 2 mt_158 rfl rfl c_0 (by decide) g_11_2 ?_
    refine j_gi (w := J1 (vA sw) 0) 0 mt_158 rfl rfl (cvA sw) (by decide) ((up_na (sh_ne (cvA sw) c_55 (by decide))).trans rfl) ?_
    obtain ⟨z3, h⟩ := h
    refine j_if1 mt_158 rfl rfl z3 (fun c => ?_) (fun c => ?_)
    · replace h := h.1 c
      refine v_ic (v := Int32.ofInt 0) mt_158 rfl rfl ?_
      refine v_is (L' := [some (.ref 0), some (iv x1), some (iv x2), some (iv x3), some (iv 0), o5]) mt_158 rfl (Nat.le_of_ble_eq_true rfl) rfl ?_
      refine v_ic (v := Int32.ofInt 0) mt_158 rfl rfl ?_
      refine v_is (L' := [some (.ref 0), some (iv x1), some (iv x2), some (iv x3), some (iv 0), some (iv 0)]) mt_158 rfl (Nat.le_of_ble_eq_true rfl) rfl ?_
      exact h
    · replace h := h.2 (Int.not_le.mp c)
      refine v_s mt_158 rfl rfl rfl ?_
      refine v_gr (w := (vA sw)) 2 mt_158 rfl rfl c_0 (by decide) g_11_2 ?_
      refine j_gi (w := J1 (vA sw) 2) 2 mt_158 rfl rfl (cvA sw) (by decide) ((up_na (sh_ne (cvA sw) c_55 (by decide))).trans rfl) ?_
      obtain ⟨z4, h⟩ := h
      refine j_if1 mt_158 rfl rfl z4 (fun c => ?_) (fun c => ?_)
      · replace h := h.1 c
        refine v_ic (v := Int32.ofInt 0) mt_158 rfl rfl ?_
        refine v_is (L' := [some (.ref 0), some (iv x1), some (iv x2), some (iv x3), some (iv 0), o5]) mt_158 rfl (Nat.le_of_ble_eq_true rfl) rfl ?_
        refine v_ic (v := Int32.ofInt 0) mt_158 rfl rfl ?_
        refine v_is (L' := [some (.ref 0), some (iv x1), some (iv x2), some (iv x3), some (iv 0), some (iv 0)]) mt_158 rfl (Nat.le_of_ble_eq_true rfl) rfl ?_
        exact h
      · replace h := h.2 (Int.not_le.mp c)
        refine v_ic (v := Int32.ofInt 1) mt_158 rfl rfl ?_
        refine v_go mt_158 rfl rfl ?_
        refine v_is (L' := [some (.ref 0), some (iv x1), some (iv x2), some (iv x3), some (iv 1), o5]) mt_158 rfl (Nat.le_of_ble_eq_true rfl) rfl ?_
        refine v_ic (v := Int32.ofInt 0) mt_158 rfl rfl ?_
        refine v_is (L' := [some (.ref 0), some (iv x1), some (iv x2), some (iv x3), some (iv 1), some (iv 0)]) mt_158 rfl (Nat.le_of_ble_eq_true rfl) rfl ?_
        exact h
set_option maxHeartbeats 600000 in
theorem b_158_59 {X : Nat × (Nat → Int32)} {d : Nat} {J : Nat → Nat → Int} {sw : Bool × Bool × Bool} {lg : Nat → Nat → Int64} {x : Nat} {K : (Option Value ⊕ Nat) → mM → Prop} {x1 x2 x3 x4 x5 : Int} (hd : 5 ≤ d)
    (h : InR x5 ∧ InR x3 ∧ (x3 ≤ x5 → K (.inl none) (mj J sw lg x)) ∧ (x5 < x3 → (InR x4 ∧ (x4 = 0 → (∃ (J1 : Nat → Nat → Int), EE X 2 57 [.ref 48, .ref (vA sw)] (mj J sw lg x) (.inl none) (mj J1 sw lg x) ∧ VV X d 158 (59, [some (.ref 0), some (iv x1), some (iv x2), some (iv x3), some (iv x4), some (iv (x5 + 1))], [], mj J1 sw lg x) K)) ∧ (¬ x4 = 0 → (∃ (J2 : Nat → Nat → Int), EE X 4 159 [.ref 0, iv x2] (mj J sw lg x) (.inl none) (mj J2 sw lg x) ∧ ∃ (J3 : Nat → Nat → Int), EE X 2 57 [.ref 48, .ref (vA sw)] (mj J2 sw lg x) (.inl none) (mj J3 sw lg x) ∧ VV X d 158 (59, [some (.ref 0), some (iv x1), some (iv x2), some (iv x3), some (iv x4), some (iv (x5 + 1))], [], mj J3 sw lg x) K))))) : VV X d 158 (59, [some (.ref 0), some (iv x1), some (iv x2), some (iv x3), some (iv x4), some (iv x5)], [], mj J sw lg x) K := by
  refine v_s mt_158 rfl rfl rfl ?_
  refine v_s mt_158 rfl rfl rfl ?_
  obtain ⟨z1, h⟩ := h
  obtain ⟨z2, h⟩ := h
  refine j_if2 mt_158 rfl rfl z1 z2 (fun c => ?_) (fun c => ?_)
  · replace h := h.1 c
    exact v_ret mt_158 rfl rfl rfl h
  · replace h := h.2 (Int.not_le.mp c)
    refine v_s mt_158 rfl rfl rfl ?_
    obtain ⟨z3, h⟩ := h
    refine j_if1 mt_158 rfl rfl z3 (fun c => ?_) (fun c => ?_)
    · replace h := h.1 c
      refine v_s mt_158 rfl rfl rfl ?_
      refine v_gr (w := 48) 10 mt_158 rfl rfl c_0 (by decide) g_11_10 ?_
      refine v_s mt_158 rfl rfl rfl ?_
      refine v_gr (w := (vA sw)) 2 mt_158 rfl rfl c_0 (by decide) g_11_2 ?_
      obtain ⟨J1, z4, h⟩ := h
      refine v_call (d1 := 2) mt_158 rfl rfl mt_57 rfl rfl (m_callj (As := [.ref (vA sw)]) (rest := []) rfl rfl c_48 rfl (Nat.le_of_ble_eq_true rfl) (Nat.le_of_ble_eq_true rfl)) z4 (by clear h; omega) ?_
      refine j_inc (e := x5 + 1) (L' := [some (.ref 0), some (iv x1), some (iv x2), some (iv x3), some (iv x4), some (iv (x5 + 1))]) mt_158 rfl rfl (Nat.le_of_ble_eq_true rfl) rfl rfl ?_
      refine v_go mt_158 rfl rfl ?_
      exact h
    · replace h := h.2 c
      refine v_s mt_158 rfl rfl rfl ?_
      refine v_s mt_158 rfl rfl rfl ?_
      obtain ⟨J2, z5, h⟩ := h
      refine v_call (d1 := 4) mt_158 rfl rfl mt_159 rfl rfl (m_callj (As := [iv x2]) (rest := []) rfl rfl c_0 rfl (Nat.le_of_ble_eq_true rfl) (Nat.le_of_ble_eq_true rfl)) z5 (by clear h; omega) ?_
      refine v_s mt_158 rfl rfl rfl ?_
      refine v_gr (w := 48) 10 mt_158 rfl rfl c_0 (by decide) g_11_10 ?_
      refine v_s mt_158 rfl rfl rfl ?_
      refine v_gr (w := (vA sw)) 2 mt_158 rfl rfl c_0 (by decide) g_11_2 ?_
      obtain ⟨J3, z6, h⟩ := h
      refine v_call (d1 := 2) mt_158 rfl rfl mt_57 rfl rfl (m_callj (As := [.ref (vA sw)]) (rest := []) rfl rfl c_48 rfl (Nat.le_of_ble_eq_true rfl) (Nat.le_of_ble_eq_true rfl)) z6 (by clear h; omega) ?_
      refine j_inc (e := x5 + 1) (L' := [some (.ref 0), some (iv x1), some (iv x2), some (iv x3), some (iv x4), some (iv (x5 + 1))]) mt_158 rfl rfl (Nat.le_of_ble_eq_true rfl) rfl rfl ?_
      refine v_go mt_158 rfl rfl ?_
      exact h
set_option maxHeartbeats 600000 in
theorem b_159_0 {X : Nat × (Nat → Int32)} {d : Nat} {J : Nat → Nat → Int} {sw : Bool × Bool × Bool} {lg : Nat → Nat → Int64} {x : Nat} {K : (Option Value ⊕ Nat) → mM → Prop} {x1 : Int} {o2 o3 o4 : Option Value} (hd : 4 ≤ d)
    (h : ∃ (c2 : Int) (J1 : Nat → Nat → Int), EE X 0 41 [.ref 55, iv (J (vA sw) 1)] (mj J sw lg x) (.inl (some (iv c2))) (mj J1 sw lg x) ∧ ∃ (c4 : Int) (J3 : Nat → Nat → Int), EE X 0 41 [.ref 55, iv (J1 (vA sw) 0)] (mj J1 sw lg x) (.inl (some (iv c4))) (mj J3 sw lg x) ∧ ∃ (c6 : Int) (J5 : Nat → Nat → Int), EE X 0 41 [.ref 55, iv (J3 (vA sw) 2)] (mj J3 sw lg x) (.inl (some (iv c6))) (mj J5 sw lg x) ∧ ∃ (c8 : Int) (J7 : Nat → Nat → Int), EE X 3 51 [.ref 48, .ref (vA sw), .ref (lA sw), iv c2, iv c4, iv c6] (mj J5 sw lg x) (.inl (some (iv c8))) (mj J7 sw lg x) ∧ ∃ (c10 : Int) (J9 : Nat → Nat → Int), EE X 0 41 [.ref 55, iv 16] (mj J7 sw lg x) (.inl (some (iv c10))) (mj J9 sw lg x) ∧ InR c10 ∧ InR x1 ∧ (x1 ≤ c10 → K (.inl none) (mj J9 sw lg x)) ∧ (c10 < x1 → (∃ (c12 : Int) (J11 : Nat → Nat → Int), EE X 1 52 [.ref 48, .ref (vA sw), iv c4, iv c6] (mj J9 sw lg x) (.inl (some (iv c12))) (mj J11 sw lg x) ∧ K (.inl none) (mj J11 sw lg x)))) : VV X d 159 (0, [some (.ref 0), some (iv x1), o2, o3, o4], [], mj J sw lg x) K := by
  refine v_s mt_159 rfl rfl rfl ?_
  refine v_gr (w := 55) 11 mt_159 rfl rfl c_0 (by decide) g_11_11 ?_
  refine v_s mt_159 rfl rfl rfl ?_
  refine v_gr (w := (vA sw)) 2 mt_159 rfl rfl c_0 (by decide) g_11_2 ?_
  refine j_gi (w := J (vA sw) 1) 1 mt_159 rfl rfl (cvA sw) (by decide) rfl ?_
  obtain ⟨c2, J1, z1, h⟩ := h
  refine v_call (d1 := 0) mt_159 rfl rfl mt_41 rfl rfl (m_callj (As := [iv (J (vA sw) 1)]) (rest := []) rfl rfl c_55 rfl (Nat.le_of_ble_eq_true rfl) (Nat.le_of_ble_eq_true rfl)) z1 (by clear h; omega) ?_
  refine v_isn (L' := [some (.ref 0), some (iv x1), some (iv c2), o3, o4]) mt_159 rfl (Nat.le_of_ble_eq_true rfl) rfl ?_
  refine v_s mt_159 rfl rfl rfl ?_
  refine v_gr (w := 55) 11 mt_159 rfl rfl c_0 (by decide) g_11_11 ?_
  refine v_s mt_159 rfl rfl rfl ?_
  refine v_gr (w := (vA sw)) 2 mt_159 rfl rfl c_0 (by decide) g_11_2 ?_
  refine j_gi (w := J1 (vA sw) 0) 0 mt_159 rfl rfl (cvA sw) (by decide) rfl ?_
  obtain ⟨c4, J3, z2, h⟩ := h
  refine v_call (d1 := 0) mt_159 rfl rfl mt_41 rfl rfl (m_callj (As := [iv (J1 (vA sw) 0)]) (rest := []) rfl rfl c_55 rfl (Nat.le_of_ble_eq_true rfl) (Nat.le_of_ble_eq_true rfl)) z2 (by clear h; omega) ?_
  refine v_isn (L' := [some (.ref 0), some (iv x1), some (iv c2), some (iv c4), o4]) mt_159 rfl (Nat.le_of_ble_eq_true rfl) rfl ?_
  refine v_s mt_159 rfl rfl rfl ?_
  refine v_gr (w := 55) 11 mt_159 rfl rfl c_0 (by decide) g_11_11 ?_
  refine v_s mt_159 rfl rfl rfl ?_
  refine v_gr (w := (vA sw)) 2 mt_159 rfl rfl c_0 (by decide) g_11_2 ?_
  refine j_gi (w := J3 (vA sw) 2) 2 mt_159 rfl rfl (cvA sw) (by decide) rfl ?_
  obtain ⟨c6, J5, z3, h⟩ := h
  refine v_call (d1 := 0) mt_159 rfl rfl mt_41 rfl rfl (m_callj (As := [iv (J3 (vA sw) 2)]) (rest := []) rfl rfl c_55 rfl (Nat.le_of_ble_eq_true rfl) (Nat.le_of_ble_eq_true rfl)) z3 (by clear h; omega) ?_
  refine v_is (L' := [some (.ref 0), some (iv x1), some (iv c2), some (iv c4), some (iv c6)]) mt_159 rfl (Nat.le_of_ble_eq_true rfl) rfl ?_
  refine v_s mt_159 rfl rfl rfl ?_
  refine v_gr (w := 48) 10 mt_159 rfl rfl c_0 (by decide) g_11_10 ?_
  refine v_s mt_159 rfl rfl rfl ?_
  refine v_gr (w := (vA sw)) 2 mt_159 rfl rfl c_0 (by decide) g_11_2 ?_
  refine v_s mt_159 rfl rfl rfl ?_
  refine v_gr (w := (lA sw)) 4 mt_159 rfl rfl c_0 (by decide) g_11_4 ?_
  refine v_s mt_159 rfl rfl rfl ?_
  refine v_s mt_159 rfl rfl rfl ?_
  refine v_s mt_159 rfl rfl rfl ?_
  obtain ⟨c8, J7, z4, h⟩ := h
  refine v_call (d1 := 3) mt_159 rfl rfl mt_51 rfl rfl (m_callj (As := [.ref (vA sw), .ref (lA sw), iv c2, iv c4, iv c6]) (rest := []) rfl rfl c_48 rfl (Nat.le_of_ble_eq_true rfl) (Nat.le_of_ble_eq_true rfl)) z4 (by clear h; omega) ?_
  refine v_s mt_159 rfl rfl rfl ?_
  refine v_s mt_159 rfl rfl rfl ?_
  refine v_gr (w := 55) 11 mt_159 rfl rfl c_0 (by decide) g_11_11 ?_
  refine v_bp (v := Int32.ofInt 16) mt_159 rfl rfl ?_
  obtain ⟨c10, J9, z5, h⟩ := h
  refine v_call (d1 := 0) mt_159 rfl rfl mt_41 rfl rfl (m_callj (As := [iv 16]) (rest := []) rfl rfl c_55 rfl (Nat.le_of_ble_eq_true rfl) (Nat.le_of_ble_eq_true rfl)) z5 (by clear h; omega) ?_
  refine v_s mt_159 rfl rfl rfl ?_
  obtain ⟨z6, h⟩ := h
  obtain ⟨z7, h⟩ := h
  refine j_if2 mt_159 rfl rfl z6 z7 (fun c => ?_) (fun c => ?_)
  · replace h := h.1 c
    exact v_ret mt_159 rfl rfl rfl h
  · replace h := h.2 (Int.not_le.mp c)
    refine v_s mt_159 rfl rfl rfl ?_
    refine v_gr (w := 48) 10 mt_159 rfl rfl c_0 (by decide) g_11_10 ?_
    refine v_s mt_159 rfl rfl rfl ?_
    refine v_gr (w := (vA sw)) 2 mt_159 rfl rfl c_0 (by decide) g_11_2 ?_
    refine v_s mt_159 rfl rfl rfl ?_
    refine v_s mt_159 rfl rfl rfl ?_
    obtain ⟨c12, J11, z8, h⟩ := h
    refine v_call (d1 := 1) mt_159 rfl rfl mt_52 rfl rfl (m_callj (As := [.ref (vA sw), iv c4, iv c6]) (rest := []) rfl rfl c_48 rfl (Nat.le_of_ble_eq_true rfl) (Nat.le_of_ble_eq_true rfl)) z8 (by clear h; omega) ?_
    refine v_s mt_159 rfl rfl rfl ?_
    exact v_ret mt_159 rfl rfl rfl h
set_option maxHeartbeats 600000 in
theorem b_256_0 {X : Nat × (Nat → Int32)} {d : Nat} {J : Nat → Nat → Int} {sw : Bool × Bool × Bool} {lg : Nat → Nat → Int64} {x : Nat} {K : (Option Value ⊕ Nat) → mM → Prop} {x4 : Int} {l0 l2 : Int64} {o5 o6 o7 o8 o9 o10 : Option Value}
    (h : VV X d 256 (6, [some (.long l0), none, some (.long l2), none, some (iv x4), some (.long l0), none, some (.long l2), none, o9, o10], [], mj J sw lg x) K) : VV X d 256 (0, [some (.long l0), none, some (.long l2), none, some (iv x4), o5, o6, o7, o8, o9, o10], [], mj J sw lg x) K := by
  refine v_s mt_256 rfl rfl rfl ?_
  refine v_lst (L' := [some (.long l0), none, some (.long l2), none, some (iv x4), some (.long l0), none, o7, o8, o9, o10]) mt_256 rfl (Nat.le_of_ble_eq_true rfl) rfl ?_
  refine v_s mt_256 rfl rfl rfl ?_
  refine v_lst (L' := [some (.long l0), none, some (.long l2), none, some (iv x4), some (.long l0), none, some (.long l2), none, o9, o10]) mt_256 rfl (Nat.le_of_ble_eq_true rfl) rfl ?_
  exact h
set_option maxHeartbeats 600000 in
theorem b_256_6 {X : Nat × (Nat → Int32)} {d : Nat} {J : Nat → Nat → Int} {sw : Bool × Bool × Bool} {lg : Nat → Nat → Int64} {x : Nat} {K : (Option Value ⊕ Nat) → mM → Prop} {x4 : Int} {l0 l2 l5 l7 : Int64} {o9 o10 : Option Value}
    (h : (lcI l7 (Int64.ofNat 0) = 0 → (InR x4 ∧ (¬ x4 = 0 → (¬ l5 = 0 ∧ K (.inl (some (.long (l2 / l5)))) (mj J sw lg x))) ∧ (x4 = 0 → (¬ l5 = 0 ∧ K (.inl (some (.long (l0 / l5)))) (mj J sw lg x))))) ∧ (¬ lcI l7 (Int64.ofNat 0) = 0 → (¬ l7 = 0 ∧ VV X d 256 (6, [some (.long l0), none, some (.long l2), none, some (iv x4), some (.long l7), none, some (.long (l5 - l5 / l7 * l7)), none, some (.long (l5 - l5 / l7 * l7)), none], [], mj J sw lg x) K))) : VV X d 256 (6, [some (.long l0), none, some (.long l2), none, some (iv x4), some (.long l5), none, some (.long l7), none, o9, o10], [], mj J sw lg x) K := by
  refine v_s mt_256 rfl rfl rfl ?_
  refine v_s mt_256 rfl rfl rfl ?_
  refine j_lcmp mt_256 rfl ?_
  refine j_if1 mt_256 rfl rfl (inT _) (fun c => ?_) (fun c => ?_)
  · replace h := h.1 c
    refine v_s mt_256 rfl rfl rfl ?_
    obtain ⟨z1, h⟩ := h
    refine j_if1 mt_256 rfl rfl z1 (fun c => ?_) (fun c => ?_)
    · replace h := h.1 c
      refine v_s mt_256 rfl rfl rfl ?_
      refine v_s mt_256 rfl rfl rfl ?_
      obtain ⟨z2, h⟩ := h
      refine j_ldv mt_256 rfl z2 ?_
      exact v_ret mt_256 rfl rfl rfl h
    · replace h := h.2 (Decidable.not_not.mp c)
      refine v_s mt_256 rfl rfl rfl ?_
      refine v_go mt_256 rfl rfl ?_
      refine v_s mt_256 rfl rfl rfl ?_
      obtain ⟨z3, h⟩ := h
      refine j_ldv mt_256 rfl z3 ?_
      exact v_ret mt_256 rfl rfl rfl h
  · replace h := h.2 c
    refine v_s mt_256 rfl rfl rfl ?_
    refine v_s mt_256 rfl rfl rfl ?_
    obtain ⟨z4, h⟩ := h
    refine j_lrm mt_256 rfl z4 ?_
    refine v_lst (L' := [some (.long l0), none, some (.long l2), none, some (iv x4), some (.long l5), none, some (.long l7), none, some (.long (l5 - l5 / l7 * l7)), none]) mt_256 rfl (Nat.le_of_ble_eq_true rfl) rfl ?_
    refine v_s mt_256 rfl rfl rfl ?_
    refine v_lst (L' := [some (.long l0), none, some (.long l2), none, some (iv x4), some (.long l7), none, some (.long l7), none, some (.long (l5 - l5 / l7 * l7)), none]) mt_256 rfl (Nat.le_of_ble_eq_true rfl) rfl ?_
    refine v_s mt_256 rfl rfl rfl ?_
    refine v_lst (L' := [some (.long l0), none, some (.long l2), none, some (iv x4), some (.long l7), none, some (.long (l5 - l5 / l7 * l7)), none, some (.long (l5 - l5 / l7 * l7)), none]) mt_256 rfl (Nat.le_of_ble_eq_true rfl) rfl ?_
    refine v_go mt_256 rfl rfl ?_
    exact h
set_option maxHeartbeats 600000 in
theorem b_257_0 {X : Nat × (Nat → Int32)} {d : Nat} {J : Nat → Nat → Int} {sw : Bool × Bool × Bool} {lg : Nat → Nat → Int64} {x : Nat} {K : (Option Value ⊕ Nat) → mM → Prop} {x1 x2 x3 : Int} {o4 o5 o6 o7 o8 : Option Value} (hd : 1 ≤ d)
    (h : InR x1 ∧ (x1 < 1 → K (.inl (some (.long (Int64.ofNat 0)))) (mj (m_up (m_up (m_up J 542 0 0) 542 0 1) 543 1 ((J 543 1) + 1)) sw lg x)) ∧ (1 ≤ x1 → ((12 < x1 → K (.inl (some (.long (Int64.ofNat 0)))) (mj (m_up (m_up (m_up J 542 0 0) 542 0 1) 543 1 ((J 543 1) + 1)) sw lg x)) ∧ (x1 ≤ 12 → (InR x2 ∧ (x2 < 0 → K (.inl (some (.long (Int64.ofNat 0)))) (mj (m_up (m_up (m_up J 542 0 0) 542 0 1) 543 1 ((J 543 1) + 1)) sw lg x)) ∧ (0 ≤ x2 → ((16 < x2 → K (.inl (some (.long (Int64.ofNat 0)))) (mj (m_up (m_up (m_up J 542 0 0) 542 0 1) 543 1 ((J 543 1) + 1)) sw lg x)) ∧ (x2 ≤ 16 → (InR x3 ∧ (x3 < 0 → K (.inl (some (.long (Int64.ofNat 0)))) (mj (m_up (m_up (m_up J 542 0 0) 542 0 1) 543 1 ((J 543 1) + 1)) sw lg x)) ∧ (0 ≤ x3 → ((1 < x3 → K (.inl (some (.long (Int64.ofNat 0)))) (mj (m_up (m_up (m_up J 542 0 0) 542 0 1) 543 1 ((J 543 1) + 1)) sw lg x)) ∧ (x3 ≤ 1 → VV X d 257 (62, [some (.ref 542), some (iv x1), some (iv x2), some (iv x3), some (.long ((Int32.ofInt x2).toInt64)), none, some (.long (Int64.ofNat 16)), none, some (iv 1)], [], mj (m_up J 542 0 0) sw lg x) K)))))))))))) : VV X d 257 (0, [some (.ref 542), some (iv x1), some (iv x2), some (iv x3), o4, o5, o6, o7, o8], [], mj J sw lg x) K := by
  refine v_s mt_257 rfl rfl rfl ?_
  refine v_ic (v := Int32.ofInt 0) mt_257 rfl rfl ?_
  refine j_pi 0 mt_257 rfl rfl c_542 (by decide) ?_
  refine v_s mt_257 rfl rfl rfl ?_
  refine v_s mt_257 rfl rfl rfl ?_
  refine v_ic (v := Int32.ofInt 1) mt_257 rfl rfl ?_
  refine v_bp (v := Int32.ofInt 12) mt_257 rfl rfl ?_
  refine v_inl (L1 := [some (iv x1), some (iv 1), some (iv 12)]) mt_257 rfl rfl mt_162 rfl rfl rfl rfl (by clear h; omega) ?_
  refine v_s mt_162 rfl rfl rfl ?_
  refine v_s mt_162 rfl rfl rfl ?_
  obtain ⟨z1, h⟩ := h
  refine j_if2 mt_162 rfl rfl z1 ⟨by decide, by decide⟩ (fun c => ?_) (fun c => ?_)
  · replace h := h.1 c
    refine v_ic (v := Int32.ofInt 0) mt_162 rfl rfl ?_
    refine j_retb mt_162 rfl rfl (by decide) ?_
    refine j_if1 mt_257 rfl rfl ⟨by decide, by decide⟩ (fun _ => ?_) (fun c => (c (show (0 : Int) = 0 by decide)).elim)
    refine v_ic (v := Int32.ofInt 0) mt_257 rfl rfl ?_
    refine v_ic (v := Int32.ofInt 1) mt_257 rfl rfl ?_
    refine v_ic (v := Int32.ofInt 1) mt_257 rfl rfl ?_
    refine v_inl (L1 := [some (.ref 542), some (iv 0), some (iv 1), some (iv 1)]) mt_257 rfl rfl mt_161 rfl rfl (m_callj (As := [iv 0, iv 1, iv 1]) (rest := []) rfl rfl c_542 rfl (Nat.le_of_ble_eq_true rfl) (Nat.le_of_ble_eq_true rfl)) rfl (by clear h; omega) ?_
    refine v_s mt_161 rfl rfl rfl ?_
    refine j_if1 mt_161 rfl rfl ⟨by decide, by decide⟩ (fun c => absurd (show ¬ (0 : Int) = 0 from c) (by decide)) (fun _ => ?_)
    refine v_s mt_161 rfl rfl rfl ?_
    refine j_gi (w := 0) 0 mt_161 rfl rfl c_542 (by decide) (up_eq _ _ _ _) ?_
    refine j_if1 mt_161 rfl rfl ⟨by decide, by decide⟩ (fun c => absurd (show ¬ (0 : Int) = 0 from c) (by decide)) (fun _ => ?_)
    refine v_s mt_161 rfl rfl rfl ?_
    refine v_s mt_161 rfl rfl rfl ?_
    refine j_pi 0 mt_161 rfl rfl c_542 (by decide) ?_
    refine v_s mt_161 rfl rfl rfl ?_
    refine v_gr (w := 543) 1 mt_161 rfl rfl c_542 (by decide) (g_12_1 c_542) ?_
    refine v_s mt_161 rfl rfl rfl ?_
    refine v_s mt_161 rfl rfl rfl ?_
    refine j_al (w := J 543 1) mt_161 rfl c_543 ⟨by decide, by decide⟩ (by decide) ((up_na (by decide)).trans ((up_na (by decide)).trans rfl)) ?_
    refine v_ic (v := Int32.ofInt 1) mt_161 rfl rfl ?_
    refine j_add (e := (J 543 1) + 1) mt_161 rfl rfl ?_
    refine j_as mt_161 rfl c_543 ⟨by decide, by decide⟩ (by decide) ?_
    refine v_s mt_161 rfl rfl rfl ?_
    refine j_gi (w := 1) 0 mt_161 rfl rfl c_542 (by decide) ((up_na (by decide)).trans (up_eq _ _ _ _)) ?_
    refine j_if1 mt_161 rfl rfl ⟨by decide, by decide⟩ (fun _ => ?_) (fun c => (c (show ¬ (1 : Int) = 0 by decide)).elim)
    refine v_ic (v := Int32.ofInt 0) mt_161 rfl rfl ?_
    refine j_retb mt_161 rfl rfl (by decide) ?_
    refine j_if1 mt_257 rfl rfl ⟨by decide, by decide⟩ (fun c => absurd (show ¬ (0 : Int) = 0 from c) (by decide)) (fun _ => ?_)
    refine v_s mt_257 rfl rfl rfl ?_
    exact v_ret mt_257 rfl rfl rfl h
  · replace h := h.2 (Int.not_lt.mp c)
    refine v_s mt_162 rfl rfl rfl ?_
    refine v_s mt_162 rfl rfl rfl ?_
    refine j_if2 mt_162 rfl rfl z1 ⟨by decide, by decide⟩ (fun c => ?_) (fun c => ?_)
    · replace h := h.1 c
      refine v_ic (v := Int32.ofInt 0) mt_162 rfl rfl ?_
      refine j_retb mt_162 rfl rfl (by decide) ?_
      refine j_if1 mt_257 rfl rfl ⟨by decide, by decide⟩ (fun _ => ?_) (fun c => (c (show (0 : Int) = 0 by decide)).elim)
      refine v_ic (v := Int32.ofInt 0) mt_257 rfl rfl ?_
      refine v_ic (v := Int32.ofInt 1) mt_257 rfl rfl ?_
      refine v_ic (v := Int32.ofInt 1) mt_257 rfl rfl ?_
      refine v_inl (L1 := [some (.ref 542), some (iv 0), some (iv 1), some (iv 1)]) mt_257 rfl rfl mt_161 rfl rfl (m_callj (As := [iv 0, iv 1, iv 1]) (rest := []) rfl rfl c_542 rfl (Nat.le_of_ble_eq_true rfl) (Nat.le_of_ble_eq_true rfl)) rfl (by clear h; omega) ?_
      refine v_s mt_161 rfl rfl rfl ?_
      refine j_if1 mt_161 rfl rfl ⟨by decide, by decide⟩ (fun c => absurd (show ¬ (0 : Int) = 0 from c) (by decide)) (fun _ => ?_)
      refine v_s mt_161 rfl rfl rfl ?_
      refine j_gi (w := 0) 0 mt_161 rfl rfl c_542 (by decide) (up_eq _ _ _ _) ?_
      refine j_if1 mt_161 rfl rfl ⟨by decide, by decide⟩ (fun c => absurd (show ¬ (0 : Int) = 0 from c) (by decide)) (fun _ => ?_)
      refine v_s mt_161 rfl rfl rfl ?_
      refine v_s mt_161 rfl rfl rfl ?_
      refine j_pi 0 mt_161 rfl rfl c_542 (by decide) ?_
      refine v_s mt_161 rfl rfl rfl ?_
      refine v_gr (w := 543) 1 mt_161 rfl rfl c_542 (by decide) (g_12_1 c_542) ?_
      refine v_s mt_161 rfl rfl rfl ?_
      refine v_s mt_161 rfl rfl rfl ?_
      refine j_al (w := J 543 1) mt_161 rfl c_543 ⟨by decide, by decide⟩ (by decide) ((up_na (by decide)).trans ((up_na (by decide)).trans rfl)) ?_
      refine v_ic (v := Int32.ofInt 1) mt_161 rfl rfl ?_
      refine j_add (e := (J 543 1) + 1) mt_161 rfl rfl ?_
      refine j_as mt_161 rfl c_543 ⟨by decide, by decide⟩ (by decide) ?_
      refine v_s mt_161 rfl rfl rfl ?_
      refine j_gi (w := 1) 0 mt_161 rfl rfl c_542 (by decide) ((up_na (by decide)).trans (up_eq _ _ _ _)) ?_
      refine j_if1 mt_161 rfl rfl ⟨by decide, by decide⟩ (fun _ => ?_) (fun c => (c (show ¬ (1 : Int) = 0 by decide)).elim)
      refine v_ic (v := Int32.ofInt 0) mt_161 rfl rfl ?_
      refine j_retb mt_161 rfl rfl (by decide) ?_
      refine j_if1 mt_257 rfl rfl ⟨by decide, by decide⟩ (fun c => absurd (show ¬ (0 : Int) = 0 from c) (by decide)) (fun _ => ?_)
      refine v_s mt_257 rfl rfl rfl ?_
      exact v_ret mt_257 rfl rfl rfl h
    · replace h := h.2 (Int.not_lt.mp c)
      refine v_ic (v := Int32.ofInt 1) mt_162 rfl rfl ?_
      refine v_go mt_162 rfl rfl ?_
      refine j_retb mt_162 rfl rfl (by decide) ?_
      refine j_if1 mt_257 rfl rfl ⟨by decide, by decide⟩ (fun c => absurd (show (1 : Int) = 0 from c) (by decide)) (fun _ => ?_)
      refine v_s mt_257 rfl rfl rfl ?_
      refine v_ic (v := Int32.ofInt 0) mt_257 rfl rfl ?_
      refine v_bp (v := Int32.ofInt 16) mt_257 rfl rfl ?_
      refine v_inl (L1 := [some (iv x2), some (iv 0), some (iv 16)]) mt_257 rfl rfl mt_162 rfl rfl rfl rfl (by clear h; omega) ?_
      refine v_s mt_162 rfl rfl rfl ?_
      refine v_s mt_162 rfl rfl rfl ?_
      obtain ⟨z2, h⟩ := h
      refine j_if2 mt_162 rfl rfl z2 ⟨by decide, by decide⟩ (fun c => ?_) (fun c => ?_)
      · replace h := h.1 c
        refine v_ic (v := Int32.ofInt 0) mt_162 rfl rfl ?_
        refine j_retb mt_162 rfl rfl (by decide) ?_
        refine j_if1 mt_257 rfl rfl ⟨by decide, by decide⟩ (fun _ => ?_) (fun c => (c (show (0 : Int) = 0 by decide)).elim)
        refine v_ic (v := Int32.ofInt 0) mt_257 rfl rfl ?_
        refine v_ic (v := Int32.ofInt 1) mt_257 rfl rfl ?_
        refine v_ic (v := Int32.ofInt 1) mt_257 rfl rfl ?_
        refine v_inl (L1 := [some (.ref 542), some (iv 0), some (iv 1), some (iv 1)]) mt_257 rfl rfl mt_161 rfl rfl (m_callj (As := [iv 0, iv 1, iv 1]) (rest := []) rfl rfl c_542 rfl (Nat.le_of_ble_eq_true rfl) (Nat.le_of_ble_eq_true rfl)) rfl (by clear h; omega) ?_
        refine v_s mt_161 rfl rfl rfl ?_
        refine j_if1 mt_161 rfl rfl ⟨by decide, by decide⟩ (fun c => absurd (show ¬ (0 : Int) = 0 from c) (by decide)) (fun _ => ?_)
        refine v_s mt_161 rfl rfl rfl ?_
        refine j_gi (w := 0) 0 mt_161 rfl rfl c_542 (by decide) (up_eq _ _ _ _) ?_
        refine j_if1 mt_161 rfl rfl ⟨by decide, by decide⟩ (fun c => absurd (show ¬ (0 : Int) = 0 from c) (by decide)) (fun _ => ?_)
        refine v_s mt_161 rfl rfl rfl ?_
        refine v_s mt_161 rfl rfl rfl ?_
        refine j_pi 0 mt_161 rfl rfl c_542 (by decide) ?_
        refine v_s mt_161 rfl rfl rfl ?_
        refine v_gr (w := 543) 1 mt_161 rfl rfl c_542 (by decide) (g_12_1 c_542) ?_
        refine v_s mt_161 rfl rfl rfl ?_
        refine v_s mt_161 rfl rfl rfl ?_
        refine j_al (w := J 543 1) mt_161 rfl c_543 ⟨by decide, by decide⟩ (by decide) ((up_na (by decide)).trans ((up_na (by decide)).trans rfl)) ?_
        refine v_ic (v := Int32.ofInt 1) mt_161 rfl rfl ?_
        refine j_add (e := (J 543 1) + 1) mt_161 rfl rfl ?_
        refine j_as mt_161 rfl c_543 ⟨by decide, by decide⟩ (by decide) ?_
        refine v_s mt_161 rfl rfl rfl ?_
        refine j_gi (w := 1) 0 mt_161 rfl rfl c_542 (by decide) ((up_na (by decide)).trans (up_eq _ _ _ _)) ?_
        refine j_if1 mt_161 rfl rfl ⟨by decide, by decide⟩ (fun _ => ?_) (fun c => (c (show ¬ (1 : Int) = 0 by decide)).elim)
        refine v_ic (v := Int32.ofInt 0) mt_161 rfl rfl ?_
        refine j_retb mt_161 rfl rfl (by decide) ?_
        refine j_if1 mt_257 rfl rfl ⟨by decide, by decide⟩ (fun c => absurd (show ¬ (0 : Int) = 0 from c) (by decide)) (fun _ => ?_)
        refine v_s mt_257 rfl rfl rfl ?_
        exact v_ret mt_257 rfl rfl rfl h
      · replace h := h.2 (Int.not_lt.mp c)
        refine v_s mt_162 rfl rfl rfl ?_
        refine v_s mt_162 rfl rfl rfl ?_
        refine j_if2 mt_162 rfl rfl z2 ⟨by decide, by decide⟩ (fun c => ?_) (fun c => ?_)
        · replace h := h.1 c
          refine v_ic (v := Int32.ofInt 0) mt_162 rfl rfl ?_
          refine j_retb mt_162 rfl rfl (by decide) ?_
          refine j_if1 mt_257 rfl rfl ⟨by decide, by decide⟩ (fun _ => ?_) (fun c => (c (show (0 : Int) = 0 by decide)).elim)
          refine v_ic (v := Int32.ofInt 0) mt_257 rfl rfl ?_
          refine v_ic (v := Int32.ofInt 1) mt_257 rfl rfl ?_
          refine v_ic (v := Int32.ofInt 1) mt_257 rfl rfl ?_
          refine v_inl (L1 := [some (.ref 542), some (iv 0), some (iv 1), some (iv 1)]) mt_257 rfl rfl mt_161 rfl rfl (m_callj (As := [iv 0, iv 1, iv 1]) (rest := []) rfl rfl c_542 rfl (Nat.le_of_ble_eq_true rfl) (Nat.le_of_ble_eq_true rfl)) rfl (by clear h; omega) ?_
          refine v_s mt_161 rfl rfl rfl ?_
          refine j_if1 mt_161 rfl rfl ⟨by decide, by decide⟩ (fun c => absurd (show ¬ (0 : Int) = 0 from c) (by decide)) (fun _ => ?_)
          refine v_s mt_161 rfl rfl rfl ?_
          refine j_gi (w := 0) 0 mt_161 rfl rfl c_542 (by decide) (up_eq _ _ _ _) ?_
          refine j_if1 mt_161 rfl rfl ⟨by decide, by decide⟩ (fun c => absurd (show ¬ (0 : Int) = 0 from c) (by decide)) (fun _ => ?_)
          refine v_s mt_161 rfl rfl rfl ?_
          refine v_s mt_161 rfl rfl rfl ?_
          refine j_pi 0 mt_161 rfl rfl c_542 (by decide) ?_
          refine v_s mt_161 rfl rfl rfl ?_
          refine v_gr (w := 543) 1 mt_161 rfl rfl c_542 (by decide) (g_12_1 c_542) ?_
          refine v_s mt_161 rfl rfl rfl ?_
          refine v_s mt_161 rfl rfl rfl ?_
          refine j_al (w := J 543 1) mt_161 rfl c_543 ⟨by decide, by decide⟩ (by decide) ((up_na (by decide)).trans ((up_na (by decide)).trans rfl)) ?_
          refine v_ic (v := Int32.ofInt 1) mt_161 rfl rfl ?_
          refine j_add (e := (J 543 1) + 1) mt_161 rfl rfl ?_
          refine j_as mt_161 rfl c_543 ⟨by decide, by decide⟩ (by decide) ?_
          refine v_s mt_161 rfl rfl rfl ?_
          refine j_gi (w := 1) 0 mt_161 rfl rfl c_542 (by decide) ((up_na (by decide)).trans (up_eq _ _ _ _)) ?_
          refine j_if1 mt_161 rfl rfl ⟨by decide, by decide⟩ (fun _ => ?_) (fun c => (c (show ¬ (1 : Int) = 0 by decide)).elim)
          refine v_ic (v := Int32.ofInt 0) mt_161 rfl rfl ?_
          refine j_retb mt_161 rfl rfl (by decide) ?_
          refine j_if1 mt_257 rfl rfl ⟨by decide, by decide⟩ (fun c => absurd (show ¬ (0 : Int) = 0 from c) (by decide)) (fun _ => ?_)
          refine v_s mt_257 rfl rfl rfl ?_
          exact v_ret mt_257 rfl rfl rfl h
        · replace h := h.2 (Int.not_lt.mp c)
          refine v_ic (v := Int32.ofInt 1) mt_162 rfl rfl ?_
          refine v_go mt_162 rfl rfl ?_
          refine j_retb mt_162 rfl rfl (by decide) ?_
          refine j_if1 mt_257 rfl rfl ⟨by decide, by decide⟩ (fun c => absurd (show (1 : Int) = 0 from c) (by decide)) (fun _ => ?_)
          refine v_s mt_257 rfl rfl rfl ?_
          refine v_ic (v := Int32.ofInt 0) mt_257 rfl rfl ?_
          refine v_ic (v := Int32.ofInt 1) mt_257 rfl rfl ?_
          refine v_inl (L1 := [some (iv x3), some (iv 0), some (iv 1)]) mt_257 rfl rfl mt_162 rfl rfl rfl rfl (by clear h; omega) ?_
          refine v_s mt_162 rfl rfl rfl ?_
          refine v_s mt_162 rfl rfl rfl ?_
          obtain ⟨z3, h⟩ := h
          refine j_if2 mt_162 rfl rfl z3 ⟨by decide, by decide⟩ (fun c => ?_) (fun c => ?_)
          · replace h := h.1 c
            refine v_ic (v := Int32.ofInt 0) mt_162 rfl rfl ?_
            refine j_retb mt_162 rfl rfl (by decide) ?_
            refine j_if1 mt_257 rfl rfl ⟨by decide, by decide⟩ (fun _ => ?_) (fun c => (c (show (0 : Int) = 0 by decide)).elim)
            refine v_ic (v := Int32.ofInt 0) mt_257 rfl rfl ?_
            refine v_ic (v := Int32.ofInt 1) mt_257 rfl rfl ?_
            refine v_ic (v := Int32.ofInt 1) mt_257 rfl rfl ?_
            refine v_inl (L1 := [some (.ref 542), some (iv 0), some (iv 1), some (iv 1)]) mt_257 rfl rfl mt_161 rfl rfl (m_callj (As := [iv 0, iv 1, iv 1]) (rest := []) rfl rfl c_542 rfl (Nat.le_of_ble_eq_true rfl) (Nat.le_of_ble_eq_true rfl)) rfl (by clear h; omega) ?_
            refine v_s mt_161 rfl rfl rfl ?_
            refine j_if1 mt_161 rfl rfl ⟨by decide, by decide⟩ (fun c => absurd (show ¬ (0 : Int) = 0 from c) (by decide)) (fun _ => ?_)
            refine v_s mt_161 rfl rfl rfl ?_
            refine j_gi (w := 0) 0 mt_161 rfl rfl c_542 (by decide) (up_eq _ _ _ _) ?_
            refine j_if1 mt_161 rfl rfl ⟨by decide, by decide⟩ (fun c => absurd (show ¬ (0 : Int) = 0 from c) (by decide)) (fun _ => ?_)
            refine v_s mt_161 rfl rfl rfl ?_
            refine v_s mt_161 rfl rfl rfl ?_
            refine j_pi 0 mt_161 rfl rfl c_542 (by decide) ?_
            refine v_s mt_161 rfl rfl rfl ?_
            refine v_gr (w := 543) 1 mt_161 rfl rfl c_542 (by decide) (g_12_1 c_542) ?_
            refine v_s mt_161 rfl rfl rfl ?_
            refine v_s mt_161 rfl rfl rfl ?_
            refine j_al (w := J 543 1) mt_161 rfl c_543 ⟨by decide, by decide⟩ (by decide) ((up_na (by decide)).trans ((up_na (by decide)).trans rfl)) ?_
            refine v_ic (v := Int32.ofInt 1) mt_161 rfl rfl ?_
            refine j_add (e := (J 543 1) + 1) mt_161 rfl rfl ?_
            refine j_as mt_161 rfl c_543 ⟨by decide, by decide⟩ (by decide) ?_
            refine v_s mt_161 rfl rfl rfl ?_
            refine j_gi (w := 1) 0 mt_161 rfl rfl c_542 (by decide) ((up_na (by decide)).trans (up_eq _ _ _ _)) ?_
            refine j_if1 mt_161 rfl rfl ⟨by decide, by decide⟩ (fun _ => ?_) (fun c => (c (show ¬ (1 : Int) = 0 by decide)).elim)
            refine v_ic (v := Int32.ofInt 0) mt_161 rfl rfl ?_
            refine j_retb mt_161 rfl rfl (by decide) ?_
            refine j_if1 mt_257 rfl rfl ⟨by decide, by decide⟩ (fun c => absurd (show ¬ (0 : Int) = 0 from c) (by decide)) (fun _ => ?_)
            refine v_s mt_257 rfl rfl rfl ?_
            exact v_ret mt_257 rfl rfl rfl h
          · replace h := h.2 (Int.not_lt.mp c)
            refine v_s mt_162 rfl rfl rfl ?_
            refine v_s mt_162 rfl rfl rfl ?_
            refine j_if2 mt_162 rfl rfl z3 ⟨by decide, by decide⟩ (fun c => ?_) (fun c => ?_)
            · replace h := h.1 c
              refine v_ic (v := Int32.ofInt 0) mt_162 rfl rfl ?_
              refine j_retb mt_162 rfl rfl (by decide) ?_
              refine j_if1 mt_257 rfl rfl ⟨by decide, by decide⟩ (fun _ => ?_) (fun c => (c (show (0 : Int) = 0 by decide)).elim)
              refine v_ic (v := Int32.ofInt 0) mt_257 rfl rfl ?_
              refine v_ic (v := Int32.ofInt 1) mt_257 rfl rfl ?_
              refine v_ic (v := Int32.ofInt 1) mt_257 rfl rfl ?_
              refine v_inl (L1 := [some (.ref 542), some (iv 0), some (iv 1), some (iv 1)]) mt_257 rfl rfl mt_161 rfl rfl (m_callj (As := [iv 0, iv 1, iv 1]) (rest := []) rfl rfl c_542 rfl (Nat.le_of_ble_eq_true rfl) (Nat.le_of_ble_eq_true rfl)) rfl (by clear h; omega) ?_
              refine v_s mt_161 rfl rfl rfl ?_
              refine j_if1 mt_161 rfl rfl ⟨by decide, by decide⟩ (fun c => absurd (show ¬ (0 : Int) = 0 from c) (by decide)) (fun _ => ?_)
              refine v_s mt_161 rfl rfl rfl ?_
              refine j_gi (w := 0) 0 mt_161 rfl rfl c_542 (by decide) (up_eq _ _ _ _) ?_
              refine j_if1 mt_161 rfl rfl ⟨by decide, by decide⟩ (fun c => absurd (show ¬ (0 : Int) = 0 from c) (by decide)) (fun _ => ?_)
              refine v_s mt_161 rfl rfl rfl ?_
              refine v_s mt_161 rfl rfl rfl ?_
              refine j_pi 0 mt_161 rfl rfl c_542 (by decide) ?_
              refine v_s mt_161 rfl rfl rfl ?_
              refine v_gr (w := 543) 1 mt_161 rfl rfl c_542 (by decide) (g_12_1 c_542) ?_
              refine v_s mt_161 rfl rfl rfl ?_
              refine v_s mt_161 rfl rfl rfl ?_
              refine j_al (w := J 543 1) mt_161 rfl c_543 ⟨by decide, by decide⟩ (by decide) ((up_na (by decide)).trans ((up_na (by decide)).trans rfl)) ?_
              refine v_ic (v := Int32.ofInt 1) mt_161 rfl rfl ?_
              refine j_add (e := (J 543 1) + 1) mt_161 rfl rfl ?_
              refine j_as mt_161 rfl c_543 ⟨by decide, by decide⟩ (by decide) ?_
              refine v_s mt_161 rfl rfl rfl ?_
              refine j_gi (w := 1) 0 mt_161 rfl rfl c_542 (by decide) ((up_na (by decide)).trans (up_eq _ _ _ _)) ?_
              refine j_if1 mt_161 rfl rfl ⟨by decide, by decide⟩ (fun _ => ?_) (fun c => (c (show ¬ (1 : Int) = 0 by decide)).elim)
              refine v_ic (v := Int32.ofInt 0) mt_161 rfl rfl ?_
              refine j_retb mt_161 rfl rfl (by decide) ?_
              refine j_if1 mt_257 rfl rfl ⟨by decide, by decide⟩ (fun c => absurd (show ¬ (0 : Int) = 0 from c) (by decide)) (fun _ => ?_)
              refine v_s mt_257 rfl rfl rfl ?_
              exact v_ret mt_257 rfl rfl rfl h
            · replace h := h.2 (Int.not_lt.mp c)
              refine v_ic (v := Int32.ofInt 1) mt_162 rfl rfl ?_
              refine v_go mt_162 rfl rfl ?_
              refine j_retb mt_162 rfl rfl (by decide) ?_
              refine j_if1 mt_257 rfl rfl ⟨by decide, by decide⟩ (fun c => absurd (show (1 : Int) = 0 from c) (by decide)) (fun _ => ?_)
              refine v_ic (v := Int32.ofInt 1) mt_257 rfl rfl ?_
              refine v_go mt_257 rfl rfl ?_
              refine v_ic (v := Int32.ofInt 1) mt_257 rfl rfl ?_
              refine v_ic (v := Int32.ofInt 1) mt_257 rfl rfl ?_
              refine v_inl (L1 := [some (.ref 542), some (iv 1), some (iv 1), some (iv 1)]) mt_257 rfl rfl mt_161 rfl rfl (m_callj (As := [iv 1, iv 1, iv 1]) (rest := []) rfl rfl c_542 rfl (Nat.le_of_ble_eq_true rfl) (Nat.le_of_ble_eq_true rfl)) rfl (by clear h; omega) ?_
              refine v_s mt_161 rfl rfl rfl ?_
              refine j_if1 mt_161 rfl rfl ⟨by decide, by decide⟩ (fun _ => ?_) (fun c => (c (show ¬ (1 : Int) = 0 by decide)).elim)
              refine v_s mt_161 rfl rfl rfl ?_
              refine j_gi (w := 0) 0 mt_161 rfl rfl c_542 (by decide) (up_eq _ _ _ _) ?_
              refine j_if1 mt_161 rfl rfl ⟨by decide, by decide⟩ (fun c => absurd (show ¬ (0 : Int) = 0 from c) (by decide)) (fun _ => ?_)
              refine v_ic (v := Int32.ofInt 1) mt_161 rfl rfl ?_
              refine v_go mt_161 rfl rfl ?_
              refine j_retb mt_161 rfl rfl (by decide) ?_
              refine j_if1 mt_257 rfl rfl ⟨by decide, by decide⟩ (fun _ => ?_) (fun c => (c (show ¬ (1 : Int) = 0 by decide)).elim)
              refine v_s mt_257 rfl rfl rfl ?_
              refine v_s mt_257 rfl rfl rfl ?_
              refine v_lst (L' := [some (.ref 542), some (iv x1), some (iv x2), some (iv x3), some (.long ((Int32.ofInt x2).toInt64)), none, o6, o7, o8]) mt_257 rfl (Nat.le_of_ble_eq_true rfl) rfl ?_
              refine v_s mt_257 rfl rfl rfl ?_
              refine v_lst (L' := [some (.ref 542), some (iv x1), some (iv x2), some (iv x3), some (.long ((Int32.ofInt x2).toInt64)), none, some (.long (Int64.ofNat 16)), none, o8]) mt_257 rfl (Nat.le_of_ble_eq_true rfl) rfl ?_
              refine v_ic (v := Int32.ofInt 1) mt_257 rfl rfl ?_
              refine v_is (L' := [some (.ref 542), some (iv x1), some (iv x2), some (iv x3), some (.long ((Int32.ofInt x2).toInt64)), none, some (.long (Int64.ofNat 16)), none, some (iv 1)]) mt_257 rfl (Nat.le_of_ble_eq_true rfl) rfl ?_
              exact h
set_option maxHeartbeats 600000 in
theorem b_257_62 {X : Nat × (Nat → Int32)} {d : Nat} {J : Nat → Nat → Int} {sw : Bool × Bool × Bool} {lg : Nat → Nat → Int64} {x : Nat} {K : (Option Value ⊕ Nat) → mM → Prop} {x1 x2 x3 x8 : Int} {l4 l6 : Int64} {o0 : Option Value} (hd : 1 ≤ d)
    (h : InR x8 ∧ InR x1 ∧ (x1 ≤ x8 → (∃ (c2 : Int64) (J1 : Nat → Nat → Int), EE X 0 256 [.long l4, .long l6, iv x3] (mj J sw lg x) (.inl (some (.long c2))) (mj J1 sw lg x) ∧ K (.inl (some (.long c2))) (mj J1 sw lg x))) ∧ (x8 < x1 → VV X d 257 (62, [o0, some (iv x1), some (iv x2), some (iv x3), some (.long (l4 * ((Int32.ofInt (16 - x2)).toInt64))), none, some (.long (l6 * (Int64.ofNat 16))), none, some (iv (x8 + 1))], [], mj J sw lg x) K)) : VV X d 257 (62, [o0, some (iv x1), some (iv x2), some (iv x3), some (.long l4), none, some (.long l6), none, some (iv x8)], [], mj J sw lg x) K := by
  refine v_s mt_257 rfl rfl rfl ?_
  refine v_s mt_257 rfl rfl rfl ?_
  obtain ⟨z1, h⟩ := h
  obtain ⟨z2, h⟩ := h
  refine j_if2 mt_257 rfl rfl z1 z2 (fun c => ?_) (fun c => ?_)
  · replace h := h.1 c
    refine v_s mt_257 rfl rfl rfl ?_
    refine v_s mt_257 rfl rfl rfl ?_
    refine v_s mt_257 rfl rfl rfl ?_
    obtain ⟨c2, J1, z3, h⟩ := h
    refine v_call (d1 := 0) mt_257 rfl rfl mt_256 rfl rfl rfl z3 (by clear h; omega) ?_
    exact v_ret mt_257 rfl rfl rfl h
  · replace h := h.2 (Int.not_le.mp c)
    refine v_s mt_257 rfl rfl rfl ?_
    refine v_bp (v := Int32.ofInt 16) mt_257 rfl rfl ?_
    refine v_s mt_257 rfl rfl rfl ?_
    refine j_sub (e := 16 - x2) mt_257 rfl rfl ?_
    refine v_s mt_257 rfl rfl rfl ?_
    refine v_s mt_257 rfl rfl rfl ?_
    refine v_lst (L' := [o0, some (iv x1), some (iv x2), some (iv x3), some (.long (l4 * ((Int32.ofInt (16 - x2)).toInt64))), none, some (.long l6), none, some (iv x8)]) mt_257 rfl (Nat.le_of_ble_eq_true rfl) rfl ?_
    refine v_s mt_257 rfl rfl rfl ?_
    refine v_s mt_257 rfl rfl rfl ?_
    refine v_s mt_257 rfl rfl rfl ?_
    refine v_lst (L' := [o0, some (iv x1), some (iv x2), some (iv x3), some (.long (l4 * ((Int32.ofInt (16 - x2)).toInt64))), none, some (.long (l6 * (Int64.ofNat 16))), none, some (iv x8)]) mt_257 rfl (Nat.le_of_ble_eq_true rfl) rfl ?_
    refine j_inc (e := x8 + 1) (L' := [o0, some (iv x1), some (iv x2), some (iv x3), some (.long (l4 * ((Int32.ofInt (16 - x2)).toInt64))), none, some (.long (l6 * (Int64.ofNat 16))), none, some (iv (x8 + 1))]) mt_257 rfl rfl (Nat.le_of_ble_eq_true rfl) rfl rfl ?_
    refine v_go mt_257 rfl rfl ?_
    exact h
set_option maxHeartbeats 600000 in
theorem b_258_0 {X : Nat × (Nat → Int32)} {d : Nat} {J : Nat → Nat → Int} {sw : Bool × Bool × Bool} {lg : Nat → Nat → Int64} {x : Nat} {K : (Option Value ⊕ Nat) → mM → Prop} {x0 x1 x2 x3 : Int}
    (h : InR x0 ∧ InR x1 ∧ (¬ x0 = x1 → ((¬ x0 = 0 → K (.inl (some (iv (bDiv x2 2)))) (mj J sw lg x)) ∧ (x0 = 0 → K (.inl (some (iv x3))) (mj J sw lg x)))) ∧ (x0 = x1 → ((¬ x0 = 0 → K (.inl (some (iv x2))) (mj J sw lg x)) ∧ (x0 = 0 → K (.inl (some (iv (-x3)))) (mj J sw lg x))))) : VV X d 258 (0, [some (iv x0), some (iv x1), some (iv x2), some (iv x3)], [], mj J sw lg x) K := by
  refine v_s mt_258 rfl rfl rfl ?_
  refine v_s mt_258 rfl rfl rfl ?_
  obtain ⟨z1, h⟩ := h
  obtain ⟨z2, h⟩ := h
  refine j_if2 mt_258 rfl rfl z1 z2 (fun c => ?_) (fun c => ?_)
  · replace h := h.1 c
    refine v_s mt_258 rfl rfl rfl ?_
    refine j_if1 mt_258 rfl rfl z1 (fun c => ?_) (fun c => ?_)
    · replace h := h.1 c
      refine v_s mt_258 rfl rfl rfl ?_
      refine v_ic (v := Int32.ofInt 2) mt_258 rfl rfl ?_
      refine j_div (e := bDiv x2 2) mt_258 rfl ⟨by decide, by decide⟩ (by decide) rfl ?_
      exact v_ret mt_258 rfl rfl rfl h
    · replace h := h.2 (Decidable.not_not.mp c)
      refine v_s mt_258 rfl rfl rfl ?_
      refine v_go mt_258 rfl rfl ?_
      exact v_ret mt_258 rfl rfl rfl h
  · replace h := h.2 (Decidable.not_not.mp c)
    refine v_s mt_258 rfl rfl rfl ?_
    refine j_if1 mt_258 rfl rfl z1 (fun c => ?_) (fun c => ?_)
    · replace h := h.1 c
      refine v_s mt_258 rfl rfl rfl ?_
      refine v_go mt_258 rfl rfl ?_
      exact v_ret mt_258 rfl rfl rfl h
    · replace h := h.2 (Decidable.not_not.mp c)
      refine v_s mt_258 rfl rfl rfl ?_
      refine j_neg (e := -x3) mt_258 rfl rfl ?_
      refine v_go mt_258 rfl rfl ?_
      exact v_ret mt_258 rfl rfl rfl h
set_option maxHeartbeats 600000 in
theorem b_259_0 {X : Nat × (Nat → Int32)} {d : Nat} {J : Nat → Nat → Int} {sw : Bool × Bool × Bool} {lg : Nat → Nat → Int64} {x : Nat} {K : (Option Value ⊕ Nat) → mM → Prop} {x1 x2 x3 : Int} {o4 o5 o6 o7 o8 : Option Value} (hd : 1 ≤ d)
    (h : InR x1 ∧ (x1 < 0 → K (.inl (some (iv 0))) (mj (m_up (m_up (m_up J 542 0 0) 542 0 1) 543 1 ((J 543 1) + 1)) sw lg x)) ∧ (0 ≤ x1 → ((99 < x1 → K (.inl (some (iv 0))) (mj (m_up (m_up (m_up J 542 0 0) 542 0 1) 543 1 ((J 543 1) + 1)) sw lg x)) ∧ (x1 ≤ 99 → (InR x2 ∧ (x2 < 0 → K (.inl (some (iv 0))) (mj (m_up (m_up (m_up J 542 0 0) 542 0 1) 543 1 ((J 543 1) + 1)) sw lg x)) ∧ (0 ≤ x2 → ((99 < x2 → K (.inl (some (iv 0))) (mj (m_up (m_up (m_up J 542 0 0) 542 0 1) 543 1 ((J 543 1) + 1)) sw lg x)) ∧ (x2 ≤ 99 → (InR x3 ∧ (x3 < 0 → K (.inl (some (iv 0))) (mj (m_up (m_up (m_up J 542 0 0) 542 0 1) 543 1 ((J 543 1) + 1)) sw lg x)) ∧ (0 ≤ x3 → ((2 < x3 → K (.inl (some (iv 0))) (mj (m_up (m_up (m_up J 542 0 0) 542 0 1) 543 1 ((J 543 1) + 1)) sw lg x)) ∧ (x3 ≤ 2 → VV X d 259 (59, [some (.ref 542), some (iv x1), some (iv x2), some (iv x3), some (iv 0), some (iv (-1)), some (iv 0), o7, o8], [], mj (m_up J 542 0 0) sw lg x) K)))))))))))) : VV X d 259 (0, [some (.ref 542), some (iv x1), some (iv x2), some (iv x3), o4, o5, o6, o7, o8], [], mj J sw lg x) K := by
  refine v_s mt_259 rfl rfl rfl ?_
  refine v_ic (v := Int32.ofInt 0) mt_259 rfl rfl ?_
  refine j_pi 0 mt_259 rfl rfl c_542 (by decide) ?_
  refine v_s mt_259 rfl rfl rfl ?_
  refine v_s mt_259 rfl rfl rfl ?_
  refine v_ic (v := Int32.ofInt 0) mt_259 rfl rfl ?_
  refine v_bp (v := Int32.ofInt 99) mt_259 rfl rfl ?_
  refine v_inl (L1 := [some (iv x1), some (iv 0), some (iv 99)]) mt_259 rfl rfl mt_162 rfl rfl rfl rfl (by clear h; omega) ?_
  refine v_s mt_162 rfl rfl rfl ?_
  refine v_s mt_162 rfl rfl rfl ?_
  obtain ⟨z1, h⟩ := h
  refine j_if2 mt_162 rfl rfl z1 ⟨by decide, by decide⟩ (fun c => ?_) (fun c => ?_)
  · replace h := h.1 c
    refine v_ic (v := Int32.ofInt 0) mt_162 rfl rfl ?_
    refine j_retb mt_162 rfl rfl (by decide) ?_
    refine j_if1 mt_259 rfl rfl ⟨by decide, by decide⟩ (fun _ => ?_) (fun c => (c (show (0 : Int) = 0 by decide)).elim)
    refine v_ic (v := Int32.ofInt 0) mt_259 rfl rfl ?_
    refine v_ic (v := Int32.ofInt 1) mt_259 rfl rfl ?_
    refine v_ic (v := Int32.ofInt 1) mt_259 rfl rfl ?_
    refine v_inl (L1 := [some (.ref 542), some (iv 0), some (iv 1), some (iv 1)]) mt_259 rfl rfl mt_161 rfl rfl (m_callj (As := [iv 0, iv 1, iv 1]) (rest := []) rfl rfl c_542 rfl (Nat.le_of_ble_eq_true rfl) (Nat.le_of_ble_eq_true rfl)) rfl (by clear h; omega) ?_
    refine v_s mt_161 rfl rfl rfl ?_
    refine j_if1 mt_161 rfl rfl ⟨by decide, by decide⟩ (fun c => absurd (show ¬ (0 : Int) = 0 from c) (by decide)) (fun _ => ?_)
    refine v_s mt_161 rfl rfl rfl ?_
    refine j_gi (w := 0) 0 mt_161 rfl rfl c_542 (by decide) (up_eq _ _ _ _) ?_
    refine j_if1 mt_161 rfl rfl ⟨by decide, by decide⟩ (fun c => absurd (show ¬ (0 : Int) = 0 from c) (by decide)) (fun _ => ?_)
    refine v_s mt_161 rfl rfl rfl ?_
    refine v_s mt_161 rfl rfl rfl ?_
    refine j_pi 0 mt_161 rfl rfl c_542 (by decide) ?_
    refine v_s mt_161 rfl rfl rfl ?_
    refine v_gr (w := 543) 1 mt_161 rfl rfl c_542 (by decide) (g_12_1 c_542) ?_
    refine v_s mt_161 rfl rfl rfl ?_
    refine v_s mt_161 rfl rfl rfl ?_
    refine j_al (w := J 543 1) mt_161 rfl c_543 ⟨by decide, by decide⟩ (by decide) ((up_na (by decide)).trans ((up_na (by decide)).trans rfl)) ?_
    refine v_ic (v := Int32.ofInt 1) mt_161 rfl rfl ?_
    refine j_add (e := (J 543 1) + 1) mt_161 rfl rfl ?_
    refine j_as mt_161 rfl c_543 ⟨by decide, by decide⟩ (by decide) ?_
    refine v_s mt_161 rfl rfl rfl ?_
    refine j_gi (w := 1) 0 mt_161 rfl rfl c_542 (by decide) ((up_na (by decide)).trans (up_eq _ _ _ _)) ?_
    refine j_if1 mt_161 rfl rfl ⟨by decide, by decide⟩ (fun _ => ?_) (fun c => (c (show ¬ (1 : Int) = 0 by decide)).elim)
    refine v_ic (v := Int32.ofInt 0) mt_161 rfl rfl ?_
    refine j_retb mt_161 rfl rfl (by decide) ?_
    refine j_if1 mt_259 rfl rfl ⟨by decide, by decide⟩ (fun c => absurd (show ¬ (0 : Int) = 0 from c) (by decide)) (fun _ => ?_)
    refine v_ic (v := Int32.ofInt 0) mt_259 rfl rfl ?_
    exact v_ret mt_259 rfl rfl rfl h
  · replace h := h.2 (Int.not_lt.mp c)
    refine v_s mt_162 rfl rfl rfl ?_
    refine v_s mt_162 rfl rfl rfl ?_
    refine j_if2 mt_162 rfl rfl z1 ⟨by decide, by decide⟩ (fun c => ?_) (fun c => ?_)
    · replace h := h.1 c
      refine v_ic (v := Int32.ofInt 0) mt_162 rfl rfl ?_
      refine j_retb mt_162 rfl rfl (by decide) ?_
      refine j_if1 mt_259 rfl rfl ⟨by decide, by decide⟩ (fun _ => ?_) (fun c => (c (show (0 : Int) = 0 by decide)).elim)
      refine v_ic (v := Int32.ofInt 0) mt_259 rfl rfl ?_
      refine v_ic (v := Int32.ofInt 1) mt_259 rfl rfl ?_
      refine v_ic (v := Int32.ofInt 1) mt_259 rfl rfl ?_
      refine v_inl (L1 := [some (.ref 542), some (iv 0), some (iv 1), some (iv 1)]) mt_259 rfl rfl mt_161 rfl rfl (m_callj (As := [iv 0, iv 1, iv 1]) (rest := []) rfl rfl c_542 rfl (Nat.le_of_ble_eq_true rfl) (Nat.le_of_ble_eq_true rfl)) rfl (by clear h; omega) ?_
      refine v_s mt_161 rfl rfl rfl ?_
      refine j_if1 mt_161 rfl rfl ⟨by decide, by decide⟩ (fun c => absurd (show ¬ (0 : Int) = 0 from c) (by decide)) (fun _ => ?_)
      refine v_s mt_161 rfl rfl rfl ?_
      refine j_gi (w := 0) 0 mt_161 rfl rfl c_542 (by decide) (up_eq _ _ _ _) ?_
      refine j_if1 mt_161 rfl rfl ⟨by decide, by decide⟩ (fun c => absurd (show ¬ (0 : Int) = 0 from c) (by decide)) (fun _ => ?_)
      refine v_s mt_161 rfl rfl rfl ?_
      refine v_s mt_161 rfl rfl rfl ?_
      refine j_pi 0 mt_161 rfl rfl c_542 (by decide) ?_
      refine v_s mt_161 rfl rfl rfl ?_
      refine v_gr (w := 543) 1 mt_161 rfl rfl c_542 (by decide) (g_12_1 c_542) ?_
      refine v_s mt_161 rfl rfl rfl ?_
      refine v_s mt_161 rfl rfl rfl ?_
      refine j_al (w := J 543 1) mt_161 rfl c_543 ⟨by decide, by decide⟩ (by decide) ((up_na (by decide)).trans ((up_na (by decide)).trans rfl)) ?_
      refine v_ic (v := Int32.ofInt 1) mt_161 rfl rfl ?_
      refine j_add (e := (J 543 1) + 1) mt_161 rfl rfl ?_
      refine j_as mt_161 rfl c_543 ⟨by decide, by decide⟩ (by decide) ?_
      refine v_s mt_161 rfl rfl rfl ?_
      refine j_gi (w := 1) 0 mt_161 rfl rfl c_542 (by decide) ((up_na (by decide)).trans (up_eq _ _ _ _)) ?_
      refine j_if1 mt_161 rfl rfl ⟨by decide, by decide⟩ (fun _ => ?_) (fun c => (c (show ¬ (1 : Int) = 0 by decide)).elim)
      refine v_ic (v := Int32.ofInt 0) mt_161 rfl rfl ?_
      refine j_retb mt_161 rfl rfl (by decide) ?_
      refine j_if1 mt_259 rfl rfl ⟨by decide, by decide⟩ (fun c => absurd (show ¬ (0 : Int) = 0 from c) (by decide)) (fun _ => ?_)
      refine v_ic (v := Int32.ofInt 0) mt_259 rfl rfl ?_
      exact v_ret mt_259 rfl rfl rfl h
    · replace h := h.2 (Int.not_lt.mp c)
      refine v_ic (v := Int32.ofInt 1) mt_162 rfl rfl ?_
      refine v_go mt_162 rfl rfl ?_
      refine j_retb mt_162 rfl rfl (by decide) ?_
      refine j_if1 mt_259 rfl rfl ⟨by decide, by decide⟩ (fun c => absurd (show (1 : Int) = 0 from c) (by decide)) (fun _ => ?_)
      refine v_s mt_259 rfl rfl rfl ?_
      refine v_ic (v := Int32.ofInt 0) mt_259 rfl rfl ?_
      refine v_bp (v := Int32.ofInt 99) mt_259 rfl rfl ?_
      refine v_inl (L1 := [some (iv x2), some (iv 0), some (iv 99)]) mt_259 rfl rfl mt_162 rfl rfl rfl rfl (by clear h; omega) ?_
      refine v_s mt_162 rfl rfl rfl ?_
      refine v_s mt_162 rfl rfl rfl ?_
      obtain ⟨z2, h⟩ := h
      refine j_if2 mt_162 rfl rfl z2 ⟨by decide, by decide⟩ (fun c => ?_) (fun c => ?_)
      · replace h := h.1 c
        refine v_ic (v := Int32.ofInt 0) mt_162 rfl rfl ?_
        refine j_retb mt_162 rfl rfl (by decide) ?_
        refine j_if1 mt_259 rfl rfl ⟨by decide, by decide⟩ (fun _ => ?_) (fun c => (c (show (0 : Int) = 0 by decide)).elim)
        refine v_ic (v := Int32.ofInt 0) mt_259 rfl rfl ?_
        refine v_ic (v := Int32.ofInt 1) mt_259 rfl rfl ?_
        refine v_ic (v := Int32.ofInt 1) mt_259 rfl rfl ?_
        refine v_inl (L1 := [some (.ref 542), some (iv 0), some (iv 1), some (iv 1)]) mt_259 rfl rfl mt_161 rfl rfl (m_callj (As := [iv 0, iv 1, iv 1]) (rest := []) rfl rfl c_542 rfl (Nat.le_of_ble_eq_true rfl) (Nat.le_of_ble_eq_true rfl)) rfl (by clear h; omega) ?_
        refine v_s mt_161 rfl rfl rfl ?_
        refine j_if1 mt_161 rfl rfl ⟨by decide, by decide⟩ (fun c => absurd (show ¬ (0 : Int) = 0 from c) (by decide)) (fun _ => ?_)
        refine v_s mt_161 rfl rfl rfl ?_
        refine j_gi (w := 0) 0 mt_161 rfl rfl c_542 (by decide) (up_eq _ _ _ _) ?_
        refine j_if1 mt_161 rfl rfl ⟨by decide, by decide⟩ (fun c => absurd (show ¬ (0 : Int) = 0 from c) (by decide)) (fun _ => ?_)
        refine v_s mt_161 rfl rfl rfl ?_
        refine v_s mt_161 rfl rfl rfl ?_
        refine j_pi 0 mt_161 rfl rfl c_542 (by decide) ?_
        refine v_s mt_161 rfl rfl rfl ?_
        refine v_gr (w := 543) 1 mt_161 rfl rfl c_542 (by decide) (g_12_1 c_542) ?_
        refine v_s mt_161 rfl rfl rfl ?_
        refine v_s mt_161 rfl rfl rfl ?_
        refine j_al (w := J 543 1) mt_161 rfl c_543 ⟨by decide, by decide⟩ (by decide) ((up_na (by decide)).trans ((up_na (by decide)).trans rfl)) ?_
        refine v_ic (v := Int32.ofInt 1) mt_161 rfl rfl ?_
        refine j_add (e := (J 543 1) + 1) mt_161 rfl rfl ?_
        refine j_as mt_161 rfl c_543 ⟨by decide, by decide⟩ (by decide) ?_
        refine v_s mt_161 rfl rfl rfl ?_
        refine j_gi (w := 1) 0 mt_161 rfl rfl c_542 (by decide) ((up_na (by decide)).trans (up_eq _ _ _ _)) ?_
        refine j_if1 mt_161 rfl rfl ⟨by decide, by decide⟩ (fun _ => ?_) (fun c => (c (show ¬ (1 : Int) = 0 by decide)).elim)
        refine v_ic (v := Int32.ofInt 0) mt_161 rfl rfl ?_
        refine j_retb mt_161 rfl rfl (by decide) ?_
        refine j_if1 mt_259 rfl rfl ⟨by decide, by decide⟩ (fun c => absurd (show ¬ (0 : Int) = 0 from c) (by decide)) (fun _ => ?_)
        refine v_ic (v := Int32.ofInt 0) mt_259 rfl rfl ?_
        exact v_ret mt_259 rfl rfl rfl h
      · replace h := h.2 (Int.not_lt.mp c)
        refine v_s mt_162 rfl rfl rfl ?_
        refine v_s mt_162 rfl rfl rfl ?_
        refine j_if2 mt_162 rfl rfl z2 ⟨by decide, by decide⟩ (fun c => ?_) (fun c => ?_)
        · replace h := h.1 c
          refine v_ic (v := Int32.ofInt 0) mt_162 rfl rfl ?_
          refine j_retb mt_162 rfl rfl (by decide) ?_
          refine j_if1 mt_259 rfl rfl ⟨by decide, by decide⟩ (fun _ => ?_) (fun c => (c (show (0 : Int) = 0 by decide)).elim)
          refine v_ic (v := Int32.ofInt 0) mt_259 rfl rfl ?_
          refine v_ic (v := Int32.ofInt 1) mt_259 rfl rfl ?_
          refine v_ic (v := Int32.ofInt 1) mt_259 rfl rfl ?_
          refine v_inl (L1 := [some (.ref 542), some (iv 0), some (iv 1), some (iv 1)]) mt_259 rfl rfl mt_161 rfl rfl (m_callj (As := [iv 0, iv 1, iv 1]) (rest := []) rfl rfl c_542 rfl (Nat.le_of_ble_eq_true rfl) (Nat.le_of_ble_eq_true rfl)) rfl (by clear h; omega) ?_
          refine v_s mt_161 rfl rfl rfl ?_
          refine j_if1 mt_161 rfl rfl ⟨by decide, by decide⟩ (fun c => absurd (show ¬ (0 : Int) = 0 from c) (by decide)) (fun _ => ?_)
          refine v_s mt_161 rfl rfl rfl ?_
          refine j_gi (w := 0) 0 mt_161 rfl rfl c_542 (by decide) (up_eq _ _ _ _) ?_
          refine j_if1 mt_161 rfl rfl ⟨by decide, by decide⟩ (fun c => absurd (show ¬ (0 : Int) = 0 from c) (by decide)) (fun _ => ?_)
          refine v_s mt_161 rfl rfl rfl ?_
          refine v_s mt_161 rfl rfl rfl ?_
          refine j_pi 0 mt_161 rfl rfl c_542 (by decide) ?_
          refine v_s mt_161 rfl rfl rfl ?_
          refine v_gr (w := 543) 1 mt_161 rfl rfl c_542 (by decide) (g_12_1 c_542) ?_
          refine v_s mt_161 rfl rfl rfl ?_
          refine v_s mt_161 rfl rfl rfl ?_
          refine j_al (w := J 543 1) mt_161 rfl c_543 ⟨by decide, by decide⟩ (by decide) ((up_na (by decide)).trans ((up_na (by decide)).trans rfl)) ?_
          refine v_ic (v := Int32.ofInt 1) mt_161 rfl rfl ?_
          refine j_add (e := (J 543 1) + 1) mt_161 rfl rfl ?_
          refine j_as mt_161 rfl c_543 ⟨by decide, by decide⟩ (by decide) ?_
          refine v_s mt_161 rfl rfl rfl ?_
          refine j_gi (w := 1) 0 mt_161 rfl rfl c_542 (by decide) ((up_na (by decide)).trans (up_eq _ _ _ _)) ?_
          refine j_if1 mt_161 rfl rfl ⟨by decide, by decide⟩ (fun _ => ?_) (fun c => (c (show ¬ (1 : Int) = 0 by decide)).elim)
          refine v_ic (v := Int32.ofInt 0) mt_161 rfl rfl ?_
          refine j_retb mt_161 rfl rfl (by decide) ?_
          refine j_if1 mt_259 rfl rfl ⟨by decide, by decide⟩ (fun c => absurd (show ¬ (0 : Int) = 0 from c) (by decide)) (fun _ => ?_)
          refine v_ic (v := Int32.ofInt 0) mt_259 rfl rfl ?_
          exact v_ret mt_259 rfl rfl rfl h
        · replace h := h.2 (Int.not_lt.mp c)
          refine v_ic (v := Int32.ofInt 1) mt_162 rfl rfl ?_
          refine v_go mt_162 rfl rfl ?_
          refine j_retb mt_162 rfl rfl (by decide) ?_
          refine j_if1 mt_259 rfl rfl ⟨by decide, by decide⟩ (fun c => absurd (show (1 : Int) = 0 from c) (by decide)) (fun _ => ?_)
          refine v_s mt_259 rfl rfl rfl ?_
          refine v_ic (v := Int32.ofInt 0) mt_259 rfl rfl ?_
          refine v_ic (v := Int32.ofInt 2) mt_259 rfl rfl ?_
          refine v_inl (L1 := [some (iv x3), some (iv 0), some (iv 2)]) mt_259 rfl rfl mt_162 rfl rfl rfl rfl (by clear h; omega) ?_
          refine v_s mt_162 rfl rfl rfl ?_
          refine v_s mt_162 rfl rfl rfl ?_
          obtain ⟨z3, h⟩ := h
          refine j_if2 mt_162 rfl rfl z3 ⟨by decide, by decide⟩ (fun c => ?_) (fun c => ?_)
          · replace h := h.1 c
            refine v_ic (v := Int32.ofInt 0) mt_162 rfl rfl ?_
            refine j_retb mt_162 rfl rfl (by decide) ?_
            refine j_if1 mt_259 rfl rfl ⟨by decide, by decide⟩ (fun _ => ?_) (fun c => (c (show (0 : Int) = 0 by decide)).elim)
            refine v_ic (v := Int32.ofInt 0) mt_259 rfl rfl ?_
            refine v_ic (v := Int32.ofInt 1) mt_259 rfl rfl ?_
            refine v_ic (v := Int32.ofInt 1) mt_259 rfl rfl ?_
            refine v_inl (L1 := [some (.ref 542), some (iv 0), some (iv 1), some (iv 1)]) mt_259 rfl rfl mt_161 rfl rfl (m_callj (As := [iv 0, iv 1, iv 1]) (rest := []) rfl rfl c_542 rfl (Nat.le_of_ble_eq_true rfl) (Nat.le_of_ble_eq_true rfl)) rfl (by clear h; omega) ?_
            refine v_s mt_161 rfl rfl rfl ?_
            refine j_if1 mt_161 rfl rfl ⟨by decide, by decide⟩ (fun c => absurd (show ¬ (0 : Int) = 0 from c) (by decide)) (fun _ => ?_)
            refine v_s mt_161 rfl rfl rfl ?_
            refine j_gi (w := 0) 0 mt_161 rfl rfl c_542 (by decide) (up_eq _ _ _ _) ?_
            refine j_if1 mt_161 rfl rfl ⟨by decide, by decide⟩ (fun c => absurd (show ¬ (0 : Int) = 0 from c) (by decide)) (fun _ => ?_)
            refine v_s mt_161 rfl rfl rfl ?_
            refine v_s mt_161 rfl rfl rfl ?_
            refine j_pi 0 mt_161 rfl rfl c_542 (by decide) ?_
            refine v_s mt_161 rfl rfl rfl ?_
            refine v_gr (w := 543) 1 mt_161 rfl rfl c_542 (by decide) (g_12_1 c_542) ?_
            refine v_s mt_161 rfl rfl rfl ?_
            refine v_s mt_161 rfl rfl rfl ?_
            refine j_al (w := J 543 1) mt_161 rfl c_543 ⟨by decide, by decide⟩ (by decide) ((up_na (by decide)).trans ((up_na (by decide)).trans rfl)) ?_
            refine v_ic (v := Int32.ofInt 1) mt_161 rfl rfl ?_
            refine j_add (e := (J 543 1) + 1) mt_161 rfl rfl ?_
            refine j_as mt_161 rfl c_543 ⟨by decide, by decide⟩ (by decide) ?_
            refine v_s mt_161 rfl rfl rfl ?_
            refine j_gi (w := 1) 0 mt_161 rfl rfl c_542 (by decide) ((up_na (by decide)).trans (up_eq _ _ _ _)) ?_
            refine j_if1 mt_161 rfl rfl ⟨by decide, by decide⟩ (fun _ => ?_) (fun c => (c (show ¬ (1 : Int) = 0 by decide)).elim)
            refine v_ic (v := Int32.ofInt 0) mt_161 rfl rfl ?_
            refine j_retb mt_161 rfl rfl (by decide) ?_
            refine j_if1 mt_259 rfl rfl ⟨by decide, by decide⟩ (fun c => absurd (show ¬ (0 : Int) = 0 from c) (by decide)) (fun _ => ?_)
            refine v_ic (v := Int32.ofInt 0) mt_259 rfl rfl ?_
            exact v_ret mt_259 rfl rfl rfl h
          · replace h := h.2 (Int.not_lt.mp c)
            refine v_s mt_162 rfl rfl rfl ?_
            refine v_s mt_162 rfl rfl rfl ?_
            refine j_if2 mt_162 rfl rfl z3 ⟨by decide, by decide⟩ (fun c => ?_) (fun c => ?_)
            · replace h := h.1 c
              refine v_ic (v := Int32.ofInt 0) mt_162 rfl rfl ?_
              refine j_retb mt_162 rfl rfl (by decide) ?_
              refine j_if1 mt_259 rfl rfl ⟨by decide, by decide⟩ (fun _ => ?_) (fun c => (c (show (0 : Int) = 0 by decide)).elim)
              refine v_ic (v := Int32.ofInt 0) mt_259 rfl rfl ?_
              refine v_ic (v := Int32.ofInt 1) mt_259 rfl rfl ?_
              refine v_ic (v := Int32.ofInt 1) mt_259 rfl rfl ?_
              refine v_inl (L1 := [some (.ref 542), some (iv 0), some (iv 1), some (iv 1)]) mt_259 rfl rfl mt_161 rfl rfl (m_callj (As := [iv 0, iv 1, iv 1]) (rest := []) rfl rfl c_542 rfl (Nat.le_of_ble_eq_true rfl) (Nat.le_of_ble_eq_true rfl)) rfl (by clear h; omega) ?_
              refine v_s mt_161 rfl rfl rfl ?_
              refine j_if1 mt_161 rfl rfl ⟨by decide, by decide⟩ (fun c => absurd (show ¬ (0 : Int) = 0 from c) (by decide)) (fun _ => ?_)
              refine v_s mt_161 rfl rfl rfl ?_
              refine j_gi (w := 0) 0 mt_161 rfl rfl c_542 (by decide) (up_eq _ _ _ _) ?_
              refine j_if1 mt_161 rfl rfl ⟨by decide, by decide⟩ (fun c => absurd (show ¬ (0 : Int) = 0 from c) (by decide)) (fun _ => ?_)
              refine v_s mt_161 rfl rfl rfl ?_
              refine v_s mt_161 rfl rfl rfl ?_
              refine j_pi 0 mt_161 rfl rfl c_542 (by decide) ?_
              refine v_s mt_161 rfl rfl rfl ?_
              refine v_gr (w := 543) 1 mt_161 rfl rfl c_542 (by decide) (g_12_1 c_542) ?_
              refine v_s mt_161 rfl rfl rfl ?_
              refine v_s mt_161 rfl rfl rfl ?_
              refine j_al (w := J 543 1) mt_161 rfl c_543 ⟨by decide, by decide⟩ (by decide) ((up_na (by decide)).trans ((up_na (by decide)).trans rfl)) ?_
              refine v_ic (v := Int32.ofInt 1) mt_161 rfl rfl ?_
              refine j_add (e := (J 543 1) + 1) mt_161 rfl rfl ?_
              refine j_as mt_161 rfl c_543 ⟨by decide, by decide⟩ (by decide) ?_
              refine v_s mt_161 rfl rfl rfl ?_
              refine j_gi (w := 1) 0 mt_161 rfl rfl c_542 (by decide) ((up_na (by decide)).trans (up_eq _ _ _ _)) ?_
              refine j_if1 mt_161 rfl rfl ⟨by decide, by decide⟩ (fun _ => ?_) (fun c => (c (show ¬ (1 : Int) = 0 by decide)).elim)
              refine v_ic (v := Int32.ofInt 0) mt_161 rfl rfl ?_
              refine j_retb mt_161 rfl rfl (by decide) ?_
              refine j_if1 mt_259 rfl rfl ⟨by decide, by decide⟩ (fun c => absurd (show ¬ (0 : Int) = 0 from c) (by decide)) (fun _ => ?_)
              refine v_ic (v := Int32.ofInt 0) mt_259 rfl rfl ?_
              exact v_ret mt_259 rfl rfl rfl h
            · replace h := h.2 (Int.not_lt.mp c)
              refine v_ic (v := Int32.ofInt 1) mt_162 rfl rfl ?_
              refine v_go mt_162 rfl rfl ?_
              refine j_retb mt_162 rfl rfl (by decide) ?_
              refine j_if1 mt_259 rfl rfl ⟨by decide, by decide⟩ (fun c => absurd (show (1 : Int) = 0 from c) (by decide)) (fun _ => ?_)
              refine v_ic (v := Int32.ofInt 1) mt_259 rfl rfl ?_
              refine v_go mt_259 rfl rfl ?_
              refine v_ic (v := Int32.ofInt 1) mt_259 rfl rfl ?_
              refine v_ic (v := Int32.ofInt 1) mt_259 rfl rfl ?_
              refine v_inl (L1 := [some (.ref 542), some (iv 1), some (iv 1), some (iv 1)]) mt_259 rfl rfl mt_161 rfl rfl (m_callj (As := [iv 1, iv 1, iv 1]) (rest := []) rfl rfl c_542 rfl (Nat.le_of_ble_eq_true rfl) (Nat.le_of_ble_eq_true rfl)) rfl (by clear h; omega) ?_
              refine v_s mt_161 rfl rfl rfl ?_
              refine j_if1 mt_161 rfl rfl ⟨by decide, by decide⟩ (fun _ => ?_) (fun c => (c (show ¬ (1 : Int) = 0 by decide)).elim)
              refine v_s mt_161 rfl rfl rfl ?_
              refine j_gi (w := 0) 0 mt_161 rfl rfl c_542 (by decide) (up_eq _ _ _ _) ?_
              refine j_if1 mt_161 rfl rfl ⟨by decide, by decide⟩ (fun c => absurd (show ¬ (0 : Int) = 0 from c) (by decide)) (fun _ => ?_)
              refine v_ic (v := Int32.ofInt 1) mt_161 rfl rfl ?_
              refine v_go mt_161 rfl rfl ?_
              refine j_retb mt_161 rfl rfl (by decide) ?_
              refine j_if1 mt_259 rfl rfl ⟨by decide, by decide⟩ (fun _ => ?_) (fun c => (c (show ¬ (1 : Int) = 0 by decide)).elim)
              refine v_ic (v := Int32.ofInt 0) mt_259 rfl rfl ?_
              refine v_is (L' := [some (.ref 542), some (iv x1), some (iv x2), some (iv x3), some (iv 0), o5, o6, o7, o8]) mt_259 rfl (Nat.le_of_ble_eq_true rfl) rfl ?_
              refine v_ic (v := Int32.ofInt (-1)) mt_259 rfl rfl ?_
              refine v_is (L' := [some (.ref 542), some (iv x1), some (iv x2), some (iv x3), some (iv 0), some (iv (-1)), o6, o7, o8]) mt_259 rfl (Nat.le_of_ble_eq_true rfl) rfl ?_
              refine v_ic (v := Int32.ofInt 0) mt_259 rfl rfl ?_
              refine v_is (L' := [some (.ref 542), some (iv x1), some (iv x2), some (iv x3), some (iv 0), some (iv (-1)), some (iv 0), o7, o8]) mt_259 rfl (Nat.le_of_ble_eq_true rfl) rfl ?_
              exact h
set_option maxHeartbeats 600000 in
theorem b_259_59 {X : Nat × (Nat → Int32)} {d : Nat} {J : Nat → Nat → Int} {sw : Bool × Bool × Bool} {lg : Nat → Nat → Int64} {x : Nat} {K : (Option Value ⊕ Nat) → mM → Prop} {x1 x2 x3 x4 x5 x6 : Int} {o0 o7 o8 : Option Value} (hd : 1 ≤ d)
    (h : InR x6 ∧ (4 ≤ x6 → (InR x3 ∧ (¬ x3 = 0 → ((¬ x3 = 1 → (InR x5 ∧ (¬ x5 = (-1) → VV X d 259 (185, [o0, some (iv x1), some (iv x2), some (iv x3), some (iv x4), some (iv x5), some (iv x6), o7, o8], [], mj J sw lg x) K) ∧ (x5 = (-1) → K (.inl (some (iv 0))) (mj J sw lg x)))) ∧ (x3 = 1 → K (.inl (some (iv x5))) (mj J sw lg x)))) ∧ (x3 = 0 → K (.inl (some (iv x4))) (mj J sw lg x)))) ∧ (x6 < 4 → (∃ (c2 : Int) (J1 : Nat → Nat → Int), EE X 0 258 [iv (1 - (bDiv x6 2)), iv (bRem x6 2), iv x1, iv x2] (mj J sw lg x) (.inl (some (iv c2))) (mj J1 sw lg x) ∧ ∃ (c4 : Int) (J3 : Nat → Nat → Int), EE X 0 258 [iv (bDiv x6 2), iv (bRem x6 2), iv x1, iv x2] (mj J1 sw lg x) (.inl (some (iv c4))) (mj J3 sw lg x) ∧ InR c2 ∧ InR c4 ∧ (c4 < c2 → VV X d 259 (59, [o0, some (iv x1), some (iv x2), some (iv x3), some (iv x4), some (iv x5), some (iv (x6 + 1)), some (iv (bDiv x6 2)), some (iv (bRem x6 2))], [], mj J3 sw lg x) K) ∧ (c2 ≤ c4 → VV X d 259 (100, [o0, some (iv x1), some (iv x2), some (iv x3), some (iv x4), some (iv x5), some (iv x6), some (iv (bDiv x6 2)), some (iv (bRem x6 2))], [], mj J3 sw lg x) K)))) : VV X d 259 (59, [o0, some (iv x1), some (iv x2), some (iv x3), some (iv x4), some (iv x5), some (iv x6), o7, o8], [], mj J sw lg x) K := by
  refine v_s mt_259 rfl rfl rfl ?_
  refine v_ic (v := Int32.ofInt 4) mt_259 rfl rfl ?_
  obtain ⟨z1, h⟩ := h
  refine j_if2 mt_259 rfl rfl z1 ⟨by decide, by decide⟩ (fun c => ?_) (fun c => ?_)
  · replace h := h.1 c
    refine v_s mt_259 rfl rfl rfl ?_
    obtain ⟨z2, h⟩ := h
    refine j_if1 mt_259 rfl rfl z2 (fun c => ?_) (fun c => ?_)
    · replace h := h.1 c
      refine v_s mt_259 rfl rfl rfl ?_
      refine v_ic (v := Int32.ofInt 1) mt_259 rfl rfl ?_
      refine j_if2 mt_259 rfl rfl z2 ⟨by decide, by decide⟩ (fun c => ?_) (fun c => ?_)
      · replace h := h.1 c
        refine v_s mt_259 rfl rfl rfl ?_
        refine v_ic (v := Int32.ofInt (-1)) mt_259 rfl rfl ?_
        obtain ⟨z3, h⟩ := h
        refine j_if2 mt_259 rfl rfl z3 ⟨by decide, by decide⟩ (fun c => ?_) (fun c => ?_)
        · replace h := h.1 c
          exact h
        · replace h := h.2 (Decidable.not_not.mp c)
          refine v_ic (v := Int32.ofInt 0) mt_259 rfl rfl ?_
          refine v_go mt_259 rfl rfl ?_
          exact v_ret mt_259 rfl rfl rfl h
      · replace h := h.2 (Decidable.not_not.mp c)
        refine v_s mt_259 rfl rfl rfl ?_
        refine v_go mt_259 rfl rfl ?_
        exact v_ret mt_259 rfl rfl rfl h
    · replace h := h.2 (Decidable.not_not.mp c)
      refine v_s mt_259 rfl rfl rfl ?_
      refine v_go mt_259 rfl rfl ?_
      exact v_ret mt_259 rfl rfl rfl h
  · replace h := h.2 (Int.not_le.mp c)
    refine v_s mt_259 rfl rfl rfl ?_
    refine v_ic (v := Int32.ofInt 2) mt_259 rfl rfl ?_
    refine j_div (e := bDiv x6 2) mt_259 rfl ⟨by decide, by decide⟩ (by decide) rfl ?_
    refine v_is (L' := [o0, some (iv x1), some (iv x2), some (iv x3), some (iv x4), some (iv x5), some (iv x6), some (iv (bDiv x6 2)), o8]) mt_259 rfl (Nat.le_of_ble_eq_true rfl) rfl ?_
    refine v_s mt_259 rfl rfl rfl ?_
    refine v_ic (v := Int32.ofInt 2) mt_259 rfl rfl ?_
    refine j_rem (e := bRem x6 2) mt_259 rfl ⟨by decide, by decide⟩ (by decide) rfl ?_
    refine v_is (L' := [o0, some (iv x1), some (iv x2), some (iv x3), some (iv x4), some (iv x5), some (iv x6), some (iv (bDiv x6 2)), some (iv (bRem x6 2))]) mt_259 rfl (Nat.le_of_ble_eq_true rfl) rfl ?_
    refine v_ic (v := Int32.ofInt 1) mt_259 rfl rfl ?_
    refine v_s mt_259 rfl rfl rfl ?_
    refine j_sub (e := 1 - (bDiv x6 2)) mt_259 rfl rfl ?_
    refine v_s mt_259 rfl rfl rfl ?_
    refine v_s mt_259 rfl rfl rfl ?_
    refine v_s mt_259 rfl rfl rfl ?_
    obtain ⟨c2, J1, z4, h⟩ := h
    refine v_call (d1 := 0) mt_259 rfl rfl mt_258 rfl rfl rfl z4 (by clear h; omega) ?_
    refine v_s mt_259 rfl rfl rfl ?_
    refine v_s mt_259 rfl rfl rfl ?_
    refine v_s mt_259 rfl rfl rfl ?_
    refine v_s mt_259 rfl rfl rfl ?_
    obtain ⟨c4, J3, z5, h⟩ := h
    refine v_call (d1 := 0) mt_259 rfl rfl mt_258 rfl rfl rfl z5 (by clear h; omega) ?_
    obtain ⟨z6, h⟩ := h
    obtain ⟨z7, h⟩ := h
    refine j_if2 mt_259 rfl rfl z6 z7 (fun c => ?_) (fun c => ?_)
    · replace h := h.1 c
      refine j_inc (e := x6 + 1) (L' := [o0, some (iv x1), some (iv x2), some (iv x3), some (iv x4), some (iv x5), some (iv (x6 + 1)), some (iv (bDiv x6 2)), some (iv (bRem x6 2))]) mt_259 rfl rfl (Nat.le_of_ble_eq_true rfl) rfl rfl ?_
      refine v_go mt_259 rfl rfl ?_
      exact h
    · replace h := h.2 (Int.not_lt.mp c)
      exact h
set_option maxHeartbeats 600000 in
theorem b_259_185 {X : Nat × (Nat → Int32)} {d : Nat} {J : Nat → Nat → Int} {sw : Bool × Bool × Bool} {lg : Nat → Nat → Int64} {x : Nat} {K : (Option Value ⊕ Nat) → mM → Prop} {x1 x2 x3 x4 x5 x6 : Int} {o0 o7 o8 : Option Value} (hd : 1 ≤ d)
    (h : ∃ (c2 : Int) (J1 : Nat → Nat → Int), EE X 0 258 [iv (bDiv x5 10), iv (bRem x5 10), iv x1, iv x2] (mj J sw lg x) (.inl (some (iv c2))) (mj J1 sw lg x) ∧ ∃ (c4 : Int) (J3 : Nat → Nat → Int), EE X 0 258 [iv (bRem x5 10), iv (bDiv x5 10), iv x1, iv x2] (mj J1 sw lg x) (.inl (some (iv c4))) (mj J3 sw lg x) ∧ K (.inl (some (iv (c2 + c4)))) (mj J3 sw lg x)) : VV X d 259 (185, [o0, some (iv x1), some (iv x2), some (iv x3), some (iv x4), some (iv x5), some (iv x6), o7, o8], [], mj J sw lg x) K := by
  refine v_s mt_259 rfl rfl rfl ?_
  refine v_bp (v := Int32.ofInt 10) mt_259 rfl rfl ?_
  refine j_div (e := bDiv x5 10) mt_259 rfl ⟨by decide, by decide⟩ (by decide) rfl ?_
  refine v_s mt_259 rfl rfl rfl ?_
  refine v_bp (v := Int32.ofInt 10) mt_259 rfl rfl ?_
  refine j_rem (e := bRem x5 10) mt_259 rfl ⟨by decide, by decide⟩ (by decide) rfl ?_
  refine v_s mt_259 rfl rfl rfl ?_
  refine v_s mt_259 rfl rfl rfl ?_
  obtain ⟨c2, J1, z1, h⟩ := h
  refine v_call (d1 := 0) mt_259 rfl rfl mt_258 rfl rfl rfl z1 (by clear h; omega) ?_
  refine v_s mt_259 rfl rfl rfl ?_
  refine v_bp (v := Int32.ofInt 10) mt_259 rfl rfl ?_
  refine j_rem (e := bRem x5 10) mt_259 rfl ⟨by decide, by decide⟩ (by decide) rfl ?_
  refine v_s mt_259 rfl rfl rfl ?_
  refine v_bp (v := Int32.ofInt 10) mt_259 rfl rfl ?_
  refine j_div (e := bDiv x5 10) mt_259 rfl ⟨by decide, by decide⟩ (by decide) rfl ?_
  refine v_s mt_259 rfl rfl rfl ?_
  refine v_s mt_259 rfl rfl rfl ?_
  obtain ⟨c4, J3, z2, h⟩ := h
  refine v_call (d1 := 0) mt_259 rfl rfl mt_258 rfl rfl rfl z2 (by clear h; omega) ?_
  refine j_add (e := c2 + c4) mt_259 rfl rfl ?_
  exact v_ret mt_259 rfl rfl rfl h
set_option maxHeartbeats 600000 in
theorem b_259_100 {X : Nat × (Nat → Int32)} {d : Nat} {J : Nat → Nat → Int} {sw : Bool × Bool × Bool} {lg : Nat → Nat → Int64} {x : Nat} {K : (Option Value ⊕ Nat) → mM → Prop} {x1 x2 x3 x4 x5 x6 x7 x8 : Int} {o0 : Option Value} (hd : 1 ≤ d)
    (h : ∃ (c2 : Int) (J1 : Nat → Nat → Int), EE X 0 258 [iv (1 - x8), iv x7, iv x1, iv x2] (mj J sw lg x) (.inl (some (iv c2))) (mj J1 sw lg x) ∧ ∃ (c4 : Int) (J3 : Nat → Nat → Int), EE X 0 258 [iv x8, iv x7, iv x1, iv x2] (mj J1 sw lg x) (.inl (some (iv c4))) (mj J3 sw lg x) ∧ InR c2 ∧ InR c4 ∧ (c2 ≤ c4 → VV X d 259 (126, [o0, some (iv x1), some (iv x2), some (iv x3), some (iv x4), some (iv x5), some (iv x6), some (iv x7), some (iv x8)], [], mj J3 sw lg x) K) ∧ (c4 < c2 → VV X d 259 (59, [o0, some (iv x1), some (iv x2), some (iv x3), some (iv x4), some (iv x5), some (iv (x6 + 1)), some (iv x7), some (iv x8)], [], mj J3 sw lg x) K)) : VV X d 259 (100, [o0, some (iv x1), some (iv x2), some (iv x3), some (iv x4), some (iv x5), some (iv x6), some (iv x7), some (iv x8)], [], mj J sw lg x) K := by
  refine v_ic (v := Int32.ofInt 1) mt_259 rfl rfl ?_
  refine v_s mt_259 rfl rfl rfl ?_
  refine j_sub (e := 1 - x8) mt_259 rfl rfl ?_
  refine v_s mt_259 rfl rfl rfl ?_
  refine v_s mt_259 rfl rfl rfl ?_
  refine v_s mt_259 rfl rfl rfl ?_
  obtain ⟨c2, J1, z1, h⟩ := h
  refine v_call (d1 := 0) mt_259 rfl rfl mt_258 rfl rfl rfl z1 (by clear h; omega) ?_
  refine v_s mt_259 rfl rfl rfl ?_
  refine v_s mt_259 rfl rfl rfl ?_
  refine v_s mt_259 rfl rfl rfl ?_
  refine v_s mt_259 rfl rfl rfl ?_
  obtain ⟨c4, J3, z2, h⟩ := h
  refine v_call (d1 := 0) mt_259 rfl rfl mt_258 rfl rfl rfl z2 (by clear h; omega) ?_
  obtain ⟨z3, h⟩ := h
  obtain ⟨z4, h⟩ := h
  refine j_if2 mt_259 rfl rfl z3 z4 (fun c => ?_) (fun c => ?_)
  · replace h := h.1 c
    exact h
  · replace h := h.2 (Int.not_le.mp c)
    refine v_go mt_259 rfl rfl ?_
    refine j_inc (e := x6 + 1) (L' := [o0, some (iv x1), some (iv x2), some (iv x3), some (iv x4), some (iv x5), some (iv (x6 + 1)), some (iv x7), some (iv x8)]) mt_259 rfl rfl (Nat.le_of_ble_eq_true rfl) rfl rfl ?_
    refine v_go mt_259 rfl rfl ?_
    exact h
set_option maxHeartbeats 600000 in
theorem b_259_126 {X : Nat × (Nat → Int32)} {d : Nat} {J : Nat → Nat → Int} {sw : Bool × Bool × Bool} {lg : Nat → Nat → Int64} {x : Nat} {K : (Option Value ⊕ Nat) → mM → Prop} {x1 x2 x3 x4 x5 x6 x7 x8 : Int} {o0 : Option Value} (hd : 1 ≤ d)
    (h : InR x5 ∧ (¬ x5 = (-1) → VV X d 259 (59, [o0, some (iv x1), some (iv x2), some (iv x3), some (iv (x4 + 1)), some (iv x5), some (iv (x6 + 1)), some (iv x7), some (iv x8)], [], mj J sw lg x) K) ∧ (x5 = (-1) → VV X d 259 (59, [o0, some (iv x1), some (iv x2), some (iv x3), some (iv (x4 + 1)), some (iv ((10 * x7) + x8)), some (iv (x6 + 1)), some (iv x7), some (iv x8)], [], mj J sw lg x) K)) : VV X d 259 (126, [o0, some (iv x1), some (iv x2), some (iv x3), some (iv x4), some (iv x5), some (iv x6), some (iv x7), some (iv x8)], [], mj J sw lg x) K := by
  refine j_inc (e := x4 + 1) (L' := [o0, some (iv x1), some (iv x2), some (iv x3), some (iv (x4 + 1)), some (iv x5), some (iv x6), some (iv x7), some (iv x8)]) mt_259 rfl rfl (Nat.le_of_ble_eq_true rfl) rfl rfl ?_
  refine v_s mt_259 rfl rfl rfl ?_
  refine v_ic (v := Int32.ofInt (-1)) mt_259 rfl rfl ?_
  obtain ⟨z1, h⟩ := h
  refine j_if2 mt_259 rfl rfl z1 ⟨by decide, by decide⟩ (fun c => ?_) (fun c => ?_)
  · replace h := h.1 c
    refine v_s mt_259 rfl rfl rfl ?_
    refine v_is (L' := [o0, some (iv x1), some (iv x2), some (iv x3), some (iv (x4 + 1)), some (iv x5), some (iv x6), some (iv x7), some (iv x8)]) mt_259 rfl (Nat.le_of_ble_eq_true rfl) rfl ?_
    refine j_inc (e := x6 + 1) (L' := [o0, some (iv x1), some (iv x2), some (iv x3), some (iv (x4 + 1)), some (iv x5), some (iv (x6 + 1)), some (iv x7), some (iv x8)]) mt_259 rfl rfl (Nat.le_of_ble_eq_true rfl) rfl rfl ?_
    refine v_go mt_259 rfl rfl ?_
    exact h
  · replace h := h.2 (Decidable.not_not.mp c)
    refine v_bp (v := Int32.ofInt 10) mt_259 rfl rfl ?_
    refine v_s mt_259 rfl rfl rfl ?_
    refine j_mul (e := 10 * x7) mt_259 rfl rfl ?_
    refine v_s mt_259 rfl rfl rfl ?_
    refine j_add (e := (10 * x7) + x8) mt_259 rfl rfl ?_
    refine v_go mt_259 rfl rfl ?_
    refine v_is (L' := [o0, some (iv x1), some (iv x2), some (iv x3), some (iv (x4 + 1)), some (iv ((10 * x7) + x8)), some (iv x6), some (iv x7), some (iv x8)]) mt_259 rfl (Nat.le_of_ble_eq_true rfl) rfl ?_
    refine j_inc (e := x6 + 1) (L' := [o0, some (iv x1), some (iv x2), some (iv x3), some (iv (x4 + 1)), some (iv ((10 * x7) + x8)), some (iv (x6 + 1)), some (iv x7), some (iv x8)]) mt_259 rfl rfl (Nat.le_of_ble_eq_true rfl) rfl rfl ?_
    refine v_go mt_259 rfl rfl ?_
    exact h
set_option maxHeartbeats 600000 in
theorem b_260_0 {X : Nat × (Nat → Int32)} {d : Nat} {J : Nat → Nat → Int} {sw : Bool × Bool × Bool} {lg : Nat → Nat → Int64} {x : Nat} {K : (Option Value ⊕ Nat) → mM → Prop} {x1 x2 : Int} {o3 o4 : Option Value}
    (h : VV X d 260 (5, [some (.ref 542), some (iv x1), some (iv x2), some (iv 0), some (iv 0)], [], mj J sw lg x) K) : VV X d 260 (0, [some (.ref 542), some (iv x1), some (iv x2), o3, o4], [], mj J sw lg x) K := by
  refine v_ic (v := Int32.ofInt 0) mt_260 rfl rfl ?_
  refine v_isn (L' := [some (.ref 542), some (iv x1), some (iv x2), some (iv 0), o4]) mt_260 rfl (Nat.le_of_ble_eq_true rfl) rfl ?_
  refine v_ic (v := Int32.ofInt 0) mt_260 rfl rfl ?_
  refine v_is (L' := [some (.ref 542), some (iv x1), some (iv x2), some (iv 0), some (iv 0)]) mt_260 rfl (Nat.le_of_ble_eq_true rfl) rfl ?_
  exact h
set_option maxHeartbeats 600000 in
theorem b_260_5 {X : Nat × (Nat → Int32)} {d : Nat} {J : Nat → Nat → Int} {sw : Bool × Bool × Bool} {lg : Nat → Nat → Int64} {x : Nat} {K : (Option Value ⊕ Nat) → mM → Prop} {x1 x2 x3 x4 : Int}
    (h : InR x4 ∧ InR (J 542 26) ∧ (J 542 26 ≤ x4 → K (.inl (some (iv x3))) (mj J sw lg x)) ∧ (x4 < J 542 26 → ((0 ≤ 30 + x4 ∧ 30 + x4 < 50) ∧ InR (J 561 ((30 + x4).toNat)) ∧ InR x2 ∧ (x2 ≤ J 561 ((30 + x4).toNat) → VV X d 260 (5, [some (.ref 542), some (iv x1), some (iv x2), some (iv (x3 + ((bAnd (bShr x1 x4) 1) * x2))), some (iv (x4 + 1))], [], mj J sw lg x) K) ∧ (J 561 ((30 + x4).toNat) < x2 → VV X d 260 (5, [some (.ref 542), some (iv x1), some (iv x2), some (iv (x3 + ((bAnd (bShr x1 x4) 1) * (J 561 ((30 + x4).toNat))))), some (iv (x4 + 1))], [], mj J sw lg x) K)))) : VV X d 260 (5, [some (.ref 542), some (iv x1), some (iv x2), some (iv x3), some (iv x4)], [], mj J sw lg x) K := by
  refine v_s mt_260 rfl rfl rfl ?_
  refine v_s mt_260 rfl rfl rfl ?_
  refine j_gi (w := J 542 26) 26 mt_260 rfl rfl c_542 (by decide) rfl ?_
  obtain ⟨z1, h⟩ := h
  obtain ⟨z2, h⟩ := h
  refine j_if2 mt_260 rfl rfl z1 z2 (fun c => ?_) (fun c => ?_)
  · replace h := h.1 c
    refine v_s mt_260 rfl rfl rfl ?_
    exact v_ret mt_260 rfl rfl rfl h
  · replace h := h.2 (Int.not_le.mp c)
    refine v_s mt_260 rfl rfl rfl ?_
    refine v_s mt_260 rfl rfl rfl ?_
    refine v_s mt_260 rfl rfl rfl ?_
    refine j_shr (e := bShr x1 x4) mt_260 rfl rfl ?_
    refine v_ic (v := Int32.ofInt 1) mt_260 rfl rfl ?_
    refine j_and (e := bAnd (bShr x1 x4) 1) mt_260 rfl rfl ?_
    refine v_s mt_260 rfl rfl rfl ?_
    refine v_gr (w := 561) 45 mt_260 rfl rfl c_542 (by decide) (g_12_45 c_542) ?_
    refine v_bp (v := Int32.ofInt 30) mt_260 rfl rfl ?_
    refine v_s mt_260 rfl rfl rfl ?_
    refine j_add (e := 30 + x4) mt_260 rfl rfl ?_
    obtain ⟨z3, h⟩ := h
    refine j_al (w := J 561 ((30 + x4).toNat)) mt_260 rfl c_561 z3 (by decide) rfl ?_
    refine v_s mt_260 rfl rfl rfl ?_
    obtain ⟨z4, h⟩ := h
    obtain ⟨z5, h⟩ := h
    refine j_if2 mt_260 rfl rfl z4 z5 (fun c => ?_) (fun c => ?_)
    · replace h := h.1 c
      refine v_s mt_260 rfl rfl rfl ?_
      refine j_mul (e := (bAnd (bShr x1 x4) 1) * x2) mt_260 rfl rfl ?_
      refine j_add (e := x3 + ((bAnd (bShr x1 x4) 1) * x2)) mt_260 rfl rfl ?_
      refine v_isn (L' := [some (.ref 542), some (iv x1), some (iv x2), some (iv (x3 + ((bAnd (bShr x1 x4) 1) * x2))), some (iv x4)]) mt_260 rfl (Nat.le_of_ble_eq_true rfl) rfl ?_
      refine j_inc (e := x4 + 1) (L' := [some (.ref 542), some (iv x1), some (iv x2), some (iv (x3 + ((bAnd (bShr x1 x4) 1) * x2))), some (iv (x4 + 1))]) mt_260 rfl rfl (Nat.le_of_ble_eq_true rfl) rfl rfl ?_
      refine v_go mt_260 rfl rfl ?_
      exact h
    · replace h := h.2 (Int.not_le.mp c)
      refine v_s mt_260 rfl rfl rfl ?_
      refine v_gr (w := 561) 45 mt_260 rfl rfl c_542 (by decide) (g_12_45 c_542) ?_
      refine v_bp (v := Int32.ofInt 30) mt_260 rfl rfl ?_
      refine v_s mt_260 rfl rfl rfl ?_
      refine j_add (e := 30 + x4) mt_260 rfl rfl ?_
      refine j_al (w := J 561 ((30 + x4).toNat)) mt_260 rfl c_561 z3 (by decide) rfl ?_
      refine v_go mt_260 rfl rfl ?_
      refine j_mul (e := (bAnd (bShr x1 x4) 1) * (J 561 ((30 + x4).toNat))) mt_260 rfl rfl ?_
      refine j_add (e := x3 + ((bAnd (bShr x1 x4) 1) * (J 561 ((30 + x4).toNat)))) mt_260 rfl rfl ?_
      refine v_isn (L' := [some (.ref 542), some (iv x1), some (iv x2), some (iv (x3 + ((bAnd (bShr x1 x4) 1) * (J 561 ((30 + x4).toNat))))), some (iv x4)]) mt_260 rfl (Nat.le_of_ble_eq_true rfl) rfl ?_
      refine j_inc (e := x4 + 1) (L' := [some (.ref 542), some (iv x1), some (iv x2), some (iv (x3 + ((bAnd (bShr x1 x4) 1) * (J 561 ((30 + x4).toNat))))), some (iv (x4 + 1))]) mt_260 rfl rfl (Nat.le_of_ble_eq_true rfl) rfl rfl ?_
      refine v_go mt_260 rfl rfl ?_
      exact h
set_option maxHeartbeats 600000 in
theorem b_261_0 {X : Nat × (Nat → Int32)} {d : Nat} {J : Nat → Nat → Int} {sw : Bool × Bool × Bool} {lg : Nat → Nat → Int64} {x : Nat} {K : (Option Value ⊕ Nat) → mM → Prop} {x1 x2 x3 : Int} {o4 : Option Value} (hd : 2 ≤ d)
    (h : InR x1 ∧ (x1 < 0 → K (.inl (some (iv 0))) (mj (m_up (m_up (m_up J 542 0 0) 542 0 1) 543 0 ((J 543 0) + 1)) sw lg x)) ∧ (0 ≤ x1 → (InR ((J 542 26) - 1) ∧ ((J 542 26) - 1 < x1 → K (.inl (some (iv 0))) (mj (m_up (m_up (m_up J 542 0 0) 542 0 1) 543 0 ((J 543 0) + 1)) sw lg x)) ∧ (x1 ≤ (J 542 26) - 1 → (InR x2 ∧ (x2 < 0 → K (.inl (some (iv 0))) (mj (m_up (m_up (m_up J 542 0 0) 542 0 2) 543 1 ((J 543 1) + 1)) sw lg x)) ∧ (0 ≤ x2 → ((bShl 1 (J 542 26) ≤ x2 → K (.inl (some (iv 0))) (mj (m_up (m_up (m_up J 542 0 0) 542 0 2) 543 1 ((J 543 1) + 1)) sw lg x)) ∧ (x2 < bShl 1 (J 542 26) → (InR x3 ∧ (x3 < 0 → K (.inl (some (iv 0))) (mj (m_up (m_up (m_up J 542 0 0) 542 0 2) 543 1 ((J 543 1) + 1)) sw lg x)) ∧ (0 ≤ x3 → ((999 < x3 → K (.inl (some (iv 0))) (mj (m_up (m_up (m_up J 542 0 0) 542 0 2) 543 1 ((J 543 1) + 1)) sw lg x)) ∧ (x3 ≤ 999 → VV X d 261 (59, [some (.ref 542), some (iv x1), some (iv x2), some (iv x3), some (iv 99)], [], mj (m_up J 542 0 0) sw lg x) K)))))))))))) : VV X d 261 (0, [some (.ref 542), some (iv x1), some (iv x2), some (iv x3), o4], [], mj J sw lg x) K := by
  refine v_s mt_261 rfl rfl rfl ?_
  refine v_ic (v := Int32.ofInt 0) mt_261 rfl rfl ?_
  refine j_pi 0 mt_261 rfl rfl c_542 (by decide) ?_
  refine v_s mt_261 rfl rfl rfl ?_
  refine v_s mt_261 rfl rfl rfl ?_
  refine v_ic (v := Int32.ofInt 1) mt_261 rfl rfl ?_
  refine v_inl (L1 := [some (.ref 542), some (iv x1), some (iv 1)]) mt_261 rfl rfl mt_227 rfl rfl (m_callj (As := [iv x1, iv 1]) (rest := []) rfl rfl c_542 rfl (Nat.le_of_ble_eq_true rfl) (Nat.le_of_ble_eq_true rfl)) rfl (by clear h; omega) ?_
  refine v_s mt_227 rfl rfl rfl ?_
  refine v_s mt_227 rfl rfl rfl ?_
  refine v_ic (v := Int32.ofInt 0) mt_227 rfl rfl ?_
  refine v_s mt_227 rfl rfl rfl ?_
  refine j_gi (w := J 542 26) 26 mt_227 rfl rfl c_542 (by decide) ((up_nk (by decide)).trans rfl) ?_
  refine v_ic (v := Int32.ofInt 1) mt_227 rfl rfl ?_
  refine j_sub (e := (J 542 26) - 1) mt_227 rfl rfl ?_
  refine v_inl (L1 := [some (iv x1), some (iv 0), some (iv ((J 542 26) - 1))]) mt_227 rfl rfl mt_162 rfl rfl rfl rfl (by clear h; omega) ?_
  refine v_s mt_162 rfl rfl rfl ?_
  refine v_s mt_162 rfl rfl rfl ?_
  obtain ⟨z1, h⟩ := h
  refine j_if2 mt_162 rfl rfl z1 ⟨by decide, by decide⟩ (fun c => ?_) (fun c => ?_)
  · replace h := h.1 c
    refine v_ic (v := Int32.ofInt 0) mt_162 rfl rfl ?_
    refine j_retb mt_162 rfl rfl (by decide) ?_
    refine v_s mt_227 rfl rfl rfl ?_
    refine v_ic (v := Int32.ofInt 0) mt_227 rfl rfl ?_
    refine v_inl (L1 := [some (.ref 542), some (iv 0), some (iv 1), some (iv 0)]) mt_227 rfl rfl mt_161 rfl rfl (m_callj (As := [iv 0, iv 1, iv 0]) (rest := []) rfl rfl c_542 rfl (Nat.le_of_ble_eq_true rfl) (Nat.le_of_ble_eq_true rfl)) rfl (by clear h; omega) ?_
    refine v_s mt_161 rfl rfl rfl ?_
    refine j_if1 mt_161 rfl rfl ⟨by decide, by decide⟩ (fun c => absurd (show ¬ (0 : Int) = 0 from c) (by decide)) (fun _ => ?_)
    refine v_s mt_161 rfl rfl rfl ?_
    refine j_gi (w := 0) 0 mt_161 rfl rfl c_542 (by decide) (up_eq _ _ _ _) ?_
    refine j_if1 mt_161 rfl rfl ⟨by decide, by decide⟩ (fun c => absurd (show ¬ (0 : Int) = 0 from c) (by decide)) (fun _ => ?_)
    refine v_s mt_161 rfl rfl rfl ?_
    refine v_s mt_161 rfl rfl rfl ?_
    refine j_pi 0 mt_161 rfl rfl c_542 (by decide) ?_
    refine v_s mt_161 rfl rfl rfl ?_
    refine v_gr (w := 543) 1 mt_161 rfl rfl c_542 (by decide) (g_12_1 c_542) ?_
    refine v_s mt_161 rfl rfl rfl ?_
    refine v_s mt_161 rfl rfl rfl ?_
    refine j_al (w := J 543 0) mt_161 rfl c_543 ⟨by decide, by decide⟩ (by decide) ((up_na (by decide)).trans ((up_na (by decide)).trans rfl)) ?_
    refine v_ic (v := Int32.ofInt 1) mt_161 rfl rfl ?_
    refine j_add (e := (J 543 0) + 1) mt_161 rfl rfl ?_
    refine j_as mt_161 rfl c_543 ⟨by decide, by decide⟩ (by decide) ?_
    refine v_s mt_161 rfl rfl rfl ?_
    refine j_gi (w := 1) 0 mt_161 rfl rfl c_542 (by decide) ((up_na (by decide)).trans (up_eq _ _ _ _)) ?_
    refine j_if1 mt_161 rfl rfl ⟨by decide, by decide⟩ (fun _ => ?_) (fun c => (c (show ¬ (1 : Int) = 0 by decide)).elim)
    refine v_ic (v := Int32.ofInt 0) mt_161 rfl rfl ?_
    refine j_retb mt_161 rfl rfl (by decide) ?_
    refine j_retb mt_227 rfl rfl (by decide) ?_
    refine j_if1 mt_261 rfl rfl ⟨by decide, by decide⟩ (fun _ => ?_) (fun c => (c (show (0 : Int) = 0 by decide)).elim)
    refine v_ic (v := Int32.ofInt 0) mt_261 rfl rfl ?_
    exact v_ret mt_261 rfl rfl rfl h
  · replace h := h.2 (Int.not_lt.mp c)
    refine v_s mt_162 rfl rfl rfl ?_
    refine v_s mt_162 rfl rfl rfl ?_
    obtain ⟨z2, h⟩ := h
    refine j_if2 mt_162 rfl rfl z1 z2 (fun c => ?_) (fun c => ?_)
    · replace h := h.1 c
      refine v_ic (v := Int32.ofInt 0) mt_162 rfl rfl ?_
      refine j_retb mt_162 rfl rfl (by decide) ?_
      refine v_s mt_227 rfl rfl rfl ?_
      refine v_ic (v := Int32.ofInt 0) mt_227 rfl rfl ?_
      refine v_inl (L1 := [some (.ref 542), some (iv 0), some (iv 1), some (iv 0)]) mt_227 rfl rfl mt_161 rfl rfl (m_callj (As := [iv 0, iv 1, iv 0]) (rest := []) rfl rfl c_542 rfl (Nat.le_of_ble_eq_true rfl) (Nat.le_of_ble_eq_true rfl)) rfl (by clear h; omega) ?_
      refine v_s mt_161 rfl rfl rfl ?_
      refine j_if1 mt_161 rfl rfl ⟨by decide, by decide⟩ (fun c => absurd (show ¬ (0 : Int) = 0 from c) (by decide)) (fun _ => ?_)
      refine v_s mt_161 rfl rfl rfl ?_
      refine j_gi (w := 0) 0 mt_161 rfl rfl c_542 (by decide) (up_eq _ _ _ _) ?_
      refine j_if1 mt_161 rfl rfl ⟨by decide, by decide⟩ (fun c => absurd (show ¬ (0 : Int) = 0 from c) (by decide)) (fun _ => ?_)
      refine v_s mt_161 rfl rfl rfl ?_
      refine v_s mt_161 rfl rfl rfl ?_
      refine j_pi 0 mt_161 rfl rfl c_542 (by decide) ?_
      refine v_s mt_161 rfl rfl rfl ?_
      refine v_gr (w := 543) 1 mt_161 rfl rfl c_542 (by decide) (g_12_1 c_542) ?_
      refine v_s mt_161 rfl rfl rfl ?_
      refine v_s mt_161 rfl rfl rfl ?_
      refine j_al (w := J 543 0) mt_161 rfl c_543 ⟨by decide, by decide⟩ (by decide) ((up_na (by decide)).trans ((up_na (by decide)).trans rfl)) ?_
      refine v_ic (v := Int32.ofInt 1) mt_161 rfl rfl ?_
      refine j_add (e := (J 543 0) + 1) mt_161 rfl rfl ?_
      refine j_as mt_161 rfl c_543 ⟨by decide, by decide⟩ (by decide) ?_
      refine v_s mt_161 rfl rfl rfl ?_
      refine j_gi (w := 1) 0 mt_161 rfl rfl c_542 (by decide) ((up_na (by decide)).trans (up_eq _ _ _ _)) ?_
      refine j_if1 mt_161 rfl rfl ⟨by decide, by decide⟩ (fun _ => ?_) (fun c => (c (show ¬ (1 : Int) = 0 by decide)).elim)
      refine v_ic (v := Int32.ofInt 0) mt_161 rfl rfl ?_
      refine j_retb mt_161 rfl rfl (by decide) ?_
      refine j_retb mt_227 rfl rfl (by decide) ?_
      refine j_if1 mt_261 rfl rfl ⟨by decide, by decide⟩ (fun _ => ?_) (fun c => (c (show (0 : Int) = 0 by decide)).elim)
      refine v_ic (v := Int32.ofInt 0) mt_261 rfl rfl ?_
      exact v_ret mt_261 rfl rfl rfl h
    · replace h := h.2 (Int.not_lt.mp c)
      refine v_ic (v := Int32.ofInt 1) mt_162 rfl rfl ?_
      refine v_go mt_162 rfl rfl ?_
      refine j_retb mt_162 rfl rfl (by decide) ?_
      refine v_s mt_227 rfl rfl rfl ?_
      refine v_ic (v := Int32.ofInt 0) mt_227 rfl rfl ?_
      refine v_inl (L1 := [some (.ref 542), some (iv 1), some (iv 1), some (iv 0)]) mt_227 rfl rfl mt_161 rfl rfl (m_callj (As := [iv 1, iv 1, iv 0]) (rest := []) rfl rfl c_542 rfl (Nat.le_of_ble_eq_true rfl) (Nat.le_of_ble_eq_true rfl)) rfl (by clear h; omega) ?_
      refine v_s mt_161 rfl rfl rfl ?_
      refine j_if1 mt_161 rfl rfl ⟨by decide, by decide⟩ (fun _ => ?_) (fun c => (c (show ¬ (1 : Int) = 0 by decide)).elim)
      refine v_s mt_161 rfl rfl rfl ?_
      refine j_gi (w := 0) 0 mt_161 rfl rfl c_542 (by decide) (up_eq _ _ _ _) ?_
      refine j_if1 mt_161 rfl rfl ⟨by decide, by decide⟩ (fun c => absurd (show ¬ (0 : Int) = 0 from c) (by decide)) (fun _ => ?_)
      refine v_ic (v := Int32.ofInt 1) mt_161 rfl rfl ?_
      refine v_go mt_161 rfl rfl ?_
      refine j_retb mt_161 rfl rfl (by decide) ?_
      refine j_retb mt_227 rfl rfl (by decide) ?_
      refine j_if1 mt_261 rfl rfl ⟨by decide, by decide⟩ (fun c => absurd (show (1 : Int) = 0 from c) (by decide)) (fun _ => ?_)
      refine v_s mt_261 rfl rfl rfl ?_
      refine v_s mt_261 rfl rfl rfl ?_
      obtain ⟨z3, h⟩ := h
      refine j_if1 mt_261 rfl rfl z3 (fun c => ?_) (fun c => ?_)
      · replace h := h.1 c
        refine v_ic (v := Int32.ofInt 0) mt_261 rfl rfl ?_
        refine v_ic (v := Int32.ofInt 2) mt_261 rfl rfl ?_
        refine v_ic (v := Int32.ofInt 1) mt_261 rfl rfl ?_
        refine v_inl (L1 := [some (.ref 542), some (iv 0), some (iv 2), some (iv 1)]) mt_261 rfl rfl mt_161 rfl rfl (m_callj (As := [iv 0, iv 2, iv 1]) (rest := []) rfl rfl c_542 rfl (Nat.le_of_ble_eq_true rfl) (Nat.le_of_ble_eq_true rfl)) rfl (by clear h; omega) ?_
        refine v_s mt_161 rfl rfl rfl ?_
        refine j_if1 mt_161 rfl rfl ⟨by decide, by decide⟩ (fun c => absurd (show ¬ (0 : Int) = 0 from c) (by decide)) (fun _ => ?_)
        refine v_s mt_161 rfl rfl rfl ?_
        refine j_gi (w := 0) 0 mt_161 rfl rfl c_542 (by decide) (up_eq _ _ _ _) ?_
        refine j_if1 mt_161 rfl rfl ⟨by decide, by decide⟩ (fun c => absurd (show ¬ (0 : Int) = 0 from c) (by decide)) (fun _ => ?_)
        refine v_s mt_161 rfl rfl rfl ?_
        refine v_s mt_161 rfl rfl rfl ?_
        refine j_pi 0 mt_161 rfl rfl c_542 (by decide) ?_
        refine v_s mt_161 rfl rfl rfl ?_
        refine v_gr (w := 543) 1 mt_161 rfl rfl c_542 (by decide) (g_12_1 c_542) ?_
        refine v_s mt_161 rfl rfl rfl ?_
        refine v_s mt_161 rfl rfl rfl ?_
        refine j_al (w := J 543 1) mt_161 rfl c_543 ⟨by decide, by decide⟩ (by decide) ((up_na (by decide)).trans ((up_na (by decide)).trans rfl)) ?_
        refine v_ic (v := Int32.ofInt 1) mt_161 rfl rfl ?_
        refine j_add (e := (J 543 1) + 1) mt_161 rfl rfl ?_
        refine j_as mt_161 rfl c_543 ⟨by decide, by decide⟩ (by decide) ?_
        refine v_s mt_161 rfl rfl rfl ?_
        refine j_gi (w := 2) 0 mt_161 rfl rfl c_542 (by decide) ((up_na (by decide)).trans (up_eq _ _ _ _)) ?_
        refine j_if1 mt_161 rfl rfl ⟨by decide, by decide⟩ (fun _ => ?_) (fun c => (c (show ¬ (2 : Int) = 0 by decide)).elim)
        refine v_ic (v := Int32.ofInt 0) mt_161 rfl rfl ?_
        refine j_retb mt_161 rfl rfl (by decide) ?_
        refine j_if1 mt_261 rfl rfl ⟨by decide, by decide⟩ (fun c => absurd (show ¬ (0 : Int) = 0 from c) (by decide)) (fun _ => ?_)
        refine v_ic (v := Int32.ofInt 0) mt_261 rfl rfl ?_
        exact v_ret mt_261 rfl rfl rfl h
      · replace h := h.2 (Int.not_lt.mp c)
        refine v_s mt_261 rfl rfl rfl ?_
        refine v_ic (v := Int32.ofInt 1) mt_261 rfl rfl ?_
        refine v_s mt_261 rfl rfl rfl ?_
        refine j_gi (w := J 542 26) 26 mt_261 rfl rfl c_542 (by decide) ((up_nk (by decide)).trans rfl) ?_
        refine j_shl (e := bShl 1 (J 542 26)) mt_261 rfl rfl ?_
        refine j_if2 mt_261 rfl rfl z3 (inT _) (fun c => ?_) (fun c => ?_)
        · replace h := h.1 c
          refine v_ic (v := Int32.ofInt 0) mt_261 rfl rfl ?_
          refine v_ic (v := Int32.ofInt 2) mt_261 rfl rfl ?_
          refine v_ic (v := Int32.ofInt 1) mt_261 rfl rfl ?_
          refine v_inl (L1 := [some (.ref 542), some (iv 0), some (iv 2), some (iv 1)]) mt_261 rfl rfl mt_161 rfl rfl (m_callj (As := [iv 0, iv 2, iv 1]) (rest := []) rfl rfl c_542 rfl (Nat.le_of_ble_eq_true rfl) (Nat.le_of_ble_eq_true rfl)) rfl (by clear h; omega) ?_
          refine v_s mt_161 rfl rfl rfl ?_
          refine j_if1 mt_161 rfl rfl ⟨by decide, by decide⟩ (fun c => absurd (show ¬ (0 : Int) = 0 from c) (by decide)) (fun _ => ?_)
          refine v_s mt_161 rfl rfl rfl ?_
          refine j_gi (w := 0) 0 mt_161 rfl rfl c_542 (by decide) (up_eq _ _ _ _) ?_
          refine j_if1 mt_161 rfl rfl ⟨by decide, by decide⟩ (fun c => absurd (show ¬ (0 : Int) = 0 from c) (by decide)) (fun _ => ?_)
          refine v_s mt_161 rfl rfl rfl ?_
          refine v_s mt_161 rfl rfl rfl ?_
          refine j_pi 0 mt_161 rfl rfl c_542 (by decide) ?_
          refine v_s mt_161 rfl rfl rfl ?_
          refine v_gr (w := 543) 1 mt_161 rfl rfl c_542 (by decide) (g_12_1 c_542) ?_
          refine v_s mt_161 rfl rfl rfl ?_
          refine v_s mt_161 rfl rfl rfl ?_
          refine j_al (w := J 543 1) mt_161 rfl c_543 ⟨by decide, by decide⟩ (by decide) ((up_na (by decide)).trans ((up_na (by decide)).trans rfl)) ?_
          refine v_ic (v := Int32.ofInt 1) mt_161 rfl rfl ?_
          refine j_add (e := (J 543 1) + 1) mt_161 rfl rfl ?_
          refine j_as mt_161 rfl c_543 ⟨by decide, by decide⟩ (by decide) ?_
          refine v_s mt_161 rfl rfl rfl ?_
          refine j_gi (w := 2) 0 mt_161 rfl rfl c_542 (by decide) ((up_na (by decide)).trans (up_eq _ _ _ _)) ?_
          refine j_if1 mt_161 rfl rfl ⟨by decide, by decide⟩ (fun _ => ?_) (fun c => (c (show ¬ (2 : Int) = 0 by decide)).elim)
          refine v_ic (v := Int32.ofInt 0) mt_161 rfl rfl ?_
          refine j_retb mt_161 rfl rfl (by decide) ?_
          refine j_if1 mt_261 rfl rfl ⟨by decide, by decide⟩ (fun c => absurd (show ¬ (0 : Int) = 0 from c) (by decide)) (fun _ => ?_)
          refine v_ic (v := Int32.ofInt 0) mt_261 rfl rfl ?_
          exact v_ret mt_261 rfl rfl rfl h
        · replace h := h.2 (Int.not_le.mp c)
          refine v_s mt_261 rfl rfl rfl ?_
          refine v_ic (v := Int32.ofInt 0) mt_261 rfl rfl ?_
          refine v_sp (v := Int32.ofInt 999) mt_261 rfl rfl ?_
          refine v_inl (L1 := [some (iv x3), some (iv 0), some (iv 999)]) mt_261 rfl rfl mt_162 rfl rfl rfl rfl (by clear h; omega) ?_
          refine v_s mt_162 rfl rfl rfl ?_
          refine v_s mt_162 rfl rfl rfl ?_
          obtain ⟨z4, h⟩ := h
          refine j_if2 mt_162 rfl rfl z4 ⟨by decide, by decide⟩ (fun c => ?_) (fun c => ?_)
          · replace h := h.1 c
            refine v_ic (v := Int32.ofInt 0) mt_162 rfl rfl ?_
            refine j_retb mt_162 rfl rfl (by decide) ?_
            refine j_if1 mt_261 rfl rfl ⟨by decide, by decide⟩ (fun _ => ?_) (fun c => (c (show (0 : Int) = 0 by decide)).elim)
            refine v_ic (v := Int32.ofInt 0) mt_261 rfl rfl ?_
            refine v_ic (v := Int32.ofInt 2) mt_261 rfl rfl ?_
            refine v_ic (v := Int32.ofInt 1) mt_261 rfl rfl ?_
            refine v_inl (L1 := [some (.ref 542), some (iv 0), some (iv 2), some (iv 1)]) mt_261 rfl rfl mt_161 rfl rfl (m_callj (As := [iv 0, iv 2, iv 1]) (rest := []) rfl rfl c_542 rfl (Nat.le_of_ble_eq_true rfl) (Nat.le_of_ble_eq_true rfl)) rfl (by clear h; omega) ?_
            refine v_s mt_161 rfl rfl rfl ?_
            refine j_if1 mt_161 rfl rfl ⟨by decide, by decide⟩ (fun c => absurd (show ¬ (0 : Int) = 0 from c) (by decide)) (fun _ => ?_)
            refine v_s mt_161 rfl rfl rfl ?_
            refine j_gi (w := 0) 0 mt_161 rfl rfl c_542 (by decide) (up_eq _ _ _ _) ?_
            refine j_if1 mt_161 rfl rfl ⟨by decide, by decide⟩ (fun c => absurd (show ¬ (0 : Int) = 0 from c) (by decide)) (fun _ => ?_)
            refine v_s mt_161 rfl rfl rfl ?_
            refine v_s mt_161 rfl rfl rfl ?_
            refine j_pi 0 mt_161 rfl rfl c_542 (by decide) ?_
            refine v_s mt_161 rfl rfl rfl ?_
            refine v_gr (w := 543) 1 mt_161 rfl rfl c_542 (by decide) (g_12_1 c_542) ?_
            refine v_s mt_161 rfl rfl rfl ?_
            refine v_s mt_161 rfl rfl rfl ?_
            refine j_al (w := J 543 1) mt_161 rfl c_543 ⟨by decide, by decide⟩ (by decide) ((up_na (by decide)).trans ((up_na (by decide)).trans rfl)) ?_
            refine v_ic (v := Int32.ofInt 1) mt_161 rfl rfl ?_
            refine j_add (e := (J 543 1) + 1) mt_161 rfl rfl ?_
            refine j_as mt_161 rfl c_543 ⟨by decide, by decide⟩ (by decide) ?_
            refine v_s mt_161 rfl rfl rfl ?_
            refine j_gi (w := 2) 0 mt_161 rfl rfl c_542 (by decide) ((up_na (by decide)).trans (up_eq _ _ _ _)) ?_
            refine j_if1 mt_161 rfl rfl ⟨by decide, by decide⟩ (fun _ => ?_) (fun c => (c (show ¬ (2 : Int) = 0 by decide)).elim)
            refine v_ic (v := Int32.ofInt 0) mt_161 rfl rfl ?_
            refine j_retb mt_161 rfl rfl (by decide) ?_
            refine j_if1 mt_261 rfl rfl ⟨by decide, by decide⟩ (fun c => absurd (show ¬ (0 : Int) = 0 from c) (by decide)) (fun _ => ?_)
            refine v_ic (v := Int32.ofInt 0) mt_261 rfl rfl ?_
            exact v_ret mt_261 rfl rfl rfl h
          · replace h := h.2 (Int.not_lt.mp c)
            refine v_s mt_162 rfl rfl rfl ?_
            refine v_s mt_162 rfl rfl rfl ?_
            refine j_if2 mt_162 rfl rfl z4 ⟨by decide, by decide⟩ (fun c => ?_) (fun c => ?_)
            · replace h := h.1 c
              refine v_ic (v := Int32.ofInt 0) mt_162 rfl rfl ?_
              refine j_retb mt_162 rfl rfl (by decide) ?_
              refine j_if1 mt_261 rfl rfl ⟨by decide, by decide⟩ (fun _ => ?_) (fun c => (c (show (0 : Int) = 0 by decide)).elim)
              refine v_ic (v := Int32.ofInt 0) mt_261 rfl rfl ?_
              refine v_ic (v := Int32.ofInt 2) mt_261 rfl rfl ?_
              refine v_ic (v := Int32.ofInt 1) mt_261 rfl rfl ?_
              refine v_inl (L1 := [some (.ref 542), some (iv 0), some (iv 2), some (iv 1)]) mt_261 rfl rfl mt_161 rfl rfl (m_callj (As := [iv 0, iv 2, iv 1]) (rest := []) rfl rfl c_542 rfl (Nat.le_of_ble_eq_true rfl) (Nat.le_of_ble_eq_true rfl)) rfl (by clear h; omega) ?_
              refine v_s mt_161 rfl rfl rfl ?_
              refine j_if1 mt_161 rfl rfl ⟨by decide, by decide⟩ (fun c => absurd (show ¬ (0 : Int) = 0 from c) (by decide)) (fun _ => ?_)
              refine v_s mt_161 rfl rfl rfl ?_
              refine j_gi (w := 0) 0 mt_161 rfl rfl c_542 (by decide) (up_eq _ _ _ _) ?_
              refine j_if1 mt_161 rfl rfl ⟨by decide, by decide⟩ (fun c => absurd (show ¬ (0 : Int) = 0 from c) (by decide)) (fun _ => ?_)
              refine v_s mt_161 rfl rfl rfl ?_
              refine v_s mt_161 rfl rfl rfl ?_
              refine j_pi 0 mt_161 rfl rfl c_542 (by decide) ?_
              refine v_s mt_161 rfl rfl rfl ?_
              refine v_gr (w := 543) 1 mt_161 rfl rfl c_542 (by decide) (g_12_1 c_542) ?_
              refine v_s mt_161 rfl rfl rfl ?_
              refine v_s mt_161 rfl rfl rfl ?_
              refine j_al (w := J 543 1) mt_161 rfl c_543 ⟨by decide, by decide⟩ (by decide) ((up_na (by decide)).trans ((up_na (by decide)).trans rfl)) ?_
              refine v_ic (v := Int32.ofInt 1) mt_161 rfl rfl ?_
              refine j_add (e := (J 543 1) + 1) mt_161 rfl rfl ?_
              refine j_as mt_161 rfl c_543 ⟨by decide, by decide⟩ (by decide) ?_
              refine v_s mt_161 rfl rfl rfl ?_
              refine j_gi (w := 2) 0 mt_161 rfl rfl c_542 (by decide) ((up_na (by decide)).trans (up_eq _ _ _ _)) ?_
              refine j_if1 mt_161 rfl rfl ⟨by decide, by decide⟩ (fun _ => ?_) (fun c => (c (show ¬ (2 : Int) = 0 by decide)).elim)
              refine v_ic (v := Int32.ofInt 0) mt_161 rfl rfl ?_
              refine j_retb mt_161 rfl rfl (by decide) ?_
              refine j_if1 mt_261 rfl rfl ⟨by decide, by decide⟩ (fun c => absurd (show ¬ (0 : Int) = 0 from c) (by decide)) (fun _ => ?_)
              refine v_ic (v := Int32.ofInt 0) mt_261 rfl rfl ?_
              exact v_ret mt_261 rfl rfl rfl h
            · replace h := h.2 (Int.not_lt.mp c)
              refine v_ic (v := Int32.ofInt 1) mt_162 rfl rfl ?_
              refine v_go mt_162 rfl rfl ?_
              refine j_retb mt_162 rfl rfl (by decide) ?_
              refine j_if1 mt_261 rfl rfl ⟨by decide, by decide⟩ (fun c => absurd (show (1 : Int) = 0 from c) (by decide)) (fun _ => ?_)
              refine v_ic (v := Int32.ofInt 1) mt_261 rfl rfl ?_
              refine v_go mt_261 rfl rfl ?_
              refine v_ic (v := Int32.ofInt 2) mt_261 rfl rfl ?_
              refine v_ic (v := Int32.ofInt 1) mt_261 rfl rfl ?_
              refine v_inl (L1 := [some (.ref 542), some (iv 1), some (iv 2), some (iv 1)]) mt_261 rfl rfl mt_161 rfl rfl (m_callj (As := [iv 1, iv 2, iv 1]) (rest := []) rfl rfl c_542 rfl (Nat.le_of_ble_eq_true rfl) (Nat.le_of_ble_eq_true rfl)) rfl (by clear h; omega) ?_
              refine v_s mt_161 rfl rfl rfl ?_
              refine j_if1 mt_161 rfl rfl ⟨by decide, by decide⟩ (fun _ => ?_) (fun c => (c (show ¬ (1 : Int) = 0 by decide)).elim)
              refine v_s mt_161 rfl rfl rfl ?_
              refine j_gi (w := 0) 0 mt_161 rfl rfl c_542 (by decide) (up_eq _ _ _ _) ?_
              refine j_if1 mt_161 rfl rfl ⟨by decide, by decide⟩ (fun c => absurd (show ¬ (0 : Int) = 0 from c) (by decide)) (fun _ => ?_)
              refine v_ic (v := Int32.ofInt 1) mt_161 rfl rfl ?_
              refine v_go mt_161 rfl rfl ?_
              refine j_retb mt_161 rfl rfl (by decide) ?_
              refine j_if1 mt_261 rfl rfl ⟨by decide, by decide⟩ (fun _ => ?_) (fun c => (c (show ¬ (1 : Int) = 0 by decide)).elim)
              refine v_bp (v := Int32.ofInt 99) mt_261 rfl rfl ?_
              refine v_is (L' := [some (.ref 542), some (iv x1), some (iv x2), some (iv x3), some (iv 99)]) mt_261 rfl (Nat.le_of_ble_eq_true rfl) rfl ?_
              exact h
set_option maxHeartbeats 600000 in
theorem b_261_59 {X : Nat × (Nat → Int32)} {d : Nat} {J : Nat → Nat → Int} {sw : Bool × Bool × Bool} {lg : Nat → Nat → Int64} {x : Nat} {K : (Option Value ⊕ Nat) → mM → Prop} {x1 x2 x3 x4 : Int} (hd : 2 ≤ d)
    (h : ∃ (c2 : Int) (J1 : Nat → Nat → Int), EE X 0 260 [.ref 542, iv x2, iv x4] (mj J sw lg x) (.inl (some (iv c2))) (mj J1 sw lg x) ∧ InR c2 ∧ InR x3 ∧ (c2 ≤ x3 → ((¬ bAnd (bShr x2 x1) 1 = 0 → ((0 ≤ 30 + x1 ∧ 30 + x1 < 50) ∧ InR (J1 561 ((30 + x1).toNat)) ∧ InR x4 ∧ (x4 ≤ J1 561 ((30 + x1).toNat) → K (.inl (some (iv x4))) (mj J1 sw lg x)) ∧ (J1 561 ((30 + x1).toNat) < x4 → K (.inl (some (iv (J1 561 ((30 + x1).toNat))))) (mj J1 sw lg x)))) ∧ (bAnd (bShr x2 x1) 1 = 0 → K (.inl (some (iv 0))) (mj J1 sw lg x)))) ∧ (x3 < c2 → VV X d 261 (59, [some (.ref 542), some (iv x1), some (iv x2), some (iv x3), some (iv (x4 + (-1)))], [], mj J1 sw lg x) K)) : VV X d 261 (59, [some (.ref 542), some (iv x1), some (iv x2), some (iv x3), some (iv x4)], [], mj J sw lg x) K := by
  refine v_s mt_261 rfl rfl rfl ?_
  refine v_s mt_261 rfl rfl rfl ?_
  refine v_s mt_261 rfl rfl rfl ?_
  obtain ⟨c2, J1, z1, h⟩ := h
  refine v_call (d1 := 0) mt_261 rfl rfl mt_260 rfl rfl (m_callj (As := [iv x2, iv x4]) (rest := []) rfl rfl c_542 rfl (Nat.le_of_ble_eq_true rfl) (Nat.le_of_ble_eq_true rfl)) z1 (by clear h; omega) ?_
  refine v_s mt_261 rfl rfl rfl ?_
  obtain ⟨z2, h⟩ := h
  obtain ⟨z3, h⟩ := h
  refine j_if2 mt_261 rfl rfl z2 z3 (fun c => ?_) (fun c => ?_)
  · replace h := h.1 c
    refine v_s mt_261 rfl rfl rfl ?_
    refine v_s mt_261 rfl rfl rfl ?_
    refine j_shr (e := bShr x2 x1) mt_261 rfl rfl ?_
    refine v_ic (v := Int32.ofInt 1) mt_261 rfl rfl ?_
    refine j_and (e := bAnd (bShr x2 x1) 1) mt_261 rfl rfl ?_
    refine j_if1 mt_261 rfl rfl (inT _) (fun c => ?_) (fun c => ?_)
    · replace h := h.1 c
      refine v_s mt_261 rfl rfl rfl ?_
      refine v_gr (w := 561) 45 mt_261 rfl rfl c_542 (by decide) (g_12_45 c_542) ?_
      refine v_bp (v := Int32.ofInt 30) mt_261 rfl rfl ?_
      refine v_s mt_261 rfl rfl rfl ?_
      refine j_add (e := 30 + x1) mt_261 rfl rfl ?_
      obtain ⟨z4, h⟩ := h
      refine j_al (w := J1 561 ((30 + x1).toNat)) mt_261 rfl c_561 z4 (by decide) rfl ?_
      refine v_s mt_261 rfl rfl rfl ?_
      obtain ⟨z5, h⟩ := h
      obtain ⟨z6, h⟩ := h
      refine j_if2 mt_261 rfl rfl z5 z6 (fun c => ?_) (fun c => ?_)
      · replace h := h.1 c
        refine v_s mt_261 rfl rfl rfl ?_
        exact v_ret mt_261 rfl rfl rfl h
      · replace h := h.2 (Int.not_le.mp c)
        refine v_s mt_261 rfl rfl rfl ?_
        refine v_gr (w := 561) 45 mt_261 rfl rfl c_542 (by decide) (g_12_45 c_542) ?_
        refine v_bp (v := Int32.ofInt 30) mt_261 rfl rfl ?_
        refine v_s mt_261 rfl rfl rfl ?_
        refine j_add (e := 30 + x1) mt_261 rfl rfl ?_
        refine j_al (w := J1 561 ((30 + x1).toNat)) mt_261 rfl c_561 z4 (by decide) rfl ?_
        refine v_go mt_261 rfl rfl ?_
        exact v_ret mt_261 rfl rfl rfl h
    · replace h := h.2 (Decidable.not_not.mp c)
      refine v_ic (v := Int32.ofInt 0) mt_261 rfl rfl ?_
      exact v_ret mt_261 rfl rfl rfl h
  · replace h := h.2 (Int.not_le.mp c)
    refine j_inc (e := x4 + (-1)) (L' := [some (.ref 542), some (iv x1), some (iv x2), some (iv x3), some (iv (x4 + (-1)))]) mt_261 rfl rfl (Nat.le_of_ble_eq_true rfl) rfl rfl ?_
    refine v_go mt_261 rfl rfl ?_
    exact h
set_option maxHeartbeats 600000 in
theorem b_265_0 {X : Nat × (Nat → Int32)} {d : Nat} {J : Nat → Nat → Int} {sw : Bool × Bool × Bool} {lg : Nat → Nat → Int64} {x : Nat} {K : (Option Value ⊕ Nat) → mM → Prop} {x1 : Int}
    (h : InR x1 ∧ ¬ x1 = 0 ∧ K (.inl (some (iv (bRem (bAnd (bShr (((J 542 57) * 1103515245) + 12345) 16) 32767) x1)))) (mj (m_up J 542 57 (((J 542 57) * 1103515245) + 12345)) sw lg x)) : VV X d 265 (0, [some (.ref 542), some (iv x1)], [], mj J sw lg x) K := by
  refine v_s mt_265 rfl rfl rfl ?_
  refine v_s mt_265 rfl rfl rfl ?_
  refine j_gi (w := J 542 57) 57 mt_265 rfl rfl c_542 (by decide) rfl ?_
  refine j_ldw (e := 1103515245) mt_265 rfl rfl ?_
  refine j_mul (e := (J 542 57) * 1103515245) mt_265 rfl rfl ?_
  refine v_sp (v := Int32.ofInt 12345) mt_265 rfl rfl ?_
  refine j_add (e := ((J 542 57) * 1103515245) + 12345) mt_265 rfl rfl ?_
  refine j_pi 57 mt_265 rfl rfl c_542 (by decide) ?_
  refine v_s mt_265 rfl rfl rfl ?_
  refine j_gi (w := ((J 542 57) * 1103515245) + 12345) 57 mt_265 rfl rfl c_542 (by decide) (up_eq _ _ _ _) ?_
  refine v_bp (v := Int32.ofInt 16) mt_265 rfl rfl ?_
  refine j_shr (e := bShr (((J 542 57) * 1103515245) + 12345) 16) mt_265 rfl rfl ?_
  refine v_sp (v := Int32.ofInt 32767) mt_265 rfl rfl ?_
  refine j_and (e := bAnd (bShr (((J 542 57) * 1103515245) + 12345) 16) 32767) mt_265 rfl rfl ?_
  refine v_s mt_265 rfl rfl rfl ?_
  obtain ⟨z1, h⟩ := h
  obtain ⟨z2, h⟩ := h
  refine j_rem (e := bRem (bAnd (bShr (((J 542 57) * 1103515245) + 12345) 16) 32767) x1) mt_265 rfl z1 z2 rfl ?_
  exact v_ret mt_265 rfl rfl rfl h
set_option maxHeartbeats 600000 in
theorem b_266_0 {X : Nat × (Nat → Int32)} {d : Nat} {J : Nat → Nat → Int} {sw : Bool × Bool × Bool} {lg : Nat → Nat → Int64} {x : Nat} {K : (Option Value ⊕ Nat) → mM → Prop} {x1 x2 x3 : Int} {o4 o5 o6 o7 o8 : Option Value} (hd : 6 ≤ d)
    (h : ∃ (J1 : Nat → Nat → Int), EE X 1 204 [.ref 542] (mj J sw lg x) (.inl none) (mj J1 sw lg x) ∧ InR (J1 542 25) ∧ (J1 542 25 ≤ 0 → VV X d 266 (40, [some (.ref 542), some (iv x1), some (iv x2), some (iv x3), some (iv 0), some (iv 0), o6, o7, o8], [], mj (m_up J1 542 57 x1) sw lg x) K) ∧ (0 < J1 542 25 → (InR (J1 542 24) ∧ (J1 542 24 ≤ 0 → VV X d 266 (40, [some (.ref 542), some (iv x1), some (iv x2), some (iv x3), some (iv 0), some (iv 0), o6, o7, o8], [], mj (m_up J1 542 57 x1) sw lg x) K) ∧ (0 < J1 542 24 → (InR (J1 542 26) ∧ (J1 542 26 ≤ 0 → VV X d 266 (40, [some (.ref 542), some (iv x1), some (iv x2), some (iv x3), some (iv 0), some (iv 0), o6, o7, o8], [], mj (m_up J1 542 57 x1) sw lg x) K) ∧ (0 < J1 542 26 → VV X d 266 (40, [some (.ref 542), some (iv x1), some (iv x2), some (iv x3), some (iv 1), some (iv 0), o6, o7, o8], [], mj (m_up J1 542 57 x1) sw lg x) K)))))) : VV X d 266 (0, [some (.ref 542), some (iv x1), some (iv x2), some (iv x3), o4, o5, o6, o7, o8], [], mj J sw lg x) K := by
  refine v_s mt_266 rfl rfl rfl ?_
  obtain ⟨J1, z1, h⟩ := h
  refine v_call (d1 := 1) mt_266 rfl rfl mt_204 rfl rfl (m_callj (As := []) (rest := []) rfl rfl c_542 rfl (Nat.le_of_ble_eq_true rfl) (Nat.le_of_ble_eq_true rfl)) z1 (by clear h; omega) ?_
  refine v_s mt_266 rfl rfl rfl ?_
  refine v_s mt_266 rfl rfl rfl ?_
  refine j_pi 57 mt_266 rfl rfl c_542 (by decide) ?_
  refine v_s mt_266 rfl rfl rfl ?_
  refine j_gi (w := J1 542 25) 25 mt_266 rfl rfl c_542 (by decide) ((up_nk (by decide)).trans rfl) ?_
  obtain ⟨z2, h⟩ := h
  refine j_if1 mt_266 rfl rfl z2 (fun c => ?_) (fun c => ?_)
  · replace h := h.1 c
    refine v_ic (v := Int32.ofInt 0) mt_266 rfl rfl ?_
    refine v_is (L' := [some (.ref 542), some (iv x1), some (iv x2), some (iv x3), some (iv 0), o5, o6, o7, o8]) mt_266 rfl (Nat.le_of_ble_eq_true rfl) rfl ?_
    refine v_ic (v := Int32.ofInt 0) mt_266 rfl rfl ?_
    refine v_is (L' := [some (.ref 542), some (iv x1), some (iv x2), some (iv x3), some (iv 0), some (iv 0), o6, o7, o8]) mt_266 rfl (Nat.le_of_ble_eq_true rfl) rfl ?_
    exact h
  · replace h := h.2 (Int.not_le.mp c)
    refine v_s mt_266 rfl rfl rfl ?_
    refine j_gi (w := J1 542 24) 24 mt_266 rfl rfl c_542 (by decide) ((up_nk (by decide)).trans rfl) ?_
    obtain ⟨z3, h⟩ := h
    refine j_if1 mt_266 rfl rfl z3 (fun c => ?_) (fun c => ?_)
    · replace h := h.1 c
      refine v_ic (v := Int32.ofInt 0) mt_266 rfl rfl ?_
      refine v_is (L' := [some (.ref 542), some (iv x1), some (iv x2), some (iv x3), some (iv 0), o5, o6, o7, o8]) mt_266 rfl (Nat.le_of_ble_eq_true rfl) rfl ?_
      refine v_ic (v := Int32.ofInt 0) mt_266 rfl rfl ?_
      refine v_is (L' := [some (.ref 542), some (iv x1), some (iv x2), some (iv x3), some (iv 0), some (iv 0), o6, o7, o8]) mt_266 rfl (Nat.le_of_ble_eq_true rfl) rfl ?_
      exact h
    · replace h := h.2 (Int.not_le.mp c)
      refine v_s mt_266 rfl rfl rfl ?_
      refine j_gi (w := J1 542 26) 26 mt_266 rfl rfl c_542 (by decide) ((up_nk (by decide)).trans rfl) ?_
      obtain ⟨z4, h⟩ := h
      refine j_if1 mt_266 rfl rfl z4 (fun c => ?_) (fun c => ?_)
      · replace h := h.1 c
        refine v_ic (v := Int32.ofInt 0) mt_266 rfl rfl ?_
        refine v_is (L' := [some (.ref 542), some (iv x1), some (iv x2), some (iv x3), some (iv 0), o5, o6, o7, o8]) mt_266 rfl (Nat.le_of_ble_eq_true rfl) rfl ?_
        refine v_ic (v := Int32.ofInt 0) mt_266 rfl rfl ?_
        refine v_is (L' := [some (.ref 542), some (iv x1), some (iv x2), some (iv x3), some (iv 0), some (iv 0), o6, o7, o8]) mt_266 rfl (Nat.le_of_ble_eq_true rfl) rfl ?_
        exact h
      · replace h := h.2 (Int.not_le.mp c)
        refine v_ic (v := Int32.ofInt 1) mt_266 rfl rfl ?_
        refine v_go mt_266 rfl rfl ?_
        refine v_is (L' := [some (.ref 542), some (iv x1), some (iv x2), some (iv x3), some (iv 1), o5, o6, o7, o8]) mt_266 rfl (Nat.le_of_ble_eq_true rfl) rfl ?_
        refine v_ic (v := Int32.ofInt 0) mt_266 rfl rfl ?_
        refine v_is (L' := [some (.ref 542), some (iv x1), some (iv x2), some (iv x3), some (iv 1), some (iv 0), o6, o7, o8]) mt_266 rfl (Nat.le_of_ble_eq_true rfl) rfl ?_
        exact h
set_option maxHeartbeats 600000 in
theorem b_266_40 {X : Nat × (Nat → Int32)} {d : Nat} {J : Nat → Nat → Int} {sw : Bool × Bool × Bool} {lg : Nat → Nat → Int64} {x : Nat} {K : (Option Value ⊕ Nat) → mM → Prop} {x1 x2 x3 x4 x5 : Int} {o6 o7 o8 : Option Value} (hd : 6 ≤ d)
    (h : InR x5 ∧ InR x3 ∧ (x3 ≤ x5 → K (.inl none) (mj J sw lg x)) ∧ (x5 < x3 → (InR x4 ∧ (x4 = 0 → (∃ (J1 : Nat → Nat → Int), EE X 2 216 [.ref 542] (mj J sw lg x) (.inl none) (mj J1 sw lg x) ∧ VV X d 266 (40, [some (.ref 542), some (iv x1), some (iv x2), some (iv x3), some (iv x4), some (iv (x5 + 1)), o6, o7, o8], [], mj J1 sw lg x) K)) ∧ (¬ x4 = 0 → (∃ (c3 : Int) (J2 : Nat → Nat → Int), EE X 0 265 [.ref 542, iv (J 542 25)] (mj J sw lg x) (.inl (some (iv c3))) (mj J2 sw lg x) ∧ ∃ (c5 : Int) (J4 : Nat → Nat → Int), EE X 0 265 [.ref 542, iv (J2 542 24)] (mj J2 sw lg x) (.inl (some (iv c5))) (mj J4 sw lg x) ∧ ∃ (c7 : Int) (J6 : Nat → Nat → Int), EE X 0 265 [.ref 542, iv (J4 542 26)] (mj J4 sw lg x) (.inl (some (iv c7))) (mj J6 sw lg x) ∧ ∃ (c9 : Int) (J8 : Nat → Nat → Int), EE X 5 212 [.ref 542, iv c3, iv c5, iv c7] (mj J6 sw lg x) (.inl (some (iv c9))) (mj J8 sw lg x) ∧ ∃ (c11 : Int) (J10 : Nat → Nat → Int), EE X 0 265 [.ref 542, iv 16] (mj J8 sw lg x) (.inl (some (iv c11))) (mj J10 sw lg x) ∧ InR c11 ∧ InR x2 ∧ (x2 ≤ c11 → (∃ (J12 : Nat → Nat → Int), EE X 2 216 [.ref 542] (mj J10 sw lg x) (.inl none) (mj J12 sw lg x) ∧ VV X d 266 (40, [some (.ref 542), some (iv x1), some (iv x2), some (iv x3), some (iv x4), some (iv (x5 + 1)), some (iv c3), some (iv c5), some (iv c7)], [], mj J12 sw lg x) K)) ∧ (c11 < x2 → (∃ (c14 : Int) (J13 : Nat → Nat → Int), EE X 1 213 [.ref 542, iv c5, iv c7] (mj J10 sw lg x) (.inl (some (iv c14))) (mj J13 sw lg x) ∧ ∃ (J15 : Nat → Nat → Int), EE X 2 216 [.ref 542] (mj J13 sw lg x) (.inl none) (mj J15 sw lg x) ∧ VV X d 266 (40, [some (.ref 542), some (iv x1), some (iv x2), some (iv x3), some (iv x4), some (iv (x5 + 1)), some (iv c3), some (iv c5), some (iv c7)], [], mj J15 sw lg x) K))))))) : VV X d 266 (40, [some (.ref 542), some (iv x1), some (iv x2), some (iv x3), some (iv x4), some (iv x5), o6, o7, o8], [], mj J sw lg x) K := by
  refine v_s mt_266 rfl rfl rfl ?_
  refine v_s mt_266 rfl rfl rfl ?_
  obtain ⟨z1, h⟩ := h
  obtain ⟨z2, h⟩ := h
  refine j_if2 mt_266 rfl rfl z1 z2 (fun c => ?_) (fun c => ?_)
  · replace h := h.1 c
    exact v_ret mt_266 rfl rfl rfl h
  · replace h := h.2 (Int.not_le.mp c)
    refine v_s mt_266 rfl rfl rfl ?_
    obtain ⟨z3, h⟩ := h
    refine j_if1 mt_266 rfl rfl z3 (fun c => ?_) (fun c => ?_)
    · replace h := h.1 c
      refine v_s mt_266 rfl rfl rfl ?_
      obtain ⟨J1, z4, h⟩ := h
      refine v_call (d1 := 2) mt_266 rfl rfl mt_216 rfl rfl (m_callj (As := []) (rest := []) rfl rfl c_542 rfl (Nat.le_of_ble_eq_true rfl) (Nat.le_of_ble_eq_true rfl)) z4 (by clear h; omega) ?_
      refine j_inc (e := x5 + 1) (L' := [some (.ref 542), some (iv x1), some (iv x2), some (iv x3), some (iv x4), some (iv (x5 + 1)), o6, o7, o8]) mt_266 rfl rfl (Nat.le_of_ble_eq_true rfl) rfl rfl ?_
      refine v_go mt_266 rfl rfl ?_
      exact h
    · replace h := h.2 c
      refine v_s mt_266 rfl rfl rfl ?_
      refine v_s mt_266 rfl rfl rfl ?_
      refine j_gi (w := J 542 25) 25 mt_266 rfl rfl c_542 (by decide) rfl ?_
      obtain ⟨c3, J2, z5, h⟩ := h
      refine v_call (d1 := 0) mt_266 rfl rfl mt_265 rfl rfl (m_callj (As := [iv (J 542 25)]) (rest := []) rfl rfl c_542 rfl (Nat.le_of_ble_eq_true rfl) (Nat.le_of_ble_eq_true rfl)) z5 (by clear h; omega) ?_
      refine v_is (L' := [some (.ref 542), some (iv x1), some (iv x2), some (iv x3), some (iv x4), some (iv x5), some (iv c3), o7, o8]) mt_266 rfl (Nat.le_of_ble_eq_true rfl) rfl ?_
      refine v_s mt_266 rfl rfl rfl ?_
      refine v_s mt_266 rfl rfl rfl ?_
      refine j_gi (w := J2 542 24) 24 mt_266 rfl rfl c_542 (by decide) rfl ?_
      obtain ⟨c5, J4, z6, h⟩ := h
      refine v_call (d1 := 0) mt_266 rfl rfl mt_265 rfl rfl (m_callj (As := [iv (J2 542 24)]) (rest := []) rfl rfl c_542 rfl (Nat.le_of_ble_eq_true rfl) (Nat.le_of_ble_eq_true rfl)) z6 (by clear h; omega) ?_
      refine v_is (L' := [some (.ref 542), some (iv x1), some (iv x2), some (iv x3), some (iv x4), some (iv x5), some (iv c3), some (iv c5), o8]) mt_266 rfl (Nat.le_of_ble_eq_true rfl) rfl ?_
      refine v_s mt_266 rfl rfl rfl ?_
      refine v_s mt_266 rfl rfl rfl ?_
      refine j_gi (w := J4 542 26) 26 mt_266 rfl rfl c_542 (by decide) rfl ?_
      obtain ⟨c7, J6, z7, h⟩ := h
      refine v_call (d1 := 0) mt_266 rfl rfl mt_265 rfl rfl (m_callj (As := [iv (J4 542 26)]) (rest := []) rfl rfl c_542 rfl (Nat.le_of_ble_eq_true rfl) (Nat.le_of_ble_eq_true rfl)) z7 (by clear h; omega) ?_
      refine v_is (L' := [some (.ref 542), some (iv x1), some (iv x2), some (iv x3), some (iv x4), some (iv x5), some (iv c3), some (iv c5), some (iv c7)]) mt_266 rfl (Nat.le_of_ble_eq_true rfl) rfl ?_
      refine v_s mt_266 rfl rfl rfl ?_
      refine v_s mt_266 rfl rfl rfl ?_
      refine v_s mt_266 rfl rfl rfl ?_
      refine v_s mt_266 rfl rfl rfl ?_
      obtain ⟨c9, J8, z8, h⟩ := h
      refine v_call (d1 := 5) mt_266 rfl rfl mt_212 rfl rfl (m_callj (As := [iv c3, iv c5, iv c7]) (rest := []) rfl rfl c_542 rfl (Nat.le_of_ble_eq_true rfl) (Nat.le_of_ble_eq_true rfl)) z8 (by clear h; omega) ?_
      refine v_s mt_266 rfl rfl rfl ?_
      refine v_s mt_266 rfl rfl rfl ?_
      refine v_bp (v := Int32.ofInt 16) mt_266 rfl rfl ?_
      obtain ⟨c11, J10, z9, h⟩ := h
      refine v_call (d1 := 0) mt_266 rfl rfl mt_265 rfl rfl (m_callj (As := [iv 16]) (rest := []) rfl rfl c_542 rfl (Nat.le_of_ble_eq_true rfl) (Nat.le_of_ble_eq_true rfl)) z9 (by clear h; omega) ?_
      refine v_s mt_266 rfl rfl rfl ?_
      obtain ⟨z10, h⟩ := h
      obtain ⟨z11, h⟩ := h
      refine j_if2 mt_266 rfl rfl z10 z11 (fun c => ?_) (fun c => ?_)
      · replace h := h.1 c
        refine v_s mt_266 rfl rfl rfl ?_
        obtain ⟨J12, z12, h⟩ := h
        refine v_call (d1 := 2) mt_266 rfl rfl mt_216 rfl rfl (m_callj (As := []) (rest := []) rfl rfl c_542 rfl (Nat.le_of_ble_eq_true rfl) (Nat.le_of_ble_eq_true rfl)) z12 (by clear h; omega) ?_
        refine j_inc (e := x5 + 1) (L' := [some (.ref 542), some (iv x1), some (iv x2), some (iv x3), some (iv x4), some (iv (x5 + 1)), some (iv c3), some (iv c5), some (iv c7)]) mt_266 rfl rfl (Nat.le_of_ble_eq_true rfl) rfl rfl ?_
        refine v_go mt_266 rfl rfl ?_
        exact h
      · replace h := h.2 (Int.not_le.mp c)
        refine v_s mt_266 rfl rfl rfl ?_
        refine v_s mt_266 rfl rfl rfl ?_
        refine v_s mt_266 rfl rfl rfl ?_
        obtain ⟨c14, J13, z13, h⟩ := h
        refine v_call (d1 := 1) mt_266 rfl rfl mt_213 rfl rfl (m_callj (As := [iv c5, iv c7]) (rest := []) rfl rfl c_542 rfl (Nat.le_of_ble_eq_true rfl) (Nat.le_of_ble_eq_true rfl)) z13 (by clear h; omega) ?_
        refine v_s mt_266 rfl rfl rfl ?_
        refine v_s mt_266 rfl rfl rfl ?_
        obtain ⟨J15, z14, h⟩ := h
        refine v_call (d1 := 2) mt_266 rfl rfl mt_216 rfl rfl (m_callj (As := []) (rest := []) rfl rfl c_542 rfl (Nat.le_of_ble_eq_true rfl) (Nat.le_of_ble_eq_true rfl)) z14 (by clear h; omega) ?_
        refine j_inc (e := x5 + 1) (L' := [some (.ref 542), some (iv x1), some (iv x2), some (iv x3), some (iv x4), some (iv (x5 + 1)), some (iv c3), some (iv c5), some (iv c7)]) mt_266 rfl rfl (Nat.le_of_ble_eq_true rfl) rfl rfl ?_
        refine v_go mt_266 rfl rfl ?_
        exact h
set_option maxHeartbeats 600000 in
theorem b_268_0 {X : Nat × (Nat → Int32)} {d : Nat} {J : Nat → Nat → Int} {sw : Bool × Bool × Bool} {lg : Nat → Nat → Int64} {x : Nat} {K : (Option Value ⊕ Nat) → mM → Prop} {x1 x2 x3 x4 : Int} (hd : 7 ≤ d)
    (h : InR x2 ∧ (x2 < 0 → K (.inl (some (iv 0))) (mj (m_up (m_up (m_up J 542 0 0) 542 0 1) 543 1 ((J 543 1) + 1)) sw lg x)) ∧ (0 ≤ x2 → ((16 < x2 → K (.inl (some (iv 0))) (mj (m_up (m_up (m_up J 542 0 0) 542 0 1) 543 1 ((J 543 1) + 1)) sw lg x)) ∧ (x2 ≤ 16 → (InR x3 ∧ (x3 < 1 → K (.inl (some (iv 0))) (mj (m_up (m_up (m_up J 542 0 0) 542 0 1) 543 1 ((J 543 1) + 1)) sw lg x)) ∧ (1 ≤ x3 → ((96 < x3 → K (.inl (some (iv 0))) (mj (m_up (m_up (m_up J 542 0 0) 542 0 1) 543 1 ((J 543 1) + 1)) sw lg x)) ∧ (x3 ≤ 96 → (InR x4 ∧ (x4 < 0 → K (.inl (some (iv 0))) (mj (m_up (m_up (m_up J 542 0 0) 542 0 1) 543 1 ((J 543 1) + 1)) sw lg x)) ∧ (0 ≤ x4 → ((3 < x4 → K (.inl (some (iv 0))) (mj (m_up (m_up (m_up J 542 0 0) 542 0 1) 543 1 ((J 543 1) + 1)) sw lg x)) ∧ (x4 ≤ 3 → (∃ (J1 : Nat → Nat → Int), EE X 6 266 [.ref 542, iv x1, iv x2, iv x3] (mj (m_up J 542 0 0) sw lg x) (.inl none) (mj J1 sw lg x) ∧ (2 ≤ x4 → ((¬ x4 = 2 → K (.inl (some (iv (J1 562 48)))) (mj J1 sw lg x)) ∧ (x4 = 2 → (∃ (c3 : Int) (J2 : Nat → Nat → Int), EE X 1 221 [.ref 542] (mj J1 sw lg x) (.inl (some (iv c3))) (mj J2 sw lg x) ∧ K (.inl (some (iv c3))) (mj J2 sw lg x))))) ∧ (x4 < 2 → ((¬ x4 = 0 → (∃ (c5 : Int) (J4 : Nat → Nat → Int), EE X 0 220 [.ref 542, iv 39] (mj J1 sw lg x) (.inl (some (iv c5))) (mj J4 sw lg x) ∧ K (.inl (some (iv c5))) (mj J4 sw lg x))) ∧ (x4 = 0 → (∃ (c7 : Int) (J6 : Nat → Nat → Int), EE X 0 220 [.ref 542, iv 30] (mj J1 sw lg x) (.inl (some (iv c7))) (mj J6 sw lg x) ∧ K (.inl (some (iv c7))) (mj J6 sw lg x)))))))))))))))))) : VV X d 268 (0, [some (.ref 542), some (iv x1), some (iv x2), some (iv x3), some (iv x4)], [], mj J sw lg x) K := by
  refine v_s mt_268 rfl rfl rfl ?_
  refine v_ic (v := Int32.ofInt 0) mt_268 rfl rfl ?_
  refine j_pi 0 mt_268 rfl rfl c_542 (by decide) ?_
  refine v_s mt_268 rfl rfl rfl ?_
  refine v_s mt_268 rfl rfl rfl ?_
  refine v_s mt_268 rfl rfl rfl ?_
  refine v_inl (L1 := [some (iv x2), some (iv x3)]) mt_268 rfl rfl mt_267 rfl rfl rfl rfl (by clear h; omega) ?_
  refine v_s mt_267 rfl rfl rfl ?_
  obtain ⟨z1, h⟩ := h
  refine j_if1 mt_267 rfl rfl z1 (fun c => ?_) (fun c => ?_)
  · replace h := h.1 c
    refine v_ic (v := Int32.ofInt 0) mt_267 rfl rfl ?_
    refine j_retb mt_267 rfl rfl (by decide) ?_
    refine j_if1 mt_268 rfl rfl ⟨by decide, by decide⟩ (fun _ => ?_) (fun c => (c (show (0 : Int) = 0 by decide)).elim)
    refine v_ic (v := Int32.ofInt 0) mt_268 rfl rfl ?_
    refine v_ic (v := Int32.ofInt 1) mt_268 rfl rfl ?_
    refine v_ic (v := Int32.ofInt 1) mt_268 rfl rfl ?_
    refine v_inl (L1 := [some (.ref 542), some (iv 0), some (iv 1), some (iv 1)]) mt_268 rfl rfl mt_161 rfl rfl (m_callj (As := [iv 0, iv 1, iv 1]) (rest := []) rfl rfl c_542 rfl (Nat.le_of_ble_eq_true rfl) (Nat.le_of_ble_eq_true rfl)) rfl (by clear h; omega) ?_
    refine v_s mt_161 rfl rfl rfl ?_
    refine j_if1 mt_161 rfl rfl ⟨by decide, by decide⟩ (fun c => absurd (show ¬ (0 : Int) = 0 from c) (by decide)) (fun _ => ?_)
    refine v_s mt_161 rfl rfl rfl ?_
    refine j_gi (w := 0) 0 mt_161 rfl rfl c_542 (by decide) (up_eq _ _ _ _) ?_
    refine j_if1 mt_161 rfl rfl ⟨by decide, by decide⟩ (fun c => absurd (show ¬ (0 : Int) = 0 from c) (by decide)) (fun _ => ?_)
    refine v_s mt_161 rfl rfl rfl ?_
    refine v_s mt_161 rfl rfl rfl ?_
    refine j_pi 0 mt_161 rfl rfl c_542 (by decide) ?_
    refine v_s mt_161 rfl rfl rfl ?_
    refine v_gr (w := 543) 1 mt_161 rfl rfl c_542 (by decide) (g_12_1 c_542) ?_
    refine v_s mt_161 rfl rfl rfl ?_
    refine v_s mt_161 rfl rfl rfl ?_
    refine j_al (w := J 543 1) mt_161 rfl c_543 ⟨by decide, by decide⟩ (by decide) ((up_na (by decide)).trans ((up_na (by decide)).trans rfl)) ?_
    refine v_ic (v := Int32.ofInt 1) mt_161 rfl rfl ?_
    refine j_add (e := (J 543 1) + 1) mt_161 rfl rfl ?_
    refine j_as mt_161 rfl c_543 ⟨by decide, by decide⟩ (by decide) ?_
    refine v_s mt_161 rfl rfl rfl ?_
    refine j_gi (w := 1) 0 mt_161 rfl rfl c_542 (by decide) ((up_na (by decide)).trans (up_eq _ _ _ _)) ?_
    refine j_if1 mt_161 rfl rfl ⟨by decide, by decide⟩ (fun _ => ?_) (fun c => (c (show ¬ (1 : Int) = 0 by decide)).elim)
    refine v_ic (v := Int32.ofInt 0) mt_161 rfl rfl ?_
    refine j_retb mt_161 rfl rfl (by decide) ?_
    refine j_if1 mt_268 rfl rfl ⟨by decide, by decide⟩ (fun c => absurd (show ¬ (0 : Int) = 0 from c) (by decide)) (fun _ => ?_)
    refine v_ic (v := Int32.ofInt 0) mt_268 rfl rfl ?_
    exact v_ret mt_268 rfl rfl rfl h
  · replace h := h.2 (Int.not_lt.mp c)
    refine v_s mt_267 rfl rfl rfl ?_
    refine v_bp (v := Int32.ofInt 16) mt_267 rfl rfl ?_
    refine j_if2 mt_267 rfl rfl z1 ⟨by decide, by decide⟩ (fun c => ?_) (fun c => ?_)
    · replace h := h.1 c
      refine v_ic (v := Int32.ofInt 0) mt_267 rfl rfl ?_
      refine j_retb mt_267 rfl rfl (by decide) ?_
      refine j_if1 mt_268 rfl rfl ⟨by decide, by decide⟩ (fun _ => ?_) (fun c => (c (show (0 : Int) = 0 by decide)).elim)
      refine v_ic (v := Int32.ofInt 0) mt_268 rfl rfl ?_
      refine v_ic (v := Int32.ofInt 1) mt_268 rfl rfl ?_
      refine v_ic (v := Int32.ofInt 1) mt_268 rfl rfl ?_
      refine v_inl (L1 := [some (.ref 542), some (iv 0), some (iv 1), some (iv 1)]) mt_268 rfl rfl mt_161 rfl rfl (m_callj (As := [iv 0, iv 1, iv 1]) (rest := []) rfl rfl c_542 rfl (Nat.le_of_ble_eq_true rfl) (Nat.le_of_ble_eq_true rfl)) rfl (by clear h; omega) ?_
      refine v_s mt_161 rfl rfl rfl ?_
      refine j_if1 mt_161 rfl rfl ⟨by decide, by decide⟩ (fun c => absurd (show ¬ (0 : Int) = 0 from c) (by decide)) (fun _ => ?_)
      refine v_s mt_161 rfl rfl rfl ?_
      refine j_gi (w := 0) 0 mt_161 rfl rfl c_542 (by decide) (up_eq _ _ _ _) ?_
      refine j_if1 mt_161 rfl rfl ⟨by decide, by decide⟩ (fun c => absurd (show ¬ (0 : Int) = 0 from c) (by decide)) (fun _ => ?_)
      refine v_s mt_161 rfl rfl rfl ?_
      refine v_s mt_161 rfl rfl rfl ?_
      refine j_pi 0 mt_161 rfl rfl c_542 (by decide) ?_
      refine v_s mt_161 rfl rfl rfl ?_
      refine v_gr (w := 543) 1 mt_161 rfl rfl c_542 (by decide) (g_12_1 c_542) ?_
      refine v_s mt_161 rfl rfl rfl ?_
      refine v_s mt_161 rfl rfl rfl ?_
      refine j_al (w := J 543 1) mt_161 rfl c_543 ⟨by decide, by decide⟩ (by decide) ((up_na (by decide)).trans ((up_na (by decide)).trans rfl)) ?_
      refine v_ic (v := Int32.ofInt 1) mt_161 rfl rfl ?_
      refine j_add (e := (J 543 1) + 1) mt_161 rfl rfl ?_
      refine j_as mt_161 rfl c_543 ⟨by decide, by decide⟩ (by decide) ?_
      refine v_s mt_161 rfl rfl rfl ?_
      refine j_gi (w := 1) 0 mt_161 rfl rfl c_542 (by decide) ((up_na (by decide)).trans (up_eq _ _ _ _)) ?_
      refine j_if1 mt_161 rfl rfl ⟨by decide, by decide⟩ (fun _ => ?_) (fun c => (c (show ¬ (1 : Int) = 0 by decide)).elim)
      refine v_ic (v := Int32.ofInt 0) mt_161 rfl rfl ?_
      refine j_retb mt_161 rfl rfl (by decide) ?_
      refine j_if1 mt_268 rfl rfl ⟨by decide, by decide⟩ (fun c => absurd (show ¬ (0 : Int) = 0 from c) (by decide)) (fun _ => ?_)
      refine v_ic (v := Int32.ofInt 0) mt_268 rfl rfl ?_
      exact v_ret mt_268 rfl rfl rfl h
    · replace h := h.2 (Int.not_lt.mp c)
      refine v_s mt_267 rfl rfl rfl ?_
      refine v_ic (v := Int32.ofInt 1) mt_267 rfl rfl ?_
      obtain ⟨z2, h⟩ := h
      refine j_if2 mt_267 rfl rfl z2 ⟨by decide, by decide⟩ (fun c => ?_) (fun c => ?_)
      · replace h := h.1 c
        refine v_ic (v := Int32.ofInt 0) mt_267 rfl rfl ?_
        refine j_retb mt_267 rfl rfl (by decide) ?_
        refine j_if1 mt_268 rfl rfl ⟨by decide, by decide⟩ (fun _ => ?_) (fun c => (c (show (0 : Int) = 0 by decide)).elim)
        refine v_ic (v := Int32.ofInt 0) mt_268 rfl rfl ?_
        refine v_ic (v := Int32.ofInt 1) mt_268 rfl rfl ?_
        refine v_ic (v := Int32.ofInt 1) mt_268 rfl rfl ?_
        refine v_inl (L1 := [some (.ref 542), some (iv 0), some (iv 1), some (iv 1)]) mt_268 rfl rfl mt_161 rfl rfl (m_callj (As := [iv 0, iv 1, iv 1]) (rest := []) rfl rfl c_542 rfl (Nat.le_of_ble_eq_true rfl) (Nat.le_of_ble_eq_true rfl)) rfl (by clear h; omega) ?_
        refine v_s mt_161 rfl rfl rfl ?_
        refine j_if1 mt_161 rfl rfl ⟨by decide, by decide⟩ (fun c => absurd (show ¬ (0 : Int) = 0 from c) (by decide)) (fun _ => ?_)
        refine v_s mt_161 rfl rfl rfl ?_
        refine j_gi (w := 0) 0 mt_161 rfl rfl c_542 (by decide) (up_eq _ _ _ _) ?_
        refine j_if1 mt_161 rfl rfl ⟨by decide, by decide⟩ (fun c => absurd (show ¬ (0 : Int) = 0 from c) (by decide)) (fun _ => ?_)
        refine v_s mt_161 rfl rfl rfl ?_
        refine v_s mt_161 rfl rfl rfl ?_
        refine j_pi 0 mt_161 rfl rfl c_542 (by decide) ?_
        refine v_s mt_161 rfl rfl rfl ?_
        refine v_gr (w := 543) 1 mt_161 rfl rfl c_542 (by decide) (g_12_1 c_542) ?_
        refine v_s mt_161 rfl rfl rfl ?_
        refine v_s mt_161 rfl rfl rfl ?_
        refine j_al (w := J 543 1) mt_161 rfl c_543 ⟨by decide, by decide⟩ (by decide) ((up_na (by decide)).trans ((up_na (by decide)).trans rfl)) ?_
        refine v_ic (v := Int32.ofInt 1) mt_161 rfl rfl ?_
        refine j_add (e := (J 543 1) + 1) mt_161 rfl rfl ?_
        refine j_as mt_161 rfl c_543 ⟨by decide, by decide⟩ (by decide) ?_
        refine v_s mt_161 rfl rfl rfl ?_
        refine j_gi (w := 1) 0 mt_161 rfl rfl c_542 (by decide) ((up_na (by decide)).trans (up_eq _ _ _ _)) ?_
        refine j_if1 mt_161 rfl rfl ⟨by decide, by decide⟩ (fun _ => ?_) (fun c => (c (show ¬ (1 : Int) = 0 by decide)).elim)
        refine v_ic (v := Int32.ofInt 0) mt_161 rfl rfl ?_
        refine j_retb mt_161 rfl rfl (by decide) ?_
        refine j_if1 mt_268 rfl rfl ⟨by decide, by decide⟩ (fun c => absurd (show ¬ (0 : Int) = 0 from c) (by decide)) (fun _ => ?_)
        refine v_ic (v := Int32.ofInt 0) mt_268 rfl rfl ?_
        exact v_ret mt_268 rfl rfl rfl h
      · replace h := h.2 (Int.not_lt.mp c)
        refine v_s mt_267 rfl rfl rfl ?_
        refine v_bp (v := Int32.ofInt 96) mt_267 rfl rfl ?_
        refine j_if2 mt_267 rfl rfl z2 ⟨by decide, by decide⟩ (fun c => ?_) (fun c => ?_)
        · replace h := h.1 c
          refine v_ic (v := Int32.ofInt 0) mt_267 rfl rfl ?_
          refine j_retb mt_267 rfl rfl (by decide) ?_
          refine j_if1 mt_268 rfl rfl ⟨by decide, by decide⟩ (fun _ => ?_) (fun c => (c (show (0 : Int) = 0 by decide)).elim)
          refine v_ic (v := Int32.ofInt 0) mt_268 rfl rfl ?_
          refine v_ic (v := Int32.ofInt 1) mt_268 rfl rfl ?_
          refine v_ic (v := Int32.ofInt 1) mt_268 rfl rfl ?_
          refine v_inl (L1 := [some (.ref 542), some (iv 0), some (iv 1), some (iv 1)]) mt_268 rfl rfl mt_161 rfl rfl (m_callj (As := [iv 0, iv 1, iv 1]) (rest := []) rfl rfl c_542 rfl (Nat.le_of_ble_eq_true rfl) (Nat.le_of_ble_eq_true rfl)) rfl (by clear h; omega) ?_
          refine v_s mt_161 rfl rfl rfl ?_
          refine j_if1 mt_161 rfl rfl ⟨by decide, by decide⟩ (fun c => absurd (show ¬ (0 : Int) = 0 from c) (by decide)) (fun _ => ?_)
          refine v_s mt_161 rfl rfl rfl ?_
          refine j_gi (w := 0) 0 mt_161 rfl rfl c_542 (by decide) (up_eq _ _ _ _) ?_
          refine j_if1 mt_161 rfl rfl ⟨by decide, by decide⟩ (fun c => absurd (show ¬ (0 : Int) = 0 from c) (by decide)) (fun _ => ?_)
          refine v_s mt_161 rfl rfl rfl ?_
          refine v_s mt_161 rfl rfl rfl ?_
          refine j_pi 0 mt_161 rfl rfl c_542 (by decide) ?_
          refine v_s mt_161 rfl rfl rfl ?_
          refine v_gr (w := 543) 1 mt_161 rfl rfl c_542 (by decide) (g_12_1 c_542) ?_
          refine v_s mt_161 rfl rfl rfl ?_
          refine v_s mt_161 rfl rfl rfl ?_
          refine j_al (w := J 543 1) mt_161 rfl c_543 ⟨by decide, by decide⟩ (by decide) ((up_na (by decide)).trans ((up_na (by decide)).trans rfl)) ?_
          refine v_ic (v := Int32.ofInt 1) mt_161 rfl rfl ?_
          refine j_add (e := (J 543 1) + 1) mt_161 rfl rfl ?_
          refine j_as mt_161 rfl c_543 ⟨by decide, by decide⟩ (by decide) ?_
          refine v_s mt_161 rfl rfl rfl ?_
          refine j_gi (w := 1) 0 mt_161 rfl rfl c_542 (by decide) ((up_na (by decide)).trans (up_eq _ _ _ _)) ?_
          refine j_if1 mt_161 rfl rfl ⟨by decide, by decide⟩ (fun _ => ?_) (fun c => (c (show ¬ (1 : Int) = 0 by decide)).elim)
          refine v_ic (v := Int32.ofInt 0) mt_161 rfl rfl ?_
          refine j_retb mt_161 rfl rfl (by decide) ?_
          refine j_if1 mt_268 rfl rfl ⟨by decide, by decide⟩ (fun c => absurd (show ¬ (0 : Int) = 0 from c) (by decide)) (fun _ => ?_)
          refine v_ic (v := Int32.ofInt 0) mt_268 rfl rfl ?_
          exact v_ret mt_268 rfl rfl rfl h
        · replace h := h.2 (Int.not_lt.mp c)
          refine v_ic (v := Int32.ofInt 1) mt_267 rfl rfl ?_
          refine v_go mt_267 rfl rfl ?_
          refine j_retb mt_267 rfl rfl (by decide) ?_
          refine j_if1 mt_268 rfl rfl ⟨by decide, by decide⟩ (fun c => absurd (show (1 : Int) = 0 from c) (by decide)) (fun _ => ?_)
          refine v_s mt_268 rfl rfl rfl ?_
          refine v_ic (v := Int32.ofInt 0) mt_268 rfl rfl ?_
          refine v_ic (v := Int32.ofInt 3) mt_268 rfl rfl ?_
          refine v_inl (L1 := [some (iv x4), some (iv 0), some (iv 3)]) mt_268 rfl rfl mt_162 rfl rfl rfl rfl (by clear h; omega) ?_
          refine v_s mt_162 rfl rfl rfl ?_
          refine v_s mt_162 rfl rfl rfl ?_
          obtain ⟨z3, h⟩ := h
          refine j_if2 mt_162 rfl rfl z3 ⟨by decide, by decide⟩ (fun c => ?_) (fun c => ?_)
          · replace h := h.1 c
            refine v_ic (v := Int32.ofInt 0) mt_162 rfl rfl ?_
            refine j_retb mt_162 rfl rfl (by decide) ?_
            refine j_if1 mt_268 rfl rfl ⟨by decide, by decide⟩ (fun _ => ?_) (fun c => (c (show (0 : Int) = 0 by decide)).elim)
            refine v_ic (v := Int32.ofInt 0) mt_268 rfl rfl ?_
            refine v_ic (v := Int32.ofInt 1) mt_268 rfl rfl ?_
            refine v_ic (v := Int32.ofInt 1) mt_268 rfl rfl ?_
            refine v_inl (L1 := [some (.ref 542), some (iv 0), some (iv 1), some (iv 1)]) mt_268 rfl rfl mt_161 rfl rfl (m_callj (As := [iv 0, iv 1, iv 1]) (rest := []) rfl rfl c_542 rfl (Nat.le_of_ble_eq_true rfl) (Nat.le_of_ble_eq_true rfl)) rfl (by clear h; omega) ?_
            refine v_s mt_161 rfl rfl rfl ?_
            refine j_if1 mt_161 rfl rfl ⟨by decide, by decide⟩ (fun c => absurd (show ¬ (0 : Int) = 0 from c) (by decide)) (fun _ => ?_)
            refine v_s mt_161 rfl rfl rfl ?_
            refine j_gi (w := 0) 0 mt_161 rfl rfl c_542 (by decide) (up_eq _ _ _ _) ?_
            refine j_if1 mt_161 rfl rfl ⟨by decide, by decide⟩ (fun c => absurd (show ¬ (0 : Int) = 0 from c) (by decide)) (fun _ => ?_)
            refine v_s mt_161 rfl rfl rfl ?_
            refine v_s mt_161 rfl rfl rfl ?_
            refine j_pi 0 mt_161 rfl rfl c_542 (by decide) ?_
            refine v_s mt_161 rfl rfl rfl ?_
            refine v_gr (w := 543) 1 mt_161 rfl rfl c_542 (by decide) (g_12_1 c_542) ?_
            refine v_s mt_161 rfl rfl rfl ?_
            refine v_s mt_161 rfl rfl rfl ?_
            refine j_al (w := J 543 1) mt_161 rfl c_543 ⟨by decide, by decide⟩ (by decide) ((up_na (by decide)).trans ((up_na (by decide)).trans rfl)) ?_
            refine v_ic (v := Int32.ofInt 1) mt_161 rfl rfl ?_
            refine j_add (e := (J 543 1) + 1) mt_161 rfl rfl ?_
            refine j_as mt_161 rfl c_543 ⟨by decide, by decide⟩ (by decide) ?_
            refine v_s mt_161 rfl rfl rfl ?_
            refine j_gi (w := 1) 0 mt_161 rfl rfl c_542 (by decide) ((up_na (by decide)).trans (up_eq _ _ _ _)) ?_
            refine j_if1 mt_161 rfl rfl ⟨by decide, by decide⟩ (fun _ => ?_) (fun c => (c (show ¬ (1 : Int) = 0 by decide)).elim)
            refine v_ic (v := Int32.ofInt 0) mt_161 rfl rfl ?_
            refine j_retb mt_161 rfl rfl (by decide) ?_
            refine j_if1 mt_268 rfl rfl ⟨by decide, by decide⟩ (fun c => absurd (show ¬ (0 : Int) = 0 from c) (by decide)) (fun _ => ?_)
            refine v_ic (v := Int32.ofInt 0) mt_268 rfl rfl ?_
            exact v_ret mt_268 rfl rfl rfl h
          · replace h := h.2 (Int.not_lt.mp c)
            refine v_s mt_162 rfl rfl rfl ?_
            refine v_s mt_162 rfl rfl rfl ?_
            refine j_if2 mt_162 rfl rfl z3 ⟨by decide, by decide⟩ (fun c => ?_) (fun c => ?_)
            · replace h := h.1 c
              refine v_ic (v := Int32.ofInt 0) mt_162 rfl rfl ?_
              refine j_retb mt_162 rfl rfl (by decide) ?_
              refine j_if1 mt_268 rfl rfl ⟨by decide, by decide⟩ (fun _ => ?_) (fun c => (c (show (0 : Int) = 0 by decide)).elim)
              refine v_ic (v := Int32.ofInt 0) mt_268 rfl rfl ?_
              refine v_ic (v := Int32.ofInt 1) mt_268 rfl rfl ?_
              refine v_ic (v := Int32.ofInt 1) mt_268 rfl rfl ?_
              refine v_inl (L1 := [some (.ref 542), some (iv 0), some (iv 1), some (iv 1)]) mt_268 rfl rfl mt_161 rfl rfl (m_callj (As := [iv 0, iv 1, iv 1]) (rest := []) rfl rfl c_542 rfl (Nat.le_of_ble_eq_true rfl) (Nat.le_of_ble_eq_true rfl)) rfl (by clear h; omega) ?_
              refine v_s mt_161 rfl rfl rfl ?_
              refine j_if1 mt_161 rfl rfl ⟨by decide, by decide⟩ (fun c => absurd (show ¬ (0 : Int) = 0 from c) (by decide)) (fun _ => ?_)
              refine v_s mt_161 rfl rfl rfl ?_
              refine j_gi (w := 0) 0 mt_161 rfl rfl c_542 (by decide) (up_eq _ _ _ _) ?_
              refine j_if1 mt_161 rfl rfl ⟨by decide, by decide⟩ (fun c => absurd (show ¬ (0 : Int) = 0 from c) (by decide)) (fun _ => ?_)
              refine v_s mt_161 rfl rfl rfl ?_
              refine v_s mt_161 rfl rfl rfl ?_
              refine j_pi 0 mt_161 rfl rfl c_542 (by decide) ?_
              refine v_s mt_161 rfl rfl rfl ?_
              refine v_gr (w := 543) 1 mt_161 rfl rfl c_542 (by decide) (g_12_1 c_542) ?_
              refine v_s mt_161 rfl rfl rfl ?_
              refine v_s mt_161 rfl rfl rfl ?_
              refine j_al (w := J 543 1) mt_161 rfl c_543 ⟨by decide, by decide⟩ (by decide) ((up_na (by decide)).trans ((up_na (by decide)).trans rfl)) ?_
              refine v_ic (v := Int32.ofInt 1) mt_161 rfl rfl ?_
              refine j_add (e := (J 543 1) + 1) mt_161 rfl rfl ?_
              refine j_as mt_161 rfl c_543 ⟨by decide, by decide⟩ (by decide) ?_
              refine v_s mt_161 rfl rfl rfl ?_
              refine j_gi (w := 1) 0 mt_161 rfl rfl c_542 (by decide) ((up_na (by decide)).trans (up_eq _ _ _ _)) ?_
              refine j_if1 mt_161 rfl rfl ⟨by decide, by decide⟩ (fun _ => ?_) (fun c => (c (show ¬ (1 : Int) = 0 by decide)).elim)
              refine v_ic (v := Int32.ofInt 0) mt_161 rfl rfl ?_
              refine j_retb mt_161 rfl rfl (by decide) ?_
              refine j_if1 mt_268 rfl rfl ⟨by decide, by decide⟩ (fun c => absurd (show ¬ (0 : Int) = 0 from c) (by decide)) (fun _ => ?_)
              refine v_ic (v := Int32.ofInt 0) mt_268 rfl rfl ?_
              exact v_ret mt_268 rfl rfl rfl h
            · replace h := h.2 (Int.not_lt.mp c)
              refine v_ic (v := Int32.ofInt 1) mt_162 rfl rfl ?_
              refine v_go mt_162 rfl rfl ?_
              refine j_retb mt_162 rfl rfl (by decide) ?_
              refine j_if1 mt_268 rfl rfl ⟨by decide, by decide⟩ (fun c => absurd (show (1 : Int) = 0 from c) (by decide)) (fun _ => ?_)
              refine v_ic (v := Int32.ofInt 1) mt_268 rfl rfl ?_
              refine v_go mt_268 rfl rfl ?_
              refine v_ic (v := Int32.ofInt 1) mt_268 rfl rfl ?_
              refine v_ic (v := Int32.ofInt 1) mt_268 rfl rfl ?_
              refine v_inl (L1 := [some (.ref 542), some (iv 1), some (iv 1), some (iv 1)]) mt_268 rfl rfl mt_161 rfl rfl (m_callj (As := [iv 1, iv 1, iv 1]) (rest := []) rfl rfl c_542 rfl (Nat.le_of_ble_eq_true rfl) (Nat.le_of_ble_eq_true rfl)) rfl (by clear h; omega) ?_
              refine v_s mt_161 rfl rfl rfl ?_
              refine j_if1 mt_161 rfl rfl ⟨by decide, by decide⟩ (fun _ => ?_) (fun c => (c (show ¬ (1 : Int) = 0 by decide)).elim)
              refine v_s mt_161 rfl rfl rfl ?_
              refine j_gi (w := 0) 0 mt_161 rfl rfl c_542 (by decide) (up_eq _ _ _ _) ?_
              refine j_if1 mt_161 rfl rfl ⟨by decide, by decide⟩ (fun c => absurd (show ¬ (0 : Int) = 0 from c) (by decide)) (fun _ => ?_)
              refine v_ic (v := Int32.ofInt 1) mt_161 rfl rfl ?_
              refine v_go mt_161 rfl rfl ?_
              refine j_retb mt_161 rfl rfl (by decide) ?_
              refine j_if1 mt_268 rfl rfl ⟨by decide, by decide⟩ (fun _ => ?_) (fun c => (c (show ¬ (1 : Int) = 0 by decide)).elim)
              refine v_s mt_268 rfl rfl rfl ?_
              refine v_s mt_268 rfl rfl rfl ?_
              refine v_s mt_268 rfl rfl rfl ?_
              refine v_s mt_268 rfl rfl rfl ?_
              obtain ⟨J1, z4, h⟩ := h
              refine v_call (d1 := 6) mt_268 rfl rfl mt_266 rfl rfl (m_callj (As := [iv x1, iv x2, iv x3]) (rest := []) rfl rfl c_542 rfl (Nat.le_of_ble_eq_true rfl) (Nat.le_of_ble_eq_true rfl)) z4 (by clear h; omega) ?_
              refine v_s mt_268 rfl rfl rfl ?_
              refine v_ic (v := Int32.ofInt 2) mt_268 rfl rfl ?_
              refine j_if2 mt_268 rfl rfl z3 ⟨by decide, by decide⟩ (fun c => ?_) (fun c => ?_)
              · replace h := h.1 c
                refine v_s mt_268 rfl rfl rfl ?_
                refine v_ic (v := Int32.ofInt 2) mt_268 rfl rfl ?_
                refine j_if2 mt_268 rfl rfl z3 ⟨by decide, by decide⟩ (fun c => ?_) (fun c => ?_)
                · replace h := h.1 c
                  refine v_s mt_268 rfl rfl rfl ?_
                  refine v_gr (w := 562) 46 mt_268 rfl rfl c_542 (by decide) (g_12_46 c_542) ?_
                  refine v_bp (v := Int32.ofInt 48) mt_268 rfl rfl ?_
                  refine j_al (w := J1 562 48) mt_268 rfl c_562 ⟨by decide, by decide⟩ (by decide) rfl ?_
                  exact v_ret mt_268 rfl rfl rfl h
                · replace h := h.2 (Decidable.not_not.mp c)
                  refine v_s mt_268 rfl rfl rfl ?_
                  obtain ⟨c3, J2, z5, h⟩ := h
                  refine v_call (d1 := 1) mt_268 rfl rfl mt_221 rfl rfl (m_callj (As := []) (rest := []) rfl rfl c_542 rfl (Nat.le_of_ble_eq_true rfl) (Nat.le_of_ble_eq_true rfl)) z5 (by clear h; omega) ?_
                  refine v_go mt_268 rfl rfl ?_
                  exact v_ret mt_268 rfl rfl rfl h
              · replace h := h.2 (Int.not_le.mp c)
                refine v_s mt_268 rfl rfl rfl ?_
                refine v_s mt_268 rfl rfl rfl ?_
                refine j_if1 mt_268 rfl rfl z3 (fun c => ?_) (fun c => ?_)
                · replace h := h.1 c
                  refine v_bp (v := Int32.ofInt 39) mt_268 rfl rfl ?_
                  obtain ⟨c5, J4, z6, h⟩ := h
                  refine v_call (d1 := 0) mt_268 rfl rfl mt_220 rfl rfl (m_callj (As := [iv 39]) (rest := []) rfl rfl c_542 rfl (Nat.le_of_ble_eq_true rfl) (Nat.le_of_ble_eq_true rfl)) z6 (by clear h; omega) ?_
                  refine v_go mt_268 rfl rfl ?_
                  exact v_ret mt_268 rfl rfl rfl h
                · replace h := h.2 (Decidable.not_not.mp c)
                  refine v_bp (v := Int32.ofInt 30) mt_268 rfl rfl ?_
                  refine v_go mt_268 rfl rfl ?_
                  obtain ⟨c7, J6, z7, h⟩ := h
                  refine v_call (d1 := 0) mt_268 rfl rfl mt_220 rfl rfl (m_callj (As := [iv 30]) (rest := []) rfl rfl c_542 rfl (Nat.le_of_ble_eq_true rfl) (Nat.le_of_ble_eq_true rfl)) z7 (by clear h; omega) ?_
                  refine v_go mt_268 rfl rfl ?_
                  exact v_ret mt_268 rfl rfl rfl h
set_option maxHeartbeats 600000 in
theorem b_269_0 {X : Nat × (Nat → Int32)} {d : Nat} {J : Nat → Nat → Int} {sw : Bool × Bool × Bool} {lg : Nat → Nat → Int64} {x : Nat} {K : (Option Value ⊕ Nat) → mM → Prop} {x1 x2 x3 x4 x5 : Int} {o6 o7 o8 o9 o10 : Option Value} (hd : 7 ≤ d)
    (h : InR x2 ∧ (x2 < 1 → K (.inl (some (iv 0))) (mj (m_up (m_up (m_up J 542 0 0) 542 0 1) 543 1 ((J 543 1) + 1)) sw lg x)) ∧ (1 ≤ x2 → ((20 < x2 → K (.inl (some (iv 0))) (mj (m_up (m_up (m_up J 542 0 0) 542 0 1) 543 1 ((J 543 1) + 1)) sw lg x)) ∧ (x2 ≤ 20 → (InR x3 ∧ (x3 < 0 → K (.inl (some (iv 0))) (mj (m_up (m_up (m_up J 542 0 0) 542 0 1) 543 1 ((J 543 1) + 1)) sw lg x)) ∧ (0 ≤ x3 → ((16 < x3 → K (.inl (some (iv 0))) (mj (m_up (m_up (m_up J 542 0 0) 542 0 1) 543 1 ((J 543 1) + 1)) sw lg x)) ∧ (x3 ≤ 16 → (InR x4 ∧ (x4 < 1 → K (.inl (some (iv 0))) (mj (m_up (m_up (m_up J 542 0 0) 542 0 1) 543 1 ((J 543 1) + 1)) sw lg x)) ∧ (1 ≤ x4 → ((96 < x4 → K (.inl (some (iv 0))) (mj (m_up (m_up (m_up J 542 0 0) 542 0 1) 543 1 ((J 543 1) + 1)) sw lg x)) ∧ (x4 ≤ 96 → (InR x5 ∧ (x5 < 0 → K (.inl (some (iv 0))) (mj (m_up (m_up (m_up J 542 0 0) 542 0 1) 543 1 ((J 543 1) + 1)) sw lg x)) ∧ (0 ≤ x5 → ((2 < x5 → K (.inl (some (iv 0))) (mj (m_up (m_up (m_up J 542 0 0) 542 0 1) 543 1 ((J 543 1) + 1)) sw lg x)) ∧ (x5 ≤ 2 → VV X d 269 (62, [some (.ref 542), some (iv x1), some (iv x2), some (iv x3), some (iv x4), some (iv x5), some (iv (-1)), some (iv 0), some (iv 0), some (iv 0), o10], [], mj (m_up J 542 0 0) sw lg x) K)))))))))))))))) : VV X d 269 (0, [some (.ref 542), some (iv x1), some (iv x2), some (iv x3), some (iv x4), some (iv x5), o6, o7, o8, o9, o10], [], mj J sw lg x) K := by
  refine v_s mt_269 rfl rfl rfl ?_
  refine v_ic (v := Int32.ofInt 0) mt_269 rfl rfl ?_
  refine j_pi 0 mt_269 rfl rfl c_542 (by decide) ?_
  refine v_s mt_269 rfl rfl rfl ?_
  refine v_s mt_269 rfl rfl rfl ?_
  refine v_ic (v := Int32.ofInt 1) mt_269 rfl rfl ?_
  refine v_bp (v := Int32.ofInt 20) mt_269 rfl rfl ?_
  refine v_inl (L1 := [some (iv x2), some (iv 1), some (iv 20)]) mt_269 rfl rfl mt_162 rfl rfl rfl rfl (by clear h; omega) ?_
  refine v_s mt_162 rfl rfl rfl ?_
  refine v_s mt_162 rfl rfl rfl ?_
  obtain ⟨z1, h⟩ := h
  refine j_if2 mt_162 rfl rfl z1 ⟨by decide, by decide⟩ (fun c => ?_) (fun c => ?_)
  · replace h := h.1 c
    refine v_ic (v := Int32.ofInt 0) mt_162 rfl rfl ?_
    refine j_retb mt_162 rfl rfl (by decide) ?_
    refine j_if1 mt_269 rfl rfl ⟨by decide, by decide⟩ (fun _ => ?_) (fun c => (c (show (0 : Int) = 0 by decide)).elim)
    refine v_ic (v := Int32.ofInt 0) mt_269 rfl rfl ?_
    refine v_ic (v := Int32.ofInt 1) mt_269 rfl rfl ?_
    refine v_ic (v := Int32.ofInt 1) mt_269 rfl rfl ?_
    refine v_inl (L1 := [some (.ref 542), some (iv 0), some (iv 1), some (iv 1)]) mt_269 rfl rfl mt_161 rfl rfl (m_callj (As := [iv 0, iv 1, iv 1]) (rest := []) rfl rfl c_542 rfl (Nat.le_of_ble_eq_true rfl) (Nat.le_of_ble_eq_true rfl)) rfl (by clear h; omega) ?_
    refine v_s mt_161 rfl rfl rfl ?_
    refine j_if1 mt_161 rfl rfl ⟨by decide, by decide⟩ (fun c => absurd (show ¬ (0 : Int) = 0 from c) (by decide)) (fun _ => ?_)
    refine v_s mt_161 rfl rfl rfl ?_
    refine j_gi (w := 0) 0 mt_161 rfl rfl c_542 (by decide) (up_eq _ _ _ _) ?_
    refine j_if1 mt_161 rfl rfl ⟨by decide, by decide⟩ (fun c => absurd (show ¬ (0 : Int) = 0 from c) (by decide)) (fun _ => ?_)
    refine v_s mt_161 rfl rfl rfl ?_
    refine v_s mt_161 rfl rfl rfl ?_
    refine j_pi 0 mt_161 rfl rfl c_542 (by decide) ?_
    refine v_s mt_161 rfl rfl rfl ?_
    refine v_gr (w := 543) 1 mt_161 rfl rfl c_542 (by decide) (g_12_1 c_542) ?_
    refine v_s mt_161 rfl rfl rfl ?_
    refine v_s mt_161 rfl rfl rfl ?_
    refine j_al (w := J 543 1) mt_161 rfl c_543 ⟨by decide, by decide⟩ (by decide) ((up_na (by decide)).trans ((up_na (by decide)).trans rfl)) ?_
    refine v_ic (v := Int32.ofInt 1) mt_161 rfl rfl ?_
    refine j_add (e := (J 543 1) + 1) mt_161 rfl rfl ?_
    refine j_as mt_161 rfl c_543 ⟨by decide, by decide⟩ (by decide) ?_
    refine v_s mt_161 rfl rfl rfl ?_
    refine j_gi (w := 1) 0 mt_161 rfl rfl c_542 (by decide) ((up_na (by decide)).trans (up_eq _ _ _ _)) ?_
    refine j_if1 mt_161 rfl rfl ⟨by decide, by decide⟩ (fun _ => ?_) (fun c => (c (show ¬ (1 : Int) = 0 by decide)).elim)
    refine v_ic (v := Int32.ofInt 0) mt_161 rfl rfl ?_
    refine j_retb mt_161 rfl rfl (by decide) ?_
    refine j_if1 mt_269 rfl rfl ⟨by decide, by decide⟩ (fun c => absurd (show ¬ (0 : Int) = 0 from c) (by decide)) (fun _ => ?_)
    refine v_ic (v := Int32.ofInt 0) mt_269 rfl rfl ?_
    exact v_ret mt_269 rfl rfl rfl h
  · replace h := h.2 (Int.not_lt.mp c)
    refine v_s mt_162 rfl rfl rfl ?_
    refine v_s mt_162 rfl rfl rfl ?_
    refine j_if2 mt_162 rfl rfl z1 ⟨by decide, by decide⟩ (fun c => ?_) (fun c => ?_)
    · replace h := h.1 c
      refine v_ic (v := Int32.ofInt 0) mt_162 rfl rfl ?_
      refine j_retb mt_162 rfl rfl (by decide) ?_
      refine j_if1 mt_269 rfl rfl ⟨by decide, by decide⟩ (fun _ => ?_) (fun c => (c (show (0 : Int) = 0 by decide)).elim)
      refine v_ic (v := Int32.ofInt 0) mt_269 rfl rfl ?_
      refine v_ic (v := Int32.ofInt 1) mt_269 rfl rfl ?_
      refine v_ic (v := Int32.ofInt 1) mt_269 rfl rfl ?_
      refine v_inl (L1 := [some (.ref 542), some (iv 0), some (iv 1), some (iv 1)]) mt_269 rfl rfl mt_161 rfl rfl (m_callj (As := [iv 0, iv 1, iv 1]) (rest := []) rfl rfl c_542 rfl (Nat.le_of_ble_eq_true rfl) (Nat.le_of_ble_eq_true rfl)) rfl (by clear h; omega) ?_
      refine v_s mt_161 rfl rfl rfl ?_
      refine j_if1 mt_161 rfl rfl ⟨by decide, by decide⟩ (fun c => absurd (show ¬ (0 : Int) = 0 from c) (by decide)) (fun _ => ?_)
      refine v_s mt_161 rfl rfl rfl ?_
      refine j_gi (w := 0) 0 mt_161 rfl rfl c_542 (by decide) (up_eq _ _ _ _) ?_
      refine j_if1 mt_161 rfl rfl ⟨by decide, by decide⟩ (fun c => absurd (show ¬ (0 : Int) = 0 from c) (by decide)) (fun _ => ?_)
      refine v_s mt_161 rfl rfl rfl ?_
      refine v_s mt_161 rfl rfl rfl ?_
      refine j_pi 0 mt_161 rfl rfl c_542 (by decide) ?_
      refine v_s mt_161 rfl rfl rfl ?_
      refine v_gr (w := 543) 1 mt_161 rfl rfl c_542 (by decide) (g_12_1 c_542) ?_
      refine v_s mt_161 rfl rfl rfl ?_
      refine v_s mt_161 rfl rfl rfl ?_
      refine j_al (w := J 543 1) mt_161 rfl c_543 ⟨by decide, by decide⟩ (by decide) ((up_na (by decide)).trans ((up_na (by decide)).trans rfl)) ?_
      refine v_ic (v := Int32.ofInt 1) mt_161 rfl rfl ?_
      refine j_add (e := (J 543 1) + 1) mt_161 rfl rfl ?_
      refine j_as mt_161 rfl c_543 ⟨by decide, by decide⟩ (by decide) ?_
      refine v_s mt_161 rfl rfl rfl ?_
      refine j_gi (w := 1) 0 mt_161 rfl rfl c_542 (by decide) ((up_na (by decide)).trans (up_eq _ _ _ _)) ?_
      refine j_if1 mt_161 rfl rfl ⟨by decide, by decide⟩ (fun _ => ?_) (fun c => (c (show ¬ (1 : Int) = 0 by decide)).elim)
      refine v_ic (v := Int32.ofInt 0) mt_161 rfl rfl ?_
      refine j_retb mt_161 rfl rfl (by decide) ?_
      refine j_if1 mt_269 rfl rfl ⟨by decide, by decide⟩ (fun c => absurd (show ¬ (0 : Int) = 0 from c) (by decide)) (fun _ => ?_)
      refine v_ic (v := Int32.ofInt 0) mt_269 rfl rfl ?_
      exact v_ret mt_269 rfl rfl rfl h
    · replace h := h.2 (Int.not_lt.mp c)
      refine v_ic (v := Int32.ofInt 1) mt_162 rfl rfl ?_
      refine v_go mt_162 rfl rfl ?_
      refine j_retb mt_162 rfl rfl (by decide) ?_
      refine j_if1 mt_269 rfl rfl ⟨by decide, by decide⟩ (fun c => absurd (show (1 : Int) = 0 from c) (by decide)) (fun _ => ?_)
      refine v_s mt_269 rfl rfl rfl ?_
      refine v_s mt_269 rfl rfl rfl ?_
      refine v_inl (L1 := [some (iv x3), some (iv x4)]) mt_269 rfl rfl mt_267 rfl rfl rfl rfl (by clear h; omega) ?_
      refine v_s mt_267 rfl rfl rfl ?_
      obtain ⟨z2, h⟩ := h
      refine j_if1 mt_267 rfl rfl z2 (fun c => ?_) (fun c => ?_)
      · replace h := h.1 c
        refine v_ic (v := Int32.ofInt 0) mt_267 rfl rfl ?_
        refine j_retb mt_267 rfl rfl (by decide) ?_
        refine j_if1 mt_269 rfl rfl ⟨by decide, by decide⟩ (fun _ => ?_) (fun c => (c (show (0 : Int) = 0 by decide)).elim)
        refine v_ic (v := Int32.ofInt 0) mt_269 rfl rfl ?_
        refine v_ic (v := Int32.ofInt 1) mt_269 rfl rfl ?_
        refine v_ic (v := Int32.ofInt 1) mt_269 rfl rfl ?_
        refine v_inl (L1 := [some (.ref 542), some (iv 0), some (iv 1), some (iv 1)]) mt_269 rfl rfl mt_161 rfl rfl (m_callj (As := [iv 0, iv 1, iv 1]) (rest := []) rfl rfl c_542 rfl (Nat.le_of_ble_eq_true rfl) (Nat.le_of_ble_eq_true rfl)) rfl (by clear h; omega) ?_
        refine v_s mt_161 rfl rfl rfl ?_
        refine j_if1 mt_161 rfl rfl ⟨by decide, by decide⟩ (fun c => absurd (show ¬ (0 : Int) = 0 from c) (by decide)) (fun _ => ?_)
        refine v_s mt_161 rfl rfl rfl ?_
        refine j_gi (w := 0) 0 mt_161 rfl rfl c_542 (by decide) (up_eq _ _ _ _) ?_
        refine j_if1 mt_161 rfl rfl ⟨by decide, by decide⟩ (fun c => absurd (show ¬ (0 : Int) = 0 from c) (by decide)) (fun _ => ?_)
        refine v_s mt_161 rfl rfl rfl ?_
        refine v_s mt_161 rfl rfl rfl ?_
        refine j_pi 0 mt_161 rfl rfl c_542 (by decide) ?_
        refine v_s mt_161 rfl rfl rfl ?_
        refine v_gr (w := 543) 1 mt_161 rfl rfl c_542 (by decide) (g_12_1 c_542) ?_
        refine v_s mt_161 rfl rfl rfl ?_
        refine v_s mt_161 rfl rfl rfl ?_
        refine j_al (w := J 543 1) mt_161 rfl c_543 ⟨by decide, by decide⟩ (by decide) ((up_na (by decide)).trans ((up_na (by decide)).trans rfl)) ?_
        refine v_ic (v := Int32.ofInt 1) mt_161 rfl rfl ?_
        refine j_add (e := (J 543 1) + 1) mt_161 rfl rfl ?_
        refine j_as mt_161 rfl c_543 ⟨by decide, by decide⟩ (by decide) ?_
        refine v_s mt_161 rfl rfl rfl ?_
        refine j_gi (w := 1) 0 mt_161 rfl rfl c_542 (by decide) ((up_na (by decide)).trans (up_eq _ _ _ _)) ?_
        refine j_if1 mt_161 rfl rfl ⟨by decide, by decide⟩ (fun _ => ?_) (fun c => (c (show ¬ (1 : Int) = 0 by decide)).elim)
        refine v_ic (v := Int32.ofInt 0) mt_161 rfl rfl ?_
        refine j_retb mt_161 rfl rfl (by decide) ?_
        refine j_if1 mt_269 rfl rfl ⟨by decide, by decide⟩ (fun c => absurd (show ¬ (0 : Int) = 0 from c) (by decide)) (fun _ => ?_)
        refine v_ic (v := Int32.ofInt 0) mt_269 rfl rfl ?_
        exact v_ret mt_269 rfl rfl rfl h
      · replace h := h.2 (Int.not_lt.mp c)
        refine v_s mt_267 rfl rfl rfl ?_
        refine v_bp (v := Int32.ofInt 16) mt_267 rfl rfl ?_
        refine j_if2 mt_267 rfl rfl z2 ⟨by decide, by decide⟩ (fun c => ?_) (fun c => ?_)
        · replace h := h.1 c
          refine v_ic (v := Int32.ofInt 0) mt_267 rfl rfl ?_
          refine j_retb mt_267 rfl rfl (by decide) ?_
          refine j_if1 mt_269 rfl rfl ⟨by decide, by decide⟩ (fun _ => ?_) (fun c => (c (show (0 : Int) = 0 by decide)).elim)
          refine v_ic (v := Int32.ofInt 0) mt_269 rfl rfl ?_
          refine v_ic (v := Int32.ofInt 1) mt_269 rfl rfl ?_
          refine v_ic (v := Int32.ofInt 1) mt_269 rfl rfl ?_
          refine v_inl (L1 := [some (.ref 542), some (iv 0), some (iv 1), some (iv 1)]) mt_269 rfl rfl mt_161 rfl rfl (m_callj (As := [iv 0, iv 1, iv 1]) (rest := []) rfl rfl c_542 rfl (Nat.le_of_ble_eq_true rfl) (Nat.le_of_ble_eq_true rfl)) rfl (by clear h; omega) ?_
          refine v_s mt_161 rfl rfl rfl ?_
          refine j_if1 mt_161 rfl rfl ⟨by decide, by decide⟩ (fun c => absurd (show ¬ (0 : Int) = 0 from c) (by decide)) (fun _ => ?_)
          refine v_s mt_161 rfl rfl rfl ?_
          refine j_gi (w := 0) 0 mt_161 rfl rfl c_542 (by decide) (up_eq _ _ _ _) ?_
          refine j_if1 mt_161 rfl rfl ⟨by decide, by decide⟩ (fun c => absurd (show ¬ (0 : Int) = 0 from c) (by decide)) (fun _ => ?_)
          refine v_s mt_161 rfl rfl rfl ?_
          refine v_s mt_161 rfl rfl rfl ?_
          refine j_pi 0 mt_161 rfl rfl c_542 (by decide) ?_
          refine v_s mt_161 rfl rfl rfl ?_
          refine v_gr (w := 543) 1 mt_161 rfl rfl c_542 (by decide) (g_12_1 c_542) ?_
          refine v_s mt_161 rfl rfl rfl ?_
          refine v_s mt_161 rfl rfl rfl ?_
          refine j_al (w := J 543 1) mt_161 rfl c_543 ⟨by decide, by decide⟩ (by decide) ((up_na (by decide)).trans ((up_na (by decide)).trans rfl)) ?_
          refine v_ic (v := Int32.ofInt 1) mt_161 rfl rfl ?_
          refine j_add (e := (J 543 1) + 1) mt_161 rfl rfl ?_
          refine j_as mt_161 rfl c_543 ⟨by decide, by decide⟩ (by decide) ?_
          refine v_s mt_161 rfl rfl rfl ?_
          refine j_gi (w := 1) 0 mt_161 rfl rfl c_542 (by decide) ((up_na (by decide)).trans (up_eq _ _ _ _)) ?_
          refine j_if1 mt_161 rfl rfl ⟨by decide, by decide⟩ (fun _ => ?_) (fun c => (c (show ¬ (1 : Int) = 0 by decide)).elim)
          refine v_ic (v := Int32.ofInt 0) mt_161 rfl rfl ?_
          refine j_retb mt_161 rfl rfl (by decide) ?_
          refine j_if1 mt_269 rfl rfl ⟨by decide, by decide⟩ (fun c => absurd (show ¬ (0 : Int) = 0 from c) (by decide)) (fun _ => ?_)
          refine v_ic (v := Int32.ofInt 0) mt_269 rfl rfl ?_
          exact v_ret mt_269 rfl rfl rfl h
        · replace h := h.2 (Int.not_lt.mp c)
          refine v_s mt_267 rfl rfl rfl ?_
          refine v_ic (v := Int32.ofInt 1) mt_267 rfl rfl ?_
          obtain ⟨z3, h⟩ := h
          refine j_if2 mt_267 rfl rfl z3 ⟨by decide, by decide⟩ (fun c => ?_) (fun c => ?_)
          · replace h := h.1 c
            refine v_ic (v := Int32.ofInt 0) mt_267 rfl rfl ?_
            refine j_retb mt_267 rfl rfl (by decide) ?_
            refine j_if1 mt_269 rfl rfl ⟨by decide, by decide⟩ (fun _ => ?_) (fun c => (c (show (0 : Int) = 0 by decide)).elim)
            refine v_ic (v := Int32.ofInt 0) mt_269 rfl rfl ?_
            refine v_ic (v := Int32.ofInt 1) mt_269 rfl rfl ?_
            refine v_ic (v := Int32.ofInt 1) mt_269 rfl rfl ?_
            refine v_inl (L1 := [some (.ref 542), some (iv 0), some (iv 1), some (iv 1)]) mt_269 rfl rfl mt_161 rfl rfl (m_callj (As := [iv 0, iv 1, iv 1]) (rest := []) rfl rfl c_542 rfl (Nat.le_of_ble_eq_true rfl) (Nat.le_of_ble_eq_true rfl)) rfl (by clear h; omega) ?_
            refine v_s mt_161 rfl rfl rfl ?_
            refine j_if1 mt_161 rfl rfl ⟨by decide, by decide⟩ (fun c => absurd (show ¬ (0 : Int) = 0 from c) (by decide)) (fun _ => ?_)
            refine v_s mt_161 rfl rfl rfl ?_
            refine j_gi (w := 0) 0 mt_161 rfl rfl c_542 (by decide) (up_eq _ _ _ _) ?_
            refine j_if1 mt_161 rfl rfl ⟨by decide, by decide⟩ (fun c => absurd (show ¬ (0 : Int) = 0 from c) (by decide)) (fun _ => ?_)
            refine v_s mt_161 rfl rfl rfl ?_
            refine v_s mt_161 rfl rfl rfl ?_
            refine j_pi 0 mt_161 rfl rfl c_542 (by decide) ?_
            refine v_s mt_161 rfl rfl rfl ?_
            refine v_gr (w := 543) 1 mt_161 rfl rfl c_542 (by decide) (g_12_1 c_542) ?_
            refine v_s mt_161 rfl rfl rfl ?_
            refine v_s mt_161 rfl rfl rfl ?_
            refine j_al (w := J 543 1) mt_161 rfl c_543 ⟨by decide, by decide⟩ (by decide) ((up_na (by decide)).trans ((up_na (by decide)).trans rfl)) ?_
            refine v_ic (v := Int32.ofInt 1) mt_161 rfl rfl ?_
            refine j_add (e := (J 543 1) + 1) mt_161 rfl rfl ?_
            refine j_as mt_161 rfl c_543 ⟨by decide, by decide⟩ (by decide) ?_
            refine v_s mt_161 rfl rfl rfl ?_
            refine j_gi (w := 1) 0 mt_161 rfl rfl c_542 (by decide) ((up_na (by decide)).trans (up_eq _ _ _ _)) ?_
            refine j_if1 mt_161 rfl rfl ⟨by decide, by decide⟩ (fun _ => ?_) (fun c => (c (show ¬ (1 : Int) = 0 by decide)).elim)
            refine v_ic (v := Int32.ofInt 0) mt_161 rfl rfl ?_
            refine j_retb mt_161 rfl rfl (by decide) ?_
            refine j_if1 mt_269 rfl rfl ⟨by decide, by decide⟩ (fun c => absurd (show ¬ (0 : Int) = 0 from c) (by decide)) (fun _ => ?_)
            refine v_ic (v := Int32.ofInt 0) mt_269 rfl rfl ?_
            exact v_ret mt_269 rfl rfl rfl h
          · replace h := h.2 (Int.not_lt.mp c)
            refine v_s mt_267 rfl rfl rfl ?_
            refine v_bp (v := Int32.ofInt 96) mt_267 rfl rfl ?_
            refine j_if2 mt_267 rfl rfl z3 ⟨by decide, by decide⟩ (fun c => ?_) (fun c => ?_)
            · replace h := h.1 c
              refine v_ic (v := Int32.ofInt 0) mt_267 rfl rfl ?_
              refine j_retb mt_267 rfl rfl (by decide) ?_
              refine j_if1 mt_269 rfl rfl ⟨by decide, by decide⟩ (fun _ => ?_) (fun c => (c (show (0 : Int) = 0 by decide)).elim)
              refine v_ic (v := Int32.ofInt 0) mt_269 rfl rfl ?_
              refine v_ic (v := Int32.ofInt 1) mt_269 rfl rfl ?_
              refine v_ic (v := Int32.ofInt 1) mt_269 rfl rfl ?_
              refine v_inl (L1 := [some (.ref 542), some (iv 0), some (iv 1), some (iv 1)]) mt_269 rfl rfl mt_161 rfl rfl (m_callj (As := [iv 0, iv 1, iv 1]) (rest := []) rfl rfl c_542 rfl (Nat.le_of_ble_eq_true rfl) (Nat.le_of_ble_eq_true rfl)) rfl (by clear h; omega) ?_
              refine v_s mt_161 rfl rfl rfl ?_
              refine j_if1 mt_161 rfl rfl ⟨by decide, by decide⟩ (fun c => absurd (show ¬ (0 : Int) = 0 from c) (by decide)) (fun _ => ?_)
              refine v_s mt_161 rfl rfl rfl ?_
              refine j_gi (w := 0) 0 mt_161 rfl rfl c_542 (by decide) (up_eq _ _ _ _) ?_
              refine j_if1 mt_161 rfl rfl ⟨by decide, by decide⟩ (fun c => absurd (show ¬ (0 : Int) = 0 from c) (by decide)) (fun _ => ?_)
              refine v_s mt_161 rfl rfl rfl ?_
              refine v_s mt_161 rfl rfl rfl ?_
              refine j_pi 0 mt_161 rfl rfl c_542 (by decide) ?_
              refine v_s mt_161 rfl rfl rfl ?_
              refine v_gr (w := 543) 1 mt_161 rfl rfl c_542 (by decide) (g_12_1 c_542) ?_
              refine v_s mt_161 rfl rfl rfl ?_
              refine v_s mt_161 rfl rfl rfl ?_
              refine j_al (w := J 543 1) mt_161 rfl c_543 ⟨by decide, by decide⟩ (by decide) ((up_na (by decide)).trans ((up_na (by decide)).trans rfl)) ?_
              refine v_ic (v := Int32.ofInt 1) mt_161 rfl rfl ?_
              refine j_add (e := (J 543 1) + 1) mt_161 rfl rfl ?_
              refine j_as mt_161 rfl c_543 ⟨by decide, by decide⟩ (by decide) ?_
              refine v_s mt_161 rfl rfl rfl ?_
              refine j_gi (w := 1) 0 mt_161 rfl rfl c_542 (by decide) ((up_na (by decide)).trans (up_eq _ _ _ _)) ?_
              refine j_if1 mt_161 rfl rfl ⟨by decide, by decide⟩ (fun _ => ?_) (fun c => (c (show ¬ (1 : Int) = 0 by decide)).elim)
              refine v_ic (v := Int32.ofInt 0) mt_161 rfl rfl ?_
              refine j_retb mt_161 rfl rfl (by decide) ?_
              refine j_if1 mt_269 rfl rfl ⟨by decide, by decide⟩ (fun c => absurd (show ¬ (0 : Int) = 0 from c) (by decide)) (fun _ => ?_)
              refine v_ic (v := Int32.ofInt 0) mt_269 rfl rfl ?_
              exact v_ret mt_269 rfl rfl rfl h
            · replace h := h.2 (Int.not_lt.mp c)
              refine v_ic (v := Int32.ofInt 1) mt_267 rfl rfl ?_
              refine v_go mt_267 rfl rfl ?_
              refine j_retb mt_267 rfl rfl (by decide) ?_
              refine j_if1 mt_269 rfl rfl ⟨by decide, by decide⟩ (fun c => absurd (show (1 : Int) = 0 from c) (by decide)) (fun _ => ?_)
              refine v_s mt_269 rfl rfl rfl ?_
              refine v_ic (v := Int32.ofInt 0) mt_269 rfl rfl ?_
              refine v_ic (v := Int32.ofInt 2) mt_269 rfl rfl ?_
              refine v_inl (L1 := [some (iv x5), some (iv 0), some (iv 2)]) mt_269 rfl rfl mt_162 rfl rfl rfl rfl (by clear h; omega) ?_
              refine v_s mt_162 rfl rfl rfl ?_
              refine v_s mt_162 rfl rfl rfl ?_
              obtain ⟨z4, h⟩ := h
              refine j_if2 mt_162 rfl rfl z4 ⟨by decide, by decide⟩ (fun c => ?_) (fun c => ?_)
              · replace h := h.1 c
                refine v_ic (v := Int32.ofInt 0) mt_162 rfl rfl ?_
                refine j_retb mt_162 rfl rfl (by decide) ?_
                refine j_if1 mt_269 rfl rfl ⟨by decide, by decide⟩ (fun _ => ?_) (fun c => (c (show (0 : Int) = 0 by decide)).elim)
                refine v_ic (v := Int32.ofInt 0) mt_269 rfl rfl ?_
                refine v_ic (v := Int32.ofInt 1) mt_269 rfl rfl ?_
                refine v_ic (v := Int32.ofInt 1) mt_269 rfl rfl ?_
                refine v_inl (L1 := [some (.ref 542), some (iv 0), some (iv 1), some (iv 1)]) mt_269 rfl rfl mt_161 rfl rfl (m_callj (As := [iv 0, iv 1, iv 1]) (rest := []) rfl rfl c_542 rfl (Nat.le_of_ble_eq_true rfl) (Nat.le_of_ble_eq_true rfl)) rfl (by clear h; omega) ?_
                refine v_s mt_161 rfl rfl rfl ?_
                refine j_if1 mt_161 rfl rfl ⟨by decide, by decide⟩ (fun c => absurd (show ¬ (0 : Int) = 0 from c) (by decide)) (fun _ => ?_)
                refine v_s mt_161 rfl rfl rfl ?_
                refine j_gi (w := 0) 0 mt_161 rfl rfl c_542 (by decide) (up_eq _ _ _ _) ?_
                refine j_if1 mt_161 rfl rfl ⟨by decide, by decide⟩ (fun c => absurd (show ¬ (0 : Int) = 0 from c) (by decide)) (fun _ => ?_)
                refine v_s mt_161 rfl rfl rfl ?_
                refine v_s mt_161 rfl rfl rfl ?_
                refine j_pi 0 mt_161 rfl rfl c_542 (by decide) ?_
                refine v_s mt_161 rfl rfl rfl ?_
                refine v_gr (w := 543) 1 mt_161 rfl rfl c_542 (by decide) (g_12_1 c_542) ?_
                refine v_s mt_161 rfl rfl rfl ?_
                refine v_s mt_161 rfl rfl rfl ?_
                refine j_al (w := J 543 1) mt_161 rfl c_543 ⟨by decide, by decide⟩ (by decide) ((up_na (by decide)).trans ((up_na (by decide)).trans rfl)) ?_
                refine v_ic (v := Int32.ofInt 1) mt_161 rfl rfl ?_
                refine j_add (e := (J 543 1) + 1) mt_161 rfl rfl ?_
                refine j_as mt_161 rfl c_543 ⟨by decide, by decide⟩ (by decide) ?_
                refine v_s mt_161 rfl rfl rfl ?_
                refine j_gi (w := 1) 0 mt_161 rfl rfl c_542 (by decide) ((up_na (by decide)).trans (up_eq _ _ _ _)) ?_
                refine j_if1 mt_161 rfl rfl ⟨by decide, by decide⟩ (fun _ => ?_) (fun c => (c (show ¬ (1 : Int) = 0 by decide)).elim)
                refine v_ic (v := Int32.ofInt 0) mt_161 rfl rfl ?_
                refine j_retb mt_161 rfl rfl (by decide) ?_
                refine j_if1 mt_269 rfl rfl ⟨by decide, by decide⟩ (fun c => absurd (show ¬ (0 : Int) = 0 from c) (by decide)) (fun _ => ?_)
                refine v_ic (v := Int32.ofInt 0) mt_269 rfl rfl ?_
                exact v_ret mt_269 rfl rfl rfl h
              · replace h := h.2 (Int.not_lt.mp c)
                refine v_s mt_162 rfl rfl rfl ?_
                refine v_s mt_162 rfl rfl rfl ?_
                refine j_if2 mt_162 rfl rfl z4 ⟨by decide, by decide⟩ (fun c => ?_) (fun c => ?_)
                · replace h := h.1 c
                  refine v_ic (v := Int32.ofInt 0) mt_162 rfl rfl ?_
                  refine j_retb mt_162 rfl rfl (by decide) ?_
                  refine j_if1 mt_269 rfl rfl ⟨by decide, by decide⟩ (fun _ => ?_) (fun c => (c (show (0 : Int) = 0 by decide)).elim)
                  refine v_ic (v := Int32.ofInt 0) mt_269 rfl rfl ?_
                  refine v_ic (v := Int32.ofInt 1) mt_269 rfl rfl ?_
                  refine v_ic (v := Int32.ofInt 1) mt_269 rfl rfl ?_
                  refine v_inl (L1 := [some (.ref 542), some (iv 0), some (iv 1), some (iv 1)]) mt_269 rfl rfl mt_161 rfl rfl (m_callj (As := [iv 0, iv 1, iv 1]) (rest := []) rfl rfl c_542 rfl (Nat.le_of_ble_eq_true rfl) (Nat.le_of_ble_eq_true rfl)) rfl (by clear h; omega) ?_
                  refine v_s mt_161 rfl rfl rfl ?_
                  refine j_if1 mt_161 rfl rfl ⟨by decide, by decide⟩ (fun c => absurd (show ¬ (0 : Int) = 0 from c) (by decide)) (fun _ => ?_)
                  refine v_s mt_161 rfl rfl rfl ?_
                  refine j_gi (w := 0) 0 mt_161 rfl rfl c_542 (by decide) (up_eq _ _ _ _) ?_
                  refine j_if1 mt_161 rfl rfl ⟨by decide, by decide⟩ (fun c => absurd (show ¬ (0 : Int) = 0 from c) (by decide)) (fun _ => ?_)
                  refine v_s mt_161 rfl rfl rfl ?_
                  refine v_s mt_161 rfl rfl rfl ?_
                  refine j_pi 0 mt_161 rfl rfl c_542 (by decide) ?_
                  refine v_s mt_161 rfl rfl rfl ?_
                  refine v_gr (w := 543) 1 mt_161 rfl rfl c_542 (by decide) (g_12_1 c_542) ?_
                  refine v_s mt_161 rfl rfl rfl ?_
                  refine v_s mt_161 rfl rfl rfl ?_
                  refine j_al (w := J 543 1) mt_161 rfl c_543 ⟨by decide, by decide⟩ (by decide) ((up_na (by decide)).trans ((up_na (by decide)).trans rfl)) ?_
                  refine v_ic (v := Int32.ofInt 1) mt_161 rfl rfl ?_
                  refine j_add (e := (J 543 1) + 1) mt_161 rfl rfl ?_
                  refine j_as mt_161 rfl c_543 ⟨by decide, by decide⟩ (by decide) ?_
                  refine v_s mt_161 rfl rfl rfl ?_
                  refine j_gi (w := 1) 0 mt_161 rfl rfl c_542 (by decide) ((up_na (by decide)).trans (up_eq _ _ _ _)) ?_
                  refine j_if1 mt_161 rfl rfl ⟨by decide, by decide⟩ (fun _ => ?_) (fun c => (c (show ¬ (1 : Int) = 0 by decide)).elim)
                  refine v_ic (v := Int32.ofInt 0) mt_161 rfl rfl ?_
                  refine j_retb mt_161 rfl rfl (by decide) ?_
                  refine j_if1 mt_269 rfl rfl ⟨by decide, by decide⟩ (fun c => absurd (show ¬ (0 : Int) = 0 from c) (by decide)) (fun _ => ?_)
                  refine v_ic (v := Int32.ofInt 0) mt_269 rfl rfl ?_
                  exact v_ret mt_269 rfl rfl rfl h
                · replace h := h.2 (Int.not_lt.mp c)
                  refine v_ic (v := Int32.ofInt 1) mt_162 rfl rfl ?_
                  refine v_go mt_162 rfl rfl ?_
                  refine j_retb mt_162 rfl rfl (by decide) ?_
                  refine j_if1 mt_269 rfl rfl ⟨by decide, by decide⟩ (fun c => absurd (show (1 : Int) = 0 from c) (by decide)) (fun _ => ?_)
                  refine v_ic (v := Int32.ofInt 1) mt_269 rfl rfl ?_
                  refine v_go mt_269 rfl rfl ?_
                  refine v_ic (v := Int32.ofInt 1) mt_269 rfl rfl ?_
                  refine v_ic (v := Int32.ofInt 1) mt_269 rfl rfl ?_
                  refine v_inl (L1 := [some (.ref 542), some (iv 1), some (iv 1), some (iv 1)]) mt_269 rfl rfl mt_161 rfl rfl (m_callj (As := [iv 1, iv 1, iv 1]) (rest := []) rfl rfl c_542 rfl (Nat.le_of_ble_eq_true rfl) (Nat.le_of_ble_eq_true rfl)) rfl (by clear h; omega) ?_
                  refine v_s mt_161 rfl rfl rfl ?_
                  refine j_if1 mt_161 rfl rfl ⟨by decide, by decide⟩ (fun _ => ?_) (fun c => (c (show ¬ (1 : Int) = 0 by decide)).elim)
                  refine v_s mt_161 rfl rfl rfl ?_
                  refine j_gi (w := 0) 0 mt_161 rfl rfl c_542 (by decide) (up_eq _ _ _ _) ?_
                  refine j_if1 mt_161 rfl rfl ⟨by decide, by decide⟩ (fun c => absurd (show ¬ (0 : Int) = 0 from c) (by decide)) (fun _ => ?_)
                  refine v_ic (v := Int32.ofInt 1) mt_161 rfl rfl ?_
                  refine v_go mt_161 rfl rfl ?_
                  refine j_retb mt_161 rfl rfl (by decide) ?_
                  refine j_if1 mt_269 rfl rfl ⟨by decide, by decide⟩ (fun _ => ?_) (fun c => (c (show ¬ (1 : Int) = 0 by decide)).elim)
                  refine v_ic (v := Int32.ofInt (-1)) mt_269 rfl rfl ?_
                  refine v_is (L' := [some (.ref 542), some (iv x1), some (iv x2), some (iv x3), some (iv x4), some (iv x5), some (iv (-1)), o7, o8, o9, o10]) mt_269 rfl (Nat.le_of_ble_eq_true rfl) rfl ?_
                  refine v_ic (v := Int32.ofInt 0) mt_269 rfl rfl ?_
                  refine v_is (L' := [some (.ref 542), some (iv x1), some (iv x2), some (iv x3), some (iv x4), some (iv x5), some (iv (-1)), some (iv 0), o8, o9, o10]) mt_269 rfl (Nat.le_of_ble_eq_true rfl) rfl ?_
                  refine v_ic (v := Int32.ofInt 0) mt_269 rfl rfl ?_
                  refine v_is (L' := [some (.ref 542), some (iv x1), some (iv x2), some (iv x3), some (iv x4), some (iv x5), some (iv (-1)), some (iv 0), some (iv 0), o9, o10]) mt_269 rfl (Nat.le_of_ble_eq_true rfl) rfl ?_
                  refine v_ic (v := Int32.ofInt 0) mt_269 rfl rfl ?_
                  refine v_is (L' := [some (.ref 542), some (iv x1), some (iv x2), some (iv x3), some (iv x4), some (iv x5), some (iv (-1)), some (iv 0), some (iv 0), some (iv 0), o10]) mt_269 rfl (Nat.le_of_ble_eq_true rfl) rfl ?_
                  exact h
set_option maxHeartbeats 600000 in
theorem b_269_62 {X : Nat × (Nat → Int32)} {d : Nat} {J : Nat → Nat → Int} {sw : Bool × Bool × Bool} {lg : Nat → Nat → Int64} {x : Nat} {K : (Option Value ⊕ Nat) → mM → Prop} {x1 x2 x3 x4 x5 x6 x7 x8 x9 : Int} {o10 : Option Value} (hd : 7 ≤ d)
    (h : InR x9 ∧ InR x2 ∧ (x2 ≤ x9 → (InR x5 ∧ (¬ x5 = 0 → ((¬ x5 = 1 → K (.inl (some (iv x8))) (mj J sw lg x)) ∧ (x5 = 1 → K (.inl (some (iv x7))) (mj J sw lg x)))) ∧ (x5 = 0 → K (.inl (some (iv x6))) (mj J sw lg x)))) ∧ (x9 < x2 → (∃ (J1 : Nat → Nat → Int), EE X 6 266 [.ref 542, iv (x1 + x9), iv x3, iv x4] (mj J sw lg x) (.inl none) (mj J1 sw lg x) ∧ ∃ (c3 : Int) (J2 : Nat → Nat → Int), EE X 0 220 [.ref 542, iv 30] (mj J1 sw lg x) (.inl (some (iv c3))) (mj J2 sw lg x) ∧ InR x6 ∧ (x6 = (-1) → (InR c3 ∧ InR x7 ∧ (c3 ≤ x7 → (∃ (c5 : Int) (J4 : Nat → Nat → Int), EE X 1 221 [.ref 542] (mj J2 sw lg x) (.inl (some (iv c5))) (mj J4 sw lg x) ∧ InR c5 ∧ InR ((bShl 1 (J4 542 24)) - 1) ∧ (¬ c5 = (bShl 1 (J4 542 24)) - 1 → VV X d 269 (62, [some (.ref 542), some (iv x1), some (iv x2), some (iv x3), some (iv x4), some (iv x5), some (iv c3), some (iv x7), some (iv x8), some (iv (x9 + 1)), some (iv c3)], [], mj J4 sw lg x) K) ∧ (c5 = (bShl 1 (J4 542 24)) - 1 → VV X d 269 (62, [some (.ref 542), some (iv x1), some (iv x2), some (iv x3), some (iv x4), some (iv x5), some (iv c3), some (iv x7), some (iv (x8 + 1)), some (iv (x9 + 1)), some (iv c3)], [], mj J4 sw lg x) K))) ∧ (x7 < c3 → (∃ (c7 : Int) (J6 : Nat → Nat → Int), EE X 1 221 [.ref 542] (mj J2 sw lg x) (.inl (some (iv c7))) (mj J6 sw lg x) ∧ InR c7 ∧ InR ((bShl 1 (J6 542 24)) - 1) ∧ (¬ c7 = (bShl 1 (J6 542 24)) - 1 → VV X d 269 (62, [some (.ref 542), some (iv x1), some (iv x2), some (iv x3), some (iv x4), some (iv x5), some (iv c3), some (iv c3), some (iv x8), some (iv (x9 + 1)), some (iv c3)], [], mj J6 sw lg x) K) ∧ (c7 = (bShl 1 (J6 542 24)) - 1 → VV X d 269 (62, [some (.ref 542), some (iv x1), some (iv x2), some (iv x3), some (iv x4), some (iv x5), some (iv c3), some (iv c3), some (iv (x8 + 1)), some (iv (x9 + 1)), some (iv c3)], [], mj J6 sw lg x) K))))) ∧ (¬ x6 = (-1) → (InR c3 ∧ (x6 ≤ c3 → (InR x7 ∧ (c3 ≤ x7 → (∃ (c9 : Int) (J8 : Nat → Nat → Int), EE X 1 221 [.ref 542] (mj J2 sw lg x) (.inl (some (iv c9))) (mj J8 sw lg x) ∧ InR c9 ∧ InR ((bShl 1 (J8 542 24)) - 1) ∧ (¬ c9 = (bShl 1 (J8 542 24)) - 1 → VV X d 269 (62, [some (.ref 542), some (iv x1), some (iv x2), some (iv x3), some (iv x4), some (iv x5), some (iv x6), some (iv x7), some (iv x8), some (iv (x9 + 1)), some (iv c3)], [], mj J8 sw lg x) K) ∧ (c9 = (bShl 1 (J8 542 24)) - 1 → VV X d 269 (62, [some (.ref 542), some (iv x1), some (iv x2), some (iv x3), some (iv x4), some (iv x5), some (iv x6), some (iv x7), some (iv (x8 + 1)), some (iv (x9 + 1)), some (iv c3)], [], mj J8 sw lg x) K))) ∧ (x7 < c3 → (∃ (c11 : Int) (J10 : Nat → Nat → Int), EE X 1 221 [.ref 542] (mj J2 sw lg x) (.inl (some (iv c11))) (mj J10 sw lg x) ∧ InR c11 ∧ InR ((bShl 1 (J10 542 24)) - 1) ∧ (¬ c11 = (bShl 1 (J10 542 24)) - 1 → VV X d 269 (62, [some (.ref 542), some (iv x1), some (iv x2), some (iv x3), some (iv x4), some (iv x5), some (iv x6), some (iv c3), some (iv x8), some (iv (x9 + 1)), some (iv c3)], [], mj J10 sw lg x) K) ∧ (c11 = (bShl 1 (J10 542 24)) - 1 → VV X d 269 (62, [some (.ref 542), some (iv x1), some (iv x2), some (iv x3), some (iv x4), some (iv x5), some (iv x6), some (iv c3), some (iv (x8 + 1)), some (iv (x9 + 1)), some (iv c3)], [], mj J10 sw lg x) K))))) ∧ (c3 < x6 → (InR x7 ∧ (c3 ≤ x7 → (∃ (c13 : Int) (J12 : Nat → Nat → Int), EE X 1 221 [.ref 542] (mj J2 sw lg x) (.inl (some (iv c13))) (mj J12 sw lg x) ∧ InR c13 ∧ InR ((bShl 1 (J12 542 24)) - 1) ∧ (¬ c13 = (bShl 1 (J12 542 24)) - 1 → VV X d 269 (62, [some (.ref 542), some (iv x1), some (iv x2), some (iv x3), some (iv x4), some (iv x5), some (iv c3), some (iv x7), some (iv x8), some (iv (x9 + 1)), some (iv c3)], [], mj J12 sw lg x) K) ∧ (c13 = (bShl 1 (J12 542 24)) - 1 → VV X d 269 (62, [some (.ref 542), some (iv x1), some (iv x2), some (iv x3), some (iv x4), some (iv x5), some (iv c3), some (iv x7), some (iv (x8 + 1)), some (iv (x9 + 1)), some (iv c3)], [], mj J12 sw lg x) K))) ∧ (x7 < c3 → (∃ (c15 : Int) (J14 : Nat → Nat → Int), EE X 1 221 [.ref 542] (mj J2 sw lg x) (.inl (some (iv c15))) (mj J14 sw lg x) ∧ InR c15 ∧ InR ((bShl 1 (J14 542 24)) - 1) ∧ (¬ c15 = (bShl 1 (J14 542 24)) - 1 → VV X d 269 (62, [some (.ref 542), some (iv x1), some (iv x2), some (iv x3), some (iv x4), some (iv x5), some (iv c3), some (iv c3), some (iv x8), some (iv (x9 + 1)), some (iv c3)], [], mj J14 sw lg x) K) ∧ (c15 = (bShl 1 (J14 542 24)) - 1 → VV X d 269 (62, [some (.ref 542), some (iv x1), some (iv x2), some (iv x3), some (iv x4), some (iv x5), some (iv c3), some (iv c3), some (iv (x8 + 1)), some (iv (x9 + 1)), some (iv c3)], [], mj J14 sw lg x) K)))))))))) : VV X d 269 (62, [some (.ref 542), some (iv x1), some (iv x2), some (iv x3), some (iv x4), some (iv x5), some (iv x6), some (iv x7), some (iv x8), some (iv x9), o10], [], mj J sw lg x) K := by
  refine v_s mt_269 rfl rfl rfl ?_
  refine v_s mt_269 rfl rfl rfl ?_
  obtain ⟨z1, h⟩ := h
  obtain ⟨z2, h⟩ := h
  refine j_if2 mt_269 rfl rfl z1 z2 (fun c => ?_) (fun c => ?_)
  · replace h := h.1 c
    refine v_s mt_269 rfl rfl rfl ?_
    obtain ⟨z3, h⟩ := h
    refine j_if1 mt_269 rfl rfl z3 (fun c => ?_) (fun c => ?_)
    · replace h := h.1 c
      refine v_s mt_269 rfl rfl rfl ?_
      refine v_ic (v := Int32.ofInt 1) mt_269 rfl rfl ?_
      refine j_if2 mt_269 rfl rfl z3 ⟨by decide, by decide⟩ (fun c => ?_) (fun c => ?_)
      · replace h := h.1 c
        refine v_s mt_269 rfl rfl rfl ?_
        exact v_ret mt_269 rfl rfl rfl h
      · replace h := h.2 (Decidable.not_not.mp c)
        refine v_s mt_269 rfl rfl rfl ?_
        refine v_go mt_269 rfl rfl ?_
        exact v_ret mt_269 rfl rfl rfl h
    · replace h := h.2 (Decidable.not_not.mp c)
      refine v_s mt_269 rfl rfl rfl ?_
      refine v_go mt_269 rfl rfl ?_
      exact v_ret mt_269 rfl rfl rfl h
  · replace h := h.2 (Int.not_le.mp c)
    refine v_s mt_269 rfl rfl rfl ?_
    refine v_s mt_269 rfl rfl rfl ?_
    refine v_s mt_269 rfl rfl rfl ?_
    refine j_add (e := x1 + x9) mt_269 rfl rfl ?_
    refine v_s mt_269 rfl rfl rfl ?_
    refine v_s mt_269 rfl rfl rfl ?_
    obtain ⟨J1, z4, h⟩ := h
    refine v_call (d1 := 6) mt_269 rfl rfl mt_266 rfl rfl (m_callj (As := [iv (x1 + x9), iv x3, iv x4]) (rest := []) rfl rfl c_542 rfl (Nat.le_of_ble_eq_true rfl) (Nat.le_of_ble_eq_true rfl)) z4 (by clear h; omega) ?_
    refine v_s mt_269 rfl rfl rfl ?_
    refine v_bp (v := Int32.ofInt 30) mt_269 rfl rfl ?_
    obtain ⟨c3, J2, z5, h⟩ := h
    refine v_call (d1 := 0) mt_269 rfl rfl mt_220 rfl rfl (m_callj (As := [iv 30]) (rest := []) rfl rfl c_542 rfl (Nat.le_of_ble_eq_true rfl) (Nat.le_of_ble_eq_true rfl)) z5 (by clear h; omega) ?_
    refine v_is (L' := [some (.ref 542), some (iv x1), some (iv x2), some (iv x3), some (iv x4), some (iv x5), some (iv x6), some (iv x7), some (iv x8), some (iv x9), some (iv c3)]) mt_269 rfl (Nat.le_of_ble_eq_true rfl) rfl ?_
    refine v_s mt_269 rfl rfl rfl ?_
    refine v_ic (v := Int32.ofInt (-1)) mt_269 rfl rfl ?_
    obtain ⟨z6, h⟩ := h
    refine j_if2 mt_269 rfl rfl z6 ⟨by decide, by decide⟩ (fun c => ?_) (fun c => ?_)
    · replace h := h.1 c
      refine v_s mt_269 rfl rfl rfl ?_
      refine v_go mt_269 rfl rfl ?_
      refine v_is (L' := [some (.ref 542), some (iv x1), some (iv x2), some (iv x3), some (iv x4), some (iv x5), some (iv c3), some (iv x7), some (iv x8), some (iv x9), some (iv c3)]) mt_269 rfl (Nat.le_of_ble_eq_true rfl) rfl ?_
      refine v_s mt_269 rfl rfl rfl ?_
      refine v_s mt_269 rfl rfl rfl ?_
      obtain ⟨z7, h⟩ := h
      obtain ⟨z8, h⟩ := h
      refine j_if2 mt_269 rfl rfl z7 z8 (fun c => ?_) (fun c => ?_)
      · replace h := h.1 c
        refine v_s mt_269 rfl rfl rfl ?_
        refine v_is (L' := [some (.ref 542), some (iv x1), some (iv x2), some (iv x3), some (iv x4), some (iv x5), some (iv c3), some (iv x7), some (iv x8), some (iv x9), some (iv c3)]) mt_269 rfl (Nat.le_of_ble_eq_true rfl) rfl ?_
        refine v_s mt_269 rfl rfl rfl ?_
        refine v_s mt_269 rfl rfl rfl ?_
        obtain ⟨c5, J4, z9, h⟩ := h
        refine v_call (d1 := 1) mt_269 rfl rfl mt_221 rfl rfl (m_callj (As := []) (rest := [iv x8]) rfl rfl c_542 rfl (Nat.le_of_ble_eq_true rfl) (Nat.le_of_ble_eq_true rfl)) z9 (by clear h; omega) ?_
        refine v_ic (v := Int32.ofInt 1) mt_269 rfl rfl ?_
        refine v_s mt_269 rfl rfl rfl ?_
        refine j_gi (w := J4 542 24) 24 mt_269 rfl rfl c_542 (by decide) rfl ?_
        refine j_shl (e := bShl 1 (J4 542 24)) mt_269 rfl rfl ?_
        refine v_ic (v := Int32.ofInt 1) mt_269 rfl rfl ?_
        refine j_sub (e := (bShl 1 (J4 542 24)) - 1) mt_269 rfl rfl ?_
        obtain ⟨z10, h⟩ := h
        obtain ⟨z11, h⟩ := h
        refine j_if2 mt_269 rfl rfl z10 z11 (fun c => ?_) (fun c => ?_)
        · replace h := h.1 c
          refine v_ic (v := Int32.ofInt 0) mt_269 rfl rfl ?_
          refine j_add (e := x8) mt_269 rfl (Int.add_zero _) ?_
          refine v_is (L' := [some (.ref 542), some (iv x1), some (iv x2), some (iv x3), some (iv x4), some (iv x5), some (iv c3), some (iv x7), some (iv x8), some (iv x9), some (iv c3)]) mt_269 rfl (Nat.le_of_ble_eq_true rfl) rfl ?_
          refine j_inc (e := x9 + 1) (L' := [some (.ref 542), some (iv x1), some (iv x2), some (iv x3), some (iv x4), some (iv x5), some (iv c3), some (iv x7), some (iv x8), some (iv (x9 + 1)), some (iv c3)]) mt_269 rfl rfl (Nat.le_of_ble_eq_true rfl) rfl rfl ?_
          refine v_go mt_269 rfl rfl ?_
          exact h
        · replace h := h.2 (Decidable.not_not.mp c)
          refine v_ic (v := Int32.ofInt 1) mt_269 rfl rfl ?_
          refine v_go mt_269 rfl rfl ?_
          refine j_add (e := x8 + 1) mt_269 rfl rfl ?_
          refine v_is (L' := [some (.ref 542), some (iv x1), some (iv x2), some (iv x3), some (iv x4), some (iv x5), some (iv c3), some (iv x7), some (iv (x8 + 1)), some (iv x9), some (iv c3)]) mt_269 rfl (Nat.le_of_ble_eq_true rfl) rfl ?_
          refine j_inc (e := x9 + 1) (L' := [some (.ref 542), some (iv x1), some (iv x2), some (iv x3), some (iv x4), some (iv x5), some (iv c3), some (iv x7), some (iv (x8 + 1)), some (iv (x9 + 1)), some (iv c3)]) mt_269 rfl rfl (Nat.le_of_ble_eq_true rfl) rfl rfl ?_
          refine v_go mt_269 rfl rfl ?_
          exact h
      · replace h := h.2 (Int.not_le.mp c)
        refine v_s mt_269 rfl rfl rfl ?_
        refine v_go mt_269 rfl rfl ?_
        refine v_is (L' := [some (.ref 542), some (iv x1), some (iv x2), some (iv x3), some (iv x4), some (iv x5), some (iv c3), some (iv c3), some (iv x8), some (iv x9), some (iv c3)]) mt_269 rfl (Nat.le_of_ble_eq_true rfl) rfl ?_
        refine v_s mt_269 rfl rfl rfl ?_
        refine v_s mt_269 rfl rfl rfl ?_
        obtain ⟨c7, J6, z12, h⟩ := h
        refine v_call (d1 := 1) mt_269 rfl rfl mt_221 rfl rfl (m_callj (As := []) (rest := [iv x8]) rfl rfl c_542 rfl (Nat.le_of_ble_eq_true rfl) (Nat.le_of_ble_eq_true rfl)) z12 (by clear h; omega) ?_
        refine v_ic (v := Int32.ofInt 1) mt_269 rfl rfl ?_
        refine v_s mt_269 rfl rfl rfl ?_
        refine j_gi (w := J6 542 24) 24 mt_269 rfl rfl c_542 (by decide) rfl ?_
        refine j_shl (e := bShl 1 (J6 542 24)) mt_269 rfl rfl ?_
        refine v_ic (v := Int32.ofInt 1) mt_269 rfl rfl ?_
        refine j_sub (e := (bShl 1 (J6 542 24)) - 1) mt_269 rfl rfl ?_
        obtain ⟨z13, h⟩ := h
        obtain ⟨z14, h⟩ := h
        refine j_if2 mt_269 rfl rfl z13 z14 (fun c => ?_) (fun c => ?_)
        · replace h := h.1 c
          refine v_ic (v := Int32.ofInt 0) mt_269 rfl rfl ?_
          refine j_add (e := x8) mt_269 rfl (Int.add_zero _) ?_
          refine v_is (L' := [some (.ref 542), some (iv x1), some (iv x2), some (iv x3), some (iv x4), some (iv x5), some (iv c3), some (iv c3), some (iv x8), some (iv x9), some (iv c3)]) mt_269 rfl (Nat.le_of_ble_eq_true rfl) rfl ?_
          refine j_inc (e := x9 + 1) (L' := [some (.ref 542), some (iv x1), some (iv x2), some (iv x3), some (iv x4), some (iv x5), some (iv c3), some (iv c3), some (iv x8), some (iv (x9 + 1)), some (iv c3)]) mt_269 rfl rfl (Nat.le_of_ble_eq_true rfl) rfl rfl ?_
          refine v_go mt_269 rfl rfl ?_
          exact h
        · replace h := h.2 (Decidable.not_not.mp c)
          refine v_ic (v := Int32.ofInt 1) mt_269 rfl rfl ?_
          refine v_go mt_269 rfl rfl ?_
          refine j_add (e := x8 + 1) mt_269 rfl rfl ?_
          refine v_is (L' := [some (.ref 542), some (iv x1), some (iv x2), some (iv x3), some (iv x4), some (iv x5), some (iv c3), some (iv c3), some (iv (x8 + 1)), some (iv x9), some (iv c3)]) mt_269 rfl (Nat.le_of_ble_eq_true rfl) rfl ?_
          refine j_inc (e := x9 + 1) (L' := [some (.ref 542), some (iv x1), some (iv x2), some (iv x3), some (iv x4), some (iv x5), some (iv c3), some (iv c3), some (iv (x8 + 1)), some (iv (x9 + 1)), some (iv c3)]) mt_269 rfl rfl (Nat.le_of_ble_eq_true rfl) rfl rfl ?_
          refine v_go mt_269 rfl rfl ?_
          exact h
    · replace h := h.2 c
      refine v_s mt_269 rfl rfl rfl ?_
      refine v_s mt_269 rfl rfl rfl ?_
      obtain ⟨z15, h⟩ := h
      refine j_if2 mt_269 rfl rfl z15 z6 (fun c => ?_) (fun c => ?_)
      · replace h := h.1 c
        refine v_s mt_269 rfl rfl rfl ?_
        refine v_is (L' := [some (.ref 542), some (iv x1), some (iv x2), some (iv x3), some (iv x4), some (iv x5), some (iv x6), some (iv x7), some (iv x8), some (iv x9), some (iv c3)]) mt_269 rfl (Nat.le_of_ble_eq_true rfl) rfl ?_
        refine v_s mt_269 rfl rfl rfl ?_
        refine v_s mt_269 rfl rfl rfl ?_
        obtain ⟨z16, h⟩ := h
        refine j_if2 mt_269 rfl rfl z15 z16 (fun c => ?_) (fun c => ?_)
        · replace h := h.1 c
          refine v_s mt_269 rfl rfl rfl ?_
          refine v_is (L' := [some (.ref 542), some (iv x1), some (iv x2), some (iv x3), some (iv x4), some (iv x5), some (iv x6), some (iv x7), some (iv x8), some (iv x9), some (iv c3)]) mt_269 rfl (Nat.le_of_ble_eq_true rfl) rfl ?_
          refine v_s mt_269 rfl rfl rfl ?_
          refine v_s mt_269 rfl rfl rfl ?_
          obtain ⟨c9, J8, z17, h⟩ := h
          refine v_call (d1 := 1) mt_269 rfl rfl mt_221 rfl rfl (m_callj (As := []) (rest := [iv x8]) rfl rfl c_542 rfl (Nat.le_of_ble_eq_true rfl) (Nat.le_of_ble_eq_true rfl)) z17 (by clear h; omega) ?_
          refine v_ic (v := Int32.ofInt 1) mt_269 rfl rfl ?_
          refine v_s mt_269 rfl rfl rfl ?_
          refine j_gi (w := J8 542 24) 24 mt_269 rfl rfl c_542 (by decide) rfl ?_
          refine j_shl (e := bShl 1 (J8 542 24)) mt_269 rfl rfl ?_
          refine v_ic (v := Int32.ofInt 1) mt_269 rfl rfl ?_
          refine j_sub (e := (bShl 1 (J8 542 24)) - 1) mt_269 rfl rfl ?_
          obtain ⟨z18, h⟩ := h
          obtain ⟨z19, h⟩ := h
          refine j_if2 mt_269 rfl rfl z18 z19 (fun c => ?_) (fun c => ?_)
          · replace h := h.1 c
            refine v_ic (v := Int32.ofInt 0) mt_269 rfl rfl ?_
            refine j_add (e := x8) mt_269 rfl (Int.add_zero _) ?_
            refine v_is (L' := [some (.ref 542), some (iv x1), some (iv x2), some (iv x3), some (iv x4), some (iv x5), some (iv x6), some (iv x7), some (iv x8), some (iv x9), some (iv c3)]) mt_269 rfl (Nat.le_of_ble_eq_true rfl) rfl ?_
            refine j_inc (e := x9 + 1) (L' := [some (.ref 542), some (iv x1), some (iv x2), some (iv x3), some (iv x4), some (iv x5), some (iv x6), some (iv x7), some (iv x8), some (iv (x9 + 1)), some (iv c3)]) mt_269 rfl rfl (Nat.le_of_ble_eq_true rfl) rfl rfl ?_
            refine v_go mt_269 rfl rfl ?_
            exact h
          · replace h := h.2 (Decidable.not_not.mp c)
            refine v_ic (v := Int32.ofInt 1) mt_269 rfl rfl ?_
            refine v_go mt_269 rfl rfl ?_
            refine j_add (e := x8 + 1) mt_269 rfl rfl ?_
            refine v_is (L' := [some (.ref 542), some (iv x1), some (iv x2), some (iv x3), some (iv x4), some (iv x5), some (iv x6), some (iv x7), some (iv (x8 + 1)), some (iv x9), some (iv c3)]) mt_269 rfl (Nat.le_of_ble_eq_true rfl) rfl ?_
            refine j_inc (e := x9 + 1) (L' := [some (.ref 542), some (iv x1), some (iv x2), some (iv x3), some (iv x4), some (iv x5), some (iv x6), some (iv x7), some (iv (x8 + 1)), some (iv (x9 + 1)), some (iv c3)]) mt_269 rfl rfl (Nat.le_of_ble_eq_true rfl) rfl rfl ?_
            refine v_go mt_269 rfl rfl ?_
            exact h
        · replace h := h.2 (Int.not_le.mp c)
          refine v_s mt_269 rfl rfl rfl ?_
          refine v_go mt_269 rfl rfl ?_
          refine v_is (L' := [some (.ref 542), some (iv x1), some (iv x2), some (iv x3), some (iv x4), some (iv x5), some (iv x6), some (iv c3), some (iv x8), some (iv x9), some (iv c3)]) mt_269 rfl (Nat.le_of_ble_eq_true rfl) rfl ?_
          refine v_s mt_269 rfl rfl rfl ?_
          refine v_s mt_269 rfl rfl rfl ?_
          obtain ⟨c11, J10, z20, h⟩ := h
          refine v_call (d1 := 1) mt_269 rfl rfl mt_221 rfl rfl (m_callj (As := []) (rest := [iv x8]) rfl rfl c_542 rfl (Nat.le_of_ble_eq_true rfl) (Nat.le_of_ble_eq_true rfl)) z20 (by clear h; omega) ?_
          refine v_ic (v := Int32.ofInt 1) mt_269 rfl rfl ?_
          refine v_s mt_269 rfl rfl rfl ?_
          refine j_gi (w := J10 542 24) 24 mt_269 rfl rfl c_542 (by decide) rfl ?_
          refine j_shl (e := bShl 1 (J10 542 24)) mt_269 rfl rfl ?_
          refine v_ic (v := Int32.ofInt 1) mt_269 rfl rfl ?_
          refine j_sub (e := (bShl 1 (J10 542 24)) - 1) mt_269 rfl rfl ?_
          obtain ⟨z21, h⟩ := h
          obtain ⟨z22, h⟩ := h
          refine j_if2 mt_269 rfl rfl z21 z22 (fun c => ?_) (fun c => ?_)
          · replace h := h.1 c
            refine v_ic (v := Int32.ofInt 0) mt_269 rfl rfl ?_
            refine j_add (e := x8) mt_269 rfl (Int.add_zero _) ?_
            refine v_is (L' := [some (.ref 542), some (iv x1), some (iv x2), some (iv x3), some (iv x4), some (iv x5), some (iv x6), some (iv c3), some (iv x8), some (iv x9), some (iv c3)]) mt_269 rfl (Nat.le_of_ble_eq_true rfl) rfl ?_
            refine j_inc (e := x9 + 1) (L' := [some (.ref 542), some (iv x1), some (iv x2), some (iv x3), some (iv x4), some (iv x5), some (iv x6), some (iv c3), some (iv x8), some (iv (x9 + 1)), some (iv c3)]) mt_269 rfl rfl (Nat.le_of_ble_eq_true rfl) rfl rfl ?_
            refine v_go mt_269 rfl rfl ?_
            exact h
          · replace h := h.2 (Decidable.not_not.mp c)
            refine v_ic (v := Int32.ofInt 1) mt_269 rfl rfl ?_
            refine v_go mt_269 rfl rfl ?_
            refine j_add (e := x8 + 1) mt_269 rfl rfl ?_
            refine v_is (L' := [some (.ref 542), some (iv x1), some (iv x2), some (iv x3), some (iv x4), some (iv x5), some (iv x6), some (iv c3), some (iv (x8 + 1)), some (iv x9), some (iv c3)]) mt_269 rfl (Nat.le_of_ble_eq_true rfl) rfl ?_
            refine j_inc (e := x9 + 1) (L' := [some (.ref 542), some (iv x1), some (iv x2), some (iv x3), some (iv x4), some (iv x5), some (iv x6), some (iv c3), some (iv (x8 + 1)), some (iv (x9 + 1)), some (iv c3)]) mt_269 rfl rfl (Nat.le_of_ble_eq_true rfl) rfl rfl ?_
            refine v_go mt_269 rfl rfl ?_
            exact h
      · replace h := h.2 (Int.not_le.mp c)
        refine v_s mt_269 rfl rfl rfl ?_
        refine v_go mt_269 rfl rfl ?_
        refine v_is (L' := [some (.ref 542), some (iv x1), some (iv x2), some (iv x3), some (iv x4), some (iv x5), some (iv c3), some (iv x7), some (iv x8), some (iv x9), some (iv c3)]) mt_269 rfl (Nat.le_of_ble_eq_true rfl) rfl ?_
        refine v_s mt_269 rfl rfl rfl ?_
        refine v_s mt_269 rfl rfl rfl ?_
        obtain ⟨z23, h⟩ := h
        refine j_if2 mt_269 rfl rfl z15 z23 (fun c => ?_) (fun c => ?_)
        · replace h := h.1 c
          refine v_s mt_269 rfl rfl rfl ?_
          refine v_is (L' := [some (.ref 542), some (iv x1), some (iv x2), some (iv x3), some (iv x4), some (iv x5), some (iv c3), some (iv x7), some (iv x8), some (iv x9), some (iv c3)]) mt_269 rfl (Nat.le_of_ble_eq_true rfl) rfl ?_
          refine v_s mt_269 rfl rfl rfl ?_
          refine v_s mt_269 rfl rfl rfl ?_
          obtain ⟨c13, J12, z24, h⟩ := h
          refine v_call (d1 := 1) mt_269 rfl rfl mt_221 rfl rfl (m_callj (As := []) (rest := [iv x8]) rfl rfl c_542 rfl (Nat.le_of_ble_eq_true rfl) (Nat.le_of_ble_eq_true rfl)) z24 (by clear h; omega) ?_
          refine v_ic (v := Int32.ofInt 1) mt_269 rfl rfl ?_
          refine v_s mt_269 rfl rfl rfl ?_
          refine j_gi (w := J12 542 24) 24 mt_269 rfl rfl c_542 (by decide) rfl ?_
          refine j_shl (e := bShl 1 (J12 542 24)) mt_269 rfl rfl ?_
          refine v_ic (v := Int32.ofInt 1) mt_269 rfl rfl ?_
          refine j_sub (e := (bShl 1 (J12 542 24)) - 1) mt_269 rfl rfl ?_
          obtain ⟨z25, h⟩ := h
          obtain ⟨z26, h⟩ := h
          refine j_if2 mt_269 rfl rfl z25 z26 (fun c => ?_) (fun c => ?_)
          · replace h := h.1 c
            refine v_ic (v := Int32.ofInt 0) mt_269 rfl rfl ?_
            refine j_add (e := x8) mt_269 rfl (Int.add_zero _) ?_
            refine v_is (L' := [some (.ref 542), some (iv x1), some (iv x2), some (iv x3), some (iv x4), some (iv x5), some (iv c3), some (iv x7), some (iv x8), some (iv x9), some (iv c3)]) mt_269 rfl (Nat.le_of_ble_eq_true rfl) rfl ?_
            refine j_inc (e := x9 + 1) (L' := [some (.ref 542), some (iv x1), some (iv x2), some (iv x3), some (iv x4), some (iv x5), some (iv c3), some (iv x7), some (iv x8), some (iv (x9 + 1)), some (iv c3)]) mt_269 rfl rfl (Nat.le_of_ble_eq_true rfl) rfl rfl ?_
            refine v_go mt_269 rfl rfl ?_
            exact h
          · replace h := h.2 (Decidable.not_not.mp c)
            refine v_ic (v := Int32.ofInt 1) mt_269 rfl rfl ?_
            refine v_go mt_269 rfl rfl ?_
            refine j_add (e := x8 + 1) mt_269 rfl rfl ?_
            refine v_is (L' := [some (.ref 542), some (iv x1), some (iv x2), some (iv x3), some (iv x4), some (iv x5), some (iv c3), some (iv x7), some (iv (x8 + 1)), some (iv x9), some (iv c3)]) mt_269 rfl (Nat.le_of_ble_eq_true rfl) rfl ?_
            refine j_inc (e := x9 + 1) (L' := [some (.ref 542), some (iv x1), some (iv x2), some (iv x3), some (iv x4), some (iv x5), some (iv c3), some (iv x7), some (iv (x8 + 1)), some (iv (x9 + 1)), some (iv c3)]) mt_269 rfl rfl (Nat.le_of_ble_eq_true rfl) rfl rfl ?_
            refine v_go mt_269 rfl rfl ?_
            exact h
        · replace h := h.2 (Int.not_le.mp c)
          refine v_s mt_269 rfl rfl rfl ?_
          refine v_go mt_269 rfl rfl ?_
          refine v_is (L' := [some (.ref 542), some (iv x1), some (iv x2), some (iv x3), some (iv x4), some (iv x5), some (iv c3), some (iv c3), some (iv x8), some (iv x9), some (iv c3)]) mt_269 rfl (Nat.le_of_ble_eq_true rfl) rfl ?_
          refine v_s mt_269 rfl rfl rfl ?_
          refine v_s mt_269 rfl rfl rfl ?_
          obtain ⟨c15, J14, z27, h⟩ := h
          refine v_call (d1 := 1) mt_269 rfl rfl mt_221 rfl rfl (m_callj (As := []) (rest := [iv x8]) rfl rfl c_542 rfl (Nat.le_of_ble_eq_true rfl) (Nat.le_of_ble_eq_true rfl)) z27 (by clear h; omega) ?_
          refine v_ic (v := Int32.ofInt 1) mt_269 rfl rfl ?_
          refine v_s mt_269 rfl rfl rfl ?_
          refine j_gi (w := J14 542 24) 24 mt_269 rfl rfl c_542 (by decide) rfl ?_
          refine j_shl (e := bShl 1 (J14 542 24)) mt_269 rfl rfl ?_
          refine v_ic (v := Int32.ofInt 1) mt_269 rfl rfl ?_
          refine j_sub (e := (bShl 1 (J14 542 24)) - 1) mt_269 rfl rfl ?_
          obtain ⟨z28, h⟩ := h
          obtain ⟨z29, h⟩ := h
          refine j_if2 mt_269 rfl rfl z28 z29 (fun c => ?_) (fun c => ?_)
          · replace h := h.1 c
            refine v_ic (v := Int32.ofInt 0) mt_269 rfl rfl ?_
            refine j_add (e := x8) mt_269 rfl (Int.add_zero _) ?_
            refine v_is (L' := [some (.ref 542), some (iv x1), some (iv x2), some (iv x3), some (iv x4), some (iv x5), some (iv c3), some (iv c3), some (iv x8), some (iv x9), some (iv c3)]) mt_269 rfl (Nat.le_of_ble_eq_true rfl) rfl ?_
            refine j_inc (e := x9 + 1) (L' := [some (.ref 542), some (iv x1), some (iv x2), some (iv x3), some (iv x4), some (iv x5), some (iv c3), some (iv c3), some (iv x8), some (iv (x9 + 1)), some (iv c3)]) mt_269 rfl rfl (Nat.le_of_ble_eq_true rfl) rfl rfl ?_
            refine v_go mt_269 rfl rfl ?_
            exact h
          · replace h := h.2 (Decidable.not_not.mp c)
            refine v_ic (v := Int32.ofInt 1) mt_269 rfl rfl ?_
            refine v_go mt_269 rfl rfl ?_
            refine j_add (e := x8 + 1) mt_269 rfl rfl ?_
            refine v_is (L' := [some (.ref 542), some (iv x1), some (iv x2), some (iv x3), some (iv x4), some (iv x5), some (iv c3), some (iv c3), some (iv (x8 + 1)), some (iv x9), some (iv c3)]) mt_269 rfl (Nat.le_of_ble_eq_true rfl) rfl ?_
            refine j_inc (e := x9 + 1) (L' := [some (.ref 542), some (iv x1), some (iv x2), some (iv x3), some (iv x4), some (iv x5), some (iv c3), some (iv c3), some (iv (x8 + 1)), some (iv (x9 + 1)), some (iv c3)]) mt_269 rfl rfl (Nat.le_of_ble_eq_true rfl) rfl rfl ?_
            refine v_go mt_269 rfl rfl ?_
            exact h
