set_option maxHeartbeats 600000 in
theorem b_111_0 {X : Nat × (Nat → Int32)} {d : Nat} {J : Nat → Nat → Int} {sw : Bool × Bool × Bool} {lg : Nat → Nat → Int64} {x : Nat} {K : (Option Value ⊕ Nat) → mM → Prop} {x1 : Int} {o2 : Option Value} (hd : 5 ≤ d)
    (h : InR (J 1 1) ∧ InR x1 ∧ (x1 < 0 → K (.inr 2) (mj (m_up J 0 18 ((J 0 18) + 1)) sw lg (x + 1))) ∧ (0 ≤ x1 → (InR (min (J 1 1) 600) ∧ (x1 ≤ min (J 1 1) 600 → (∃ (c2 : Int) (J1 : Nat → Nat → Int), EE X 4 94 [.ref (vB sw), .ref 1] (mj (m_up (m_up (m_up (m_up (m_up (m_up (m_up J 1 2 (min x1 (J 1 1))) 1 1 0) 1 3 0) 1 4 0) 1 6 0) 1 7 (-1)) 0 1 (-1)) sw lg x) (.inl (some (iv c2))) (mj J1 sw lg x) ∧ InR c2 ∧ (¬ c2 = 0 → VV X d 111 (27, [some (.ref 0), some (iv x1), o2], [], mj J1 sw lg x) K) ∧ (c2 = 0 → K (.inl (some (iv ((J1 1 6) - 10)))) (mj (m_up J1 0 1 (J1 1 7)) sw lg x)))) ∧ (min (J 1 1) 600 < x1 → K (.inr 2) (mj (m_up J 0 18 ((J 0 18) + 1)) sw lg (x + 1)))))) : VV X d 111 (0, [some (.ref 0), some (iv x1), o2], [], mj J sw lg x) K := by
  refine v_s mt_111 rfl rfl rfl ?_
  refine v_s mt_111 rfl rfl rfl ?_
  refine v_sp (v := Int32.ofInt 600) mt_111 rfl rfl ?_
  refine v_inx (L1 := [some (.ref 0), some (iv x1), some (iv 600)]) mt_111 rfl rfl mt_147 rfl rfl (m_callj (As := [iv x1, iv 600]) (rest := []) rfl rfl c_0 rfl (Nat.le_of_ble_eq_true rfl) (Nat.le_of_ble_eq_true rfl)) rfl (by clear h; omega) rfl rfl ?_
  refine v_s mt_147 rfl rfl rfl ?_
  refine v_s mt_147 rfl rfl rfl ?_
  refine v_ic (v := Int32.ofInt 0) mt_147 rfl rfl ?_
  refine v_s mt_147 rfl rfl rfl ?_
  refine v_gr (w := 1) 0 mt_147 rfl rfl c_0 (by decide) g_11_0 ?_
  refine j_gi (w := J 1 1) 1 mt_147 rfl rfl c_1 (by decide) rfl ?_
  refine v_s mt_147 rfl rfl rfl ?_
  obtain ⟨z1, h⟩ := h
  refine j_min mt_147 rfl (Nat.le_of_ble_eq_true rfl) z1 ⟨by decide, by decide⟩ ?_
  refine v_inx (L1 := [some (.ref 0), some (iv x1), some (iv 0), some (iv (min (J 1 1) 600))]) mt_147 rfl rfl mt_154 rfl rfl (m_callj (As := [iv x1, iv 0, iv (min (J 1 1) 600)]) (rest := []) rfl rfl c_0 rfl (Nat.le_of_ble_eq_true rfl) (Nat.le_of_ble_eq_true rfl)) rfl (by clear h; omega) rfl rfl ?_
  refine v_s mt_154 rfl rfl rfl ?_
  refine v_s mt_154 rfl rfl rfl ?_
  obtain ⟨z2, h⟩ := h
  refine j_if2 mt_154 rfl rfl z2 ⟨by decide, by decide⟩ (fun c => ?_) (fun c => ?_)
  · replace h := h.1 c
    refine v_s mt_154 rfl rfl rfl ?_
    refine v_inx (L1 := [some (.ref 0)]) mt_154 rfl rfl mt_150 rfl rfl (m_callj (As := []) (rest := []) rfl rfl c_0 rfl (Nat.le_of_ble_eq_true rfl) (Nat.le_of_ble_eq_true rfl)) rfl (by clear h; omega) rfl rfl ?_
    refine v_s mt_150 rfl rfl rfl ?_
    refine v_s mt_150 rfl rfl rfl ?_
    refine j_gi (w := J 0 18) 18 mt_150 rfl rfl c_0 (by decide) rfl ?_
    refine v_ic (v := Int32.ofInt 1) mt_150 rfl rfl ?_
    refine j_add (e := (J 0 18) + 1) mt_150 rfl rfl ?_
    refine j_pi 18 mt_150 rfl rfl c_0 (by decide) ?_
    exact v_thr mt_150 rfl rfl (Nat.le_of_ble_eq_true rfl) h
  · replace h := h.2 (Int.not_lt.mp c)
    refine v_s mt_154 rfl rfl rfl ?_
    refine v_s mt_154 rfl rfl rfl ?_
    obtain ⟨z3, h⟩ := h
    refine j_if2 mt_154 rfl rfl z2 z3 (fun c => ?_) (fun c => ?_)
    · replace h := h.1 c
      refine v_ret mt_154 rfl rfl rfl ?_
      refine v_s mt_147 rfl rfl rfl ?_
      refine v_gr (w := 1) 0 mt_147 rfl rfl c_0 (by decide) g_11_0 ?_
      refine v_s mt_147 rfl rfl rfl ?_
      refine v_inl (L1 := [some (.ref 1), some (iv x1)]) mt_147 rfl rfl mt_83 rfl rfl (m_callj (As := [iv x1]) (rest := []) rfl rfl c_1 rfl (Nat.le_of_ble_eq_true rfl) (Nat.le_of_ble_eq_true rfl)) rfl (by clear h; omega) ?_
      refine v_s mt_83 rfl rfl rfl ?_
      refine v_s mt_83 rfl rfl rfl ?_
      refine v_s mt_83 rfl rfl rfl ?_
      refine j_gi (w := J 1 1) 1 mt_83 rfl rfl c_1 (by decide) rfl ?_
      refine j_min mt_83 rfl (Nat.le_of_ble_eq_true rfl) z2 z1 ?_
      refine j_pi 2 mt_83 rfl rfl c_1 (by decide) ?_
      refine v_s mt_83 rfl rfl rfl ?_
      refine v_ic (v := Int32.ofInt 0) mt_83 rfl rfl ?_
      refine j_pi 1 mt_83 rfl rfl c_1 (by decide) ?_
      refine v_s mt_83 rfl rfl rfl ?_
      refine v_ic (v := Int32.ofInt 0) mt_83 rfl rfl ?_
      refine j_pi 3 mt_83 rfl rfl c_1 (by decide) ?_
      refine v_s mt_83 rfl rfl rfl ?_
      refine v_ic (v := Int32.ofInt 0) mt_83 rfl rfl ?_
      refine j_pi 4 mt_83 rfl rfl c_1 (by decide) ?_
      refine v_s mt_83 rfl rfl rfl ?_
      refine v_ic (v := Int32.ofInt 0) mt_83 rfl rfl ?_
      refine j_pi 6 mt_83 rfl rfl c_1 (by decide) ?_
      refine v_s mt_83 rfl rfl rfl ?_
      refine v_ic (v := Int32.ofInt (-1)) mt_83 rfl rfl ?_
      refine j_pi 7 mt_83 rfl rfl c_1 (by decide) ?_
      refine v_ret mt_83 rfl rfl rfl ?_
      refine v_s mt_147 rfl rfl rfl ?_
      refine v_ic (v := Int32.ofInt (-1)) mt_147 rfl rfl ?_
      refine j_pi 1 mt_147 rfl rfl c_0 (by decide) ?_
      refine v_ret mt_147 rfl rfl rfl ?_
      refine v_s mt_111 rfl rfl rfl ?_
      refine v_gr (w := (vB sw)) 3 mt_111 rfl rfl c_0 (by decide) g_11_3 ?_
      refine v_s mt_111 rfl rfl rfl ?_
      refine v_gr (w := 1) 0 mt_111 rfl rfl c_0 (by decide) g_11_0 ?_
      obtain ⟨c2, J1, z4, h⟩ := h
      refine v_call (d1 := 4) mt_111 rfl rfl mt_94 rfl rfl (m_callj (As := [.ref 1]) (rest := []) rfl rfl (cvB sw) rfl (Nat.le_of_ble_eq_true rfl) (Nat.le_of_ble_eq_true rfl)) z4 (by clear h; omega) ?_
      obtain ⟨z5, h⟩ := h
      refine j_if1 mt_111 rfl rfl z5 (fun c => ?_) (fun c => ?_)
      · replace h := h.1 c
        exact h
      · replace h := h.2 (Decidable.not_not.mp c)
        refine v_s mt_111 rfl rfl rfl ?_
        refine v_inl (L1 := [some (.ref 0)]) mt_111 rfl rfl mt_148 rfl rfl (m_callj (As := []) (rest := []) rfl rfl c_0 rfl (Nat.le_of_ble_eq_true rfl) (Nat.le_of_ble_eq_true rfl)) rfl (by clear h; omega) ?_
        refine v_s mt_148 rfl rfl rfl ?_
        refine v_s mt_148 rfl rfl rfl ?_
        refine v_gr (w := 1) 0 mt_148 rfl rfl c_0 (by decide) g_11_0 ?_
        refine j_gi (w := J1 1 7) 7 mt_148 rfl rfl c_1 (by decide) rfl ?_
        refine j_pi 1 mt_148 rfl rfl c_0 (by decide) ?_
        refine v_s mt_148 rfl rfl rfl ?_
        refine v_gr (w := 1) 0 mt_148 rfl rfl c_0 (by decide) g_11_0 ?_
        refine j_gi (w := J1 1 6) 6 mt_148 rfl rfl c_1 (by decide) ((up_na (by decide)).trans rfl) ?_
        refine v_bp (v := Int32.ofInt 10) mt_148 rfl rfl ?_
        refine j_sub (e := (J1 1 6) - 10) mt_148 rfl rfl ?_
        refine v_ret mt_148 rfl rfl rfl ?_
        exact v_ret mt_111 rfl rfl rfl h
    · replace h := h.2 (Int.not_le.mp c)
      refine v_s mt_154 rfl rfl rfl ?_
      refine v_inx (L1 := [some (.ref 0)]) mt_154 rfl rfl mt_150 rfl rfl (m_callj (As := []) (rest := []) rfl rfl c_0 rfl (Nat.le_of_ble_eq_true rfl) (Nat.le_of_ble_eq_true rfl)) rfl (by clear h; omega) rfl rfl ?_
      refine v_s mt_150 rfl rfl rfl ?_
      refine v_s mt_150 rfl rfl rfl ?_
      refine j_gi (w := J 0 18) 18 mt_150 rfl rfl c_0 (by decide) rfl ?_
      refine v_ic (v := Int32.ofInt 1) mt_150 rfl rfl ?_
      refine j_add (e := (J 0 18) + 1) mt_150 rfl rfl ?_
      refine j_pi 18 mt_150 rfl rfl c_0 (by decide) ?_
      exact v_thr mt_150 rfl rfl (Nat.le_of_ble_eq_true rfl) h
set_option maxHeartbeats 600000 in
theorem b_111_45 {X : Nat × (Nat → Int32)} {d : Nat} {J : Nat → Nat → Int} {sw : Bool × Bool × Bool} {lg : Nat → Nat → Int64} {x : Nat} {K : (Option Value ⊕ Nat) → mM → Prop} {o1 o2 : Option Value} (hd : 5 ≤ d)
    (h : ∃ (J1 : Nat → Nat → Int), EE X 0 43 [.ref 41, .ref (vA sw)] (mj (m_up (m_up (m_up (m_up (m_up (m_up J (lA sw) 1 0) (bA sw) 0 0) (bA sw) 3 0) 56 1 0) 170 2 0) 0 16 0) sw lg x) (.inl none) (mj J1 sw lg x) ∧ K (.inl (some (iv (J1 (vA sw) 2)))) (mj J1 sw lg x)) : VV X d 111 (45, [some (.ref 0), o1, o2], [], mj J sw lg x) K := by
  refine v_s mt_111 rfl rfl rfl ?_
  refine v_gr (w := (lA sw)) 4 mt_111 rfl rfl c_0 (by decide) g_11_4 ?_
  refine v_inl (L1 := [some (.ref (lA sw))]) mt_111 rfl rfl mt_21 rfl rfl (m_callj (As := []) (rest := []) rfl rfl (clA sw) rfl (Nat.le_of_ble_eq_true rfl) (Nat.le_of_ble_eq_true rfl)) rfl (by clear h; omega) ?_
  refine v_s mt_21 rfl rfl rfl ?_
  refine v_ic (v := Int32.ofInt 0) mt_21 rfl rfl ?_
  refine j_pi 1 mt_21 rfl rfl (clA sw) (by decide) ?_
  refine v_ret mt_21 rfl rfl rfl ?_
  refine v_s mt_111 rfl rfl rfl ?_
  refine v_gr (w := (bA sw)) 6 mt_111 rfl rfl c_0 (by decide) g_11_6 ?_
  refine v_inl (L1 := [some (.ref (bA sw))]) mt_111 rfl rfl mt_1 rfl rfl (m_callj (As := []) (rest := []) rfl rfl (cbA sw) rfl (Nat.le_of_ble_eq_true rfl) (Nat.le_of_ble_eq_true rfl)) rfl (by clear h; omega) ?_
  refine v_s mt_1 rfl rfl rfl ?_
  refine v_ic (v := Int32.ofInt 0) mt_1 rfl rfl ?_
  refine j_pi 0 mt_1 rfl rfl (cbA sw) (by decide) ?_
  refine v_s mt_1 rfl rfl rfl ?_
  refine v_ic (v := Int32.ofInt 0) mt_1 rfl rfl ?_
  refine j_pi 3 mt_1 rfl rfl (cbA sw) (by decide) ?_
  refine v_ret mt_1 rfl rfl rfl ?_
  refine v_s mt_111 rfl rfl rfl ?_
  refine v_gr (w := 56) 12 mt_111 rfl rfl c_0 (by decide) g_11_12 ?_
  refine v_inl (L1 := [some (.ref 56)]) mt_111 rfl rfl mt_35 rfl rfl (m_callj (As := []) (rest := []) rfl rfl c_56 rfl (Nat.le_of_ble_eq_true rfl) (Nat.le_of_ble_eq_true rfl)) rfl (by clear h; omega) ?_
  refine v_s mt_35 rfl rfl rfl ?_
  refine v_ic (v := Int32.ofInt 0) mt_35 rfl rfl ?_
  refine j_pi 1 mt_35 rfl rfl c_56 (by decide) ?_
  refine v_ret mt_35 rfl rfl rfl ?_
  refine v_s mt_111 rfl rfl rfl ?_
  refine v_gr (w := 170) 13 mt_111 rfl rfl c_0 (by decide) g_11_13 ?_
  refine v_inl (L1 := [some (.ref 170)]) mt_111 rfl rfl mt_17 rfl rfl (m_callj (As := []) (rest := []) rfl rfl c_170 rfl (Nat.le_of_ble_eq_true rfl) (Nat.le_of_ble_eq_true rfl)) rfl (by clear h; omega) ?_
  refine v_s mt_17 rfl rfl rfl ?_
  refine v_ic (v := Int32.ofInt 0) mt_17 rfl rfl ?_
  refine j_pi 2 mt_17 rfl rfl c_170 (by decide) ?_
  refine v_ret mt_17 rfl rfl rfl ?_
  refine v_s mt_111 rfl rfl rfl ?_
  refine v_ic (v := Int32.ofInt 0) mt_111 rfl rfl ?_
  refine j_pi 16 mt_111 rfl rfl c_0 (by decide) ?_
  refine v_s mt_111 rfl rfl rfl ?_
  refine v_gr (w := 41) 9 mt_111 rfl rfl c_0 (by decide) g_11_9 ?_
  refine v_s mt_111 rfl rfl rfl ?_
  refine v_gr (w := (vA sw)) 2 mt_111 rfl rfl c_0 (by decide) g_11_2 ?_
  obtain ⟨J1, z1, h⟩ := h
  refine v_call (d1 := 0) mt_111 rfl rfl mt_43 rfl rfl (m_callj (As := [.ref (vA sw)]) (rest := []) rfl rfl c_41 rfl (Nat.le_of_ble_eq_true rfl) (Nat.le_of_ble_eq_true rfl)) z1 (by clear h; omega) ?_
  refine v_s mt_111 rfl rfl rfl ?_
  refine v_gr (w := (vA sw)) 2 mt_111 rfl rfl c_0 (by decide) g_11_2 ?_
  refine j_gi (w := J1 (vA sw) 2) 2 mt_111 rfl rfl (cvA sw) (by decide) rfl ?_
  exact v_ret mt_111 rfl rfl rfl h
set_option maxHeartbeats 600000 in
theorem b_112_0 {X : Nat × (Nat → Int32)} {d : Nat} {J : Nat → Nat → Int} {sw : Bool × Bool × Bool} {lg : Nat → Nat → Int64} {x : Nat} {K : (Option Value ⊕ Nat) → mM → Prop} {x1 : Int} {o2 : Option Value} (hd : 62 ≤ d)
    (h : InR (J 1 1) ∧ InR x1 ∧ (x1 < 0 → K (.inr 2) (mj (m_up J 0 18 ((J 0 18) + 1)) sw lg (x + 1))) ∧ (0 ≤ x1 → (InR (min (J 1 1) 150) ∧ (x1 ≤ min (J 1 1) 150 → (∃ (c2 : Int) (J1 : Nat → Nat → Int), EE X 60 23 [.ref (lB sw), .ref 1, iv 0] (mj (m_up (m_up (m_up (m_up (m_up (m_up (m_up (m_up J 1 2 (min x1 (J 1 1))) 1 1 0) 1 3 0) 1 4 0) 1 6 0) 1 7 (-1)) 0 1 (-1)) (lB sw) 1 0) sw lg x) (.inl (some (iv c2))) (mj J1 sw lg x) ∧ InR c2 ∧ (¬ c2 = 0 → (∃ (c4 : Int) (J3 : Nat → Nat → Int), EE X 0 85 [.ref 1] (mj J1 sw lg x) (.inl (some (iv c4))) (mj J3 sw lg x) ∧ InR c4 ∧ (¬ c4 = (-1) → K (.inl (some (iv (-9)))) (mj (m_up (m_up (m_up J3 1 6 1) 1 7 (J3 1 3)) 0 1 (J3 1 3)) sw lg x)) ∧ (c4 = (-1) → VV X d 112 (27, [some (.ref 0), some (iv x1), o2], [], mj J3 sw lg x) K))) ∧ (c2 = 0 → K (.inl (some (iv ((J1 1 6) - 10)))) (mj (m_up J1 0 1 (J1 1 7)) sw lg x)))) ∧ (min (J 1 1) 150 < x1 → K (.inr 2) (mj (m_up J 0 18 ((J 0 18) + 1)) sw lg (x + 1)))))) : VV X d 112 (0, [some (.ref 0), some (iv x1), o2], [], mj J sw lg x) K := by
  refine v_s mt_112 rfl rfl rfl ?_
  refine v_s mt_112 rfl rfl rfl ?_
  refine v_sp (v := Int32.ofInt 150) mt_112 rfl rfl ?_
  refine v_inx (L1 := [some (.ref 0), some (iv x1), some (iv 150)]) mt_112 rfl rfl mt_147 rfl rfl (m_callj (As := [iv x1, iv 150]) (rest := []) rfl rfl c_0 rfl (Nat.le_of_ble_eq_true rfl) (Nat.le_of_ble_eq_true rfl)) rfl (by clear h; omega) rfl rfl ?_
  refine v_s mt_147 rfl rfl rfl ?_
  refine v_s mt_147 rfl rfl rfl ?_
  refine v_ic (v := Int32.ofInt 0) mt_147 rfl rfl ?_
  refine v_s mt_147 rfl rfl rfl ?_
  refine v_gr (w := 1) 0 mt_147 rfl rfl c_0 (by decide) g_11_0 ?_
  refine j_gi (w := J 1 1) 1 mt_147 rfl rfl c_1 (by decide) rfl ?_
  refine v_s mt_147 rfl rfl rfl ?_
  obtain ⟨z1, h⟩ := h
  refine j_min mt_147 rfl (Nat.le_of_ble_eq_true rfl) z1 ⟨by decide, by decide⟩ ?_
  refine v_inx (L1 := [some (.ref 0), some (iv x1), some (iv 0), some (iv (min (J 1 1) 150))]) mt_147 rfl rfl mt_154 rfl rfl (m_callj (As := [iv x1, iv 0, iv (min (J 1 1) 150)]) (rest := []) rfl rfl c_0 rfl (Nat.le_of_ble_eq_true rfl) (Nat.le_of_ble_eq_true rfl)) rfl (by clear h; omega) rfl rfl ?_
  refine v_s mt_154 rfl rfl rfl ?_
  refine v_s mt_154 rfl rfl rfl ?_
  obtain ⟨z2, h⟩ := h
  refine j_if2 mt_154 rfl rfl z2 ⟨by decide, by decide⟩ (fun c => ?_) (fun c => ?_)
  · replace h := h.1 c
    refine v_s mt_154 rfl rfl rfl ?_
    refine v_inx (L1 := [some (.ref 0)]) mt_154 rfl rfl mt_150 rfl rfl (m_callj (As := []) (rest := []) rfl rfl c_0 rfl (Nat.le_of_ble_eq_true rfl) (Nat.le_of_ble_eq_true rfl)) rfl (by clear h; omega) rfl rfl ?_
    refine v_s mt_150 rfl rfl rfl ?_
    refine v_s mt_150 rfl rfl rfl ?_
    refine j_gi (w := J 0 18) 18 mt_150 rfl rfl c_0 (by decide) rfl ?_
    refine v_ic (v := Int32.ofInt 1) mt_150 rfl rfl ?_
    refine j_add (e := (J 0 18) + 1) mt_150 rfl rfl ?_
    refine j_pi 18 mt_150 rfl rfl c_0 (by decide) ?_
    exact v_thr mt_150 rfl rfl (Nat.le_of_ble_eq_true rfl) h
  · replace h := h.2 (Int.not_lt.mp c)
    refine v_s mt_154 rfl rfl rfl ?_
    refine v_s mt_154 rfl rfl rfl ?_
    obtain ⟨z3, h⟩ := h
    refine j_if2 mt_154 rfl rfl z2 z3 (fun c => ?_) (fun c => ?_)
    · replace h := h.1 c
      refine v_ret mt_154 rfl rfl rfl ?_
      refine v_s mt_147 rfl rfl rfl ?_
      refine v_gr (w := 1) 0 mt_147 rfl rfl c_0 (by decide) g_11_0 ?_
      refine v_s mt_147 rfl rfl rfl ?_
      refine v_inl (L1 := [some (.ref 1), some (iv x1)]) mt_147 rfl rfl mt_83 rfl rfl (m_callj (As := [iv x1]) (rest := []) rfl rfl c_1 rfl (Nat.le_of_ble_eq_true rfl) (Nat.le_of_ble_eq_true rfl)) rfl (by clear h; omega) ?_
      refine v_s mt_83 rfl rfl rfl ?_
      refine v_s mt_83 rfl rfl rfl ?_
      refine v_s mt_83 rfl rfl rfl ?_
      refine j_gi (w := J 1 1) 1 mt_83 rfl rfl c_1 (by decide) rfl ?_
      refine j_min mt_83 rfl (Nat.le_of_ble_eq_true rfl) z2 z1 ?_
      refine j_pi 2 mt_83 rfl rfl c_1 (by decide) ?_
      refine v_s mt_83 rfl rfl rfl ?_
      refine v_ic (v := Int32.ofInt 0) mt_83 rfl rfl ?_
      refine j_pi 1 mt_83 rfl rfl c_1 (by decide) ?_
      refine v_s mt_83 rfl rfl rfl ?_
      refine v_ic (v := Int32.ofInt 0) mt_83 rfl rfl ?_
      refine j_pi 3 mt_83 rfl rfl c_1 (by decide) ?_
      refine v_s mt_83 rfl rfl rfl ?_
      refine v_ic (v := Int32.ofInt 0) mt_83 rfl rfl ?_
      refine j_pi 4 mt_83 rfl rfl c_1 (by decide) ?_
      refine v_s mt_83 rfl rfl rfl ?_
      refine v_ic (v := Int32.ofInt 0) mt_83 rfl rfl ?_
      refine j_pi 6 mt_83 rfl rfl c_1 (by decide) ?_
      refine v_s mt_83 rfl rfl rfl ?_
      refine v_ic (v := Int32.ofInt (-1)) mt_83 rfl rfl ?_
      refine j_pi 7 mt_83 rfl rfl c_1 (by decide) ?_
      refine v_ret mt_83 rfl rfl rfl ?_
      refine v_s mt_147 rfl rfl rfl ?_
      refine v_ic (v := Int32.ofInt (-1)) mt_147 rfl rfl ?_
      refine j_pi 1 mt_147 rfl rfl c_0 (by decide) ?_
      refine v_ret mt_147 rfl rfl rfl ?_
      refine v_s mt_112 rfl rfl rfl ?_
      refine v_gr (w := (lB sw)) 5 mt_112 rfl rfl c_0 (by decide) g_11_5 ?_
      refine v_s mt_112 rfl rfl rfl ?_
      refine v_gr (w := 1) 0 mt_112 rfl rfl c_0 (by decide) g_11_0 ?_
      refine v_inl (L1 := [some (.ref (lB sw)), some (.ref 1)]) mt_112 rfl rfl mt_22 rfl rfl (m_callj (As := [.ref 1]) (rest := []) rfl rfl (clB sw) rfl (Nat.le_of_ble_eq_true rfl) (Nat.le_of_ble_eq_true rfl)) rfl (by clear h; omega) ?_
      refine v_s mt_22 rfl rfl rfl ?_
      refine v_inl (L1 := [some (.ref (lB sw))]) mt_22 rfl rfl mt_21 rfl rfl (m_callj (As := []) (rest := []) rfl rfl (clB sw) rfl (Nat.le_of_ble_eq_true rfl) (Nat.le_of_ble_eq_true rfl)) rfl (by clear h; omega) ?_
      refine v_s mt_21 rfl rfl rfl ?_
      refine v_ic (v := Int32.ofInt 0) mt_21 rfl rfl ?_
      refine j_pi 1 mt_21 rfl rfl (clB sw) (by decide) ?_
      refine v_ret mt_21 rfl rfl rfl ?_
      refine v_s mt_22 rfl rfl rfl ?_
      refine v_s mt_22 rfl rfl rfl ?_
      refine v_ic (v := Int32.ofInt 0) mt_22 rfl rfl ?_
      obtain ⟨c2, J1, z4, h⟩ := h
      refine v_call (d1 := 60) mt_22 rfl rfl mt_23 rfl rfl (m_callj (As := [.ref 1, iv 0]) (rest := []) rfl rfl (clB sw) rfl (Nat.le_of_ble_eq_true rfl) (Nat.le_of_ble_eq_true rfl)) z4 (by clear h; omega) ?_
      obtain ⟨z5, h⟩ := h
      refine j_if1 mt_22 rfl rfl z5 (fun c => ?_) (fun c => ?_)
      · replace h := h.1 c
        refine v_s mt_22 rfl rfl rfl ?_
        refine v_inl (L1 := [some (.ref 1)]) mt_22 rfl rfl mt_86 rfl rfl (m_callj (As := []) (rest := []) rfl rfl c_1 rfl (Nat.le_of_ble_eq_true rfl) (Nat.le_of_ble_eq_true rfl)) rfl (by clear h; omega) ?_
        refine v_s mt_86 rfl rfl rfl ?_
        obtain ⟨c4, J3, z6, h⟩ := h
        refine v_call (d1 := 0) mt_86 rfl rfl mt_85 rfl rfl (m_callj (As := []) (rest := []) rfl rfl c_1 rfl (Nat.le_of_ble_eq_true rfl) (Nat.le_of_ble_eq_true rfl)) z6 (by clear h; omega) ?_
        refine v_ic (v := Int32.ofInt (-1)) mt_86 rfl rfl ?_
        obtain ⟨z7, h⟩ := h
        refine j_if2 mt_86 rfl rfl z7 ⟨by decide, by decide⟩ (fun c => ?_) (fun c => ?_)
        · replace h := h.1 c
          refine v_ic (v := Int32.ofInt 0) mt_86 rfl rfl ?_
          refine j_retb mt_86 rfl rfl (by decide) ?_
          refine j_if1 mt_22 rfl rfl ⟨by decide, by decide⟩ (fun c => absurd (show ¬ (0 : Int) = 0 from c) (by decide)) (fun _ => ?_)
          refine v_s mt_22 rfl rfl rfl ?_
          refine v_ic (v := Int32.ofInt 1) mt_22 rfl rfl ?_
          refine v_s mt_22 rfl rfl rfl ?_
          refine j_gi (w := J3 1 3) 3 mt_22 rfl rfl c_1 (by decide) rfl ?_
          refine v_inl (L1 := [some (.ref 1), some (iv 1), some (iv (J3 1 3))]) mt_22 rfl rfl mt_84 rfl rfl (m_callj (As := [iv 1, iv (J3 1 3)]) (rest := []) rfl rfl c_1 rfl (Nat.le_of_ble_eq_true rfl) (Nat.le_of_ble_eq_true rfl)) rfl (by clear h; omega) ?_
          refine v_s mt_84 rfl rfl rfl ?_
          refine v_s mt_84 rfl rfl rfl ?_
          refine j_pi 6 mt_84 rfl rfl c_1 (by decide) ?_
          refine v_s mt_84 rfl rfl rfl ?_
          refine v_s mt_84 rfl rfl rfl ?_
          refine j_pi 7 mt_84 rfl rfl c_1 (by decide) ?_
          refine v_ic (v := Int32.ofInt 0) mt_84 rfl rfl ?_
          refine j_retb mt_84 rfl rfl (by decide) ?_
          refine j_if1 mt_22 rfl rfl ⟨by decide, by decide⟩ (fun _ => ?_) (fun c => (c (show (0 : Int) = 0 by decide)).elim)
          refine v_ic (v := Int32.ofInt 0) mt_22 rfl rfl ?_
          refine j_retb mt_22 rfl rfl (by decide) ?_
          refine j_if1 mt_112 rfl rfl ⟨by decide, by decide⟩ (fun c => absurd (show ¬ (0 : Int) = 0 from c) (by decide)) (fun _ => ?_)
          refine v_s mt_112 rfl rfl rfl ?_
          refine v_inl (L1 := [some (.ref 0)]) mt_112 rfl rfl mt_148 rfl rfl (m_callj (As := []) (rest := []) rfl rfl c_0 rfl (Nat.le_of_ble_eq_true rfl) (Nat.le_of_ble_eq_true rfl)) rfl (by clear h; omega) ?_
          refine v_s mt_148 rfl rfl rfl ?_
          refine v_s mt_148 rfl rfl rfl ?_
          refine v_gr (w := 1) 0 mt_148 rfl rfl c_0 (by decide) g_11_0 ?_
          refine j_gi (w := J3 1 3) 7 mt_148 rfl rfl c_1 (by decide) (up_eq _ _ _ _) ?_
          refine j_pi 1 mt_148 rfl rfl c_0 (by decide) ?_
          refine v_s mt_148 rfl rfl rfl ?_
          refine v_gr (w := 1) 0 mt_148 rfl rfl c_0 (by decide) g_11_0 ?_
          refine j_gi (w := 1) 6 mt_148 rfl rfl c_1 (by decide) ((up_na (by decide)).trans ((up_nk (by decide)).trans (up_eq _ _ _ _))) ?_
          refine v_bp (v := Int32.ofInt 10) mt_148 rfl rfl ?_
          refine j_sub (e := (-9)) mt_148 rfl (by decide) ?_
          refine v_ret mt_148 rfl rfl rfl ?_
          exact v_ret mt_112 rfl rfl rfl h
        · replace h := h.2 (Decidable.not_not.mp c)
          refine v_ic (v := Int32.ofInt 1) mt_86 rfl rfl ?_
          refine v_go mt_86 rfl rfl ?_
          refine j_retb mt_86 rfl rfl (by decide) ?_
          refine j_if1 mt_22 rfl rfl ⟨by decide, by decide⟩ (fun _ => ?_) (fun c => (c (show ¬ (1 : Int) = 0 by decide)).elim)
          refine v_ic (v := Int32.ofInt 1) mt_22 rfl rfl ?_
          refine v_go mt_22 rfl rfl ?_
          refine j_retb mt_22 rfl rfl (by decide) ?_
          refine j_if1 mt_112 rfl rfl ⟨by decide, by decide⟩ (fun _ => ?_) (fun c => (c (show ¬ (1 : Int) = 0 by decide)).elim)
          exact h
      · replace h := h.2 (Decidable.not_not.mp c)
        refine v_ic (v := Int32.ofInt 0) mt_22 rfl rfl ?_
        refine j_retb mt_22 rfl rfl (by decide) ?_
        refine j_if1 mt_112 rfl rfl ⟨by decide, by decide⟩ (fun c => absurd (show ¬ (0 : Int) = 0 from c) (by decide)) (fun _ => ?_)
        refine v_s mt_112 rfl rfl rfl ?_
        refine v_inl (L1 := [some (.ref 0)]) mt_112 rfl rfl mt_148 rfl rfl (m_callj (As := []) (rest := []) rfl rfl c_0 rfl (Nat.le_of_ble_eq_true rfl) (Nat.le_of_ble_eq_true rfl)) rfl (by clear h; omega) ?_
        refine v_s mt_148 rfl rfl rfl ?_
        refine v_s mt_148 rfl rfl rfl ?_
        refine v_gr (w := 1) 0 mt_148 rfl rfl c_0 (by decide) g_11_0 ?_
        refine j_gi (w := J1 1 7) 7 mt_148 rfl rfl c_1 (by decide) rfl ?_
        refine j_pi 1 mt_148 rfl rfl c_0 (by decide) ?_
        refine v_s mt_148 rfl rfl rfl ?_
        refine v_gr (w := 1) 0 mt_148 rfl rfl c_0 (by decide) g_11_0 ?_
        refine j_gi (w := J1 1 6) 6 mt_148 rfl rfl c_1 (by decide) ((up_na (by decide)).trans rfl) ?_
        refine v_bp (v := Int32.ofInt 10) mt_148 rfl rfl ?_
        refine j_sub (e := (J1 1 6) - 10) mt_148 rfl rfl ?_
        refine v_ret mt_148 rfl rfl rfl ?_
        exact v_ret mt_112 rfl rfl rfl h
    · replace h := h.2 (Int.not_le.mp c)
      refine v_s mt_154 rfl rfl rfl ?_
      refine v_inx (L1 := [some (.ref 0)]) mt_154 rfl rfl mt_150 rfl rfl (m_callj (As := []) (rest := []) rfl rfl c_0 rfl (Nat.le_of_ble_eq_true rfl) (Nat.le_of_ble_eq_true rfl)) rfl (by clear h; omega) rfl rfl ?_
      refine v_s mt_150 rfl rfl rfl ?_
      refine v_s mt_150 rfl rfl rfl ?_
      refine j_gi (w := J 0 18) 18 mt_150 rfl rfl c_0 (by decide) rfl ?_
      refine v_ic (v := Int32.ofInt 1) mt_150 rfl rfl ?_
      refine j_add (e := (J 0 18) + 1) mt_150 rfl rfl ?_
      refine j_pi 18 mt_150 rfl rfl c_0 (by decide) ?_
      exact v_thr mt_150 rfl rfl (Nat.le_of_ble_eq_true rfl) h
set_option maxHeartbeats 600000 in
theorem b_112_45 {X : Nat × (Nat → Int32)} {d : Nat} {J : Nat → Nat → Int} {sw : Bool × Bool × Bool} {lg : Nat → Nat → Int64} {x : Nat} {K : (Option Value ⊕ Nat) → mM → Prop} {o0 o1 o2 : Option Value} (hd : 62 ≤ d)
    (h : K (.inl (some (iv 1))) (mj J sw lg x)) : VV X d 112 (45, [o0, o1, o2], [], mj J sw lg x) K := by
  refine v_ic (v := Int32.ofInt 1) mt_112 rfl rfl ?_
  exact v_ret mt_112 rfl rfl rfl h
set_option maxHeartbeats 600000 in
theorem b_114_0 {X : Nat × (Nat → Int32)} {d : Nat} {J : Nat → Nat → Int} {sw : Bool × Bool × Bool} {lg : Nat → Nat → Int64} {x : Nat} {K : (Option Value ⊕ Nat) → mM → Prop} {x1 : Int} {o2 : Option Value} (hd : 4 ≤ d)
    (h : InR (J 1 1) ∧ InR x1 ∧ (x1 < 0 → K (.inr 2) (mj (m_up J 0 18 ((J 0 18) + 1)) sw lg (x + 1))) ∧ (0 ≤ x1 → (InR (min (J 1 1) 60) ∧ (x1 ≤ min (J 1 1) 60 → (∃ (c2 : Int) (J1 : Nat → Nat → Int), EE X 3 2 [.ref (bB sw), .ref 1, iv (J (vA sw) 2)] (mj (m_up (m_up (m_up (m_up (m_up (m_up (m_up J 1 2 (min x1 (J 1 1))) 1 1 0) 1 3 0) 1 4 0) 1 6 0) 1 7 (-1)) 0 1 (-1)) sw lg x) (.inl (some (iv c2))) (mj J1 sw lg x) ∧ InR c2 ∧ (¬ c2 = 0 → VV X d 114 (33, [some (.ref 0), some (iv x1), o2], [], mj J1 sw lg x) K) ∧ (c2 = 0 → K (.inl (some (iv ((J1 1 6) - 10)))) (mj (m_up J1 0 1 (J1 1 7)) sw lg x)))) ∧ (min (J 1 1) 60 < x1 → K (.inr 2) (mj (m_up J 0 18 ((J 0 18) + 1)) sw lg (x + 1)))))) : VV X d 114 (0, [some (.ref 0), some (iv x1), o2], [], mj J sw lg x) K := by
  refine v_s mt_114 rfl rfl rfl ?_
  refine v_s mt_114 rfl rfl rfl ?_
  refine v_bp (v := Int32.ofInt 60) mt_114 rfl rfl ?_
  refine v_inx (L1 := [some (.ref 0), some (iv x1), some (iv 60)]) mt_114 rfl rfl mt_147 rfl rfl (m_callj (As := [iv x1, iv 60]) (rest := []) rfl rfl c_0 rfl (Nat.le_of_ble_eq_true rfl) (Nat.le_of_ble_eq_true rfl)) rfl (by clear h; omega) rfl rfl ?_
  refine v_s mt_147 rfl rfl rfl ?_
  refine v_s mt_147 rfl rfl rfl ?_
  refine v_ic (v := Int32.ofInt 0) mt_147 rfl rfl ?_
  refine v_s mt_147 rfl rfl rfl ?_
  refine v_gr (w := 1) 0 mt_147 rfl rfl c_0 (by decide) g_11_0 ?_
  refine j_gi (w := J 1 1) 1 mt_147 rfl rfl c_1 (by decide) rfl ?_
  refine v_s mt_147 rfl rfl rfl ?_
  obtain ⟨z1, h⟩ := h
  refine j_min mt_147 rfl (Nat.le_of_ble_eq_true rfl) z1 ⟨by decide, by decide⟩ ?_
  refine v_inx (L1 := [some (.ref 0), some (iv x1), some (iv 0), some (iv (min (J 1 1) 60))]) mt_147 rfl rfl mt_154 rfl rfl (m_callj (As := [iv x1, iv 0, iv (min (J 1 1) 60)]) (rest := []) rfl rfl c_0 rfl (Nat.le_of_ble_eq_true rfl) (Nat.le_of_ble_eq_true rfl)) rfl (by clear h; omega) rfl rfl ?_
  refine v_s mt_154 rfl rfl rfl ?_
  refine v_s mt_154 rfl rfl rfl ?_
  obtain ⟨z2, h⟩ := h
  refine j_if2 mt_154 rfl rfl z2 ⟨by decide, by decide⟩ (fun c => ?_) (fun c => ?_)
  · replace h := h.1 c
    refine v_s mt_154 rfl rfl rfl ?_
    refine v_inx (L1 := [some (.ref 0)]) mt_154 rfl rfl mt_150 rfl rfl (m_callj (As := []) (rest := []) rfl rfl c_0 rfl (Nat.le_of_ble_eq_true rfl) (Nat.le_of_ble_eq_true rfl)) rfl (by clear h; omega) rfl rfl ?_
    refine v_s mt_150 rfl rfl rfl ?_
    refine v_s mt_150 rfl rfl rfl ?_
    refine j_gi (w := J 0 18) 18 mt_150 rfl rfl c_0 (by decide) rfl ?_
    refine v_ic (v := Int32.ofInt 1) mt_150 rfl rfl ?_
    refine j_add (e := (J 0 18) + 1) mt_150 rfl rfl ?_
    refine j_pi 18 mt_150 rfl rfl c_0 (by decide) ?_
    exact v_thr mt_150 rfl rfl (Nat.le_of_ble_eq_true rfl) h
  · replace h := h.2 (Int.not_lt.mp c)
    refine v_s mt_154 rfl rfl rfl ?_
    refine v_s mt_154 rfl rfl rfl ?_
    obtain ⟨z3, h⟩ := h
    refine j_if2 mt_154 rfl rfl z2 z3 (fun c => ?_) (fun c => ?_)
    · replace h := h.1 c
      refine v_ret mt_154 rfl rfl rfl ?_
      refine v_s mt_147 rfl rfl rfl ?_
      refine v_gr (w := 1) 0 mt_147 rfl rfl c_0 (by decide) g_11_0 ?_
      refine v_s mt_147 rfl rfl rfl ?_
      refine v_inl (L1 := [some (.ref 1), some (iv x1)]) mt_147 rfl rfl mt_83 rfl rfl (m_callj (As := [iv x1]) (rest := []) rfl rfl c_1 rfl (Nat.le_of_ble_eq_true rfl) (Nat.le_of_ble_eq_true rfl)) rfl (by clear h; omega) ?_
      refine v_s mt_83 rfl rfl rfl ?_
      refine v_s mt_83 rfl rfl rfl ?_
      refine v_s mt_83 rfl rfl rfl ?_
      refine j_gi (w := J 1 1) 1 mt_83 rfl rfl c_1 (by decide) rfl ?_
      refine j_min mt_83 rfl (Nat.le_of_ble_eq_true rfl) z2 z1 ?_
      refine j_pi 2 mt_83 rfl rfl c_1 (by decide) ?_
      refine v_s mt_83 rfl rfl rfl ?_
      refine v_ic (v := Int32.ofInt 0) mt_83 rfl rfl ?_
      refine j_pi 1 mt_83 rfl rfl c_1 (by decide) ?_
      refine v_s mt_83 rfl rfl rfl ?_
      refine v_ic (v := Int32.ofInt 0) mt_83 rfl rfl ?_
      refine j_pi 3 mt_83 rfl rfl c_1 (by decide) ?_
      refine v_s mt_83 rfl rfl rfl ?_
      refine v_ic (v := Int32.ofInt 0) mt_83 rfl rfl ?_
      refine j_pi 4 mt_83 rfl rfl c_1 (by decide) ?_
      refine v_s mt_83 rfl rfl rfl ?_
      refine v_ic (v := Int32.ofInt 0) mt_83 rfl rfl ?_
      refine j_pi 6 mt_83 rfl rfl c_1 (by decide) ?_
      refine v_s mt_83 rfl rfl rfl ?_
      refine v_ic (v := Int32.ofInt (-1)) mt_83 rfl rfl ?_
      refine j_pi 7 mt_83 rfl rfl c_1 (by decide) ?_
      refine v_ret mt_83 rfl rfl rfl ?_
      refine v_s mt_147 rfl rfl rfl ?_
      refine v_ic (v := Int32.ofInt (-1)) mt_147 rfl rfl ?_
      refine j_pi 1 mt_147 rfl rfl c_0 (by decide) ?_
      refine v_ret mt_147 rfl rfl rfl ?_
      refine v_s mt_114 rfl rfl rfl ?_
      refine v_gr (w := (bB sw)) 7 mt_114 rfl rfl c_0 (by decide) g_11_7 ?_
      refine v_s mt_114 rfl rfl rfl ?_
      refine v_gr (w := 1) 0 mt_114 rfl rfl c_0 (by decide) g_11_0 ?_
      refine v_s mt_114 rfl rfl rfl ?_
      refine v_gr (w := (vA sw)) 2 mt_114 rfl rfl c_0 (by decide) g_11_2 ?_
      refine j_gi (w := J (vA sw) 2) 2 mt_114 rfl rfl (cvA sw) (by decide) ((up_na (sh_ne (cvA sw) c_0 (by decide))).trans ((up_na (sh_ne (cvA sw) c_1 (by decide))).trans ((up_na (sh_ne (cvA sw) c_1 (by decide))).trans ((up_na (sh_ne (cvA sw) c_1 (by decide))).trans ((up_na (sh_ne (cvA sw) c_1 (by decide))).trans ((up_na (sh_ne (cvA sw) c_1 (by decide))).trans ((up_na (sh_ne (cvA sw) c_1 (by decide))).trans rfl))))))) ?_
      obtain ⟨c2, J1, z4, h⟩ := h
      refine v_call (d1 := 3) mt_114 rfl rfl mt_2 rfl rfl (m_callj (As := [.ref 1, iv (J (vA sw) 2)]) (rest := []) rfl rfl (cbB sw) rfl (Nat.le_of_ble_eq_true rfl) (Nat.le_of_ble_eq_true rfl)) z4 (by clear h; omega) ?_
      obtain ⟨z5, h⟩ := h
      refine j_if1 mt_114 rfl rfl z5 (fun c => ?_) (fun c => ?_)
      · replace h := h.1 c
        exact h
      · replace h := h.2 (Decidable.not_not.mp c)
        refine v_s mt_114 rfl rfl rfl ?_
        refine v_inl (L1 := [some (.ref 0)]) mt_114 rfl rfl mt_148 rfl rfl (m_callj (As := []) (rest := []) rfl rfl c_0 rfl (Nat.le_of_ble_eq_true rfl) (Nat.le_of_ble_eq_true rfl)) rfl (by clear h; omega) ?_
        refine v_s mt_148 rfl rfl rfl ?_
        refine v_s mt_148 rfl rfl rfl ?_
        refine v_gr (w := 1) 0 mt_148 rfl rfl c_0 (by decide) g_11_0 ?_
        refine j_gi (w := J1 1 7) 7 mt_148 rfl rfl c_1 (by decide) rfl ?_
        refine j_pi 1 mt_148 rfl rfl c_0 (by decide) ?_
        refine v_s mt_148 rfl rfl rfl ?_
        refine v_gr (w := 1) 0 mt_148 rfl rfl c_0 (by decide) g_11_0 ?_
        refine j_gi (w := J1 1 6) 6 mt_148 rfl rfl c_1 (by decide) ((up_na (by decide)).trans rfl) ?_
        refine v_bp (v := Int32.ofInt 10) mt_148 rfl rfl ?_
        refine j_sub (e := (J1 1 6) - 10) mt_148 rfl rfl ?_
        refine v_ret mt_148 rfl rfl rfl ?_
        exact v_ret mt_114 rfl rfl rfl h
    · replace h := h.2 (Int.not_le.mp c)
      refine v_s mt_154 rfl rfl rfl ?_
      refine v_inx (L1 := [some (.ref 0)]) mt_154 rfl rfl mt_150 rfl rfl (m_callj (As := []) (rest := []) rfl rfl c_0 rfl (Nat.le_of_ble_eq_true rfl) (Nat.le_of_ble_eq_true rfl)) rfl (by clear h; omega) rfl rfl ?_
      refine v_s mt_150 rfl rfl rfl ?_
      refine v_s mt_150 rfl rfl rfl ?_
      refine j_gi (w := J 0 18) 18 mt_150 rfl rfl c_0 (by decide) rfl ?_
      refine v_ic (v := Int32.ofInt 1) mt_150 rfl rfl ?_
      refine j_add (e := (J 0 18) + 1) mt_150 rfl rfl ?_
      refine j_pi 18 mt_150 rfl rfl c_0 (by decide) ?_
      exact v_thr mt_150 rfl rfl (Nat.le_of_ble_eq_true rfl) h
set_option maxHeartbeats 600000 in
theorem b_114_51 {X : Nat × (Nat → Int32)} {d : Nat} {J : Nat → Nat → Int} {sw : Bool × Bool × Bool} {lg : Nat → Nat → Int64} {x : Nat} {K : (Option Value ⊕ Nat) → mM → Prop} {o1 o2 : Option Value} (hd : 4 ≤ d)
    (h : K (.inl (some (iv (J (bA sw) 0)))) (mj J sw lg x)) : VV X d 114 (51, [some (.ref 0), o1, o2], [], mj J sw lg x) K := by
  refine v_s mt_114 rfl rfl rfl ?_
  refine v_gr (w := (bA sw)) 6 mt_114 rfl rfl c_0 (by decide) g_11_6 ?_
  refine j_gi (w := J (bA sw) 0) 0 mt_114 rfl rfl (cbA sw) (by decide) rfl ?_
  exact v_ret mt_114 rfl rfl rfl h
