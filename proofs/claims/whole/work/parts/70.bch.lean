set_option maxHeartbeats 600000 in
theorem b_82_0 {X : Nat × (Nat → Int32)} {d : Nat} {J : Nat → Nat → Int} {sw : Bool × Bool × Bool} {lg : Nat → Nat → Int64} {x : Nat} {K : (Option Value ⊕ Nat) → mM → Prop} {x1 : Int} {o2 : Option Value}
    (h : VV X d 82 (3, [some (.ref 1), some (iv x1), some (iv 24)], [], mj J sw lg x) K) : VV X d 82 (0, [some (.ref 1), some (iv x1), o2], [], mj J sw lg x) K := by
  refine v_bp (v := Int32.ofInt 24) mt_82 rfl rfl ?_
  refine v_isn (L' := [some (.ref 1), some (iv x1), some (iv 24)]) mt_82 rfl (Nat.le_of_ble_eq_true rfl) rfl ?_
  exact h
set_option maxHeartbeats 600000 in
theorem b_82_3 {X : Nat × (Nat → Int32)} {d : Nat} {J : Nat → Nat → Int} {sw : Bool × Bool × Bool} {lg : Nat → Nat → Int64} {x : Nat} {K : (Option Value ⊕ Nat) → mM → Prop} {x1 x2 : Int}
    (h : InR x2 ∧ (x2 < 0 → K (.inl none) (mj J sw lg x)) ∧ (0 ≤ x2 → (InR (J 1 1) ∧ (600 ≤ J 1 1 → K (.inl none) (mj J sw lg x)) ∧ (J 1 1 < 600 → ((0 ≤ J 1 1 ∧ J 1 1 < 600) ∧ VV X d 82 (3, [some (.ref 1), some (iv x1), some (iv (x2 + (-8)))], [], mj (m_up (m_up J 2 ((J 1 1).toNat) (bAnd (bShr x1 x2) 255)) 1 1 ((J 1 1) + 1)) sw lg x) K))))) : VV X d 82 (3, [some (.ref 1), some (iv x1), some (iv x2)], [], mj J sw lg x) K := by
  refine v_s mt_82 rfl rfl rfl ?_
  obtain ⟨z1, h⟩ := h
  refine j_if1 mt_82 rfl rfl z1 (fun c => ?_) (fun c => ?_)
  · replace h := h.1 c
    exact v_ret mt_82 rfl rfl rfl h
  · replace h := h.2 (Int.not_lt.mp c)
    refine v_s mt_82 rfl rfl rfl ?_
    refine j_gi (w := J 1 1) 1 mt_82 rfl rfl c_1 (by decide) rfl ?_
    refine v_sp (v := Int32.ofInt 600) mt_82 rfl rfl ?_
    obtain ⟨z2, h⟩ := h
    refine j_if2 mt_82 rfl rfl z2 ⟨by decide, by decide⟩ (fun c => ?_) (fun c => ?_)
    · replace h := h.1 c
      exact v_ret mt_82 rfl rfl rfl h
    · replace h := h.2 (Int.not_le.mp c)
      refine v_s mt_82 rfl rfl rfl ?_
      refine v_gr (w := 2) 0 mt_82 rfl rfl c_1 (by decide) (g_8_0 c_1) ?_
      refine v_s mt_82 rfl rfl rfl ?_
      refine j_gi (w := J 1 1) 1 mt_82 rfl rfl c_1 (by decide) rfl ?_
      refine v_s mt_82 rfl rfl rfl ?_
      refine v_s mt_82 rfl rfl rfl ?_
      refine j_shr (e := bShr x1 x2) mt_82 rfl rfl ?_
      refine v_sp (v := Int32.ofInt 255) mt_82 rfl rfl ?_
      refine j_and (e := bAnd (bShr x1 x2) 255) mt_82 rfl rfl ?_
      obtain ⟨z3, h⟩ := h
      refine j_as mt_82 rfl c_2 z3 (by decide) ?_
      refine v_s mt_82 rfl rfl rfl ?_
      refine v_s mt_82 rfl rfl rfl ?_
      refine j_gi (w := J 1 1) 1 mt_82 rfl rfl c_1 (by decide) ((up_na (by decide)).trans rfl) ?_
      refine v_ic (v := Int32.ofInt 1) mt_82 rfl rfl ?_
      refine j_add (e := (J 1 1) + 1) mt_82 rfl rfl ?_
      refine j_pi 1 mt_82 rfl rfl c_1 (by decide) ?_
      refine j_inc (e := x2 + (-8)) (L' := [some (.ref 1), some (iv x1), some (iv (x2 + (-8)))]) mt_82 rfl rfl (Nat.le_of_ble_eq_true rfl) rfl rfl ?_
      refine v_go mt_82 rfl rfl ?_
      exact h
set_option maxHeartbeats 600000 in
theorem b_110_0 {X : Nat × (Nat → Int32)} {d : Nat} {J : Nat → Nat → Int} {sw : Bool × Bool × Bool} {lg : Nat → Nat → Int64} {x : Nat} {K : (Option Value ⊕ Nat) → mM → Prop} {x1 x2 x3 x4 x5 : Int} (hd : 1 ≤ d)
    (h : InR ((J 1 1) + 20) ∧ ((J 1 1) + 20 ≤ 600 → (∃ (J1 : Nat → Nat → Int), EE X 0 82 [.ref 1, iv x1] (mj J sw lg x) (.inl none) (mj J1 sw lg x) ∧ ∃ (J2 : Nat → Nat → Int), EE X 0 82 [.ref 1, iv x2] (mj J1 sw lg x) (.inl none) (mj J2 sw lg x) ∧ ∃ (J3 : Nat → Nat → Int), EE X 0 82 [.ref 1, iv x3] (mj J2 sw lg x) (.inl none) (mj J3 sw lg x) ∧ ∃ (J4 : Nat → Nat → Int), EE X 0 82 [.ref 1, iv x4] (mj J3 sw lg x) (.inl none) (mj J4 sw lg x) ∧ ∃ (J5 : Nat → Nat → Int), EE X 0 82 [.ref 1, iv x5] (mj J4 sw lg x) (.inl none) (mj J5 sw lg x) ∧ K (.inl (some (iv (J5 1 1)))) (mj J5 sw lg x))) ∧ (600 < (J 1 1) + 20 → K (.inl (some (iv (-1)))) (mj J sw lg x))) : VV X d 110 (0, [some (.ref 0), some (iv x1), some (iv x2), some (iv x3), some (iv x4), some (iv x5)], [], mj J sw lg x) K := by
  refine v_s mt_110 rfl rfl rfl ?_
  refine v_gr (w := 1) 0 mt_110 rfl rfl c_0 (by decide) g_11_0 ?_
  refine j_gi (w := J 1 1) 1 mt_110 rfl rfl c_1 (by decide) rfl ?_
  refine v_bp (v := Int32.ofInt 20) mt_110 rfl rfl ?_
  refine j_add (e := (J 1 1) + 20) mt_110 rfl rfl ?_
  refine v_sp (v := Int32.ofInt 600) mt_110 rfl rfl ?_
  obtain ⟨z1, h⟩ := h
  refine j_if2 mt_110 rfl rfl z1 ⟨by decide, by decide⟩ (fun c => ?_) (fun c => ?_)
  · replace h := h.1 c
    refine v_s mt_110 rfl rfl rfl ?_
    refine v_gr (w := 1) 0 mt_110 rfl rfl c_0 (by decide) g_11_0 ?_
    refine v_s mt_110 rfl rfl rfl ?_
    obtain ⟨J1, z2, h⟩ := h
    refine v_call (d1 := 0) mt_110 rfl rfl mt_82 rfl rfl (m_callj (As := [iv x1]) (rest := []) rfl rfl c_1 rfl (Nat.le_of_ble_eq_true rfl) (Nat.le_of_ble_eq_true rfl)) z2 (by clear h; omega) ?_
    refine v_s mt_110 rfl rfl rfl ?_
    refine v_gr (w := 1) 0 mt_110 rfl rfl c_0 (by decide) g_11_0 ?_
    refine v_s mt_110 rfl rfl rfl ?_
    obtain ⟨J2, z3, h⟩ := h
    refine v_call (d1 := 0) mt_110 rfl rfl mt_82 rfl rfl (m_callj (As := [iv x2]) (rest := []) rfl rfl c_1 rfl (Nat.le_of_ble_eq_true rfl) (Nat.le_of_ble_eq_true rfl)) z3 (by clear h; omega) ?_
    refine v_s mt_110 rfl rfl rfl ?_
    refine v_gr (w := 1) 0 mt_110 rfl rfl c_0 (by decide) g_11_0 ?_
    refine v_s mt_110 rfl rfl rfl ?_
    obtain ⟨J3, z4, h⟩ := h
    refine v_call (d1 := 0) mt_110 rfl rfl mt_82 rfl rfl (m_callj (As := [iv x3]) (rest := []) rfl rfl c_1 rfl (Nat.le_of_ble_eq_true rfl) (Nat.le_of_ble_eq_true rfl)) z4 (by clear h; omega) ?_
    refine v_s mt_110 rfl rfl rfl ?_
    refine v_gr (w := 1) 0 mt_110 rfl rfl c_0 (by decide) g_11_0 ?_
    refine v_s mt_110 rfl rfl rfl ?_
    obtain ⟨J4, z5, h⟩ := h
    refine v_call (d1 := 0) mt_110 rfl rfl mt_82 rfl rfl (m_callj (As := [iv x4]) (rest := []) rfl rfl c_1 rfl (Nat.le_of_ble_eq_true rfl) (Nat.le_of_ble_eq_true rfl)) z5 (by clear h; omega) ?_
    refine v_s mt_110 rfl rfl rfl ?_
    refine v_gr (w := 1) 0 mt_110 rfl rfl c_0 (by decide) g_11_0 ?_
    refine v_s mt_110 rfl rfl rfl ?_
    obtain ⟨J5, z6, h⟩ := h
    refine v_call (d1 := 0) mt_110 rfl rfl mt_82 rfl rfl (m_callj (As := [iv x5]) (rest := []) rfl rfl c_1 rfl (Nat.le_of_ble_eq_true rfl) (Nat.le_of_ble_eq_true rfl)) z6 (by clear h; omega) ?_
    refine v_s mt_110 rfl rfl rfl ?_
    refine v_gr (w := 1) 0 mt_110 rfl rfl c_0 (by decide) g_11_0 ?_
    refine j_gi (w := J5 1 1) 1 mt_110 rfl rfl c_1 (by decide) rfl ?_
    exact v_ret mt_110 rfl rfl rfl h
  · replace h := h.2 (Int.not_le.mp c)
    refine v_ic (v := Int32.ofInt (-1)) mt_110 rfl rfl ?_
    exact v_ret mt_110 rfl rfl rfl h
set_option maxHeartbeats 600000 in
theorem b_116_0 {X : Nat × (Nat → Int32)} {d : Nat} {J : Nat → Nat → Int} {sw : Bool × Bool × Bool} {lg : Nat → Nat → Int64} {x : Nat} {K : (Option Value ⊕ Nat) → mM → Prop} (hd : 2 ≤ d)
    (h : InR (J 56 1) ∧ (0 < J 56 1 → ((0 ≤ (J 56 1) - 1 ∧ (J 56 1) - 1 < 16) ∧ ∃ (J1 : Nat → Nat → Int), EE X 0 44 [.ref 41, .ref (56 + 1 + (1 + 7 * ((J 56 1) - 1).toNat))] (mj (m_up J 56 1 ((J 56 1) - 1)) sw lg x) (.inl none) (mj J1 sw lg x) ∧ K (.inl (some (iv (J1 56 1)))) (mj (m_up J1 0 16 0) sw lg x))) ∧ (J 56 1 ≤ 0 → K (.inl (some (iv (-1)))) (mj J sw lg x))) : VV X d 116 (0, [some (.ref 0)], [], mj J sw lg x) K := by
  refine v_s mt_116 rfl rfl rfl ?_
  refine v_gr (w := 56) 12 mt_116 rfl rfl c_0 (by decide) g_11_12 ?_
  refine v_s mt_116 rfl rfl rfl ?_
  refine v_gr (w := 41) 9 mt_116 rfl rfl c_0 (by decide) g_11_9 ?_
  refine v_inl (L1 := [some (.ref 56), some (.ref 41)]) mt_116 rfl rfl mt_38 rfl rfl (m_callj (As := [.ref 41]) (rest := []) rfl rfl c_56 rfl (Nat.le_of_ble_eq_true rfl) (Nat.le_of_ble_eq_true rfl)) rfl (by clear h; omega) ?_
  refine v_s mt_38 rfl rfl rfl ?_
  refine j_gi (w := J 56 1) 1 mt_38 rfl rfl c_56 (by decide) rfl ?_
  obtain ⟨z1, h⟩ := h
  refine j_if1 mt_38 rfl rfl z1 (fun c => ?_) (fun c => ?_)
  · replace h := h.1 c
    refine v_s mt_38 rfl rfl rfl ?_
    refine v_s mt_38 rfl rfl rfl ?_
    refine j_gi (w := J 56 1) 1 mt_38 rfl rfl c_56 (by decide) rfl ?_
    refine v_ic (v := Int32.ofInt 1) mt_38 rfl rfl ?_
    refine j_sub (e := (J 56 1) - 1) mt_38 rfl rfl ?_
    refine j_pi 1 mt_38 rfl rfl c_56 (by decide) ?_
    refine v_s mt_38 rfl rfl rfl ?_
    refine v_s mt_38 rfl rfl rfl ?_
    refine v_gr (w := 57) 0 mt_38 rfl rfl c_56 (by decide) (g_4_0 c_56) ?_
    refine v_s mt_38 rfl rfl rfl ?_
    refine j_gi (w := (J 56 1) - 1) 1 mt_38 rfl rfl c_56 (by decide) (up_eq _ _ _ _) ?_
    obtain ⟨z2, h⟩ := h
    refine j_aal (w := (56 + 1 + (1 + 7 * ((J 56 1) - 1).toNat))) mt_38 rfl (Or.inl rfl) c_57 z2 (by decide) (gP c_56 z2) ?_
    obtain ⟨J1, z3, h⟩ := h
    refine v_call (d1 := 0) mt_38 rfl rfl mt_44 rfl rfl (m_callj (As := [.ref (56 + 1 + (1 + 7 * ((J 56 1) - 1).toNat))]) (rest := []) rfl rfl c_41 rfl (Nat.le_of_ble_eq_true rfl) (Nat.le_of_ble_eq_true rfl)) z3 (by clear h; omega) ?_
    refine v_ic (v := Int32.ofInt 1) mt_38 rfl rfl ?_
    refine j_retb mt_38 rfl rfl (by decide) ?_
    refine j_if1 mt_116 rfl rfl ⟨by decide, by decide⟩ (fun _ => ?_) (fun c => (c (show ¬ (1 : Int) = 0 by decide)).elim)
    refine v_s mt_116 rfl rfl rfl ?_
    refine v_ic (v := Int32.ofInt 0) mt_116 rfl rfl ?_
    refine j_pi 16 mt_116 rfl rfl c_0 (by decide) ?_
    refine v_s mt_116 rfl rfl rfl ?_
    refine v_gr (w := 56) 12 mt_116 rfl rfl c_0 (by decide) g_11_12 ?_
    refine j_gi (w := J1 56 1) 1 mt_116 rfl rfl c_56 (by decide) ((up_na (by decide)).trans rfl) ?_
    exact v_ret mt_116 rfl rfl rfl h
  · replace h := h.2 (Int.not_lt.mp c)
    refine v_ic (v := Int32.ofInt 0) mt_38 rfl rfl ?_
    refine j_retb mt_38 rfl rfl (by decide) ?_
    refine j_if1 mt_116 rfl rfl ⟨by decide, by decide⟩ (fun c => absurd (show ¬ (0 : Int) = 0 from c) (by decide)) (fun _ => ?_)
    refine v_ic (v := Int32.ofInt (-1)) mt_116 rfl rfl ?_
    exact v_ret mt_116 rfl rfl rfl h
set_option maxHeartbeats 600000 in
theorem b_143_0 {X : Nat × (Nat → Int32)} {d : Nat} {J : Nat → Nat → Int} {sw : Bool × Bool × Bool} {lg : Nat → Nat → Int64} {x : Nat} {K : (Option Value ⊕ Nat) → mM → Prop} (hd : 3 ≤ d)
    (h : InR (J 170 2) ∧ (J 170 2 < 3 → ((0 ≤ J 170 2 ∧ J 170 2 < 3) ∧ ∃ (J1 : Nat → Nat → Int), EE X 0 44 [.ref (173 + 121 * (J 170 2).toNat), .ref 41] (mj J sw lg x) (.inl none) (mj J1 sw lg x) ∧ (0 ≤ J1 170 2 ∧ J1 170 2 < 3) ∧ ∃ (J2 : Nat → Nat → Int), EE X 1 39 [.ref (180 + 121 * (J1 170 2).toNat), .ref 56] (mj J1 sw lg x) (.inl none) (mj J2 sw lg x) ∧ K (.inl (some (iv ((J2 170 2) + 1)))) (mj (m_up J2 170 2 ((J2 170 2) + 1)) sw lg x))) ∧ (3 ≤ J 170 2 → K (.inl (some (iv (-1)))) (mj J sw lg x))) : VV X d 143 (0, [some (.ref 0)], [], mj J sw lg x) K := by
  refine v_s mt_143 rfl rfl rfl ?_
  refine v_gr (w := 170) 13 mt_143 rfl rfl c_0 (by decide) g_11_13 ?_
  refine v_s mt_143 rfl rfl rfl ?_
  refine v_gr (w := 41) 9 mt_143 rfl rfl c_0 (by decide) g_11_9 ?_
  refine v_s mt_143 rfl rfl rfl ?_
  refine v_gr (w := 56) 12 mt_143 rfl rfl c_0 (by decide) g_11_12 ?_
  refine v_inl (L1 := [some (.ref 170), some (.ref 41), some (.ref 56)]) mt_143 rfl rfl mt_18 rfl rfl (m_callj (As := [.ref 41, .ref 56]) (rest := []) rfl rfl c_170 rfl (Nat.le_of_ble_eq_true rfl) (Nat.le_of_ble_eq_true rfl)) rfl (by clear h; omega) ?_
  refine v_s mt_18 rfl rfl rfl ?_
  refine j_gi (w := J 170 2) 2 mt_18 rfl rfl c_170 (by decide) rfl ?_
  refine v_ic (v := Int32.ofInt 3) mt_18 rfl rfl ?_
  obtain ⟨z1, h⟩ := h
  refine j_if2 mt_18 rfl rfl z1 ⟨by decide, by decide⟩ (fun c => ?_) (fun c => ?_)
  · replace h := h.1 c
    refine v_s mt_18 rfl rfl rfl ?_
    refine v_gr (w := 171) 0 mt_18 rfl rfl c_170 (by decide) (g_2_0 c_170) ?_
    refine v_s mt_18 rfl rfl rfl ?_
    refine j_gi (w := J 170 2) 2 mt_18 rfl rfl c_170 (by decide) rfl ?_
    obtain ⟨z2, h⟩ := h
    refine j_aal (w := (173 + 121 * (J 170 2).toNat)) mt_18 rfl (Or.inl rfl) c_171 z2 (by decide) (gI z2).1 ?_
    refine v_s mt_18 rfl rfl rfl ?_
    obtain ⟨J1, z3, h⟩ := h
    refine v_call (d1 := 0) mt_18 rfl rfl mt_44 rfl rfl (m_callj (As := [.ref 41]) (rest := []) rfl rfl (shI z2).1 rfl (Nat.le_of_ble_eq_true rfl) (Nat.le_of_ble_eq_true rfl)) z3 (by clear h; omega) ?_
    refine v_s mt_18 rfl rfl rfl ?_
    refine v_gr (w := 172) 1 mt_18 rfl rfl c_170 (by decide) (g_2_1 c_170) ?_
    refine v_s mt_18 rfl rfl rfl ?_
    refine j_gi (w := J1 170 2) 2 mt_18 rfl rfl c_170 (by decide) rfl ?_
    obtain ⟨z4, h⟩ := h
    refine j_aal (w := (180 + 121 * (J1 170 2).toNat)) mt_18 rfl (Or.inr rfl) c_172 z4 (by decide) (gI z4).2 ?_
    refine v_s mt_18 rfl rfl rfl ?_
    obtain ⟨J2, z5, h⟩ := h
    refine v_call (d1 := 1) mt_18 rfl rfl mt_39 rfl rfl (m_callj (As := [.ref 56]) (rest := []) rfl rfl (shI z4).2 rfl (Nat.le_of_ble_eq_true rfl) (Nat.le_of_ble_eq_true rfl)) z5 (by clear h; omega) ?_
    refine v_s mt_18 rfl rfl rfl ?_
    refine v_s mt_18 rfl rfl rfl ?_
    refine j_gi (w := J2 170 2) 2 mt_18 rfl rfl c_170 (by decide) rfl ?_
    refine v_ic (v := Int32.ofInt 1) mt_18 rfl rfl ?_
    refine j_add (e := (J2 170 2) + 1) mt_18 rfl rfl ?_
    refine j_pi 2 mt_18 rfl rfl c_170 (by decide) ?_
    refine v_s mt_18 rfl rfl rfl ?_
    refine j_gi (w := (J2 170 2) + 1) 2 mt_18 rfl rfl c_170 (by decide) (up_eq _ _ _ _) ?_
    refine v_ret mt_18 rfl rfl rfl ?_
    exact v_ret mt_143 rfl rfl rfl h
  · replace h := h.2 (Int.not_lt.mp c)
    refine v_ic (v := Int32.ofInt (-1)) mt_18 rfl rfl ?_
    refine v_ret mt_18 rfl rfl rfl ?_
    exact v_ret mt_143 rfl rfl rfl h
set_option maxHeartbeats 600000 in
theorem b_144_0 {X : Nat × (Nat → Int32)} {d : Nat} {J : Nat → Nat → Int} {sw : Bool × Bool × Bool} {lg : Nat → Nat → Int64} {x : Nat} {K : (Option Value ⊕ Nat) → mM → Prop} (hd : 3 ≤ d)
    (h : InR (J 170 2) ∧ (0 < J 170 2 → ((0 ≤ (J 170 2) - 1 ∧ (J 170 2) - 1 < 3) ∧ ∃ (J1 : Nat → Nat → Int), EE X 0 44 [.ref 41, .ref (173 + 121 * ((J 170 2) - 1).toNat)] (mj (m_up J 170 2 ((J 170 2) - 1)) sw lg x) (.inl none) (mj J1 sw lg x) ∧ (0 ≤ J1 170 2 ∧ J1 170 2 < 3) ∧ ∃ (J2 : Nat → Nat → Int), EE X 1 39 [.ref 56, .ref (180 + 121 * (J1 170 2).toNat)] (mj J1 sw lg x) (.inl none) (mj J2 sw lg x) ∧ K (.inl (some (iv (J2 170 2)))) (mj (m_up J2 0 16 0) sw lg x))) ∧ (J 170 2 ≤ 0 → K (.inl (some (iv (-1)))) (mj J sw lg x))) : VV X d 144 (0, [some (.ref 0)], [], mj J sw lg x) K := by
  refine v_s mt_144 rfl rfl rfl ?_
  refine v_gr (w := 170) 13 mt_144 rfl rfl c_0 (by decide) g_11_13 ?_
  refine v_s mt_144 rfl rfl rfl ?_
  refine v_gr (w := 41) 9 mt_144 rfl rfl c_0 (by decide) g_11_9 ?_
  refine v_s mt_144 rfl rfl rfl ?_
  refine v_gr (w := 56) 12 mt_144 rfl rfl c_0 (by decide) g_11_12 ?_
  refine v_inl (L1 := [some (.ref 170), some (.ref 41), some (.ref 56)]) mt_144 rfl rfl mt_19 rfl rfl (m_callj (As := [.ref 41, .ref 56]) (rest := []) rfl rfl c_170 rfl (Nat.le_of_ble_eq_true rfl) (Nat.le_of_ble_eq_true rfl)) rfl (by clear h; omega) ?_
  refine v_s mt_19 rfl rfl rfl ?_
  refine j_gi (w := J 170 2) 2 mt_19 rfl rfl c_170 (by decide) rfl ?_
  obtain ⟨z1, h⟩ := h
  refine j_if1 mt_19 rfl rfl z1 (fun c => ?_) (fun c => ?_)
  · replace h := h.1 c
    refine v_s mt_19 rfl rfl rfl ?_
    refine v_s mt_19 rfl rfl rfl ?_
    refine j_gi (w := J 170 2) 2 mt_19 rfl rfl c_170 (by decide) rfl ?_
    refine v_ic (v := Int32.ofInt 1) mt_19 rfl rfl ?_
    refine j_sub (e := (J 170 2) - 1) mt_19 rfl rfl ?_
    refine j_pi 2 mt_19 rfl rfl c_170 (by decide) ?_
    refine v_s mt_19 rfl rfl rfl ?_
    refine v_s mt_19 rfl rfl rfl ?_
    refine v_gr (w := 171) 0 mt_19 rfl rfl c_170 (by decide) (g_2_0 c_170) ?_
    refine v_s mt_19 rfl rfl rfl ?_
    refine j_gi (w := (J 170 2) - 1) 2 mt_19 rfl rfl c_170 (by decide) (up_eq _ _ _ _) ?_
    obtain ⟨z2, h⟩ := h
    refine j_aal (w := (173 + 121 * ((J 170 2) - 1).toNat)) mt_19 rfl (Or.inl rfl) c_171 z2 (by decide) (gI z2).1 ?_
    obtain ⟨J1, z3, h⟩ := h
    refine v_call (d1 := 0) mt_19 rfl rfl mt_44 rfl rfl (m_callj (As := [.ref (173 + 121 * ((J 170 2) - 1).toNat)]) (rest := []) rfl rfl c_41 rfl (Nat.le_of_ble_eq_true rfl) (Nat.le_of_ble_eq_true rfl)) z3 (by clear h; omega) ?_
    refine v_s mt_19 rfl rfl rfl ?_
    refine v_s mt_19 rfl rfl rfl ?_
    refine v_gr (w := 172) 1 mt_19 rfl rfl c_170 (by decide) (g_2_1 c_170) ?_
    refine v_s mt_19 rfl rfl rfl ?_
    refine j_gi (w := J1 170 2) 2 mt_19 rfl rfl c_170 (by decide) rfl ?_
    obtain ⟨z4, h⟩ := h
    refine j_aal (w := (180 + 121 * (J1 170 2).toNat)) mt_19 rfl (Or.inr rfl) c_172 z4 (by decide) (gI z4).2 ?_
    obtain ⟨J2, z5, h⟩ := h
    refine v_call (d1 := 1) mt_19 rfl rfl mt_39 rfl rfl (m_callj (As := [.ref (180 + 121 * (J1 170 2).toNat)]) (rest := []) rfl rfl c_56 rfl (Nat.le_of_ble_eq_true rfl) (Nat.le_of_ble_eq_true rfl)) z5 (by clear h; omega) ?_
    refine v_ic (v := Int32.ofInt 1) mt_19 rfl rfl ?_
    refine j_retb mt_19 rfl rfl (by decide) ?_
    refine j_if1 mt_144 rfl rfl ⟨by decide, by decide⟩ (fun _ => ?_) (fun c => (c (show ¬ (1 : Int) = 0 by decide)).elim)
    refine v_s mt_144 rfl rfl rfl ?_
    refine v_ic (v := Int32.ofInt 0) mt_144 rfl rfl ?_
    refine j_pi 16 mt_144 rfl rfl c_0 (by decide) ?_
    refine v_s mt_144 rfl rfl rfl ?_
    refine v_gr (w := 170) 13 mt_144 rfl rfl c_0 (by decide) g_11_13 ?_
    refine j_gi (w := J2 170 2) 2 mt_144 rfl rfl c_170 (by decide) ((up_na (by decide)).trans rfl) ?_
    exact v_ret mt_144 rfl rfl rfl h
  · replace h := h.2 (Int.not_lt.mp c)
    refine v_ic (v := Int32.ofInt 0) mt_19 rfl rfl ?_
    refine j_retb mt_19 rfl rfl (by decide) ?_
    refine j_if1 mt_144 rfl rfl ⟨by decide, by decide⟩ (fun c => absurd (show ¬ (0 : Int) = 0 from c) (by decide)) (fun _ => ?_)
    refine v_ic (v := Int32.ofInt (-1)) mt_144 rfl rfl ?_
    exact v_ret mt_144 rfl rfl rfl h
set_option maxHeartbeats 600000 in
theorem b_39_0 {X : Nat × (Nat → Int32)} {d : Nat} {J : Nat → Nat → Int} {sw : Bool × Bool × Bool} {lg : Nat → Nat → Int64} {x : Nat} {K : (Option Value ⊕ Nat) → mM → Prop} {r0 r1 : Nat} {o2 : Option Value} (h0 : SH[r0]? = some (9, 2)) (h1 : SH[r1]? = some (9, 2)) (hd : 1 ≤ d)
    (h : VV X d 39 (2, [some (.ref r0), some (.ref r1), some (iv 0)], [], mj J sw lg x) K) : VV X d 39 (0, [some (.ref r0), some (.ref r1), o2], [], mj J sw lg x) K := by
  refine v_ic (v := Int32.ofInt 0) mt_39 rfl rfl ?_
  refine v_isn (L' := [some (.ref r0), some (.ref r1), some (iv 0)]) mt_39 rfl (Nat.le_of_ble_eq_true rfl) rfl ?_
  exact h
set_option maxHeartbeats 600000 in
theorem b_39_2 {X : Nat × (Nat → Int32)} {d : Nat} {J : Nat → Nat → Int} {sw : Bool × Bool × Bool} {lg : Nat → Nat → Int64} {x : Nat} {K : (Option Value ⊕ Nat) → mM → Prop} {r0 r1 : Nat} {x2 : Int} (h0 : SH[r0]? = some (9, 2)) (h1 : SH[r1]? = some (9, 2)) (hd : 1 ≤ d)
    (h : InR x2 ∧ InR (J r1 1) ∧ (J r1 1 ≤ x2 → K (.inl none) (mj (m_up J r0 1 (J r1 1)) sw lg x)) ∧ (x2 < J r1 1 → ((0 ≤ x2 ∧ x2 < 16) ∧ ∃ (J1 : Nat → Nat → Int), EE X 0 44 [.ref (r0 + 1 + (1 + 7 * x2.toNat)), .ref (r1 + 1 + (1 + 7 * x2.toNat))] (mj J sw lg x) (.inl none) (mj J1 sw lg x) ∧ VV X d 39 (2, [some (.ref r0), some (.ref r1), some (iv (x2 + 1))], [], mj J1 sw lg x) K))) : VV X d 39 (2, [some (.ref r0), some (.ref r1), some (iv x2)], [], mj J sw lg x) K := by
  refine v_s mt_39 rfl rfl rfl ?_
  refine v_s mt_39 rfl rfl rfl ?_
  refine j_gi (w := J r1 1) 1 mt_39 rfl rfl h1 (by decide) rfl ?_
  obtain ⟨z1, h⟩ := h
  obtain ⟨z2, h⟩ := h
  refine j_if2 mt_39 rfl rfl z1 z2 (fun c => ?_) (fun c => ?_)
  · replace h := h.1 c
    refine v_s mt_39 rfl rfl rfl ?_
    refine v_s mt_39 rfl rfl rfl ?_
    refine j_gi (w := J r1 1) 1 mt_39 rfl rfl h1 (by decide) rfl ?_
    refine j_pi 1 mt_39 rfl rfl h0 (by decide) ?_
    exact v_ret mt_39 rfl rfl rfl h
  · replace h := h.2 (Int.not_le.mp c)
    refine v_s mt_39 rfl rfl rfl ?_
    refine v_gr (w := (r0 + 1)) 0 mt_39 rfl rfl h0 (by decide) (g_4_0 h0) ?_
    refine v_s mt_39 rfl rfl rfl ?_
    obtain ⟨z3, h⟩ := h
    refine j_aal (w := (r0 + 1 + (1 + 7 * x2.toNat))) mt_39 rfl (Or.inl rfl) (shP r0 (SH_lt h0) h0).1 z3 (by decide) (gP h0 z3) ?_
    refine v_s mt_39 rfl rfl rfl ?_
    refine v_gr (w := (r1 + 1)) 0 mt_39 rfl rfl h1 (by decide) (g_4_0 h1) ?_
    refine v_s mt_39 rfl rfl rfl ?_
    refine j_aal (w := (r1 + 1 + (1 + 7 * x2.toNat))) mt_39 rfl (Or.inl rfl) (shP r1 (SH_lt h1) h1).1 z3 (by decide) (gP h1 z3) ?_
    obtain ⟨J1, z4, h⟩ := h
    refine v_call (d1 := 0) mt_39 rfl rfl mt_44 rfl rfl (m_callj (As := [.ref (r1 + 1 + (1 + 7 * x2.toNat))]) (rest := []) rfl rfl ((shP r0 (SH_lt h0) h0).2 _ (toNat16 z3)) rfl (Nat.le_of_ble_eq_true rfl) (Nat.le_of_ble_eq_true rfl)) z4 (by clear h; omega) ?_
    refine j_inc (e := x2 + 1) (L' := [some (.ref r0), some (.ref r1), some (iv (x2 + 1))]) mt_39 rfl rfl (Nat.le_of_ble_eq_true rfl) rfl rfl ?_
    refine v_go mt_39 rfl rfl ?_
    exact h
set_option maxHeartbeats 600000 in
theorem b_164_0 {X : Nat × (Nat → Int32)} {d : Nat} {J : Nat → Nat → Int} {sw : Bool × Bool × Bool} {lg : Nat → Nat → Int64} {x : Nat} {K : (Option Value ⊕ Nat) → mM → Prop} {x1 x2 x3 x4 x5 : Int} {o6 o7 : Option Value}
    (h : InR ((J 542 2) + 20) ∧ ((J 542 2) + 20 ≤ 600 → VV X d 164 (23, [some (.ref 542), some (iv x1), some (iv x2), some (iv x3), some (iv x4), some (iv x5), some (iv 0), o7], [], mj (m_up J 542 0 0) sw lg x) K) ∧ (600 < (J 542 2) + 20 → K (.inl (some (iv (-1)))) (mj (m_up J 542 0 0) sw lg x))) : VV X d 164 (0, [some (.ref 542), some (iv x1), some (iv x2), some (iv x3), some (iv x4), some (iv x5), o6, o7], [], mj J sw lg x) K := by
  refine v_s mt_164 rfl rfl rfl ?_
  refine v_ic (v := Int32.ofInt 0) mt_164 rfl rfl ?_
  refine j_pi 0 mt_164 rfl rfl c_542 (by decide) ?_
  refine v_s mt_164 rfl rfl rfl ?_
  refine j_gi (w := J 542 2) 2 mt_164 rfl rfl c_542 (by decide) ((up_nk (by decide)).trans rfl) ?_
  refine v_bp (v := Int32.ofInt 20) mt_164 rfl rfl ?_
  refine j_add (e := (J 542 2) + 20) mt_164 rfl rfl ?_
  refine v_sp (v := Int32.ofInt 600) mt_164 rfl rfl ?_
  obtain ⟨z1, h⟩ := h
  refine j_if2 mt_164 rfl rfl z1 ⟨by decide, by decide⟩ (fun c => ?_) (fun c => ?_)
  · replace h := h.1 c
    refine v_ic (v := Int32.ofInt 0) mt_164 rfl rfl ?_
    refine v_is (L' := [some (.ref 542), some (iv x1), some (iv x2), some (iv x3), some (iv x4), some (iv x5), some (iv 0), o7]) mt_164 rfl (Nat.le_of_ble_eq_true rfl) rfl ?_
    exact h
  · replace h := h.2 (Int.not_le.mp c)
    refine v_ic (v := Int32.ofInt (-1)) mt_164 rfl rfl ?_
    exact v_ret mt_164 rfl rfl rfl h
set_option maxHeartbeats 600000 in
theorem b_164_23 {X : Nat × (Nat → Int32)} {d : Nat} {J : Nat → Nat → Int} {sw : Bool × Bool × Bool} {lg : Nat → Nat → Int64} {x : Nat} {K : (Option Value ⊕ Nat) → mM → Prop} {x1 x2 x3 x4 x5 x6 : Int} {o7 : Option Value}
    (h : InR x6 ∧ (20 ≤ x6 → K (.inl (some (iv (J 542 2)))) (mj J sw lg x)) ∧ (x6 < 20 → ((4 ≤ x6 → ((8 ≤ x6 → ((12 ≤ x6 → ((16 ≤ x6 → ((0 ≤ J 542 2 ∧ J 542 2 < 600) ∧ VV X d 164 (23, [some (.ref 542), some (iv x1), some (iv x2), some (iv x3), some (iv x4), some (iv x5), some (iv (x6 + 1)), some (iv x5)], [], mj (m_up (m_up J 544 ((J 542 2).toNat) (bAnd (bShr x5 (24 - (8 * (bRem x6 4)))) 255)) 542 2 ((J 542 2) + 1)) sw lg x) K)) ∧ (x6 < 16 → ((0 ≤ J 542 2 ∧ J 542 2 < 600) ∧ VV X d 164 (23, [some (.ref 542), some (iv x1), some (iv x2), some (iv x3), some (iv x4), some (iv x5), some (iv (x6 + 1)), some (iv x4)], [], mj (m_up (m_up J 544 ((J 542 2).toNat) (bAnd (bShr x4 (24 - (8 * (bRem x6 4)))) 255)) 542 2 ((J 542 2) + 1)) sw lg x) K)))) ∧ (x6 < 12 → ((0 ≤ J 542 2 ∧ J 542 2 < 600) ∧ VV X d 164 (23, [some (.ref 542), some (iv x1), some (iv x2), some (iv x3), some (iv x4), some (iv x5), some (iv (x6 + 1)), some (iv x3)], [], mj (m_up (m_up J 544 ((J 542 2).toNat) (bAnd (bShr x3 (24 - (8 * (bRem x6 4)))) 255)) 542 2 ((J 542 2) + 1)) sw lg x) K)))) ∧ (x6 < 8 → ((0 ≤ J 542 2 ∧ J 542 2 < 600) ∧ VV X d 164 (23, [some (.ref 542), some (iv x1), some (iv x2), some (iv x3), some (iv x4), some (iv x5), some (iv (x6 + 1)), some (iv x2)], [], mj (m_up (m_up J 544 ((J 542 2).toNat) (bAnd (bShr x2 (24 - (8 * (bRem x6 4)))) 255)) 542 2 ((J 542 2) + 1)) sw lg x) K)))) ∧ (x6 < 4 → ((0 ≤ J 542 2 ∧ J 542 2 < 600) ∧ VV X d 164 (23, [some (.ref 542), some (iv x1), some (iv x2), some (iv x3), some (iv x4), some (iv x5), some (iv (x6 + 1)), some (iv x1)], [], mj (m_up (m_up J 544 ((J 542 2).toNat) (bAnd (bShr x1 (24 - (8 * (bRem x6 4)))) 255)) 542 2 ((J 542 2) + 1)) sw lg x) K))))) : VV X d 164 (23, [some (.ref 542), some (iv x1), some (iv x2), some (iv x3), some (iv x4), some (iv x5), some (iv x6), o7], [], mj J sw lg x) K := by
  refine v_s mt_164 rfl rfl rfl ?_
  refine v_bp (v := Int32.ofInt 20) mt_164 rfl rfl ?_
  obtain ⟨z1, h⟩ := h
  refine j_if2 mt_164 rfl rfl z1 ⟨by decide, by decide⟩ (fun c => ?_) (fun c => ?_)
  · replace h := h.1 c
    refine v_s mt_164 rfl rfl rfl ?_
    refine j_gi (w := J 542 2) 2 mt_164 rfl rfl c_542 (by decide) rfl ?_
    exact v_ret mt_164 rfl rfl rfl h
  · replace h := h.2 (Int.not_le.mp c)
    refine v_s mt_164 rfl rfl rfl ?_
    refine v_ic (v := Int32.ofInt 4) mt_164 rfl rfl ?_
    refine j_if2 mt_164 rfl rfl z1 ⟨by decide, by decide⟩ (fun c => ?_) (fun c => ?_)
    · replace h := h.1 c
      refine v_s mt_164 rfl rfl rfl ?_
      refine v_bp (v := Int32.ofInt 8) mt_164 rfl rfl ?_
      refine j_if2 mt_164 rfl rfl z1 ⟨by decide, by decide⟩ (fun c => ?_) (fun c => ?_)
      · replace h := h.1 c
        refine v_s mt_164 rfl rfl rfl ?_
        refine v_bp (v := Int32.ofInt 12) mt_164 rfl rfl ?_
        refine j_if2 mt_164 rfl rfl z1 ⟨by decide, by decide⟩ (fun c => ?_) (fun c => ?_)
        · replace h := h.1 c
          refine v_s mt_164 rfl rfl rfl ?_
          refine v_bp (v := Int32.ofInt 16) mt_164 rfl rfl ?_
          refine j_if2 mt_164 rfl rfl z1 ⟨by decide, by decide⟩ (fun c => ?_) (fun c => ?_)
          · replace h := h.1 c
            refine v_s mt_164 rfl rfl rfl ?_
            refine v_is (L' := [some (.ref 542), some (iv x1), some (iv x2), some (iv x3), some (iv x4), some (iv x5), some (iv x6), some (iv x5)]) mt_164 rfl (Nat.le_of_ble_eq_true rfl) rfl ?_
            refine v_s mt_164 rfl rfl rfl ?_
            refine v_gr (w := 544) 9 mt_164 rfl rfl c_542 (by decide) (g_12_9 c_542) ?_
            refine v_s mt_164 rfl rfl rfl ?_
            refine j_gi (w := J 542 2) 2 mt_164 rfl rfl c_542 (by decide) rfl ?_
            refine v_s mt_164 rfl rfl rfl ?_
            refine v_bp (v := Int32.ofInt 24) mt_164 rfl rfl ?_
            refine v_bp (v := Int32.ofInt 8) mt_164 rfl rfl ?_
            refine v_s mt_164 rfl rfl rfl ?_
            refine v_ic (v := Int32.ofInt 4) mt_164 rfl rfl ?_
            refine j_rem (e := bRem x6 4) mt_164 rfl ⟨by decide, by decide⟩ (by decide) rfl ?_
            refine j_mul (e := 8 * (bRem x6 4)) mt_164 rfl rfl ?_
            refine j_sub (e := 24 - (8 * (bRem x6 4))) mt_164 rfl rfl ?_
            refine j_shr (e := bShr x5 (24 - (8 * (bRem x6 4)))) mt_164 rfl rfl ?_
            refine v_sp (v := Int32.ofInt 255) mt_164 rfl rfl ?_
            refine j_and (e := bAnd (bShr x5 (24 - (8 * (bRem x6 4)))) 255) mt_164 rfl rfl ?_
            obtain ⟨z2, h⟩ := h
            refine j_as mt_164 rfl c_544 z2 (by decide) ?_
            refine v_s mt_164 rfl rfl rfl ?_
            refine v_s mt_164 rfl rfl rfl ?_
            refine j_gi (w := J 542 2) 2 mt_164 rfl rfl c_542 (by decide) ((up_na (by decide)).trans rfl) ?_
            refine v_ic (v := Int32.ofInt 1) mt_164 rfl rfl ?_
            refine j_add (e := (J 542 2) + 1) mt_164 rfl rfl ?_
            refine j_pi 2 mt_164 rfl rfl c_542 (by decide) ?_
            refine j_inc (e := x6 + 1) (L' := [some (.ref 542), some (iv x1), some (iv x2), some (iv x3), some (iv x4), some (iv x5), some (iv (x6 + 1)), some (iv x5)]) mt_164 rfl rfl (Nat.le_of_ble_eq_true rfl) rfl rfl ?_
            refine v_go mt_164 rfl rfl ?_
            exact h
          · replace h := h.2 (Int.not_le.mp c)
            refine v_s mt_164 rfl rfl rfl ?_
            refine v_go mt_164 rfl rfl ?_
            refine v_is (L' := [some (.ref 542), some (iv x1), some (iv x2), some (iv x3), some (iv x4), some (iv x5), some (iv x6), some (iv x4)]) mt_164 rfl (Nat.le_of_ble_eq_true rfl) rfl ?_
            refine v_s mt_164 rfl rfl rfl ?_
            refine v_gr (w := 544) 9 mt_164 rfl rfl c_542 (by decide) (g_12_9 c_542) ?_
            refine v_s mt_164 rfl rfl rfl ?_
            refine j_gi (w := J 542 2) 2 mt_164 rfl rfl c_542 (by decide) rfl ?_
            refine v_s mt_164 rfl rfl rfl ?_
            refine v_bp (v := Int32.ofInt 24) mt_164 rfl rfl ?_
            refine v_bp (v := Int32.ofInt 8) mt_164 rfl rfl ?_
            refine v_s mt_164 rfl rfl rfl ?_
            refine v_ic (v := Int32.ofInt 4) mt_164 rfl rfl ?_
            refine j_rem (e := bRem x6 4) mt_164 rfl ⟨by decide, by decide⟩ (by decide) rfl ?_
            refine j_mul (e := 8 * (bRem x6 4)) mt_164 rfl rfl ?_
            refine j_sub (e := 24 - (8 * (bRem x6 4))) mt_164 rfl rfl ?_
            refine j_shr (e := bShr x4 (24 - (8 * (bRem x6 4)))) mt_164 rfl rfl ?_
            refine v_sp (v := Int32.ofInt 255) mt_164 rfl rfl ?_
            refine j_and (e := bAnd (bShr x4 (24 - (8 * (bRem x6 4)))) 255) mt_164 rfl rfl ?_
            obtain ⟨z3, h⟩ := h
            refine j_as mt_164 rfl c_544 z3 (by decide) ?_
            refine v_s mt_164 rfl rfl rfl ?_
            refine v_s mt_164 rfl rfl rfl ?_
            refine j_gi (w := J 542 2) 2 mt_164 rfl rfl c_542 (by decide) ((up_na (by decide)).trans rfl) ?_
            refine v_ic (v := Int32.ofInt 1) mt_164 rfl rfl ?_
            refine j_add (e := (J 542 2) + 1) mt_164 rfl rfl ?_
            refine j_pi 2 mt_164 rfl rfl c_542 (by decide) ?_
            refine j_inc (e := x6 + 1) (L' := [some (.ref 542), some (iv x1), some (iv x2), some (iv x3), some (iv x4), some (iv x5), some (iv (x6 + 1)), some (iv x4)]) mt_164 rfl rfl (Nat.le_of_ble_eq_true rfl) rfl rfl ?_
            refine v_go mt_164 rfl rfl ?_
            exact h
        · replace h := h.2 (Int.not_le.mp c)
          refine v_s mt_164 rfl rfl rfl ?_
          refine v_go mt_164 rfl rfl ?_
          refine v_is (L' := [some (.ref 542), some (iv x1), some (iv x2), some (iv x3), some (iv x4), some (iv x5), some (iv x6), some (iv x3)]) mt_164 rfl (Nat.le_of_ble_eq_true rfl) rfl ?_
          refine v_s mt_164 rfl rfl rfl ?_
          refine v_gr (w := 544) 9 mt_164 rfl rfl c_542 (by decide) (g_12_9 c_542) ?_
          refine v_s mt_164 rfl rfl rfl ?_
          refine j_gi (w := J 542 2) 2 mt_164 rfl rfl c_542 (by decide) rfl ?_
          refine v_s mt_164 rfl rfl rfl ?_
          refine v_bp (v := Int32.ofInt 24) mt_164 rfl rfl ?_
          refine v_bp (v := Int32.ofInt 8) mt_164 rfl rfl ?_
          refine v_s mt_164 rfl rfl rfl ?_
          refine v_ic (v := Int32.ofInt 4) mt_164 rfl rfl ?_
          refine j_rem (e := bRem x6 4) mt_164 rfl ⟨by decide, by decide⟩ (by decide) rfl ?_
          refine j_mul (e := 8 * (bRem x6 4)) mt_164 rfl rfl ?_
          refine j_sub (e := 24 - (8 * (bRem x6 4))) mt_164 rfl rfl ?_
          refine j_shr (e := bShr x3 (24 - (8 * (bRem x6 4)))) mt_164 rfl rfl ?_
          refine v_sp (v := Int32.ofInt 255) mt_164 rfl rfl ?_
          refine j_and (e := bAnd (bShr x3 (24 - (8 * (bRem x6 4)))) 255) mt_164 rfl rfl ?_
          obtain ⟨z4, h⟩ := h
          refine j_as mt_164 rfl c_544 z4 (by decide) ?_
          refine v_s mt_164 rfl rfl rfl ?_
          refine v_s mt_164 rfl rfl rfl ?_
          refine j_gi (w := J 542 2) 2 mt_164 rfl rfl c_542 (by decide) ((up_na (by decide)).trans rfl) ?_
          refine v_ic (v := Int32.ofInt 1) mt_164 rfl rfl ?_
          refine j_add (e := (J 542 2) + 1) mt_164 rfl rfl ?_
          refine j_pi 2 mt_164 rfl rfl c_542 (by decide) ?_
          refine j_inc (e := x6 + 1) (L' := [some (.ref 542), some (iv x1), some (iv x2), some (iv x3), some (iv x4), some (iv x5), some (iv (x6 + 1)), some (iv x3)]) mt_164 rfl rfl (Nat.le_of_ble_eq_true rfl) rfl rfl ?_
          refine v_go mt_164 rfl rfl ?_
          exact h
      · replace h := h.2 (Int.not_le.mp c)
        refine v_s mt_164 rfl rfl rfl ?_
        refine v_go mt_164 rfl rfl ?_
        refine v_is (L' := [some (.ref 542), some (iv x1), some (iv x2), some (iv x3), some (iv x4), some (iv x5), some (iv x6), some (iv x2)]) mt_164 rfl (Nat.le_of_ble_eq_true rfl) rfl ?_
        refine v_s mt_164 rfl rfl rfl ?_
        refine v_gr (w := 544) 9 mt_164 rfl rfl c_542 (by decide) (g_12_9 c_542) ?_
        refine v_s mt_164 rfl rfl rfl ?_
        refine j_gi (w := J 542 2) 2 mt_164 rfl rfl c_542 (by decide) rfl ?_
        refine v_s mt_164 rfl rfl rfl ?_
        refine v_bp (v := Int32.ofInt 24) mt_164 rfl rfl ?_
        refine v_bp (v := Int32.ofInt 8) mt_164 rfl rfl ?_
        refine v_s mt_164 rfl rfl rfl ?_
        refine v_ic (v := Int32.ofInt 4) mt_164 rfl rfl ?_
        refine j_rem (e := bRem x6 4) mt_164 rfl ⟨by decide, by decide⟩ (by decide) rfl ?_
        refine j_mul (e := 8 * (bRem x6 4)) mt_164 rfl rfl ?_
        refine j_sub (e := 24 - (8 * (bRem x6 4))) mt_164 rfl rfl ?_
        refine j_shr (e := bShr x2 (24 - (8 * (bRem x6 4)))) mt_164 rfl rfl ?_
        refine v_sp (v := Int32.ofInt 255) mt_164 rfl rfl ?_
        refine j_and (e := bAnd (bShr x2 (24 - (8 * (bRem x6 4)))) 255) mt_164 rfl rfl ?_
        obtain ⟨z5, h⟩ := h
        refine j_as mt_164 rfl c_544 z5 (by decide) ?_
        refine v_s mt_164 rfl rfl rfl ?_
        refine v_s mt_164 rfl rfl rfl ?_
        refine j_gi (w := J 542 2) 2 mt_164 rfl rfl c_542 (by decide) ((up_na (by decide)).trans rfl) ?_
        refine v_ic (v := Int32.ofInt 1) mt_164 rfl rfl ?_
        refine j_add (e := (J 542 2) + 1) mt_164 rfl rfl ?_
        refine j_pi 2 mt_164 rfl rfl c_542 (by decide) ?_
        refine j_inc (e := x6 + 1) (L' := [some (.ref 542), some (iv x1), some (iv x2), some (iv x3), some (iv x4), some (iv x5), some (iv (x6 + 1)), some (iv x2)]) mt_164 rfl rfl (Nat.le_of_ble_eq_true rfl) rfl rfl ?_
        refine v_go mt_164 rfl rfl ?_
        exact h
    · replace h := h.2 (Int.not_le.mp c)
      refine v_s mt_164 rfl rfl rfl ?_
      refine v_go mt_164 rfl rfl ?_
      refine v_is (L' := [some (.ref 542), some (iv x1), some (iv x2), some (iv x3), some (iv x4), some (iv x5), some (iv x6), some (iv x1)]) mt_164 rfl (Nat.le_of_ble_eq_true rfl) rfl ?_
      refine v_s mt_164 rfl rfl rfl ?_
      refine v_gr (w := 544) 9 mt_164 rfl rfl c_542 (by decide) (g_12_9 c_542) ?_
      refine v_s mt_164 rfl rfl rfl ?_
      refine j_gi (w := J 542 2) 2 mt_164 rfl rfl c_542 (by decide) rfl ?_
      refine v_s mt_164 rfl rfl rfl ?_
      refine v_bp (v := Int32.ofInt 24) mt_164 rfl rfl ?_
      refine v_bp (v := Int32.ofInt 8) mt_164 rfl rfl ?_
      refine v_s mt_164 rfl rfl rfl ?_
      refine v_ic (v := Int32.ofInt 4) mt_164 rfl rfl ?_
      refine j_rem (e := bRem x6 4) mt_164 rfl ⟨by decide, by decide⟩ (by decide) rfl ?_
      refine j_mul (e := 8 * (bRem x6 4)) mt_164 rfl rfl ?_
      refine j_sub (e := 24 - (8 * (bRem x6 4))) mt_164 rfl rfl ?_
      refine j_shr (e := bShr x1 (24 - (8 * (bRem x6 4)))) mt_164 rfl rfl ?_
      refine v_sp (v := Int32.ofInt 255) mt_164 rfl rfl ?_
      refine j_and (e := bAnd (bShr x1 (24 - (8 * (bRem x6 4)))) 255) mt_164 rfl rfl ?_
      obtain ⟨z6, h⟩ := h
      refine j_as mt_164 rfl c_544 z6 (by decide) ?_
      refine v_s mt_164 rfl rfl rfl ?_
      refine v_s mt_164 rfl rfl rfl ?_
      refine j_gi (w := J 542 2) 2 mt_164 rfl rfl c_542 (by decide) ((up_na (by decide)).trans rfl) ?_
      refine v_ic (v := Int32.ofInt 1) mt_164 rfl rfl ?_
      refine j_add (e := (J 542 2) + 1) mt_164 rfl rfl ?_
      refine j_pi 2 mt_164 rfl rfl c_542 (by decide) ?_
      refine j_inc (e := x6 + 1) (L' := [some (.ref 542), some (iv x1), some (iv x2), some (iv x3), some (iv x4), some (iv x5), some (iv (x6 + 1)), some (iv x1)]) mt_164 rfl rfl (Nat.le_of_ble_eq_true rfl) rfl rfl ?_
      refine v_go mt_164 rfl rfl ?_
      exact h
set_option maxHeartbeats 600000 in
theorem b_219_0 {X : Nat × (Nat → Int32)} {d : Nat} {J : Nat → Nat → Int} {sw : Bool × Bool × Bool} {lg : Nat → Nat → Int64} {x : Nat} {K : (Option Value ⊕ Nat) → mM → Prop} {o1 : Option Value}
    (h : InR (J 542 40) ∧ (¬ J 542 40 = 0 → VV X d 219 (26, [some (.ref 542), some (iv 0)], [], mj (m_up (m_up J 542 0 0) 542 40 ((J 542 40) - 1)) sw lg x) K) ∧ (J 542 40 = 0 → K (.inl (some (iv (-1)))) (mj (m_up J 542 0 0) sw lg x))) : VV X d 219 (0, [some (.ref 542), o1], [], mj J sw lg x) K := by
  refine v_s mt_219 rfl rfl rfl ?_
  refine v_ic (v := Int32.ofInt 0) mt_219 rfl rfl ?_
  refine j_pi 0 mt_219 rfl rfl c_542 (by decide) ?_
  refine v_s mt_219 rfl rfl rfl ?_
  refine j_gi (w := J 542 40) 40 mt_219 rfl rfl c_542 (by decide) ((up_nk (by decide)).trans rfl) ?_
  obtain ⟨z1, h⟩ := h
  refine j_if1 mt_219 rfl rfl z1 (fun c => ?_) (fun c => ?_)
  · replace h := h.1 c
    refine v_s mt_219 rfl rfl rfl ?_
    refine v_s mt_219 rfl rfl rfl ?_
    refine j_gi (w := J 542 40) 40 mt_219 rfl rfl c_542 (by decide) ((up_nk (by decide)).trans rfl) ?_
    refine v_ic (v := Int32.ofInt 1) mt_219 rfl rfl ?_
    refine j_sub (e := (J 542 40) - 1) mt_219 rfl rfl ?_
    refine j_pi 40 mt_219 rfl rfl c_542 (by decide) ?_
    refine v_ic (v := Int32.ofInt 0) mt_219 rfl rfl ?_
    refine v_isn (L' := [some (.ref 542), some (iv 0)]) mt_219 rfl (Nat.le_of_ble_eq_true rfl) rfl ?_
    exact h
  · replace h := h.2 (Decidable.not_not.mp c)
    refine v_ic (v := Int32.ofInt (-1)) mt_219 rfl rfl ?_
    exact v_ret mt_219 rfl rfl rfl h
set_option maxHeartbeats 600000 in
theorem b_219_26 {X : Nat × (Nat → Int32)} {d : Nat} {J : Nat → Nat → Int} {sw : Bool × Bool × Bool} {lg : Nat → Nat → Int64} {x : Nat} {K : (Option Value ⊕ Nat) → mM → Prop} {x1 : Int}
    (h : InR x1 ∧ (50 ≤ x1 → K (.inl (some (iv (J 542 40)))) (mj (m_up J 542 41 0) sw lg x)) ∧ (x1 < 50 → ((0 ≤ (50 * (J 542 40)) + x1 ∧ (50 * (J 542 40)) + x1 < 800) ∧ (0 ≤ x1 ∧ x1 < 50) ∧ VV X d 219 (26, [some (.ref 542), some (iv (x1 + 1))], [], mj (m_up J 561 x1.toNat (J 563 (((50 * (J 542 40)) + x1).toNat))) sw lg x) K))) : VV X d 219 (26, [some (.ref 542), some (iv x1)], [], mj J sw lg x) K := by
  refine v_s mt_219 rfl rfl rfl ?_
  refine v_bp (v := Int32.ofInt 50) mt_219 rfl rfl ?_
  obtain ⟨z1, h⟩ := h
  refine j_if2 mt_219 rfl rfl z1 ⟨by decide, by decide⟩ (fun c => ?_) (fun c => ?_)
  · replace h := h.1 c
    refine v_s mt_219 rfl rfl rfl ?_
    refine v_ic (v := Int32.ofInt 0) mt_219 rfl rfl ?_
    refine j_pi 41 mt_219 rfl rfl c_542 (by decide) ?_
    refine v_s mt_219 rfl rfl rfl ?_
    refine j_gi (w := J 542 40) 40 mt_219 rfl rfl c_542 (by decide) ((up_nk (by decide)).trans rfl) ?_
    exact v_ret mt_219 rfl rfl rfl h
  · replace h := h.2 (Int.not_le.mp c)
    refine v_s mt_219 rfl rfl rfl ?_
    refine v_gr (w := 561) 45 mt_219 rfl rfl c_542 (by decide) (g_12_45 c_542) ?_
    refine v_s mt_219 rfl rfl rfl ?_
    refine v_s mt_219 rfl rfl rfl ?_
    refine v_gr (w := 563) 47 mt_219 rfl rfl c_542 (by decide) (g_12_47 c_542) ?_
    refine v_bp (v := Int32.ofInt 50) mt_219 rfl rfl ?_
    refine v_s mt_219 rfl rfl rfl ?_
    refine j_gi (w := J 542 40) 40 mt_219 rfl rfl c_542 (by decide) rfl ?_
    refine j_mul (e := 50 * (J 542 40)) mt_219 rfl rfl ?_
    refine v_s mt_219 rfl rfl rfl ?_
    refine j_add (e := (50 * (J 542 40)) + x1) mt_219 rfl rfl ?_
    obtain ⟨z2, h⟩ := h
    refine j_al (w := J 563 (((50 * (J 542 40)) + x1).toNat)) mt_219 rfl c_563 z2 (by decide) rfl ?_
    obtain ⟨z3, h⟩ := h
    refine j_as mt_219 rfl c_561 z3 (by decide) ?_
    refine j_inc (e := x1 + 1) (L' := [some (.ref 542), some (iv (x1 + 1))]) mt_219 rfl rfl (Nat.le_of_ble_eq_true rfl) rfl rfl ?_
    refine v_go mt_219 rfl rfl ?_
    exact h
set_option maxHeartbeats 600000 in
theorem b_270_0 {X : Nat × (Nat → Int32)} {d : Nat} {J : Nat → Nat → Int} {sw : Bool × Bool × Bool} {lg : Nat → Nat → Int64} {x : Nat} {K : (Option Value ⊕ Nat) → mM → Prop} {r2 n2 : Nat} {x1 x3 x4 : Int} {o5 : Option Value} (h2 : SH[r2]? = some (0, n2)) (hn2 : n2 ≤ 2147483648)
    (h : VV X d 270 (3, [some (.ref 542), some (iv x1), some (.ref r2), some (iv x3), some (iv x4), some (iv 0)], [], mj J sw lg x) K) : VV X d 270 (0, [some (.ref 542), some (iv x1), some (.ref r2), some (iv x3), some (iv x4), o5], [], mj J sw lg x) K := by
  refine v_ic (v := Int32.ofInt 0) mt_270 rfl rfl ?_
  refine v_is (L' := [some (.ref 542), some (iv x1), some (.ref r2), some (iv x3), some (iv x4), some (iv 0)]) mt_270 rfl (Nat.le_of_ble_eq_true rfl) rfl ?_
  exact h
set_option maxHeartbeats 600000 in
theorem b_270_3 {X : Nat × (Nat → Int32)} {d : Nat} {J : Nat → Nat → Int} {sw : Bool × Bool × Bool} {lg : Nat → Nat → Int64} {x : Nat} {K : (Option Value ⊕ Nat) → mM → Prop} {r2 n2 : Nat} {x1 x3 x4 x5 : Int} (h2 : SH[r2]? = some (0, n2)) (hn2 : n2 ≤ 2147483648)
    (h : InR x5 ∧ InR x3 ∧ (x3 ≤ x5 → K (.inl (some (iv (x1 + x3)))) (mj J sw lg x)) ∧ (x5 < x3 → (InR x4 ∧ (x4 = 0 → ((0 ≤ x1 + x5 ∧ x1 + x5 < 2553) ∧ (0 ≤ x5 ∧ x5 < n2) ∧ VV X d 270 (3, [some (.ref 542), some (iv x1), some (.ref r2), some (iv x3), some (iv x4), some (iv (x5 + 1))], [], mj (m_up J r2 x5.toNat (J 572 ((x1 + x5).toNat))) sw lg x) K)) ∧ (¬ x4 = 0 → ((0 ≤ x5 ∧ x5 < n2) ∧ (0 ≤ x1 + x5 ∧ x1 + x5 < 2553) ∧ VV X d 270 (3, [some (.ref 542), some (iv x1), some (.ref r2), some (iv x3), some (iv x4), some (iv (x5 + 1))], [], mj (m_up J 572 ((x1 + x5).toNat) (J r2 x5.toNat)) sw lg x) K))))) : VV X d 270 (3, [some (.ref 542), some (iv x1), some (.ref r2), some (iv x3), some (iv x4), some (iv x5)], [], mj J sw lg x) K := by
  refine v_s mt_270 rfl rfl rfl ?_
  refine v_s mt_270 rfl rfl rfl ?_
  obtain ⟨z1, h⟩ := h
  obtain ⟨z2, h⟩ := h
  refine j_if2 mt_270 rfl rfl z1 z2 (fun c => ?_) (fun c => ?_)
  · replace h := h.1 c
    refine v_s mt_270 rfl rfl rfl ?_
    refine v_s mt_270 rfl rfl rfl ?_
    refine j_add (e := x1 + x3) mt_270 rfl rfl ?_
    exact v_ret mt_270 rfl rfl rfl h
  · replace h := h.2 (Int.not_le.mp c)
    refine v_s mt_270 rfl rfl rfl ?_
    obtain ⟨z3, h⟩ := h
    refine j_if1 mt_270 rfl rfl z3 (fun c => ?_) (fun c => ?_)
    · replace h := h.1 c
      refine v_s mt_270 rfl rfl rfl ?_
      refine v_s mt_270 rfl rfl rfl ?_
      refine v_s mt_270 rfl rfl rfl ?_
      refine v_gr (w := 572) 58 mt_270 rfl rfl c_542 (by decide) (g_12_58 c_542) ?_
      refine v_s mt_270 rfl rfl rfl ?_
      refine v_s mt_270 rfl rfl rfl ?_
      refine j_add (e := x1 + x5) mt_270 rfl rfl ?_
      obtain ⟨z4, h⟩ := h
      refine j_al (w := J 572 ((x1 + x5).toNat)) mt_270 rfl c_572 z4 (by decide) rfl ?_
      obtain ⟨z5, h⟩ := h
      refine j_as mt_270 rfl h2 z5 hn2 ?_
      refine j_inc (e := x5 + 1) (L' := [some (.ref 542), some (iv x1), some (.ref r2), some (iv x3), some (iv x4), some (iv (x5 + 1))]) mt_270 rfl rfl (Nat.le_of_ble_eq_true rfl) rfl rfl ?_
      refine v_go mt_270 rfl rfl ?_
      exact h
    · replace h := h.2 c
      refine v_s mt_270 rfl rfl rfl ?_
      refine v_gr (w := 572) 58 mt_270 rfl rfl c_542 (by decide) (g_12_58 c_542) ?_
      refine v_s mt_270 rfl rfl rfl ?_
      refine v_s mt_270 rfl rfl rfl ?_
      refine j_add (e := x1 + x5) mt_270 rfl rfl ?_
      refine v_s mt_270 rfl rfl rfl ?_
      refine v_s mt_270 rfl rfl rfl ?_
      obtain ⟨z6, h⟩ := h
      refine j_al (w := J r2 x5.toNat) mt_270 rfl h2 z6 hn2 rfl ?_
      obtain ⟨z7, h⟩ := h
      refine j_as mt_270 rfl c_572 z7 (by decide) ?_
      refine v_go mt_270 rfl rfl ?_
      refine j_inc (e := x5 + 1) (L' := [some (.ref 542), some (iv x1), some (.ref r2), some (iv x3), some (iv x4), some (iv (x5 + 1))]) mt_270 rfl rfl (Nat.le_of_ble_eq_true rfl) rfl rfl ?_
      refine v_go mt_270 rfl rfl ?_
      exact h
set_option maxHeartbeats 600000 in
theorem b_272_0 {X : Nat × (Nat → Int32)} {d : Nat} {J : Nat → Nat → Int} {sw : Bool × Bool × Bool} {lg : Nat → Nat → Int64} {x : Nat} {K : (Option Value ⊕ Nat) → mM → Prop} (hd : 2 ≤ d)
    (h : InR (J 542 59) ∧ (¬ J 542 59 = 3 → (∃ (c2 : Int) (J1 : Nat → Nat → Int), EE X 0 270 [.ref 542, iv (851 * (J 542 59)), .ref 561, iv 50, iv 1] (mj (m_up J 542 0 0) sw lg x) (.inl (some (iv c2))) (mj J1 sw lg x) ∧ ∃ (c4 : Int) (J3 : Nat → Nat → Int), EE X 0 270 [.ref 542, iv c2, .ref 563, iv 800, iv 1] (mj J1 sw lg x) (.inl (some (iv c4))) (mj J3 sw lg x) ∧ (0 ≤ c4 ∧ c4 < 2553) ∧ K (.inl (some (iv ((J3 542 59) + 1)))) (mj (m_up (m_up J3 572 c4.toNat (J3 542 40)) 542 59 ((J3 542 59) + 1)) sw lg x))) ∧ (J 542 59 = 3 → K (.inl (some (iv (-1)))) (mj (m_up J 542 0 0) sw lg x))) : VV X d 272 (0, [some (.ref 542)], [], mj J sw lg x) K := by
  refine v_s mt_272 rfl rfl rfl ?_
  refine v_ic (v := Int32.ofInt 0) mt_272 rfl rfl ?_
  refine j_pi 0 mt_272 rfl rfl c_542 (by decide) ?_
  refine v_s mt_272 rfl rfl rfl ?_
  refine j_gi (w := J 542 59) 59 mt_272 rfl rfl c_542 (by decide) ((up_nk (by decide)).trans rfl) ?_
  refine v_ic (v := Int32.ofInt 3) mt_272 rfl rfl ?_
  obtain ⟨z1, h⟩ := h
  refine j_if2 mt_272 rfl rfl z1 ⟨by decide, by decide⟩ (fun c => ?_) (fun c => ?_)
  · replace h := h.1 c
    refine v_s mt_272 rfl rfl rfl ?_
    refine v_s mt_272 rfl rfl rfl ?_
    refine j_gi (w := J 542 59) 59 mt_272 rfl rfl c_542 (by decide) ((up_nk (by decide)).trans rfl) ?_
    refine v_ic (v := Int32.ofInt 1) mt_272 rfl rfl ?_
    refine v_inl (L1 := [some (.ref 542), some (iv (J 542 59)), some (iv 1), none]) mt_272 rfl rfl mt_271 rfl rfl (m_callj (As := [iv (J 542 59), iv 1]) (rest := []) rfl rfl c_542 rfl (Nat.le_of_ble_eq_true rfl) (Nat.le_of_ble_eq_true rfl)) rfl (by clear h; omega) ?_
    refine v_s mt_271 rfl rfl rfl ?_
    refine v_sp (v := Int32.ofInt 851) mt_271 rfl rfl ?_
    refine v_s mt_271 rfl rfl rfl ?_
    refine j_mul (e := 851 * (J 542 59)) mt_271 rfl rfl ?_
    refine v_s mt_271 rfl rfl rfl ?_
    refine v_gr (w := 561) 45 mt_271 rfl rfl c_542 (by decide) (g_12_45 c_542) ?_
    refine v_bp (v := Int32.ofInt 50) mt_271 rfl rfl ?_
    refine v_s mt_271 rfl rfl rfl ?_
    obtain ⟨c2, J1, z2, h⟩ := h
    refine v_call (d1 := 0) mt_271 rfl rfl mt_270 rfl rfl (m_callj (As := [iv (851 * (J 542 59)), .ref 561, iv 50, iv 1]) (rest := []) rfl rfl c_542 rfl (Nat.le_of_ble_eq_true rfl) (Nat.le_of_ble_eq_true rfl)) z2 (by clear h; omega) ?_
    refine v_isn (L' := [some (.ref 542), some (iv (J 542 59)), some (iv 1), some (iv c2)]) mt_271 rfl (Nat.le_of_ble_eq_true rfl) rfl ?_
    refine v_s mt_271 rfl rfl rfl ?_
    refine v_s mt_271 rfl rfl rfl ?_
    refine v_s mt_271 rfl rfl rfl ?_
    refine v_gr (w := 563) 47 mt_271 rfl rfl c_542 (by decide) (g_12_47 c_542) ?_
    refine v_sp (v := Int32.ofInt 800) mt_271 rfl rfl ?_
    refine v_s mt_271 rfl rfl rfl ?_
    obtain ⟨c4, J3, z3, h⟩ := h
    refine v_call (d1 := 0) mt_271 rfl rfl mt_270 rfl rfl (m_callj (As := [iv c2, .ref 563, iv 800, iv 1]) (rest := []) rfl rfl c_542 rfl (Nat.le_of_ble_eq_true rfl) (Nat.le_of_ble_eq_true rfl)) z3 (by clear h; omega) ?_
    refine v_isn (L' := [some (.ref 542), some (iv (J 542 59)), some (iv 1), some (iv c4)]) mt_271 rfl (Nat.le_of_ble_eq_true rfl) rfl ?_
    refine v_s mt_271 rfl rfl rfl ?_
    refine j_if1 mt_271 rfl rfl ⟨by decide, by decide⟩ (fun c => absurd (show (1 : Int) = 0 from c) (by decide)) (fun _ => ?_)
    refine v_s mt_271 rfl rfl rfl ?_
    refine v_gr (w := 572) 58 mt_271 rfl rfl c_542 (by decide) (g_12_58 c_542) ?_
    refine v_s mt_271 rfl rfl rfl ?_
    refine v_s mt_271 rfl rfl rfl ?_
    refine j_gi (w := J3 542 40) 40 mt_271 rfl rfl c_542 (by decide) rfl ?_
    obtain ⟨z4, h⟩ := h
    refine j_as mt_271 rfl c_572 z4 (by decide) ?_
    refine v_go mt_271 rfl rfl ?_
    refine v_ret mt_271 rfl rfl rfl ?_
    refine v_s mt_272 rfl rfl rfl ?_
    refine v_s mt_272 rfl rfl rfl ?_
    refine j_gi (w := J3 542 59) 59 mt_272 rfl rfl c_542 (by decide) ((up_na (by decide)).trans rfl) ?_
    refine v_ic (v := Int32.ofInt 1) mt_272 rfl rfl ?_
    refine j_add (e := (J3 542 59) + 1) mt_272 rfl rfl ?_
    refine j_pi 59 mt_272 rfl rfl c_542 (by decide) ?_
    refine v_s mt_272 rfl rfl rfl ?_
    refine j_gi (w := (J3 542 59) + 1) 59 mt_272 rfl rfl c_542 (by decide) (up_eq _ _ _ _) ?_
    exact v_ret mt_272 rfl rfl rfl h
  · replace h := h.2 (Decidable.not_not.mp c)
    refine v_ic (v := Int32.ofInt (-1)) mt_272 rfl rfl ?_
    exact v_ret mt_272 rfl rfl rfl h
set_option maxHeartbeats 600000 in
theorem b_273_0 {X : Nat × (Nat → Int32)} {d : Nat} {J : Nat → Nat → Int} {sw : Bool × Bool × Bool} {lg : Nat → Nat → Int64} {x : Nat} {K : (Option Value ⊕ Nat) → mM → Prop} (hd : 2 ≤ d)
    (h : InR (J 542 59) ∧ (¬ J 542 59 = 0 → (∃ (c2 : Int) (J1 : Nat → Nat → Int), EE X 0 270 [.ref 542, iv (851 * ((J 542 59) - 1)), .ref 561, iv 50, iv 0] (mj (m_up (m_up J 542 0 0) 542 59 ((J 542 59) - 1)) sw lg x) (.inl (some (iv c2))) (mj J1 sw lg x) ∧ ∃ (c4 : Int) (J3 : Nat → Nat → Int), EE X 0 270 [.ref 542, iv c2, .ref 563, iv 800, iv 0] (mj J1 sw lg x) (.inl (some (iv c4))) (mj J3 sw lg x) ∧ (0 ≤ c4 ∧ c4 < 2553) ∧ K (.inl (some (iv (J3 542 59)))) (mj (m_up (m_up J3 542 40 (J3 572 c4.toNat)) 542 41 0) sw lg x))) ∧ (J 542 59 = 0 → K (.inl (some (iv (-1)))) (mj (m_up J 542 0 0) sw lg x))) : VV X d 273 (0, [some (.ref 542)], [], mj J sw lg x) K := by
  refine v_s mt_273 rfl rfl rfl ?_
  refine v_ic (v := Int32.ofInt 0) mt_273 rfl rfl ?_
  refine j_pi 0 mt_273 rfl rfl c_542 (by decide) ?_
  refine v_s mt_273 rfl rfl rfl ?_
  refine j_gi (w := J 542 59) 59 mt_273 rfl rfl c_542 (by decide) ((up_nk (by decide)).trans rfl) ?_
  obtain ⟨z1, h⟩ := h
  refine j_if1 mt_273 rfl rfl z1 (fun c => ?_) (fun c => ?_)
  · replace h := h.1 c
    refine v_s mt_273 rfl rfl rfl ?_
    refine v_s mt_273 rfl rfl rfl ?_
    refine j_gi (w := J 542 59) 59 mt_273 rfl rfl c_542 (by decide) ((up_nk (by decide)).trans rfl) ?_
    refine v_ic (v := Int32.ofInt 1) mt_273 rfl rfl ?_
    refine j_sub (e := (J 542 59) - 1) mt_273 rfl rfl ?_
    refine j_pi 59 mt_273 rfl rfl c_542 (by decide) ?_
    refine v_s mt_273 rfl rfl rfl ?_
    refine v_s mt_273 rfl rfl rfl ?_
    refine j_gi (w := (J 542 59) - 1) 59 mt_273 rfl rfl c_542 (by decide) (up_eq _ _ _ _) ?_
    refine v_ic (v := Int32.ofInt 0) mt_273 rfl rfl ?_
    refine v_inl (L1 := [some (.ref 542), some (iv ((J 542 59) - 1)), some (iv 0), none]) mt_273 rfl rfl mt_271 rfl rfl (m_callj (As := [iv ((J 542 59) - 1), iv 0]) (rest := []) rfl rfl c_542 rfl (Nat.le_of_ble_eq_true rfl) (Nat.le_of_ble_eq_true rfl)) rfl (by clear h; omega) ?_
    refine v_s mt_271 rfl rfl rfl ?_
    refine v_sp (v := Int32.ofInt 851) mt_271 rfl rfl ?_
    refine v_s mt_271 rfl rfl rfl ?_
    refine j_mul (e := 851 * ((J 542 59) - 1)) mt_271 rfl rfl ?_
    refine v_s mt_271 rfl rfl rfl ?_
    refine v_gr (w := 561) 45 mt_271 rfl rfl c_542 (by decide) (g_12_45 c_542) ?_
    refine v_bp (v := Int32.ofInt 50) mt_271 rfl rfl ?_
    refine v_s mt_271 rfl rfl rfl ?_
    obtain ⟨c2, J1, z2, h⟩ := h
    refine v_call (d1 := 0) mt_271 rfl rfl mt_270 rfl rfl (m_callj (As := [iv (851 * ((J 542 59) - 1)), .ref 561, iv 50, iv 0]) (rest := []) rfl rfl c_542 rfl (Nat.le_of_ble_eq_true rfl) (Nat.le_of_ble_eq_true rfl)) z2 (by clear h; omega) ?_
    refine v_isn (L' := [some (.ref 542), some (iv ((J 542 59) - 1)), some (iv 0), some (iv c2)]) mt_271 rfl (Nat.le_of_ble_eq_true rfl) rfl ?_
    refine v_s mt_271 rfl rfl rfl ?_
    refine v_s mt_271 rfl rfl rfl ?_
    refine v_s mt_271 rfl rfl rfl ?_
    refine v_gr (w := 563) 47 mt_271 rfl rfl c_542 (by decide) (g_12_47 c_542) ?_
    refine v_sp (v := Int32.ofInt 800) mt_271 rfl rfl ?_
    refine v_s mt_271 rfl rfl rfl ?_
    obtain ⟨c4, J3, z3, h⟩ := h
    refine v_call (d1 := 0) mt_271 rfl rfl mt_270 rfl rfl (m_callj (As := [iv c2, .ref 563, iv 800, iv 0]) (rest := []) rfl rfl c_542 rfl (Nat.le_of_ble_eq_true rfl) (Nat.le_of_ble_eq_true rfl)) z3 (by clear h; omega) ?_
    refine v_isn (L' := [some (.ref 542), some (iv ((J 542 59) - 1)), some (iv 0), some (iv c4)]) mt_271 rfl (Nat.le_of_ble_eq_true rfl) rfl ?_
    refine v_s mt_271 rfl rfl rfl ?_
    refine j_if1 mt_271 rfl rfl ⟨by decide, by decide⟩ (fun _ => ?_) (fun c => (c (show (0 : Int) = 0 by decide)).elim)
    refine v_s mt_271 rfl rfl rfl ?_
    refine v_s mt_271 rfl rfl rfl ?_
    refine v_gr (w := 572) 58 mt_271 rfl rfl c_542 (by decide) (g_12_58 c_542) ?_
    refine v_s mt_271 rfl rfl rfl ?_
    obtain ⟨z4, h⟩ := h
    refine j_al (w := J3 572 c4.toNat) mt_271 rfl c_572 z4 (by decide) rfl ?_
    refine j_pi 40 mt_271 rfl rfl c_542 (by decide) ?_
    refine v_ret mt_271 rfl rfl rfl ?_
    refine v_s mt_273 rfl rfl rfl ?_
    refine v_ic (v := Int32.ofInt 0) mt_273 rfl rfl ?_
    refine j_pi 41 mt_273 rfl rfl c_542 (by decide) ?_
    refine v_s mt_273 rfl rfl rfl ?_
    refine j_gi (w := J3 542 59) 59 mt_273 rfl rfl c_542 (by decide) ((up_nk (by decide)).trans ((up_nk (by decide)).trans rfl)) ?_
    exact v_ret mt_273 rfl rfl rfl h
  · replace h := h.2 (Decidable.not_not.mp c)
    refine v_ic (v := Int32.ofInt (-1)) mt_273 rfl rfl ?_
    exact v_ret mt_273 rfl rfl rfl h
