set_option maxHeartbeats 600000 in
theorem b_93_0 {X : Nat × (Nat → Int32)} {d : Nat} {J : Nat → Nat → Int} {sw : Bool × Bool × Bool} {lg : Nat → Nat → Int64} {x : Nat} {K : (Option Value ⊕ Nat) → mM → Prop} {r0 : Nat} {o1 : Option Value} (h0 : SH[r0]? = some (14, 12))
    (h : VV X d 93 (33, [some (.ref r0), some (iv 0)], [], mj (m_up (m_up (m_up (m_up (m_up (m_up J r0 0 0) r0 1 0) r0 2 0) r0 3 0) r0 4 12) r0 5 0) sw lg x) K) : VV X d 93 (0, [some (.ref r0), o1], [], mj J sw lg x) K := by
  refine v_s mt_93 rfl rfl rfl ?_
  refine v_ic (v := Int32.ofInt 0) mt_93 rfl rfl ?_
  refine j_pi 0 mt_93 rfl rfl h0 (by decide) ?_
  refine v_s mt_93 rfl rfl rfl ?_
  refine v_ic (v := Int32.ofInt 0) mt_93 rfl rfl ?_
  refine j_pi 1 mt_93 rfl rfl h0 (by decide) ?_
  refine v_s mt_93 rfl rfl rfl ?_
  refine v_ic (v := Int32.ofInt 0) mt_93 rfl rfl ?_
  refine j_pi 2 mt_93 rfl rfl h0 (by decide) ?_
  refine v_s mt_93 rfl rfl rfl ?_
  refine v_ic (v := Int32.ofInt 0) mt_93 rfl rfl ?_
  refine j_pi 3 mt_93 rfl rfl h0 (by decide) ?_
  refine v_s mt_93 rfl rfl rfl ?_
  refine v_bp (v := Int32.ofInt 12) mt_93 rfl rfl ?_
  refine j_pi 4 mt_93 rfl rfl h0 (by decide) ?_
  refine v_s mt_93 rfl rfl rfl ?_
  refine v_ic (v := Int32.ofInt 0) mt_93 rfl rfl ?_
  refine j_pi 5 mt_93 rfl rfl h0 (by decide) ?_
  refine v_ic (v := Int32.ofInt 0) mt_93 rfl rfl ?_
  refine v_isn (L' := [some (.ref r0), some (iv 0)]) mt_93 rfl (Nat.le_of_ble_eq_true rfl) rfl ?_
  exact h
set_option maxHeartbeats 600000 in
theorem b_93_33 {X : Nat × (Nat → Int32)} {d : Nat} {J : Nat → Nat → Int} {sw : Bool × Bool × Bool} {lg : Nat → Nat → Int64} {x : Nat} {K : (Option Value ⊕ Nat) → mM → Prop} {r0 : Nat} {x1 : Int} (h0 : SH[r0]? = some (14, 12))
    (h : InR x1 ∧ (9 ≤ x1 → K (.inl none) (mj J sw lg x)) ∧ (x1 < 9 → ((0 ≤ x1 ∧ x1 < 9) ∧ VV X d 93 (33, [some (.ref r0), some (iv (x1 + 1))], [], mj (m_up J (r0 + 4) x1.toNat 0) sw lg x) K))) : VV X d 93 (33, [some (.ref r0), some (iv x1)], [], mj J sw lg x) K := by
  refine v_s mt_93 rfl rfl rfl ?_
  refine v_bp (v := Int32.ofInt 9) mt_93 rfl rfl ?_
  obtain ⟨z1, h⟩ := h
  refine j_if2 mt_93 rfl rfl z1 ⟨by decide, by decide⟩ (fun c => ?_) (fun c => ?_)
  · replace h := h.1 c
    exact v_ret mt_93 rfl rfl rfl h
  · replace h := h.2 (Int.not_le.mp c)
    refine v_s mt_93 rfl rfl rfl ?_
    refine v_gr (w := (r0 + 4)) 11 mt_93 rfl rfl h0 (by decide) (g_9_11 h0) ?_
    refine v_s mt_93 rfl rfl rfl ?_
    refine v_ic (v := Int32.ofInt 0) mt_93 rfl rfl ?_
    obtain ⟨z2, h⟩ := h
    refine j_as mt_93 rfl (shV r0 (SH_lt h0) h0).2.2.2.1 z2 (by decide) ?_
    refine j_inc (e := x1 + 1) (L' := [some (.ref r0), some (iv (x1 + 1))]) mt_93 rfl rfl (Nat.le_of_ble_eq_true rfl) rfl rfl ?_
    refine v_go mt_93 rfl rfl ?_
    exact h
set_option maxHeartbeats 600000 in
theorem b_94_0 {X : Nat × (Nat → Int32)} {d : Nat} {J : Nat → Nat → Int} {sw : Bool × Bool × Bool} {lg : Nat → Nat → Int64} {x : Nat} {K : (Option Value ⊕ Nat) → mM → Prop} {r0 : Nat} {o2 : Option Value} (h0 : SH[r0]? = some (14, 12)) (hd : 4 ≤ d)
    (h : ∃ (J1 : Nat → Nat → Int), EE X 0 93 [.ref r0] (mj J sw lg x) (.inl none) (mj J1 sw lg x) ∧ VV X d 94 (6, [some (.ref r0), some (.ref 1), some (iv 0)], [], mj J1 sw lg x) K) : VV X d 94 (0, [some (.ref r0), some (.ref 1), o2], [], mj J sw lg x) K := by
  refine v_s mt_94 rfl rfl rfl ?_
  obtain ⟨J1, z1, h⟩ := h
  refine v_call (d1 := 0) mt_94 rfl rfl mt_93 rfl rfl (m_callj (As := []) (rest := []) rfl rfl h0 rfl (Nat.le_of_ble_eq_true rfl) (Nat.le_of_ble_eq_true rfl)) z1 (by clear h; omega) ?_
  refine v_ic (v := Int32.ofInt 0) mt_94 rfl rfl ?_
  refine v_isn (L' := [some (.ref r0), some (.ref 1), some (iv 0)]) mt_94 rfl (Nat.le_of_ble_eq_true rfl) rfl ?_
  exact h
set_option maxHeartbeats 600000 in
theorem b_94_6 {X : Nat × (Nat → Int32)} {d : Nat} {J : Nat → Nat → Int} {sw : Bool × Bool × Bool} {lg : Nat → Nat → Int64} {x : Nat} {K : (Option Value ⊕ Nat) → mM → Prop} {r0 : Nat} {x2 : Int} (h0 : SH[r0]? = some (14, 12)) (hd : 4 ≤ d)
    (h : InR x2 ∧ (60 < x2 → K (.inl (some (iv 1))) (mj J sw lg x)) ∧ (x2 ≤ 60 → (∃ (c2 : Int) (J1 : Nat → Nat → Int), EE X 0 85 [.ref 1] (mj J sw lg x) (.inl (some (iv c2))) (mj J1 sw lg x) ∧ InR c2 ∧ (¬ c2 = (-1) → ((¬ x2 = 60 → (∃ (c4 : Int) (J3 : Nat → Nat → Int), EE X 3 95 [.ref r0, .ref 1, iv 0] (mj J1 sw lg x) (.inl (some (iv c4))) (mj J3 sw lg x) ∧ InR c4 ∧ (c4 = 0 → K (.inl (some (iv 0))) (mj J3 sw lg x)) ∧ (¬ c4 = 0 → (∃ (c6 : Int) (J5 : Nat → Nat → Int), EE X 1 87 [.ref 1, iv 59] (mj J3 sw lg x) (.inl (some (iv c6))) (mj J5 sw lg x) ∧ InR c6 ∧ (¬ c6 = 0 → VV X d 94 (6, [some (.ref r0), some (.ref 1), some (iv (x2 + 1))], [], mj J5 sw lg x) K) ∧ (c6 = 0 → K (.inl (some (iv 0))) (mj J5 sw lg x)))))) ∧ (x2 = 60 → (∃ (c8 : Int) (J7 : Nat → Nat → Int), EE X 3 95 [.ref r0, .ref 1, iv 1] (mj J1 sw lg x) (.inl (some (iv c8))) (mj J7 sw lg x) ∧ InR c8 ∧ (c8 = 0 → K (.inl (some (iv 0))) (mj J7 sw lg x)) ∧ (¬ c8 = 0 → (∃ (c10 : Int) (J9 : Nat → Nat → Int), EE X 1 87 [.ref 1, iv 59] (mj J7 sw lg x) (.inl (some (iv c10))) (mj J9 sw lg x) ∧ InR c10 ∧ (¬ c10 = 0 → VV X d 94 (6, [some (.ref r0), some (.ref 1), some (iv (x2 + 1))], [], mj J9 sw lg x) K) ∧ (c10 = 0 → K (.inl (some (iv 0))) (mj J9 sw lg x)))))))) ∧ (c2 = (-1) → K (.inl (some (iv 1))) (mj J1 sw lg x))))) : VV X d 94 (6, [some (.ref r0), some (.ref 1), some (iv x2)], [], mj J sw lg x) K := by
  refine v_s mt_94 rfl rfl rfl ?_
  refine v_bp (v := Int32.ofInt 60) mt_94 rfl rfl ?_
  obtain ⟨z1, h⟩ := h
  refine j_if2 mt_94 rfl rfl z1 ⟨by decide, by decide⟩ (fun c => ?_) (fun c => ?_)
  · replace h := h.1 c
    refine v_ic (v := Int32.ofInt 1) mt_94 rfl rfl ?_
    exact j_retb mt_94 rfl rfl (by decide) h
  · replace h := h.2 (Int.not_lt.mp c)
    refine v_s mt_94 rfl rfl rfl ?_
    refine v_inl (L1 := [some (.ref 1)]) mt_94 rfl rfl mt_86 rfl rfl (m_callj (As := []) (rest := []) rfl rfl c_1 rfl (Nat.le_of_ble_eq_true rfl) (Nat.le_of_ble_eq_true rfl)) rfl (by clear h; omega) ?_
    refine v_s mt_86 rfl rfl rfl ?_
    obtain ⟨c2, J1, z2, h⟩ := h
    refine v_call (d1 := 0) mt_86 rfl rfl mt_85 rfl rfl (m_callj (As := []) (rest := []) rfl rfl c_1 rfl (Nat.le_of_ble_eq_true rfl) (Nat.le_of_ble_eq_true rfl)) z2 (by clear h; omega) ?_
    refine v_ic (v := Int32.ofInt (-1)) mt_86 rfl rfl ?_
    obtain ⟨z3, h⟩ := h
    refine j_if2 mt_86 rfl rfl z3 ⟨by decide, by decide⟩ (fun c => ?_) (fun c => ?_)
    · replace h := h.1 c
      refine v_ic (v := Int32.ofInt 0) mt_86 rfl rfl ?_
      refine j_retb mt_86 rfl rfl (by decide) ?_
      refine j_if1 mt_94 rfl rfl ⟨by decide, by decide⟩ (fun _ => ?_) (fun c => (c (show (0 : Int) = 0 by decide)).elim)
      refine v_s mt_94 rfl rfl rfl ?_
      refine v_s mt_94 rfl rfl rfl ?_
      refine v_s mt_94 rfl rfl rfl ?_
      refine v_bp (v := Int32.ofInt 60) mt_94 rfl rfl ?_
      refine j_if2 mt_94 rfl rfl z1 ⟨by decide, by decide⟩ (fun c => ?_) (fun c => ?_)
      · replace h := h.1 c
        refine v_ic (v := Int32.ofInt 0) mt_94 rfl rfl ?_
        obtain ⟨c4, J3, z4, h⟩ := h
        refine v_call (d1 := 3) mt_94 rfl rfl mt_95 rfl rfl (m_callj (As := [.ref 1, iv 0]) (rest := []) rfl rfl h0 rfl (Nat.le_of_ble_eq_true rfl) (Nat.le_of_ble_eq_true rfl)) z4 (by clear h; omega) ?_
        obtain ⟨z5, h⟩ := h
        refine j_if1 mt_94 rfl rfl z5 (fun c => ?_) (fun c => ?_)
        · replace h := h.1 c
          refine v_ic (v := Int32.ofInt 0) mt_94 rfl rfl ?_
          exact j_retb mt_94 rfl rfl (by decide) h
        · replace h := h.2 c
          refine v_s mt_94 rfl rfl rfl ?_
          refine v_bp (v := Int32.ofInt 59) mt_94 rfl rfl ?_
          obtain ⟨c6, J5, z6, h⟩ := h
          refine v_call (d1 := 1) mt_94 rfl rfl mt_87 rfl rfl (m_callj (As := [iv 59]) (rest := []) rfl rfl c_1 rfl (Nat.le_of_ble_eq_true rfl) (Nat.le_of_ble_eq_true rfl)) z6 (by clear h; omega) ?_
          obtain ⟨z7, h⟩ := h
          refine j_if1 mt_94 rfl rfl z7 (fun c => ?_) (fun c => ?_)
          · replace h := h.1 c
            refine j_inc (e := x2 + 1) (L' := [some (.ref r0), some (.ref 1), some (iv (x2 + 1))]) mt_94 rfl rfl (Nat.le_of_ble_eq_true rfl) rfl rfl ?_
            refine v_go mt_94 rfl rfl ?_
            exact h
          · replace h := h.2 (Decidable.not_not.mp c)
            refine v_ic (v := Int32.ofInt 0) mt_94 rfl rfl ?_
            exact j_retb mt_94 rfl rfl (by decide) h
      · replace h := h.2 (Decidable.not_not.mp c)
        refine v_ic (v := Int32.ofInt 1) mt_94 rfl rfl ?_
        refine v_go mt_94 rfl rfl ?_
        obtain ⟨c8, J7, z8, h⟩ := h
        refine v_call (d1 := 3) mt_94 rfl rfl mt_95 rfl rfl (m_callj (As := [.ref 1, iv 1]) (rest := []) rfl rfl h0 rfl (Nat.le_of_ble_eq_true rfl) (Nat.le_of_ble_eq_true rfl)) z8 (by clear h; omega) ?_
        obtain ⟨z9, h⟩ := h
        refine j_if1 mt_94 rfl rfl z9 (fun c => ?_) (fun c => ?_)
        · replace h := h.1 c
          refine v_ic (v := Int32.ofInt 0) mt_94 rfl rfl ?_
          exact j_retb mt_94 rfl rfl (by decide) h
        · replace h := h.2 c
          refine v_s mt_94 rfl rfl rfl ?_
          refine v_bp (v := Int32.ofInt 59) mt_94 rfl rfl ?_
          obtain ⟨c10, J9, z10, h⟩ := h
          refine v_call (d1 := 1) mt_94 rfl rfl mt_87 rfl rfl (m_callj (As := [iv 59]) (rest := []) rfl rfl c_1 rfl (Nat.le_of_ble_eq_true rfl) (Nat.le_of_ble_eq_true rfl)) z10 (by clear h; omega) ?_
          obtain ⟨z11, h⟩ := h
          refine j_if1 mt_94 rfl rfl z11 (fun c => ?_) (fun c => ?_)
          · replace h := h.1 c
            refine j_inc (e := x2 + 1) (L' := [some (.ref r0), some (.ref 1), some (iv (x2 + 1))]) mt_94 rfl rfl (Nat.le_of_ble_eq_true rfl) rfl rfl ?_
            refine v_go mt_94 rfl rfl ?_
            exact h
          · replace h := h.2 (Decidable.not_not.mp c)
            refine v_ic (v := Int32.ofInt 0) mt_94 rfl rfl ?_
            exact j_retb mt_94 rfl rfl (by decide) h
    · replace h := h.2 (Decidable.not_not.mp c)
      refine v_ic (v := Int32.ofInt 1) mt_86 rfl rfl ?_
      refine v_go mt_86 rfl rfl ?_
      refine j_retb mt_86 rfl rfl (by decide) ?_
      refine j_if1 mt_94 rfl rfl ⟨by decide, by decide⟩ (fun c => absurd (show (1 : Int) = 0 from c) (by decide)) (fun _ => ?_)
      refine v_ic (v := Int32.ofInt 1) mt_94 rfl rfl ?_
      exact j_retb mt_94 rfl rfl (by decide) h
set_option maxHeartbeats 600000 in
theorem b_95_0 {X : Nat × (Nat → Int32)} {d : Nat} {J : Nat → Nat → Int} {sw : Bool × Bool × Bool} {lg : Nat → Nat → Int64} {x : Nat} {K : (Option Value ⊕ Nat) → mM → Prop} {r0 : Nat} {x2 : Int} {o3 : Option Value} (h0 : SH[r0]? = some (14, 12)) (hd : 3 ≤ d)
    (h : ∃ (J1 : Nat → Nat → Int), EE X 1 88 [.ref 1] (mj J sw lg x) (.inl none) (mj J1 sw lg x) ∧ ∃ (c3 : Int) (J2 : Nat → Nat → Int), EE X 1 96 [.ref 1] (mj J1 sw lg x) (.inl (some (iv c3))) (mj J2 sw lg x) ∧ InR c3 ∧ (¬ c3 = (-1) → (InR x2 ∧ (¬ x2 = 0 → K (.inl (some (iv 0))) (mj (m_up (m_up J2 1 6 3) 1 7 (J2 1 4)) sw lg x)) ∧ (x2 = 0 → (∃ (c5 : Int) (J4 : Nat → Nat → Int), EE X 0 97 [.ref r0, iv c3] (mj J2 sw lg x) (.inl (some (iv c5))) (mj J4 sw lg x) ∧ InR c5 ∧ (c5 = 0 → ((¬ c3 = 3 → (∃ (c7 : Int) (J6 : Nat → Nat → Int), EE X 2 98 [.ref r0, .ref 1, iv c3] (mj J4 sw lg x) (.inl (some (iv c7))) (mj J6 sw lg x) ∧ (c7 = 0 ∨ c7 = 1) ∧ K (.inl (some (iv c7))) (mj J6 sw lg x))) ∧ (c3 = 3 → (∃ (c9 : Int) (J8 : Nat → Nat → Int), EE X 2 101 [.ref r0, .ref 1] (mj J4 sw lg x) (.inl (some (iv c9))) (mj J8 sw lg x) ∧ (c9 = 0 ∨ c9 = 1) ∧ K (.inl (some (iv c9))) (mj J8 sw lg x))))) ∧ (¬ c5 = 0 → K (.inl (some (iv 0))) (mj (m_up (m_up J4 1 6 3) 1 7 (J4 1 4)) sw lg x)))))) ∧ (c3 = (-1) → K (.inl (some (iv 0))) (mj (m_up (m_up J2 1 6 1) 1 7 (J2 1 4)) sw lg x))) : VV X d 95 (0, [some (.ref r0), some (.ref 1), some (iv x2), o3], [], mj J sw lg x) K := by
  refine v_s mt_95 rfl rfl rfl ?_
  obtain ⟨J1, z1, h⟩ := h
  refine v_call (d1 := 1) mt_95 rfl rfl mt_88 rfl rfl (m_callj (As := []) (rest := []) rfl rfl c_1 rfl (Nat.le_of_ble_eq_true rfl) (Nat.le_of_ble_eq_true rfl)) z1 (by clear h; omega) ?_
  refine v_s mt_95 rfl rfl rfl ?_
  obtain ⟨c3, J2, z2, h⟩ := h
  refine v_call (d1 := 1) mt_95 rfl rfl mt_96 rfl rfl rfl z2 (by clear h; omega) ?_
  refine v_isn (L' := [some (.ref r0), some (.ref 1), some (iv x2), some (iv c3)]) mt_95 rfl (Nat.le_of_ble_eq_true rfl) rfl ?_
  refine v_s mt_95 rfl rfl rfl ?_
  refine v_ic (v := Int32.ofInt (-1)) mt_95 rfl rfl ?_
  obtain ⟨z3, h⟩ := h
  refine j_if2 mt_95 rfl rfl z3 ⟨by decide, by decide⟩ (fun c => ?_) (fun c => ?_)
  · replace h := h.1 c
    refine v_s mt_95 rfl rfl rfl ?_
    obtain ⟨z4, h⟩ := h
    refine j_if1 mt_95 rfl rfl z4 (fun c => ?_) (fun c => ?_)
    · replace h := h.1 c
      refine v_s mt_95 rfl rfl rfl ?_
      refine v_ic (v := Int32.ofInt 3) mt_95 rfl rfl ?_
      refine v_s mt_95 rfl rfl rfl ?_
      refine j_gi (w := J2 1 4) 4 mt_95 rfl rfl c_1 (by decide) rfl ?_
      refine v_inl (L1 := [some (.ref 1), some (iv 3), some (iv (J2 1 4))]) mt_95 rfl rfl mt_84 rfl rfl (m_callj (As := [iv 3, iv (J2 1 4)]) (rest := []) rfl rfl c_1 rfl (Nat.le_of_ble_eq_true rfl) (Nat.le_of_ble_eq_true rfl)) rfl (by clear h; omega) ?_
      refine v_s mt_84 rfl rfl rfl ?_
      refine v_s mt_84 rfl rfl rfl ?_
      refine j_pi 6 mt_84 rfl rfl c_1 (by decide) ?_
      refine v_s mt_84 rfl rfl rfl ?_
      refine v_s mt_84 rfl rfl rfl ?_
      refine j_pi 7 mt_84 rfl rfl c_1 (by decide) ?_
      refine v_ic (v := Int32.ofInt 0) mt_84 rfl rfl ?_
      refine j_retb mt_84 rfl rfl (by decide) ?_
      exact j_retb mt_95 rfl rfl (by decide) h
    · replace h := h.2 (Decidable.not_not.mp c)
      refine v_s mt_95 rfl rfl rfl ?_
      refine v_s mt_95 rfl rfl rfl ?_
      obtain ⟨c5, J4, z5, h⟩ := h
      refine v_call (d1 := 0) mt_95 rfl rfl mt_97 rfl rfl (m_callj (As := [iv c3]) (rest := []) rfl rfl h0 rfl (Nat.le_of_ble_eq_true rfl) (Nat.le_of_ble_eq_true rfl)) z5 (by clear h; omega) ?_
      obtain ⟨z6, h⟩ := h
      refine j_if1 mt_95 rfl rfl z6 (fun c => ?_) (fun c => ?_)
      · replace h := h.1 c
        refine v_s mt_95 rfl rfl rfl ?_
        refine v_ic (v := Int32.ofInt 3) mt_95 rfl rfl ?_
        refine j_if2 mt_95 rfl rfl z3 ⟨by decide, by decide⟩ (fun c => ?_) (fun c => ?_)
        · replace h := h.1 c
          refine v_s mt_95 rfl rfl rfl ?_
          refine v_s mt_95 rfl rfl rfl ?_
          refine v_s mt_95 rfl rfl rfl ?_
          obtain ⟨c7, J6, z7, h⟩ := h
          refine v_call (d1 := 2) mt_95 rfl rfl mt_98 rfl rfl (m_callj (As := [.ref 1, iv c3]) (rest := []) rfl rfl h0 rfl (Nat.le_of_ble_eq_true rfl) (Nat.le_of_ble_eq_true rfl)) z7 (by clear h; omega) ?_
          obtain ⟨z8, h⟩ := h
          exact j_retb mt_95 rfl rfl z8 h
        · replace h := h.2 (Decidable.not_not.mp c)
          refine v_s mt_95 rfl rfl rfl ?_
          refine v_s mt_95 rfl rfl rfl ?_
          obtain ⟨c9, J8, z9, h⟩ := h
          refine v_call (d1 := 2) mt_95 rfl rfl mt_101 rfl rfl (m_callj (As := [.ref 1]) (rest := []) rfl rfl h0 rfl (Nat.le_of_ble_eq_true rfl) (Nat.le_of_ble_eq_true rfl)) z9 (by clear h; omega) ?_
          refine v_go mt_95 rfl rfl ?_
          obtain ⟨z10, h⟩ := h
          exact j_retb mt_95 rfl rfl z10 h
      · replace h := h.2 c
        refine v_s mt_95 rfl rfl rfl ?_
        refine v_ic (v := Int32.ofInt 3) mt_95 rfl rfl ?_
        refine v_s mt_95 rfl rfl rfl ?_
        refine j_gi (w := J4 1 4) 4 mt_95 rfl rfl c_1 (by decide) rfl ?_
        refine v_inl (L1 := [some (.ref 1), some (iv 3), some (iv (J4 1 4))]) mt_95 rfl rfl mt_84 rfl rfl (m_callj (As := [iv 3, iv (J4 1 4)]) (rest := []) rfl rfl c_1 rfl (Nat.le_of_ble_eq_true rfl) (Nat.le_of_ble_eq_true rfl)) rfl (by clear h; omega) ?_
        refine v_s mt_84 rfl rfl rfl ?_
        refine v_s mt_84 rfl rfl rfl ?_
        refine j_pi 6 mt_84 rfl rfl c_1 (by decide) ?_
        refine v_s mt_84 rfl rfl rfl ?_
        refine v_s mt_84 rfl rfl rfl ?_
        refine j_pi 7 mt_84 rfl rfl c_1 (by decide) ?_
        refine v_ic (v := Int32.ofInt 0) mt_84 rfl rfl ?_
        refine j_retb mt_84 rfl rfl (by decide) ?_
        exact j_retb mt_95 rfl rfl (by decide) h
  · replace h := h.2 (Decidable.not_not.mp c)
    refine v_s mt_95 rfl rfl rfl ?_
    refine v_ic (v := Int32.ofInt 1) mt_95 rfl rfl ?_
    refine v_s mt_95 rfl rfl rfl ?_
    refine j_gi (w := J2 1 4) 4 mt_95 rfl rfl c_1 (by decide) rfl ?_
    refine v_inl (L1 := [some (.ref 1), some (iv 1), some (iv (J2 1 4))]) mt_95 rfl rfl mt_84 rfl rfl (m_callj (As := [iv 1, iv (J2 1 4)]) (rest := []) rfl rfl c_1 rfl (Nat.le_of_ble_eq_true rfl) (Nat.le_of_ble_eq_true rfl)) rfl (by clear h; omega) ?_
    refine v_s mt_84 rfl rfl rfl ?_
    refine v_s mt_84 rfl rfl rfl ?_
    refine j_pi 6 mt_84 rfl rfl c_1 (by decide) ?_
    refine v_s mt_84 rfl rfl rfl ?_
    refine v_s mt_84 rfl rfl rfl ?_
    refine j_pi 7 mt_84 rfl rfl c_1 (by decide) ?_
    refine v_ic (v := Int32.ofInt 0) mt_84 rfl rfl ?_
    refine j_retb mt_84 rfl rfl (by decide) ?_
    exact j_retb mt_95 rfl rfl (by decide) h
set_option maxHeartbeats 600000 in
theorem b_96_0 {X : Nat × (Nat → Int32)} {d : Nat} {J : Nat → Nat → Int} {sw : Bool × Bool × Bool} {lg : Nat → Nat → Int64} {x : Nat} {K : (Option Value ⊕ Nat) → mM → Prop} (hd : 1 ≤ d)
    (h : ∃ (c2 : Int) (J1 : Nat → Nat → Int), EE X 0 89 [.ref 1, .ref (m_scr + 1 + 0)] (mj J sw lg x) (.inl (some (iv c2))) (mj J1 sw lg x) ∧ InR c2 ∧ (c2 = 0 → (∃ (c4 : Int) (J3 : Nat → Nat → Int), EE X 0 89 [.ref 1, .ref (m_scr + 1 + 1)] (mj J1 sw lg x) (.inl (some (iv c4))) (mj J3 sw lg x) ∧ InR c4 ∧ (c4 = 0 → (∃ (c6 : Int) (J5 : Nat → Nat → Int), EE X 0 89 [.ref 1, .ref (m_scr + 1 + 2)] (mj J3 sw lg x) (.inl (some (iv c6))) (mj J5 sw lg x) ∧ InR c6 ∧ (c6 = 0 → (∃ (c8 : Int) (J7 : Nat → Nat → Int), EE X 0 89 [.ref 1, .ref (m_scr + 1 + 3)] (mj J5 sw lg x) (.inl (some (iv c8))) (mj J7 sw lg x) ∧ InR c8 ∧ (c8 = 0 → (∃ (c10 : Int) (J9 : Nat → Nat → Int), EE X 0 89 [.ref 1, .ref (m_scr + 1 + 4)] (mj J7 sw lg x) (.inl (some (iv c10))) (mj J9 sw lg x) ∧ InR c10 ∧ (c10 = 0 → (∃ (c12 : Int) (J11 : Nat → Nat → Int), EE X 0 89 [.ref 1, .ref (m_scr + 1 + 5)] (mj J9 sw lg x) (.inl (some (iv c12))) (mj J11 sw lg x) ∧ InR c12 ∧ (c12 = 0 → K (.inl (some (iv (-1)))) (mj J11 sw lg x)) ∧ (¬ c12 = 0 → K (.inl (some (iv 5))) (mj J11 sw lg x)))) ∧ (¬ c10 = 0 → K (.inl (some (iv 4))) (mj J9 sw lg x)))) ∧ (¬ c8 = 0 → K (.inl (some (iv 3))) (mj J7 sw lg x)))) ∧ (¬ c6 = 0 → K (.inl (some (iv 2))) (mj J5 sw lg x)))) ∧ (¬ c4 = 0 → K (.inl (some (iv 1))) (mj J3 sw lg x)))) ∧ (¬ c2 = 0 → K (.inl (some (iv 0))) (mj J1 sw lg x))) : VV X d 96 (0, [some (.ref 1)], [], mj J sw lg x) K := by
  refine v_s mt_96 rfl rfl rfl ?_
  refine v_s mt_96 rfl rfl rfl ?_
  obtain ⟨c2, J1, z1, h⟩ := h
  refine v_call (d1 := 0) mt_96 rfl rfl mt_89 rfl rfl (m_callj (As := [.ref (m_scr + 1 + 0)]) (rest := []) rfl rfl c_1 rfl (Nat.le_of_ble_eq_true rfl) (Nat.le_of_ble_eq_true rfl)) z1 (by clear h; omega) ?_
  obtain ⟨z2, h⟩ := h
  refine j_if1 mt_96 rfl rfl z2 (fun c => ?_) (fun c => ?_)
  · replace h := h.1 c
    refine v_s mt_96 rfl rfl rfl ?_
    refine v_s mt_96 rfl rfl rfl ?_
    obtain ⟨c4, J3, z3, h⟩ := h
    refine v_call (d1 := 0) mt_96 rfl rfl mt_89 rfl rfl (m_callj (As := [.ref (m_scr + 1 + 1)]) (rest := []) rfl rfl c_1 rfl (Nat.le_of_ble_eq_true rfl) (Nat.le_of_ble_eq_true rfl)) z3 (by clear h; omega) ?_
    obtain ⟨z4, h⟩ := h
    refine j_if1 mt_96 rfl rfl z4 (fun c => ?_) (fun c => ?_)
    · replace h := h.1 c
      refine v_s mt_96 rfl rfl rfl ?_
      refine v_s mt_96 rfl rfl rfl ?_
      obtain ⟨c6, J5, z5, h⟩ := h
      refine v_call (d1 := 0) mt_96 rfl rfl mt_89 rfl rfl (m_callj (As := [.ref (m_scr + 1 + 2)]) (rest := []) rfl rfl c_1 rfl (Nat.le_of_ble_eq_true rfl) (Nat.le_of_ble_eq_true rfl)) z5 (by clear h; omega) ?_
      obtain ⟨z6, h⟩ := h
      refine j_if1 mt_96 rfl rfl z6 (fun c => ?_) (fun c => ?_)
      · replace h := h.1 c
        refine v_s mt_96 rfl rfl rfl ?_
        refine v_s mt_96 rfl rfl rfl ?_
        obtain ⟨c8, J7, z7, h⟩ := h
        refine v_call (d1 := 0) mt_96 rfl rfl mt_89 rfl rfl (m_callj (As := [.ref (m_scr + 1 + 3)]) (rest := []) rfl rfl c_1 rfl (Nat.le_of_ble_eq_true rfl) (Nat.le_of_ble_eq_true rfl)) z7 (by clear h; omega) ?_
        obtain ⟨z8, h⟩ := h
        refine j_if1 mt_96 rfl rfl z8 (fun c => ?_) (fun c => ?_)
        · replace h := h.1 c
          refine v_s mt_96 rfl rfl rfl ?_
          refine v_s mt_96 rfl rfl rfl ?_
          obtain ⟨c10, J9, z9, h⟩ := h
          refine v_call (d1 := 0) mt_96 rfl rfl mt_89 rfl rfl (m_callj (As := [.ref (m_scr + 1 + 4)]) (rest := []) rfl rfl c_1 rfl (Nat.le_of_ble_eq_true rfl) (Nat.le_of_ble_eq_true rfl)) z9 (by clear h; omega) ?_
          obtain ⟨z10, h⟩ := h
          refine j_if1 mt_96 rfl rfl z10 (fun c => ?_) (fun c => ?_)
          · replace h := h.1 c
            refine v_s mt_96 rfl rfl rfl ?_
            refine v_s mt_96 rfl rfl rfl ?_
            obtain ⟨c12, J11, z11, h⟩ := h
            refine v_call (d1 := 0) mt_96 rfl rfl mt_89 rfl rfl (m_callj (As := [.ref (m_scr + 1 + 5)]) (rest := []) rfl rfl c_1 rfl (Nat.le_of_ble_eq_true rfl) (Nat.le_of_ble_eq_true rfl)) z11 (by clear h; omega) ?_
            obtain ⟨z12, h⟩ := h
            refine j_if1 mt_96 rfl rfl z12 (fun c => ?_) (fun c => ?_)
            · replace h := h.1 c
              refine v_ic (v := Int32.ofInt (-1)) mt_96 rfl rfl ?_
              exact v_ret mt_96 rfl rfl rfl h
            · replace h := h.2 c
              refine v_ic (v := Int32.ofInt 5) mt_96 rfl rfl ?_
              refine v_go mt_96 rfl rfl ?_
              exact v_ret mt_96 rfl rfl rfl h
          · replace h := h.2 c
            refine v_ic (v := Int32.ofInt 4) mt_96 rfl rfl ?_
            exact v_ret mt_96 rfl rfl rfl h
        · replace h := h.2 c
          refine v_ic (v := Int32.ofInt 3) mt_96 rfl rfl ?_
          exact v_ret mt_96 rfl rfl rfl h
      · replace h := h.2 c
        refine v_ic (v := Int32.ofInt 2) mt_96 rfl rfl ?_
        exact v_ret mt_96 rfl rfl rfl h
    · replace h := h.2 c
      refine v_ic (v := Int32.ofInt 1) mt_96 rfl rfl ?_
      exact v_ret mt_96 rfl rfl rfl h
  · replace h := h.2 c
    refine v_ic (v := Int32.ofInt 0) mt_96 rfl rfl ?_
    exact v_ret mt_96 rfl rfl rfl h
set_option maxHeartbeats 600000 in
theorem b_97_0 {X : Nat × (Nat → Int32)} {d : Nat} {J : Nat → Nat → Int} {sw : Bool × Bool × Bool} {lg : Nat → Nat → Int64} {x : Nat} {K : (Option Value ⊕ Nat) → mM → Prop} {r0 : Nat} {x1 : Int} (h0 : SH[r0]? = some (14, 12))
    (h : InR x1 ∧ (¬ x1 = 0 → ((¬ x1 = 1 → ((¬ x1 = 2 → ((¬ x1 = 3 → K (.inl (some (iv 0))) (mj J sw lg x)) ∧ (x1 = 3 → (InR (J r0 3) ∧ (J r0 3 < 14 → K (.inl (some (iv 0))) (mj J sw lg x)) ∧ (14 ≤ J r0 3 → K (.inl (some (iv 1))) (mj J sw lg x)))))) ∧ (x1 = 2 → (InR (J r0 2) ∧ (9 ≤ J r0 2 → K (.inl (some (iv 1))) (mj J sw lg x)) ∧ (J r0 2 < 9 → ((¬ x1 = 3 → K (.inl (some (iv 0))) (mj J sw lg x)) ∧ (x1 = 3 → (InR (J r0 3) ∧ (J r0 3 < 14 → K (.inl (some (iv 0))) (mj J sw lg x)) ∧ (14 ≤ J r0 3 → K (.inl (some (iv 1))) (mj J sw lg x)))))))))) ∧ (x1 = 1 → (InR (J r0 1) ∧ (6 ≤ J r0 1 → K (.inl (some (iv 1))) (mj J sw lg x)) ∧ (J r0 1 < 6 → ((¬ x1 = 2 → ((¬ x1 = 3 → K (.inl (some (iv 0))) (mj J sw lg x)) ∧ (x1 = 3 → (InR (J r0 3) ∧ (J r0 3 < 14 → K (.inl (some (iv 0))) (mj J sw lg x)) ∧ (14 ≤ J r0 3 → K (.inl (some (iv 1))) (mj J sw lg x)))))) ∧ (x1 = 2 → (InR (J r0 2) ∧ (9 ≤ J r0 2 → K (.inl (some (iv 1))) (mj J sw lg x)) ∧ (J r0 2 < 9 → ((¬ x1 = 3 → K (.inl (some (iv 0))) (mj J sw lg x)) ∧ (x1 = 3 → (InR (J r0 3) ∧ (J r0 3 < 14 → K (.inl (some (iv 0))) (mj J sw lg x)) ∧ (14 ≤ J r0 3 → K (.inl (some (iv 1))) (mj J sw lg x)))))))))))))) ∧ (x1 = 0 → (InR (J r0 0) ∧ (6 ≤ J r0 0 → K (.inl (some (iv 1))) (mj J sw lg x)) ∧ (J r0 0 < 6 → ((¬ x1 = 1 → ((¬ x1 = 2 → ((¬ x1 = 3 → K (.inl (some (iv 0))) (mj J sw lg x)) ∧ (x1 = 3 → (InR (J r0 3) ∧ (J r0 3 < 14 → K (.inl (some (iv 0))) (mj J sw lg x)) ∧ (14 ≤ J r0 3 → K (.inl (some (iv 1))) (mj J sw lg x)))))) ∧ (x1 = 2 → (InR (J r0 2) ∧ (9 ≤ J r0 2 → K (.inl (some (iv 1))) (mj J sw lg x)) ∧ (J r0 2 < 9 → ((¬ x1 = 3 → K (.inl (some (iv 0))) (mj J sw lg x)) ∧ (x1 = 3 → (InR (J r0 3) ∧ (J r0 3 < 14 → K (.inl (some (iv 0))) (mj J sw lg x)) ∧ (14 ≤ J r0 3 → K (.inl (some (iv 1))) (mj J sw lg x)))))))))) ∧ (x1 = 1 → (InR (J r0 1) ∧ (6 ≤ J r0 1 → K (.inl (some (iv 1))) (mj J sw lg x)) ∧ (J r0 1 < 6 → ((¬ x1 = 2 → ((¬ x1 = 3 → K (.inl (some (iv 0))) (mj J sw lg x)) ∧ (x1 = 3 → (InR (J r0 3) ∧ (J r0 3 < 14 → K (.inl (some (iv 0))) (mj J sw lg x)) ∧ (14 ≤ J r0 3 → K (.inl (some (iv 1))) (mj J sw lg x)))))) ∧ (x1 = 2 → (InR (J r0 2) ∧ (9 ≤ J r0 2 → K (.inl (some (iv 1))) (mj J sw lg x)) ∧ (J r0 2 < 9 → ((¬ x1 = 3 → K (.inl (some (iv 0))) (mj J sw lg x)) ∧ (x1 = 3 → (InR (J r0 3) ∧ (J r0 3 < 14 → K (.inl (some (iv 0))) (mj J sw lg x)) ∧ (14 ≤ J r0 3 → K (.inl (some (iv 1))) (mj J sw lg x))))))))))))))))) : VV X d 97 (0, [some (.ref r0), some (iv x1)], [], mj J sw lg x) K := by
  refine v_s mt_97 rfl rfl rfl ?_
  obtain ⟨z1, h⟩ := h
  refine j_if1 mt_97 rfl rfl z1 (fun c => ?_) (fun c => ?_)
  · replace h := h.1 c
    refine v_s mt_97 rfl rfl rfl ?_
    refine v_ic (v := Int32.ofInt 1) mt_97 rfl rfl ?_
    refine j_if2 mt_97 rfl rfl z1 ⟨by decide, by decide⟩ (fun c => ?_) (fun c => ?_)
    · replace h := h.1 c
      refine v_s mt_97 rfl rfl rfl ?_
      refine v_ic (v := Int32.ofInt 2) mt_97 rfl rfl ?_
      refine j_if2 mt_97 rfl rfl z1 ⟨by decide, by decide⟩ (fun c => ?_) (fun c => ?_)
      · replace h := h.1 c
        refine v_s mt_97 rfl rfl rfl ?_
        refine v_ic (v := Int32.ofInt 3) mt_97 rfl rfl ?_
        refine j_if2 mt_97 rfl rfl z1 ⟨by decide, by decide⟩ (fun c => ?_) (fun c => ?_)
        · replace h := h.1 c
          refine v_ic (v := Int32.ofInt 0) mt_97 rfl rfl ?_
          exact j_retb mt_97 rfl rfl (by decide) h
        · replace h := h.2 (Decidable.not_not.mp c)
          refine v_s mt_97 rfl rfl rfl ?_
          refine j_gi (w := J r0 3) 3 mt_97 rfl rfl h0 (by decide) rfl ?_
          refine v_bp (v := Int32.ofInt 14) mt_97 rfl rfl ?_
          obtain ⟨z2, h⟩ := h
          refine j_if2 mt_97 rfl rfl z2 ⟨by decide, by decide⟩ (fun c => ?_) (fun c => ?_)
          · replace h := h.1 c
            refine v_ic (v := Int32.ofInt 0) mt_97 rfl rfl ?_
            exact j_retb mt_97 rfl rfl (by decide) h
          · replace h := h.2 (Int.not_lt.mp c)
            refine v_ic (v := Int32.ofInt 1) mt_97 rfl rfl ?_
            refine v_go mt_97 rfl rfl ?_
            exact j_retb mt_97 rfl rfl (by decide) h
      · replace h := h.2 (Decidable.not_not.mp c)
        refine v_s mt_97 rfl rfl rfl ?_
        refine j_gi (w := J r0 2) 2 mt_97 rfl rfl h0 (by decide) rfl ?_
        refine v_bp (v := Int32.ofInt 9) mt_97 rfl rfl ?_
        obtain ⟨z3, h⟩ := h
        refine j_if2 mt_97 rfl rfl z3 ⟨by decide, by decide⟩ (fun c => ?_) (fun c => ?_)
        · replace h := h.1 c
          refine v_ic (v := Int32.ofInt 1) mt_97 rfl rfl ?_
          refine v_go mt_97 rfl rfl ?_
          exact j_retb mt_97 rfl rfl (by decide) h
        · replace h := h.2 (Int.not_le.mp c)
          refine v_s mt_97 rfl rfl rfl ?_
          refine v_ic (v := Int32.ofInt 3) mt_97 rfl rfl ?_
          refine j_if2 mt_97 rfl rfl z1 ⟨by decide, by decide⟩ (fun c => ?_) (fun c => ?_)
          · replace h := h.1 c
            refine v_ic (v := Int32.ofInt 0) mt_97 rfl rfl ?_
            exact j_retb mt_97 rfl rfl (by decide) h
          · replace h := h.2 (Decidable.not_not.mp c)
            refine v_s mt_97 rfl rfl rfl ?_
            refine j_gi (w := J r0 3) 3 mt_97 rfl rfl h0 (by decide) rfl ?_
            refine v_bp (v := Int32.ofInt 14) mt_97 rfl rfl ?_
            obtain ⟨z4, h⟩ := h
            refine j_if2 mt_97 rfl rfl z4 ⟨by decide, by decide⟩ (fun c => ?_) (fun c => ?_)
            · replace h := h.1 c
              refine v_ic (v := Int32.ofInt 0) mt_97 rfl rfl ?_
              exact j_retb mt_97 rfl rfl (by decide) h
            · replace h := h.2 (Int.not_lt.mp c)
              refine v_ic (v := Int32.ofInt 1) mt_97 rfl rfl ?_
              refine v_go mt_97 rfl rfl ?_
              exact j_retb mt_97 rfl rfl (by decide) h
    · replace h := h.2 (Decidable.not_not.mp c)
      refine v_s mt_97 rfl rfl rfl ?_
      refine j_gi (w := J r0 1) 1 mt_97 rfl rfl h0 (by decide) rfl ?_
      refine v_bp (v := Int32.ofInt 6) mt_97 rfl rfl ?_
      obtain ⟨z5, h⟩ := h
      refine j_if2 mt_97 rfl rfl z5 ⟨by decide, by decide⟩ (fun c => ?_) (fun c => ?_)
      · replace h := h.1 c
        refine v_ic (v := Int32.ofInt 1) mt_97 rfl rfl ?_
        refine v_go mt_97 rfl rfl ?_
        exact j_retb mt_97 rfl rfl (by decide) h
      · replace h := h.2 (Int.not_le.mp c)
        refine v_s mt_97 rfl rfl rfl ?_
        refine v_ic (v := Int32.ofInt 2) mt_97 rfl rfl ?_
        refine j_if2 mt_97 rfl rfl z1 ⟨by decide, by decide⟩ (fun c => ?_) (fun c => ?_)
        · replace h := h.1 c
          refine v_s mt_97 rfl rfl rfl ?_
          refine v_ic (v := Int32.ofInt 3) mt_97 rfl rfl ?_
          refine j_if2 mt_97 rfl rfl z1 ⟨by decide, by decide⟩ (fun c => ?_) (fun c => ?_)
          · replace h := h.1 c
            refine v_ic (v := Int32.ofInt 0) mt_97 rfl rfl ?_
            exact j_retb mt_97 rfl rfl (by decide) h
          · replace h := h.2 (Decidable.not_not.mp c)
            refine v_s mt_97 rfl rfl rfl ?_
            refine j_gi (w := J r0 3) 3 mt_97 rfl rfl h0 (by decide) rfl ?_
            refine v_bp (v := Int32.ofInt 14) mt_97 rfl rfl ?_
            obtain ⟨z6, h⟩ := h
            refine j_if2 mt_97 rfl rfl z6 ⟨by decide, by decide⟩ (fun c => ?_) (fun c => ?_)
            · replace h := h.1 c
              refine v_ic (v := Int32.ofInt 0) mt_97 rfl rfl ?_
              exact j_retb mt_97 rfl rfl (by decide) h
            · replace h := h.2 (Int.not_lt.mp c)
              refine v_ic (v := Int32.ofInt 1) mt_97 rfl rfl ?_
              refine v_go mt_97 rfl rfl ?_
              exact j_retb mt_97 rfl rfl (by decide) h
        · replace h := h.2 (Decidable.not_not.mp c)
          refine v_s mt_97 rfl rfl rfl ?_
          refine j_gi (w := J r0 2) 2 mt_97 rfl rfl h0 (by decide) rfl ?_
          refine v_bp (v := Int32.ofInt 9) mt_97 rfl rfl ?_
          obtain ⟨z7, h⟩ := h
          refine j_if2 mt_97 rfl rfl z7 ⟨by decide, by decide⟩ (fun c => ?_) (fun c => ?_)
          · replace h := h.1 c
            refine v_ic (v := Int32.ofInt 1) mt_97 rfl rfl ?_
            refine v_go mt_97 rfl rfl ?_
            exact j_retb mt_97 rfl rfl (by decide) h
          · replace h := h.2 (Int.not_le.mp c)
            refine v_s mt_97 rfl rfl rfl ?_
            refine v_ic (v := Int32.ofInt 3) mt_97 rfl rfl ?_
            refine j_if2 mt_97 rfl rfl z1 ⟨by decide, by decide⟩ (fun c => ?_) (fun c => ?_)
            · replace h := h.1 c
              refine v_ic (v := Int32.ofInt 0) mt_97 rfl rfl ?_
              exact j_retb mt_97 rfl rfl (by decide) h
            · replace h := h.2 (Decidable.not_not.mp c)
              refine v_s mt_97 rfl rfl rfl ?_
              refine j_gi (w := J r0 3) 3 mt_97 rfl rfl h0 (by decide) rfl ?_
              refine v_bp (v := Int32.ofInt 14) mt_97 rfl rfl ?_
              obtain ⟨z8, h⟩ := h
              refine j_if2 mt_97 rfl rfl z8 ⟨by decide, by decide⟩ (fun c => ?_) (fun c => ?_)
              · replace h := h.1 c
                refine v_ic (v := Int32.ofInt 0) mt_97 rfl rfl ?_
                exact j_retb mt_97 rfl rfl (by decide) h
              · replace h := h.2 (Int.not_lt.mp c)
                refine v_ic (v := Int32.ofInt 1) mt_97 rfl rfl ?_
                refine v_go mt_97 rfl rfl ?_
                exact j_retb mt_97 rfl rfl (by decide) h
  · replace h := h.2 (Decidable.not_not.mp c)
    refine v_s mt_97 rfl rfl rfl ?_
    refine j_gi (w := J r0 0) 0 mt_97 rfl rfl h0 (by decide) rfl ?_
    refine v_bp (v := Int32.ofInt 6) mt_97 rfl rfl ?_
    obtain ⟨z9, h⟩ := h
    refine j_if2 mt_97 rfl rfl z9 ⟨by decide, by decide⟩ (fun c => ?_) (fun c => ?_)
    · replace h := h.1 c
      refine v_ic (v := Int32.ofInt 1) mt_97 rfl rfl ?_
      refine v_go mt_97 rfl rfl ?_
      exact j_retb mt_97 rfl rfl (by decide) h
    · replace h := h.2 (Int.not_le.mp c)
      refine v_s mt_97 rfl rfl rfl ?_
      refine v_ic (v := Int32.ofInt 1) mt_97 rfl rfl ?_
      refine j_if2 mt_97 rfl rfl z1 ⟨by decide, by decide⟩ (fun c => ?_) (fun c => ?_)
      · replace h := h.1 c
        refine v_s mt_97 rfl rfl rfl ?_
        refine v_ic (v := Int32.ofInt 2) mt_97 rfl rfl ?_
        refine j_if2 mt_97 rfl rfl z1 ⟨by decide, by decide⟩ (fun c => ?_) (fun c => ?_)
        · replace h := h.1 c
          refine v_s mt_97 rfl rfl rfl ?_
          refine v_ic (v := Int32.ofInt 3) mt_97 rfl rfl ?_
          refine j_if2 mt_97 rfl rfl z1 ⟨by decide, by decide⟩ (fun c => ?_) (fun c => ?_)
          · replace h := h.1 c
            refine v_ic (v := Int32.ofInt 0) mt_97 rfl rfl ?_
            exact j_retb mt_97 rfl rfl (by decide) h
          · replace h := h.2 (Decidable.not_not.mp c)
            refine v_s mt_97 rfl rfl rfl ?_
            refine j_gi (w := J r0 3) 3 mt_97 rfl rfl h0 (by decide) rfl ?_
            refine v_bp (v := Int32.ofInt 14) mt_97 rfl rfl ?_
            obtain ⟨z10, h⟩ := h
            refine j_if2 mt_97 rfl rfl z10 ⟨by decide, by decide⟩ (fun c => ?_) (fun c => ?_)
            · replace h := h.1 c
              refine v_ic (v := Int32.ofInt 0) mt_97 rfl rfl ?_
              exact j_retb mt_97 rfl rfl (by decide) h
            · replace h := h.2 (Int.not_lt.mp c)
              refine v_ic (v := Int32.ofInt 1) mt_97 rfl rfl ?_
              refine v_go mt_97 rfl rfl ?_
              exact j_retb mt_97 rfl rfl (by decide) h
        · replace h := h.2 (Decidable.not_not.mp c)
          refine v_s mt_97 rfl rfl rfl ?_
          refine j_gi (w := J r0 2) 2 mt_97 rfl rfl h0 (by decide) rfl ?_
          refine v_bp (v := Int32.ofInt 9) mt_97 rfl rfl ?_
          obtain ⟨z11, h⟩ := h
          refine j_if2 mt_97 rfl rfl z11 ⟨by decide, by decide⟩ (fun c => ?_) (fun c => ?_)
          · replace h := h.1 c
            refine v_ic (v := Int32.ofInt 1) mt_97 rfl rfl ?_
            refine v_go mt_97 rfl rfl ?_
            exact j_retb mt_97 rfl rfl (by decide) h
          · replace h := h.2 (Int.not_le.mp c)
            refine v_s mt_97 rfl rfl rfl ?_
            refine v_ic (v := Int32.ofInt 3) mt_97 rfl rfl ?_
            refine j_if2 mt_97 rfl rfl z1 ⟨by decide, by decide⟩ (fun c => ?_) (fun c => ?_)
            · replace h := h.1 c
              refine v_ic (v := Int32.ofInt 0) mt_97 rfl rfl ?_
              exact j_retb mt_97 rfl rfl (by decide) h
            · replace h := h.2 (Decidable.not_not.mp c)
              refine v_s mt_97 rfl rfl rfl ?_
              refine j_gi (w := J r0 3) 3 mt_97 rfl rfl h0 (by decide) rfl ?_
              refine v_bp (v := Int32.ofInt 14) mt_97 rfl rfl ?_
              obtain ⟨z12, h⟩ := h
              refine j_if2 mt_97 rfl rfl z12 ⟨by decide, by decide⟩ (fun c => ?_) (fun c => ?_)
              · replace h := h.1 c
                refine v_ic (v := Int32.ofInt 0) mt_97 rfl rfl ?_
                exact j_retb mt_97 rfl rfl (by decide) h
              · replace h := h.2 (Int.not_lt.mp c)
                refine v_ic (v := Int32.ofInt 1) mt_97 rfl rfl ?_
                refine v_go mt_97 rfl rfl ?_
                exact j_retb mt_97 rfl rfl (by decide) h
      · replace h := h.2 (Decidable.not_not.mp c)
        refine v_s mt_97 rfl rfl rfl ?_
        refine j_gi (w := J r0 1) 1 mt_97 rfl rfl h0 (by decide) rfl ?_
        refine v_bp (v := Int32.ofInt 6) mt_97 rfl rfl ?_
        obtain ⟨z13, h⟩ := h
        refine j_if2 mt_97 rfl rfl z13 ⟨by decide, by decide⟩ (fun c => ?_) (fun c => ?_)
        · replace h := h.1 c
          refine v_ic (v := Int32.ofInt 1) mt_97 rfl rfl ?_
          refine v_go mt_97 rfl rfl ?_
          exact j_retb mt_97 rfl rfl (by decide) h
        · replace h := h.2 (Int.not_le.mp c)
          refine v_s mt_97 rfl rfl rfl ?_
          refine v_ic (v := Int32.ofInt 2) mt_97 rfl rfl ?_
          refine j_if2 mt_97 rfl rfl z1 ⟨by decide, by decide⟩ (fun c => ?_) (fun c => ?_)
          · replace h := h.1 c
            refine v_s mt_97 rfl rfl rfl ?_
            refine v_ic (v := Int32.ofInt 3) mt_97 rfl rfl ?_
            refine j_if2 mt_97 rfl rfl z1 ⟨by decide, by decide⟩ (fun c => ?_) (fun c => ?_)
            · replace h := h.1 c
              refine v_ic (v := Int32.ofInt 0) mt_97 rfl rfl ?_
              exact j_retb mt_97 rfl rfl (by decide) h
            · replace h := h.2 (Decidable.not_not.mp c)
              refine v_s mt_97 rfl rfl rfl ?_
              refine j_gi (w := J r0 3) 3 mt_97 rfl rfl h0 (by decide) rfl ?_
              refine v_bp (v := Int32.ofInt 14) mt_97 rfl rfl ?_
              obtain ⟨z14, h⟩ := h
              refine j_if2 mt_97 rfl rfl z14 ⟨by decide, by decide⟩ (fun c => ?_) (fun c => ?_)
              · replace h := h.1 c
                refine v_ic (v := Int32.ofInt 0) mt_97 rfl rfl ?_
                exact j_retb mt_97 rfl rfl (by decide) h
              · replace h := h.2 (Int.not_lt.mp c)
                refine v_ic (v := Int32.ofInt 1) mt_97 rfl rfl ?_
                refine v_go mt_97 rfl rfl ?_
                exact j_retb mt_97 rfl rfl (by decide) h
          · replace h := h.2 (Decidable.not_not.mp c)
            refine v_s mt_97 rfl rfl rfl ?_
            refine j_gi (w := J r0 2) 2 mt_97 rfl rfl h0 (by decide) rfl ?_
            refine v_bp (v := Int32.ofInt 9) mt_97 rfl rfl ?_
            obtain ⟨z15, h⟩ := h
            refine j_if2 mt_97 rfl rfl z15 ⟨by decide, by decide⟩ (fun c => ?_) (fun c => ?_)
            · replace h := h.1 c
              refine v_ic (v := Int32.ofInt 1) mt_97 rfl rfl ?_
              refine v_go mt_97 rfl rfl ?_
              exact j_retb mt_97 rfl rfl (by decide) h
            · replace h := h.2 (Int.not_le.mp c)
              refine v_s mt_97 rfl rfl rfl ?_
              refine v_ic (v := Int32.ofInt 3) mt_97 rfl rfl ?_
              refine j_if2 mt_97 rfl rfl z1 ⟨by decide, by decide⟩ (fun c => ?_) (fun c => ?_)
              · replace h := h.1 c
                refine v_ic (v := Int32.ofInt 0) mt_97 rfl rfl ?_
                exact j_retb mt_97 rfl rfl (by decide) h
              · replace h := h.2 (Decidable.not_not.mp c)
                refine v_s mt_97 rfl rfl rfl ?_
                refine j_gi (w := J r0 3) 3 mt_97 rfl rfl h0 (by decide) rfl ?_
                refine v_bp (v := Int32.ofInt 14) mt_97 rfl rfl ?_
                obtain ⟨z16, h⟩ := h
                refine j_if2 mt_97 rfl rfl z16 ⟨by decide, by decide⟩ (fun c => ?_) (fun c => ?_)
                · replace h := h.1 c
                  refine v_ic (v := Int32.ofInt 0) mt_97 rfl rfl ?_
                  exact j_retb mt_97 rfl rfl (by decide) h
                · replace h := h.2 (Int.not_lt.mp c)
                  refine v_ic (v := Int32.ofInt 1) mt_97 rfl rfl ?_
                  refine v_go mt_97 rfl rfl ?_
                  exact j_retb mt_97 rfl rfl (by decide) h
set_option maxHeartbeats 600000 in
theorem b_98_0 {X : Nat × (Nat → Int32)} {d : Nat} {J : Nat → Nat → Int} {sw : Bool × Bool × Bool} {lg : Nat → Nat → Int64} {x : Nat} {K : (Option Value ⊕ Nat) → mM → Prop} {r0 : Nat} {x2 : Int} (h0 : SH[r0]? = some (14, 12)) (hd : 2 ≤ d)
    (h : ∃ (c2 : Int) (J1 : Nat → Nat → Int), EE X 0 99 [iv x2] (mj J sw lg x) (.inl (some (iv c2))) (mj J1 sw lg x) ∧ ∃ (c4 : Int) (J3 : Nat → Nat → Int), EE X 0 100 [iv x2] (mj J1 sw lg x) (.inl (some (iv c4))) (mj J3 sw lg x) ∧ ∃ (c6 : Int) (J5 : Nat → Nat → Int), EE X 1 91 [.ref 1, iv c2, iv c4] (mj J3 sw lg x) (.inl (some (iv c6))) (mj J5 sw lg x) ∧ InR c6 ∧ (¬ c6 = 0 → (InR x2 ∧ (x2 = 0 → ((0 ≤ J5 r0 0 ∧ J5 r0 0 < 6) ∧ K (.inl (some (iv 1))) (mj (m_up (m_up J5 (r0 + 1) ((J5 r0 0).toNat) (J5 1 5)) r0 0 ((J5 r0 0) + 1)) sw lg x))) ∧ (x2 = 1 → ((0 ≤ J5 r0 1 ∧ J5 r0 1 < 6) ∧ K (.inl (some (iv 1))) (mj (m_up (m_up J5 (r0 + 2) ((J5 r0 1).toNat) (J5 1 5)) r0 1 ((J5 r0 1) + 1)) sw lg x))) ∧ (x2 = 2 → ((0 ≤ J5 r0 2 ∧ J5 r0 2 < 9) ∧ K (.inl (some (iv 1))) (mj (m_up (m_up J5 (r0 + 3) ((J5 r0 2).toNat) (J5 1 5)) r0 2 ((J5 r0 2) + 1)) sw lg x))) ∧ (x2 = 3 → K (.inl (some (iv 1))) (mj (m_up J5 r0 5 (J5 1 5)) sw lg x)) ∧ (x2 = 4 → K (.inl (some (iv 1))) (mj (m_up J5 r0 4 (J5 1 5)) sw lg x)) ∧ (x2 < 0 ∨ 4 < x2 → K (.inl (some (iv 1))) (mj (m_up J5 r0 5 (J5 1 5)) sw lg x)))) ∧ (c6 = 0 → K (.inl (some (iv 0))) (mj J5 sw lg x))) : VV X d 98 (0, [some (.ref r0), some (.ref 1), some (iv x2)], [], mj J sw lg x) K := by
  refine v_s mt_98 rfl rfl rfl ?_
  refine v_s mt_98 rfl rfl rfl ?_
  obtain ⟨c2, J1, z1, h⟩ := h
  refine v_call (d1 := 0) mt_98 rfl rfl mt_99 rfl rfl rfl z1 (by clear h; omega) ?_
  refine v_s mt_98 rfl rfl rfl ?_
  obtain ⟨c4, J3, z2, h⟩ := h
  refine v_call (d1 := 0) mt_98 rfl rfl mt_100 rfl rfl rfl z2 (by clear h; omega) ?_
  obtain ⟨c6, J5, z3, h⟩ := h
  refine v_call (d1 := 1) mt_98 rfl rfl mt_91 rfl rfl (m_callj (As := [iv c2, iv c4]) (rest := []) rfl rfl c_1 rfl (Nat.le_of_ble_eq_true rfl) (Nat.le_of_ble_eq_true rfl)) z3 (by clear h; omega) ?_
  obtain ⟨z4, h⟩ := h
  refine j_if1 mt_98 rfl rfl z4 (fun c => ?_) (fun c => ?_)
  · replace h := h.1 c
    refine v_s mt_98 rfl rfl rfl ?_
    obtain ⟨z5, h⟩ := h
    by_cases c : x2 = 0
    · replace h := h.1 c
      refine j_si 0 mt_98 rfl ⟨by decide, by decide⟩ c (by decide) rfl rfl ?_
      refine v_s mt_98 rfl rfl rfl ?_
      refine v_gr (w := (r0 + 1)) 6 mt_98 rfl rfl h0 (by decide) (g_9_6 h0) ?_
      refine v_s mt_98 rfl rfl rfl ?_
      refine j_gi (w := J5 r0 0) 0 mt_98 rfl rfl h0 (by decide) rfl ?_
      refine v_s mt_98 rfl rfl rfl ?_
      refine j_gi (w := J5 1 5) 5 mt_98 rfl rfl c_1 (by decide) rfl ?_
      obtain ⟨z6, h⟩ := h
      refine j_as mt_98 rfl (shV r0 (SH_lt h0) h0).1 z6 (by decide) ?_
      refine v_s mt_98 rfl rfl rfl ?_
      refine v_s mt_98 rfl rfl rfl ?_
      refine j_gi (w := J5 r0 0) 0 mt_98 rfl rfl h0 (by decide) ((up_na (sh_ne h0 (shV r0 (SH_lt h0) h0).1 (by decide))).trans rfl) ?_
      refine v_ic (v := Int32.ofInt 1) mt_98 rfl rfl ?_
      refine j_add (e := (J5 r0 0) + 1) mt_98 rfl rfl ?_
      refine j_pi 0 mt_98 rfl rfl h0 (by decide) ?_
      refine v_go mt_98 rfl rfl ?_
      refine v_ic (v := Int32.ofInt 1) mt_98 rfl rfl ?_
      exact j_retb mt_98 rfl rfl (by decide) h
    have c0 := c
    replace h := h.2
    by_cases c : x2 = 1
    · replace h := h.1 c
      refine j_si 1 mt_98 rfl ⟨by decide, by decide⟩ c (by decide) rfl rfl ?_
      refine v_s mt_98 rfl rfl rfl ?_
      refine v_gr (w := (r0 + 2)) 7 mt_98 rfl rfl h0 (by decide) (g_9_7 h0) ?_
      refine v_s mt_98 rfl rfl rfl ?_
      refine j_gi (w := J5 r0 1) 1 mt_98 rfl rfl h0 (by decide) rfl ?_
      refine v_s mt_98 rfl rfl rfl ?_
      refine j_gi (w := J5 1 5) 5 mt_98 rfl rfl c_1 (by decide) rfl ?_
      obtain ⟨z7, h⟩ := h
      refine j_as mt_98 rfl (shV r0 (SH_lt h0) h0).2.1 z7 (by decide) ?_
      refine v_s mt_98 rfl rfl rfl ?_
      refine v_s mt_98 rfl rfl rfl ?_
      refine j_gi (w := J5 r0 1) 1 mt_98 rfl rfl h0 (by decide) ((up_na (sh_ne h0 (shV r0 (SH_lt h0) h0).2.1 (by decide))).trans rfl) ?_
      refine v_ic (v := Int32.ofInt 1) mt_98 rfl rfl ?_
      refine j_add (e := (J5 r0 1) + 1) mt_98 rfl rfl ?_
      refine j_pi 1 mt_98 rfl rfl h0 (by decide) ?_
      refine v_go mt_98 rfl rfl ?_
      refine v_ic (v := Int32.ofInt 1) mt_98 rfl rfl ?_
      exact j_retb mt_98 rfl rfl (by decide) h
    have c1 := c
    replace h := h.2
    by_cases c : x2 = 2
    · replace h := h.1 c
      refine j_si 2 mt_98 rfl ⟨by decide, by decide⟩ c (by decide) rfl rfl ?_
      refine v_s mt_98 rfl rfl rfl ?_
      refine v_gr (w := (r0 + 3)) 8 mt_98 rfl rfl h0 (by decide) (g_9_8 h0) ?_
      refine v_s mt_98 rfl rfl rfl ?_
      refine j_gi (w := J5 r0 2) 2 mt_98 rfl rfl h0 (by decide) rfl ?_
      refine v_s mt_98 rfl rfl rfl ?_
      refine j_gi (w := J5 1 5) 5 mt_98 rfl rfl c_1 (by decide) rfl ?_
      obtain ⟨z8, h⟩ := h
      refine j_as mt_98 rfl (shV r0 (SH_lt h0) h0).2.2.1 z8 (by decide) ?_
      refine v_s mt_98 rfl rfl rfl ?_
      refine v_s mt_98 rfl rfl rfl ?_
      refine j_gi (w := J5 r0 2) 2 mt_98 rfl rfl h0 (by decide) ((up_na (sh_ne h0 (shV r0 (SH_lt h0) h0).2.2.1 (by decide))).trans rfl) ?_
      refine v_ic (v := Int32.ofInt 1) mt_98 rfl rfl ?_
      refine j_add (e := (J5 r0 2) + 1) mt_98 rfl rfl ?_
      refine j_pi 2 mt_98 rfl rfl h0 (by decide) ?_
      refine v_go mt_98 rfl rfl ?_
      refine v_ic (v := Int32.ofInt 1) mt_98 rfl rfl ?_
      exact j_retb mt_98 rfl rfl (by decide) h
    have c2 := c
    replace h := h.2
    by_cases c : x2 = 3
    · replace h := h.1 c
      refine j_si 3 mt_98 rfl ⟨by decide, by decide⟩ c (by decide) rfl rfl ?_
      refine v_s mt_98 rfl rfl rfl ?_
      refine v_s mt_98 rfl rfl rfl ?_
      refine j_gi (w := J5 1 5) 5 mt_98 rfl rfl c_1 (by decide) rfl ?_
      refine j_pi 5 mt_98 rfl rfl h0 (by decide) ?_
      refine v_ic (v := Int32.ofInt 1) mt_98 rfl rfl ?_
      exact j_retb mt_98 rfl rfl (by decide) h
    have c3 := c
    replace h := h.2
    by_cases c : x2 = 4
    · replace h := h.1 c
      refine j_si 4 mt_98 rfl ⟨by decide, by decide⟩ c (by decide) rfl rfl ?_
      refine v_s mt_98 rfl rfl rfl ?_
      refine v_s mt_98 rfl rfl rfl ?_
      refine j_gi (w := J5 1 5) 5 mt_98 rfl rfl c_1 (by decide) rfl ?_
      refine j_pi 4 mt_98 rfl rfl h0 (by decide) ?_
      refine v_go mt_98 rfl rfl ?_
      refine v_ic (v := Int32.ofInt 1) mt_98 rfl rfl ?_
      exact j_retb mt_98 rfl rfl (by decide) h
    have c4 := c
    replace h := h.2
    have hz : x2 < 0 ∨ 4 < x2 := sw_0_4 c0 c1 c2 c3 c4
    replace h := h hz
    refine j_sd mt_98 rfl z5 hz rfl ?_
    refine v_s mt_98 rfl rfl rfl ?_
    refine v_s mt_98 rfl rfl rfl ?_
    refine j_gi (w := J5 1 5) 5 mt_98 rfl rfl c_1 (by decide) rfl ?_
    refine j_pi 5 mt_98 rfl rfl h0 (by decide) ?_
    refine v_ic (v := Int32.ofInt 1) mt_98 rfl rfl ?_
    exact j_retb mt_98 rfl rfl (by decide) h
  · replace h := h.2 (Decidable.not_not.mp c)
    refine v_ic (v := Int32.ofInt 0) mt_98 rfl rfl ?_
    exact j_retb mt_98 rfl rfl (by decide) h
set_option maxHeartbeats 600000 in
theorem b_99_0 {X : Nat × (Nat → Int32)} {d : Nat} {J : Nat → Nat → Int} {sw : Bool × Bool × Bool} {lg : Nat → Nat → Int64} {x : Nat} {K : (Option Value ⊕ Nat) → mM → Prop} {x0 : Int}
    (h : InR x0 ∧ (x0 = 0 → K (.inl (some (iv 1))) (mj J sw lg x)) ∧ (¬ x0 = 0 → ((¬ x0 = 5 → K (.inl (some (iv 0))) (mj J sw lg x)) ∧ (x0 = 5 → K (.inl (some (iv 1))) (mj J sw lg x))))) : VV X d 99 (0, [some (iv x0)], [], mj J sw lg x) K := by
  refine v_s mt_99 rfl rfl rfl ?_
  obtain ⟨z1, h⟩ := h
  refine j_if1 mt_99 rfl rfl z1 (fun c => ?_) (fun c => ?_)
  · replace h := h.1 c
    refine v_ic (v := Int32.ofInt 1) mt_99 rfl rfl ?_
    refine v_go mt_99 rfl rfl ?_
    exact v_ret mt_99 rfl rfl rfl h
  · replace h := h.2 c
    refine v_s mt_99 rfl rfl rfl ?_
    refine v_ic (v := Int32.ofInt 5) mt_99 rfl rfl ?_
    refine j_if2 mt_99 rfl rfl z1 ⟨by decide, by decide⟩ (fun c => ?_) (fun c => ?_)
    · replace h := h.1 c
      refine v_ic (v := Int32.ofInt 0) mt_99 rfl rfl ?_
      exact v_ret mt_99 rfl rfl rfl h
    · replace h := h.2 (Decidable.not_not.mp c)
      refine v_ic (v := Int32.ofInt 1) mt_99 rfl rfl ?_
      refine v_go mt_99 rfl rfl ?_
      exact v_ret mt_99 rfl rfl rfl h
set_option maxHeartbeats 600000 in
theorem b_100_0 {X : Nat × (Nat → Int32)} {d : Nat} {J : Nat → Nat → Int} {sw : Bool × Bool × Bool} {lg : Nat → Nat → Int64} {x : Nat} {K : (Option Value ⊕ Nat) → mM → Prop} {x0 : Int}
    (h : InR x0 ∧ (x0 = 0 → K (.inl (some (iv 20))) (mj J sw lg x)) ∧ (x0 = 1 → K (.inl (some (iv 9))) (mj J sw lg x)) ∧ (x0 = 2 → K (.inl (some (iv 60))) (mj J sw lg x)) ∧ (x0 < 0 ∨ 2 < x0 → K (.inl (some (iv 99))) (mj J sw lg x))) : VV X d 100 (0, [some (iv x0)], [], mj J sw lg x) K := by
  refine v_s mt_100 rfl rfl rfl ?_
  obtain ⟨z1, h⟩ := h
  by_cases c : x0 = 0
  · replace h := h.1 c
    refine j_si 0 mt_100 rfl ⟨by decide, by decide⟩ c (by decide) rfl rfl ?_
    refine v_bp (v := Int32.ofInt 20) mt_100 rfl rfl ?_
    exact v_ret mt_100 rfl rfl rfl h
  have c0 := c
  replace h := h.2
  by_cases c : x0 = 1
  · replace h := h.1 c
    refine j_si 1 mt_100 rfl ⟨by decide, by decide⟩ c (by decide) rfl rfl ?_
    refine v_bp (v := Int32.ofInt 9) mt_100 rfl rfl ?_
    exact v_ret mt_100 rfl rfl rfl h
  have c1 := c
  replace h := h.2
  by_cases c : x0 = 2
  · replace h := h.1 c
    refine j_si 2 mt_100 rfl ⟨by decide, by decide⟩ c (by decide) rfl rfl ?_
    refine v_bp (v := Int32.ofInt 60) mt_100 rfl rfl ?_
    exact v_ret mt_100 rfl rfl rfl h
  have c2 := c
  replace h := h.2
  have hz : x0 < 0 ∨ 2 < x0 := sw_0_2 c0 c1 c2
  replace h := h hz
  refine j_sd mt_100 rfl z1 hz rfl ?_
  refine v_bp (v := Int32.ofInt 99) mt_100 rfl rfl ?_
  exact v_ret mt_100 rfl rfl rfl h
set_option maxHeartbeats 600000 in
theorem b_101_0 {X : Nat × (Nat → Int32)} {d : Nat} {J : Nat → Nat → Int} {sw : Bool × Bool × Bool} {lg : Nat → Nat → Int64} {x : Nat} {K : (Option Value ⊕ Nat) → mM → Prop} {r0 : Nat} {o2 o3 : Option Value} (h0 : SH[r0]? = some (14, 12)) (hd : 2 ≤ d)
    (h : ∃ (c2 : Int) (J1 : Nat → Nat → Int), EE X 1 91 [.ref 1, iv 0, iv ((J r0 2) - 1)] (mj J sw lg x) (.inl (some (iv c2))) (mj J1 sw lg x) ∧ InR c2 ∧ (¬ c2 = 0 → (∃ (c4 : Int) (J3 : Nat → Nat → Int), EE X 1 91 [.ref 1, iv 0, iv ((J1 r0 2) - 1)] (mj J1 sw lg x) (.inl (some (iv c4))) (mj J3 sw lg x) ∧ InR c4 ∧ (¬ c4 = 0 → (InR (J1 1 5) ∧ InR (J3 1 5) ∧ (J1 1 5 = J3 1 5 → K (.inl (some (iv 0))) (mj (m_up (m_up J3 1 6 2) 1 7 (J3 1 4)) sw lg x)) ∧ (¬ J1 1 5 = J3 1 5 → ((0 ≤ J1 1 5 ∧ J1 1 5 < 9) ∧ (bAnd (bShr (J3 (r0 + 4) ((J1 1 5).toNat)) (J3 1 5)) 1 = 0 → ((0 ≤ J3 r0 3 ∧ J3 r0 3 < 14) ∧ (0 ≤ J3 1 5 ∧ J3 1 5 < 9) ∧ K (.inl (some (iv 1))) (mj (m_up (m_up (m_up (m_up (m_up J3 (r0 + 5) ((J3 r0 3).toNat) (J1 1 5)) (r0 + 6) ((J3 r0 3).toNat) (J3 1 5)) r0 3 ((J3 r0 3) + 1)) (r0 + 4) ((J1 1 5).toNat) (bOr (J3 (r0 + 4) ((J1 1 5).toNat)) (bShl 1 (J3 1 5)))) (r0 + 4) ((J3 1 5).toNat) (bOr ((m_up (m_up (m_up (m_up J3 (r0 + 5) ((J3 r0 3).toNat) (J1 1 5)) (r0 + 6) ((J3 r0 3).toNat) (J3 1 5)) r0 3 ((J3 r0 3) + 1)) (r0 + 4) ((J1 1 5).toNat) (bOr (J3 (r0 + 4) ((J1 1 5).toNat)) (bShl 1 (J3 1 5)))) (r0 + 4) ((J3 1 5).toNat)) (bShl 1 (J1 1 5)))) sw lg x))) ∧ (¬ bAnd (bShr (J3 (r0 + 4) ((J1 1 5).toNat)) (J3 1 5)) 1 = 0 → K (.inl (some (iv 0))) (mj (m_up (m_up J3 1 6 2) 1 7 (J3 1 4)) sw lg x)))))) ∧ (c4 = 0 → K (.inl (some (iv 0))) (mj J3 sw lg x)))) ∧ (c2 = 0 → K (.inl (some (iv 0))) (mj J1 sw lg x))) : VV X d 101 (0, [some (.ref r0), some (.ref 1), o2, o3], [], mj J sw lg x) K := by
  refine v_s mt_101 rfl rfl rfl ?_
  refine v_ic (v := Int32.ofInt 0) mt_101 rfl rfl ?_
  refine v_s mt_101 rfl rfl rfl ?_
  refine j_gi (w := J r0 2) 2 mt_101 rfl rfl h0 (by decide) rfl ?_
  refine v_ic (v := Int32.ofInt 1) mt_101 rfl rfl ?_
  refine j_sub (e := (J r0 2) - 1) mt_101 rfl rfl ?_
  obtain ⟨c2, J1, z1, h⟩ := h
  refine v_call (d1 := 1) mt_101 rfl rfl mt_91 rfl rfl (m_callj (As := [iv 0, iv ((J r0 2) - 1)]) (rest := []) rfl rfl c_1 rfl (Nat.le_of_ble_eq_true rfl) (Nat.le_of_ble_eq_true rfl)) z1 (by clear h; omega) ?_
  obtain ⟨z2, h⟩ := h
  refine j_if1 mt_101 rfl rfl z2 (fun c => ?_) (fun c => ?_)
  · replace h := h.1 c
    refine v_s mt_101 rfl rfl rfl ?_
    refine j_gi (w := J1 1 5) 5 mt_101 rfl rfl c_1 (by decide) rfl ?_
    refine v_isn (L' := [some (.ref r0), some (.ref 1), some (iv (J1 1 5)), o3]) mt_101 rfl (Nat.le_of_ble_eq_true rfl) rfl ?_
    refine v_s mt_101 rfl rfl rfl ?_
    refine v_ic (v := Int32.ofInt 0) mt_101 rfl rfl ?_
    refine v_s mt_101 rfl rfl rfl ?_
    refine j_gi (w := J1 r0 2) 2 mt_101 rfl rfl h0 (by decide) rfl ?_
    refine v_ic (v := Int32.ofInt 1) mt_101 rfl rfl ?_
    refine j_sub (e := (J1 r0 2) - 1) mt_101 rfl rfl ?_
    obtain ⟨c4, J3, z3, h⟩ := h
    refine v_call (d1 := 1) mt_101 rfl rfl mt_91 rfl rfl (m_callj (As := [iv 0, iv ((J1 r0 2) - 1)]) (rest := []) rfl rfl c_1 rfl (Nat.le_of_ble_eq_true rfl) (Nat.le_of_ble_eq_true rfl)) z3 (by clear h; omega) ?_
    obtain ⟨z4, h⟩ := h
    refine j_if1 mt_101 rfl rfl z4 (fun c => ?_) (fun c => ?_)
    · replace h := h.1 c
      refine v_s mt_101 rfl rfl rfl ?_
      refine j_gi (w := J3 1 5) 5 mt_101 rfl rfl c_1 (by decide) rfl ?_
      refine v_isn (L' := [some (.ref r0), some (.ref 1), some (iv (J1 1 5)), some (iv (J3 1 5))]) mt_101 rfl (Nat.le_of_ble_eq_true rfl) rfl ?_
      refine v_s mt_101 rfl rfl rfl ?_
      refine v_s mt_101 rfl rfl rfl ?_
      obtain ⟨z5, h⟩ := h
      obtain ⟨z6, h⟩ := h
      refine j_if2 mt_101 rfl rfl z5 z6 (fun c => ?_) (fun c => ?_)
      · replace h := h.1 c
        refine v_s mt_101 rfl rfl rfl ?_
        refine v_ic (v := Int32.ofInt 2) mt_101 rfl rfl ?_
        refine v_s mt_101 rfl rfl rfl ?_
        refine j_gi (w := J3 1 4) 4 mt_101 rfl rfl c_1 (by decide) rfl ?_
        refine v_inl (L1 := [some (.ref 1), some (iv 2), some (iv (J3 1 4))]) mt_101 rfl rfl mt_84 rfl rfl (m_callj (As := [iv 2, iv (J3 1 4)]) (rest := []) rfl rfl c_1 rfl (Nat.le_of_ble_eq_true rfl) (Nat.le_of_ble_eq_true rfl)) rfl (by clear h; omega) ?_
        refine v_s mt_84 rfl rfl rfl ?_
        refine v_s mt_84 rfl rfl rfl ?_
        refine j_pi 6 mt_84 rfl rfl c_1 (by decide) ?_
        refine v_s mt_84 rfl rfl rfl ?_
        refine v_s mt_84 rfl rfl rfl ?_
        refine j_pi 7 mt_84 rfl rfl c_1 (by decide) ?_
        refine v_ic (v := Int32.ofInt 0) mt_84 rfl rfl ?_
        refine j_retb mt_84 rfl rfl (by decide) ?_
        exact j_retb mt_101 rfl rfl (by decide) h
      · replace h := h.2 c
        refine v_s mt_101 rfl rfl rfl ?_
        refine v_gr (w := (r0 + 4)) 11 mt_101 rfl rfl h0 (by decide) (g_9_11 h0) ?_
        refine v_s mt_101 rfl rfl rfl ?_
        obtain ⟨z7, h⟩ := h
        refine j_al (w := J3 (r0 + 4) ((J1 1 5).toNat)) mt_101 rfl (shV r0 (SH_lt h0) h0).2.2.2.1 z7 (by decide) rfl ?_
        refine v_s mt_101 rfl rfl rfl ?_
        refine j_shr (e := bShr (J3 (r0 + 4) ((J1 1 5).toNat)) (J3 1 5)) mt_101 rfl rfl ?_
        refine v_ic (v := Int32.ofInt 1) mt_101 rfl rfl ?_
        refine j_and (e := bAnd (bShr (J3 (r0 + 4) ((J1 1 5).toNat)) (J3 1 5)) 1) mt_101 rfl rfl ?_
        refine j_if1 mt_101 rfl rfl (inT _) (fun c => ?_) (fun c => ?_)
        · replace h := h.1 c
          refine v_s mt_101 rfl rfl rfl ?_
          refine v_gr (w := (r0 + 5)) 9 mt_101 rfl rfl h0 (by decide) (g_9_9 h0) ?_
          refine v_s mt_101 rfl rfl rfl ?_
          refine j_gi (w := J3 r0 3) 3 mt_101 rfl rfl h0 (by decide) rfl ?_
          refine v_s mt_101 rfl rfl rfl ?_
          obtain ⟨z8, h⟩ := h
          refine j_as mt_101 rfl (shV r0 (SH_lt h0) h0).2.2.2.2.1 z8 (by decide) ?_
          refine v_s mt_101 rfl rfl rfl ?_
          refine v_gr (w := (r0 + 6)) 10 mt_101 rfl rfl h0 (by decide) (g_9_10 h0) ?_
          refine v_s mt_101 rfl rfl rfl ?_
          refine j_gi (w := J3 r0 3) 3 mt_101 rfl rfl h0 (by decide) ((up_na (sh_ne h0 (shV r0 (SH_lt h0) h0).2.2.2.2.1 (by decide))).trans rfl) ?_
          refine v_s mt_101 rfl rfl rfl ?_
          refine j_as mt_101 rfl (shV r0 (SH_lt h0) h0).2.2.2.2.2 z8 (by decide) ?_
          refine v_s mt_101 rfl rfl rfl ?_
          refine v_s mt_101 rfl rfl rfl ?_
          refine j_gi (w := J3 r0 3) 3 mt_101 rfl rfl h0 (by decide) ((up_na (sh_ne h0 (shV r0 (SH_lt h0) h0).2.2.2.2.2 (by decide))).trans ((up_na (sh_ne h0 (shV r0 (SH_lt h0) h0).2.2.2.2.1 (by decide))).trans rfl)) ?_
          refine v_ic (v := Int32.ofInt 1) mt_101 rfl rfl ?_
          refine j_add (e := (J3 r0 3) + 1) mt_101 rfl rfl ?_
          refine j_pi 3 mt_101 rfl rfl h0 (by decide) ?_
          refine v_s mt_101 rfl rfl rfl ?_
          refine v_gr (w := (r0 + 4)) 11 mt_101 rfl rfl h0 (by decide) (g_9_11 h0) ?_
          refine v_s mt_101 rfl rfl rfl ?_
          refine v_s mt_101 rfl rfl rfl ?_
          refine j_al (w := J3 (r0 + 4) ((J1 1 5).toNat)) mt_101 rfl (shV r0 (SH_lt h0) h0).2.2.2.1 z7 (by decide) ((up_na (sh_ne (shV r0 (SH_lt h0) h0).2.2.2.1 h0 (by decide))).trans ((up_na (sh_ne (shV r0 (SH_lt h0) h0).2.2.2.1 (shV r0 (SH_lt h0) h0).2.2.2.2.2 (by decide))).trans ((up_na (sh_ne (shV r0 (SH_lt h0) h0).2.2.2.1 (shV r0 (SH_lt h0) h0).2.2.2.2.1 (by decide))).trans rfl))) ?_
          refine v_ic (v := Int32.ofInt 1) mt_101 rfl rfl ?_
          refine v_s mt_101 rfl rfl rfl ?_
          refine j_shl (e := bShl 1 (J3 1 5)) mt_101 rfl rfl ?_
          refine j_or (e := bOr (J3 (r0 + 4) ((J1 1 5).toNat)) (bShl 1 (J3 1 5))) mt_101 rfl rfl ?_
          refine j_as mt_101 rfl (shV r0 (SH_lt h0) h0).2.2.2.1 z7 (by decide) ?_
          refine v_s mt_101 rfl rfl rfl ?_
          refine v_gr (w := (r0 + 4)) 11 mt_101 rfl rfl h0 (by decide) (g_9_11 h0) ?_
          refine v_s mt_101 rfl rfl rfl ?_
          refine v_s mt_101 rfl rfl rfl ?_
          obtain ⟨z9, h⟩ := h
          refine j_al (w := (m_up (m_up (m_up (m_up J3 (r0 + 5) ((J3 r0 3).toNat) (J1 1 5)) (r0 + 6) ((J3 r0 3).toNat) (J3 1 5)) r0 3 ((J3 r0 3) + 1)) (r0 + 4) ((J1 1 5).toNat) (bOr (J3 (r0 + 4) ((J1 1 5).toNat)) (bShl 1 (J3 1 5)))) (r0 + 4) ((J3 1 5).toNat)) mt_101 rfl (shV r0 (SH_lt h0) h0).2.2.2.1 z9 (by decide) rfl ?_
          refine v_ic (v := Int32.ofInt 1) mt_101 rfl rfl ?_
          refine v_s mt_101 rfl rfl rfl ?_
          refine j_shl (e := bShl 1 (J1 1 5)) mt_101 rfl rfl ?_
          refine j_or (e := bOr ((m_up (m_up (m_up (m_up J3 (r0 + 5) ((J3 r0 3).toNat) (J1 1 5)) (r0 + 6) ((J3 r0 3).toNat) (J3 1 5)) r0 3 ((J3 r0 3) + 1)) (r0 + 4) ((J1 1 5).toNat) (bOr (J3 (r0 + 4) ((J1 1 5).toNat)) (bShl 1 (J3 1 5)))) (r0 + 4) ((J3 1 5).toNat)) (bShl 1 (J1 1 5))) mt_101 rfl rfl ?_
          refine j_as mt_101 rfl (shV r0 (SH_lt h0) h0).2.2.2.1 z9 (by decide) ?_
          refine v_ic (v := Int32.ofInt 1) mt_101 rfl rfl ?_
          exact j_retb mt_101 rfl rfl (by decide) h
        · replace h := h.2 c
          refine v_s mt_101 rfl rfl rfl ?_
          refine v_ic (v := Int32.ofInt 2) mt_101 rfl rfl ?_
          refine v_s mt_101 rfl rfl rfl ?_
          refine j_gi (w := J3 1 4) 4 mt_101 rfl rfl c_1 (by decide) rfl ?_
          refine v_inl (L1 := [some (.ref 1), some (iv 2), some (iv (J3 1 4))]) mt_101 rfl rfl mt_84 rfl rfl (m_callj (As := [iv 2, iv (J3 1 4)]) (rest := []) rfl rfl c_1 rfl (Nat.le_of_ble_eq_true rfl) (Nat.le_of_ble_eq_true rfl)) rfl (by clear h; omega) ?_
          refine v_s mt_84 rfl rfl rfl ?_
          refine v_s mt_84 rfl rfl rfl ?_
          refine j_pi 6 mt_84 rfl rfl c_1 (by decide) ?_
          refine v_s mt_84 rfl rfl rfl ?_
          refine v_s mt_84 rfl rfl rfl ?_
          refine j_pi 7 mt_84 rfl rfl c_1 (by decide) ?_
          refine v_ic (v := Int32.ofInt 0) mt_84 rfl rfl ?_
          refine j_retb mt_84 rfl rfl (by decide) ?_
          exact j_retb mt_101 rfl rfl (by decide) h
    · replace h := h.2 (Decidable.not_not.mp c)
      refine v_ic (v := Int32.ofInt 0) mt_101 rfl rfl ?_
      exact j_retb mt_101 rfl rfl (by decide) h
  · replace h := h.2 (Decidable.not_not.mp c)
    refine v_ic (v := Int32.ofInt 0) mt_101 rfl rfl ?_
    exact j_retb mt_101 rfl rfl (by decide) h
set_option maxHeartbeats 600000 in
theorem b_43_0 {X : Nat × (Nat → Int32)} {d : Nat} {J : Nat → Nat → Int} {sw : Bool × Bool × Bool} {lg : Nat → Nat → Int64} {x : Nat} {K : (Option Value ⊕ Nat) → mM → Prop} {r0 r1 : Nat} {o2 : Option Value} (h0 : SH[r0]? = some (11, 9)) (h1 : SH[r1]? = some (14, 12))
    (h : VV X d 43 (2, [some (.ref r0), some (.ref r1), some (iv 0)], [], mj J sw lg x) K) : VV X d 43 (0, [some (.ref r0), some (.ref r1), o2], [], mj J sw lg x) K := by
  refine v_ic (v := Int32.ofInt 0) mt_43 rfl rfl ?_
  refine v_isn (L' := [some (.ref r0), some (.ref r1), some (iv 0)]) mt_43 rfl (Nat.le_of_ble_eq_true rfl) rfl ?_
  exact h
set_option maxHeartbeats 600000 in
theorem b_43_2 {X : Nat × (Nat → Int32)} {d : Nat} {J : Nat → Nat → Int} {sw : Bool × Bool × Bool} {lg : Nat → Nat → Int64} {x : Nat} {K : (Option Value ⊕ Nat) → mM → Prop} {r0 r1 : Nat} {x2 : Int} (h0 : SH[r0]? = some (11, 9)) (h1 : SH[r1]? = some (14, 12))
    (h : InR x2 ∧ (6 ≤ x2 → VV X d 43 (37, [some (.ref r0), some (.ref r1), some (iv 0)], [], mj J sw lg x) K) ∧ (x2 < 6 → ((0 ≤ x2 ∧ x2 < 6) ∧ VV X d 43 (2, [some (.ref r0), some (.ref r1), some (iv (x2 + 1))], [], mj (m_up (m_up (m_up J (r0 + 1) x2.toNat 0) (r0 + 2) x2.toNat 0) (r0 + 3) x2.toNat (-1)) sw lg x) K))) : VV X d 43 (2, [some (.ref r0), some (.ref r1), some (iv x2)], [], mj J sw lg x) K := by
  refine v_s mt_43 rfl rfl rfl ?_
  refine v_bp (v := Int32.ofInt 6) mt_43 rfl rfl ?_
  obtain ⟨z1, h⟩ := h
  refine j_if2 mt_43 rfl rfl z1 ⟨by decide, by decide⟩ (fun c => ?_) (fun c => ?_)
  · replace h := h.1 c
    refine v_ic (v := Int32.ofInt 0) mt_43 rfl rfl ?_
    refine v_isn (L' := [some (.ref r0), some (.ref r1), some (iv 0)]) mt_43 rfl (Nat.le_of_ble_eq_true rfl) rfl ?_
    exact h
  · replace h := h.2 (Int.not_le.mp c)
    refine v_s mt_43 rfl rfl rfl ?_
    refine v_gr (w := (r0 + 1)) 0 mt_43 rfl rfl h0 (by decide) (g_6_0 h0) ?_
    refine v_s mt_43 rfl rfl rfl ?_
    refine v_ic (v := Int32.ofInt 0) mt_43 rfl rfl ?_
    obtain ⟨z2, h⟩ := h
    refine j_as mt_43 rfl (shS r0 (SH_lt h0) h0).1 z2 (by decide) ?_
    refine v_s mt_43 rfl rfl rfl ?_
    refine v_gr (w := (r0 + 2)) 1 mt_43 rfl rfl h0 (by decide) (g_6_1 h0) ?_
    refine v_s mt_43 rfl rfl rfl ?_
    refine v_ic (v := Int32.ofInt 0) mt_43 rfl rfl ?_
    refine j_as mt_43 rfl (shS r0 (SH_lt h0) h0).2.1 z2 (by decide) ?_
    refine v_s mt_43 rfl rfl rfl ?_
    refine v_gr (w := (r0 + 3)) 2 mt_43 rfl rfl h0 (by decide) (g_6_2 h0) ?_
    refine v_s mt_43 rfl rfl rfl ?_
    refine v_ic (v := Int32.ofInt (-1)) mt_43 rfl rfl ?_
    refine j_as mt_43 rfl (shS r0 (SH_lt h0) h0).2.2.1 z2 (by decide) ?_
    refine j_inc (e := x2 + 1) (L' := [some (.ref r0), some (.ref r1), some (iv (x2 + 1))]) mt_43 rfl rfl (Nat.le_of_ble_eq_true rfl) rfl rfl ?_
    refine v_go mt_43 rfl rfl ?_
    exact h
set_option maxHeartbeats 600000 in
theorem b_43_37 {X : Nat × (Nat → Int32)} {d : Nat} {J : Nat → Nat → Int} {sw : Bool × Bool × Bool} {lg : Nat → Nat → Int64} {x : Nat} {K : (Option Value ⊕ Nat) → mM → Prop} {r0 r1 : Nat} {x2 : Int} (h0 : SH[r0]? = some (11, 9)) (h1 : SH[r1]? = some (14, 12))
    (h : InR x2 ∧ (6 ≤ x2 → VV X d 43 (58, [some (.ref r0), some (.ref r1), some (iv 0)], [], mj J sw lg x) K) ∧ (x2 < 6 → ((0 ≤ x2 ∧ x2 < 6) ∧ VV X d 43 (37, [some (.ref r0), some (.ref r1), some (iv (x2 + 1))], [], mj (m_up J (r0 + 4) x2.toNat 0) sw lg x) K))) : VV X d 43 (37, [some (.ref r0), some (.ref r1), some (iv x2)], [], mj J sw lg x) K := by
  refine v_s mt_43 rfl rfl rfl ?_
  refine v_bp (v := Int32.ofInt 6) mt_43 rfl rfl ?_
  obtain ⟨z1, h⟩ := h
  refine j_if2 mt_43 rfl rfl z1 ⟨by decide, by decide⟩ (fun c => ?_) (fun c => ?_)
  · replace h := h.1 c
    refine v_ic (v := Int32.ofInt 0) mt_43 rfl rfl ?_
    refine v_isn (L' := [some (.ref r0), some (.ref r1), some (iv 0)]) mt_43 rfl (Nat.le_of_ble_eq_true rfl) rfl ?_
    exact h
  · replace h := h.2 (Int.not_le.mp c)
    refine v_s mt_43 rfl rfl rfl ?_
    refine v_gr (w := (r0 + 4)) 3 mt_43 rfl rfl h0 (by decide) (g_6_3 h0) ?_
    refine v_s mt_43 rfl rfl rfl ?_
    refine v_ic (v := Int32.ofInt 0) mt_43 rfl rfl ?_
    obtain ⟨z2, h⟩ := h
    refine j_as mt_43 rfl (shS r0 (SH_lt h0) h0).2.2.2.1 z2 (by decide) ?_
    refine j_inc (e := x2 + 1) (L' := [some (.ref r0), some (.ref r1), some (iv (x2 + 1))]) mt_43 rfl rfl (Nat.le_of_ble_eq_true rfl) rfl rfl ?_
    refine v_go mt_43 rfl rfl ?_
    exact h
set_option maxHeartbeats 600000 in
theorem b_43_58 {X : Nat × (Nat → Int32)} {d : Nat} {J : Nat → Nat → Int} {sw : Bool × Bool × Bool} {lg : Nat → Nat → Int64} {x : Nat} {K : (Option Value ⊕ Nat) → mM → Prop} {r0 r1 : Nat} {x2 : Int} (h0 : SH[r0]? = some (11, 9)) (h1 : SH[r1]? = some (14, 12))
    (h : InR x2 ∧ (9 ≤ x2 → K (.inl none) (mj (m_up (m_up (m_up J r0 6 0) r0 7 0) r0 8 (J r1 4)) sw lg x)) ∧ (x2 < 9 → (InR (J r1 2) ∧ (J r1 2 ≤ x2 → ((0 ≤ x2 ∧ x2 < 9) ∧ VV X d 43 (58, [some (.ref r0), some (.ref r1), some (iv (x2 + 1))], [], mj (m_up (m_up J (r0 + 5) x2.toNat 0) (r0 + 6) x2.toNat 0) sw lg x) K)) ∧ (x2 < J r1 2 → ((0 ≤ x2 ∧ x2 < 9) ∧ VV X d 43 (58, [some (.ref r0), some (.ref r1), some (iv (x2 + 1))], [], mj (m_up (m_up J (r0 + 5) x2.toNat (J (r1 + 3) x2.toNat)) (r0 + 6) x2.toNat 0) sw lg x) K))))) : VV X d 43 (58, [some (.ref r0), some (.ref r1), some (iv x2)], [], mj J sw lg x) K := by
  refine v_s mt_43 rfl rfl rfl ?_
  refine v_bp (v := Int32.ofInt 9) mt_43 rfl rfl ?_
  obtain ⟨z1, h⟩ := h
  refine j_if2 mt_43 rfl rfl z1 ⟨by decide, by decide⟩ (fun c => ?_) (fun c => ?_)
  · replace h := h.1 c
    refine v_s mt_43 rfl rfl rfl ?_
    refine v_ic (v := Int32.ofInt 0) mt_43 rfl rfl ?_
    refine j_pi 6 mt_43 rfl rfl h0 (by decide) ?_
    refine v_s mt_43 rfl rfl rfl ?_
    refine v_ic (v := Int32.ofInt 0) mt_43 rfl rfl ?_
    refine j_pi 7 mt_43 rfl rfl h0 (by decide) ?_
    refine v_s mt_43 rfl rfl rfl ?_
    refine v_s mt_43 rfl rfl rfl ?_
    refine j_gi (w := J r1 4) 4 mt_43 rfl rfl h1 (by decide) ((up_na (sh_ne h1 h0 (by decide))).trans ((up_na (sh_ne h1 h0 (by decide))).trans rfl)) ?_
    refine j_pi 8 mt_43 rfl rfl h0 (by decide) ?_
    exact v_ret mt_43 rfl rfl rfl h
  · replace h := h.2 (Int.not_le.mp c)
    refine v_s mt_43 rfl rfl rfl ?_
    refine v_gr (w := (r0 + 5)) 4 mt_43 rfl rfl h0 (by decide) (g_6_4 h0) ?_
    refine v_s mt_43 rfl rfl rfl ?_
    refine v_s mt_43 rfl rfl rfl ?_
    refine v_s mt_43 rfl rfl rfl ?_
    refine j_gi (w := J r1 2) 2 mt_43 rfl rfl h1 (by decide) rfl ?_
    obtain ⟨z2, h⟩ := h
    refine j_if2 mt_43 rfl rfl z1 z2 (fun c => ?_) (fun c => ?_)
    · replace h := h.1 c
      refine v_ic (v := Int32.ofInt 0) mt_43 rfl rfl ?_
      obtain ⟨z3, h⟩ := h
      refine j_as mt_43 rfl (shS r0 (SH_lt h0) h0).2.2.2.2.1 z3 (by decide) ?_
      refine v_s mt_43 rfl rfl rfl ?_
      refine v_gr (w := (r0 + 6)) 5 mt_43 rfl rfl h0 (by decide) (g_6_5 h0) ?_
      refine v_s mt_43 rfl rfl rfl ?_
      refine v_ic (v := Int32.ofInt 0) mt_43 rfl rfl ?_
      refine j_as mt_43 rfl (shS r0 (SH_lt h0) h0).2.2.2.2.2 z3 (by decide) ?_
      refine j_inc (e := x2 + 1) (L' := [some (.ref r0), some (.ref r1), some (iv (x2 + 1))]) mt_43 rfl rfl (Nat.le_of_ble_eq_true rfl) rfl rfl ?_
      refine v_go mt_43 rfl rfl ?_
      exact h
    · replace h := h.2 (Int.not_le.mp c)
      refine v_s mt_43 rfl rfl rfl ?_
      refine v_gr (w := (r1 + 3)) 8 mt_43 rfl rfl h1 (by decide) (g_9_8 h1) ?_
      refine v_s mt_43 rfl rfl rfl ?_
      obtain ⟨z4, h⟩ := h
      refine j_al (w := J (r1 + 3) x2.toNat) mt_43 rfl (shV r1 (SH_lt h1) h1).2.2.1 z4 (by decide) rfl ?_
      refine v_go mt_43 rfl rfl ?_
      refine j_as mt_43 rfl (shS r0 (SH_lt h0) h0).2.2.2.2.1 z4 (by decide) ?_
      refine v_s mt_43 rfl rfl rfl ?_
      refine v_gr (w := (r0 + 6)) 5 mt_43 rfl rfl h0 (by decide) (g_6_5 h0) ?_
      refine v_s mt_43 rfl rfl rfl ?_
      refine v_ic (v := Int32.ofInt 0) mt_43 rfl rfl ?_
      refine j_as mt_43 rfl (shS r0 (SH_lt h0) h0).2.2.2.2.2 z4 (by decide) ?_
      refine j_inc (e := x2 + 1) (L' := [some (.ref r0), some (.ref r1), some (iv (x2 + 1))]) mt_43 rfl rfl (Nat.le_of_ble_eq_true rfl) rfl rfl ?_
      refine v_go mt_43 rfl rfl ?_
      exact h
set_option maxHeartbeats 600000 in
theorem b_166_0 {X : Nat × (Nat → Int32)} {d : Nat} {J : Nat → Nat → Int} {sw : Bool × Bool × Bool} {lg : Nat → Nat → Int64} {x : Nat} {K : (Option Value ⊕ Nat) → mM → Prop} {x1 x2 : Int}
    (h : InR (J 542 5) ∧ (J 542 5 = (-1) → K (.inl none) (mj (m_up (m_up J 542 5 x2) 542 6 x1) sw lg x)) ∧ (¬ J 542 5 = (-1) → K (.inl none) (mj J sw lg x))) : VV X d 166 (0, [some (.ref 542), some (iv x1), some (iv x2)], [], mj J sw lg x) K := by
  refine v_s mt_166 rfl rfl rfl ?_
  refine j_gi (w := J 542 5) 5 mt_166 rfl rfl c_542 (by decide) rfl ?_
  refine v_ic (v := Int32.ofInt (-1)) mt_166 rfl rfl ?_
  obtain ⟨z1, h⟩ := h
  refine j_if2 mt_166 rfl rfl z1 ⟨by decide, by decide⟩ (fun c => ?_) (fun c => ?_)
  · replace h := h.1 c
    refine v_s mt_166 rfl rfl rfl ?_
    refine v_s mt_166 rfl rfl rfl ?_
    refine j_pi 5 mt_166 rfl rfl c_542 (by decide) ?_
    refine v_s mt_166 rfl rfl rfl ?_
    refine v_s mt_166 rfl rfl rfl ?_
    refine j_pi 6 mt_166 rfl rfl c_542 (by decide) ?_
    exact v_ret mt_166 rfl rfl rfl h
  · replace h := h.2 c
    exact v_ret mt_166 rfl rfl rfl h
set_option maxHeartbeats 600000 in
theorem b_177_0 {X : Nat × (Nat → Int32)} {d : Nat} {J : Nat → Nat → Int} {sw : Bool × Bool × Bool} {lg : Nat → Nat → Int64} {x : Nat} {K : (Option Value ⊕ Nat) → mM → Prop} {x1 : Int} (hd : 1 ≤ d)
    (h : InR (J 542 5) ∧ (¬ J 542 5 = (-1) → K (.inl (some (iv ((J 542 6) - 10)))) (mj (m_up J 542 8 (J 542 5)) sw lg x)) ∧ (J 542 5 = (-1) → K (.inl (some (iv x1))) (mj (m_up J 542 8 (J 542 5)) sw lg x))) : VV X d 177 (0, [some (.ref 542), some (iv x1)], [], mj J sw lg x) K := by
  refine v_s mt_177 rfl rfl rfl ?_
  refine v_s mt_177 rfl rfl rfl ?_
  refine j_gi (w := J 542 5) 5 mt_177 rfl rfl c_542 (by decide) rfl ?_
  refine j_pi 8 mt_177 rfl rfl c_542 (by decide) ?_
  refine v_s mt_177 rfl rfl rfl ?_
  refine v_inl (L1 := [some (.ref 542)]) mt_177 rfl rfl mt_165 rfl rfl (m_callj (As := []) (rest := []) rfl rfl c_542 rfl (Nat.le_of_ble_eq_true rfl) (Nat.le_of_ble_eq_true rfl)) rfl (by clear h; omega) ?_
  refine v_s mt_165 rfl rfl rfl ?_
  refine j_gi (w := J 542 5) 5 mt_165 rfl rfl c_542 (by decide) ((up_nk (by decide)).trans rfl) ?_
  refine v_ic (v := Int32.ofInt (-1)) mt_165 rfl rfl ?_
  obtain ⟨z1, h⟩ := h
  refine j_if2 mt_165 rfl rfl z1 ⟨by decide, by decide⟩ (fun c => ?_) (fun c => ?_)
  · replace h := h.1 c
    refine v_ic (v := Int32.ofInt 0) mt_165 rfl rfl ?_
    refine j_retb mt_165 rfl rfl (by decide) ?_
    refine j_if1 mt_177 rfl rfl ⟨by decide, by decide⟩ (fun _ => ?_) (fun c => (c (show (0 : Int) = 0 by decide)).elim)
    refine v_s mt_177 rfl rfl rfl ?_
    refine j_gi (w := J 542 6) 6 mt_177 rfl rfl c_542 (by decide) ((up_nk (by decide)).trans rfl) ?_
    refine v_bp (v := Int32.ofInt 10) mt_177 rfl rfl ?_
    refine j_sub (e := (J 542 6) - 10) mt_177 rfl rfl ?_
    exact v_ret mt_177 rfl rfl rfl h
  · replace h := h.2 (Decidable.not_not.mp c)
    refine v_ic (v := Int32.ofInt 1) mt_165 rfl rfl ?_
    refine v_go mt_165 rfl rfl ?_
    refine j_retb mt_165 rfl rfl (by decide) ?_
    refine j_if1 mt_177 rfl rfl ⟨by decide, by decide⟩ (fun c => absurd (show (1 : Int) = 0 from c) (by decide)) (fun _ => ?_)
    refine v_s mt_177 rfl rfl rfl ?_
    refine v_go mt_177 rfl rfl ?_
    exact v_ret mt_177 rfl rfl rfl h
set_option maxHeartbeats 600000 in
theorem b_182_0 {X : Nat × (Nat → Int32)} {d : Nat} {J : Nat → Nat → Int} {sw : Bool × Bool × Bool} {lg : Nat → Nat → Int64} {x : Nat} {K : (Option Value ⊕ Nat) → mM → Prop} {x0 : Int} (hd : 1 ≤ d)
    (h : ∃ (c2 : Int) (J1 : Nat → Nat → Int), EE X 0 171 [.ref (m_scr + 1 + 23)] (mj J sw lg x) (.inl (some (iv c2))) (mj J1 sw lg x) ∧ InR x0 ∧ InR c2 ∧ (x0 = c2 → K (.inl (some (iv 1))) (mj J1 sw lg x)) ∧ (¬ x0 = c2 → (∃ (c4 : Int) (J3 : Nat → Nat → Int), EE X 0 171 [.ref (m_scr + 1 + 24)] (mj J1 sw lg x) (.inl (some (iv c4))) (mj J3 sw lg x) ∧ InR c4 ∧ (x0 = c4 → K (.inl (some (iv 1))) (mj J3 sw lg x)) ∧ (¬ x0 = c4 → (∃ (c6 : Int) (J5 : Nat → Nat → Int), EE X 0 171 [.ref (m_scr + 1 + 25)] (mj J3 sw lg x) (.inl (some (iv c6))) (mj J5 sw lg x) ∧ InR c6 ∧ (x0 = c6 → K (.inl (some (iv 1))) (mj J5 sw lg x)) ∧ (¬ x0 = c6 → (∃ (c8 : Int) (J7 : Nat → Nat → Int), EE X 0 171 [.ref (m_scr + 1 + 26)] (mj J5 sw lg x) (.inl (some (iv c8))) (mj J7 sw lg x) ∧ InR c8 ∧ (x0 = c8 → K (.inl (some (iv 1))) (mj J7 sw lg x)) ∧ (¬ x0 = c8 → (∃ (c10 : Int) (J9 : Nat → Nat → Int), EE X 0 171 [.ref (m_scr + 1 + 27)] (mj J7 sw lg x) (.inl (some (iv c10))) (mj J9 sw lg x) ∧ InR c10 ∧ (x0 = c10 → K (.inl (some (iv 1))) (mj J9 sw lg x)) ∧ (¬ x0 = c10 → (∃ (c12 : Int) (J11 : Nat → Nat → Int), EE X 0 171 [.ref (m_scr + 1 + 28)] (mj J9 sw lg x) (.inl (some (iv c12))) (mj J11 sw lg x) ∧ InR c12 ∧ (¬ x0 = c12 → K (.inl (some (iv 0))) (mj J11 sw lg x)) ∧ (x0 = c12 → K (.inl (some (iv 1))) (mj J11 sw lg x))))))))))))) : VV X d 182 (0, [some (iv x0)], [], mj J sw lg x) K := by
  refine v_s mt_182 rfl rfl rfl ?_
  refine v_s mt_182 rfl rfl rfl ?_
  obtain ⟨c2, J1, z1, h⟩ := h
  refine v_call (d1 := 0) mt_182 rfl rfl mt_171 rfl rfl rfl z1 (by clear h; omega) ?_
  obtain ⟨z2, h⟩ := h
  obtain ⟨z3, h⟩ := h
  refine j_if2 mt_182 rfl rfl z2 z3 (fun c => ?_) (fun c => ?_)
  · replace h := h.1 c
    refine v_ic (v := Int32.ofInt 1) mt_182 rfl rfl ?_
    refine v_go mt_182 rfl rfl ?_
    exact j_retb mt_182 rfl rfl (by decide) h
  · replace h := h.2 c
    refine v_s mt_182 rfl rfl rfl ?_
    refine v_s mt_182 rfl rfl rfl ?_
    obtain ⟨c4, J3, z4, h⟩ := h
    refine v_call (d1 := 0) mt_182 rfl rfl mt_171 rfl rfl rfl z4 (by clear h; omega) ?_
    obtain ⟨z5, h⟩ := h
    refine j_if2 mt_182 rfl rfl z2 z5 (fun c => ?_) (fun c => ?_)
    · replace h := h.1 c
      refine v_ic (v := Int32.ofInt 1) mt_182 rfl rfl ?_
      refine v_go mt_182 rfl rfl ?_
      exact j_retb mt_182 rfl rfl (by decide) h
    · replace h := h.2 c
      refine v_s mt_182 rfl rfl rfl ?_
      refine v_s mt_182 rfl rfl rfl ?_
      obtain ⟨c6, J5, z6, h⟩ := h
      refine v_call (d1 := 0) mt_182 rfl rfl mt_171 rfl rfl rfl z6 (by clear h; omega) ?_
      obtain ⟨z7, h⟩ := h
      refine j_if2 mt_182 rfl rfl z2 z7 (fun c => ?_) (fun c => ?_)
      · replace h := h.1 c
        refine v_ic (v := Int32.ofInt 1) mt_182 rfl rfl ?_
        refine v_go mt_182 rfl rfl ?_
        exact j_retb mt_182 rfl rfl (by decide) h
      · replace h := h.2 c
        refine v_s mt_182 rfl rfl rfl ?_
        refine v_s mt_182 rfl rfl rfl ?_
        obtain ⟨c8, J7, z8, h⟩ := h
        refine v_call (d1 := 0) mt_182 rfl rfl mt_171 rfl rfl rfl z8 (by clear h; omega) ?_
        obtain ⟨z9, h⟩ := h
        refine j_if2 mt_182 rfl rfl z2 z9 (fun c => ?_) (fun c => ?_)
        · replace h := h.1 c
          refine v_ic (v := Int32.ofInt 1) mt_182 rfl rfl ?_
          refine v_go mt_182 rfl rfl ?_
          exact j_retb mt_182 rfl rfl (by decide) h
        · replace h := h.2 c
          refine v_s mt_182 rfl rfl rfl ?_
          refine v_s mt_182 rfl rfl rfl ?_
          obtain ⟨c10, J9, z10, h⟩ := h
          refine v_call (d1 := 0) mt_182 rfl rfl mt_171 rfl rfl rfl z10 (by clear h; omega) ?_
          obtain ⟨z11, h⟩ := h
          refine j_if2 mt_182 rfl rfl z2 z11 (fun c => ?_) (fun c => ?_)
          · replace h := h.1 c
            refine v_ic (v := Int32.ofInt 1) mt_182 rfl rfl ?_
            refine v_go mt_182 rfl rfl ?_
            exact j_retb mt_182 rfl rfl (by decide) h
          · replace h := h.2 c
            refine v_s mt_182 rfl rfl rfl ?_
            refine v_s mt_182 rfl rfl rfl ?_
            obtain ⟨c12, J11, z12, h⟩ := h
            refine v_call (d1 := 0) mt_182 rfl rfl mt_171 rfl rfl rfl z12 (by clear h; omega) ?_
            obtain ⟨z13, h⟩ := h
            refine j_if2 mt_182 rfl rfl z2 z13 (fun c => ?_) (fun c => ?_)
            · replace h := h.1 c
              refine v_ic (v := Int32.ofInt 0) mt_182 rfl rfl ?_
              exact j_retb mt_182 rfl rfl (by decide) h
            · replace h := h.2 (Decidable.not_not.mp c)
              refine v_ic (v := Int32.ofInt 1) mt_182 rfl rfl ?_
              refine v_go mt_182 rfl rfl ?_
              exact j_retb mt_182 rfl rfl (by decide) h
set_option maxHeartbeats 600000 in
theorem b_183_0 {X : Nat × (Nat → Int32)} {d : Nat} {J : Nat → Nat → Int} {sw : Bool × Bool × Bool} {lg : Nat → Nat → Int64} {x : Nat} {K : (Option Value ⊕ Nat) → mM → Prop} {x1 : Int} (hd : 1 ≤ d)
    (h : ∃ (c2 : Int) (J1 : Nat → Nat → Int), EE X 0 171 [.ref (m_scr + 1 + 23)] (mj J sw lg x) (.inl (some (iv c2))) (mj J1 sw lg x) ∧ InR x1 ∧ InR c2 ∧ (¬ x1 = c2 → (∃ (c4 : Int) (J3 : Nat → Nat → Int), EE X 0 171 [.ref (m_scr + 1 + 24)] (mj J1 sw lg x) (.inl (some (iv c4))) (mj J3 sw lg x) ∧ InR c4 ∧ (¬ x1 = c4 → (∃ (c6 : Int) (J5 : Nat → Nat → Int), EE X 0 171 [.ref (m_scr + 1 + 25)] (mj J3 sw lg x) (.inl (some (iv c6))) (mj J5 sw lg x) ∧ InR c6 ∧ (¬ x1 = c6 → (∃ (c8 : Int) (J7 : Nat → Nat → Int), EE X 0 171 [.ref (m_scr + 1 + 26)] (mj J5 sw lg x) (.inl (some (iv c8))) (mj J7 sw lg x) ∧ InR c8 ∧ (¬ x1 = c8 → K (.inl (some (iv 0))) (mj J7 sw lg x)) ∧ (x1 = c8 → (InR (J7 542 21) ∧ (¬ J7 542 21 = 14 → K (.inl (some (iv 0))) (mj J7 sw lg x)) ∧ (J7 542 21 = 14 → K (.inl (some (iv 1))) (mj J7 sw lg x)))))) ∧ (x1 = c6 → (InR (J5 542 20) ∧ (¬ J5 542 20 = 9 → K (.inl (some (iv 0))) (mj J5 sw lg x)) ∧ (J5 542 20 = 9 → K (.inl (some (iv 1))) (mj J5 sw lg x)))))) ∧ (x1 = c4 → (InR (J3 542 19) ∧ (¬ J3 542 19 = 6 → K (.inl (some (iv 0))) (mj J3 sw lg x)) ∧ (J3 542 19 = 6 → K (.inl (some (iv 1))) (mj J3 sw lg x)))))) ∧ (x1 = c2 → (InR (J1 542 18) ∧ (¬ J1 542 18 = 6 → K (.inl (some (iv 0))) (mj J1 sw lg x)) ∧ (J1 542 18 = 6 → K (.inl (some (iv 1))) (mj J1 sw lg x))))) : VV X d 183 (0, [some (.ref 542), some (iv x1)], [], mj J sw lg x) K := by
  refine v_s mt_183 rfl rfl rfl ?_
  refine v_s mt_183 rfl rfl rfl ?_
  obtain ⟨c2, J1, z1, h⟩ := h
  refine v_call (d1 := 0) mt_183 rfl rfl mt_171 rfl rfl rfl z1 (by clear h; omega) ?_
  obtain ⟨z2, h⟩ := h
  obtain ⟨z3, h⟩ := h
  refine j_if2 mt_183 rfl rfl z2 z3 (fun c => ?_) (fun c => ?_)
  · replace h := h.1 c
    refine v_s mt_183 rfl rfl rfl ?_
    refine v_s mt_183 rfl rfl rfl ?_
    obtain ⟨c4, J3, z4, h⟩ := h
    refine v_call (d1 := 0) mt_183 rfl rfl mt_171 rfl rfl rfl z4 (by clear h; omega) ?_
    obtain ⟨z5, h⟩ := h
    refine j_if2 mt_183 rfl rfl z2 z5 (fun c => ?_) (fun c => ?_)
    · replace h := h.1 c
      refine v_s mt_183 rfl rfl rfl ?_
      refine v_s mt_183 rfl rfl rfl ?_
      obtain ⟨c6, J5, z6, h⟩ := h
      refine v_call (d1 := 0) mt_183 rfl rfl mt_171 rfl rfl rfl z6 (by clear h; omega) ?_
      obtain ⟨z7, h⟩ := h
      refine j_if2 mt_183 rfl rfl z2 z7 (fun c => ?_) (fun c => ?_)
      · replace h := h.1 c
        refine v_s mt_183 rfl rfl rfl ?_
        refine v_s mt_183 rfl rfl rfl ?_
        obtain ⟨c8, J7, z8, h⟩ := h
        refine v_call (d1 := 0) mt_183 rfl rfl mt_171 rfl rfl rfl z8 (by clear h; omega) ?_
        obtain ⟨z9, h⟩ := h
        refine j_if2 mt_183 rfl rfl z2 z9 (fun c => ?_) (fun c => ?_)
        · replace h := h.1 c
          refine v_ic (v := Int32.ofInt 0) mt_183 rfl rfl ?_
          exact j_retb mt_183 rfl rfl (by decide) h
        · replace h := h.2 (Decidable.not_not.mp c)
          refine v_s mt_183 rfl rfl rfl ?_
          refine j_gi (w := J7 542 21) 21 mt_183 rfl rfl c_542 (by decide) rfl ?_
          refine v_bp (v := Int32.ofInt 14) mt_183 rfl rfl ?_
          obtain ⟨z10, h⟩ := h
          refine j_if2 mt_183 rfl rfl z10 ⟨by decide, by decide⟩ (fun c => ?_) (fun c => ?_)
          · replace h := h.1 c
            refine v_ic (v := Int32.ofInt 0) mt_183 rfl rfl ?_
            exact j_retb mt_183 rfl rfl (by decide) h
          · replace h := h.2 (Decidable.not_not.mp c)
            refine v_ic (v := Int32.ofInt 1) mt_183 rfl rfl ?_
            refine v_go mt_183 rfl rfl ?_
            exact j_retb mt_183 rfl rfl (by decide) h
      · replace h := h.2 (Decidable.not_not.mp c)
        refine v_s mt_183 rfl rfl rfl ?_
        refine j_gi (w := J5 542 20) 20 mt_183 rfl rfl c_542 (by decide) rfl ?_
        refine v_bp (v := Int32.ofInt 9) mt_183 rfl rfl ?_
        obtain ⟨z11, h⟩ := h
        refine j_if2 mt_183 rfl rfl z11 ⟨by decide, by decide⟩ (fun c => ?_) (fun c => ?_)
        · replace h := h.1 c
          refine v_ic (v := Int32.ofInt 0) mt_183 rfl rfl ?_
          refine v_go mt_183 rfl rfl ?_
          exact j_retb mt_183 rfl rfl (by decide) h
        · replace h := h.2 (Decidable.not_not.mp c)
          refine v_ic (v := Int32.ofInt 1) mt_183 rfl rfl ?_
          refine v_go mt_183 rfl rfl ?_
          exact j_retb mt_183 rfl rfl (by decide) h
    · replace h := h.2 (Decidable.not_not.mp c)
      refine v_s mt_183 rfl rfl rfl ?_
      refine j_gi (w := J3 542 19) 19 mt_183 rfl rfl c_542 (by decide) rfl ?_
      refine v_bp (v := Int32.ofInt 6) mt_183 rfl rfl ?_
      obtain ⟨z12, h⟩ := h
      refine j_if2 mt_183 rfl rfl z12 ⟨by decide, by decide⟩ (fun c => ?_) (fun c => ?_)
      · replace h := h.1 c
        refine v_ic (v := Int32.ofInt 0) mt_183 rfl rfl ?_
        refine v_go mt_183 rfl rfl ?_
        exact j_retb mt_183 rfl rfl (by decide) h
      · replace h := h.2 (Decidable.not_not.mp c)
        refine v_ic (v := Int32.ofInt 1) mt_183 rfl rfl ?_
        refine v_go mt_183 rfl rfl ?_
        exact j_retb mt_183 rfl rfl (by decide) h
  · replace h := h.2 (Decidable.not_not.mp c)
    refine v_s mt_183 rfl rfl rfl ?_
    refine j_gi (w := J1 542 18) 18 mt_183 rfl rfl c_542 (by decide) rfl ?_
    refine v_bp (v := Int32.ofInt 6) mt_183 rfl rfl ?_
    obtain ⟨z13, h⟩ := h
    refine j_if2 mt_183 rfl rfl z13 ⟨by decide, by decide⟩ (fun c => ?_) (fun c => ?_)
    · replace h := h.1 c
      refine v_ic (v := Int32.ofInt 0) mt_183 rfl rfl ?_
      refine v_go mt_183 rfl rfl ?_
      exact j_retb mt_183 rfl rfl (by decide) h
    · replace h := h.2 (Decidable.not_not.mp c)
      refine v_ic (v := Int32.ofInt 1) mt_183 rfl rfl ?_
      refine v_go mt_183 rfl rfl ?_
      exact j_retb mt_183 rfl rfl (by decide) h
set_option maxHeartbeats 600000 in
theorem b_184_0 {X : Nat × (Nat → Int32)} {d : Nat} {J : Nat → Nat → Int} {sw : Bool × Bool × Bool} {lg : Nat → Nat → Int64} {x : Nat} {K : (Option Value ⊕ Nat) → mM → Prop} {o1 o2 o3 o4 : Option Value} (hd : 2 ≤ d)
    (h : ∃ (c2 : Int) (J1 : Nat → Nat → Int), EE X 1 173 [.ref 542, iv 0, iv ((J 542 20) - 1)] (mj J sw lg x) (.inl (some (iv c2))) (mj J1 sw lg x) ∧ ∃ (c4 : Int) (J3 : Nat → Nat → Int), EE X 0 167 [.ref 542] (mj J1 sw lg x) (.inl (some (iv c4))) (mj J3 sw lg x) ∧ ∃ (c6 : Int) (J5 : Nat → Nat → Int), EE X 1 173 [.ref 542, iv 0, iv ((J3 542 20) - 1)] (mj J3 sw lg x) (.inl (some (iv c6))) (mj J5 sw lg x) ∧ InR (J5 542 5) ∧ (¬ J5 542 5 = (-1) → VV X d 184 (52, [some (.ref 542), some (iv c2), some (iv (J3 542 4)), some (iv c6), o4], [], mj J5 sw lg x) K) ∧ (J5 542 5 = (-1) → (InR c2 ∧ InR c6 ∧ (¬ c2 = c6 → VV X d 184 (52, [some (.ref 542), some (iv c2), some (iv (J3 542 4)), some (iv c6), o4], [], mj J5 sw lg x) K) ∧ (c2 = c6 → (∃ (J7 : Nat → Nat → Int), EE X 0 166 [.ref 542, iv 2, iv (J3 542 4)] (mj J5 sw lg x) (.inl none) (mj J7 sw lg x) ∧ VV X d 184 (52, [some (.ref 542), some (iv c2), some (iv (J3 542 4)), some (iv c6), o4], [], mj J7 sw lg x) K))))) : VV X d 184 (0, [some (.ref 542), o1, o2, o3, o4], [], mj J sw lg x) K := by
  refine v_s mt_184 rfl rfl rfl ?_
  refine v_ic (v := Int32.ofInt 0) mt_184 rfl rfl ?_
  refine v_s mt_184 rfl rfl rfl ?_
  refine j_gi (w := J 542 20) 20 mt_184 rfl rfl c_542 (by decide) rfl ?_
  refine v_ic (v := Int32.ofInt 1) mt_184 rfl rfl ?_
  refine j_sub (e := (J 542 20) - 1) mt_184 rfl rfl ?_
  obtain ⟨c2, J1, z1, h⟩ := h
  refine v_call (d1 := 1) mt_184 rfl rfl mt_173 rfl rfl (m_callj (As := [iv 0, iv ((J 542 20) - 1)]) (rest := []) rfl rfl c_542 rfl (Nat.le_of_ble_eq_true rfl) (Nat.le_of_ble_eq_true rfl)) z1 (by clear h; omega) ?_
  refine v_isn (L' := [some (.ref 542), some (iv c2), o2, o3, o4]) mt_184 rfl (Nat.le_of_ble_eq_true rfl) rfl ?_
  refine v_s mt_184 rfl rfl rfl ?_
  obtain ⟨c4, J3, z2, h⟩ := h
  refine v_call (d1 := 0) mt_184 rfl rfl mt_167 rfl rfl (m_callj (As := []) (rest := []) rfl rfl c_542 rfl (Nat.le_of_ble_eq_true rfl) (Nat.le_of_ble_eq_true rfl)) z2 (by clear h; omega) ?_
  refine v_s mt_184 rfl rfl rfl ?_
  refine v_s mt_184 rfl rfl rfl ?_
  refine j_gi (w := J3 542 4) 4 mt_184 rfl rfl c_542 (by decide) rfl ?_
  refine v_isn (L' := [some (.ref 542), some (iv c2), some (iv (J3 542 4)), o3, o4]) mt_184 rfl (Nat.le_of_ble_eq_true rfl) rfl ?_
  refine v_s mt_184 rfl rfl rfl ?_
  refine v_ic (v := Int32.ofInt 0) mt_184 rfl rfl ?_
  refine v_s mt_184 rfl rfl rfl ?_
  refine j_gi (w := J3 542 20) 20 mt_184 rfl rfl c_542 (by decide) rfl ?_
  refine v_ic (v := Int32.ofInt 1) mt_184 rfl rfl ?_
  refine j_sub (e := (J3 542 20) - 1) mt_184 rfl rfl ?_
  obtain ⟨c6, J5, z3, h⟩ := h
  refine v_call (d1 := 1) mt_184 rfl rfl mt_173 rfl rfl (m_callj (As := [iv 0, iv ((J3 542 20) - 1)]) (rest := []) rfl rfl c_542 rfl (Nat.le_of_ble_eq_true rfl) (Nat.le_of_ble_eq_true rfl)) z3 (by clear h; omega) ?_
  refine v_isn (L' := [some (.ref 542), some (iv c2), some (iv (J3 542 4)), some (iv c6), o4]) mt_184 rfl (Nat.le_of_ble_eq_true rfl) rfl ?_
  refine v_s mt_184 rfl rfl rfl ?_
  refine v_inl (L1 := [some (.ref 542)]) mt_184 rfl rfl mt_165 rfl rfl (m_callj (As := []) (rest := []) rfl rfl c_542 rfl (Nat.le_of_ble_eq_true rfl) (Nat.le_of_ble_eq_true rfl)) rfl (by clear h; omega) ?_
  refine v_s mt_165 rfl rfl rfl ?_
  refine j_gi (w := J5 542 5) 5 mt_165 rfl rfl c_542 (by decide) rfl ?_
  refine v_ic (v := Int32.ofInt (-1)) mt_165 rfl rfl ?_
  obtain ⟨z4, h⟩ := h
  refine j_if2 mt_165 rfl rfl z4 ⟨by decide, by decide⟩ (fun c => ?_) (fun c => ?_)
  · replace h := h.1 c
    refine v_ic (v := Int32.ofInt 0) mt_165 rfl rfl ?_
    refine j_retb mt_165 rfl rfl (by decide) ?_
    refine j_if1 mt_184 rfl rfl ⟨by decide, by decide⟩ (fun _ => ?_) (fun c => (c (show (0 : Int) = 0 by decide)).elim)
    exact h
  · replace h := h.2 (Decidable.not_not.mp c)
    refine v_ic (v := Int32.ofInt 1) mt_165 rfl rfl ?_
    refine v_go mt_165 rfl rfl ?_
    refine j_retb mt_165 rfl rfl (by decide) ?_
    refine j_if1 mt_184 rfl rfl ⟨by decide, by decide⟩ (fun c => absurd (show (1 : Int) = 0 from c) (by decide)) (fun _ => ?_)
    refine v_s mt_184 rfl rfl rfl ?_
    refine v_s mt_184 rfl rfl rfl ?_
    obtain ⟨z5, h⟩ := h
    obtain ⟨z6, h⟩ := h
    refine j_if2 mt_184 rfl rfl z5 z6 (fun c => ?_) (fun c => ?_)
    · replace h := h.1 c
      exact h
    · replace h := h.2 (Decidable.not_not.mp c)
      refine v_s mt_184 rfl rfl rfl ?_
      refine v_ic (v := Int32.ofInt 2) mt_184 rfl rfl ?_
      refine v_s mt_184 rfl rfl rfl ?_
      obtain ⟨J7, z7, h⟩ := h
      refine v_call (d1 := 0) mt_184 rfl rfl mt_166 rfl rfl (m_callj (As := [iv 2, iv (J3 542 4)]) (rest := []) rfl rfl c_542 rfl (Nat.le_of_ble_eq_true rfl) (Nat.le_of_ble_eq_true rfl)) z7 (by clear h; omega) ?_
      exact h
set_option maxHeartbeats 600000 in
theorem b_184_52 {X : Nat × (Nat → Int32)} {d : Nat} {J : Nat → Nat → Int} {sw : Bool × Bool × Bool} {lg : Nat → Nat → Int64} {x : Nat} {K : (Option Value ⊕ Nat) → mM → Prop} {x1 x2 x3 : Int} {o4 : Option Value} (hd : 2 ≤ d)
    (h : VV X d 184 (55, [some (.ref 542), some (iv x1), some (iv x2), some (iv x3), some (iv 0)], [], mj J sw lg x) K) : VV X d 184 (52, [some (.ref 542), some (iv x1), some (iv x2), some (iv x3), o4], [], mj J sw lg x) K := by
  refine v_ic (v := Int32.ofInt 0) mt_184 rfl rfl ?_
  refine v_is (L' := [some (.ref 542), some (iv x1), some (iv x2), some (iv x3), some (iv 0)]) mt_184 rfl (Nat.le_of_ble_eq_true rfl) rfl ?_
  exact h
set_option maxHeartbeats 600000 in
theorem b_184_55 {X : Nat × (Nat → Int32)} {d : Nat} {J : Nat → Nat → Int} {sw : Bool × Bool × Bool} {lg : Nat → Nat → Int64} {x : Nat} {K : (Option Value ⊕ Nat) → mM → Prop} {x1 x2 x3 x4 : Int} (hd : 2 ≤ d)
    (h : InR x4 ∧ InR (J 542 21) ∧ (J 542 21 ≤ x4 → VV X d 184 (139, [some (.ref 542), some (iv x1), some (iv x2), some (iv x3), some (iv x4)], [], mj J sw lg x) K) ∧ (x4 < J 542 21 → (InR (J 542 5) ∧ (¬ J 542 5 = (-1) → VV X d 184 (139, [some (.ref 542), some (iv x1), some (iv x2), some (iv x3), some (iv x4)], [], mj J sw lg x) K) ∧ (J 542 5 = (-1) → ((0 ≤ 2 * x4 ∧ 2 * x4 < 28) ∧ InR (J 548 ((2 * x4).toNat)) ∧ InR x1 ∧ (¬ J 548 ((2 * x4).toNat) = x1 → VV X d 184 (99, [some (.ref 542), some (iv x1), some (iv x2), some (iv x3), some (iv x4)], [], mj J sw lg x) K) ∧ (J 548 ((2 * x4).toNat) = x1 → ((0 ≤ (2 * x4) + 1 ∧ (2 * x4) + 1 < 28) ∧ InR (J 548 (((2 * x4) + 1).toNat)) ∧ InR x3 ∧ (J 548 (((2 * x4) + 1).toNat) = x3 → VV X d 184 (127, [some (.ref 542), some (iv x1), some (iv x2), some (iv x3), some (iv x4)], [], mj J sw lg x) K) ∧ (¬ J 548 (((2 * x4) + 1).toNat) = x3 → VV X d 184 (99, [some (.ref 542), some (iv x1), some (iv x2), some (iv x3), some (iv x4)], [], mj J sw lg x) K)))))))) : VV X d 184 (55, [some (.ref 542), some (iv x1), some (iv x2), some (iv x3), some (iv x4)], [], mj J sw lg x) K := by
  refine v_s mt_184 rfl rfl rfl ?_
  refine v_s mt_184 rfl rfl rfl ?_
  refine j_gi (w := J 542 21) 21 mt_184 rfl rfl c_542 (by decide) rfl ?_
  obtain ⟨z1, h⟩ := h
  obtain ⟨z2, h⟩ := h
  refine j_if2 mt_184 rfl rfl z1 z2 (fun c => ?_) (fun c => ?_)
  · replace h := h.1 c
    exact h
  · replace h := h.2 (Int.not_le.mp c)
    refine v_s mt_184 rfl rfl rfl ?_
    refine v_inl (L1 := [some (.ref 542)]) mt_184 rfl rfl mt_165 rfl rfl (m_callj (As := []) (rest := []) rfl rfl c_542 rfl (Nat.le_of_ble_eq_true rfl) (Nat.le_of_ble_eq_true rfl)) rfl (by clear h; omega) ?_
    refine v_s mt_165 rfl rfl rfl ?_
    refine j_gi (w := J 542 5) 5 mt_165 rfl rfl c_542 (by decide) rfl ?_
    refine v_ic (v := Int32.ofInt (-1)) mt_165 rfl rfl ?_
    obtain ⟨z3, h⟩ := h
    refine j_if2 mt_165 rfl rfl z3 ⟨by decide, by decide⟩ (fun c => ?_) (fun c => ?_)
    · replace h := h.1 c
      refine v_ic (v := Int32.ofInt 0) mt_165 rfl rfl ?_
      refine j_retb mt_165 rfl rfl (by decide) ?_
      refine j_if1 mt_184 rfl rfl ⟨by decide, by decide⟩ (fun _ => ?_) (fun c => (c (show (0 : Int) = 0 by decide)).elim)
      exact h
    · replace h := h.2 (Decidable.not_not.mp c)
      refine v_ic (v := Int32.ofInt 1) mt_165 rfl rfl ?_
      refine v_go mt_165 rfl rfl ?_
      refine j_retb mt_165 rfl rfl (by decide) ?_
      refine j_if1 mt_184 rfl rfl ⟨by decide, by decide⟩ (fun c => absurd (show (1 : Int) = 0 from c) (by decide)) (fun _ => ?_)
      refine v_s mt_184 rfl rfl rfl ?_
      refine v_gr (w := 548) 13 mt_184 rfl rfl c_542 (by decide) (g_12_13 c_542) ?_
      refine v_ic (v := Int32.ofInt 2) mt_184 rfl rfl ?_
      refine v_s mt_184 rfl rfl rfl ?_
      refine j_mul (e := 2 * x4) mt_184 rfl rfl ?_
      obtain ⟨z4, h⟩ := h
      refine j_al (w := J 548 ((2 * x4).toNat)) mt_184 rfl c_548 z4 (by decide) rfl ?_
      refine v_s mt_184 rfl rfl rfl ?_
      obtain ⟨z5, h⟩ := h
      obtain ⟨z6, h⟩ := h
      refine j_if2 mt_184 rfl rfl z5 z6 (fun c => ?_) (fun c => ?_)
      · replace h := h.1 c
        exact h
      · replace h := h.2 (Decidable.not_not.mp c)
        refine v_s mt_184 rfl rfl rfl ?_
        refine v_gr (w := 548) 13 mt_184 rfl rfl c_542 (by decide) (g_12_13 c_542) ?_
        refine v_ic (v := Int32.ofInt 2) mt_184 rfl rfl ?_
        refine v_s mt_184 rfl rfl rfl ?_
        refine j_mul (e := 2 * x4) mt_184 rfl rfl ?_
        refine v_ic (v := Int32.ofInt 1) mt_184 rfl rfl ?_
        refine j_add (e := (2 * x4) + 1) mt_184 rfl rfl ?_
        obtain ⟨z7, h⟩ := h
        refine j_al (w := J 548 (((2 * x4) + 1).toNat)) mt_184 rfl c_548 z7 (by decide) rfl ?_
        refine v_s mt_184 rfl rfl rfl ?_
        obtain ⟨z8, h⟩ := h
        obtain ⟨z9, h⟩ := h
        refine j_if2 mt_184 rfl rfl z8 z9 (fun c => ?_) (fun c => ?_)
        · replace h := h.1 c
          exact h
        · replace h := h.2 c
          exact h
set_option maxHeartbeats 600000 in
theorem b_184_139 {X : Nat × (Nat → Int32)} {d : Nat} {J : Nat → Nat → Int} {sw : Bool × Bool × Bool} {lg : Nat → Nat → Int64} {x : Nat} {K : (Option Value ⊕ Nat) → mM → Prop} {x1 x2 x3 x4 : Int} (hd : 2 ≤ d)
    (h : (0 ≤ 2 * (J 542 21) ∧ 2 * (J 542 21) < 28) ∧ (0 ≤ (2 * (J 542 21)) + 1 ∧ (2 * (J 542 21)) + 1 < 28) ∧ K (.inl none) (mj (m_up (m_up (m_up J 548 ((2 * (J 542 21)).toNat) x1) 548 (((2 * (J 542 21)) + 1).toNat) x3) 542 21 ((J 542 21) + 1)) sw lg x)) : VV X d 184 (139, [some (.ref 542), some (iv x1), some (iv x2), some (iv x3), some (iv x4)], [], mj J sw lg x) K := by
  refine v_s mt_184 rfl rfl rfl ?_
  refine v_gr (w := 548) 13 mt_184 rfl rfl c_542 (by decide) (g_12_13 c_542) ?_
  refine v_ic (v := Int32.ofInt 2) mt_184 rfl rfl ?_
  refine v_s mt_184 rfl rfl rfl ?_
  refine j_gi (w := J 542 21) 21 mt_184 rfl rfl c_542 (by decide) rfl ?_
  refine j_mul (e := 2 * (J 542 21)) mt_184 rfl rfl ?_
  refine v_s mt_184 rfl rfl rfl ?_
  obtain ⟨z1, h⟩ := h
  refine j_as mt_184 rfl c_548 z1 (by decide) ?_
  refine v_s mt_184 rfl rfl rfl ?_
  refine v_gr (w := 548) 13 mt_184 rfl rfl c_542 (by decide) (g_12_13 c_542) ?_
  refine v_ic (v := Int32.ofInt 2) mt_184 rfl rfl ?_
  refine v_s mt_184 rfl rfl rfl ?_
  refine j_gi (w := J 542 21) 21 mt_184 rfl rfl c_542 (by decide) ((up_na (by decide)).trans rfl) ?_
  refine j_mul (e := 2 * (J 542 21)) mt_184 rfl rfl ?_
  refine v_ic (v := Int32.ofInt 1) mt_184 rfl rfl ?_
  refine j_add (e := (2 * (J 542 21)) + 1) mt_184 rfl rfl ?_
  refine v_s mt_184 rfl rfl rfl ?_
  obtain ⟨z2, h⟩ := h
  refine j_as mt_184 rfl c_548 z2 (by decide) ?_
  refine v_s mt_184 rfl rfl rfl ?_
  refine v_s mt_184 rfl rfl rfl ?_
  refine j_gi (w := J 542 21) 21 mt_184 rfl rfl c_542 (by decide) ((up_na (by decide)).trans ((up_na (by decide)).trans rfl)) ?_
  refine v_ic (v := Int32.ofInt 1) mt_184 rfl rfl ?_
  refine j_add (e := (J 542 21) + 1) mt_184 rfl rfl ?_
  refine j_pi 21 mt_184 rfl rfl c_542 (by decide) ?_
  exact v_ret mt_184 rfl rfl rfl h
set_option maxHeartbeats 600000 in
theorem b_184_99 {X : Nat × (Nat → Int32)} {d : Nat} {J : Nat → Nat → Int} {sw : Bool × Bool × Bool} {lg : Nat → Nat → Int64} {x : Nat} {K : (Option Value ⊕ Nat) → mM → Prop} {x1 x2 x3 x4 : Int} (hd : 2 ≤ d)
    (h : (0 ≤ 2 * x4 ∧ 2 * x4 < 28) ∧ InR (J 548 ((2 * x4).toNat)) ∧ InR x3 ∧ (¬ J 548 ((2 * x4).toNat) = x3 → VV X d 184 (133, [some (.ref 542), some (iv x1), some (iv x2), some (iv x3), some (iv x4)], [], mj J sw lg x) K) ∧ (J 548 ((2 * x4).toNat) = x3 → ((0 ≤ (2 * x4) + 1 ∧ (2 * x4) + 1 < 28) ∧ InR (J 548 (((2 * x4) + 1).toNat)) ∧ InR x1 ∧ (¬ J 548 (((2 * x4) + 1).toNat) = x1 → VV X d 184 (133, [some (.ref 542), some (iv x1), some (iv x2), some (iv x3), some (iv x4)], [], mj J sw lg x) K) ∧ (J 548 (((2 * x4) + 1).toNat) = x1 → VV X d 184 (127, [some (.ref 542), some (iv x1), some (iv x2), some (iv x3), some (iv x4)], [], mj J sw lg x) K)))) : VV X d 184 (99, [some (.ref 542), some (iv x1), some (iv x2), some (iv x3), some (iv x4)], [], mj J sw lg x) K := by
  refine v_s mt_184 rfl rfl rfl ?_
  refine v_gr (w := 548) 13 mt_184 rfl rfl c_542 (by decide) (g_12_13 c_542) ?_
  refine v_ic (v := Int32.ofInt 2) mt_184 rfl rfl ?_
  refine v_s mt_184 rfl rfl rfl ?_
  refine j_mul (e := 2 * x4) mt_184 rfl rfl ?_
  obtain ⟨z1, h⟩ := h
  refine j_al (w := J 548 ((2 * x4).toNat)) mt_184 rfl c_548 z1 (by decide) rfl ?_
  refine v_s mt_184 rfl rfl rfl ?_
  obtain ⟨z2, h⟩ := h
  obtain ⟨z3, h⟩ := h
  refine j_if2 mt_184 rfl rfl z2 z3 (fun c => ?_) (fun c => ?_)
  · replace h := h.1 c
    exact h
  · replace h := h.2 (Decidable.not_not.mp c)
    refine v_s mt_184 rfl rfl rfl ?_
    refine v_gr (w := 548) 13 mt_184 rfl rfl c_542 (by decide) (g_12_13 c_542) ?_
    refine v_ic (v := Int32.ofInt 2) mt_184 rfl rfl ?_
    refine v_s mt_184 rfl rfl rfl ?_
    refine j_mul (e := 2 * x4) mt_184 rfl rfl ?_
    refine v_ic (v := Int32.ofInt 1) mt_184 rfl rfl ?_
    refine j_add (e := (2 * x4) + 1) mt_184 rfl rfl ?_
    obtain ⟨z4, h⟩ := h
    refine j_al (w := J 548 (((2 * x4) + 1).toNat)) mt_184 rfl c_548 z4 (by decide) rfl ?_
    refine v_s mt_184 rfl rfl rfl ?_
    obtain ⟨z5, h⟩ := h
    obtain ⟨z6, h⟩ := h
    refine j_if2 mt_184 rfl rfl z5 z6 (fun c => ?_) (fun c => ?_)
    · replace h := h.1 c
      exact h
    · replace h := h.2 (Decidable.not_not.mp c)
      exact h
set_option maxHeartbeats 600000 in
theorem b_184_127 {X : Nat × (Nat → Int32)} {d : Nat} {J : Nat → Nat → Int} {sw : Bool × Bool × Bool} {lg : Nat → Nat → Int64} {x : Nat} {K : (Option Value ⊕ Nat) → mM → Prop} {x1 x2 x3 x4 : Int} (hd : 2 ≤ d)
    (h : ∃ (J1 : Nat → Nat → Int), EE X 0 166 [.ref 542, iv 2, iv x2] (mj J sw lg x) (.inl none) (mj J1 sw lg x) ∧ VV X d 184 (133, [some (.ref 542), some (iv x1), some (iv x2), some (iv x3), some (iv x4)], [], mj J1 sw lg x) K) : VV X d 184 (127, [some (.ref 542), some (iv x1), some (iv x2), some (iv x3), some (iv x4)], [], mj J sw lg x) K := by
  refine v_s mt_184 rfl rfl rfl ?_
  refine v_ic (v := Int32.ofInt 2) mt_184 rfl rfl ?_
  refine v_s mt_184 rfl rfl rfl ?_
  obtain ⟨J1, z1, h⟩ := h
  refine v_call (d1 := 0) mt_184 rfl rfl mt_166 rfl rfl (m_callj (As := [iv 2, iv x2]) (rest := []) rfl rfl c_542 rfl (Nat.le_of_ble_eq_true rfl) (Nat.le_of_ble_eq_true rfl)) z1 (by clear h; omega) ?_
  exact h
set_option maxHeartbeats 600000 in
theorem b_184_133 {X : Nat × (Nat → Int32)} {d : Nat} {J : Nat → Nat → Int} {sw : Bool × Bool × Bool} {lg : Nat → Nat → Int64} {x : Nat} {K : (Option Value ⊕ Nat) → mM → Prop} {x1 x2 x3 x4 : Int} (hd : 2 ≤ d)
    (h : VV X d 184 (55, [some (.ref 542), some (iv x1), some (iv x2), some (iv x3), some (iv (x4 + 1))], [], mj J sw lg x) K) : VV X d 184 (133, [some (.ref 542), some (iv x1), some (iv x2), some (iv x3), some (iv x4)], [], mj J sw lg x) K := by
  refine j_inc (e := x4 + 1) (L' := [some (.ref 542), some (iv x1), some (iv x2), some (iv x3), some (iv (x4 + 1))]) mt_184 rfl rfl (Nat.le_of_ble_eq_true rfl) rfl rfl ?_
  refine v_go mt_184 rfl rfl ?_
  exact h
set_option maxHeartbeats 600000 in
theorem b_185_0 {X : Nat × (Nat → Int32)} {d : Nat} {J : Nat → Nat → Int} {sw : Bool × Bool × Bool} {lg : Nat → Nat → Int64} {x : Nat} {K : (Option Value ⊕ Nat) → mM → Prop} {x1 : Int} (hd : 3 ≤ d)
    (h : ∃ (c2 : Int) (J1 : Nat → Nat → Int), EE X 0 171 [.ref (m_scr + 1 + 23)] (mj J sw lg x) (.inl (some (iv c2))) (mj J1 sw lg x) ∧ InR x1 ∧ InR c2 ∧ (¬ x1 = c2 → (∃ (c4 : Int) (J3 : Nat → Nat → Int), EE X 0 171 [.ref (m_scr + 1 + 24)] (mj J1 sw lg x) (.inl (some (iv c4))) (mj J3 sw lg x) ∧ InR c4 ∧ (¬ x1 = c4 → (∃ (c6 : Int) (J5 : Nat → Nat → Int), EE X 0 171 [.ref (m_scr + 1 + 25)] (mj J3 sw lg x) (.inl (some (iv c6))) (mj J5 sw lg x) ∧ InR c6 ∧ (¬ x1 = c6 → (∃ (c8 : Int) (J7 : Nat → Nat → Int), EE X 0 171 [.ref (m_scr + 1 + 26)] (mj J5 sw lg x) (.inl (some (iv c8))) (mj J7 sw lg x) ∧ InR c8 ∧ (¬ x1 = c8 → (∃ (c10 : Int) (J9 : Nat → Nat → Int), EE X 0 171 [.ref (m_scr + 1 + 27)] (mj J7 sw lg x) (.inl (some (iv c10))) (mj J9 sw lg x) ∧ InR c10 ∧ (¬ x1 = c10 → (∃ (c12 : Int) (J11 : Nat → Nat → Int), EE X 1 173 [.ref 542, iv 1, iv 99] (mj J9 sw lg x) (.inl (some (iv c12))) (mj J11 sw lg x) ∧ K (.inl none) (mj (m_up J11 542 23 c12) sw lg x))) ∧ (x1 = c10 → (∃ (c14 : Int) (J13 : Nat → Nat → Int), EE X 1 173 [.ref 542, iv 0, iv 99] (mj J9 sw lg x) (.inl (some (iv c14))) (mj J13 sw lg x) ∧ K (.inl none) (mj (m_up J13 542 22 c14) sw lg x))))) ∧ (x1 = c8 → (∃ (J15 : Nat → Nat → Int), EE X 2 184 [.ref 542] (mj J7 sw lg x) (.inl none) (mj J15 sw lg x) ∧ K (.inl none) (mj J15 sw lg x))))) ∧ (x1 = c6 → (∃ (c17 : Int) (J16 : Nat → Nat → Int), EE X 1 173 [.ref 542, iv 0, iv 60] (mj J5 sw lg x) (.inl (some (iv c17))) (mj J16 sw lg x) ∧ (0 ≤ J5 542 20 ∧ J5 542 20 < 9) ∧ K (.inl none) (mj (m_up (m_up J16 547 ((J5 542 20).toNat) c17) 542 20 ((J16 542 20) + 1)) sw lg x))))) ∧ (x1 = c4 → (∃ (c19 : Int) (J18 : Nat → Nat → Int), EE X 1 173 [.ref 542, iv 0, iv 9] (mj J3 sw lg x) (.inl (some (iv c19))) (mj J18 sw lg x) ∧ (0 ≤ J3 542 19 ∧ J3 542 19 < 6) ∧ K (.inl none) (mj (m_up (m_up J18 546 ((J3 542 19).toNat) c19) 542 19 ((J18 542 19) + 1)) sw lg x))))) ∧ (x1 = c2 → (∃ (c21 : Int) (J20 : Nat → Nat → Int), EE X 1 173 [.ref 542, iv 1, iv 20] (mj J1 sw lg x) (.inl (some (iv c21))) (mj J20 sw lg x) ∧ (0 ≤ J1 542 18 ∧ J1 542 18 < 6) ∧ K (.inl none) (mj (m_up (m_up J20 545 ((J1 542 18).toNat) c21) 542 18 ((J20 542 18) + 1)) sw lg x)))) : VV X d 185 (0, [some (.ref 542), some (iv x1)], [], mj J sw lg x) K := by
  refine v_s mt_185 rfl rfl rfl ?_
  refine v_s mt_185 rfl rfl rfl ?_
  obtain ⟨c2, J1, z1, h⟩ := h
  refine v_call (d1 := 0) mt_185 rfl rfl mt_171 rfl rfl rfl z1 (by clear h; omega) ?_
  obtain ⟨z2, h⟩ := h
  obtain ⟨z3, h⟩ := h
  refine j_if2 mt_185 rfl rfl z2 z3 (fun c => ?_) (fun c => ?_)
  · replace h := h.1 c
    refine v_s mt_185 rfl rfl rfl ?_
    refine v_s mt_185 rfl rfl rfl ?_
    obtain ⟨c4, J3, z4, h⟩ := h
    refine v_call (d1 := 0) mt_185 rfl rfl mt_171 rfl rfl rfl z4 (by clear h; omega) ?_
    obtain ⟨z5, h⟩ := h
    refine j_if2 mt_185 rfl rfl z2 z5 (fun c => ?_) (fun c => ?_)
    · replace h := h.1 c
      refine v_s mt_185 rfl rfl rfl ?_
      refine v_s mt_185 rfl rfl rfl ?_
      obtain ⟨c6, J5, z6, h⟩ := h
      refine v_call (d1 := 0) mt_185 rfl rfl mt_171 rfl rfl rfl z6 (by clear h; omega) ?_
      obtain ⟨z7, h⟩ := h
      refine j_if2 mt_185 rfl rfl z2 z7 (fun c => ?_) (fun c => ?_)
      · replace h := h.1 c
        refine v_s mt_185 rfl rfl rfl ?_
        refine v_s mt_185 rfl rfl rfl ?_
        obtain ⟨c8, J7, z8, h⟩ := h
        refine v_call (d1 := 0) mt_185 rfl rfl mt_171 rfl rfl rfl z8 (by clear h; omega) ?_
        obtain ⟨z9, h⟩ := h
        refine j_if2 mt_185 rfl rfl z2 z9 (fun c => ?_) (fun c => ?_)
        · replace h := h.1 c
          refine v_s mt_185 rfl rfl rfl ?_
          refine v_s mt_185 rfl rfl rfl ?_
          obtain ⟨c10, J9, z10, h⟩ := h
          refine v_call (d1 := 0) mt_185 rfl rfl mt_171 rfl rfl rfl z10 (by clear h; omega) ?_
          obtain ⟨z11, h⟩ := h
          refine j_if2 mt_185 rfl rfl z2 z11 (fun c => ?_) (fun c => ?_)
          · replace h := h.1 c
            refine v_s mt_185 rfl rfl rfl ?_
            refine v_s mt_185 rfl rfl rfl ?_
            refine v_ic (v := Int32.ofInt 1) mt_185 rfl rfl ?_
            refine v_bp (v := Int32.ofInt 99) mt_185 rfl rfl ?_
            obtain ⟨c12, J11, z12, h⟩ := h
            refine v_call (d1 := 1) mt_185 rfl rfl mt_173 rfl rfl (m_callj (As := [iv 1, iv 99]) (rest := [.ref 542]) rfl rfl c_542 rfl (Nat.le_of_ble_eq_true rfl) (Nat.le_of_ble_eq_true rfl)) z12 (by clear h; omega) ?_
            refine j_pi 23 mt_185 rfl rfl c_542 (by decide) ?_
            exact v_ret mt_185 rfl rfl rfl h
          · replace h := h.2 (Decidable.not_not.mp c)
            refine v_s mt_185 rfl rfl rfl ?_
            refine v_s mt_185 rfl rfl rfl ?_
            refine v_ic (v := Int32.ofInt 0) mt_185 rfl rfl ?_
            refine v_bp (v := Int32.ofInt 99) mt_185 rfl rfl ?_
            obtain ⟨c14, J13, z13, h⟩ := h
            refine v_call (d1 := 1) mt_185 rfl rfl mt_173 rfl rfl (m_callj (As := [iv 0, iv 99]) (rest := [.ref 542]) rfl rfl c_542 rfl (Nat.le_of_ble_eq_true rfl) (Nat.le_of_ble_eq_true rfl)) z13 (by clear h; omega) ?_
            refine j_pi 22 mt_185 rfl rfl c_542 (by decide) ?_
            refine v_go mt_185 rfl rfl ?_
            exact v_ret mt_185 rfl rfl rfl h
        · replace h := h.2 (Decidable.not_not.mp c)
          refine v_s mt_185 rfl rfl rfl ?_
          obtain ⟨J15, z14, h⟩ := h
          refine v_call (d1 := 2) mt_185 rfl rfl mt_184 rfl rfl (m_callj (As := []) (rest := []) rfl rfl c_542 rfl (Nat.le_of_ble_eq_true rfl) (Nat.le_of_ble_eq_true rfl)) z14 (by clear h; omega) ?_
          refine v_go mt_185 rfl rfl ?_
          exact v_ret mt_185 rfl rfl rfl h
      · replace h := h.2 (Decidable.not_not.mp c)
        refine v_s mt_185 rfl rfl rfl ?_
        refine v_gr (w := 547) 12 mt_185 rfl rfl c_542 (by decide) (g_12_12 c_542) ?_
        refine v_s mt_185 rfl rfl rfl ?_
        refine j_gi (w := J5 542 20) 20 mt_185 rfl rfl c_542 (by decide) rfl ?_
        refine v_s mt_185 rfl rfl rfl ?_
        refine v_ic (v := Int32.ofInt 0) mt_185 rfl rfl ?_
        refine v_bp (v := Int32.ofInt 60) mt_185 rfl rfl ?_
        obtain ⟨c17, J16, z15, h⟩ := h
        refine v_call (d1 := 1) mt_185 rfl rfl mt_173 rfl rfl (m_callj (As := [iv 0, iv 60]) (rest := [iv (J5 542 20), .ref 547]) rfl rfl c_542 rfl (Nat.le_of_ble_eq_true rfl) (Nat.le_of_ble_eq_true rfl)) z15 (by clear h; omega) ?_
        obtain ⟨z16, h⟩ := h
        refine j_as mt_185 rfl c_547 z16 (by decide) ?_
        refine v_s mt_185 rfl rfl rfl ?_
        refine v_s mt_185 rfl rfl rfl ?_
        refine j_gi (w := J16 542 20) 20 mt_185 rfl rfl c_542 (by decide) ((up_na (by decide)).trans rfl) ?_
        refine v_ic (v := Int32.ofInt 1) mt_185 rfl rfl ?_
        refine j_add (e := (J16 542 20) + 1) mt_185 rfl rfl ?_
        refine j_pi 20 mt_185 rfl rfl c_542 (by decide) ?_
        refine v_go mt_185 rfl rfl ?_
        exact v_ret mt_185 rfl rfl rfl h
    · replace h := h.2 (Decidable.not_not.mp c)
      refine v_s mt_185 rfl rfl rfl ?_
      refine v_gr (w := 546) 11 mt_185 rfl rfl c_542 (by decide) (g_12_11 c_542) ?_
      refine v_s mt_185 rfl rfl rfl ?_
      refine j_gi (w := J3 542 19) 19 mt_185 rfl rfl c_542 (by decide) rfl ?_
      refine v_s mt_185 rfl rfl rfl ?_
      refine v_ic (v := Int32.ofInt 0) mt_185 rfl rfl ?_
      refine v_bp (v := Int32.ofInt 9) mt_185 rfl rfl ?_
      obtain ⟨c19, J18, z17, h⟩ := h
      refine v_call (d1 := 1) mt_185 rfl rfl mt_173 rfl rfl (m_callj (As := [iv 0, iv 9]) (rest := [iv (J3 542 19), .ref 546]) rfl rfl c_542 rfl (Nat.le_of_ble_eq_true rfl) (Nat.le_of_ble_eq_true rfl)) z17 (by clear h; omega) ?_
      obtain ⟨z18, h⟩ := h
      refine j_as mt_185 rfl c_546 z18 (by decide) ?_
      refine v_s mt_185 rfl rfl rfl ?_
      refine v_s mt_185 rfl rfl rfl ?_
      refine j_gi (w := J18 542 19) 19 mt_185 rfl rfl c_542 (by decide) ((up_na (by decide)).trans rfl) ?_
      refine v_ic (v := Int32.ofInt 1) mt_185 rfl rfl ?_
      refine j_add (e := (J18 542 19) + 1) mt_185 rfl rfl ?_
      refine j_pi 19 mt_185 rfl rfl c_542 (by decide) ?_
      refine v_go mt_185 rfl rfl ?_
      exact v_ret mt_185 rfl rfl rfl h
  · replace h := h.2 (Decidable.not_not.mp c)
    refine v_s mt_185 rfl rfl rfl ?_
    refine v_gr (w := 545) 10 mt_185 rfl rfl c_542 (by decide) (g_12_10 c_542) ?_
    refine v_s mt_185 rfl rfl rfl ?_
    refine j_gi (w := J1 542 18) 18 mt_185 rfl rfl c_542 (by decide) rfl ?_
    refine v_s mt_185 rfl rfl rfl ?_
    refine v_ic (v := Int32.ofInt 1) mt_185 rfl rfl ?_
    refine v_bp (v := Int32.ofInt 20) mt_185 rfl rfl ?_
    obtain ⟨c21, J20, z19, h⟩ := h
    refine v_call (d1 := 1) mt_185 rfl rfl mt_173 rfl rfl (m_callj (As := [iv 1, iv 20]) (rest := [iv (J1 542 18), .ref 545]) rfl rfl c_542 rfl (Nat.le_of_ble_eq_true rfl) (Nat.le_of_ble_eq_true rfl)) z19 (by clear h; omega) ?_
    obtain ⟨z20, h⟩ := h
    refine j_as mt_185 rfl c_545 z20 (by decide) ?_
    refine v_s mt_185 rfl rfl rfl ?_
    refine v_s mt_185 rfl rfl rfl ?_
    refine j_gi (w := J20 542 18) 18 mt_185 rfl rfl c_542 (by decide) ((up_na (by decide)).trans rfl) ?_
    refine v_ic (v := Int32.ofInt 1) mt_185 rfl rfl ?_
    refine j_add (e := (J20 542 18) + 1) mt_185 rfl rfl ?_
    refine j_pi 18 mt_185 rfl rfl c_542 (by decide) ?_
    refine v_go mt_185 rfl rfl ?_
    exact v_ret mt_185 rfl rfl rfl h
set_option maxHeartbeats 600000 in
theorem b_186_0 {X : Nat × (Nat → Int32)} {d : Nat} {J : Nat → Nat → Int} {sw : Bool × Bool × Bool} {lg : Nat → Nat → Int64} {x : Nat} {K : (Option Value ⊕ Nat) → mM → Prop} {x1 : Int} {o2 o3 : Option Value} (hd : 4 ≤ d)
    (h : InR x1 ∧ (x1 < 0 → K (.inl (some (iv 0))) (mj (m_up (m_up (m_up J 542 0 0) 542 0 1) 543 1 ((J 543 1) + 1)) sw lg x)) ∧ (0 ≤ x1 → (InR (J 542 2) ∧ (J 542 2 < x1 → K (.inl (some (iv 0))) (mj (m_up (m_up (m_up J 542 0 0) 542 0 1) 543 1 ((J 543 1) + 1)) sw lg x)) ∧ (x1 ≤ J 542 2 → VV X d 186 (44, [some (.ref 542), some (iv x1), some (iv 0), o3], [], mj (m_up (m_up (m_up (m_up (m_up (m_up (m_up (m_up (m_up (m_up (m_up (m_up (m_up J 542 0 0) 542 2 0) 542 8 (-1)) 542 3 x1) 542 4 0) 542 5 (-1)) 542 7 0) 542 18 0) 542 19 0) 542 20 0) 542 21 0) 542 22 12) 542 23 0) sw lg x) K)))) : VV X d 186 (0, [some (.ref 542), some (iv x1), o2, o3], [], mj J sw lg x) K := by
  refine v_s mt_186 rfl rfl rfl ?_
  refine v_ic (v := Int32.ofInt 0) mt_186 rfl rfl ?_
  refine j_pi 0 mt_186 rfl rfl c_542 (by decide) ?_
  refine v_s mt_186 rfl rfl rfl ?_
  refine v_s mt_186 rfl rfl rfl ?_
  obtain ⟨z1, h⟩ := h
  refine j_if1 mt_186 rfl rfl z1 (fun c => ?_) (fun c => ?_)
  · replace h := h.1 c
    refine v_ic (v := Int32.ofInt 0) mt_186 rfl rfl ?_
    refine v_ic (v := Int32.ofInt 1) mt_186 rfl rfl ?_
    refine v_ic (v := Int32.ofInt 1) mt_186 rfl rfl ?_
    refine v_inl (L1 := [some (.ref 542), some (iv 0), some (iv 1), some (iv 1)]) mt_186 rfl rfl mt_161 rfl rfl (m_callj (As := [iv 0, iv 1, iv 1]) (rest := []) rfl rfl c_542 rfl (Nat.le_of_ble_eq_true rfl) (Nat.le_of_ble_eq_true rfl)) rfl (by clear h; omega) ?_
    refine v_s mt_161 rfl rfl rfl ?_
    refine j_if1 mt_161 rfl rfl ⟨by decide, by decide⟩ (fun c => absurd (show ¬ (0 : Int) = 0 from c) (by decide)) (fun _ => ?_)
    refine v_s mt_161 rfl rfl rfl ?_
    refine j_gi (w := 0) 0 mt_161 rfl rfl c_542 (by decide) (up_eq _ _ _ _) ?_
    refine j_if1 mt_161 rfl rfl ⟨by decide, by decide⟩ (fun c => absurd (show ¬ (0 : Int) = 0 from c) (by decide)) (fun _ => ?_)
    refine v_s mt_161 rfl rfl rfl ?_
    refine v_s mt_161 rfl rfl rfl ?_
    refine j_pi 0 mt_161 rfl rfl c_542 (by decide) ?_
    refine v_s mt_161 rfl rfl rfl ?_
    refine v_gr (w := 543) 1 mt_161 rfl rfl c_542 (by decide) (g_12_1 c_542) ?_
    refine v_s mt_161 rfl rfl rfl ?_
    refine v_s mt_161 rfl rfl rfl ?_
    refine j_al (w := J 543 1) mt_161 rfl c_543 ⟨by decide, by decide⟩ (by decide) ((up_na (by decide)).trans ((up_na (by decide)).trans rfl)) ?_
    refine v_ic (v := Int32.ofInt 1) mt_161 rfl rfl ?_
    refine j_add (e := (J 543 1) + 1) mt_161 rfl rfl ?_
    refine j_as mt_161 rfl c_543 ⟨by decide, by decide⟩ (by decide) ?_
    refine v_s mt_161 rfl rfl rfl ?_
    refine j_gi (w := 1) 0 mt_161 rfl rfl c_542 (by decide) ((up_na (by decide)).trans (up_eq _ _ _ _)) ?_
    refine j_if1 mt_161 rfl rfl ⟨by decide, by decide⟩ (fun _ => ?_) (fun c => (c (show ¬ (1 : Int) = 0 by decide)).elim)
    refine v_ic (v := Int32.ofInt 0) mt_161 rfl rfl ?_
    refine j_retb mt_161 rfl rfl (by decide) ?_
    refine j_if1 mt_186 rfl rfl ⟨by decide, by decide⟩ (fun c => absurd (show ¬ (0 : Int) = 0 from c) (by decide)) (fun _ => ?_)
    refine v_ic (v := Int32.ofInt 0) mt_186 rfl rfl ?_
    exact v_ret mt_186 rfl rfl rfl h
  · replace h := h.2 (Int.not_lt.mp c)
    refine v_s mt_186 rfl rfl rfl ?_
    refine v_s mt_186 rfl rfl rfl ?_
    refine j_gi (w := J 542 2) 2 mt_186 rfl rfl c_542 (by decide) ((up_nk (by decide)).trans rfl) ?_
    obtain ⟨z2, h⟩ := h
    refine j_if2 mt_186 rfl rfl z1 z2 (fun c => ?_) (fun c => ?_)
    · replace h := h.1 c
      refine v_ic (v := Int32.ofInt 0) mt_186 rfl rfl ?_
      refine v_ic (v := Int32.ofInt 1) mt_186 rfl rfl ?_
      refine v_ic (v := Int32.ofInt 1) mt_186 rfl rfl ?_
      refine v_inl (L1 := [some (.ref 542), some (iv 0), some (iv 1), some (iv 1)]) mt_186 rfl rfl mt_161 rfl rfl (m_callj (As := [iv 0, iv 1, iv 1]) (rest := []) rfl rfl c_542 rfl (Nat.le_of_ble_eq_true rfl) (Nat.le_of_ble_eq_true rfl)) rfl (by clear h; omega) ?_
      refine v_s mt_161 rfl rfl rfl ?_
      refine j_if1 mt_161 rfl rfl ⟨by decide, by decide⟩ (fun c => absurd (show ¬ (0 : Int) = 0 from c) (by decide)) (fun _ => ?_)
      refine v_s mt_161 rfl rfl rfl ?_
      refine j_gi (w := 0) 0 mt_161 rfl rfl c_542 (by decide) (up_eq _ _ _ _) ?_
      refine j_if1 mt_161 rfl rfl ⟨by decide, by decide⟩ (fun c => absurd (show ¬ (0 : Int) = 0 from c) (by decide)) (fun _ => ?_)
      refine v_s mt_161 rfl rfl rfl ?_
      refine v_s mt_161 rfl rfl rfl ?_
      refine j_pi 0 mt_161 rfl rfl c_542 (by decide) ?_
      refine v_s mt_161 rfl rfl rfl ?_
      refine v_gr (w := 543) 1 mt_161 rfl rfl c_542 (by decide) (g_12_1 c_542) ?_
      refine v_s mt_161 rfl rfl rfl ?_
      refine v_s mt_161 rfl rfl rfl ?_
      refine j_al (w := J 543 1) mt_161 rfl c_543 ⟨by decide, by decide⟩ (by decide) ((up_na (by decide)).trans ((up_na (by decide)).trans rfl)) ?_
      refine v_ic (v := Int32.ofInt 1) mt_161 rfl rfl ?_
      refine j_add (e := (J 543 1) + 1) mt_161 rfl rfl ?_
      refine j_as mt_161 rfl c_543 ⟨by decide, by decide⟩ (by decide) ?_
      refine v_s mt_161 rfl rfl rfl ?_
      refine j_gi (w := 1) 0 mt_161 rfl rfl c_542 (by decide) ((up_na (by decide)).trans (up_eq _ _ _ _)) ?_
      refine j_if1 mt_161 rfl rfl ⟨by decide, by decide⟩ (fun _ => ?_) (fun c => (c (show ¬ (1 : Int) = 0 by decide)).elim)
      refine v_ic (v := Int32.ofInt 0) mt_161 rfl rfl ?_
      refine j_retb mt_161 rfl rfl (by decide) ?_
      refine j_if1 mt_186 rfl rfl ⟨by decide, by decide⟩ (fun c => absurd (show ¬ (0 : Int) = 0 from c) (by decide)) (fun _ => ?_)
      refine v_ic (v := Int32.ofInt 0) mt_186 rfl rfl ?_
      exact v_ret mt_186 rfl rfl rfl h
    · replace h := h.2 (Int.not_lt.mp c)
      refine v_ic (v := Int32.ofInt 1) mt_186 rfl rfl ?_
      refine v_go mt_186 rfl rfl ?_
      refine v_ic (v := Int32.ofInt 1) mt_186 rfl rfl ?_
      refine v_ic (v := Int32.ofInt 1) mt_186 rfl rfl ?_
      refine v_inl (L1 := [some (.ref 542), some (iv 1), some (iv 1), some (iv 1)]) mt_186 rfl rfl mt_161 rfl rfl (m_callj (As := [iv 1, iv 1, iv 1]) (rest := []) rfl rfl c_542 rfl (Nat.le_of_ble_eq_true rfl) (Nat.le_of_ble_eq_true rfl)) rfl (by clear h; omega) ?_
      refine v_s mt_161 rfl rfl rfl ?_
      refine j_if1 mt_161 rfl rfl ⟨by decide, by decide⟩ (fun _ => ?_) (fun c => (c (show ¬ (1 : Int) = 0 by decide)).elim)
      refine v_s mt_161 rfl rfl rfl ?_
      refine j_gi (w := 0) 0 mt_161 rfl rfl c_542 (by decide) (up_eq _ _ _ _) ?_
      refine j_if1 mt_161 rfl rfl ⟨by decide, by decide⟩ (fun c => absurd (show ¬ (0 : Int) = 0 from c) (by decide)) (fun _ => ?_)
      refine v_ic (v := Int32.ofInt 1) mt_161 rfl rfl ?_
      refine v_go mt_161 rfl rfl ?_
      refine j_retb mt_161 rfl rfl (by decide) ?_
      refine j_if1 mt_186 rfl rfl ⟨by decide, by decide⟩ (fun _ => ?_) (fun c => (c (show ¬ (1 : Int) = 0 by decide)).elim)
      refine v_s mt_186 rfl rfl rfl ?_
      refine v_s mt_186 rfl rfl rfl ?_
      refine v_inl (L1 := [some (.ref 542), some (iv x1)]) mt_186 rfl rfl mt_176 rfl rfl (m_callj (As := [iv x1]) (rest := []) rfl rfl c_542 rfl (Nat.le_of_ble_eq_true rfl) (Nat.le_of_ble_eq_true rfl)) rfl (by clear h; omega) ?_
      refine v_s mt_176 rfl rfl rfl ?_
      refine v_ic (v := Int32.ofInt 0) mt_176 rfl rfl ?_
      refine j_pi 2 mt_176 rfl rfl c_542 (by decide) ?_
      refine v_s mt_176 rfl rfl rfl ?_
      refine v_ic (v := Int32.ofInt (-1)) mt_176 rfl rfl ?_
      refine j_pi 8 mt_176 rfl rfl c_542 (by decide) ?_
      refine v_s mt_176 rfl rfl rfl ?_
      refine v_s mt_176 rfl rfl rfl ?_
      refine j_pi 3 mt_176 rfl rfl c_542 (by decide) ?_
      refine v_s mt_176 rfl rfl rfl ?_
      refine v_ic (v := Int32.ofInt 0) mt_176 rfl rfl ?_
      refine j_pi 4 mt_176 rfl rfl c_542 (by decide) ?_
      refine v_s mt_176 rfl rfl rfl ?_
      refine v_ic (v := Int32.ofInt (-1)) mt_176 rfl rfl ?_
      refine j_pi 5 mt_176 rfl rfl c_542 (by decide) ?_
      refine v_s mt_176 rfl rfl rfl ?_
      refine v_ic (v := Int32.ofInt 0) mt_176 rfl rfl ?_
      refine j_pi 7 mt_176 rfl rfl c_542 (by decide) ?_
      refine v_ret mt_176 rfl rfl rfl ?_
      refine v_s mt_186 rfl rfl rfl ?_
      refine v_inl (L1 := [some (.ref 542)]) mt_186 rfl rfl mt_180 rfl rfl (m_callj (As := []) (rest := []) rfl rfl c_542 rfl (Nat.le_of_ble_eq_true rfl) (Nat.le_of_ble_eq_true rfl)) rfl (by clear h; omega) ?_
      refine v_s mt_180 rfl rfl rfl ?_
      refine v_ic (v := Int32.ofInt 0) mt_180 rfl rfl ?_
      refine j_pi 18 mt_180 rfl rfl c_542 (by decide) ?_
      refine v_s mt_180 rfl rfl rfl ?_
      refine v_ic (v := Int32.ofInt 0) mt_180 rfl rfl ?_
      refine j_pi 19 mt_180 rfl rfl c_542 (by decide) ?_
      refine v_s mt_180 rfl rfl rfl ?_
      refine v_ic (v := Int32.ofInt 0) mt_180 rfl rfl ?_
      refine j_pi 20 mt_180 rfl rfl c_542 (by decide) ?_
      refine v_s mt_180 rfl rfl rfl ?_
      refine v_ic (v := Int32.ofInt 0) mt_180 rfl rfl ?_
      refine j_pi 21 mt_180 rfl rfl c_542 (by decide) ?_
      refine v_s mt_180 rfl rfl rfl ?_
      refine v_bp (v := Int32.ofInt 12) mt_180 rfl rfl ?_
      refine j_pi 22 mt_180 rfl rfl c_542 (by decide) ?_
      refine v_s mt_180 rfl rfl rfl ?_
      refine v_ic (v := Int32.ofInt 0) mt_180 rfl rfl ?_
      refine j_pi 23 mt_180 rfl rfl c_542 (by decide) ?_
      refine v_ret mt_180 rfl rfl rfl ?_
      refine v_ic (v := Int32.ofInt 0) mt_186 rfl rfl ?_
      refine v_isn (L' := [some (.ref 542), some (iv x1), some (iv 0), o3]) mt_186 rfl (Nat.le_of_ble_eq_true rfl) rfl ?_
      exact h
set_option maxHeartbeats 600000 in
theorem b_186_44 {X : Nat × (Nat → Int32)} {d : Nat} {J : Nat → Nat → Int} {sw : Bool × Bool × Bool} {lg : Nat → Nat → Int64} {x : Nat} {K : (Option Value ⊕ Nat) → mM → Prop} {x1 x2 : Int} {o3 : Option Value} (hd : 4 ≤ d)
    (h : InR (J 542 5) ∧ (¬ J 542 5 = (-1) → VV X d 186 (136, [some (.ref 542), some (iv x1), some (iv x2), o3], [], mj J sw lg x) K) ∧ (J 542 5 = (-1) → (∃ (c2 : Int) (J1 : Nat → Nat → Int), EE X 0 167 [.ref 542] (mj J sw lg x) (.inl (some (iv c2))) (mj J1 sw lg x) ∧ InR (J1 542 4) ∧ InR (J1 542 3) ∧ (J1 542 3 ≤ J1 542 4 → VV X d 186 (136, [some (.ref 542), some (iv x1), some (iv x2), o3], [], mj J1 sw lg x) K) ∧ (J1 542 4 < J1 542 3 → (∃ (c4 : Int) (J3 : Nat → Nat → Int), EE X 1 170 [.ref 542] (mj J1 sw lg x) (.inl (some (iv c4))) (mj J3 sw lg x) ∧ ∃ (c6 : Int) (J5 : Nat → Nat → Int), EE X 1 182 [iv c4] (mj J3 sw lg x) (.inl (some (iv c6))) (mj J5 sw lg x) ∧ InR c6 ∧ (¬ c6 = 0 → (InR x2 ∧ (x2 = 60 → (∃ (J7 : Nat → Nat → Int), EE X 0 166 [.ref 542, iv 3, iv (J5 542 4)] (mj J5 sw lg x) (.inl none) (mj J7 sw lg x) ∧ VV X d 186 (105, [some (.ref 542), some (iv x1), some (iv x2), some (iv c4)], [], mj J7 sw lg x) K)) ∧ (¬ x2 = 60 → (∃ (c9 : Int) (J8 : Nat → Nat → Int), EE X 1 183 [.ref 542, iv c4] (mj J5 sw lg x) (.inl (some (iv c9))) (mj J8 sw lg x) ∧ InR c9 ∧ (c9 = 0 → VV X d 186 (105, [some (.ref 542), some (iv x1), some (iv x2), some (iv c4)], [], mj J8 sw lg x) K) ∧ (¬ c9 = 0 → (∃ (J10 : Nat → Nat → Int), EE X 0 166 [.ref 542, iv 3, iv (J8 542 4)] (mj J8 sw lg x) (.inl none) (mj J10 sw lg x) ∧ VV X d 186 (105, [some (.ref 542), some (iv x1), some (iv x2), some (iv c4)], [], mj J10 sw lg x) K)))))) ∧ (c6 = 0 → (∃ (J11 : Nat → Nat → Int), EE X 0 166 [.ref 542, iv 1, iv (J5 542 4)] (mj J5 sw lg x) (.inl none) (mj J11 sw lg x) ∧ VV X d 186 (105, [some (.ref 542), some (iv x1), some (iv x2), some (iv c4)], [], mj J11 sw lg x) K))))))) : VV X d 186 (44, [some (.ref 542), some (iv x1), some (iv x2), o3], [], mj J sw lg x) K := by
  refine v_s mt_186 rfl rfl rfl ?_
  refine v_inl (L1 := [some (.ref 542)]) mt_186 rfl rfl mt_165 rfl rfl (m_callj (As := []) (rest := []) rfl rfl c_542 rfl (Nat.le_of_ble_eq_true rfl) (Nat.le_of_ble_eq_true rfl)) rfl (by clear h; omega) ?_
  refine v_s mt_165 rfl rfl rfl ?_
  refine j_gi (w := J 542 5) 5 mt_165 rfl rfl c_542 (by decide) rfl ?_
  refine v_ic (v := Int32.ofInt (-1)) mt_165 rfl rfl ?_
  obtain ⟨z1, h⟩ := h
  refine j_if2 mt_165 rfl rfl z1 ⟨by decide, by decide⟩ (fun c => ?_) (fun c => ?_)
  · replace h := h.1 c
    refine v_ic (v := Int32.ofInt 0) mt_165 rfl rfl ?_
    refine j_retb mt_165 rfl rfl (by decide) ?_
    refine j_if1 mt_186 rfl rfl ⟨by decide, by decide⟩ (fun _ => ?_) (fun c => (c (show (0 : Int) = 0 by decide)).elim)
    exact h
  · replace h := h.2 (Decidable.not_not.mp c)
    refine v_ic (v := Int32.ofInt 1) mt_165 rfl rfl ?_
    refine v_go mt_165 rfl rfl ?_
    refine j_retb mt_165 rfl rfl (by decide) ?_
    refine j_if1 mt_186 rfl rfl ⟨by decide, by decide⟩ (fun c => absurd (show (1 : Int) = 0 from c) (by decide)) (fun _ => ?_)
    refine v_s mt_186 rfl rfl rfl ?_
    refine v_inl (L1 := [some (.ref 542)]) mt_186 rfl rfl mt_175 rfl rfl (m_callj (As := []) (rest := []) rfl rfl c_542 rfl (Nat.le_of_ble_eq_true rfl) (Nat.le_of_ble_eq_true rfl)) rfl (by clear h; omega) ?_
    refine v_s mt_175 rfl rfl rfl ?_
    obtain ⟨c2, J1, z2, h⟩ := h
    refine v_call (d1 := 0) mt_175 rfl rfl mt_167 rfl rfl (m_callj (As := []) (rest := []) rfl rfl c_542 rfl (Nat.le_of_ble_eq_true rfl) (Nat.le_of_ble_eq_true rfl)) z2 (by clear h; omega) ?_
    refine v_s mt_175 rfl rfl rfl ?_
    refine v_s mt_175 rfl rfl rfl ?_
    refine j_gi (w := J1 542 4) 4 mt_175 rfl rfl c_542 (by decide) rfl ?_
    refine v_s mt_175 rfl rfl rfl ?_
    refine j_gi (w := J1 542 3) 3 mt_175 rfl rfl c_542 (by decide) rfl ?_
    obtain ⟨z3, h⟩ := h
    obtain ⟨z4, h⟩ := h
    refine j_if2 mt_175 rfl rfl z3 z4 (fun c => ?_) (fun c => ?_)
    · replace h := h.1 c
      refine v_ic (v := Int32.ofInt 0) mt_175 rfl rfl ?_
      refine j_retb mt_175 rfl rfl (by decide) ?_
      refine j_if1 mt_186 rfl rfl ⟨by decide, by decide⟩ (fun _ => ?_) (fun c => (c (show (0 : Int) = 0 by decide)).elim)
      exact h
    · replace h := h.2 (Int.not_le.mp c)
      refine v_ic (v := Int32.ofInt 1) mt_175 rfl rfl ?_
      refine v_go mt_175 rfl rfl ?_
      refine j_retb mt_175 rfl rfl (by decide) ?_
      refine j_if1 mt_186 rfl rfl ⟨by decide, by decide⟩ (fun c => absurd (show (1 : Int) = 0 from c) (by decide)) (fun _ => ?_)
      refine v_s mt_186 rfl rfl rfl ?_
      obtain ⟨c4, J3, z5, h⟩ := h
      refine v_call (d1 := 1) mt_186 rfl rfl mt_170 rfl rfl (m_callj (As := []) (rest := []) rfl rfl c_542 rfl (Nat.le_of_ble_eq_true rfl) (Nat.le_of_ble_eq_true rfl)) z5 (by clear h; omega) ?_
      refine v_isn (L' := [some (.ref 542), some (iv x1), some (iv x2), some (iv c4)]) mt_186 rfl (Nat.le_of_ble_eq_true rfl) rfl ?_
      refine v_s mt_186 rfl rfl rfl ?_
      obtain ⟨c6, J5, z6, h⟩ := h
      refine v_call (d1 := 1) mt_186 rfl rfl mt_182 rfl rfl rfl z6 (by clear h; omega) ?_
      obtain ⟨z7, h⟩ := h
      refine j_if1 mt_186 rfl rfl z7 (fun c => ?_) (fun c => ?_)
      · replace h := h.1 c
        refine v_s mt_186 rfl rfl rfl ?_
        refine v_bp (v := Int32.ofInt 60) mt_186 rfl rfl ?_
        obtain ⟨z8, h⟩ := h
        refine j_if2 mt_186 rfl rfl z8 ⟨by decide, by decide⟩ (fun c => ?_) (fun c => ?_)
        · replace h := h.1 c
          refine v_s mt_186 rfl rfl rfl ?_
          refine v_ic (v := Int32.ofInt 3) mt_186 rfl rfl ?_
          refine v_s mt_186 rfl rfl rfl ?_
          refine j_gi (w := J5 542 4) 4 mt_186 rfl rfl c_542 (by decide) rfl ?_
          obtain ⟨J7, z9, h⟩ := h
          refine v_call (d1 := 0) mt_186 rfl rfl mt_166 rfl rfl (m_callj (As := [iv 3, iv (J5 542 4)]) (rest := []) rfl rfl c_542 rfl (Nat.le_of_ble_eq_true rfl) (Nat.le_of_ble_eq_true rfl)) z9 (by clear h; omega) ?_
          exact h
        · replace h := h.2 c
          refine v_s mt_186 rfl rfl rfl ?_
          refine v_s mt_186 rfl rfl rfl ?_
          obtain ⟨c9, J8, z10, h⟩ := h
          refine v_call (d1 := 1) mt_186 rfl rfl mt_183 rfl rfl (m_callj (As := [iv c4]) (rest := []) rfl rfl c_542 rfl (Nat.le_of_ble_eq_true rfl) (Nat.le_of_ble_eq_true rfl)) z10 (by clear h; omega) ?_
          obtain ⟨z11, h⟩ := h
          refine j_if1 mt_186 rfl rfl z11 (fun c => ?_) (fun c => ?_)
          · replace h := h.1 c
            exact h
          · replace h := h.2 c
            refine v_s mt_186 rfl rfl rfl ?_
            refine v_ic (v := Int32.ofInt 3) mt_186 rfl rfl ?_
            refine v_s mt_186 rfl rfl rfl ?_
            refine j_gi (w := J8 542 4) 4 mt_186 rfl rfl c_542 (by decide) rfl ?_
            obtain ⟨J10, z12, h⟩ := h
            refine v_call (d1 := 0) mt_186 rfl rfl mt_166 rfl rfl (m_callj (As := [iv 3, iv (J8 542 4)]) (rest := []) rfl rfl c_542 rfl (Nat.le_of_ble_eq_true rfl) (Nat.le_of_ble_eq_true rfl)) z12 (by clear h; omega) ?_
            exact h
      · replace h := h.2 (Decidable.not_not.mp c)
        refine v_s mt_186 rfl rfl rfl ?_
        refine v_ic (v := Int32.ofInt 1) mt_186 rfl rfl ?_
        refine v_s mt_186 rfl rfl rfl ?_
        refine j_gi (w := J5 542 4) 4 mt_186 rfl rfl c_542 (by decide) rfl ?_
        obtain ⟨J11, z13, h⟩ := h
        refine v_call (d1 := 0) mt_186 rfl rfl mt_166 rfl rfl (m_callj (As := [iv 1, iv (J5 542 4)]) (rest := []) rfl rfl c_542 rfl (Nat.le_of_ble_eq_true rfl) (Nat.le_of_ble_eq_true rfl)) z13 (by clear h; omega) ?_
        refine v_go mt_186 rfl rfl ?_
        exact h
set_option maxHeartbeats 600000 in
theorem b_186_136 {X : Nat × (Nat → Int32)} {d : Nat} {J : Nat → Nat → Int} {sw : Bool × Bool × Bool} {lg : Nat → Nat → Int64} {x : Nat} {K : (Option Value ⊕ Nat) → mM → Prop} {x1 x2 : Int} {o3 : Option Value} (hd : 4 ≤ d)
    (h : ∃ (c2 : Int) (J1 : Nat → Nat → Int), EE X 1 177 [.ref 542, iv (J 542 20)] (mj J sw lg x) (.inl (some (iv c2))) (mj J1 sw lg x) ∧ InR (J1 542 5) ∧ (¬ J1 542 5 = (-1) → K (.inl (some (iv c2))) (mj J1 sw lg x)) ∧ (J1 542 5 = (-1) → (∃ (J3 : Nat → Nat → Int), EE X 1 181 [.ref 542] (mj J1 sw lg x) (.inl none) (mj J3 sw lg x) ∧ K (.inl (some (iv c2))) (mj J3 sw lg x)))) : VV X d 186 (136, [some (.ref 542), some (iv x1), some (iv x2), o3], [], mj J sw lg x) K := by
  refine v_s mt_186 rfl rfl rfl ?_
  refine v_s mt_186 rfl rfl rfl ?_
  refine j_gi (w := J 542 20) 20 mt_186 rfl rfl c_542 (by decide) rfl ?_
  obtain ⟨c2, J1, z1, h⟩ := h
  refine v_call (d1 := 1) mt_186 rfl rfl mt_177 rfl rfl (m_callj (As := [iv (J 542 20)]) (rest := []) rfl rfl c_542 rfl (Nat.le_of_ble_eq_true rfl) (Nat.le_of_ble_eq_true rfl)) z1 (by clear h; omega) ?_
  refine v_isn (L' := [some (.ref 542), some (iv x1), some (iv x2), some (iv c2)]) mt_186 rfl (Nat.le_of_ble_eq_true rfl) rfl ?_
  refine v_s mt_186 rfl rfl rfl ?_
  refine j_gi (w := J1 542 5) 5 mt_186 rfl rfl c_542 (by decide) rfl ?_
  refine v_ic (v := Int32.ofInt (-1)) mt_186 rfl rfl ?_
  obtain ⟨z2, h⟩ := h
  refine j_if2 mt_186 rfl rfl z2 ⟨by decide, by decide⟩ (fun c => ?_) (fun c => ?_)
  · replace h := h.1 c
    refine v_s mt_186 rfl rfl rfl ?_
    exact v_ret mt_186 rfl rfl rfl h
  · replace h := h.2 (Decidable.not_not.mp c)
    refine v_s mt_186 rfl rfl rfl ?_
    obtain ⟨J3, z3, h⟩ := h
    refine v_call (d1 := 1) mt_186 rfl rfl mt_181 rfl rfl (m_callj (As := []) (rest := []) rfl rfl c_542 rfl (Nat.le_of_ble_eq_true rfl) (Nat.le_of_ble_eq_true rfl)) z3 (by clear h; omega) ?_
    refine v_s mt_186 rfl rfl rfl ?_
    exact v_ret mt_186 rfl rfl rfl h
set_option maxHeartbeats 600000 in
theorem b_186_105 {X : Nat × (Nat → Int32)} {d : Nat} {J : Nat → Nat → Int} {sw : Bool × Bool × Bool} {lg : Nat → Nat → Int64} {x : Nat} {K : (Option Value ⊕ Nat) → mM → Prop} {x1 x2 x3 : Int} (hd : 4 ≤ d)
    (h : InR (J 542 5) ∧ (¬ J 542 5 = (-1) → VV X d 186 (136, [some (.ref 542), some (iv x1), some (iv x2), some (iv x3)], [], mj J sw lg x) K) ∧ (J 542 5 = (-1) → VV X d 186 (115, [some (.ref 542), some (iv x1), some (iv x2), some (iv x3)], [], mj J sw lg x) K)) : VV X d 186 (105, [some (.ref 542), some (iv x1), some (iv x2), some (iv x3)], [], mj J sw lg x) K := by
  refine v_s mt_186 rfl rfl rfl ?_
  refine v_inl (L1 := [some (.ref 542)]) mt_186 rfl rfl mt_165 rfl rfl (m_callj (As := []) (rest := []) rfl rfl c_542 rfl (Nat.le_of_ble_eq_true rfl) (Nat.le_of_ble_eq_true rfl)) rfl (by clear h; omega) ?_
  refine v_s mt_165 rfl rfl rfl ?_
  refine j_gi (w := J 542 5) 5 mt_165 rfl rfl c_542 (by decide) rfl ?_
  refine v_ic (v := Int32.ofInt (-1)) mt_165 rfl rfl ?_
  obtain ⟨z1, h⟩ := h
  refine j_if2 mt_165 rfl rfl z1 ⟨by decide, by decide⟩ (fun c => ?_) (fun c => ?_)
  · replace h := h.1 c
    refine v_ic (v := Int32.ofInt 0) mt_165 rfl rfl ?_
    refine j_retb mt_165 rfl rfl (by decide) ?_
    refine j_if1 mt_186 rfl rfl ⟨by decide, by decide⟩ (fun c => absurd (show ¬ (0 : Int) = 0 from c) (by decide)) (fun _ => ?_)
    refine v_go mt_186 rfl rfl ?_
    exact h
  · replace h := h.2 (Decidable.not_not.mp c)
    refine v_ic (v := Int32.ofInt 1) mt_165 rfl rfl ?_
    refine v_go mt_165 rfl rfl ?_
    refine j_retb mt_165 rfl rfl (by decide) ?_
    refine j_if1 mt_186 rfl rfl ⟨by decide, by decide⟩ (fun _ => ?_) (fun c => (c (show ¬ (1 : Int) = 0 by decide)).elim)
    exact h
set_option maxHeartbeats 600000 in
theorem b_186_115 {X : Nat × (Nat → Int32)} {d : Nat} {J : Nat → Nat → Int} {sw : Bool × Bool × Bool} {lg : Nat → Nat → Int64} {x : Nat} {K : (Option Value ⊕ Nat) → mM → Prop} {x1 x2 x3 : Int} (hd : 4 ≤ d)
    (h : ∃ (J1 : Nat → Nat → Int), EE X 1 172 [.ref 542] (mj J sw lg x) (.inl none) (mj J1 sw lg x) ∧ ∃ (J2 : Nat → Nat → Int), EE X 3 185 [.ref 542, iv x3] (mj J1 sw lg x) (.inl none) (mj J2 sw lg x) ∧ ∃ (J3 : Nat → Nat → Int), EE X 1 174 [.ref 542, iv 59] (mj J2 sw lg x) (.inl none) (mj J3 sw lg x) ∧ VV X d 186 (44, [some (.ref 542), some (iv x1), some (iv (x2 + 1)), some (iv x3)], [], mj J3 sw lg x) K) : VV X d 186 (115, [some (.ref 542), some (iv x1), some (iv x2), some (iv x3)], [], mj J sw lg x) K := by
  refine v_s mt_186 rfl rfl rfl ?_
  obtain ⟨J1, z1, h⟩ := h
  refine v_call (d1 := 1) mt_186 rfl rfl mt_172 rfl rfl (m_callj (As := []) (rest := []) rfl rfl c_542 rfl (Nat.le_of_ble_eq_true rfl) (Nat.le_of_ble_eq_true rfl)) z1 (by clear h; omega) ?_
  refine v_s mt_186 rfl rfl rfl ?_
  refine v_s mt_186 rfl rfl rfl ?_
  obtain ⟨J2, z2, h⟩ := h
  refine v_call (d1 := 3) mt_186 rfl rfl mt_185 rfl rfl (m_callj (As := [iv x3]) (rest := []) rfl rfl c_542 rfl (Nat.le_of_ble_eq_true rfl) (Nat.le_of_ble_eq_true rfl)) z2 (by clear h; omega) ?_
  refine v_s mt_186 rfl rfl rfl ?_
  refine v_bp (v := Int32.ofInt 59) mt_186 rfl rfl ?_
  obtain ⟨J3, z3, h⟩ := h
  refine v_call (d1 := 1) mt_186 rfl rfl mt_174 rfl rfl (m_callj (As := [iv 59]) (rest := []) rfl rfl c_542 rfl (Nat.le_of_ble_eq_true rfl) (Nat.le_of_ble_eq_true rfl)) z3 (by clear h; omega) ?_
  refine j_inc (e := x2 + 1) (L' := [some (.ref 542), some (iv x1), some (iv (x2 + 1)), some (iv x3)]) mt_186 rfl rfl (Nat.le_of_ble_eq_true rfl) rfl rfl ?_
  refine v_go mt_186 rfl rfl ?_
  exact h
set_option maxHeartbeats 600000 in
theorem b_181_0 {X : Nat × (Nat → Int32)} {d : Nat} {J : Nat → Nat → Int} {sw : Bool × Bool × Bool} {lg : Nat → Nat → Int64} {x : Nat} {K : (Option Value ⊕ Nat) → mM → Prop} {o1 : Option Value} (hd : 1 ≤ d)
    (h : ∃ (J1 : Nat → Nat → Int), EE X 0 179 [.ref 542, .ref 545, .ref 549, iv 6] (mj (m_up (m_up (m_up (m_up (m_up J 542 24 (J 542 18)) 542 25 (J 542 19)) 542 26 (J 542 20)) 542 27 (J 542 21)) 542 28 (J 542 23)) sw lg x) (.inl none) (mj J1 sw lg x) ∧ ∃ (J2 : Nat → Nat → Int), EE X 0 179 [.ref 542, .ref 546, .ref 550, iv 6] (mj J1 sw lg x) (.inl none) (mj J2 sw lg x) ∧ ∃ (J3 : Nat → Nat → Int), EE X 0 179 [.ref 542, .ref 547, .ref 551, iv 9] (mj J2 sw lg x) (.inl none) (mj J3 sw lg x) ∧ ∃ (J4 : Nat → Nat → Int), EE X 0 179 [.ref 542, .ref 548, .ref 552, iv 28] (mj J3 sw lg x) (.inl none) (mj J4 sw lg x) ∧ VV X d 181 (123, [some (.ref 542), some (iv 0)], [], mj (m_up (m_up (m_up (m_up (m_up J4 542 35 0) 542 50 0) 542 40 0) 542 59 0) 542 41 0) sw lg x) K) : VV X d 181 (0, [some (.ref 542), o1], [], mj J sw lg x) K := by
  refine v_s mt_181 rfl rfl rfl ?_
  refine v_s mt_181 rfl rfl rfl ?_
  refine j_gi (w := J 542 18) 18 mt_181 rfl rfl c_542 (by decide) rfl ?_
  refine j_pi 24 mt_181 rfl rfl c_542 (by decide) ?_
  refine v_s mt_181 rfl rfl rfl ?_
  refine v_s mt_181 rfl rfl rfl ?_
  refine j_gi (w := J 542 19) 19 mt_181 rfl rfl c_542 (by decide) ((up_nk (by decide)).trans rfl) ?_
  refine j_pi 25 mt_181 rfl rfl c_542 (by decide) ?_
  refine v_s mt_181 rfl rfl rfl ?_
  refine v_s mt_181 rfl rfl rfl ?_
  refine j_gi (w := J 542 20) 20 mt_181 rfl rfl c_542 (by decide) ((up_nk (by decide)).trans ((up_nk (by decide)).trans rfl)) ?_
  refine j_pi 26 mt_181 rfl rfl c_542 (by decide) ?_
  refine v_s mt_181 rfl rfl rfl ?_
  refine v_s mt_181 rfl rfl rfl ?_
  refine j_gi (w := J 542 21) 21 mt_181 rfl rfl c_542 (by decide) ((up_nk (by decide)).trans ((up_nk (by decide)).trans ((up_nk (by decide)).trans rfl))) ?_
  refine j_pi 27 mt_181 rfl rfl c_542 (by decide) ?_
  refine v_s mt_181 rfl rfl rfl ?_
  refine v_s mt_181 rfl rfl rfl ?_
  refine j_gi (w := J 542 23) 23 mt_181 rfl rfl c_542 (by decide) ((up_nk (by decide)).trans ((up_nk (by decide)).trans ((up_nk (by decide)).trans ((up_nk (by decide)).trans rfl)))) ?_
  refine j_pi 28 mt_181 rfl rfl c_542 (by decide) ?_
  refine v_s mt_181 rfl rfl rfl ?_
  refine v_s mt_181 rfl rfl rfl ?_
  refine v_gr (w := 545) 10 mt_181 rfl rfl c_542 (by decide) (g_12_10 c_542) ?_
  refine v_s mt_181 rfl rfl rfl ?_
  refine v_gr (w := 549) 14 mt_181 rfl rfl c_542 (by decide) (g_12_14 c_542) ?_
  refine v_bp (v := Int32.ofInt 6) mt_181 rfl rfl ?_
  obtain ⟨J1, z1, h⟩ := h
  refine v_call (d1 := 0) mt_181 rfl rfl mt_179 rfl rfl (m_callj (As := [.ref 545, .ref 549, iv 6]) (rest := []) rfl rfl c_542 rfl (Nat.le_of_ble_eq_true rfl) (Nat.le_of_ble_eq_true rfl)) z1 (by clear h; omega) ?_
  refine v_s mt_181 rfl rfl rfl ?_
  refine v_s mt_181 rfl rfl rfl ?_
  refine v_gr (w := 546) 11 mt_181 rfl rfl c_542 (by decide) (g_12_11 c_542) ?_
  refine v_s mt_181 rfl rfl rfl ?_
  refine v_gr (w := 550) 15 mt_181 rfl rfl c_542 (by decide) (g_12_15 c_542) ?_
  refine v_bp (v := Int32.ofInt 6) mt_181 rfl rfl ?_
  obtain ⟨J2, z2, h⟩ := h
  refine v_call (d1 := 0) mt_181 rfl rfl mt_179 rfl rfl (m_callj (As := [.ref 546, .ref 550, iv 6]) (rest := []) rfl rfl c_542 rfl (Nat.le_of_ble_eq_true rfl) (Nat.le_of_ble_eq_true rfl)) z2 (by clear h; omega) ?_
  refine v_s mt_181 rfl rfl rfl ?_
  refine v_s mt_181 rfl rfl rfl ?_
  refine v_gr (w := 547) 12 mt_181 rfl rfl c_542 (by decide) (g_12_12 c_542) ?_
  refine v_s mt_181 rfl rfl rfl ?_
  refine v_gr (w := 551) 16 mt_181 rfl rfl c_542 (by decide) (g_12_16 c_542) ?_
  refine v_bp (v := Int32.ofInt 9) mt_181 rfl rfl ?_
  obtain ⟨J3, z3, h⟩ := h
  refine v_call (d1 := 0) mt_181 rfl rfl mt_179 rfl rfl (m_callj (As := [.ref 547, .ref 551, iv 9]) (rest := []) rfl rfl c_542 rfl (Nat.le_of_ble_eq_true rfl) (Nat.le_of_ble_eq_true rfl)) z3 (by clear h; omega) ?_
  refine v_s mt_181 rfl rfl rfl ?_
  refine v_s mt_181 rfl rfl rfl ?_
  refine v_gr (w := 548) 13 mt_181 rfl rfl c_542 (by decide) (g_12_13 c_542) ?_
  refine v_s mt_181 rfl rfl rfl ?_
  refine v_gr (w := 552) 17 mt_181 rfl rfl c_542 (by decide) (g_12_17 c_542) ?_
  refine v_bp (v := Int32.ofInt 28) mt_181 rfl rfl ?_
  obtain ⟨J4, z4, h⟩ := h
  refine v_call (d1 := 0) mt_181 rfl rfl mt_179 rfl rfl (m_callj (As := [.ref 548, .ref 552, iv 28]) (rest := []) rfl rfl c_542 rfl (Nat.le_of_ble_eq_true rfl) (Nat.le_of_ble_eq_true rfl)) z4 (by clear h; omega) ?_
  refine v_s mt_181 rfl rfl rfl ?_
  refine v_ic (v := Int32.ofInt 0) mt_181 rfl rfl ?_
  refine j_pi 35 mt_181 rfl rfl c_542 (by decide) ?_
  refine v_s mt_181 rfl rfl rfl ?_
  refine v_ic (v := Int32.ofInt 0) mt_181 rfl rfl ?_
  refine j_pi 50 mt_181 rfl rfl c_542 (by decide) ?_
  refine v_s mt_181 rfl rfl rfl ?_
  refine v_ic (v := Int32.ofInt 0) mt_181 rfl rfl ?_
  refine j_pi 40 mt_181 rfl rfl c_542 (by decide) ?_
  refine v_s mt_181 rfl rfl rfl ?_
  refine v_ic (v := Int32.ofInt 0) mt_181 rfl rfl ?_
  refine j_pi 59 mt_181 rfl rfl c_542 (by decide) ?_
  refine v_s mt_181 rfl rfl rfl ?_
  refine v_ic (v := Int32.ofInt 0) mt_181 rfl rfl ?_
  refine j_pi 41 mt_181 rfl rfl c_542 (by decide) ?_
  refine v_ic (v := Int32.ofInt 0) mt_181 rfl rfl ?_
  refine v_isn (L' := [some (.ref 542), some (iv 0)]) mt_181 rfl (Nat.le_of_ble_eq_true rfl) rfl ?_
  exact h
set_option maxHeartbeats 600000 in
theorem b_181_123 {X : Nat × (Nat → Int32)} {d : Nat} {J : Nat → Nat → Int} {sw : Bool × Bool × Bool} {lg : Nat → Nat → Int64} {x : Nat} {K : (Option Value ⊕ Nat) → mM → Prop} {x1 : Int} (hd : 1 ≤ d)
    (h : InR x1 ∧ (9 ≤ x1 → VV X d 181 (144, [some (.ref 542), some (iv 0)], [], mj J sw lg x) K) ∧ (x1 < 9 → ((0 ≤ x1 ∧ x1 < 9) ∧ VV X d 181 (123, [some (.ref 542), some (iv (x1 + 1))], [], mj (m_up J 565 x1.toNat (-1)) sw lg x) K))) : VV X d 181 (123, [some (.ref 542), some (iv x1)], [], mj J sw lg x) K := by
  refine v_s mt_181 rfl rfl rfl ?_
  refine v_bp (v := Int32.ofInt 9) mt_181 rfl rfl ?_
  obtain ⟨z1, h⟩ := h
  refine j_if2 mt_181 rfl rfl z1 ⟨by decide, by decide⟩ (fun c => ?_) (fun c => ?_)
  · replace h := h.1 c
    refine v_ic (v := Int32.ofInt 0) mt_181 rfl rfl ?_
    refine v_isn (L' := [some (.ref 542), some (iv 0)]) mt_181 rfl (Nat.le_of_ble_eq_true rfl) rfl ?_
    exact h
  · replace h := h.2 (Int.not_le.mp c)
    refine v_s mt_181 rfl rfl rfl ?_
    refine v_gr (w := 565) 49 mt_181 rfl rfl c_542 (by decide) (g_12_49 c_542) ?_
    refine v_s mt_181 rfl rfl rfl ?_
    refine v_ic (v := Int32.ofInt (-1)) mt_181 rfl rfl ?_
    obtain ⟨z2, h⟩ := h
    refine j_as mt_181 rfl c_565 z2 (by decide) ?_
    refine j_inc (e := x1 + 1) (L' := [some (.ref 542), some (iv (x1 + 1))]) mt_181 rfl rfl (Nat.le_of_ble_eq_true rfl) rfl rfl ?_
    refine v_go mt_181 rfl rfl ?_
    exact h
set_option maxHeartbeats 600000 in
theorem b_181_144 {X : Nat × (Nat → Int32)} {d : Nat} {J : Nat → Nat → Int} {sw : Bool × Bool × Bool} {lg : Nat → Nat → Int64} {x : Nat} {K : (Option Value ⊕ Nat) → mM → Prop} {x1 : Int} (hd : 1 ≤ d)
    (h : InR x1 ∧ (50 ≤ x1 → VV X d 181 (165, [some (.ref 542), some (iv 0)], [], mj J sw lg x) K) ∧ (x1 < 50 → ((0 ≤ x1 ∧ x1 < 50) ∧ VV X d 181 (144, [some (.ref 542), some (iv (x1 + 1))], [], mj (m_up J 561 x1.toNat 0) sw lg x) K))) : VV X d 181 (144, [some (.ref 542), some (iv x1)], [], mj J sw lg x) K := by
  refine v_s mt_181 rfl rfl rfl ?_
  refine v_bp (v := Int32.ofInt 50) mt_181 rfl rfl ?_
  obtain ⟨z1, h⟩ := h
  refine j_if2 mt_181 rfl rfl z1 ⟨by decide, by decide⟩ (fun c => ?_) (fun c => ?_)
  · replace h := h.1 c
    refine v_ic (v := Int32.ofInt 0) mt_181 rfl rfl ?_
    refine v_isn (L' := [some (.ref 542), some (iv 0)]) mt_181 rfl (Nat.le_of_ble_eq_true rfl) rfl ?_
    exact h
  · replace h := h.2 (Int.not_le.mp c)
    refine v_s mt_181 rfl rfl rfl ?_
    refine v_gr (w := 561) 45 mt_181 rfl rfl c_542 (by decide) (g_12_45 c_542) ?_
    refine v_s mt_181 rfl rfl rfl ?_
    refine v_ic (v := Int32.ofInt 0) mt_181 rfl rfl ?_
    obtain ⟨z2, h⟩ := h
    refine j_as mt_181 rfl c_561 z2 (by decide) ?_
    refine j_inc (e := x1 + 1) (L' := [some (.ref 542), some (iv (x1 + 1))]) mt_181 rfl rfl (Nat.le_of_ble_eq_true rfl) rfl rfl ?_
    refine v_go mt_181 rfl rfl ?_
    exact h
set_option maxHeartbeats 600000 in
theorem b_181_165 {X : Nat × (Nat → Int32)} {d : Nat} {J : Nat → Nat → Int} {sw : Bool × Bool × Bool} {lg : Nat → Nat → Int64} {x : Nat} {K : (Option Value ⊕ Nat) → mM → Prop} {x1 : Int} (hd : 1 ≤ d)
    (h : InR x1 ∧ (6 ≤ x1 → VV X d 181 (189, [some (.ref 542), some (iv 0)], [], mj J sw lg x) K) ∧ (x1 < 6 → ((0 ≤ 12 + x1 ∧ 12 + x1 < 50) ∧ VV X d 181 (165, [some (.ref 542), some (iv (x1 + 1))], [], mj (m_up J 561 ((12 + x1).toNat) (-1)) sw lg x) K))) : VV X d 181 (165, [some (.ref 542), some (iv x1)], [], mj J sw lg x) K := by
  refine v_s mt_181 rfl rfl rfl ?_
  refine v_bp (v := Int32.ofInt 6) mt_181 rfl rfl ?_
  obtain ⟨z1, h⟩ := h
  refine j_if2 mt_181 rfl rfl z1 ⟨by decide, by decide⟩ (fun c => ?_) (fun c => ?_)
  · replace h := h.1 c
    refine v_ic (v := Int32.ofInt 0) mt_181 rfl rfl ?_
    refine v_isn (L' := [some (.ref 542), some (iv 0)]) mt_181 rfl (Nat.le_of_ble_eq_true rfl) rfl ?_
    exact h
  · replace h := h.2 (Int.not_le.mp c)
    refine v_s mt_181 rfl rfl rfl ?_
    refine v_gr (w := 561) 45 mt_181 rfl rfl c_542 (by decide) (g_12_45 c_542) ?_
    refine v_bp (v := Int32.ofInt 12) mt_181 rfl rfl ?_
    refine v_s mt_181 rfl rfl rfl ?_
    refine j_add (e := 12 + x1) mt_181 rfl rfl ?_
    refine v_ic (v := Int32.ofInt (-1)) mt_181 rfl rfl ?_
    obtain ⟨z2, h⟩ := h
    refine j_as mt_181 rfl c_561 z2 (by decide) ?_
    refine j_inc (e := x1 + 1) (L' := [some (.ref 542), some (iv (x1 + 1))]) mt_181 rfl rfl (Nat.le_of_ble_eq_true rfl) rfl rfl ?_
    refine v_go mt_181 rfl rfl ?_
    exact h
set_option maxHeartbeats 600000 in
theorem b_181_189 {X : Nat × (Nat → Int32)} {d : Nat} {J : Nat → Nat → Int} {sw : Bool × Bool × Bool} {lg : Nat → Nat → Int64} {x : Nat} {K : (Option Value ⊕ Nat) → mM → Prop} {x1 : Int} (hd : 1 ≤ d)
    (h : InR x1 ∧ InR (J 542 26) ∧ (J 542 26 ≤ x1 → K (.inl none) (mj (m_up J 561 48 (J 542 22)) sw lg x)) ∧ (x1 < J 542 26 → ((0 ≤ x1 ∧ x1 < 9) ∧ (0 ≤ 30 + x1 ∧ 30 + x1 < 50) ∧ VV X d 181 (189, [some (.ref 542), some (iv (x1 + 1))], [], mj (m_up J 561 ((30 + x1).toNat) (J 547 x1.toNat)) sw lg x) K))) : VV X d 181 (189, [some (.ref 542), some (iv x1)], [], mj J sw lg x) K := by
  refine v_s mt_181 rfl rfl rfl ?_
  refine v_s mt_181 rfl rfl rfl ?_
  refine j_gi (w := J 542 26) 26 mt_181 rfl rfl c_542 (by decide) rfl ?_
  obtain ⟨z1, h⟩ := h
  obtain ⟨z2, h⟩ := h
  refine j_if2 mt_181 rfl rfl z1 z2 (fun c => ?_) (fun c => ?_)
  · replace h := h.1 c
    refine v_s mt_181 rfl rfl rfl ?_
    refine v_gr (w := 561) 45 mt_181 rfl rfl c_542 (by decide) (g_12_45 c_542) ?_
    refine v_bp (v := Int32.ofInt 48) mt_181 rfl rfl ?_
    refine v_s mt_181 rfl rfl rfl ?_
    refine j_gi (w := J 542 22) 22 mt_181 rfl rfl c_542 (by decide) rfl ?_
    refine j_as mt_181 rfl c_561 ⟨by decide, by decide⟩ (by decide) ?_
    exact v_ret mt_181 rfl rfl rfl h
  · replace h := h.2 (Int.not_le.mp c)
    refine v_s mt_181 rfl rfl rfl ?_
    refine v_gr (w := 561) 45 mt_181 rfl rfl c_542 (by decide) (g_12_45 c_542) ?_
    refine v_bp (v := Int32.ofInt 30) mt_181 rfl rfl ?_
    refine v_s mt_181 rfl rfl rfl ?_
    refine j_add (e := 30 + x1) mt_181 rfl rfl ?_
    refine v_s mt_181 rfl rfl rfl ?_
    refine v_gr (w := 547) 12 mt_181 rfl rfl c_542 (by decide) (g_12_12 c_542) ?_
    refine v_s mt_181 rfl rfl rfl ?_
    obtain ⟨z3, h⟩ := h
    refine j_al (w := J 547 x1.toNat) mt_181 rfl c_547 z3 (by decide) rfl ?_
    obtain ⟨z4, h⟩ := h
    refine j_as mt_181 rfl c_561 z4 (by decide) ?_
    refine j_inc (e := x1 + 1) (L' := [some (.ref 542), some (iv (x1 + 1))]) mt_181 rfl rfl (Nat.le_of_ble_eq_true rfl) rfl rfl ?_
    refine v_go mt_181 rfl rfl ?_
    exact h
