set_option maxHeartbeats 600000 in
theorem b_210_0 {X : Nat × (Nat → Int32)} {d : Nat} {J : Nat → Nat → Int} {sw : Bool × Bool × Bool} {lg : Nat → Nat → Int64} {x : Nat} {K : (Option Value ⊕ Nat) → mM → Prop} {x0 : Int}
    (h : InR x0 ∧ (0 ≤ x0 → ((x0 ≤ 99 → K (.inl (some (iv x0))) (mj J sw lg x)) ∧ (99 < x0 → K (.inl (some (iv 99))) (mj J sw lg x)))) ∧ (x0 < 0 → K (.inl (some (iv 0))) (mj J sw lg x))) : VV X d 210 (0, [some (iv x0)], [], mj J sw lg x) K := by
  refine v_s mt_210 rfl rfl rfl ?_
  obtain ⟨z1, h⟩ := h
  refine j_if1 mt_210 rfl rfl z1 (fun c => ?_) (fun c => ?_)
  · replace h := h.1 c
    refine v_s mt_210 rfl rfl rfl ?_
    refine v_bp (v := Int32.ofInt 99) mt_210 rfl rfl ?_
    refine j_if2 mt_210 rfl rfl z1 ⟨by decide, by decide⟩ (fun c => ?_) (fun c => ?_)
    · replace h := h.1 c
      refine v_s mt_210 rfl rfl rfl ?_
      exact v_ret mt_210 rfl rfl rfl h
    · replace h := h.2 (Int.not_le.mp c)
      refine v_bp (v := Int32.ofInt 99) mt_210 rfl rfl ?_
      refine v_go mt_210 rfl rfl ?_
      exact v_ret mt_210 rfl rfl rfl h
  · replace h := h.2 (Int.not_le.mp c)
    refine v_ic (v := Int32.ofInt 0) mt_210 rfl rfl ?_
    refine v_go mt_210 rfl rfl ?_
    exact v_ret mt_210 rfl rfl rfl h
set_option maxHeartbeats 600000 in
theorem b_215_0 {X : Nat × (Nat → Int32)} {d : Nat} {J : Nat → Nat → Int} {sw : Bool × Bool × Bool} {lg : Nat → Nat → Int64} {x : Nat} {K : (Option Value ⊕ Nat) → mM → Prop} {x1 : Int} {o2 o3 o4 : Option Value} (hd : 1 ≤ d)
    (h : (0 ≤ 12 + x1 ∧ 12 + x1 < 50) ∧ InR (J 562 ((12 + x1).toNat)) ∧ (¬ J 562 ((12 + x1).toNat) = (-1) → ((0 ≤ 6 + x1 ∧ 6 + x1 < 50) ∧ (0 ≤ x1 ∧ x1 < 50) ∧ InR (2 * (J 562 ((6 + x1).toNat))) ∧ InR (J 562 x1.toNat) ∧ (2 * (J 562 ((6 + x1).toNat)) ≤ J 562 x1.toNat → ((0 ≤ 30 + (J 562 ((12 + x1).toNat)) ∧ 30 + (J 562 ((12 + x1).toNat)) < 50) ∧ InR (J 562 ((30 + (J 562 ((12 + x1).toNat))).toNat)) ∧ (J 562 ((30 + (J 562 ((12 + x1).toNat))).toNat) ≤ 0 → ((0 ≤ 39 + (J 562 ((12 + x1).toNat)) ∧ 39 + (J 562 ((12 + x1).toNat)) < 50) ∧ ∃ (c2 : Int) (J1 : Nat → Nat → Int), EE X 0 210 [iv ((J 562 ((39 + (J 562 ((12 + x1).toNat))).toNat)) + 1)] (mj J sw lg x) (.inl (some (iv c2))) (mj J1 sw lg x) ∧ InR ((m_up J1 562 ((39 + (J 562 ((12 + x1).toNat))).toNat) c2) 562 ((30 + (J 562 ((12 + x1).toNat))).toNat)) ∧ ((m_up J1 562 ((39 + (J 562 ((12 + x1).toNat))).toNat) c2) 562 ((30 + (J 562 ((12 + x1).toNat))).toNat) ≤ 0 → (∃ (c4 : Int) (J3 : Nat → Nat → Int), EE X 0 205 [.ref 542, iv (J 562 ((12 + x1).toNat))] (mj (m_up J1 562 ((39 + (J 562 ((12 + x1).toNat))).toNat) c2) sw lg x) (.inl (some (iv c4))) (mj J3 sw lg x) ∧ VV X d 215 (123, [some (.ref 542), some (iv x1), some (iv (J 562 ((12 + x1).toNat))), some (iv c4), some (iv 0)], [], mj J3 sw lg x) K)) ∧ (0 < (m_up J1 562 ((39 + (J 562 ((12 + x1).toNat))).toNat) c2) 562 ((30 + (J 562 ((12 + x1).toNat))).toNat) → K (.inl none) (mj (m_up J1 562 ((39 + (J 562 ((12 + x1).toNat))).toNat) c2) sw lg x)))) ∧ (0 < J 562 ((30 + (J 562 ((12 + x1).toNat))).toNat) → (InR ((J 562 ((30 + (J 562 ((12 + x1).toNat))).toNat)) - 1) ∧ ((J 562 ((30 + (J 562 ((12 + x1).toNat))).toNat)) - 1 ≤ 0 → (∃ (c6 : Int) (J5 : Nat → Nat → Int), EE X 0 205 [.ref 542, iv (J 562 ((12 + x1).toNat))] (mj (m_up J 562 ((30 + (J 562 ((12 + x1).toNat))).toNat) ((J 562 ((30 + (J 562 ((12 + x1).toNat))).toNat)) - 1)) sw lg x) (.inl (some (iv c6))) (mj J5 sw lg x) ∧ VV X d 215 (123, [some (.ref 542), some (iv x1), some (iv (J 562 ((12 + x1).toNat))), some (iv c6), some (iv 0)], [], mj J5 sw lg x) K)) ∧ (0 < (J 562 ((30 + (J 562 ((12 + x1).toNat))).toNat)) - 1 → K (.inl none) (mj (m_up J 562 ((30 + (J 562 ((12 + x1).toNat))).toNat) ((J 562 ((30 + (J 562 ((12 + x1).toNat))).toNat)) - 1)) sw lg x)))))) ∧ (J 562 x1.toNat < 2 * (J 562 ((6 + x1).toNat)) → ((0 ≤ 30 + (J 562 ((12 + x1).toNat)) ∧ 30 + (J 562 ((12 + x1).toNat)) < 50) ∧ ∃ (c8 : Int) (J7 : Nat → Nat → Int), EE X 0 210 [iv ((J 562 ((30 + (J 562 ((12 + x1).toNat))).toNat)) + 2)] (mj J sw lg x) (.inl (some (iv c8))) (mj J7 sw lg x) ∧ InR c8 ∧ (c8 ≤ 0 → (∃ (c10 : Int) (J9 : Nat → Nat → Int), EE X 0 205 [.ref 542, iv (J 562 ((12 + x1).toNat))] (mj (m_up J7 562 ((30 + (J 562 ((12 + x1).toNat))).toNat) c8) sw lg x) (.inl (some (iv c10))) (mj J9 sw lg x) ∧ VV X d 215 (123, [some (.ref 542), some (iv x1), some (iv (J 562 ((12 + x1).toNat))), some (iv c10), some (iv 0)], [], mj J9 sw lg x) K)) ∧ (0 < c8 → K (.inl none) (mj (m_up J7 562 ((30 + (J 562 ((12 + x1).toNat))).toNat) c8) sw lg x)))))) ∧ (J 562 ((12 + x1).toNat) = (-1) → K (.inl none) (mj J sw lg x))) : VV X d 215 (0, [some (.ref 542), some (iv x1), o2, o3, o4], [], mj J sw lg x) K := by
  refine v_s mt_215 rfl rfl rfl ?_
  refine v_gr (w := 562) 46 mt_215 rfl rfl c_542 (by decide) (g_12_46 c_542) ?_
  refine v_bp (v := Int32.ofInt 12) mt_215 rfl rfl ?_
  refine v_s mt_215 rfl rfl rfl ?_
  refine j_add (e := 12 + x1) mt_215 rfl rfl ?_
  obtain ⟨z1, h⟩ := h
  refine j_al (w := J 562 ((12 + x1).toNat)) mt_215 rfl c_562 z1 (by decide) rfl ?_
  refine v_isn (L' := [some (.ref 542), some (iv x1), some (iv (J 562 ((12 + x1).toNat))), o3, o4]) mt_215 rfl (Nat.le_of_ble_eq_true rfl) rfl ?_
  refine v_s mt_215 rfl rfl rfl ?_
  refine v_ic (v := Int32.ofInt (-1)) mt_215 rfl rfl ?_
  obtain ⟨z2, h⟩ := h
  refine j_if2 mt_215 rfl rfl z2 ⟨by decide, by decide⟩ (fun c => ?_) (fun c => ?_)
  · replace h := h.1 c
    refine v_s mt_215 rfl rfl rfl ?_
    refine v_s mt_215 rfl rfl rfl ?_
    refine v_inl (L1 := [some (.ref 542), some (iv x1)]) mt_215 rfl rfl mt_209 rfl rfl (m_callj (As := [iv x1]) (rest := []) rfl rfl c_542 rfl (Nat.le_of_ble_eq_true rfl) (Nat.le_of_ble_eq_true rfl)) rfl (by clear h; omega) ?_
    refine v_ic (v := Int32.ofInt 2) mt_209 rfl rfl ?_
    refine v_s mt_209 rfl rfl rfl ?_
    refine v_gr (w := 562) 46 mt_209 rfl rfl c_542 (by decide) (g_12_46 c_542) ?_
    refine v_bp (v := Int32.ofInt 6) mt_209 rfl rfl ?_
    refine v_s mt_209 rfl rfl rfl ?_
    refine j_add (e := 6 + x1) mt_209 rfl rfl ?_
    obtain ⟨z3, h⟩ := h
    refine j_al (w := J 562 ((6 + x1).toNat)) mt_209 rfl c_562 z3 (by decide) rfl ?_
    refine j_mul (e := 2 * (J 562 ((6 + x1).toNat))) mt_209 rfl rfl ?_
    refine v_s mt_209 rfl rfl rfl ?_
    refine v_gr (w := 562) 46 mt_209 rfl rfl c_542 (by decide) (g_12_46 c_542) ?_
    refine v_ic (v := Int32.ofInt 0) mt_209 rfl rfl ?_
    refine v_s mt_209 rfl rfl rfl ?_
    refine j_add (e := x1) mt_209 rfl (Int.zero_add _) ?_
    obtain ⟨z4, h⟩ := h
    refine j_al (w := J 562 x1.toNat) mt_209 rfl c_562 z4 (by decide) rfl ?_
    obtain ⟨z5, h⟩ := h
    obtain ⟨z6, h⟩ := h
    refine j_if2 mt_209 rfl rfl z5 z6 (fun c => ?_) (fun c => ?_)
    · replace h := h.1 c
      refine v_ic (v := Int32.ofInt 0) mt_209 rfl rfl ?_
      refine j_retb mt_209 rfl rfl (by decide) ?_
      refine j_if1 mt_215 rfl rfl ⟨by decide, by decide⟩ (fun _ => ?_) (fun c => (c (show (0 : Int) = 0 by decide)).elim)
      refine v_s mt_215 rfl rfl rfl ?_
      refine v_gr (w := 562) 46 mt_215 rfl rfl c_542 (by decide) (g_12_46 c_542) ?_
      refine v_bp (v := Int32.ofInt 30) mt_215 rfl rfl ?_
      refine v_s mt_215 rfl rfl rfl ?_
      refine j_add (e := 30 + (J 562 ((12 + x1).toNat))) mt_215 rfl rfl ?_
      obtain ⟨z7, h⟩ := h
      refine j_al (w := J 562 ((30 + (J 562 ((12 + x1).toNat))).toNat)) mt_215 rfl c_562 z7 (by decide) rfl ?_
      obtain ⟨z8, h⟩ := h
      refine j_if1 mt_215 rfl rfl z8 (fun c => ?_) (fun c => ?_)
      · replace h := h.1 c
        refine v_s mt_215 rfl rfl rfl ?_
        refine v_gr (w := 562) 46 mt_215 rfl rfl c_542 (by decide) (g_12_46 c_542) ?_
        refine v_bp (v := Int32.ofInt 39) mt_215 rfl rfl ?_
        refine v_s mt_215 rfl rfl rfl ?_
        refine j_add (e := 39 + (J 562 ((12 + x1).toNat))) mt_215 rfl rfl ?_
        refine v_s mt_215 rfl rfl rfl ?_
        refine v_gr (w := 562) 46 mt_215 rfl rfl c_542 (by decide) (g_12_46 c_542) ?_
        refine v_bp (v := Int32.ofInt 39) mt_215 rfl rfl ?_
        refine v_s mt_215 rfl rfl rfl ?_
        refine j_add (e := 39 + (J 562 ((12 + x1).toNat))) mt_215 rfl rfl ?_
        obtain ⟨z9, h⟩ := h
        refine j_al (w := J 562 ((39 + (J 562 ((12 + x1).toNat))).toNat)) mt_215 rfl c_562 z9 (by decide) rfl ?_
        refine v_ic (v := Int32.ofInt 1) mt_215 rfl rfl ?_
        refine j_add (e := (J 562 ((39 + (J 562 ((12 + x1).toNat))).toNat)) + 1) mt_215 rfl rfl ?_
        obtain ⟨c2, J1, z10, h⟩ := h
        refine v_call (d1 := 0) mt_215 rfl rfl mt_210 rfl rfl rfl z10 (by clear h; omega) ?_
        refine j_as mt_215 rfl c_562 z9 (by decide) ?_
        refine v_s mt_215 rfl rfl rfl ?_
        refine v_gr (w := 562) 46 mt_215 rfl rfl c_542 (by decide) (g_12_46 c_542) ?_
        refine v_bp (v := Int32.ofInt 30) mt_215 rfl rfl ?_
        refine v_s mt_215 rfl rfl rfl ?_
        refine j_add (e := 30 + (J 562 ((12 + x1).toNat))) mt_215 rfl rfl ?_
        refine j_al (w := (m_up J1 562 ((39 + (J 562 ((12 + x1).toNat))).toNat) c2) 562 ((30 + (J 562 ((12 + x1).toNat))).toNat)) mt_215 rfl c_562 z7 (by decide) rfl ?_
        obtain ⟨z11, h⟩ := h
        refine j_if1 mt_215 rfl rfl z11 (fun c => ?_) (fun c => ?_)
        · replace h := h.1 c
          refine v_s mt_215 rfl rfl rfl ?_
          refine v_s mt_215 rfl rfl rfl ?_
          obtain ⟨c4, J3, z12, h⟩ := h
          refine v_call (d1 := 0) mt_215 rfl rfl mt_205 rfl rfl (m_callj (As := [iv (J 562 ((12 + x1).toNat))]) (rest := []) rfl rfl c_542 rfl (Nat.le_of_ble_eq_true rfl) (Nat.le_of_ble_eq_true rfl)) z12 (by clear h; omega) ?_
          refine v_isn (L' := [some (.ref 542), some (iv x1), some (iv (J 562 ((12 + x1).toNat))), some (iv c4), o4]) mt_215 rfl (Nat.le_of_ble_eq_true rfl) rfl ?_
          refine v_ic (v := Int32.ofInt 0) mt_215 rfl rfl ?_
          refine v_is (L' := [some (.ref 542), some (iv x1), some (iv (J 562 ((12 + x1).toNat))), some (iv c4), some (iv 0)]) mt_215 rfl (Nat.le_of_ble_eq_true rfl) rfl ?_
          exact h
        · replace h := h.2 (Int.not_le.mp c)
          exact v_ret mt_215 rfl rfl rfl h
      · replace h := h.2 (Int.not_le.mp c)
        refine v_s mt_215 rfl rfl rfl ?_
        refine v_gr (w := 562) 46 mt_215 rfl rfl c_542 (by decide) (g_12_46 c_542) ?_
        refine v_bp (v := Int32.ofInt 30) mt_215 rfl rfl ?_
        refine v_s mt_215 rfl rfl rfl ?_
        refine j_add (e := 30 + (J 562 ((12 + x1).toNat))) mt_215 rfl rfl ?_
        refine v_s mt_215 rfl rfl rfl ?_
        refine j_al (w := J 562 ((30 + (J 562 ((12 + x1).toNat))).toNat)) mt_215 rfl c_562 z7 (by decide) rfl ?_
        refine v_ic (v := Int32.ofInt 1) mt_215 rfl rfl ?_
        refine j_sub (e := (J 562 ((30 + (J 562 ((12 + x1).toNat))).toNat)) - 1) mt_215 rfl rfl ?_
        refine j_as mt_215 rfl c_562 z7 (by decide) ?_
        refine v_go mt_215 rfl rfl ?_
        refine v_s mt_215 rfl rfl rfl ?_
        refine v_gr (w := 562) 46 mt_215 rfl rfl c_542 (by decide) (g_12_46 c_542) ?_
        refine v_bp (v := Int32.ofInt 30) mt_215 rfl rfl ?_
        refine v_s mt_215 rfl rfl rfl ?_
        refine j_add (e := 30 + (J 562 ((12 + x1).toNat))) mt_215 rfl rfl ?_
        refine j_al (w := (J 562 ((30 + (J 562 ((12 + x1).toNat))).toNat)) - 1) mt_215 rfl c_562 z7 (by decide) (up_eq _ _ _ _) ?_
        obtain ⟨z13, h⟩ := h
        refine j_if1 mt_215 rfl rfl z13 (fun c => ?_) (fun c => ?_)
        · replace h := h.1 c
          refine v_s mt_215 rfl rfl rfl ?_
          refine v_s mt_215 rfl rfl rfl ?_
          obtain ⟨c6, J5, z14, h⟩ := h
          refine v_call (d1 := 0) mt_215 rfl rfl mt_205 rfl rfl (m_callj (As := [iv (J 562 ((12 + x1).toNat))]) (rest := []) rfl rfl c_542 rfl (Nat.le_of_ble_eq_true rfl) (Nat.le_of_ble_eq_true rfl)) z14 (by clear h; omega) ?_
          refine v_isn (L' := [some (.ref 542), some (iv x1), some (iv (J 562 ((12 + x1).toNat))), some (iv c6), o4]) mt_215 rfl (Nat.le_of_ble_eq_true rfl) rfl ?_
          refine v_ic (v := Int32.ofInt 0) mt_215 rfl rfl ?_
          refine v_is (L' := [some (.ref 542), some (iv x1), some (iv (J 562 ((12 + x1).toNat))), some (iv c6), some (iv 0)]) mt_215 rfl (Nat.le_of_ble_eq_true rfl) rfl ?_
          exact h
        · replace h := h.2 (Int.not_le.mp c)
          exact v_ret mt_215 rfl rfl rfl h
    · replace h := h.2 (Int.not_le.mp c)
      refine v_ic (v := Int32.ofInt 1) mt_209 rfl rfl ?_
      refine v_go mt_209 rfl rfl ?_
      refine j_retb mt_209 rfl rfl (by decide) ?_
      refine j_if1 mt_215 rfl rfl ⟨by decide, by decide⟩ (fun c => absurd (show (1 : Int) = 0 from c) (by decide)) (fun _ => ?_)
      refine v_s mt_215 rfl rfl rfl ?_
      refine v_gr (w := 562) 46 mt_215 rfl rfl c_542 (by decide) (g_12_46 c_542) ?_
      refine v_bp (v := Int32.ofInt 30) mt_215 rfl rfl ?_
      refine v_s mt_215 rfl rfl rfl ?_
      refine j_add (e := 30 + (J 562 ((12 + x1).toNat))) mt_215 rfl rfl ?_
      refine v_s mt_215 rfl rfl rfl ?_
      refine v_gr (w := 562) 46 mt_215 rfl rfl c_542 (by decide) (g_12_46 c_542) ?_
      refine v_bp (v := Int32.ofInt 30) mt_215 rfl rfl ?_
      refine v_s mt_215 rfl rfl rfl ?_
      refine j_add (e := 30 + (J 562 ((12 + x1).toNat))) mt_215 rfl rfl ?_
      obtain ⟨z15, h⟩ := h
      refine j_al (w := J 562 ((30 + (J 562 ((12 + x1).toNat))).toNat)) mt_215 rfl c_562 z15 (by decide) rfl ?_
      refine v_ic (v := Int32.ofInt 2) mt_215 rfl rfl ?_
      refine j_add (e := (J 562 ((30 + (J 562 ((12 + x1).toNat))).toNat)) + 2) mt_215 rfl rfl ?_
      obtain ⟨c8, J7, z16, h⟩ := h
      refine v_call (d1 := 0) mt_215 rfl rfl mt_210 rfl rfl rfl z16 (by clear h; omega) ?_
      refine j_as mt_215 rfl c_562 z15 (by decide) ?_
      refine v_go mt_215 rfl rfl ?_
      refine v_s mt_215 rfl rfl rfl ?_
      refine v_gr (w := 562) 46 mt_215 rfl rfl c_542 (by decide) (g_12_46 c_542) ?_
      refine v_bp (v := Int32.ofInt 30) mt_215 rfl rfl ?_
      refine v_s mt_215 rfl rfl rfl ?_
      refine j_add (e := 30 + (J 562 ((12 + x1).toNat))) mt_215 rfl rfl ?_
      refine j_al (w := c8) mt_215 rfl c_562 z15 (by decide) (up_eq _ _ _ _) ?_
      obtain ⟨z17, h⟩ := h
      refine j_if1 mt_215 rfl rfl z17 (fun c => ?_) (fun c => ?_)
      · replace h := h.1 c
        refine v_s mt_215 rfl rfl rfl ?_
        refine v_s mt_215 rfl rfl rfl ?_
        obtain ⟨c10, J9, z18, h⟩ := h
        refine v_call (d1 := 0) mt_215 rfl rfl mt_205 rfl rfl (m_callj (As := [iv (J 562 ((12 + x1).toNat))]) (rest := []) rfl rfl c_542 rfl (Nat.le_of_ble_eq_true rfl) (Nat.le_of_ble_eq_true rfl)) z18 (by clear h; omega) ?_
        refine v_isn (L' := [some (.ref 542), some (iv x1), some (iv (J 562 ((12 + x1).toNat))), some (iv c10), o4]) mt_215 rfl (Nat.le_of_ble_eq_true rfl) rfl ?_
        refine v_ic (v := Int32.ofInt 0) mt_215 rfl rfl ?_
        refine v_is (L' := [some (.ref 542), some (iv x1), some (iv (J 562 ((12 + x1).toNat))), some (iv c10), some (iv 0)]) mt_215 rfl (Nat.le_of_ble_eq_true rfl) rfl ?_
        exact h
      · replace h := h.2 (Int.not_le.mp c)
        exact v_ret mt_215 rfl rfl rfl h
  · replace h := h.2 (Decidable.not_not.mp c)
    exact v_ret mt_215 rfl rfl rfl h
set_option maxHeartbeats 600000 in
theorem b_215_123 {X : Nat × (Nat → Int32)} {d : Nat} {J : Nat → Nat → Int} {sw : Bool × Bool × Bool} {lg : Nat → Nat → Int64} {x : Nat} {K : (Option Value ⊕ Nat) → mM → Prop} {x1 x2 x3 x4 : Int} (hd : 1 ≤ d)
    (h : InR x4 ∧ InR (J 542 26) ∧ (J 542 26 ≤ x4 → K (.inl none) (mj J sw lg x)) ∧ (x4 < J 542 26 → ((¬ bAnd (bShr x3 x4) 1 = 1 → VV X d 215 (123, [some (.ref 542), some (iv x1), some (iv x2), some (iv x3), some (iv (x4 + 1))], [], mj J sw lg x) K) ∧ (bAnd (bShr x3 x4) 1 = 1 → ((0 ≤ 30 + x4 ∧ 30 + x4 < 50) ∧ (0 ≤ 12 + x1 ∧ 12 + x1 < 50) ∧ (0 ≤ 30 + (J 562 ((12 + x1).toNat)) ∧ 30 + (J 562 ((12 + x1).toNat)) < 50) ∧ InR (J 562 ((30 + x4).toNat)) ∧ InR (J 562 ((30 + (J 562 ((12 + x1).toNat))).toNat)) ∧ (J 562 ((30 + x4).toNat) ≤ J 562 ((30 + (J 562 ((12 + x1).toNat))).toNat) → VV X d 215 (123, [some (.ref 542), some (iv x1), some (iv x2), some (iv x3), some (iv (x4 + 1))], [], mj J sw lg x) K) ∧ (J 562 ((30 + (J 562 ((12 + x1).toNat))).toNat) < J 562 ((30 + x4).toNat) → VV X d 215 (123, [some (.ref 542), some (iv x1), some (iv x2), some (iv x3), some (iv (x4 + 1))], [], mj (m_up J 562 ((12 + x1).toNat) x4) sw lg x) K)))))) : VV X d 215 (123, [some (.ref 542), some (iv x1), some (iv x2), some (iv x3), some (iv x4)], [], mj J sw lg x) K := by
  refine v_s mt_215 rfl rfl rfl ?_
  refine v_s mt_215 rfl rfl rfl ?_
  refine j_gi (w := J 542 26) 26 mt_215 rfl rfl c_542 (by decide) rfl ?_
  obtain ⟨z1, h⟩ := h
  obtain ⟨z2, h⟩ := h
  refine j_if2 mt_215 rfl rfl z1 z2 (fun c => ?_) (fun c => ?_)
  · replace h := h.1 c
    exact v_ret mt_215 rfl rfl rfl h
  · replace h := h.2 (Int.not_le.mp c)
    refine v_s mt_215 rfl rfl rfl ?_
    refine v_s mt_215 rfl rfl rfl ?_
    refine j_shr (e := bShr x3 x4) mt_215 rfl rfl ?_
    refine v_ic (v := Int32.ofInt 1) mt_215 rfl rfl ?_
    refine j_and (e := bAnd (bShr x3 x4) 1) mt_215 rfl rfl ?_
    refine v_ic (v := Int32.ofInt 1) mt_215 rfl rfl ?_
    refine j_if2 mt_215 rfl rfl (inT _) ⟨by decide, by decide⟩ (fun c => ?_) (fun c => ?_)
    · replace h := h.1 c
      refine j_inc (e := x4 + 1) (L' := [some (.ref 542), some (iv x1), some (iv x2), some (iv x3), some (iv (x4 + 1))]) mt_215 rfl rfl (Nat.le_of_ble_eq_true rfl) rfl rfl ?_
      refine v_go mt_215 rfl rfl ?_
      exact h
    · replace h := h.2 (Decidable.not_not.mp c)
      refine v_s mt_215 rfl rfl rfl ?_
      refine v_gr (w := 562) 46 mt_215 rfl rfl c_542 (by decide) (g_12_46 c_542) ?_
      refine v_bp (v := Int32.ofInt 30) mt_215 rfl rfl ?_
      refine v_s mt_215 rfl rfl rfl ?_
      refine j_add (e := 30 + x4) mt_215 rfl rfl ?_
      obtain ⟨z3, h⟩ := h
      refine j_al (w := J 562 ((30 + x4).toNat)) mt_215 rfl c_562 z3 (by decide) rfl ?_
      refine v_s mt_215 rfl rfl rfl ?_
      refine v_gr (w := 562) 46 mt_215 rfl rfl c_542 (by decide) (g_12_46 c_542) ?_
      refine v_bp (v := Int32.ofInt 30) mt_215 rfl rfl ?_
      refine v_s mt_215 rfl rfl rfl ?_
      refine v_gr (w := 562) 46 mt_215 rfl rfl c_542 (by decide) (g_12_46 c_542) ?_
      refine v_bp (v := Int32.ofInt 12) mt_215 rfl rfl ?_
      refine v_s mt_215 rfl rfl rfl ?_
      refine j_add (e := 12 + x1) mt_215 rfl rfl ?_
      obtain ⟨z4, h⟩ := h
      refine j_al (w := J 562 ((12 + x1).toNat)) mt_215 rfl c_562 z4 (by decide) rfl ?_
      refine j_add (e := 30 + (J 562 ((12 + x1).toNat))) mt_215 rfl rfl ?_
      obtain ⟨z5, h⟩ := h
      refine j_al (w := J 562 ((30 + (J 562 ((12 + x1).toNat))).toNat)) mt_215 rfl c_562 z5 (by decide) rfl ?_
      obtain ⟨z6, h⟩ := h
      obtain ⟨z7, h⟩ := h
      refine j_if2 mt_215 rfl rfl z6 z7 (fun c => ?_) (fun c => ?_)
      · replace h := h.1 c
        refine j_inc (e := x4 + 1) (L' := [some (.ref 542), some (iv x1), some (iv x2), some (iv x3), some (iv (x4 + 1))]) mt_215 rfl rfl (Nat.le_of_ble_eq_true rfl) rfl rfl ?_
        refine v_go mt_215 rfl rfl ?_
        exact h
      · replace h := h.2 (Int.not_le.mp c)
        refine v_s mt_215 rfl rfl rfl ?_
        refine v_gr (w := 562) 46 mt_215 rfl rfl c_542 (by decide) (g_12_46 c_542) ?_
        refine v_bp (v := Int32.ofInt 12) mt_215 rfl rfl ?_
        refine v_s mt_215 rfl rfl rfl ?_
        refine j_add (e := 12 + x1) mt_215 rfl rfl ?_
        refine v_s mt_215 rfl rfl rfl ?_
        refine j_as mt_215 rfl c_562 z4 (by decide) ?_
        refine j_inc (e := x4 + 1) (L' := [some (.ref 542), some (iv x1), some (iv x2), some (iv x3), some (iv (x4 + 1))]) mt_215 rfl rfl (Nat.le_of_ble_eq_true rfl) rfl rfl ?_
        refine v_go mt_215 rfl rfl ?_
        exact h
set_option maxHeartbeats 600000 in
theorem b_216_0 {X : Nat × (Nat → Int32)} {d : Nat} {J : Nat → Nat → Int} {sw : Bool × Bool × Bool} {lg : Nat → Nat → Int64} {x : Nat} {K : (Option Value ⊕ Nat) → mM → Prop} {o1 o2 : Option Value} (hd : 2 ≤ d)
    (h : VV X d 216 (2, [some (.ref 542), some (iv 0), o2], [], mj J sw lg x) K) : VV X d 216 (0, [some (.ref 542), o1, o2], [], mj J sw lg x) K := by
  refine v_ic (v := Int32.ofInt 0) mt_216 rfl rfl ?_
  refine v_isn (L' := [some (.ref 542), some (iv 0), o2]) mt_216 rfl (Nat.le_of_ble_eq_true rfl) rfl ?_
  exact h
set_option maxHeartbeats 600000 in
theorem b_216_2 {X : Nat × (Nat → Int32)} {d : Nat} {J : Nat → Nat → Int} {sw : Bool × Bool × Bool} {lg : Nat → Nat → Int64} {x : Nat} {K : (Option Value ⊕ Nat) → mM → Prop} {x1 : Int} {o2 : Option Value} (hd : 2 ≤ d)
    (h : InR x1 ∧ InR (J 542 24) ∧ (J 542 24 ≤ x1 → (InR (J 542 28) ∧ (J 542 28 ≤ 0 → VV X d 216 (62, [some (.ref 542), some (iv 0), some (iv 0)], [], mj (m_up J 562 49 ((J 562 49) + 1)) sw lg x) K) ∧ (0 < J 542 28 → (¬ J 542 28 = 0 ∧ (¬ bRem ((J 562 49) + 1) (J 542 28) = 0 → VV X d 216 (62, [some (.ref 542), some (iv 0), some (iv 0)], [], mj (m_up J 562 49 ((J 562 49) + 1)) sw lg x) K) ∧ (bRem ((J 562 49) + 1) (J 542 28) = 0 → VV X d 216 (62, [some (.ref 542), some (iv 1), some (iv 0)], [], mj (m_up J 562 49 ((J 562 49) + 1)) sw lg x) K))))) ∧ (x1 < J 542 24 → (∃ (J1 : Nat → Nat → Int), EE X 1 215 [.ref 542, iv x1] (mj J sw lg x) (.inl none) (mj J1 sw lg x) ∧ VV X d 216 (2, [some (.ref 542), some (iv (x1 + 1)), o2], [], mj J1 sw lg x) K))) : VV X d 216 (2, [some (.ref 542), some (iv x1), o2], [], mj J sw lg x) K := by
  refine v_s mt_216 rfl rfl rfl ?_
  refine v_s mt_216 rfl rfl rfl ?_
  refine j_gi (w := J 542 24) 24 mt_216 rfl rfl c_542 (by decide) rfl ?_
  obtain ⟨z1, h⟩ := h
  obtain ⟨z2, h⟩ := h
  refine j_if2 mt_216 rfl rfl z1 z2 (fun c => ?_) (fun c => ?_)
  · replace h := h.1 c
    refine v_s mt_216 rfl rfl rfl ?_
    refine v_gr (w := 562) 46 mt_216 rfl rfl c_542 (by decide) (g_12_46 c_542) ?_
    refine v_bp (v := Int32.ofInt 49) mt_216 rfl rfl ?_
    refine v_s mt_216 rfl rfl rfl ?_
    refine j_al (w := J 562 49) mt_216 rfl c_562 ⟨by decide, by decide⟩ (by decide) rfl ?_
    refine v_ic (v := Int32.ofInt 1) mt_216 rfl rfl ?_
    refine j_add (e := (J 562 49) + 1) mt_216 rfl rfl ?_
    refine j_as mt_216 rfl c_562 ⟨by decide, by decide⟩ (by decide) ?_
    refine v_s mt_216 rfl rfl rfl ?_
    refine j_gi (w := J 542 28) 28 mt_216 rfl rfl c_542 (by decide) ((up_na (by decide)).trans rfl) ?_
    obtain ⟨z3, h⟩ := h
    refine j_if1 mt_216 rfl rfl z3 (fun c => ?_) (fun c => ?_)
    · replace h := h.1 c
      refine v_ic (v := Int32.ofInt 0) mt_216 rfl rfl ?_
      refine v_isn (L' := [some (.ref 542), some (iv 0), o2]) mt_216 rfl (Nat.le_of_ble_eq_true rfl) rfl ?_
      refine v_ic (v := Int32.ofInt 0) mt_216 rfl rfl ?_
      refine v_isn (L' := [some (.ref 542), some (iv 0), some (iv 0)]) mt_216 rfl (Nat.le_of_ble_eq_true rfl) rfl ?_
      exact h
    · replace h := h.2 (Int.not_le.mp c)
      refine v_s mt_216 rfl rfl rfl ?_
      refine v_gr (w := 562) 46 mt_216 rfl rfl c_542 (by decide) (g_12_46 c_542) ?_
      refine v_bp (v := Int32.ofInt 49) mt_216 rfl rfl ?_
      refine j_al (w := (J 562 49) + 1) mt_216 rfl c_562 ⟨by decide, by decide⟩ (by decide) (up_eq _ _ _ _) ?_
      refine v_s mt_216 rfl rfl rfl ?_
      refine j_gi (w := J 542 28) 28 mt_216 rfl rfl c_542 (by decide) ((up_na (by decide)).trans rfl) ?_
      obtain ⟨z4, h⟩ := h
      refine j_rem (e := bRem ((J 562 49) + 1) (J 542 28)) mt_216 rfl z3 z4 rfl ?_
      refine j_if1 mt_216 rfl rfl (inT _) (fun c => ?_) (fun c => ?_)
      · replace h := h.1 c
        refine v_ic (v := Int32.ofInt 0) mt_216 rfl rfl ?_
        refine v_isn (L' := [some (.ref 542), some (iv 0), o2]) mt_216 rfl (Nat.le_of_ble_eq_true rfl) rfl ?_
        refine v_ic (v := Int32.ofInt 0) mt_216 rfl rfl ?_
        refine v_isn (L' := [some (.ref 542), some (iv 0), some (iv 0)]) mt_216 rfl (Nat.le_of_ble_eq_true rfl) rfl ?_
        exact h
      · replace h := h.2 (Decidable.not_not.mp c)
        refine v_ic (v := Int32.ofInt 1) mt_216 rfl rfl ?_
        refine v_go mt_216 rfl rfl ?_
        refine v_isn (L' := [some (.ref 542), some (iv 1), o2]) mt_216 rfl (Nat.le_of_ble_eq_true rfl) rfl ?_
        refine v_ic (v := Int32.ofInt 0) mt_216 rfl rfl ?_
        refine v_isn (L' := [some (.ref 542), some (iv 1), some (iv 0)]) mt_216 rfl (Nat.le_of_ble_eq_true rfl) rfl ?_
        exact h
  · replace h := h.2 (Int.not_le.mp c)
    refine v_s mt_216 rfl rfl rfl ?_
    refine v_s mt_216 rfl rfl rfl ?_
    obtain ⟨J1, z5, h⟩ := h
    refine v_call (d1 := 1) mt_216 rfl rfl mt_215 rfl rfl (m_callj (As := [iv x1]) (rest := []) rfl rfl c_542 rfl (Nat.le_of_ble_eq_true rfl) (Nat.le_of_ble_eq_true rfl)) z5 (by clear h; omega) ?_
    refine j_inc (e := x1 + 1) (L' := [some (.ref 542), some (iv (x1 + 1)), o2]) mt_216 rfl rfl (Nat.le_of_ble_eq_true rfl) rfl rfl ?_
    refine v_go mt_216 rfl rfl ?_
    exact h
set_option maxHeartbeats 600000 in
theorem b_216_62 {X : Nat × (Nat → Int32)} {d : Nat} {J : Nat → Nat → Int} {sw : Bool × Bool × Bool} {lg : Nat → Nat → Int64} {x : Nat} {K : (Option Value ⊕ Nat) → mM → Prop} {x1 x2 : Int} (hd : 2 ≤ d)
    (h : InR x2 ∧ InR (J 542 26) ∧ (J 542 26 ≤ x2 → VV X d 216 (105, [some (.ref 542), some (iv x1), some (iv 0)], [], mj J sw lg x) K) ∧ (x2 < J 542 26 → (InR x1 ∧ (x1 = 0 → VV X d 216 (105, [some (.ref 542), some (iv x1), some (iv 0)], [], mj J sw lg x) K) ∧ (¬ x1 = 0 → ((0 ≤ 30 + x2 ∧ 30 + x2 < 50) ∧ ∃ (c2 : Int) (J1 : Nat → Nat → Int), EE X 0 210 [iv ((J 562 ((30 + x2).toNat)) + 1)] (mj J sw lg x) (.inl (some (iv c2))) (mj J1 sw lg x) ∧ VV X d 216 (62, [some (.ref 542), some (iv x1), some (iv (x2 + 1))], [], mj (m_up J1 562 ((30 + x2).toNat) c2) sw lg x) K))))) : VV X d 216 (62, [some (.ref 542), some (iv x1), some (iv x2)], [], mj J sw lg x) K := by
  refine v_s mt_216 rfl rfl rfl ?_
  refine v_s mt_216 rfl rfl rfl ?_
  refine j_gi (w := J 542 26) 26 mt_216 rfl rfl c_542 (by decide) rfl ?_
  obtain ⟨z1, h⟩ := h
  obtain ⟨z2, h⟩ := h
  refine j_if2 mt_216 rfl rfl z1 z2 (fun c => ?_) (fun c => ?_)
  · replace h := h.1 c
    refine v_ic (v := Int32.ofInt 0) mt_216 rfl rfl ?_
    refine v_isn (L' := [some (.ref 542), some (iv x1), some (iv 0)]) mt_216 rfl (Nat.le_of_ble_eq_true rfl) rfl ?_
    exact h
  · replace h := h.2 (Int.not_le.mp c)
    refine v_s mt_216 rfl rfl rfl ?_
    obtain ⟨z3, h⟩ := h
    refine j_if1 mt_216 rfl rfl z3 (fun c => ?_) (fun c => ?_)
    · replace h := h.1 c
      refine v_ic (v := Int32.ofInt 0) mt_216 rfl rfl ?_
      refine v_isn (L' := [some (.ref 542), some (iv x1), some (iv 0)]) mt_216 rfl (Nat.le_of_ble_eq_true rfl) rfl ?_
      exact h
    · replace h := h.2 c
      refine v_s mt_216 rfl rfl rfl ?_
      refine v_gr (w := 562) 46 mt_216 rfl rfl c_542 (by decide) (g_12_46 c_542) ?_
      refine v_bp (v := Int32.ofInt 30) mt_216 rfl rfl ?_
      refine v_s mt_216 rfl rfl rfl ?_
      refine j_add (e := 30 + x2) mt_216 rfl rfl ?_
      refine v_s mt_216 rfl rfl rfl ?_
      refine v_gr (w := 562) 46 mt_216 rfl rfl c_542 (by decide) (g_12_46 c_542) ?_
      refine v_bp (v := Int32.ofInt 30) mt_216 rfl rfl ?_
      refine v_s mt_216 rfl rfl rfl ?_
      refine j_add (e := 30 + x2) mt_216 rfl rfl ?_
      obtain ⟨z4, h⟩ := h
      refine j_al (w := J 562 ((30 + x2).toNat)) mt_216 rfl c_562 z4 (by decide) rfl ?_
      refine v_ic (v := Int32.ofInt 1) mt_216 rfl rfl ?_
      refine j_add (e := (J 562 ((30 + x2).toNat)) + 1) mt_216 rfl rfl ?_
      obtain ⟨c2, J1, z5, h⟩ := h
      refine v_call (d1 := 0) mt_216 rfl rfl mt_210 rfl rfl rfl z5 (by clear h; omega) ?_
      refine j_as mt_216 rfl c_562 z4 (by decide) ?_
      refine j_inc (e := x2 + 1) (L' := [some (.ref 542), some (iv x1), some (iv (x2 + 1))]) mt_216 rfl rfl (Nat.le_of_ble_eq_true rfl) rfl rfl ?_
      refine v_go mt_216 rfl rfl ?_
      exact h
set_option maxHeartbeats 600000 in
theorem b_216_105 {X : Nat × (Nat → Int32)} {d : Nat} {J : Nat → Nat → Int} {sw : Bool × Bool × Bool} {lg : Nat → Nat → Int64} {x : Nat} {K : (Option Value ⊕ Nat) → mM → Prop} {x1 x2 : Int} (hd : 2 ≤ d)
    (h : InR x2 ∧ (6 ≤ x2 → K (.inl none) (mj J sw lg x)) ∧ (x2 < 6 → ((0 ≤ 18 + x2 ∧ 18 + x2 < 50) ∧ VV X d 216 (105, [some (.ref 542), some (iv x1), some (iv (x2 + 1))], [], mj (m_up J 562 ((18 + x2).toNat) 0) sw lg x) K))) : VV X d 216 (105, [some (.ref 542), some (iv x1), some (iv x2)], [], mj J sw lg x) K := by
  refine v_s mt_216 rfl rfl rfl ?_
  refine v_bp (v := Int32.ofInt 6) mt_216 rfl rfl ?_
  obtain ⟨z1, h⟩ := h
  refine j_if2 mt_216 rfl rfl z1 ⟨by decide, by decide⟩ (fun c => ?_) (fun c => ?_)
  · replace h := h.1 c
    exact v_ret mt_216 rfl rfl rfl h
  · replace h := h.2 (Int.not_le.mp c)
    refine v_s mt_216 rfl rfl rfl ?_
    refine v_gr (w := 562) 46 mt_216 rfl rfl c_542 (by decide) (g_12_46 c_542) ?_
    refine v_bp (v := Int32.ofInt 18) mt_216 rfl rfl ?_
    refine v_s mt_216 rfl rfl rfl ?_
    refine j_add (e := 18 + x2) mt_216 rfl rfl ?_
    refine v_ic (v := Int32.ofInt 0) mt_216 rfl rfl ?_
    obtain ⟨z2, h⟩ := h
    refine j_as mt_216 rfl c_562 z2 (by decide) ?_
    refine j_inc (e := x2 + 1) (L' := [some (.ref 542), some (iv x1), some (iv (x2 + 1))]) mt_216 rfl rfl (Nat.le_of_ble_eq_true rfl) rfl rfl ?_
    refine v_go mt_216 rfl rfl ?_
    exact h
set_option maxHeartbeats 600000 in
theorem b_212_0 {X : Nat × (Nat → Int32)} {d : Nat} {J : Nat → Nat → Int} {sw : Bool × Bool × Bool} {lg : Nat → Nat → Int64} {x : Nat} {K : (Option Value ⊕ Nat) → mM → Prop} {x1 x2 x3 : Int} {o4 : Option Value} (hd : 5 ≤ d)
    (h : InR (J 562 48) ∧ (J 562 48 ≤ 0 → K (.inl (some (iv 0))) (mj J sw lg x)) ∧ (0 < J 562 48 → ((0 ≤ x2 ∧ x2 < 50) ∧ (0 ≤ x2 ∧ x2 < 6) ∧ InR (J 562 x2.toNat) ∧ InR (J 549 x2.toNat) ∧ (J 562 x2.toNat < J 549 x2.toNat → ((0 ≤ 18 + x1 ∧ 18 + x1 < 50) ∧ InR (J 562 ((18 + x1).toNat)) ∧ (¬ J 562 ((18 + x1).toNat) = 0 → K (.inl (some (iv 0))) (mj J sw lg x)) ∧ (J 562 ((18 + x1).toNat) = 0 → ((0 ≤ 30 + x3 ∧ 30 + x3 < 50) ∧ InR (J 562 ((30 + x3).toNat)) ∧ (J 562 ((30 + x3).toNat) ≤ 0 → K (.inl (some (iv 0))) (mj J sw lg x)) ∧ (0 < J 562 ((30 + x3).toNat) → (∃ (c2 : Int) (J1 : Nat → Nat → Int), EE X 4 207 [.ref 542, iv x1, iv x2, iv x3] (mj J sw lg x) (.inl (some (iv c2))) (mj J1 sw lg x) ∧ InR (c2 - (J1 562 ((30 + x3).toNat))) ∧ ∀ J3 : Nat → Nat → Int, J3 = m_up J1 562 ((30 + x3).toNat) (if 0 ≤ c2 - (J1 562 ((30 + x3).toNat)) then 0 else -(c2 - (J1 562 ((30 + x3).toNat)))) → (0 ≤ 39 + x3 ∧ 39 + x3 < 50) ∧ ∃ (c5 : Int) (J4 : Nat → Nat → Int), EE X 0 210 [iv ((J3 562 ((39 + x3).toNat)) + (if c2 - (J1 562 ((30 + x3).toNat)) ≤ 0 then 0 else c2 - (J1 562 ((30 + x3).toNat))))] (mj J3 sw lg x) (.inl (some (iv c5))) (mj J4 sw lg x) ∧ ∀ J6 : Nat → Nat → Int, J6 = m_up (m_up J4 562 ((39 + x3).toNat) c5) 562 48 (((m_up J4 562 ((39 + x3).toNat) c5) 562 48) - 1) → (0 ≤ 6 + x2 ∧ 6 + x2 < 50) ∧ (0 ≤ x1 ∧ x1 < 6) ∧ InR (J6 550 x1.toNat) ∧ ∀ J7 : Nat → Nat → Int, J7 = m_up (m_up J6 562 x2.toNat ((J6 562 x2.toNat) + 1)) 562 ((6 + x2).toNat) (((m_up J6 562 x2.toNat ((J6 562 x2.toNat) + 1)) 562 ((6 + x2).toNat)) + (if J6 550 x1.toNat < 5 then 0 else 1)) → (0 ≤ 24 + x1 ∧ 24 + x1 < 50) ∧ ∀ J8 : Nat → Nat → Int, J8 = m_up (m_up J7 562 ((18 + x1).toNat) 1) 562 ((24 + x1).toNat) (((m_up J7 562 ((18 + x1).toNat) 1) 562 ((24 + x1).toNat)) + 1) → K (.inl (some (iv 1))) (mj J8 sw lg x))))))) ∧ (J 549 x2.toNat ≤ J 562 x2.toNat → K (.inl (some (iv 0))) (mj J sw lg x))))) : VV X d 212 (0, [some (.ref 542), some (iv x1), some (iv x2), some (iv x3), o4], [], mj J sw lg x) K := by
  refine v_s mt_212 rfl rfl rfl ?_
  refine v_s mt_212 rfl rfl rfl ?_
  refine v_s mt_212 rfl rfl rfl ?_
  refine v_s mt_212 rfl rfl rfl ?_
  refine v_inl (L1 := [some (.ref 542), some (iv x1), some (iv x2), some (iv x3)]) mt_212 rfl rfl mt_211 rfl rfl (m_callj (As := [iv x1, iv x2, iv x3]) (rest := []) rfl rfl c_542 rfl (Nat.le_of_ble_eq_true rfl) (Nat.le_of_ble_eq_true rfl)) rfl (by clear h; omega) ?_
  refine v_s mt_211 rfl rfl rfl ?_
  refine v_gr (w := 562) 46 mt_211 rfl rfl c_542 (by decide) (g_12_46 c_542) ?_
  refine v_bp (v := Int32.ofInt 48) mt_211 rfl rfl ?_
  refine j_al (w := J 562 48) mt_211 rfl c_562 ⟨by decide, by decide⟩ (by decide) rfl ?_
  obtain ⟨z1, h⟩ := h
  refine j_if1 mt_211 rfl rfl z1 (fun c => ?_) (fun c => ?_)
  · replace h := h.1 c
    refine v_ic (v := Int32.ofInt 0) mt_211 rfl rfl ?_
    refine j_retb mt_211 rfl rfl (by decide) ?_
    refine j_if1 mt_212 rfl rfl ⟨by decide, by decide⟩ (fun c => absurd (show ¬ (0 : Int) = 0 from c) (by decide)) (fun _ => ?_)
    refine v_ic (v := Int32.ofInt 0) mt_212 rfl rfl ?_
    exact j_retb mt_212 rfl rfl (by decide) h
  · replace h := h.2 (Int.not_le.mp c)
    refine v_s mt_211 rfl rfl rfl ?_
    refine v_s mt_211 rfl rfl rfl ?_
    refine v_inl (L1 := [some (.ref 542), some (iv x2)]) mt_211 rfl rfl mt_208 rfl rfl (m_callj (As := [iv x2]) (rest := []) rfl rfl c_542 rfl (Nat.le_of_ble_eq_true rfl) (Nat.le_of_ble_eq_true rfl)) rfl (by clear h; omega) ?_
    refine v_s mt_208 rfl rfl rfl ?_
    refine v_gr (w := 562) 46 mt_208 rfl rfl c_542 (by decide) (g_12_46 c_542) ?_
    refine v_ic (v := Int32.ofInt 0) mt_208 rfl rfl ?_
    refine v_s mt_208 rfl rfl rfl ?_
    refine j_add (e := x2) mt_208 rfl (Int.zero_add _) ?_
    obtain ⟨z2, h⟩ := h
    refine j_al (w := J 562 x2.toNat) mt_208 rfl c_562 z2 (by decide) rfl ?_
    refine v_s mt_208 rfl rfl rfl ?_
    refine v_gr (w := 549) 14 mt_208 rfl rfl c_542 (by decide) (g_12_14 c_542) ?_
    refine v_s mt_208 rfl rfl rfl ?_
    obtain ⟨z3, h⟩ := h
    refine j_al (w := J 549 x2.toNat) mt_208 rfl c_549 z3 (by decide) rfl ?_
    obtain ⟨z4, h⟩ := h
    obtain ⟨z5, h⟩ := h
    refine j_if2 mt_208 rfl rfl z4 z5 (fun c => ?_) (fun c => ?_)
    · replace h := h.1 c
      refine v_ic (v := Int32.ofInt 0) mt_208 rfl rfl ?_
      refine j_retb mt_208 rfl rfl (by decide) ?_
      refine j_if1 mt_211 rfl rfl ⟨by decide, by decide⟩ (fun c => absurd (show ¬ (0 : Int) = 0 from c) (by decide)) (fun _ => ?_)
      refine v_s mt_211 rfl rfl rfl ?_
      refine v_gr (w := 562) 46 mt_211 rfl rfl c_542 (by decide) (g_12_46 c_542) ?_
      refine v_bp (v := Int32.ofInt 18) mt_211 rfl rfl ?_
      refine v_s mt_211 rfl rfl rfl ?_
      refine j_add (e := 18 + x1) mt_211 rfl rfl ?_
      obtain ⟨z6, h⟩ := h
      refine j_al (w := J 562 ((18 + x1).toNat)) mt_211 rfl c_562 z6 (by decide) rfl ?_
      obtain ⟨z7, h⟩ := h
      refine j_if1 mt_211 rfl rfl z7 (fun c => ?_) (fun c => ?_)
      · replace h := h.1 c
        refine v_ic (v := Int32.ofInt 0) mt_211 rfl rfl ?_
        refine j_retb mt_211 rfl rfl (by decide) ?_
        refine j_if1 mt_212 rfl rfl ⟨by decide, by decide⟩ (fun c => absurd (show ¬ (0 : Int) = 0 from c) (by decide)) (fun _ => ?_)
        refine v_ic (v := Int32.ofInt 0) mt_212 rfl rfl ?_
        exact j_retb mt_212 rfl rfl (by decide) h
      · replace h := h.2 (Decidable.not_not.mp c)
        refine v_s mt_211 rfl rfl rfl ?_
        refine v_gr (w := 562) 46 mt_211 rfl rfl c_542 (by decide) (g_12_46 c_542) ?_
        refine v_bp (v := Int32.ofInt 30) mt_211 rfl rfl ?_
        refine v_s mt_211 rfl rfl rfl ?_
        refine j_add (e := 30 + x3) mt_211 rfl rfl ?_
        obtain ⟨z8, h⟩ := h
        refine j_al (w := J 562 ((30 + x3).toNat)) mt_211 rfl c_562 z8 (by decide) rfl ?_
        obtain ⟨z9, h⟩ := h
        refine j_if1 mt_211 rfl rfl z9 (fun c => ?_) (fun c => ?_)
        · replace h := h.1 c
          refine v_ic (v := Int32.ofInt 0) mt_211 rfl rfl ?_
          refine j_retb mt_211 rfl rfl (by decide) ?_
          refine j_if1 mt_212 rfl rfl ⟨by decide, by decide⟩ (fun c => absurd (show ¬ (0 : Int) = 0 from c) (by decide)) (fun _ => ?_)
          refine v_ic (v := Int32.ofInt 0) mt_212 rfl rfl ?_
          exact j_retb mt_212 rfl rfl (by decide) h
        · replace h := h.2 (Int.not_le.mp c)
          refine v_ic (v := Int32.ofInt 1) mt_211 rfl rfl ?_
          refine v_go mt_211 rfl rfl ?_
          refine j_retb mt_211 rfl rfl (by decide) ?_
          refine j_if1 mt_212 rfl rfl ⟨by decide, by decide⟩ (fun _ => ?_) (fun c => (c (show ¬ (1 : Int) = 0 by decide)).elim)
          refine v_s mt_212 rfl rfl rfl ?_
          refine v_s mt_212 rfl rfl rfl ?_
          refine v_s mt_212 rfl rfl rfl ?_
          refine v_s mt_212 rfl rfl rfl ?_
          obtain ⟨c2, J1, z10, h⟩ := h
          refine v_call (d1 := 4) mt_212 rfl rfl mt_207 rfl rfl (m_callj (As := [iv x1, iv x2, iv x3]) (rest := []) rfl rfl c_542 rfl (Nat.le_of_ble_eq_true rfl) (Nat.le_of_ble_eq_true rfl)) z10 (by clear h; omega) ?_
          refine v_s mt_212 rfl rfl rfl ?_
          refine v_gr (w := 562) 46 mt_212 rfl rfl c_542 (by decide) (g_12_46 c_542) ?_
          refine v_bp (v := Int32.ofInt 30) mt_212 rfl rfl ?_
          refine v_s mt_212 rfl rfl rfl ?_
          refine j_add (e := 30 + x3) mt_212 rfl rfl ?_
          refine j_al (w := J1 562 ((30 + x3).toNat)) mt_212 rfl c_562 z8 (by decide) rfl ?_
          refine j_sub (e := c2 - (J1 562 ((30 + x3).toNat))) mt_212 rfl rfl ?_
          refine v_is (L' := [some (.ref 542), some (iv x1), some (iv x2), some (iv x3), some (iv (c2 - (J1 562 ((30 + x3).toNat))))]) mt_212 rfl (Nat.le_of_ble_eq_true rfl) rfl ?_
          refine v_s mt_212 rfl rfl rfl ?_
          refine v_gr (w := 562) 46 mt_212 rfl rfl c_542 (by decide) (g_12_46 c_542) ?_
          refine v_bp (v := Int32.ofInt 30) mt_212 rfl rfl ?_
          refine v_s mt_212 rfl rfl rfl ?_
          refine j_add (e := 30 + x3) mt_212 rfl rfl ?_
          refine v_s mt_212 rfl rfl rfl ?_
          obtain ⟨z11, h⟩ := h
          have hj : VV X d 212 (51, [some (.ref 542), some (iv x1), some (iv x2), some (iv x3), some (iv (c2 - (J1 562 ((30 + x3).toNat))))], [iv (if 0 ≤ c2 - (J1 562 ((30 + x3).toNat)) then 0 else -(c2 - (J1 562 ((30 + x3).toNat)))), iv (30 + x3), .ref 562], mj J1 sw lg x) K := by
            refine j_as mt_212 rfl c_562 z8 (by decide) ?_
            change VV X d 212 (52, [some (.ref 542), some (iv x1), some (iv x2), some (iv x3), some (iv (c2 - (J1 562 ((30 + x3).toNat))))], [], mj (m_up J1 562 ((30 + x3).toNat) (if 0 ≤ c2 - (J1 562 ((30 + x3).toNat)) then 0 else -(c2 - (J1 562 ((30 + x3).toNat))))) sw lg x) _
            generalize eJ3 : m_up J1 562 ((30 + x3).toNat) (if 0 ≤ c2 - (J1 562 ((30 + x3).toNat)) then 0 else -(c2 - (J1 562 ((30 + x3).toNat)))) = J3
            replace h := h J3 eJ3.symm
            refine v_s mt_212 rfl rfl rfl ?_
            refine v_gr (w := 562) 46 mt_212 rfl rfl c_542 (by decide) (g_12_46 c_542) ?_
            refine v_bp (v := Int32.ofInt 39) mt_212 rfl rfl ?_
            refine v_s mt_212 rfl rfl rfl ?_
            refine j_add (e := 39 + x3) mt_212 rfl rfl ?_
            refine v_s mt_212 rfl rfl rfl ?_
            refine v_gr (w := 562) 46 mt_212 rfl rfl c_542 (by decide) (g_12_46 c_542) ?_
            refine v_bp (v := Int32.ofInt 39) mt_212 rfl rfl ?_
            refine v_s mt_212 rfl rfl rfl ?_
            refine j_add (e := 39 + x3) mt_212 rfl rfl ?_
            obtain ⟨z12, h⟩ := h
            refine j_al (w := J3 562 ((39 + x3).toNat)) mt_212 rfl c_562 z12 (by decide) rfl ?_
            refine v_s mt_212 rfl rfl rfl ?_
            have hj : VV X d 212 (80, [some (.ref 542), some (iv x1), some (iv x2), some (iv x3), some (iv (c2 - (J1 562 ((30 + x3).toNat))))], [iv (if c2 - (J1 562 ((30 + x3).toNat)) ≤ 0 then 0 else c2 - (J1 562 ((30 + x3).toNat))), iv (J3 562 ((39 + x3).toNat)), iv (39 + x3), .ref 562], mj J3 sw lg x) K := by
              refine j_add (e := (J3 562 ((39 + x3).toNat)) + (if c2 - (J1 562 ((30 + x3).toNat)) ≤ 0 then 0 else c2 - (J1 562 ((30 + x3).toNat)))) mt_212 rfl rfl ?_
              obtain ⟨c5, J4, z13, h⟩ := h
              refine v_call (d1 := 0) mt_212 rfl rfl mt_210 rfl rfl rfl z13 (by clear h; omega) ?_
              refine j_as mt_212 rfl c_562 z12 (by decide) ?_
              refine v_s mt_212 rfl rfl rfl ?_
              refine v_gr (w := 562) 46 mt_212 rfl rfl c_542 (by decide) (g_12_46 c_542) ?_
              refine v_bp (v := Int32.ofInt 48) mt_212 rfl rfl ?_
              refine v_s mt_212 rfl rfl rfl ?_
              refine j_al (w := (m_up J4 562 ((39 + x3).toNat) c5) 562 48) mt_212 rfl c_562 ⟨by decide, by decide⟩ (by decide) rfl ?_
              refine v_ic (v := Int32.ofInt 1) mt_212 rfl rfl ?_
              refine j_sub (e := ((m_up J4 562 ((39 + x3).toNat) c5) 562 48) - 1) mt_212 rfl rfl ?_
              refine j_as mt_212 rfl c_562 ⟨by decide, by decide⟩ (by decide) ?_
              change VV X d 212 (96, [some (.ref 542), some (iv x1), some (iv x2), some (iv x3), some (iv (c2 - (J1 562 ((30 + x3).toNat))))], [], mj (m_up (m_up J4 562 ((39 + x3).toNat) c5) 562 48 (((m_up J4 562 ((39 + x3).toNat) c5) 562 48) - 1)) sw lg x) _
              generalize eJ6 : m_up (m_up J4 562 ((39 + x3).toNat) c5) 562 48 (((m_up J4 562 ((39 + x3).toNat) c5) 562 48) - 1) = J6
              replace h := h J6 eJ6.symm
              refine v_s mt_212 rfl rfl rfl ?_
              refine v_gr (w := 562) 46 mt_212 rfl rfl c_542 (by decide) (g_12_46 c_542) ?_
              refine v_ic (v := Int32.ofInt 0) mt_212 rfl rfl ?_
              refine v_s mt_212 rfl rfl rfl ?_
              refine j_add (e := x2) mt_212 rfl (Int.zero_add _) ?_
              refine v_s mt_212 rfl rfl rfl ?_
              refine j_al (w := J6 562 x2.toNat) mt_212 rfl c_562 z2 (by decide) rfl ?_
              refine v_ic (v := Int32.ofInt 1) mt_212 rfl rfl ?_
              refine j_add (e := (J6 562 x2.toNat) + 1) mt_212 rfl rfl ?_
              refine j_as mt_212 rfl c_562 z2 (by decide) ?_
              refine v_s mt_212 rfl rfl rfl ?_
              refine v_gr (w := 562) 46 mt_212 rfl rfl c_542 (by decide) (g_12_46 c_542) ?_
              refine v_bp (v := Int32.ofInt 6) mt_212 rfl rfl ?_
              refine v_s mt_212 rfl rfl rfl ?_
              refine j_add (e := 6 + x2) mt_212 rfl rfl ?_
              refine v_s mt_212 rfl rfl rfl ?_
              obtain ⟨z14, h⟩ := h
              refine j_al (w := (m_up J6 562 x2.toNat ((J6 562 x2.toNat) + 1)) 562 ((6 + x2).toNat)) mt_212 rfl c_562 z14 (by decide) rfl ?_
              refine v_s mt_212 rfl rfl rfl ?_
              refine v_gr (w := 550) 15 mt_212 rfl rfl c_542 (by decide) (g_12_15 c_542) ?_
              refine v_s mt_212 rfl rfl rfl ?_
              obtain ⟨z15, h⟩ := h
              refine j_al (w := J6 550 x1.toNat) mt_212 rfl c_550 z15 (by decide) ((up_na (by decide)).trans rfl) ?_
              refine v_ic (v := Int32.ofInt 5) mt_212 rfl rfl ?_
              obtain ⟨z16, h⟩ := h
              have hj : VV X d 212 (133, [some (.ref 542), some (iv x1), some (iv x2), some (iv x3), some (iv (c2 - (J1 562 ((30 + x3).toNat))))], [iv (if J6 550 x1.toNat < 5 then 0 else 1), iv ((m_up J6 562 x2.toNat ((J6 562 x2.toNat) + 1)) 562 ((6 + x2).toNat)), iv (6 + x2), .ref 562], mj (m_up J6 562 x2.toNat ((J6 562 x2.toNat) + 1)) sw lg x) K := by
                refine j_add (e := ((m_up J6 562 x2.toNat ((J6 562 x2.toNat) + 1)) 562 ((6 + x2).toNat)) + (if J6 550 x1.toNat < 5 then 0 else 1)) mt_212 rfl rfl ?_
                refine j_as mt_212 rfl c_562 z14 (by decide) ?_
                change VV X d 212 (135, [some (.ref 542), some (iv x1), some (iv x2), some (iv x3), some (iv (c2 - (J1 562 ((30 + x3).toNat))))], [], mj (m_up (m_up J6 562 x2.toNat ((J6 562 x2.toNat) + 1)) 562 ((6 + x2).toNat) (((m_up J6 562 x2.toNat ((J6 562 x2.toNat) + 1)) 562 ((6 + x2).toNat)) + (if J6 550 x1.toNat < 5 then 0 else 1))) sw lg x) _
                generalize eJ7 : m_up (m_up J6 562 x2.toNat ((J6 562 x2.toNat) + 1)) 562 ((6 + x2).toNat) (((m_up J6 562 x2.toNat ((J6 562 x2.toNat) + 1)) 562 ((6 + x2).toNat)) + (if J6 550 x1.toNat < 5 then 0 else 1)) = J7
                replace h := h J7 eJ7.symm
                refine v_s mt_212 rfl rfl rfl ?_
                refine v_gr (w := 562) 46 mt_212 rfl rfl c_542 (by decide) (g_12_46 c_542) ?_
                refine v_bp (v := Int32.ofInt 18) mt_212 rfl rfl ?_
                refine v_s mt_212 rfl rfl rfl ?_
                refine j_add (e := 18 + x1) mt_212 rfl rfl ?_
                refine v_ic (v := Int32.ofInt 1) mt_212 rfl rfl ?_
                refine j_as mt_212 rfl c_562 z6 (by decide) ?_
                refine v_s mt_212 rfl rfl rfl ?_
                refine v_gr (w := 562) 46 mt_212 rfl rfl c_542 (by decide) (g_12_46 c_542) ?_
                refine v_bp (v := Int32.ofInt 24) mt_212 rfl rfl ?_
                refine v_s mt_212 rfl rfl rfl ?_
                refine j_add (e := 24 + x1) mt_212 rfl rfl ?_
                refine v_s mt_212 rfl rfl rfl ?_
                obtain ⟨z17, h⟩ := h
                refine j_al (w := (m_up J7 562 ((18 + x1).toNat) 1) 562 ((24 + x1).toNat)) mt_212 rfl c_562 z17 (by decide) rfl ?_
                refine v_ic (v := Int32.ofInt 1) mt_212 rfl rfl ?_
                refine j_add (e := ((m_up J7 562 ((18 + x1).toNat) 1) 562 ((24 + x1).toNat)) + 1) mt_212 rfl rfl ?_
                refine j_as mt_212 rfl c_562 z17 (by decide) ?_
                change VV X d 212 (158, [some (.ref 542), some (iv x1), some (iv x2), some (iv x3), some (iv (c2 - (J1 562 ((30 + x3).toNat))))], [], mj (m_up (m_up J7 562 ((18 + x1).toNat) 1) 562 ((24 + x1).toNat) (((m_up J7 562 ((18 + x1).toNat) 1) 562 ((24 + x1).toNat)) + 1)) sw lg x) _
                generalize eJ8 : m_up (m_up J7 562 ((18 + x1).toNat) 1) 562 ((24 + x1).toNat) (((m_up J7 562 ((18 + x1).toNat) 1) 562 ((24 + x1).toNat)) + 1) = J8
                replace h := h J8 eJ8.symm
                refine v_ic (v := Int32.ofInt 1) mt_212 rfl rfl ?_
                exact j_retb mt_212 rfl rfl (by decide) h
              refine j_if2 mt_212 rfl rfl z16 ⟨by decide, by decide⟩ (fun c => ?_) (fun c => ?_)
              · rw [if_pos (show J6 550 x1.toNat < 5 from c)] at hj
                refine v_ic (v := Int32.ofInt 0) mt_212 rfl rfl ?_
                exact hj
              · rw [if_neg (show ¬ (J6 550 x1.toNat < 5) from c)] at hj
                refine v_ic (v := Int32.ofInt 1) mt_212 rfl rfl ?_
                refine v_go mt_212 rfl rfl ?_
                exact hj
            refine j_if1 mt_212 rfl rfl z11 (fun c => ?_) (fun c => ?_)
            · rw [if_pos (show c2 - (J1 562 ((30 + x3).toNat)) ≤ 0 from c)] at hj
              refine v_ic (v := Int32.ofInt 0) mt_212 rfl rfl ?_
              exact hj
            · rw [if_neg (show ¬ (c2 - (J1 562 ((30 + x3).toNat)) ≤ 0) from c)] at hj
              refine v_s mt_212 rfl rfl rfl ?_
              refine v_go mt_212 rfl rfl ?_
              exact hj
          refine j_if1 mt_212 rfl rfl z11 (fun c => ?_) (fun c => ?_)
          · rw [if_pos (show 0 ≤ c2 - (J1 562 ((30 + x3).toNat)) from c)] at hj
            refine v_ic (v := Int32.ofInt 0) mt_212 rfl rfl ?_
            exact hj
          · rw [if_neg (show ¬ (0 ≤ c2 - (J1 562 ((30 + x3).toNat))) from c)] at hj
            refine v_s mt_212 rfl rfl rfl ?_
            refine j_neg (e := -(c2 - (J1 562 ((30 + x3).toNat)))) mt_212 rfl rfl ?_
            refine v_go mt_212 rfl rfl ?_
            exact hj
    · replace h := h.2 (Int.not_lt.mp c)
      refine v_ic (v := Int32.ofInt 1) mt_208 rfl rfl ?_
      refine v_go mt_208 rfl rfl ?_
      refine j_retb mt_208 rfl rfl (by decide) ?_
      refine j_if1 mt_211 rfl rfl ⟨by decide, by decide⟩ (fun _ => ?_) (fun c => (c (show ¬ (1 : Int) = 0 by decide)).elim)
      refine v_ic (v := Int32.ofInt 0) mt_211 rfl rfl ?_
      refine j_retb mt_211 rfl rfl (by decide) ?_
      refine j_if1 mt_212 rfl rfl ⟨by decide, by decide⟩ (fun c => absurd (show ¬ (0 : Int) = 0 from c) (by decide)) (fun _ => ?_)
      refine v_ic (v := Int32.ofInt 0) mt_212 rfl rfl ?_
      exact j_retb mt_212 rfl rfl (by decide) h
set_option maxHeartbeats 600000 in
theorem b_213_0 {X : Nat × (Nat → Int32)} {d : Nat} {J : Nat → Nat → Int} {sw : Bool × Bool × Bool} {lg : Nat → Nat → Int64} {x : Nat} {K : (Option Value ⊕ Nat) → mM → Prop} {x1 x2 : Int} (hd : 1 ≤ d)
    (h : (0 ≤ x1 ∧ x1 < 50) ∧ (0 ≤ x1 ∧ x1 < 6) ∧ InR (J 562 x1.toNat) ∧ InR (J 549 x1.toNat) ∧ (J 562 x1.toNat < J 549 x1.toNat → K (.inl (some (iv 0))) (mj J sw lg x)) ∧ (J 549 x1.toNat ≤ J 562 x1.toNat → ((0 ≤ 12 + x1 ∧ 12 + x1 < 50) ∧ InR (J 562 ((12 + x1).toNat)) ∧ InR x2 ∧ (¬ J 562 ((12 + x1).toNat) = x2 → K (.inl (some (iv 1))) (mj (m_up J 562 ((12 + x1).toNat) x2) sw lg x)) ∧ (J 562 ((12 + x1).toNat) = x2 → K (.inl (some (iv 0))) (mj J sw lg x))))) : VV X d 213 (0, [some (.ref 542), some (iv x1), some (iv x2)], [], mj J sw lg x) K := by
  refine v_s mt_213 rfl rfl rfl ?_
  refine v_s mt_213 rfl rfl rfl ?_
  refine v_inl (L1 := [some (.ref 542), some (iv x1)]) mt_213 rfl rfl mt_208 rfl rfl (m_callj (As := [iv x1]) (rest := []) rfl rfl c_542 rfl (Nat.le_of_ble_eq_true rfl) (Nat.le_of_ble_eq_true rfl)) rfl (by clear h; omega) ?_
  refine v_s mt_208 rfl rfl rfl ?_
  refine v_gr (w := 562) 46 mt_208 rfl rfl c_542 (by decide) (g_12_46 c_542) ?_
  refine v_ic (v := Int32.ofInt 0) mt_208 rfl rfl ?_
  refine v_s mt_208 rfl rfl rfl ?_
  refine j_add (e := x1) mt_208 rfl (Int.zero_add _) ?_
  obtain ⟨z1, h⟩ := h
  refine j_al (w := J 562 x1.toNat) mt_208 rfl c_562 z1 (by decide) rfl ?_
  refine v_s mt_208 rfl rfl rfl ?_
  refine v_gr (w := 549) 14 mt_208 rfl rfl c_542 (by decide) (g_12_14 c_542) ?_
  refine v_s mt_208 rfl rfl rfl ?_
  obtain ⟨z2, h⟩ := h
  refine j_al (w := J 549 x1.toNat) mt_208 rfl c_549 z2 (by decide) rfl ?_
  obtain ⟨z3, h⟩ := h
  obtain ⟨z4, h⟩ := h
  refine j_if2 mt_208 rfl rfl z3 z4 (fun c => ?_) (fun c => ?_)
  · replace h := h.1 c
    refine v_ic (v := Int32.ofInt 0) mt_208 rfl rfl ?_
    refine j_retb mt_208 rfl rfl (by decide) ?_
    refine j_if1 mt_213 rfl rfl ⟨by decide, by decide⟩ (fun _ => ?_) (fun c => (c (show (0 : Int) = 0 by decide)).elim)
    refine v_ic (v := Int32.ofInt 0) mt_213 rfl rfl ?_
    exact j_retb mt_213 rfl rfl (by decide) h
  · replace h := h.2 (Int.not_lt.mp c)
    refine v_ic (v := Int32.ofInt 1) mt_208 rfl rfl ?_
    refine v_go mt_208 rfl rfl ?_
    refine j_retb mt_208 rfl rfl (by decide) ?_
    refine j_if1 mt_213 rfl rfl ⟨by decide, by decide⟩ (fun c => absurd (show (1 : Int) = 0 from c) (by decide)) (fun _ => ?_)
    refine v_s mt_213 rfl rfl rfl ?_
    refine v_gr (w := 562) 46 mt_213 rfl rfl c_542 (by decide) (g_12_46 c_542) ?_
    refine v_bp (v := Int32.ofInt 12) mt_213 rfl rfl ?_
    refine v_s mt_213 rfl rfl rfl ?_
    refine j_add (e := 12 + x1) mt_213 rfl rfl ?_
    obtain ⟨z5, h⟩ := h
    refine j_al (w := J 562 ((12 + x1).toNat)) mt_213 rfl c_562 z5 (by decide) rfl ?_
    refine v_s mt_213 rfl rfl rfl ?_
    obtain ⟨z6, h⟩ := h
    obtain ⟨z7, h⟩ := h
    refine j_if2 mt_213 rfl rfl z6 z7 (fun c => ?_) (fun c => ?_)
    · replace h := h.1 c
      refine v_s mt_213 rfl rfl rfl ?_
      refine v_gr (w := 562) 46 mt_213 rfl rfl c_542 (by decide) (g_12_46 c_542) ?_
      refine v_bp (v := Int32.ofInt 12) mt_213 rfl rfl ?_
      refine v_s mt_213 rfl rfl rfl ?_
      refine j_add (e := 12 + x1) mt_213 rfl rfl ?_
      refine v_s mt_213 rfl rfl rfl ?_
      refine j_as mt_213 rfl c_562 z5 (by decide) ?_
      refine v_ic (v := Int32.ofInt 1) mt_213 rfl rfl ?_
      exact j_retb mt_213 rfl rfl (by decide) h
    · replace h := h.2 (Decidable.not_not.mp c)
      refine v_ic (v := Int32.ofInt 0) mt_213 rfl rfl ?_
      exact j_retb mt_213 rfl rfl (by decide) h
set_option maxHeartbeats 600000 in
theorem b_214_0 {X : Nat × (Nat → Int32)} {d : Nat} {J : Nat → Nat → Int} {sw : Bool × Bool × Bool} {lg : Nat → Nat → Int64} {x : Nat} {K : (Option Value ⊕ Nat) → mM → Prop} {x1 : Int} {o2 : Option Value} (hd : 1 ≤ d)
    (h : (0 ≤ 39 + x1 ∧ 39 + x1 < 50) ∧ InR (J 562 ((39 + x1).toNat)) ∧ (¬ J 562 ((39 + x1).toNat) = 0 → ((0 ≤ 30 + x1 ∧ 30 + x1 < 50) ∧ ∃ (c2 : Int) (J1 : Nat → Nat → Int), EE X 0 210 [iv ((J 562 ((30 + x1).toNat)) + (J 562 ((39 + x1).toNat)))] (mj J sw lg x) (.inl (some (iv c2))) (mj J1 sw lg x) ∧ ∃ (c4 : Int) (J3 : Nat → Nat → Int), EE X 0 210 [iv (((m_up (m_up J1 562 ((30 + x1).toNat) c2) 562 ((39 + x1).toNat) 0) 562 48) + (bDiv (J 562 ((39 + x1).toNat)) 2))] (mj (m_up (m_up J1 562 ((30 + x1).toNat) c2) 562 ((39 + x1).toNat) 0) sw lg x) (.inl (some (iv c4))) (mj J3 sw lg x) ∧ K (.inl (some (iv 1))) (mj (m_up J3 562 48 c4) sw lg x))) ∧ (J 562 ((39 + x1).toNat) = 0 → K (.inl (some (iv 0))) (mj J sw lg x))) : VV X d 214 (0, [some (.ref 542), some (iv x1), o2], [], mj J sw lg x) K := by
  refine v_s mt_214 rfl rfl rfl ?_
  refine v_gr (w := 562) 46 mt_214 rfl rfl c_542 (by decide) (g_12_46 c_542) ?_
  refine v_bp (v := Int32.ofInt 39) mt_214 rfl rfl ?_
  refine v_s mt_214 rfl rfl rfl ?_
  refine j_add (e := 39 + x1) mt_214 rfl rfl ?_
  obtain ⟨z1, h⟩ := h
  refine j_al (w := J 562 ((39 + x1).toNat)) mt_214 rfl c_562 z1 (by decide) rfl ?_
  refine v_isn (L' := [some (.ref 542), some (iv x1), some (iv (J 562 ((39 + x1).toNat)))]) mt_214 rfl (Nat.le_of_ble_eq_true rfl) rfl ?_
  refine v_s mt_214 rfl rfl rfl ?_
  obtain ⟨z2, h⟩ := h
  refine j_if1 mt_214 rfl rfl z2 (fun c => ?_) (fun c => ?_)
  · replace h := h.1 c
    refine v_s mt_214 rfl rfl rfl ?_
    refine v_gr (w := 562) 46 mt_214 rfl rfl c_542 (by decide) (g_12_46 c_542) ?_
    refine v_bp (v := Int32.ofInt 30) mt_214 rfl rfl ?_
    refine v_s mt_214 rfl rfl rfl ?_
    refine j_add (e := 30 + x1) mt_214 rfl rfl ?_
    refine v_s mt_214 rfl rfl rfl ?_
    refine v_gr (w := 562) 46 mt_214 rfl rfl c_542 (by decide) (g_12_46 c_542) ?_
    refine v_bp (v := Int32.ofInt 30) mt_214 rfl rfl ?_
    refine v_s mt_214 rfl rfl rfl ?_
    refine j_add (e := 30 + x1) mt_214 rfl rfl ?_
    obtain ⟨z3, h⟩ := h
    refine j_al (w := J 562 ((30 + x1).toNat)) mt_214 rfl c_562 z3 (by decide) rfl ?_
    refine v_s mt_214 rfl rfl rfl ?_
    refine j_add (e := (J 562 ((30 + x1).toNat)) + (J 562 ((39 + x1).toNat))) mt_214 rfl rfl ?_
    obtain ⟨c2, J1, z4, h⟩ := h
    refine v_call (d1 := 0) mt_214 rfl rfl mt_210 rfl rfl rfl z4 (by clear h; omega) ?_
    refine j_as mt_214 rfl c_562 z3 (by decide) ?_
    refine v_s mt_214 rfl rfl rfl ?_
    refine v_gr (w := 562) 46 mt_214 rfl rfl c_542 (by decide) (g_12_46 c_542) ?_
    refine v_bp (v := Int32.ofInt 39) mt_214 rfl rfl ?_
    refine v_s mt_214 rfl rfl rfl ?_
    refine j_add (e := 39 + x1) mt_214 rfl rfl ?_
    refine v_ic (v := Int32.ofInt 0) mt_214 rfl rfl ?_
    refine j_as mt_214 rfl c_562 z1 (by decide) ?_
    refine v_s mt_214 rfl rfl rfl ?_
    refine v_gr (w := 562) 46 mt_214 rfl rfl c_542 (by decide) (g_12_46 c_542) ?_
    refine v_bp (v := Int32.ofInt 48) mt_214 rfl rfl ?_
    refine v_s mt_214 rfl rfl rfl ?_
    refine v_gr (w := 562) 46 mt_214 rfl rfl c_542 (by decide) (g_12_46 c_542) ?_
    refine v_bp (v := Int32.ofInt 48) mt_214 rfl rfl ?_
    refine j_al (w := (m_up (m_up J1 562 ((30 + x1).toNat) c2) 562 ((39 + x1).toNat) 0) 562 48) mt_214 rfl c_562 ⟨by decide, by decide⟩ (by decide) rfl ?_
    refine v_s mt_214 rfl rfl rfl ?_
    refine v_ic (v := Int32.ofInt 2) mt_214 rfl rfl ?_
    refine j_div (e := bDiv (J 562 ((39 + x1).toNat)) 2) mt_214 rfl ⟨by decide, by decide⟩ (by decide) rfl ?_
    refine j_add (e := ((m_up (m_up J1 562 ((30 + x1).toNat) c2) 562 ((39 + x1).toNat) 0) 562 48) + (bDiv (J 562 ((39 + x1).toNat)) 2)) mt_214 rfl rfl ?_
    obtain ⟨c4, J3, z5, h⟩ := h
    refine v_call (d1 := 0) mt_214 rfl rfl mt_210 rfl rfl rfl z5 (by clear h; omega) ?_
    refine j_as mt_214 rfl c_562 ⟨by decide, by decide⟩ (by decide) ?_
    refine v_ic (v := Int32.ofInt 1) mt_214 rfl rfl ?_
    exact j_retb mt_214 rfl rfl (by decide) h
  · replace h := h.2 (Decidable.not_not.mp c)
    refine v_ic (v := Int32.ofInt 0) mt_214 rfl rfl ?_
    exact j_retb mt_214 rfl rfl (by decide) h
set_option maxHeartbeats 600000 in
theorem b_217_0 {X : Nat × (Nat → Int32)} {d : Nat} {J : Nat → Nat → Int} {sw : Bool × Bool × Bool} {lg : Nat → Nat → Int64} {x : Nat} {K : (Option Value ⊕ Nat) → mM → Prop} {x1 x2 x3 x4 : Int} (hd : 6 ≤ d)
    (h : InR x1 ∧ (¬ x1 = 0 → ((¬ x1 = 1 → ((¬ x1 = 3 → ((¬ x1 = 2 → ((¬ x1 = 4 → (InR (J 562 49) ∧ (¬ J 562 49 = 600 → (∃ (J1 : Nat → Nat → Int), EE X 2 216 [.ref 542] (mj J sw lg x) (.inl none) (mj J1 sw lg x) ∧ K (.inl (some (iv 1))) (mj J1 sw lg x))) ∧ (J 562 49 = 600 → K (.inl (some (iv 0))) (mj J sw lg x)))) ∧ (x1 = 4 → (InR (J 562 48) ∧ (¬ J 562 48 = 99 → (∃ (c3 : Int) (J2 : Nat → Nat → Int), EE X 0 210 [iv ((J 562 48) + x2)] (mj J sw lg x) (.inl (some (iv c3))) (mj J2 sw lg x) ∧ K (.inl (some (iv 1))) (mj (m_up J2 562 48 c3) sw lg x))) ∧ (J 562 48 = 99 → K (.inl (some (iv 0))) (mj J sw lg x)))))) ∧ (x1 = 2 → ((0 ≤ 12 + x2 ∧ 12 + x2 < 50) ∧ InR (J 562 ((12 + x2).toNat)) ∧ (¬ J 562 ((12 + x2).toNat) = (-1) → K (.inl (some (iv 1))) (mj (m_up J 562 ((12 + x2).toNat) (-1)) sw lg x)) ∧ (J 562 ((12 + x2).toNat) = (-1) → K (.inl (some (iv 0))) (mj J sw lg x)))))) ∧ (x1 = 3 → (∃ (c5 : Int) (J4 : Nat → Nat → Int), EE X 1 214 [.ref 542, iv x2] (mj J sw lg x) (.inl (some (iv c5))) (mj J4 sw lg x) ∧ (c5 = 0 ∨ c5 = 1) ∧ K (.inl (some (iv c5))) (mj J4 sw lg x))))) ∧ (x1 = 1 → (∃ (c7 : Int) (J6 : Nat → Nat → Int), EE X 1 213 [.ref 542, iv x2, iv x3] (mj J sw lg x) (.inl (some (iv c7))) (mj J6 sw lg x) ∧ (c7 = 0 ∨ c7 = 1) ∧ K (.inl (some (iv c7))) (mj J6 sw lg x))))) ∧ (x1 = 0 → (∃ (c9 : Int) (J8 : Nat → Nat → Int), EE X 5 212 [.ref 542, iv x2, iv x3, iv x4] (mj J sw lg x) (.inl (some (iv c9))) (mj J8 sw lg x) ∧ (c9 = 0 ∨ c9 = 1) ∧ K (.inl (some (iv c9))) (mj J8 sw lg x)))) : VV X d 217 (0, [some (.ref 542), some (iv x1), some (iv x2), some (iv x3), some (iv x4)], [], mj J sw lg x) K := by
  refine v_s mt_217 rfl rfl rfl ?_
  obtain ⟨z1, h⟩ := h
  refine j_if1 mt_217 rfl rfl z1 (fun c => ?_) (fun c => ?_)
  · replace h := h.1 c
    refine v_s mt_217 rfl rfl rfl ?_
    refine v_ic (v := Int32.ofInt 1) mt_217 rfl rfl ?_
    refine j_if2 mt_217 rfl rfl z1 ⟨by decide, by decide⟩ (fun c => ?_) (fun c => ?_)
    · replace h := h.1 c
      refine v_s mt_217 rfl rfl rfl ?_
      refine v_ic (v := Int32.ofInt 3) mt_217 rfl rfl ?_
      refine j_if2 mt_217 rfl rfl z1 ⟨by decide, by decide⟩ (fun c => ?_) (fun c => ?_)
      · replace h := h.1 c
        refine v_s mt_217 rfl rfl rfl ?_
        refine v_ic (v := Int32.ofInt 2) mt_217 rfl rfl ?_
        refine j_if2 mt_217 rfl rfl z1 ⟨by decide, by decide⟩ (fun c => ?_) (fun c => ?_)
        · replace h := h.1 c
          refine v_s mt_217 rfl rfl rfl ?_
          refine v_ic (v := Int32.ofInt 4) mt_217 rfl rfl ?_
          refine j_if2 mt_217 rfl rfl z1 ⟨by decide, by decide⟩ (fun c => ?_) (fun c => ?_)
          · replace h := h.1 c
            refine v_s mt_217 rfl rfl rfl ?_
            refine v_gr (w := 562) 46 mt_217 rfl rfl c_542 (by decide) (g_12_46 c_542) ?_
            refine v_bp (v := Int32.ofInt 49) mt_217 rfl rfl ?_
            refine j_al (w := J 562 49) mt_217 rfl c_562 ⟨by decide, by decide⟩ (by decide) rfl ?_
            refine v_sp (v := Int32.ofInt 600) mt_217 rfl rfl ?_
            obtain ⟨z2, h⟩ := h
            refine j_if2 mt_217 rfl rfl z2 ⟨by decide, by decide⟩ (fun c => ?_) (fun c => ?_)
            · replace h := h.1 c
              refine v_s mt_217 rfl rfl rfl ?_
              obtain ⟨J1, z3, h⟩ := h
              refine v_call (d1 := 2) mt_217 rfl rfl mt_216 rfl rfl (m_callj (As := []) (rest := []) rfl rfl c_542 rfl (Nat.le_of_ble_eq_true rfl) (Nat.le_of_ble_eq_true rfl)) z3 (by clear h; omega) ?_
              refine v_ic (v := Int32.ofInt 1) mt_217 rfl rfl ?_
              exact j_retb mt_217 rfl rfl (by decide) h
            · replace h := h.2 (Decidable.not_not.mp c)
              refine v_ic (v := Int32.ofInt 0) mt_217 rfl rfl ?_
              exact j_retb mt_217 rfl rfl (by decide) h
          · replace h := h.2 (Decidable.not_not.mp c)
            refine v_s mt_217 rfl rfl rfl ?_
            refine v_gr (w := 562) 46 mt_217 rfl rfl c_542 (by decide) (g_12_46 c_542) ?_
            refine v_bp (v := Int32.ofInt 48) mt_217 rfl rfl ?_
            refine j_al (w := J 562 48) mt_217 rfl c_562 ⟨by decide, by decide⟩ (by decide) rfl ?_
            refine v_bp (v := Int32.ofInt 99) mt_217 rfl rfl ?_
            obtain ⟨z4, h⟩ := h
            refine j_if2 mt_217 rfl rfl z4 ⟨by decide, by decide⟩ (fun c => ?_) (fun c => ?_)
            · replace h := h.1 c
              refine v_s mt_217 rfl rfl rfl ?_
              refine v_gr (w := 562) 46 mt_217 rfl rfl c_542 (by decide) (g_12_46 c_542) ?_
              refine v_bp (v := Int32.ofInt 48) mt_217 rfl rfl ?_
              refine v_s mt_217 rfl rfl rfl ?_
              refine v_gr (w := 562) 46 mt_217 rfl rfl c_542 (by decide) (g_12_46 c_542) ?_
              refine v_bp (v := Int32.ofInt 48) mt_217 rfl rfl ?_
              refine j_al (w := J 562 48) mt_217 rfl c_562 ⟨by decide, by decide⟩ (by decide) rfl ?_
              refine v_s mt_217 rfl rfl rfl ?_
              refine j_add (e := (J 562 48) + x2) mt_217 rfl rfl ?_
              obtain ⟨c3, J2, z5, h⟩ := h
              refine v_call (d1 := 0) mt_217 rfl rfl mt_210 rfl rfl rfl z5 (by clear h; omega) ?_
              refine j_as mt_217 rfl c_562 ⟨by decide, by decide⟩ (by decide) ?_
              refine v_ic (v := Int32.ofInt 1) mt_217 rfl rfl ?_
              exact j_retb mt_217 rfl rfl (by decide) h
            · replace h := h.2 (Decidable.not_not.mp c)
              refine v_ic (v := Int32.ofInt 0) mt_217 rfl rfl ?_
              exact j_retb mt_217 rfl rfl (by decide) h
        · replace h := h.2 (Decidable.not_not.mp c)
          refine v_s mt_217 rfl rfl rfl ?_
          refine v_gr (w := 562) 46 mt_217 rfl rfl c_542 (by decide) (g_12_46 c_542) ?_
          refine v_bp (v := Int32.ofInt 12) mt_217 rfl rfl ?_
          refine v_s mt_217 rfl rfl rfl ?_
          refine j_add (e := 12 + x2) mt_217 rfl rfl ?_
          obtain ⟨z6, h⟩ := h
          refine j_al (w := J 562 ((12 + x2).toNat)) mt_217 rfl c_562 z6 (by decide) rfl ?_
          refine v_ic (v := Int32.ofInt (-1)) mt_217 rfl rfl ?_
          obtain ⟨z7, h⟩ := h
          refine j_if2 mt_217 rfl rfl z7 ⟨by decide, by decide⟩ (fun c => ?_) (fun c => ?_)
          · replace h := h.1 c
            refine v_s mt_217 rfl rfl rfl ?_
            refine v_gr (w := 562) 46 mt_217 rfl rfl c_542 (by decide) (g_12_46 c_542) ?_
            refine v_bp (v := Int32.ofInt 12) mt_217 rfl rfl ?_
            refine v_s mt_217 rfl rfl rfl ?_
            refine j_add (e := 12 + x2) mt_217 rfl rfl ?_
            refine v_ic (v := Int32.ofInt (-1)) mt_217 rfl rfl ?_
            refine j_as mt_217 rfl c_562 z6 (by decide) ?_
            refine v_ic (v := Int32.ofInt 1) mt_217 rfl rfl ?_
            exact j_retb mt_217 rfl rfl (by decide) h
          · replace h := h.2 (Decidable.not_not.mp c)
            refine v_ic (v := Int32.ofInt 0) mt_217 rfl rfl ?_
            exact j_retb mt_217 rfl rfl (by decide) h
      · replace h := h.2 (Decidable.not_not.mp c)
        refine v_s mt_217 rfl rfl rfl ?_
        refine v_s mt_217 rfl rfl rfl ?_
        obtain ⟨c5, J4, z8, h⟩ := h
        refine v_call (d1 := 1) mt_217 rfl rfl mt_214 rfl rfl (m_callj (As := [iv x2]) (rest := []) rfl rfl c_542 rfl (Nat.le_of_ble_eq_true rfl) (Nat.le_of_ble_eq_true rfl)) z8 (by clear h; omega) ?_
        obtain ⟨z9, h⟩ := h
        exact j_retb mt_217 rfl rfl z9 h
    · replace h := h.2 (Decidable.not_not.mp c)
      refine v_s mt_217 rfl rfl rfl ?_
      refine v_s mt_217 rfl rfl rfl ?_
      refine v_s mt_217 rfl rfl rfl ?_
      obtain ⟨c7, J6, z10, h⟩ := h
      refine v_call (d1 := 1) mt_217 rfl rfl mt_213 rfl rfl (m_callj (As := [iv x2, iv x3]) (rest := []) rfl rfl c_542 rfl (Nat.le_of_ble_eq_true rfl) (Nat.le_of_ble_eq_true rfl)) z10 (by clear h; omega) ?_
      obtain ⟨z11, h⟩ := h
      exact j_retb mt_217 rfl rfl z11 h
  · replace h := h.2 (Decidable.not_not.mp c)
    refine v_s mt_217 rfl rfl rfl ?_
    refine v_s mt_217 rfl rfl rfl ?_
    refine v_s mt_217 rfl rfl rfl ?_
    refine v_s mt_217 rfl rfl rfl ?_
    obtain ⟨c9, J8, z12, h⟩ := h
    refine v_call (d1 := 5) mt_217 rfl rfl mt_212 rfl rfl (m_callj (As := [iv x2, iv x3, iv x4]) (rest := []) rfl rfl c_542 rfl (Nat.le_of_ble_eq_true rfl) (Nat.le_of_ble_eq_true rfl)) z12 (by clear h; omega) ?_
    obtain ⟨z13, h⟩ := h
    exact j_retb mt_217 rfl rfl z13 h
set_option maxHeartbeats 600000 in
theorem b_58_0 {X : Nat × (Nat → Int32)} {d : Nat} {J : Nat → Nat → Int} {sw : Bool × Bool × Bool} {lg : Nat → Nat → Int64} {x : Nat} {K : (Option Value ⊕ Nat) → mM → Prop} {r0 r1 : Nat} {x2 x3 : Int} {o4 : Option Value} (h0 : SH[r0]? = some (11, 9)) (h1 : SH[r1]? = some (14, 12)) (hd : 1 ≤ d)
    (h : (0 ≤ x2 ∧ x2 < 6) ∧ InR (2 * (J (r0 + 2) x2.toNat)) ∧ InR (J (r0 + 1) x2.toNat) ∧ (2 * (J (r0 + 2) x2.toNat) ≤ J (r0 + 1) x2.toNat → ((0 ≤ x3 ∧ x3 < 9) ∧ InR (J (r0 + 5) x3.toNat) ∧ (J (r0 + 5) x3.toNat ≤ 0 → (InR ((J (r0 + 6) x3.toNat) + 1) ∧ (¬ J (r0 + 5) x3.toNat = 0 → K (.inl none) (mj (m_up J (r0 + 6) x3.toNat (min 99 ((J (r0 + 6) x3.toNat) + 1))) sw lg x)) ∧ (J (r0 + 5) x3.toNat = 0 → (∃ (c2 : Int) (J1 : Nat → Nat → Int), EE X 0 59 [.ref r0, .ref r1, iv (J (r1 + 4) x3.toNat)] (mj (m_up J (r0 + 6) x3.toNat (min 99 ((J (r0 + 6) x3.toNat) + 1))) sw lg x) (.inl (some (iv c2))) (mj J1 sw lg x) ∧ InR c2 ∧ (¬ c2 = (-1) → K (.inl none) (mj (m_up J1 (r0 + 3) x2.toNat c2) sw lg x)) ∧ (c2 = (-1) → K (.inl none) (mj (m_up J1 (r0 + 3) x2.toNat x3) sw lg x)))))) ∧ (0 < J (r0 + 5) x3.toNat → (InR ((J (r0 + 5) x3.toNat) - 1) ∧ (¬ (J (r0 + 5) x3.toNat) - 1 = 0 → K (.inl none) (mj (m_up J (r0 + 5) x3.toNat ((J (r0 + 5) x3.toNat) - 1)) sw lg x)) ∧ ((J (r0 + 5) x3.toNat) - 1 = 0 → (∃ (c4 : Int) (J3 : Nat → Nat → Int), EE X 0 59 [.ref r0, .ref r1, iv (J (r1 + 4) x3.toNat)] (mj (m_up J (r0 + 5) x3.toNat ((J (r0 + 5) x3.toNat) - 1)) sw lg x) (.inl (some (iv c4))) (mj J3 sw lg x) ∧ InR c4 ∧ (¬ c4 = (-1) → K (.inl none) (mj (m_up J3 (r0 + 3) x2.toNat c4) sw lg x)) ∧ (c4 = (-1) → K (.inl none) (mj (m_up J3 (r0 + 3) x2.toNat x3) sw lg x)))))))) ∧ (J (r0 + 1) x2.toNat < 2 * (J (r0 + 2) x2.toNat) → ((0 ≤ x3 ∧ x3 < 9) ∧ InR ((J (r0 + 5) x3.toNat) + 2) ∧ InR (min 99 ((J (r0 + 5) x3.toNat) + 2)) ∧ (¬ min 99 ((J (r0 + 5) x3.toNat) + 2) = 0 → K (.inl none) (mj (m_up J (r0 + 5) x3.toNat (min 99 ((J (r0 + 5) x3.toNat) + 2))) sw lg x)) ∧ (min 99 ((J (r0 + 5) x3.toNat) + 2) = 0 → (∃ (c6 : Int) (J5 : Nat → Nat → Int), EE X 0 59 [.ref r0, .ref r1, iv (J (r1 + 4) x3.toNat)] (mj (m_up J (r0 + 5) x3.toNat (min 99 ((J (r0 + 5) x3.toNat) + 2))) sw lg x) (.inl (some (iv c6))) (mj J5 sw lg x) ∧ InR c6 ∧ (¬ c6 = (-1) → K (.inl none) (mj (m_up J5 (r0 + 3) x2.toNat c6) sw lg x)) ∧ (c6 = (-1) → K (.inl none) (mj (m_up J5 (r0 + 3) x2.toNat x3) sw lg x))))))) : VV X d 58 (0, [some (.ref r0), some (.ref r1), some (iv x2), some (iv x3), o4], [], mj J sw lg x) K := by
  refine v_s mt_58 rfl rfl rfl ?_
  refine v_s mt_58 rfl rfl rfl ?_
  refine v_inl (L1 := [some (.ref r0), some (iv x2)]) mt_58 rfl rfl mt_46 rfl rfl (m_callj (As := [iv x2]) (rest := []) rfl rfl h0 rfl (Nat.le_of_ble_eq_true rfl) (Nat.le_of_ble_eq_true rfl)) rfl (by clear h; omega) ?_
  refine v_ic (v := Int32.ofInt 2) mt_46 rfl rfl ?_
  refine v_s mt_46 rfl rfl rfl ?_
  refine v_gr (w := (r0 + 2)) 1 mt_46 rfl rfl h0 (by decide) (g_6_1 h0) ?_
  refine v_s mt_46 rfl rfl rfl ?_
  obtain ⟨z1, h⟩ := h
  refine j_al (w := J (r0 + 2) x2.toNat) mt_46 rfl (shS r0 (SH_lt h0) h0).2.1 z1 (by decide) rfl ?_
  refine j_mul (e := 2 * (J (r0 + 2) x2.toNat)) mt_46 rfl rfl ?_
  refine v_s mt_46 rfl rfl rfl ?_
  refine v_gr (w := (r0 + 1)) 0 mt_46 rfl rfl h0 (by decide) (g_6_0 h0) ?_
  refine v_s mt_46 rfl rfl rfl ?_
  refine j_al (w := J (r0 + 1) x2.toNat) mt_46 rfl (shS r0 (SH_lt h0) h0).1 z1 (by decide) rfl ?_
  obtain ⟨z2, h⟩ := h
  obtain ⟨z3, h⟩ := h
  refine j_if2 mt_46 rfl rfl z2 z3 (fun c => ?_) (fun c => ?_)
  · replace h := h.1 c
    refine v_ic (v := Int32.ofInt 0) mt_46 rfl rfl ?_
    refine j_retb mt_46 rfl rfl (by decide) ?_
    refine j_if1 mt_58 rfl rfl ⟨by decide, by decide⟩ (fun _ => ?_) (fun c => (c (show (0 : Int) = 0 by decide)).elim)
    refine v_s mt_58 rfl rfl rfl ?_
    refine v_gr (w := (r0 + 5)) 4 mt_58 rfl rfl h0 (by decide) (g_6_4 h0) ?_
    refine v_s mt_58 rfl rfl rfl ?_
    obtain ⟨z4, h⟩ := h
    refine j_al (w := J (r0 + 5) x3.toNat) mt_58 rfl (shS r0 (SH_lt h0) h0).2.2.2.2.1 z4 (by decide) rfl ?_
    obtain ⟨z5, h⟩ := h
    refine j_if1 mt_58 rfl rfl z5 (fun c => ?_) (fun c => ?_)
    · replace h := h.1 c
      refine v_s mt_58 rfl rfl rfl ?_
      refine v_gr (w := (r0 + 6)) 5 mt_58 rfl rfl h0 (by decide) (g_6_5 h0) ?_
      refine v_s mt_58 rfl rfl rfl ?_
      refine v_bp (v := Int32.ofInt 99) mt_58 rfl rfl ?_
      refine v_s mt_58 rfl rfl rfl ?_
      refine v_gr (w := (r0 + 6)) 5 mt_58 rfl rfl h0 (by decide) (g_6_5 h0) ?_
      refine v_s mt_58 rfl rfl rfl ?_
      refine j_al (w := J (r0 + 6) x3.toNat) mt_58 rfl (shS r0 (SH_lt h0) h0).2.2.2.2.2 z4 (by decide) rfl ?_
      refine v_ic (v := Int32.ofInt 1) mt_58 rfl rfl ?_
      refine j_add (e := (J (r0 + 6) x3.toNat) + 1) mt_58 rfl rfl ?_
      obtain ⟨z6, h⟩ := h
      refine j_min mt_58 rfl (Nat.le_of_ble_eq_true rfl) ⟨by decide, by decide⟩ z6 ?_
      refine j_as mt_58 rfl (shS r0 (SH_lt h0) h0).2.2.2.2.2 z4 (by decide) ?_
      refine v_s mt_58 rfl rfl rfl ?_
      refine v_gr (w := (r0 + 5)) 4 mt_58 rfl rfl h0 (by decide) (g_6_4 h0) ?_
      refine v_s mt_58 rfl rfl rfl ?_
      refine j_al (w := J (r0 + 5) x3.toNat) mt_58 rfl (shS r0 (SH_lt h0) h0).2.2.2.2.1 z4 (by decide) ((up_na (by clear h; omega)).trans rfl) ?_
      refine j_if1 mt_58 rfl rfl z5 (fun c => ?_) (fun c => ?_)
      · replace h := h.1 c
        exact v_ret mt_58 rfl rfl rfl h
      · replace h := h.2 (Decidable.not_not.mp c)
        refine v_s mt_58 rfl rfl rfl ?_
        refine v_s mt_58 rfl rfl rfl ?_
        refine v_s mt_58 rfl rfl rfl ?_
        refine v_gr (w := (r1 + 4)) 11 mt_58 rfl rfl h1 (by decide) (g_9_11 h1) ?_
        refine v_s mt_58 rfl rfl rfl ?_
        refine j_al (w := J (r1 + 4) x3.toNat) mt_58 rfl (shV r1 (SH_lt h1) h1).2.2.2.1 z4 (by decide) ((up_na (by have := bnd_9 h1; have := bnd_6 h0; clear h; omega)).trans rfl) ?_
        obtain ⟨c2, J1, z7, h⟩ := h
        refine v_call (d1 := 0) mt_58 rfl rfl mt_59 rfl rfl (m_callj (As := [.ref r1, iv (J (r1 + 4) x3.toNat)]) (rest := []) rfl rfl h0 rfl (Nat.le_of_ble_eq_true rfl) (Nat.le_of_ble_eq_true rfl)) z7 (by clear h; omega) ?_
        refine v_is (L' := [some (.ref r0), some (.ref r1), some (iv x2), some (iv x3), some (iv c2)]) mt_58 rfl (Nat.le_of_ble_eq_true rfl) rfl ?_
        refine v_s mt_58 rfl rfl rfl ?_
        refine v_gr (w := (r0 + 3)) 2 mt_58 rfl rfl h0 (by decide) (g_6_2 h0) ?_
        refine v_s mt_58 rfl rfl rfl ?_
        refine v_s mt_58 rfl rfl rfl ?_
        refine v_ic (v := Int32.ofInt (-1)) mt_58 rfl rfl ?_
        obtain ⟨z8, h⟩ := h
        refine j_if2 mt_58 rfl rfl z8 ⟨by decide, by decide⟩ (fun c => ?_) (fun c => ?_)
        · replace h := h.1 c
          refine v_s mt_58 rfl rfl rfl ?_
          refine j_as mt_58 rfl (shS r0 (SH_lt h0) h0).2.2.1 z1 (by decide) ?_
          exact v_ret mt_58 rfl rfl rfl h
        · replace h := h.2 (Decidable.not_not.mp c)
          refine v_s mt_58 rfl rfl rfl ?_
          refine v_go mt_58 rfl rfl ?_
          refine j_as mt_58 rfl (shS r0 (SH_lt h0) h0).2.2.1 z1 (by decide) ?_
          exact v_ret mt_58 rfl rfl rfl h
    · replace h := h.2 (Int.not_le.mp c)
      refine v_s mt_58 rfl rfl rfl ?_
      refine v_gr (w := (r0 + 5)) 4 mt_58 rfl rfl h0 (by decide) (g_6_4 h0) ?_
      refine v_s mt_58 rfl rfl rfl ?_
      refine v_s mt_58 rfl rfl rfl ?_
      refine j_al (w := J (r0 + 5) x3.toNat) mt_58 rfl (shS r0 (SH_lt h0) h0).2.2.2.2.1 z4 (by decide) rfl ?_
      refine v_ic (v := Int32.ofInt 1) mt_58 rfl rfl ?_
      refine j_sub (e := (J (r0 + 5) x3.toNat) - 1) mt_58 rfl rfl ?_
      refine j_as mt_58 rfl (shS r0 (SH_lt h0) h0).2.2.2.2.1 z4 (by decide) ?_
      refine v_go mt_58 rfl rfl ?_
      refine v_s mt_58 rfl rfl rfl ?_
      refine v_gr (w := (r0 + 5)) 4 mt_58 rfl rfl h0 (by decide) (g_6_4 h0) ?_
      refine v_s mt_58 rfl rfl rfl ?_
      refine j_al (w := (J (r0 + 5) x3.toNat) - 1) mt_58 rfl (shS r0 (SH_lt h0) h0).2.2.2.2.1 z4 (by decide) (up_eq _ _ _ _) ?_
      obtain ⟨z9, h⟩ := h
      refine j_if1 mt_58 rfl rfl z9 (fun c => ?_) (fun c => ?_)
      · replace h := h.1 c
        exact v_ret mt_58 rfl rfl rfl h
      · replace h := h.2 (Decidable.not_not.mp c)
        refine v_s mt_58 rfl rfl rfl ?_
        refine v_s mt_58 rfl rfl rfl ?_
        refine v_s mt_58 rfl rfl rfl ?_
        refine v_gr (w := (r1 + 4)) 11 mt_58 rfl rfl h1 (by decide) (g_9_11 h1) ?_
        refine v_s mt_58 rfl rfl rfl ?_
        refine j_al (w := J (r1 + 4) x3.toNat) mt_58 rfl (shV r1 (SH_lt h1) h1).2.2.2.1 z4 (by decide) ((up_na (by have := bnd_9 h1; have := bnd_6 h0; clear h; omega)).trans rfl) ?_
        obtain ⟨c4, J3, z10, h⟩ := h
        refine v_call (d1 := 0) mt_58 rfl rfl mt_59 rfl rfl (m_callj (As := [.ref r1, iv (J (r1 + 4) x3.toNat)]) (rest := []) rfl rfl h0 rfl (Nat.le_of_ble_eq_true rfl) (Nat.le_of_ble_eq_true rfl)) z10 (by clear h; omega) ?_
        refine v_is (L' := [some (.ref r0), some (.ref r1), some (iv x2), some (iv x3), some (iv c4)]) mt_58 rfl (Nat.le_of_ble_eq_true rfl) rfl ?_
        refine v_s mt_58 rfl rfl rfl ?_
        refine v_gr (w := (r0 + 3)) 2 mt_58 rfl rfl h0 (by decide) (g_6_2 h0) ?_
        refine v_s mt_58 rfl rfl rfl ?_
        refine v_s mt_58 rfl rfl rfl ?_
        refine v_ic (v := Int32.ofInt (-1)) mt_58 rfl rfl ?_
        obtain ⟨z11, h⟩ := h
        refine j_if2 mt_58 rfl rfl z11 ⟨by decide, by decide⟩ (fun c => ?_) (fun c => ?_)
        · replace h := h.1 c
          refine v_s mt_58 rfl rfl rfl ?_
          refine j_as mt_58 rfl (shS r0 (SH_lt h0) h0).2.2.1 z1 (by decide) ?_
          exact v_ret mt_58 rfl rfl rfl h
        · replace h := h.2 (Decidable.not_not.mp c)
          refine v_s mt_58 rfl rfl rfl ?_
          refine v_go mt_58 rfl rfl ?_
          refine j_as mt_58 rfl (shS r0 (SH_lt h0) h0).2.2.1 z1 (by decide) ?_
          exact v_ret mt_58 rfl rfl rfl h
  · replace h := h.2 (Int.not_le.mp c)
    refine v_ic (v := Int32.ofInt 1) mt_46 rfl rfl ?_
    refine v_go mt_46 rfl rfl ?_
    refine j_retb mt_46 rfl rfl (by decide) ?_
    refine j_if1 mt_58 rfl rfl ⟨by decide, by decide⟩ (fun c => absurd (show (1 : Int) = 0 from c) (by decide)) (fun _ => ?_)
    refine v_s mt_58 rfl rfl rfl ?_
    refine v_gr (w := (r0 + 5)) 4 mt_58 rfl rfl h0 (by decide) (g_6_4 h0) ?_
    refine v_s mt_58 rfl rfl rfl ?_
    refine v_bp (v := Int32.ofInt 99) mt_58 rfl rfl ?_
    refine v_s mt_58 rfl rfl rfl ?_
    refine v_gr (w := (r0 + 5)) 4 mt_58 rfl rfl h0 (by decide) (g_6_4 h0) ?_
    refine v_s mt_58 rfl rfl rfl ?_
    obtain ⟨z12, h⟩ := h
    refine j_al (w := J (r0 + 5) x3.toNat) mt_58 rfl (shS r0 (SH_lt h0) h0).2.2.2.2.1 z12 (by decide) rfl ?_
    refine v_ic (v := Int32.ofInt 2) mt_58 rfl rfl ?_
    refine j_add (e := (J (r0 + 5) x3.toNat) + 2) mt_58 rfl rfl ?_
    obtain ⟨z13, h⟩ := h
    refine j_min mt_58 rfl (Nat.le_of_ble_eq_true rfl) ⟨by decide, by decide⟩ z13 ?_
    refine j_as mt_58 rfl (shS r0 (SH_lt h0) h0).2.2.2.2.1 z12 (by decide) ?_
    refine v_go mt_58 rfl rfl ?_
    refine v_s mt_58 rfl rfl rfl ?_
    refine v_gr (w := (r0 + 5)) 4 mt_58 rfl rfl h0 (by decide) (g_6_4 h0) ?_
    refine v_s mt_58 rfl rfl rfl ?_
    refine j_al (w := min 99 ((J (r0 + 5) x3.toNat) + 2)) mt_58 rfl (shS r0 (SH_lt h0) h0).2.2.2.2.1 z12 (by decide) (up_eq _ _ _ _) ?_
    obtain ⟨z14, h⟩ := h
    refine j_if1 mt_58 rfl rfl z14 (fun c => ?_) (fun c => ?_)
    · replace h := h.1 c
      exact v_ret mt_58 rfl rfl rfl h
    · replace h := h.2 (Decidable.not_not.mp c)
      refine v_s mt_58 rfl rfl rfl ?_
      refine v_s mt_58 rfl rfl rfl ?_
      refine v_s mt_58 rfl rfl rfl ?_
      refine v_gr (w := (r1 + 4)) 11 mt_58 rfl rfl h1 (by decide) (g_9_11 h1) ?_
      refine v_s mt_58 rfl rfl rfl ?_
      refine j_al (w := J (r1 + 4) x3.toNat) mt_58 rfl (shV r1 (SH_lt h1) h1).2.2.2.1 z12 (by decide) ((up_na (by have := bnd_9 h1; have := bnd_6 h0; clear h; omega)).trans rfl) ?_
      obtain ⟨c6, J5, z15, h⟩ := h
      refine v_call (d1 := 0) mt_58 rfl rfl mt_59 rfl rfl (m_callj (As := [.ref r1, iv (J (r1 + 4) x3.toNat)]) (rest := []) rfl rfl h0 rfl (Nat.le_of_ble_eq_true rfl) (Nat.le_of_ble_eq_true rfl)) z15 (by clear h; omega) ?_
      refine v_is (L' := [some (.ref r0), some (.ref r1), some (iv x2), some (iv x3), some (iv c6)]) mt_58 rfl (Nat.le_of_ble_eq_true rfl) rfl ?_
      refine v_s mt_58 rfl rfl rfl ?_
      refine v_gr (w := (r0 + 3)) 2 mt_58 rfl rfl h0 (by decide) (g_6_2 h0) ?_
      refine v_s mt_58 rfl rfl rfl ?_
      refine v_s mt_58 rfl rfl rfl ?_
      refine v_ic (v := Int32.ofInt (-1)) mt_58 rfl rfl ?_
      obtain ⟨z16, h⟩ := h
      refine j_if2 mt_58 rfl rfl z16 ⟨by decide, by decide⟩ (fun c => ?_) (fun c => ?_)
      · replace h := h.1 c
        refine v_s mt_58 rfl rfl rfl ?_
        refine j_as mt_58 rfl (shS r0 (SH_lt h0) h0).2.2.1 z1 (by decide) ?_
        exact v_ret mt_58 rfl rfl rfl h
      · replace h := h.2 (Decidable.not_not.mp c)
        refine v_s mt_58 rfl rfl rfl ?_
        refine v_go mt_58 rfl rfl ?_
        refine j_as mt_58 rfl (shS r0 (SH_lt h0) h0).2.2.1 z1 (by decide) ?_
        exact v_ret mt_58 rfl rfl rfl h
set_option maxHeartbeats 600000 in
theorem b_57_0 {X : Nat × (Nat → Int32)} {d : Nat} {J : Nat → Nat → Int} {sw : Bool × Bool × Bool} {lg : Nat → Nat → Int64} {x : Nat} {K : (Option Value ⊕ Nat) → mM → Prop} {r0 r1 : Nat} {o2 : Option Value} (h0 : SH[r0]? = some (11, 9)) (h1 : SH[r1]? = some (14, 12)) (hd : 2 ≤ d)
    (h : VV X d 57 (2, [some (.ref r0), some (.ref r1), some (iv 0)], [], mj J sw lg x) K) : VV X d 57 (0, [some (.ref r0), some (.ref r1), o2], [], mj J sw lg x) K := by
  refine v_ic (v := Int32.ofInt 0) mt_57 rfl rfl ?_
  refine v_isn (L' := [some (.ref r0), some (.ref r1), some (iv 0)]) mt_57 rfl (Nat.le_of_ble_eq_true rfl) rfl ?_
  exact h
set_option maxHeartbeats 600000 in
theorem b_57_2 {X : Nat × (Nat → Int32)} {d : Nat} {J : Nat → Nat → Int} {sw : Bool × Bool × Bool} {lg : Nat → Nat → Int64} {x : Nat} {K : (Option Value ⊕ Nat) → mM → Prop} {r0 r1 : Nat} {x2 : Int} (h0 : SH[r0]? = some (11, 9)) (h1 : SH[r1]? = some (14, 12)) (hd : 2 ≤ d)
    (h : InR x2 ∧ InR (J r1 0) ∧ (J r1 0 ≤ x2 → (InR (J r1 5) ∧ (J r1 5 ≤ 0 → K (.inl none) (mj (m_up (m_up J r0 7 ((J r0 7) + 1)) r0 6 0) sw lg x)) ∧ (0 < J r1 5 → (¬ J r1 5 = 0 ∧ (¬ bRem ((J r0 7) + 1) (J r1 5) = 0 → K (.inl none) (mj (m_up (m_up J r0 7 ((J r0 7) + 1)) r0 6 0) sw lg x)) ∧ (bRem ((J r0 7) + 1) (J r1 5) = 0 → VV X d 57 (81, [some (.ref r0), some (.ref r1), some (iv 0)], [], mj (m_up J r0 7 ((J r0 7) + 1)) sw lg x) K))))) ∧ (x2 < J r1 0 → ((0 ≤ x2 ∧ x2 < 6) ∧ InR (J (r0 + 3) x2.toNat) ∧ (J (r0 + 3) x2.toNat < 0 → VV X d 57 (2, [some (.ref r0), some (.ref r1), some (iv (x2 + 1))], [], mj J sw lg x) K) ∧ (0 ≤ J (r0 + 3) x2.toNat → (InR (J r1 2) ∧ (J r1 2 ≤ J (r0 + 3) x2.toNat → VV X d 57 (2, [some (.ref r0), some (.ref r1), some (iv (x2 + 1))], [], mj J sw lg x) K) ∧ (J (r0 + 3) x2.toNat < J r1 2 → (∃ (J1 : Nat → Nat → Int), EE X 1 58 [.ref r0, .ref r1, iv x2, iv (J (r0 + 3) x2.toNat)] (mj J sw lg x) (.inl none) (mj J1 sw lg x) ∧ VV X d 57 (2, [some (.ref r0), some (.ref r1), some (iv (x2 + 1))], [], mj J1 sw lg x) K))))))) : VV X d 57 (2, [some (.ref r0), some (.ref r1), some (iv x2)], [], mj J sw lg x) K := by
  refine v_s mt_57 rfl rfl rfl ?_
  refine v_s mt_57 rfl rfl rfl ?_
  refine j_gi (w := J r1 0) 0 mt_57 rfl rfl h1 (by decide) rfl ?_
  obtain ⟨z1, h⟩ := h
  obtain ⟨z2, h⟩ := h
  refine j_if2 mt_57 rfl rfl z1 z2 (fun c => ?_) (fun c => ?_)
  · replace h := h.1 c
    refine v_s mt_57 rfl rfl rfl ?_
    refine v_s mt_57 rfl rfl rfl ?_
    refine j_gi (w := J r0 7) 7 mt_57 rfl rfl h0 (by decide) rfl ?_
    refine v_ic (v := Int32.ofInt 1) mt_57 rfl rfl ?_
    refine j_add (e := (J r0 7) + 1) mt_57 rfl rfl ?_
    refine j_pi 7 mt_57 rfl rfl h0 (by decide) ?_
    refine v_s mt_57 rfl rfl rfl ?_
    refine j_gi (w := J r1 5) 5 mt_57 rfl rfl h1 (by decide) ((up_na (sh_ne h1 h0 (by decide))).trans rfl) ?_
    obtain ⟨z3, h⟩ := h
    refine j_if1 mt_57 rfl rfl z3 (fun c => ?_) (fun c => ?_)
    · replace h := h.1 c
      refine v_s mt_57 rfl rfl rfl ?_
      refine v_ic (v := Int32.ofInt 0) mt_57 rfl rfl ?_
      refine j_pi 6 mt_57 rfl rfl h0 (by decide) ?_
      exact v_ret mt_57 rfl rfl rfl h
    · replace h := h.2 (Int.not_le.mp c)
      refine v_s mt_57 rfl rfl rfl ?_
      refine j_gi (w := (J r0 7) + 1) 7 mt_57 rfl rfl h0 (by decide) (up_eq _ _ _ _) ?_
      refine v_s mt_57 rfl rfl rfl ?_
      refine j_gi (w := J r1 5) 5 mt_57 rfl rfl h1 (by decide) ((up_na (sh_ne h1 h0 (by decide))).trans rfl) ?_
      obtain ⟨z4, h⟩ := h
      refine j_rem (e := bRem ((J r0 7) + 1) (J r1 5)) mt_57 rfl z3 z4 rfl ?_
      refine j_if1 mt_57 rfl rfl (inT _) (fun c => ?_) (fun c => ?_)
      · replace h := h.1 c
        refine v_s mt_57 rfl rfl rfl ?_
        refine v_ic (v := Int32.ofInt 0) mt_57 rfl rfl ?_
        refine j_pi 6 mt_57 rfl rfl h0 (by decide) ?_
        exact v_ret mt_57 rfl rfl rfl h
      · replace h := h.2 (Decidable.not_not.mp c)
        refine v_ic (v := Int32.ofInt 0) mt_57 rfl rfl ?_
        refine v_isn (L' := [some (.ref r0), some (.ref r1), some (iv 0)]) mt_57 rfl (Nat.le_of_ble_eq_true rfl) rfl ?_
        exact h
  · replace h := h.2 (Int.not_le.mp c)
    refine v_s mt_57 rfl rfl rfl ?_
    refine v_gr (w := (r0 + 3)) 2 mt_57 rfl rfl h0 (by decide) (g_6_2 h0) ?_
    refine v_s mt_57 rfl rfl rfl ?_
    obtain ⟨z5, h⟩ := h
    refine j_al (w := J (r0 + 3) x2.toNat) mt_57 rfl (shS r0 (SH_lt h0) h0).2.2.1 z5 (by decide) rfl ?_
    obtain ⟨z6, h⟩ := h
    refine j_if1 mt_57 rfl rfl z6 (fun c => ?_) (fun c => ?_)
    · replace h := h.1 c
      refine j_inc (e := x2 + 1) (L' := [some (.ref r0), some (.ref r1), some (iv (x2 + 1))]) mt_57 rfl rfl (Nat.le_of_ble_eq_true rfl) rfl rfl ?_
      refine v_go mt_57 rfl rfl ?_
      exact h
    · replace h := h.2 (Int.not_lt.mp c)
      refine v_s mt_57 rfl rfl rfl ?_
      refine v_gr (w := (r0 + 3)) 2 mt_57 rfl rfl h0 (by decide) (g_6_2 h0) ?_
      refine v_s mt_57 rfl rfl rfl ?_
      refine j_al (w := J (r0 + 3) x2.toNat) mt_57 rfl (shS r0 (SH_lt h0) h0).2.2.1 z5 (by decide) rfl ?_
      refine v_s mt_57 rfl rfl rfl ?_
      refine j_gi (w := J r1 2) 2 mt_57 rfl rfl h1 (by decide) rfl ?_
      obtain ⟨z7, h⟩ := h
      refine j_if2 mt_57 rfl rfl z6 z7 (fun c => ?_) (fun c => ?_)
      · replace h := h.1 c
        refine j_inc (e := x2 + 1) (L' := [some (.ref r0), some (.ref r1), some (iv (x2 + 1))]) mt_57 rfl rfl (Nat.le_of_ble_eq_true rfl) rfl rfl ?_
        refine v_go mt_57 rfl rfl ?_
        exact h
      · replace h := h.2 (Int.not_le.mp c)
        refine v_s mt_57 rfl rfl rfl ?_
        refine v_s mt_57 rfl rfl rfl ?_
        refine v_s mt_57 rfl rfl rfl ?_
        refine v_s mt_57 rfl rfl rfl ?_
        refine v_gr (w := (r0 + 3)) 2 mt_57 rfl rfl h0 (by decide) (g_6_2 h0) ?_
        refine v_s mt_57 rfl rfl rfl ?_
        refine j_al (w := J (r0 + 3) x2.toNat) mt_57 rfl (shS r0 (SH_lt h0) h0).2.2.1 z5 (by decide) rfl ?_
        obtain ⟨J1, z8, h⟩ := h
        refine v_call (d1 := 1) mt_57 rfl rfl mt_58 rfl rfl (m_callj (As := [.ref r1, iv x2, iv (J (r0 + 3) x2.toNat)]) (rest := []) rfl rfl h0 rfl (Nat.le_of_ble_eq_true rfl) (Nat.le_of_ble_eq_true rfl)) z8 (by clear h; omega) ?_
        refine j_inc (e := x2 + 1) (L' := [some (.ref r0), some (.ref r1), some (iv (x2 + 1))]) mt_57 rfl rfl (Nat.le_of_ble_eq_true rfl) rfl rfl ?_
        refine v_go mt_57 rfl rfl ?_
        exact h
set_option maxHeartbeats 600000 in
theorem b_57_81 {X : Nat × (Nat → Int32)} {d : Nat} {J : Nat → Nat → Int} {sw : Bool × Bool × Bool} {lg : Nat → Nat → Int64} {x : Nat} {K : (Option Value ⊕ Nat) → mM → Prop} {r0 r1 : Nat} {x2 : Int} (h0 : SH[r0]? = some (11, 9)) (h1 : SH[r1]? = some (14, 12)) (hd : 2 ≤ d)
    (h : InR x2 ∧ InR (J r1 2) ∧ (J r1 2 ≤ x2 → K (.inl none) (mj (m_up J r0 6 0) sw lg x)) ∧ (x2 < J r1 2 → ((0 ≤ x2 ∧ x2 < 9) ∧ InR ((J (r0 + 5) x2.toNat) + 1) ∧ VV X d 57 (81, [some (.ref r0), some (.ref r1), some (iv (x2 + 1))], [], mj (m_up J (r0 + 5) x2.toNat (min 99 ((J (r0 + 5) x2.toNat) + 1))) sw lg x) K))) : VV X d 57 (81, [some (.ref r0), some (.ref r1), some (iv x2)], [], mj J sw lg x) K := by
  refine v_s mt_57 rfl rfl rfl ?_
  refine v_s mt_57 rfl rfl rfl ?_
  refine j_gi (w := J r1 2) 2 mt_57 rfl rfl h1 (by decide) rfl ?_
  obtain ⟨z1, h⟩ := h
  obtain ⟨z2, h⟩ := h
  refine j_if2 mt_57 rfl rfl z1 z2 (fun c => ?_) (fun c => ?_)
  · replace h := h.1 c
    refine v_s mt_57 rfl rfl rfl ?_
    refine v_ic (v := Int32.ofInt 0) mt_57 rfl rfl ?_
    refine j_pi 6 mt_57 rfl rfl h0 (by decide) ?_
    exact v_ret mt_57 rfl rfl rfl h
  · replace h := h.2 (Int.not_le.mp c)
    refine v_s mt_57 rfl rfl rfl ?_
    refine v_gr (w := (r0 + 5)) 4 mt_57 rfl rfl h0 (by decide) (g_6_4 h0) ?_
    refine v_s mt_57 rfl rfl rfl ?_
    refine v_bp (v := Int32.ofInt 99) mt_57 rfl rfl ?_
    refine v_s mt_57 rfl rfl rfl ?_
    refine v_gr (w := (r0 + 5)) 4 mt_57 rfl rfl h0 (by decide) (g_6_4 h0) ?_
    refine v_s mt_57 rfl rfl rfl ?_
    obtain ⟨z3, h⟩ := h
    refine j_al (w := J (r0 + 5) x2.toNat) mt_57 rfl (shS r0 (SH_lt h0) h0).2.2.2.2.1 z3 (by decide) rfl ?_
    refine v_ic (v := Int32.ofInt 1) mt_57 rfl rfl ?_
    refine j_add (e := (J (r0 + 5) x2.toNat) + 1) mt_57 rfl rfl ?_
    obtain ⟨z4, h⟩ := h
    refine j_min mt_57 rfl (Nat.le_of_ble_eq_true rfl) ⟨by decide, by decide⟩ z4 ?_
    refine j_as mt_57 rfl (shS r0 (SH_lt h0) h0).2.2.2.2.1 z3 (by decide) ?_
    refine j_inc (e := x2 + 1) (L' := [some (.ref r0), some (.ref r1), some (iv (x2 + 1))]) mt_57 rfl rfl (Nat.le_of_ble_eq_true rfl) rfl rfl ?_
    refine v_go mt_57 rfl rfl ?_
    exact h
set_option maxHeartbeats 600000 in
theorem b_51_0 {X : Nat × (Nat → Int32)} {d : Nat} {J : Nat → Nat → Int} {sw : Bool × Bool × Bool} {lg : Nat → Nat → Int64} {x : Nat} {K : (Option Value ⊕ Nat) → mM → Prop} {r0 r1 r2 : Nat} {x3 x4 x5 : Int} {o6 o7 : Option Value} (h0 : SH[r0]? = some (11, 9)) (h1 : SH[r1]? = some (14, 12)) (h2 : SH[r2]? = some (8, 4)) (hd : 3 ≤ d)
    (h : InR (J r0 8) ∧ (J r0 8 ≤ 0 → K (.inl (some (iv 0))) (mj J sw lg x)) ∧ (0 < J r0 8 → ((0 ≤ x4 ∧ x4 < 6) ∧ InR (J (r0 + 1) x4.toNat) ∧ InR (J (r1 + 1) x4.toNat) ∧ (J (r0 + 1) x4.toNat < J (r1 + 1) x4.toNat → ((bAnd (bShr (J r0 6) x3) 1 = 0 → ((0 ≤ x5 ∧ x5 < 9) ∧ InR (J (r0 + 5) x5.toNat) ∧ (J (r0 + 5) x5.toNat ≤ 0 → K (.inl (some (iv 0))) (mj J sw lg x)) ∧ (0 < J (r0 + 5) x5.toNat → (∃ (c2 : Int) (J1 : Nat → Nat → Int), EE X 2 48 [.ref r0, .ref r1, .ref r2, iv x3, iv x4, iv x5] (mj J sw lg x) (.inl (some (iv c2))) (mj J1 sw lg x) ∧ InR (c2 - (J1 (r0 + 5) x5.toNat)) ∧ InR ((J1 (r0 + 5) x5.toNat) - c2) ∧ InR ((J1 (r0 + 6) x5.toNat) + (max 0 (c2 - (J1 (r0 + 5) x5.toNat)))) ∧ (0 ≤ x3 ∧ x3 < 6) ∧ InR (J1 (r1 + 2) x3.toNat) ∧ (J1 (r1 + 2) x3.toNat < 5 → K (.inl (some (iv 1))) (mj (m_up (m_up (m_up (m_up (m_up (m_up J1 (r0 + 5) x5.toNat (max 0 ((J1 (r0 + 5) x5.toNat) - c2))) (r0 + 6) x5.toNat (min 99 ((J1 (r0 + 6) x5.toNat) + (max 0 (c2 - (J1 (r0 + 5) x5.toNat)))))) r0 8 ((J1 r0 8) - 1)) (r0 + 1) x4.toNat ((J1 (r0 + 1) x4.toNat) + 1)) (r0 + 4) x3.toNat ((J1 (r0 + 4) x3.toNat) + 1)) r0 6 (bOr (J1 r0 6) (bShl 1 x3))) sw lg x)) ∧ (5 ≤ J1 (r1 + 2) x3.toNat → K (.inl (some (iv 1))) (mj (m_up (m_up (m_up (m_up (m_up (m_up (m_up J1 (r0 + 5) x5.toNat (max 0 ((J1 (r0 + 5) x5.toNat) - c2))) (r0 + 6) x5.toNat (min 99 ((J1 (r0 + 6) x5.toNat) + (max 0 (c2 - (J1 (r0 + 5) x5.toNat)))))) r0 8 ((J1 r0 8) - 1)) (r0 + 1) x4.toNat ((J1 (r0 + 1) x4.toNat) + 1)) (r0 + 2) x4.toNat ((J1 (r0 + 2) x4.toNat) + 1)) (r0 + 4) x3.toNat ((J1 (r0 + 4) x3.toNat) + 1)) r0 6 (bOr (J1 r0 6) (bShl 1 x3))) sw lg x)))))) ∧ (¬ bAnd (bShr (J r0 6) x3) 1 = 0 → K (.inl (some (iv 0))) (mj J sw lg x)))) ∧ (J (r1 + 1) x4.toNat ≤ J (r0 + 1) x4.toNat → K (.inl (some (iv 0))) (mj J sw lg x))))) : VV X d 51 (0, [some (.ref r0), some (.ref r1), some (.ref r2), some (iv x3), some (iv x4), some (iv x5), o6, o7], [], mj J sw lg x) K := by
  refine v_s mt_51 rfl rfl rfl ?_
  refine v_s mt_51 rfl rfl rfl ?_
  refine v_s mt_51 rfl rfl rfl ?_
  refine v_s mt_51 rfl rfl rfl ?_
  refine v_s mt_51 rfl rfl rfl ?_
  refine v_inl (L1 := [some (.ref r0), some (.ref r1), some (iv x3), some (iv x4), some (iv x5)]) mt_51 rfl rfl mt_50 rfl rfl (m_callj (As := [.ref r1, iv x3, iv x4, iv x5]) (rest := []) rfl rfl h0 rfl (Nat.le_of_ble_eq_true rfl) (Nat.le_of_ble_eq_true rfl)) rfl (by clear h; omega) ?_
  refine v_s mt_50 rfl rfl rfl ?_
  refine j_gi (w := J r0 8) 8 mt_50 rfl rfl h0 (by decide) rfl ?_
  obtain ⟨z1, h⟩ := h
  refine j_if1 mt_50 rfl rfl z1 (fun c => ?_) (fun c => ?_)
  · replace h := h.1 c
    refine v_ic (v := Int32.ofInt 0) mt_50 rfl rfl ?_
    refine j_retb mt_50 rfl rfl (by decide) ?_
    refine j_if1 mt_51 rfl rfl ⟨by decide, by decide⟩ (fun c => absurd (show ¬ (0 : Int) = 0 from c) (by decide)) (fun _ => ?_)
    refine v_ic (v := Int32.ofInt 0) mt_51 rfl rfl ?_
    exact j_retb mt_51 rfl rfl (by decide) h
  · replace h := h.2 (Int.not_le.mp c)
    refine v_s mt_50 rfl rfl rfl ?_
    refine v_s mt_50 rfl rfl rfl ?_
    refine v_s mt_50 rfl rfl rfl ?_
    refine v_inl (L1 := [some (.ref r0), some (.ref r1), some (iv x4)]) mt_50 rfl rfl mt_45 rfl rfl (m_callj (As := [.ref r1, iv x4]) (rest := []) rfl rfl h0 rfl (Nat.le_of_ble_eq_true rfl) (Nat.le_of_ble_eq_true rfl)) rfl (by clear h; omega) ?_
    refine v_s mt_45 rfl rfl rfl ?_
    refine v_gr (w := (r0 + 1)) 0 mt_45 rfl rfl h0 (by decide) (g_6_0 h0) ?_
    refine v_s mt_45 rfl rfl rfl ?_
    obtain ⟨z2, h⟩ := h
    refine j_al (w := J (r0 + 1) x4.toNat) mt_45 rfl (shS r0 (SH_lt h0) h0).1 z2 (by decide) rfl ?_
    refine v_s mt_45 rfl rfl rfl ?_
    refine v_gr (w := (r1 + 1)) 6 mt_45 rfl rfl h1 (by decide) (g_9_6 h1) ?_
    refine v_s mt_45 rfl rfl rfl ?_
    refine j_al (w := J (r1 + 1) x4.toNat) mt_45 rfl (shV r1 (SH_lt h1) h1).1 z2 (by decide) rfl ?_
    obtain ⟨z3, h⟩ := h
    obtain ⟨z4, h⟩ := h
    refine j_if2 mt_45 rfl rfl z3 z4 (fun c => ?_) (fun c => ?_)
    · replace h := h.1 c
      refine v_ic (v := Int32.ofInt 0) mt_45 rfl rfl ?_
      refine j_retb mt_45 rfl rfl (by decide) ?_
      refine j_if1 mt_50 rfl rfl ⟨by decide, by decide⟩ (fun c => absurd (show ¬ (0 : Int) = 0 from c) (by decide)) (fun _ => ?_)
      refine v_s mt_50 rfl rfl rfl ?_
      refine v_s mt_50 rfl rfl rfl ?_
      refine v_inl (L1 := [some (.ref r0), some (iv x3)]) mt_50 rfl rfl mt_47 rfl rfl (m_callj (As := [iv x3]) (rest := []) rfl rfl h0 rfl (Nat.le_of_ble_eq_true rfl) (Nat.le_of_ble_eq_true rfl)) rfl (by clear h; omega) ?_
      refine v_s mt_47 rfl rfl rfl ?_
      refine j_gi (w := J r0 6) 6 mt_47 rfl rfl h0 (by decide) rfl ?_
      refine v_s mt_47 rfl rfl rfl ?_
      refine j_shr (e := bShr (J r0 6) x3) mt_47 rfl rfl ?_
      refine v_ic (v := Int32.ofInt 1) mt_47 rfl rfl ?_
      refine j_and (e := bAnd (bShr (J r0 6) x3) 1) mt_47 rfl rfl ?_
      refine j_if1 mt_47 rfl rfl (inT _) (fun c => ?_) (fun c => ?_)
      · replace h := h.1 c
        refine v_ic (v := Int32.ofInt 0) mt_47 rfl rfl ?_
        refine j_retb mt_47 rfl rfl (by decide) ?_
        refine j_if1 mt_50 rfl rfl ⟨by decide, by decide⟩ (fun c => absurd (show ¬ (0 : Int) = 0 from c) (by decide)) (fun _ => ?_)
        refine v_s mt_50 rfl rfl rfl ?_
        refine v_gr (w := (r0 + 5)) 4 mt_50 rfl rfl h0 (by decide) (g_6_4 h0) ?_
        refine v_s mt_50 rfl rfl rfl ?_
        obtain ⟨z5, h⟩ := h
        refine j_al (w := J (r0 + 5) x5.toNat) mt_50 rfl (shS r0 (SH_lt h0) h0).2.2.2.2.1 z5 (by decide) rfl ?_
        obtain ⟨z6, h⟩ := h
        refine j_if1 mt_50 rfl rfl z6 (fun c => ?_) (fun c => ?_)
        · replace h := h.1 c
          refine v_ic (v := Int32.ofInt 0) mt_50 rfl rfl ?_
          refine j_retb mt_50 rfl rfl (by decide) ?_
          refine j_if1 mt_51 rfl rfl ⟨by decide, by decide⟩ (fun c => absurd (show ¬ (0 : Int) = 0 from c) (by decide)) (fun _ => ?_)
          refine v_ic (v := Int32.ofInt 0) mt_51 rfl rfl ?_
          exact j_retb mt_51 rfl rfl (by decide) h
        · replace h := h.2 (Int.not_le.mp c)
          refine v_ic (v := Int32.ofInt 1) mt_50 rfl rfl ?_
          refine v_go mt_50 rfl rfl ?_
          refine j_retb mt_50 rfl rfl (by decide) ?_
          refine j_if1 mt_51 rfl rfl ⟨by decide, by decide⟩ (fun _ => ?_) (fun c => (c (show ¬ (1 : Int) = 0 by decide)).elim)
          refine v_s mt_51 rfl rfl rfl ?_
          refine v_s mt_51 rfl rfl rfl ?_
          refine v_s mt_51 rfl rfl rfl ?_
          refine v_s mt_51 rfl rfl rfl ?_
          refine v_s mt_51 rfl rfl rfl ?_
          refine v_s mt_51 rfl rfl rfl ?_
          obtain ⟨c2, J1, z7, h⟩ := h
          refine v_call (d1 := 2) mt_51 rfl rfl mt_48 rfl rfl (m_callj (As := [.ref r1, .ref r2, iv x3, iv x4, iv x5]) (rest := []) rfl rfl h0 rfl (Nat.le_of_ble_eq_true rfl) (Nat.le_of_ble_eq_true rfl)) z7 (by clear h; omega) ?_
          refine v_is (L' := [some (.ref r0), some (.ref r1), some (.ref r2), some (iv x3), some (iv x4), some (iv x5), some (iv c2), o7]) mt_51 rfl (Nat.le_of_ble_eq_true rfl) rfl ?_
          refine v_ic (v := Int32.ofInt 0) mt_51 rfl rfl ?_
          refine v_s mt_51 rfl rfl rfl ?_
          refine v_s mt_51 rfl rfl rfl ?_
          refine v_gr (w := (r0 + 5)) 4 mt_51 rfl rfl h0 (by decide) (g_6_4 h0) ?_
          refine v_s mt_51 rfl rfl rfl ?_
          refine j_al (w := J1 (r0 + 5) x5.toNat) mt_51 rfl (shS r0 (SH_lt h0) h0).2.2.2.2.1 z5 (by decide) rfl ?_
          refine j_sub (e := c2 - (J1 (r0 + 5) x5.toNat)) mt_51 rfl rfl ?_
          obtain ⟨z8, h⟩ := h
          refine j_max mt_51 rfl (Nat.le_of_ble_eq_true rfl) ⟨by decide, by decide⟩ z8 ?_
          refine v_is (L' := [some (.ref r0), some (.ref r1), some (.ref r2), some (iv x3), some (iv x4), some (iv x5), some (iv c2), some (iv (max 0 (c2 - (J1 (r0 + 5) x5.toNat))))]) mt_51 rfl (Nat.le_of_ble_eq_true rfl) rfl ?_
          refine v_s mt_51 rfl rfl rfl ?_
          refine v_gr (w := (r0 + 5)) 4 mt_51 rfl rfl h0 (by decide) (g_6_4 h0) ?_
          refine v_s mt_51 rfl rfl rfl ?_
          refine v_ic (v := Int32.ofInt 0) mt_51 rfl rfl ?_
          refine v_s mt_51 rfl rfl rfl ?_
          refine v_gr (w := (r0 + 5)) 4 mt_51 rfl rfl h0 (by decide) (g_6_4 h0) ?_
          refine v_s mt_51 rfl rfl rfl ?_
          refine j_al (w := J1 (r0 + 5) x5.toNat) mt_51 rfl (shS r0 (SH_lt h0) h0).2.2.2.2.1 z5 (by decide) rfl ?_
          refine v_s mt_51 rfl rfl rfl ?_
          refine j_sub (e := (J1 (r0 + 5) x5.toNat) - c2) mt_51 rfl rfl ?_
          obtain ⟨z9, h⟩ := h
          refine j_max mt_51 rfl (Nat.le_of_ble_eq_true rfl) ⟨by decide, by decide⟩ z9 ?_
          refine j_as mt_51 rfl (shS r0 (SH_lt h0) h0).2.2.2.2.1 z5 (by decide) ?_
          refine v_s mt_51 rfl rfl rfl ?_
          refine v_gr (w := (r0 + 6)) 5 mt_51 rfl rfl h0 (by decide) (g_6_5 h0) ?_
          refine v_s mt_51 rfl rfl rfl ?_
          refine v_bp (v := Int32.ofInt 99) mt_51 rfl rfl ?_
          refine v_s mt_51 rfl rfl rfl ?_
          refine v_gr (w := (r0 + 6)) 5 mt_51 rfl rfl h0 (by decide) (g_6_5 h0) ?_
          refine v_s mt_51 rfl rfl rfl ?_
          refine j_al (w := J1 (r0 + 6) x5.toNat) mt_51 rfl (shS r0 (SH_lt h0) h0).2.2.2.2.2 z5 (by decide) ((up_na (by clear h; omega)).trans rfl) ?_
          refine v_s mt_51 rfl rfl rfl ?_
          refine j_add (e := (J1 (r0 + 6) x5.toNat) + (max 0 (c2 - (J1 (r0 + 5) x5.toNat)))) mt_51 rfl rfl ?_
          obtain ⟨z10, h⟩ := h
          refine j_min mt_51 rfl (Nat.le_of_ble_eq_true rfl) ⟨by decide, by decide⟩ z10 ?_
          refine j_as mt_51 rfl (shS r0 (SH_lt h0) h0).2.2.2.2.2 z5 (by decide) ?_
          refine v_s mt_51 rfl rfl rfl ?_
          refine v_s mt_51 rfl rfl rfl ?_
          refine j_gi (w := J1 r0 8) 8 mt_51 rfl rfl h0 (by decide) ((up_na (sh_ne h0 (shS r0 (SH_lt h0) h0).2.2.2.2.2 (by decide))).trans ((up_na (sh_ne h0 (shS r0 (SH_lt h0) h0).2.2.2.2.1 (by decide))).trans rfl)) ?_
          refine v_ic (v := Int32.ofInt 1) mt_51 rfl rfl ?_
          refine j_sub (e := (J1 r0 8) - 1) mt_51 rfl rfl ?_
          refine j_pi 8 mt_51 rfl rfl h0 (by decide) ?_
          refine v_s mt_51 rfl rfl rfl ?_
          refine v_gr (w := (r0 + 1)) 0 mt_51 rfl rfl h0 (by decide) (g_6_0 h0) ?_
          refine v_s mt_51 rfl rfl rfl ?_
          refine v_s mt_51 rfl rfl rfl ?_
          refine j_al (w := J1 (r0 + 1) x4.toNat) mt_51 rfl (shS r0 (SH_lt h0) h0).1 z2 (by decide) ((up_na (sh_ne (shS r0 (SH_lt h0) h0).1 h0 (by decide))).trans ((up_na (sh_ne (shS r0 (SH_lt h0) h0).1 (shS r0 (SH_lt h0) h0).2.2.2.2.2 (by decide))).trans ((up_na (sh_ne (shS r0 (SH_lt h0) h0).1 (shS r0 (SH_lt h0) h0).2.2.2.2.1 (by decide))).trans rfl))) ?_
          refine v_ic (v := Int32.ofInt 1) mt_51 rfl rfl ?_
          refine j_add (e := (J1 (r0 + 1) x4.toNat) + 1) mt_51 rfl rfl ?_
          refine j_as mt_51 rfl (shS r0 (SH_lt h0) h0).1 z2 (by decide) ?_
          refine v_s mt_51 rfl rfl rfl ?_
          refine v_gr (w := (r1 + 2)) 7 mt_51 rfl rfl h1 (by decide) (g_9_7 h1) ?_
          refine v_s mt_51 rfl rfl rfl ?_
          obtain ⟨z11, h⟩ := h
          refine j_al (w := J1 (r1 + 2) x3.toNat) mt_51 rfl (shV r1 (SH_lt h1) h1).2.1 z11 (by decide) ((up_na (by have := bnd_9 h1; have := bnd_6 h0; clear h; omega)).trans ((up_na (sh_ne (shV r1 (SH_lt h1) h1).2.1 h0 (by decide))).trans ((up_na (sh_ne (shV r1 (SH_lt h1) h1).2.1 (shS r0 (SH_lt h0) h0).2.2.2.2.2 (by decide))).trans ((up_na (sh_ne (shV r1 (SH_lt h1) h1).2.1 (shS r0 (SH_lt h0) h0).2.2.2.2.1 (by decide))).trans rfl)))) ?_
          refine v_ic (v := Int32.ofInt 5) mt_51 rfl rfl ?_
          obtain ⟨z12, h⟩ := h
          refine j_if2 mt_51 rfl rfl z12 ⟨by decide, by decide⟩ (fun c => ?_) (fun c => ?_)
          · replace h := h.1 c
            refine v_s mt_51 rfl rfl rfl ?_
            refine v_gr (w := (r0 + 4)) 3 mt_51 rfl rfl h0 (by decide) (g_6_3 h0) ?_
            refine v_s mt_51 rfl rfl rfl ?_
            refine v_s mt_51 rfl rfl rfl ?_
            refine j_al (w := J1 (r0 + 4) x3.toNat) mt_51 rfl (shS r0 (SH_lt h0) h0).2.2.2.1 z11 (by decide) ((up_na (by clear h; omega)).trans ((up_na (sh_ne (shS r0 (SH_lt h0) h0).2.2.2.1 h0 (by decide))).trans ((up_na (sh_ne (shS r0 (SH_lt h0) h0).2.2.2.1 (shS r0 (SH_lt h0) h0).2.2.2.2.2 (by decide))).trans ((up_na (sh_ne (shS r0 (SH_lt h0) h0).2.2.2.1 (shS r0 (SH_lt h0) h0).2.2.2.2.1 (by decide))).trans rfl)))) ?_
            refine v_ic (v := Int32.ofInt 1) mt_51 rfl rfl ?_
            refine j_add (e := (J1 (r0 + 4) x3.toNat) + 1) mt_51 rfl rfl ?_
            refine j_as mt_51 rfl (shS r0 (SH_lt h0) h0).2.2.2.1 z11 (by decide) ?_
            refine v_s mt_51 rfl rfl rfl ?_
            refine v_s mt_51 rfl rfl rfl ?_
            refine j_gi (w := J1 r0 6) 6 mt_51 rfl rfl h0 (by decide) ((up_na (sh_ne h0 (shS r0 (SH_lt h0) h0).2.2.2.1 (by decide))).trans ((up_na (sh_ne h0 (shS r0 (SH_lt h0) h0).1 (by decide))).trans ((up_nk (by decide)).trans ((up_na (sh_ne h0 (shS r0 (SH_lt h0) h0).2.2.2.2.2 (by decide))).trans ((up_na (sh_ne h0 (shS r0 (SH_lt h0) h0).2.2.2.2.1 (by decide))).trans rfl))))) ?_
            refine v_ic (v := Int32.ofInt 1) mt_51 rfl rfl ?_
            refine v_s mt_51 rfl rfl rfl ?_
            refine j_shl (e := bShl 1 x3) mt_51 rfl rfl ?_
            refine j_or (e := bOr (J1 r0 6) (bShl 1 x3)) mt_51 rfl rfl ?_
            refine j_pi 6 mt_51 rfl rfl h0 (by decide) ?_
            refine v_ic (v := Int32.ofInt 1) mt_51 rfl rfl ?_
            exact j_retb mt_51 rfl rfl (by decide) h
          · replace h := h.2 (Int.not_lt.mp c)
            refine v_s mt_51 rfl rfl rfl ?_
            refine v_gr (w := (r0 + 2)) 1 mt_51 rfl rfl h0 (by decide) (g_6_1 h0) ?_
            refine v_s mt_51 rfl rfl rfl ?_
            refine v_s mt_51 rfl rfl rfl ?_
            refine j_al (w := J1 (r0 + 2) x4.toNat) mt_51 rfl (shS r0 (SH_lt h0) h0).2.1 z2 (by decide) ((up_na (by clear h; omega)).trans ((up_na (sh_ne (shS r0 (SH_lt h0) h0).2.1 h0 (by decide))).trans ((up_na (sh_ne (shS r0 (SH_lt h0) h0).2.1 (shS r0 (SH_lt h0) h0).2.2.2.2.2 (by decide))).trans ((up_na (sh_ne (shS r0 (SH_lt h0) h0).2.1 (shS r0 (SH_lt h0) h0).2.2.2.2.1 (by decide))).trans rfl)))) ?_
            refine v_ic (v := Int32.ofInt 1) mt_51 rfl rfl ?_
            refine j_add (e := (J1 (r0 + 2) x4.toNat) + 1) mt_51 rfl rfl ?_
            refine j_as mt_51 rfl (shS r0 (SH_lt h0) h0).2.1 z2 (by decide) ?_
            refine v_s mt_51 rfl rfl rfl ?_
            refine v_gr (w := (r0 + 4)) 3 mt_51 rfl rfl h0 (by decide) (g_6_3 h0) ?_
            refine v_s mt_51 rfl rfl rfl ?_
            refine v_s mt_51 rfl rfl rfl ?_
            refine j_al (w := J1 (r0 + 4) x3.toNat) mt_51 rfl (shS r0 (SH_lt h0) h0).2.2.2.1 z11 (by decide) ((up_na (by clear h; omega)).trans ((up_na (by clear h; omega)).trans ((up_na (sh_ne (shS r0 (SH_lt h0) h0).2.2.2.1 h0 (by decide))).trans ((up_na (sh_ne (shS r0 (SH_lt h0) h0).2.2.2.1 (shS r0 (SH_lt h0) h0).2.2.2.2.2 (by decide))).trans ((up_na (sh_ne (shS r0 (SH_lt h0) h0).2.2.2.1 (shS r0 (SH_lt h0) h0).2.2.2.2.1 (by decide))).trans rfl))))) ?_
            refine v_ic (v := Int32.ofInt 1) mt_51 rfl rfl ?_
            refine j_add (e := (J1 (r0 + 4) x3.toNat) + 1) mt_51 rfl rfl ?_
            refine j_as mt_51 rfl (shS r0 (SH_lt h0) h0).2.2.2.1 z11 (by decide) ?_
            refine v_s mt_51 rfl rfl rfl ?_
            refine v_s mt_51 rfl rfl rfl ?_
            refine j_gi (w := J1 r0 6) 6 mt_51 rfl rfl h0 (by decide) ((up_na (sh_ne h0 (shS r0 (SH_lt h0) h0).2.2.2.1 (by decide))).trans ((up_na (sh_ne h0 (shS r0 (SH_lt h0) h0).2.1 (by decide))).trans ((up_na (sh_ne h0 (shS r0 (SH_lt h0) h0).1 (by decide))).trans ((up_nk (by decide)).trans ((up_na (sh_ne h0 (shS r0 (SH_lt h0) h0).2.2.2.2.2 (by decide))).trans ((up_na (sh_ne h0 (shS r0 (SH_lt h0) h0).2.2.2.2.1 (by decide))).trans rfl)))))) ?_
            refine v_ic (v := Int32.ofInt 1) mt_51 rfl rfl ?_
            refine v_s mt_51 rfl rfl rfl ?_
            refine j_shl (e := bShl 1 x3) mt_51 rfl rfl ?_
            refine j_or (e := bOr (J1 r0 6) (bShl 1 x3)) mt_51 rfl rfl ?_
            refine j_pi 6 mt_51 rfl rfl h0 (by decide) ?_
            refine v_ic (v := Int32.ofInt 1) mt_51 rfl rfl ?_
            exact j_retb mt_51 rfl rfl (by decide) h
      · replace h := h.2 c
        refine v_ic (v := Int32.ofInt 1) mt_47 rfl rfl ?_
        refine v_go mt_47 rfl rfl ?_
        refine j_retb mt_47 rfl rfl (by decide) ?_
        refine j_if1 mt_50 rfl rfl ⟨by decide, by decide⟩ (fun _ => ?_) (fun c => (c (show ¬ (1 : Int) = 0 by decide)).elim)
        refine v_ic (v := Int32.ofInt 0) mt_50 rfl rfl ?_
        refine j_retb mt_50 rfl rfl (by decide) ?_
        refine j_if1 mt_51 rfl rfl ⟨by decide, by decide⟩ (fun c => absurd (show ¬ (0 : Int) = 0 from c) (by decide)) (fun _ => ?_)
        refine v_ic (v := Int32.ofInt 0) mt_51 rfl rfl ?_
        exact j_retb mt_51 rfl rfl (by decide) h
    · replace h := h.2 (Int.not_lt.mp c)
      refine v_ic (v := Int32.ofInt 1) mt_45 rfl rfl ?_
      refine v_go mt_45 rfl rfl ?_
      refine j_retb mt_45 rfl rfl (by decide) ?_
      refine j_if1 mt_50 rfl rfl ⟨by decide, by decide⟩ (fun _ => ?_) (fun c => (c (show ¬ (1 : Int) = 0 by decide)).elim)
      refine v_ic (v := Int32.ofInt 0) mt_50 rfl rfl ?_
      refine j_retb mt_50 rfl rfl (by decide) ?_
      refine j_if1 mt_51 rfl rfl ⟨by decide, by decide⟩ (fun c => absurd (show ¬ (0 : Int) = 0 from c) (by decide)) (fun _ => ?_)
      refine v_ic (v := Int32.ofInt 0) mt_51 rfl rfl ?_
      exact j_retb mt_51 rfl rfl (by decide) h
set_option maxHeartbeats 600000 in
theorem b_52_0 {X : Nat × (Nat → Int32)} {d : Nat} {J : Nat → Nat → Int} {sw : Bool × Bool × Bool} {lg : Nat → Nat → Int64} {x : Nat} {K : (Option Value ⊕ Nat) → mM → Prop} {r0 r1 : Nat} {x2 x3 : Int} (h0 : SH[r0]? = some (11, 9)) (h1 : SH[r1]? = some (14, 12)) (hd : 1 ≤ d)
    (h : (0 ≤ x2 ∧ x2 < 6) ∧ InR (J (r0 + 1) x2.toNat) ∧ InR (J (r1 + 1) x2.toNat) ∧ (J (r0 + 1) x2.toNat < J (r1 + 1) x2.toNat → K (.inl (some (iv 0))) (mj J sw lg x)) ∧ (J (r1 + 1) x2.toNat ≤ J (r0 + 1) x2.toNat → (InR (J (r0 + 3) x2.toNat) ∧ InR x3 ∧ (¬ J (r0 + 3) x2.toNat = x3 → K (.inl (some (iv 1))) (mj (m_up J (r0 + 3) x2.toNat x3) sw lg x)) ∧ (J (r0 + 3) x2.toNat = x3 → K (.inl (some (iv 0))) (mj J sw lg x))))) : VV X d 52 (0, [some (.ref r0), some (.ref r1), some (iv x2), some (iv x3)], [], mj J sw lg x) K := by
  refine v_s mt_52 rfl rfl rfl ?_
  refine v_s mt_52 rfl rfl rfl ?_
  refine v_s mt_52 rfl rfl rfl ?_
  refine v_inl (L1 := [some (.ref r0), some (.ref r1), some (iv x2)]) mt_52 rfl rfl mt_45 rfl rfl (m_callj (As := [.ref r1, iv x2]) (rest := []) rfl rfl h0 rfl (Nat.le_of_ble_eq_true rfl) (Nat.le_of_ble_eq_true rfl)) rfl (by clear h; omega) ?_
  refine v_s mt_45 rfl rfl rfl ?_
  refine v_gr (w := (r0 + 1)) 0 mt_45 rfl rfl h0 (by decide) (g_6_0 h0) ?_
  refine v_s mt_45 rfl rfl rfl ?_
  obtain ⟨z1, h⟩ := h
  refine j_al (w := J (r0 + 1) x2.toNat) mt_45 rfl (shS r0 (SH_lt h0) h0).1 z1 (by decide) rfl ?_
  refine v_s mt_45 rfl rfl rfl ?_
  refine v_gr (w := (r1 + 1)) 6 mt_45 rfl rfl h1 (by decide) (g_9_6 h1) ?_
  refine v_s mt_45 rfl rfl rfl ?_
  refine j_al (w := J (r1 + 1) x2.toNat) mt_45 rfl (shV r1 (SH_lt h1) h1).1 z1 (by decide) rfl ?_
  obtain ⟨z2, h⟩ := h
  obtain ⟨z3, h⟩ := h
  refine j_if2 mt_45 rfl rfl z2 z3 (fun c => ?_) (fun c => ?_)
  · replace h := h.1 c
    refine v_ic (v := Int32.ofInt 0) mt_45 rfl rfl ?_
    refine j_retb mt_45 rfl rfl (by decide) ?_
    refine j_if1 mt_52 rfl rfl ⟨by decide, by decide⟩ (fun _ => ?_) (fun c => (c (show (0 : Int) = 0 by decide)).elim)
    refine v_ic (v := Int32.ofInt 0) mt_52 rfl rfl ?_
    exact j_retb mt_52 rfl rfl (by decide) h
  · replace h := h.2 (Int.not_lt.mp c)
    refine v_ic (v := Int32.ofInt 1) mt_45 rfl rfl ?_
    refine v_go mt_45 rfl rfl ?_
    refine j_retb mt_45 rfl rfl (by decide) ?_
    refine j_if1 mt_52 rfl rfl ⟨by decide, by decide⟩ (fun c => absurd (show (1 : Int) = 0 from c) (by decide)) (fun _ => ?_)
    refine v_s mt_52 rfl rfl rfl ?_
    refine v_gr (w := (r0 + 3)) 2 mt_52 rfl rfl h0 (by decide) (g_6_2 h0) ?_
    refine v_s mt_52 rfl rfl rfl ?_
    refine j_al (w := J (r0 + 3) x2.toNat) mt_52 rfl (shS r0 (SH_lt h0) h0).2.2.1 z1 (by decide) rfl ?_
    refine v_s mt_52 rfl rfl rfl ?_
    obtain ⟨z4, h⟩ := h
    obtain ⟨z5, h⟩ := h
    refine j_if2 mt_52 rfl rfl z4 z5 (fun c => ?_) (fun c => ?_)
    · replace h := h.1 c
      refine v_s mt_52 rfl rfl rfl ?_
      refine v_gr (w := (r0 + 3)) 2 mt_52 rfl rfl h0 (by decide) (g_6_2 h0) ?_
      refine v_s mt_52 rfl rfl rfl ?_
      refine v_s mt_52 rfl rfl rfl ?_
      refine j_as mt_52 rfl (shS r0 (SH_lt h0) h0).2.2.1 z1 (by decide) ?_
      refine v_ic (v := Int32.ofInt 1) mt_52 rfl rfl ?_
      exact j_retb mt_52 rfl rfl (by decide) h
    · replace h := h.2 (Decidable.not_not.mp c)
      refine v_ic (v := Int32.ofInt 0) mt_52 rfl rfl ?_
      exact j_retb mt_52 rfl rfl (by decide) h
set_option maxHeartbeats 600000 in
theorem b_54_0 {X : Nat × (Nat → Int32)} {d : Nat} {J : Nat → Nat → Int} {sw : Bool × Bool × Bool} {lg : Nat → Nat → Int64} {x : Nat} {K : (Option Value ⊕ Nat) → mM → Prop} {r0 : Nat} {x1 : Int} {o2 : Option Value} (h0 : SH[r0]? = some (11, 9))
    (h : (0 ≤ x1 ∧ x1 < 9) ∧ InR (J (r0 + 6) x1.toNat) ∧ (¬ J (r0 + 6) x1.toNat = 0 → (InR ((J (r0 + 5) x1.toNat) + (J (r0 + 6) x1.toNat)) ∧ InR ((J r0 8) + (bDiv (J (r0 + 6) x1.toNat) 2)) ∧ K (.inl (some (iv 1))) (mj (m_up (m_up (m_up J (r0 + 5) x1.toNat (min 99 ((J (r0 + 5) x1.toNat) + (J (r0 + 6) x1.toNat)))) (r0 + 6) x1.toNat 0) r0 8 (min 99 ((J r0 8) + (bDiv (J (r0 + 6) x1.toNat) 2)))) sw lg x))) ∧ (J (r0 + 6) x1.toNat = 0 → K (.inl (some (iv 0))) (mj J sw lg x))) : VV X d 54 (0, [some (.ref r0), some (iv x1), o2], [], mj J sw lg x) K := by
  refine v_s mt_54 rfl rfl rfl ?_
  refine v_gr (w := (r0 + 6)) 5 mt_54 rfl rfl h0 (by decide) (g_6_5 h0) ?_
  refine v_s mt_54 rfl rfl rfl ?_
  obtain ⟨z1, h⟩ := h
  refine j_al (w := J (r0 + 6) x1.toNat) mt_54 rfl (shS r0 (SH_lt h0) h0).2.2.2.2.2 z1 (by decide) rfl ?_
  refine v_isn (L' := [some (.ref r0), some (iv x1), some (iv (J (r0 + 6) x1.toNat))]) mt_54 rfl (Nat.le_of_ble_eq_true rfl) rfl ?_
  refine v_s mt_54 rfl rfl rfl ?_
  obtain ⟨z2, h⟩ := h
  refine j_if1 mt_54 rfl rfl z2 (fun c => ?_) (fun c => ?_)
  · replace h := h.1 c
    refine v_s mt_54 rfl rfl rfl ?_
    refine v_gr (w := (r0 + 5)) 4 mt_54 rfl rfl h0 (by decide) (g_6_4 h0) ?_
    refine v_s mt_54 rfl rfl rfl ?_
    refine v_bp (v := Int32.ofInt 99) mt_54 rfl rfl ?_
    refine v_s mt_54 rfl rfl rfl ?_
    refine v_gr (w := (r0 + 5)) 4 mt_54 rfl rfl h0 (by decide) (g_6_4 h0) ?_
    refine v_s mt_54 rfl rfl rfl ?_
    refine j_al (w := J (r0 + 5) x1.toNat) mt_54 rfl (shS r0 (SH_lt h0) h0).2.2.2.2.1 z1 (by decide) rfl ?_
    refine v_s mt_54 rfl rfl rfl ?_
    refine j_add (e := (J (r0 + 5) x1.toNat) + (J (r0 + 6) x1.toNat)) mt_54 rfl rfl ?_
    obtain ⟨z3, h⟩ := h
    refine j_min mt_54 rfl (Nat.le_of_ble_eq_true rfl) ⟨by decide, by decide⟩ z3 ?_
    refine j_as mt_54 rfl (shS r0 (SH_lt h0) h0).2.2.2.2.1 z1 (by decide) ?_
    refine v_s mt_54 rfl rfl rfl ?_
    refine v_gr (w := (r0 + 6)) 5 mt_54 rfl rfl h0 (by decide) (g_6_5 h0) ?_
    refine v_s mt_54 rfl rfl rfl ?_
    refine v_ic (v := Int32.ofInt 0) mt_54 rfl rfl ?_
    refine j_as mt_54 rfl (shS r0 (SH_lt h0) h0).2.2.2.2.2 z1 (by decide) ?_
    refine v_s mt_54 rfl rfl rfl ?_
    refine v_bp (v := Int32.ofInt 99) mt_54 rfl rfl ?_
    refine v_s mt_54 rfl rfl rfl ?_
    refine j_gi (w := J r0 8) 8 mt_54 rfl rfl h0 (by decide) ((up_na (sh_ne h0 (shS r0 (SH_lt h0) h0).2.2.2.2.2 (by decide))).trans ((up_na (sh_ne h0 (shS r0 (SH_lt h0) h0).2.2.2.2.1 (by decide))).trans rfl)) ?_
    refine v_s mt_54 rfl rfl rfl ?_
    refine v_ic (v := Int32.ofInt 2) mt_54 rfl rfl ?_
    refine j_div (e := bDiv (J (r0 + 6) x1.toNat) 2) mt_54 rfl ⟨by decide, by decide⟩ (by decide) rfl ?_
    refine j_add (e := (J r0 8) + (bDiv (J (r0 + 6) x1.toNat) 2)) mt_54 rfl rfl ?_
    obtain ⟨z4, h⟩ := h
    refine j_min mt_54 rfl (Nat.le_of_ble_eq_true rfl) ⟨by decide, by decide⟩ z4 ?_
    refine j_pi 8 mt_54 rfl rfl h0 (by decide) ?_
    refine v_ic (v := Int32.ofInt 1) mt_54 rfl rfl ?_
    exact j_retb mt_54 rfl rfl (by decide) h
  · replace h := h.2 (Decidable.not_not.mp c)
    refine v_ic (v := Int32.ofInt 0) mt_54 rfl rfl ?_
    exact j_retb mt_54 rfl rfl (by decide) h
set_option maxHeartbeats 600000 in
theorem b_80_0 {X : Nat × (Nat → Int32)} {d : Nat} {J : Nat → Nat → Int} {sw : Bool × Bool × Bool} {lg : Nat → Nat → Int64} {x : Nat} {K : (Option Value ⊕ Nat) → mM → Prop} {r1 r2 r3 : Nat} {x4 : Int} {o5 : Option Value} (h1 : SH[r1]? = some (11, 9)) (h2 : SH[r2]? = some (14, 12)) (h3 : SH[r3]? = some (8, 4)) (hd : 4 ≤ d)
    (h : (0 ≤ x4 ∧ x4 < 150) ∧ InR (J 36 x4.toNat) ∧ (J 36 x4.toNat = 0 → (∃ (c2 : Int) (J1 : Nat → Nat → Int), EE X 3 51 [.ref r1, .ref r2, .ref r3, iv (J 37 x4.toNat), iv (J 38 x4.toNat), iv (J 39 x4.toNat)] (mj J sw lg x) (.inl (some (iv c2))) (mj J1 sw lg x) ∧ (c2 = 0 ∨ c2 = 1) ∧ K (.inl (some (iv c2))) (mj J1 sw lg x))) ∧ (J 36 x4.toNat = 1 → (∃ (c4 : Int) (J3 : Nat → Nat → Int), EE X 1 52 [.ref r1, .ref r2, iv (J 37 x4.toNat), iv (J 38 x4.toNat)] (mj J sw lg x) (.inl (some (iv c4))) (mj J3 sw lg x) ∧ (c4 = 0 ∨ c4 = 1) ∧ K (.inl (some (iv c4))) (mj J3 sw lg x))) ∧ (J 36 x4.toNat = 2 → ((0 ≤ J 37 x4.toNat ∧ J 37 x4.toNat < 6) ∧ InR (J (r1 + 3) ((J 37 x4.toNat).toNat)) ∧ (¬ J (r1 + 3) ((J 37 x4.toNat).toNat) = (-1) → K (.inl (some (iv 1))) (mj (m_up J (r1 + 3) ((J 37 x4.toNat).toNat) (-1)) sw lg x)) ∧ (J (r1 + 3) ((J 37 x4.toNat).toNat) = (-1) → K (.inl (some (iv 0))) (mj J sw lg x)))) ∧ (J 36 x4.toNat = 3 → (∃ (c6 : Int) (J5 : Nat → Nat → Int), EE X 0 54 [.ref r1, iv (J 37 x4.toNat)] (mj J sw lg x) (.inl (some (iv c6))) (mj J5 sw lg x) ∧ (c6 = 0 ∨ c6 = 1) ∧ K (.inl (some (iv c6))) (mj J5 sw lg x))) ∧ (J 36 x4.toNat = 4 → (InR (J r1 8) ∧ (J r1 8 < 99 → (InR ((J r1 8) + (J 37 x4.toNat)) ∧ K (.inl (some (iv 1))) (mj (m_up J r1 8 (min 99 ((J r1 8) + (J 37 x4.toNat)))) sw lg x))) ∧ (99 ≤ J r1 8 → K (.inl (some (iv 0))) (mj J sw lg x)))) ∧ (J 36 x4.toNat < 0 ∨ 4 < J 36 x4.toNat → (InR (J r1 7) ∧ (J r1 7 < 600 → (∃ (J7 : Nat → Nat → Int), EE X 2 57 [.ref r1, .ref r2] (mj J sw lg x) (.inl none) (mj J7 sw lg x) ∧ K (.inl (some (iv 1))) (mj J7 sw lg x))) ∧ (600 ≤ J r1 7 → K (.inl (some (iv 0))) (mj J sw lg x))))) : VV X d 80 (0, [some (.ref 35), some (.ref r1), some (.ref r2), some (.ref r3), some (iv x4), o5], [], mj J sw lg x) K := by
  refine v_s mt_80 rfl rfl rfl ?_
  refine v_gr (w := 37) 4 mt_80 rfl rfl c_35 (by decide) (g_7_4 c_35) ?_
  refine v_s mt_80 rfl rfl rfl ?_
  obtain ⟨z1, h⟩ := h
  refine j_al (w := J 37 x4.toNat) mt_80 rfl c_37 z1 (by decide) rfl ?_
  refine v_is (L' := [some (.ref 35), some (.ref r1), some (.ref r2), some (.ref r3), some (iv x4), some (iv (J 37 x4.toNat))]) mt_80 rfl (Nat.le_of_ble_eq_true rfl) rfl ?_
  refine v_s mt_80 rfl rfl rfl ?_
  refine v_gr (w := 36) 3 mt_80 rfl rfl c_35 (by decide) (g_7_3 c_35) ?_
  refine v_s mt_80 rfl rfl rfl ?_
  refine j_al (w := J 36 x4.toNat) mt_80 rfl c_36 z1 (by decide) rfl ?_
  obtain ⟨z2, h⟩ := h
  by_cases c : J 36 x4.toNat = 0
  · replace h := h.1 c
    refine j_si 0 mt_80 rfl ⟨by decide, by decide⟩ c (by decide) rfl rfl ?_
    refine v_s mt_80 rfl rfl rfl ?_
    refine v_s mt_80 rfl rfl rfl ?_
    refine v_s mt_80 rfl rfl rfl ?_
    refine v_s mt_80 rfl rfl rfl ?_
    refine v_s mt_80 rfl rfl rfl ?_
    refine v_gr (w := 38) 5 mt_80 rfl rfl c_35 (by decide) (g_7_5 c_35) ?_
    refine v_s mt_80 rfl rfl rfl ?_
    refine j_al (w := J 38 x4.toNat) mt_80 rfl c_38 z1 (by decide) rfl ?_
    refine v_s mt_80 rfl rfl rfl ?_
    refine v_gr (w := 39) 6 mt_80 rfl rfl c_35 (by decide) (g_7_6 c_35) ?_
    refine v_s mt_80 rfl rfl rfl ?_
    refine j_al (w := J 39 x4.toNat) mt_80 rfl c_39 z1 (by decide) rfl ?_
    obtain ⟨c2, J1, z3, h⟩ := h
    refine v_call (d1 := 3) mt_80 rfl rfl mt_51 rfl rfl (m_callj (As := [.ref r2, .ref r3, iv (J 37 x4.toNat), iv (J 38 x4.toNat), iv (J 39 x4.toNat)]) (rest := []) rfl rfl h1 rfl (Nat.le_of_ble_eq_true rfl) (Nat.le_of_ble_eq_true rfl)) z3 (by clear h; omega) ?_
    obtain ⟨z4, h⟩ := h
    exact j_retb mt_80 rfl rfl z4 h
  have c0 := c
  replace h := h.2
  by_cases c : J 36 x4.toNat = 1
  · replace h := h.1 c
    refine j_si 1 mt_80 rfl ⟨by decide, by decide⟩ c (by decide) rfl rfl ?_
    refine v_s mt_80 rfl rfl rfl ?_
    refine v_s mt_80 rfl rfl rfl ?_
    refine v_s mt_80 rfl rfl rfl ?_
    refine v_s mt_80 rfl rfl rfl ?_
    refine v_gr (w := 38) 5 mt_80 rfl rfl c_35 (by decide) (g_7_5 c_35) ?_
    refine v_s mt_80 rfl rfl rfl ?_
    refine j_al (w := J 38 x4.toNat) mt_80 rfl c_38 z1 (by decide) rfl ?_
    obtain ⟨c4, J3, z5, h⟩ := h
    refine v_call (d1 := 1) mt_80 rfl rfl mt_52 rfl rfl (m_callj (As := [.ref r2, iv (J 37 x4.toNat), iv (J 38 x4.toNat)]) (rest := []) rfl rfl h1 rfl (Nat.le_of_ble_eq_true rfl) (Nat.le_of_ble_eq_true rfl)) z5 (by clear h; omega) ?_
    obtain ⟨z6, h⟩ := h
    exact j_retb mt_80 rfl rfl z6 h
  have c1 := c
  replace h := h.2
  by_cases c : J 36 x4.toNat = 2
  · replace h := h.1 c
    refine j_si 2 mt_80 rfl ⟨by decide, by decide⟩ c (by decide) rfl rfl ?_
    refine v_s mt_80 rfl rfl rfl ?_
    refine v_s mt_80 rfl rfl rfl ?_
    refine v_inl (L1 := [some (.ref r1), some (iv (J 37 x4.toNat))]) mt_80 rfl rfl mt_53 rfl rfl (m_callj (As := [iv (J 37 x4.toNat)]) (rest := []) rfl rfl h1 rfl (Nat.le_of_ble_eq_true rfl) (Nat.le_of_ble_eq_true rfl)) rfl (by clear h; omega) ?_
    refine v_s mt_53 rfl rfl rfl ?_
    refine v_gr (w := (r1 + 3)) 2 mt_53 rfl rfl h1 (by decide) (g_6_2 h1) ?_
    refine v_s mt_53 rfl rfl rfl ?_
    obtain ⟨z7, h⟩ := h
    refine j_al (w := J (r1 + 3) ((J 37 x4.toNat).toNat)) mt_53 rfl (shS r1 (SH_lt h1) h1).2.2.1 z7 (by decide) rfl ?_
    refine v_ic (v := Int32.ofInt (-1)) mt_53 rfl rfl ?_
    obtain ⟨z8, h⟩ := h
    refine j_if2 mt_53 rfl rfl z8 ⟨by decide, by decide⟩ (fun c => ?_) (fun c => ?_)
    · replace h := h.1 c
      refine v_s mt_53 rfl rfl rfl ?_
      refine v_gr (w := (r1 + 3)) 2 mt_53 rfl rfl h1 (by decide) (g_6_2 h1) ?_
      refine v_s mt_53 rfl rfl rfl ?_
      refine v_ic (v := Int32.ofInt (-1)) mt_53 rfl rfl ?_
      refine j_as mt_53 rfl (shS r1 (SH_lt h1) h1).2.2.1 z7 (by decide) ?_
      refine v_ic (v := Int32.ofInt 1) mt_53 rfl rfl ?_
      refine j_retb mt_53 rfl rfl (by decide) ?_
      exact j_retb mt_80 rfl rfl (by decide) h
    · replace h := h.2 (Decidable.not_not.mp c)
      refine v_ic (v := Int32.ofInt 0) mt_53 rfl rfl ?_
      refine j_retb mt_53 rfl rfl (by decide) ?_
      exact j_retb mt_80 rfl rfl (by decide) h
  have c2 := c
  replace h := h.2
  by_cases c : J 36 x4.toNat = 3
  · replace h := h.1 c
    refine j_si 3 mt_80 rfl ⟨by decide, by decide⟩ c (by decide) rfl rfl ?_
    refine v_s mt_80 rfl rfl rfl ?_
    refine v_s mt_80 rfl rfl rfl ?_
    obtain ⟨c6, J5, z9, h⟩ := h
    refine v_call (d1 := 0) mt_80 rfl rfl mt_54 rfl rfl (m_callj (As := [iv (J 37 x4.toNat)]) (rest := []) rfl rfl h1 rfl (Nat.le_of_ble_eq_true rfl) (Nat.le_of_ble_eq_true rfl)) z9 (by clear h; omega) ?_
    obtain ⟨z10, h⟩ := h
    exact j_retb mt_80 rfl rfl z10 h
  have c3 := c
  replace h := h.2
  by_cases c : J 36 x4.toNat = 4
  · replace h := h.1 c
    refine j_si 4 mt_80 rfl ⟨by decide, by decide⟩ c (by decide) rfl rfl ?_
    refine v_s mt_80 rfl rfl rfl ?_
    refine v_s mt_80 rfl rfl rfl ?_
    refine v_inl (L1 := [some (.ref r1), some (iv (J 37 x4.toNat))]) mt_80 rfl rfl mt_55 rfl rfl (m_callj (As := [iv (J 37 x4.toNat)]) (rest := []) rfl rfl h1 rfl (Nat.le_of_ble_eq_true rfl) (Nat.le_of_ble_eq_true rfl)) rfl (by clear h; omega) ?_
    refine v_s mt_55 rfl rfl rfl ?_
    refine j_gi (w := J r1 8) 8 mt_55 rfl rfl h1 (by decide) rfl ?_
    refine v_bp (v := Int32.ofInt 99) mt_55 rfl rfl ?_
    obtain ⟨z11, h⟩ := h
    refine j_if2 mt_55 rfl rfl z11 ⟨by decide, by decide⟩ (fun c => ?_) (fun c => ?_)
    · replace h := h.1 c
      refine v_s mt_55 rfl rfl rfl ?_
      refine v_bp (v := Int32.ofInt 99) mt_55 rfl rfl ?_
      refine v_s mt_55 rfl rfl rfl ?_
      refine j_gi (w := J r1 8) 8 mt_55 rfl rfl h1 (by decide) rfl ?_
      refine v_s mt_55 rfl rfl rfl ?_
      refine j_add (e := (J r1 8) + (J 37 x4.toNat)) mt_55 rfl rfl ?_
      obtain ⟨z12, h⟩ := h
      refine j_min mt_55 rfl (Nat.le_of_ble_eq_true rfl) ⟨by decide, by decide⟩ z12 ?_
      refine j_pi 8 mt_55 rfl rfl h1 (by decide) ?_
      refine v_ic (v := Int32.ofInt 1) mt_55 rfl rfl ?_
      refine j_retb mt_55 rfl rfl (by decide) ?_
      exact j_retb mt_80 rfl rfl (by decide) h
    · replace h := h.2 (Int.not_lt.mp c)
      refine v_ic (v := Int32.ofInt 0) mt_55 rfl rfl ?_
      refine j_retb mt_55 rfl rfl (by decide) ?_
      exact j_retb mt_80 rfl rfl (by decide) h
  have c4 := c
  replace h := h.2
  have hz : J 36 x4.toNat < 0 ∨ 4 < J 36 x4.toNat := sw_0_4 c0 c1 c2 c3 c4
  replace h := h hz
  refine j_sd mt_80 rfl z2 hz rfl ?_
  refine v_s mt_80 rfl rfl rfl ?_
  refine v_s mt_80 rfl rfl rfl ?_
  refine v_inl (L1 := [some (.ref r1), some (.ref r2)]) mt_80 rfl rfl mt_56 rfl rfl (m_callj (As := [.ref r2]) (rest := []) rfl rfl h1 rfl (Nat.le_of_ble_eq_true rfl) (Nat.le_of_ble_eq_true rfl)) rfl (by clear h; omega) ?_
  refine v_s mt_56 rfl rfl rfl ?_
  refine j_gi (w := J r1 7) 7 mt_56 rfl rfl h1 (by decide) rfl ?_
  refine v_sp (v := Int32.ofInt 600) mt_56 rfl rfl ?_
  obtain ⟨z13, h⟩ := h
  refine j_if2 mt_56 rfl rfl z13 ⟨by decide, by decide⟩ (fun c => ?_) (fun c => ?_)
  · replace h := h.1 c
    refine v_s mt_56 rfl rfl rfl ?_
    refine v_s mt_56 rfl rfl rfl ?_
    obtain ⟨J7, z14, h⟩ := h
    refine v_call (d1 := 2) mt_56 rfl rfl mt_57 rfl rfl (m_callj (As := [.ref r2]) (rest := []) rfl rfl h1 rfl (Nat.le_of_ble_eq_true rfl) (Nat.le_of_ble_eq_true rfl)) z14 (by clear h; omega) ?_
    refine v_ic (v := Int32.ofInt 1) mt_56 rfl rfl ?_
    refine j_retb mt_56 rfl rfl (by decide) ?_
    exact j_retb mt_80 rfl rfl (by decide) h
  · replace h := h.2 (Int.not_lt.mp c)
    refine v_ic (v := Int32.ofInt 0) mt_56 rfl rfl ?_
    refine j_retb mt_56 rfl rfl (by decide) ?_
    exact j_retb mt_80 rfl rfl (by decide) h
