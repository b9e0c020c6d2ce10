set_option maxHeartbeats 600000 in
theorem b_28_0 {X : Nat × (Nat → Int32)} {d : Nat} {J : Nat → Nat → Int} {sw : Bool × Bool × Bool} {lg : Nat → Nat → Int64} {x : Nat} {K : (Option Value ⊕ Nat) → mM → Prop} (hd : 1 ≤ d)
    (h : ∃ (c2 : Int) (J1 : Nat → Nat → Int), EE X 0 89 [.ref 1, .ref (m_scr + 1 + 8)] (mj J sw lg x) (.inl (some (iv c2))) (mj J1 sw lg x) ∧ InR c2 ∧ (c2 = 0 → (∃ (c4 : Int) (J3 : Nat → Nat → Int), EE X 0 89 [.ref 1, .ref (m_scr + 1 + 9)] (mj J1 sw lg x) (.inl (some (iv c4))) (mj J3 sw lg x) ∧ InR c4 ∧ (c4 = 0 → (∃ (c6 : Int) (J5 : Nat → Nat → Int), EE X 0 89 [.ref 1, .ref (m_scr + 1 + 10)] (mj J3 sw lg x) (.inl (some (iv c6))) (mj J5 sw lg x) ∧ InR c6 ∧ (c6 = 0 → (∃ (c8 : Int) (J7 : Nat → Nat → Int), EE X 0 89 [.ref 1, .ref (m_scr + 1 + 11)] (mj J5 sw lg x) (.inl (some (iv c8))) (mj J7 sw lg x) ∧ InR c8 ∧ (c8 = 0 → (∃ (c10 : Int) (J9 : Nat → Nat → Int), EE X 0 89 [.ref 1, .ref (m_scr + 1 + 12)] (mj J7 sw lg x) (.inl (some (iv c10))) (mj J9 sw lg x) ∧ InR c10 ∧ (c10 = 0 → (∃ (c12 : Int) (J11 : Nat → Nat → Int), EE X 0 89 [.ref 1, .ref (m_scr + 1 + 13)] (mj J9 sw lg x) (.inl (some (iv c12))) (mj J11 sw lg x) ∧ InR c12 ∧ (c12 = 0 → (∃ (c14 : Int) (J13 : Nat → Nat → Int), EE X 0 89 [.ref 1, .ref (m_scr + 1 + 14)] (mj J11 sw lg x) (.inl (some (iv c14))) (mj J13 sw lg x) ∧ InR c14 ∧ (c14 = 0 → (∃ (c16 : Int) (J15 : Nat → Nat → Int), EE X 0 89 [.ref 1, .ref (m_scr + 1 + 15)] (mj J13 sw lg x) (.inl (some (iv c16))) (mj J15 sw lg x) ∧ InR c16 ∧ (c16 = 0 → K (.inl (some (iv (-1)))) (mj J15 sw lg x)) ∧ (¬ c16 = 0 → K (.inl (some (iv 7))) (mj J15 sw lg x)))) ∧ (¬ c14 = 0 → K (.inl (some (iv 6))) (mj J13 sw lg x)))) ∧ (¬ c12 = 0 → K (.inl (some (iv 5))) (mj J11 sw lg x)))) ∧ (¬ c10 = 0 → K (.inl (some (iv 4))) (mj J9 sw lg x)))) ∧ (¬ c8 = 0 → K (.inl (some (iv 3))) (mj J7 sw lg x)))) ∧ (¬ c6 = 0 → K (.inl (some (iv 2))) (mj J5 sw lg x)))) ∧ (¬ c4 = 0 → K (.inl (some (iv 1))) (mj J3 sw lg x)))) ∧ (¬ c2 = 0 → K (.inl (some (iv 0))) (mj J1 sw lg x))) : VV X d 28 (0, [some (.ref 1)], [], mj J sw lg x) K := by
  refine v_s mt_28 rfl rfl rfl ?_
  refine v_s mt_28 rfl rfl rfl ?_
  obtain ⟨c2, J1, z1, h⟩ := h
  refine v_call (d1 := 0) mt_28 rfl rfl mt_89 rfl rfl (m_callj (As := [.ref (m_scr + 1 + 8)]) (rest := []) rfl rfl c_1 rfl (Nat.le_of_ble_eq_true rfl) (Nat.le_of_ble_eq_true rfl)) z1 (by clear h; omega) ?_
  obtain ⟨z2, h⟩ := h
  refine j_if1 mt_28 rfl rfl z2 (fun c => ?_) (fun c => ?_)
  · replace h := h.1 c
    refine v_s mt_28 rfl rfl rfl ?_
    refine v_s mt_28 rfl rfl rfl ?_
    obtain ⟨c4, J3, z3, h⟩ := h
    refine v_call (d1 := 0) mt_28 rfl rfl mt_89 rfl rfl (m_callj (As := [.ref (m_scr + 1 + 9)]) (rest := []) rfl rfl c_1 rfl (Nat.le_of_ble_eq_true rfl) (Nat.le_of_ble_eq_true rfl)) z3 (by clear h; omega) ?_
    obtain ⟨z4, h⟩ := h
    refine j_if1 mt_28 rfl rfl z4 (fun c => ?_) (fun c => ?_)
    · replace h := h.1 c
      refine v_s mt_28 rfl rfl rfl ?_
      refine v_s mt_28 rfl rfl rfl ?_
      obtain ⟨c6, J5, z5, h⟩ := h
      refine v_call (d1 := 0) mt_28 rfl rfl mt_89 rfl rfl (m_callj (As := [.ref (m_scr + 1 + 10)]) (rest := []) rfl rfl c_1 rfl (Nat.le_of_ble_eq_true rfl) (Nat.le_of_ble_eq_true rfl)) z5 (by clear h; omega) ?_
      obtain ⟨z6, h⟩ := h
      refine j_if1 mt_28 rfl rfl z6 (fun c => ?_) (fun c => ?_)
      · replace h := h.1 c
        refine v_s mt_28 rfl rfl rfl ?_
        refine v_s mt_28 rfl rfl rfl ?_
        obtain ⟨c8, J7, z7, h⟩ := h
        refine v_call (d1 := 0) mt_28 rfl rfl mt_89 rfl rfl (m_callj (As := [.ref (m_scr + 1 + 11)]) (rest := []) rfl rfl c_1 rfl (Nat.le_of_ble_eq_true rfl) (Nat.le_of_ble_eq_true rfl)) z7 (by clear h; omega) ?_
        obtain ⟨z8, h⟩ := h
        refine j_if1 mt_28 rfl rfl z8 (fun c => ?_) (fun c => ?_)
        · replace h := h.1 c
          refine v_s mt_28 rfl rfl rfl ?_
          refine v_s mt_28 rfl rfl rfl ?_
          obtain ⟨c10, J9, z9, h⟩ := h
          refine v_call (d1 := 0) mt_28 rfl rfl mt_89 rfl rfl (m_callj (As := [.ref (m_scr + 1 + 12)]) (rest := []) rfl rfl c_1 rfl (Nat.le_of_ble_eq_true rfl) (Nat.le_of_ble_eq_true rfl)) z9 (by clear h; omega) ?_
          obtain ⟨z10, h⟩ := h
          refine j_if1 mt_28 rfl rfl z10 (fun c => ?_) (fun c => ?_)
          · replace h := h.1 c
            refine v_s mt_28 rfl rfl rfl ?_
            refine v_s mt_28 rfl rfl rfl ?_
            obtain ⟨c12, J11, z11, h⟩ := h
            refine v_call (d1 := 0) mt_28 rfl rfl mt_89 rfl rfl (m_callj (As := [.ref (m_scr + 1 + 13)]) (rest := []) rfl rfl c_1 rfl (Nat.le_of_ble_eq_true rfl) (Nat.le_of_ble_eq_true rfl)) z11 (by clear h; omega) ?_
            obtain ⟨z12, h⟩ := h
            refine j_if1 mt_28 rfl rfl z12 (fun c => ?_) (fun c => ?_)
            · replace h := h.1 c
              refine v_s mt_28 rfl rfl rfl ?_
              refine v_s mt_28 rfl rfl rfl ?_
              obtain ⟨c14, J13, z13, h⟩ := h
              refine v_call (d1 := 0) mt_28 rfl rfl mt_89 rfl rfl (m_callj (As := [.ref (m_scr + 1 + 14)]) (rest := []) rfl rfl c_1 rfl (Nat.le_of_ble_eq_true rfl) (Nat.le_of_ble_eq_true rfl)) z13 (by clear h; omega) ?_
              obtain ⟨z14, h⟩ := h
              refine j_if1 mt_28 rfl rfl z14 (fun c => ?_) (fun c => ?_)
              · replace h := h.1 c
                refine v_s mt_28 rfl rfl rfl ?_
                refine v_s mt_28 rfl rfl rfl ?_
                obtain ⟨c16, J15, z15, h⟩ := h
                refine v_call (d1 := 0) mt_28 rfl rfl mt_89 rfl rfl (m_callj (As := [.ref (m_scr + 1 + 15)]) (rest := []) rfl rfl c_1 rfl (Nat.le_of_ble_eq_true rfl) (Nat.le_of_ble_eq_true rfl)) z15 (by clear h; omega) ?_
                obtain ⟨z16, h⟩ := h
                refine j_if1 mt_28 rfl rfl z16 (fun c => ?_) (fun c => ?_)
                · replace h := h.1 c
                  refine v_ic (v := Int32.ofInt (-1)) mt_28 rfl rfl ?_
                  exact v_ret mt_28 rfl rfl rfl h
                · replace h := h.2 c
                  refine v_bp (v := Int32.ofInt 7) mt_28 rfl rfl ?_
                  refine v_go mt_28 rfl rfl ?_
                  exact v_ret mt_28 rfl rfl rfl h
              · replace h := h.2 c
                refine v_bp (v := Int32.ofInt 6) mt_28 rfl rfl ?_
                exact v_ret mt_28 rfl rfl rfl h
            · replace h := h.2 c
              refine v_ic (v := Int32.ofInt 5) mt_28 rfl rfl ?_
              exact v_ret mt_28 rfl rfl rfl h
          · replace h := h.2 c
            refine v_ic (v := Int32.ofInt 4) mt_28 rfl rfl ?_
            exact v_ret mt_28 rfl rfl rfl h
        · replace h := h.2 c
          refine v_ic (v := Int32.ofInt 3) mt_28 rfl rfl ?_
          exact v_ret mt_28 rfl rfl rfl h
      · replace h := h.2 c
        refine v_ic (v := Int32.ofInt 2) mt_28 rfl rfl ?_
        exact v_ret mt_28 rfl rfl rfl h
    · replace h := h.2 c
      refine v_ic (v := Int32.ofInt 1) mt_28 rfl rfl ?_
      exact v_ret mt_28 rfl rfl rfl h
  · replace h := h.2 c
    refine v_ic (v := Int32.ofInt 0) mt_28 rfl rfl ?_
    exact v_ret mt_28 rfl rfl rfl h
set_option maxHeartbeats 600000 in
theorem b_23_0 {X : Nat × (Nat → Int32)} {d : Nat} {J : Nat → Nat → Int} {sw : Bool × Bool × Bool} {lg : Nat → Nat → Int64} {x : Nat} {K : (Option Value ⊕ Nat) → mM → Prop} {r0 : Nat} {x2 : Int} {o3 o4 : Option Value} (h0 : SH[r0]? = some (8, 4)) (hd : 1 ≤ d)
    (h : ∃ (c2 : Int) (J1 : Nat → Nat → Int), EE X (d - 1) 24 [.ref r0, .ref 1, iv x2] (mj J sw lg x) (.inl (some (iv c2))) (mj J1 sw lg x) ∧ InR c2 ∧ (¬ c2 = 0 → VV X d 23 (13, [some (.ref r0), some (.ref 1), some (iv x2), some (iv 0), o4], [], mj J1 sw lg x) K) ∧ (c2 = 0 → K (.inl (some (iv 0))) (mj J1 sw lg x))) : VV X d 23 (0, [some (.ref r0), some (.ref 1), some (iv x2), o3, o4], [], mj J sw lg x) K := by
  refine v_s mt_23 rfl rfl rfl ?_
  refine v_s mt_23 rfl rfl rfl ?_
  refine v_s mt_23 rfl rfl rfl ?_
  obtain ⟨c2, J1, z1, h⟩ := h
  refine v_call (d1 := (d - 1)) mt_23 rfl rfl mt_24 rfl rfl (m_callj (As := [.ref 1, iv x2]) (rest := []) rfl rfl h0 rfl (Nat.le_of_ble_eq_true rfl) (Nat.le_of_ble_eq_true rfl)) z1 (by clear h; omega) ?_
  obtain ⟨z2, h⟩ := h
  refine j_if1 mt_23 rfl rfl z2 (fun c => ?_) (fun c => ?_)
  · replace h := h.1 c
    refine v_ic (v := Int32.ofInt 0) mt_23 rfl rfl ?_
    refine v_isn (L' := [some (.ref r0), some (.ref 1), some (iv x2), some (iv 0), o4]) mt_23 rfl (Nat.le_of_ble_eq_true rfl) rfl ?_
    exact h
  · replace h := h.2 (Decidable.not_not.mp c)
    refine v_ic (v := Int32.ofInt 0) mt_23 rfl rfl ?_
    exact j_retb mt_23 rfl rfl (by decide) h
set_option maxHeartbeats 600000 in
theorem b_23_13 {X : Nat × (Nat → Int32)} {d : Nat} {J : Nat → Nat → Int} {sw : Bool × Bool × Bool} {lg : Nat → Nat → Int64} {x : Nat} {K : (Option Value ⊕ Nat) → mM → Prop} {r0 : Nat} {x2 x3 : Int} {o4 : Option Value} (h0 : SH[r0]? = some (8, 4)) (hd : 1 ≤ d)
    (h : InR x3 ∧ (150 ≤ x3 → K (.inl (some (iv 1))) (mj J sw lg x)) ∧ (x3 < 150 → (∃ (c2 : Int) (J1 : Nat → Nat → Int), EE X 0 85 [.ref 1] (mj J sw lg x) (.inl (some (iv c2))) (mj J1 sw lg x) ∧ InR c2 ∧ (c2 = 43 → (∃ (c4 : Int) (J3 : Nat → Nat → Int), EE X (d - 1) 24 [.ref r0, .ref 1, iv x2] (mj (m_up J1 1 3 ((J1 1 3) + 1)) sw lg x) (.inl (some (iv c4))) (mj J3 sw lg x) ∧ InR c4 ∧ (¬ c4 = 0 → ((¬ c2 = 43 → (InR (J3 r0 1) ∧ (150 ≤ J3 r0 1 → VV X d 23 (13, [some (.ref r0), some (.ref 1), some (iv x2), some (iv (x3 + 1)), some (iv c2)], [], mj J3 sw lg x) K) ∧ (J3 r0 1 < 150 → ((0 ≤ J3 r0 1 ∧ J3 r0 1 < 150) ∧ VV X d 23 (13, [some (.ref r0), some (.ref 1), some (iv x2), some (iv (x3 + 1)), some (iv c2)], [], mj (m_up (m_up J3 (r0 + 1) ((J3 r0 1).toNat) 2001) r0 1 ((J3 r0 1) + 1)) sw lg x) K)))) ∧ (c2 = 43 → (InR (J3 r0 1) ∧ (150 ≤ J3 r0 1 → VV X d 23 (13, [some (.ref r0), some (.ref 1), some (iv x2), some (iv (x3 + 1)), some (iv c2)], [], mj J3 sw lg x) K) ∧ (J3 r0 1 < 150 → ((0 ≤ J3 r0 1 ∧ J3 r0 1 < 150) ∧ VV X d 23 (13, [some (.ref r0), some (.ref 1), some (iv x2), some (iv (x3 + 1)), some (iv c2)], [], mj (m_up (m_up J3 (r0 + 1) ((J3 r0 1).toNat) 2000) r0 1 ((J3 r0 1) + 1)) sw lg x) K)))))) ∧ (c4 = 0 → K (.inl (some (iv 0))) (mj J3 sw lg x)))) ∧ (¬ c2 = 43 → ((c2 = 45 → (∃ (c6 : Int) (J5 : Nat → Nat → Int), EE X (d - 1) 24 [.ref r0, .ref 1, iv x2] (mj (m_up J1 1 3 ((J1 1 3) + 1)) sw lg x) (.inl (some (iv c6))) (mj J5 sw lg x) ∧ InR c6 ∧ (¬ c6 = 0 → ((¬ c2 = 43 → (InR (J5 r0 1) ∧ (150 ≤ J5 r0 1 → VV X d 23 (13, [some (.ref r0), some (.ref 1), some (iv x2), some (iv (x3 + 1)), some (iv c2)], [], mj J5 sw lg x) K) ∧ (J5 r0 1 < 150 → ((0 ≤ J5 r0 1 ∧ J5 r0 1 < 150) ∧ VV X d 23 (13, [some (.ref r0), some (.ref 1), some (iv x2), some (iv (x3 + 1)), some (iv c2)], [], mj (m_up (m_up J5 (r0 + 1) ((J5 r0 1).toNat) 2001) r0 1 ((J5 r0 1) + 1)) sw lg x) K)))) ∧ (c2 = 43 → (InR (J5 r0 1) ∧ (150 ≤ J5 r0 1 → VV X d 23 (13, [some (.ref r0), some (.ref 1), some (iv x2), some (iv (x3 + 1)), some (iv c2)], [], mj J5 sw lg x) K) ∧ (J5 r0 1 < 150 → ((0 ≤ J5 r0 1 ∧ J5 r0 1 < 150) ∧ VV X d 23 (13, [some (.ref r0), some (.ref 1), some (iv x2), some (iv (x3 + 1)), some (iv c2)], [], mj (m_up (m_up J5 (r0 + 1) ((J5 r0 1).toNat) 2000) r0 1 ((J5 r0 1) + 1)) sw lg x) K)))))) ∧ (c6 = 0 → K (.inl (some (iv 0))) (mj J5 sw lg x)))) ∧ (¬ c2 = 45 → K (.inl (some (iv 1))) (mj J1 sw lg x))))))) : VV X d 23 (13, [some (.ref r0), some (.ref 1), some (iv x2), some (iv x3), o4], [], mj J sw lg x) K := by
  refine v_s mt_23 rfl rfl rfl ?_
  refine v_sp (v := Int32.ofInt 150) mt_23 rfl rfl ?_
  obtain ⟨z1, h⟩ := h
  refine j_if2 mt_23 rfl rfl z1 ⟨by decide, by decide⟩ (fun c => ?_) (fun c => ?_)
  · replace h := h.1 c
    refine v_ic (v := Int32.ofInt 1) mt_23 rfl rfl ?_
    exact j_retb mt_23 rfl rfl (by decide) h
  · replace h := h.2 (Int.not_le.mp c)
    refine v_s mt_23 rfl rfl rfl ?_
    obtain ⟨c2, J1, z2, h⟩ := h
    refine v_call (d1 := 0) mt_23 rfl rfl mt_85 rfl rfl (m_callj (As := []) (rest := []) rfl rfl c_1 rfl (Nat.le_of_ble_eq_true rfl) (Nat.le_of_ble_eq_true rfl)) z2 (by clear h; omega) ?_
    refine v_is (L' := [some (.ref r0), some (.ref 1), some (iv x2), some (iv x3), some (iv c2)]) mt_23 rfl (Nat.le_of_ble_eq_true rfl) rfl ?_
    refine v_s mt_23 rfl rfl rfl ?_
    refine v_bp (v := Int32.ofInt 43) mt_23 rfl rfl ?_
    obtain ⟨z3, h⟩ := h
    refine j_if2 mt_23 rfl rfl z3 ⟨by decide, by decide⟩ (fun c => ?_) (fun c => ?_)
    · replace h := h.1 c
      refine v_s mt_23 rfl rfl rfl ?_
      refine v_s mt_23 rfl rfl rfl ?_
      refine j_gi (w := J1 1 3) 3 mt_23 rfl rfl c_1 (by decide) rfl ?_
      refine v_ic (v := Int32.ofInt 1) mt_23 rfl rfl ?_
      refine j_add (e := (J1 1 3) + 1) mt_23 rfl rfl ?_
      refine j_pi 3 mt_23 rfl rfl c_1 (by decide) ?_
      refine v_s mt_23 rfl rfl rfl ?_
      refine v_s mt_23 rfl rfl rfl ?_
      refine v_s mt_23 rfl rfl rfl ?_
      obtain ⟨c4, J3, z4, h⟩ := h
      refine v_call (d1 := (d - 1)) mt_23 rfl rfl mt_24 rfl rfl (m_callj (As := [.ref 1, iv x2]) (rest := []) rfl rfl h0 rfl (Nat.le_of_ble_eq_true rfl) (Nat.le_of_ble_eq_true rfl)) z4 (by clear h; omega) ?_
      obtain ⟨z5, h⟩ := h
      refine j_if1 mt_23 rfl rfl z5 (fun c => ?_) (fun c => ?_)
      · replace h := h.1 c
        refine v_s mt_23 rfl rfl rfl ?_
        refine v_sp (v := Int32.ofInt 2000) mt_23 rfl rfl ?_
        refine v_s mt_23 rfl rfl rfl ?_
        refine v_bp (v := Int32.ofInt 43) mt_23 rfl rfl ?_
        refine j_if2 mt_23 rfl rfl z3 ⟨by decide, by decide⟩ (fun c => ?_) (fun c => ?_)
        · replace h := h.1 c
          refine v_ic (v := Int32.ofInt 1) mt_23 rfl rfl ?_
          refine j_add (e := 2001) mt_23 rfl (by decide) ?_
          refine v_inl (L1 := [some (.ref r0), some (iv 2001)]) mt_23 rfl rfl mt_29 rfl rfl (m_callj (As := [iv 2001]) (rest := []) rfl rfl h0 rfl (Nat.le_of_ble_eq_true rfl) (Nat.le_of_ble_eq_true rfl)) rfl (by clear h; omega) ?_
          refine v_s mt_29 rfl rfl rfl ?_
          refine j_gi (w := J3 r0 1) 1 mt_29 rfl rfl h0 (by decide) rfl ?_
          refine v_s mt_29 rfl rfl rfl ?_
          refine v_gr (w := (r0 + 1)) 0 mt_29 rfl rfl h0 (by decide) (g_3_0 h0) ?_
          refine j_len (e := 150) mt_29 rfl (shL r0 (SH_lt h0) h0).1 (by decide) rfl ?_
          obtain ⟨z6, h⟩ := h
          refine j_if2 mt_29 rfl rfl z6 ⟨by decide, by decide⟩ (fun c => ?_) (fun c => ?_)
          · replace h := h.1 c
            refine v_ic (v := Int32.ofInt 1) mt_29 rfl rfl ?_
            refine j_retb mt_29 rfl rfl (by decide) ?_
            refine v_s mt_23 rfl rfl rfl ?_
            refine j_inc (e := x3 + 1) (L' := [some (.ref r0), some (.ref 1), some (iv x2), some (iv (x3 + 1)), some (iv c2)]) mt_23 rfl rfl (Nat.le_of_ble_eq_true rfl) rfl rfl ?_
            refine v_go mt_23 rfl rfl ?_
            exact h
          · replace h := h.2 (Int.not_le.mp c)
            refine v_s mt_29 rfl rfl rfl ?_
            refine v_gr (w := (r0 + 1)) 0 mt_29 rfl rfl h0 (by decide) (g_3_0 h0) ?_
            refine v_s mt_29 rfl rfl rfl ?_
            refine j_gi (w := J3 r0 1) 1 mt_29 rfl rfl h0 (by decide) rfl ?_
            refine v_s mt_29 rfl rfl rfl ?_
            obtain ⟨z7, h⟩ := h
            refine j_as mt_29 rfl (shL r0 (SH_lt h0) h0).1 z7 (by decide) ?_
            refine v_s mt_29 rfl rfl rfl ?_
            refine v_s mt_29 rfl rfl rfl ?_
            refine j_gi (w := J3 r0 1) 1 mt_29 rfl rfl h0 (by decide) ((up_na (sh_ne h0 (shL r0 (SH_lt h0) h0).1 (by decide))).trans rfl) ?_
            refine v_ic (v := Int32.ofInt 1) mt_29 rfl rfl ?_
            refine j_add (e := (J3 r0 1) + 1) mt_29 rfl rfl ?_
            refine j_pi 1 mt_29 rfl rfl h0 (by decide) ?_
            refine v_ic (v := Int32.ofInt 1) mt_29 rfl rfl ?_
            refine j_retb mt_29 rfl rfl (by decide) ?_
            refine v_s mt_23 rfl rfl rfl ?_
            refine j_inc (e := x3 + 1) (L' := [some (.ref r0), some (.ref 1), some (iv x2), some (iv (x3 + 1)), some (iv c2)]) mt_23 rfl rfl (Nat.le_of_ble_eq_true rfl) rfl rfl ?_
            refine v_go mt_23 rfl rfl ?_
            exact h
        · replace h := h.2 (Decidable.not_not.mp c)
          refine v_ic (v := Int32.ofInt 0) mt_23 rfl rfl ?_
          refine v_go mt_23 rfl rfl ?_
          refine j_add (e := 2000) mt_23 rfl (by decide) ?_
          refine v_inl (L1 := [some (.ref r0), some (iv 2000)]) mt_23 rfl rfl mt_29 rfl rfl (m_callj (As := [iv 2000]) (rest := []) rfl rfl h0 rfl (Nat.le_of_ble_eq_true rfl) (Nat.le_of_ble_eq_true rfl)) rfl (by clear h; omega) ?_
          refine v_s mt_29 rfl rfl rfl ?_
          refine j_gi (w := J3 r0 1) 1 mt_29 rfl rfl h0 (by decide) rfl ?_
          refine v_s mt_29 rfl rfl rfl ?_
          refine v_gr (w := (r0 + 1)) 0 mt_29 rfl rfl h0 (by decide) (g_3_0 h0) ?_
          refine j_len (e := 150) mt_29 rfl (shL r0 (SH_lt h0) h0).1 (by decide) rfl ?_
          obtain ⟨z8, h⟩ := h
          refine j_if2 mt_29 rfl rfl z8 ⟨by decide, by decide⟩ (fun c => ?_) (fun c => ?_)
          · replace h := h.1 c
            refine v_ic (v := Int32.ofInt 1) mt_29 rfl rfl ?_
            refine j_retb mt_29 rfl rfl (by decide) ?_
            refine v_s mt_23 rfl rfl rfl ?_
            refine j_inc (e := x3 + 1) (L' := [some (.ref r0), some (.ref 1), some (iv x2), some (iv (x3 + 1)), some (iv c2)]) mt_23 rfl rfl (Nat.le_of_ble_eq_true rfl) rfl rfl ?_
            refine v_go mt_23 rfl rfl ?_
            exact h
          · replace h := h.2 (Int.not_le.mp c)
            refine v_s mt_29 rfl rfl rfl ?_
            refine v_gr (w := (r0 + 1)) 0 mt_29 rfl rfl h0 (by decide) (g_3_0 h0) ?_
            refine v_s mt_29 rfl rfl rfl ?_
            refine j_gi (w := J3 r0 1) 1 mt_29 rfl rfl h0 (by decide) rfl ?_
            refine v_s mt_29 rfl rfl rfl ?_
            obtain ⟨z9, h⟩ := h
            refine j_as mt_29 rfl (shL r0 (SH_lt h0) h0).1 z9 (by decide) ?_
            refine v_s mt_29 rfl rfl rfl ?_
            refine v_s mt_29 rfl rfl rfl ?_
            refine j_gi (w := J3 r0 1) 1 mt_29 rfl rfl h0 (by decide) ((up_na (sh_ne h0 (shL r0 (SH_lt h0) h0).1 (by decide))).trans rfl) ?_
            refine v_ic (v := Int32.ofInt 1) mt_29 rfl rfl ?_
            refine j_add (e := (J3 r0 1) + 1) mt_29 rfl rfl ?_
            refine j_pi 1 mt_29 rfl rfl h0 (by decide) ?_
            refine v_ic (v := Int32.ofInt 1) mt_29 rfl rfl ?_
            refine j_retb mt_29 rfl rfl (by decide) ?_
            refine v_s mt_23 rfl rfl rfl ?_
            refine j_inc (e := x3 + 1) (L' := [some (.ref r0), some (.ref 1), some (iv x2), some (iv (x3 + 1)), some (iv c2)]) mt_23 rfl rfl (Nat.le_of_ble_eq_true rfl) rfl rfl ?_
            refine v_go mt_23 rfl rfl ?_
            exact h
      · replace h := h.2 (Decidable.not_not.mp c)
        refine v_ic (v := Int32.ofInt 0) mt_23 rfl rfl ?_
        exact j_retb mt_23 rfl rfl (by decide) h
    · replace h := h.2 c
      refine v_s mt_23 rfl rfl rfl ?_
      refine v_bp (v := Int32.ofInt 45) mt_23 rfl rfl ?_
      refine j_if2 mt_23 rfl rfl z3 ⟨by decide, by decide⟩ (fun c => ?_) (fun c => ?_)
      · replace h := h.1 c
        refine v_s mt_23 rfl rfl rfl ?_
        refine v_s mt_23 rfl rfl rfl ?_
        refine j_gi (w := J1 1 3) 3 mt_23 rfl rfl c_1 (by decide) rfl ?_
        refine v_ic (v := Int32.ofInt 1) mt_23 rfl rfl ?_
        refine j_add (e := (J1 1 3) + 1) mt_23 rfl rfl ?_
        refine j_pi 3 mt_23 rfl rfl c_1 (by decide) ?_
        refine v_s mt_23 rfl rfl rfl ?_
        refine v_s mt_23 rfl rfl rfl ?_
        refine v_s mt_23 rfl rfl rfl ?_
        obtain ⟨c6, J5, z10, h⟩ := h
        refine v_call (d1 := (d - 1)) mt_23 rfl rfl mt_24 rfl rfl (m_callj (As := [.ref 1, iv x2]) (rest := []) rfl rfl h0 rfl (Nat.le_of_ble_eq_true rfl) (Nat.le_of_ble_eq_true rfl)) z10 (by clear h; omega) ?_
        obtain ⟨z11, h⟩ := h
        refine j_if1 mt_23 rfl rfl z11 (fun c => ?_) (fun c => ?_)
        · replace h := h.1 c
          refine v_s mt_23 rfl rfl rfl ?_
          refine v_sp (v := Int32.ofInt 2000) mt_23 rfl rfl ?_
          refine v_s mt_23 rfl rfl rfl ?_
          refine v_bp (v := Int32.ofInt 43) mt_23 rfl rfl ?_
          refine j_if2 mt_23 rfl rfl z3 ⟨by decide, by decide⟩ (fun c => ?_) (fun c => ?_)
          · replace h := h.1 c
            refine v_ic (v := Int32.ofInt 1) mt_23 rfl rfl ?_
            refine j_add (e := 2001) mt_23 rfl (by decide) ?_
            refine v_inl (L1 := [some (.ref r0), some (iv 2001)]) mt_23 rfl rfl mt_29 rfl rfl (m_callj (As := [iv 2001]) (rest := []) rfl rfl h0 rfl (Nat.le_of_ble_eq_true rfl) (Nat.le_of_ble_eq_true rfl)) rfl (by clear h; omega) ?_
            refine v_s mt_29 rfl rfl rfl ?_
            refine j_gi (w := J5 r0 1) 1 mt_29 rfl rfl h0 (by decide) rfl ?_
            refine v_s mt_29 rfl rfl rfl ?_
            refine v_gr (w := (r0 + 1)) 0 mt_29 rfl rfl h0 (by decide) (g_3_0 h0) ?_
            refine j_len (e := 150) mt_29 rfl (shL r0 (SH_lt h0) h0).1 (by decide) rfl ?_
            obtain ⟨z12, h⟩ := h
            refine j_if2 mt_29 rfl rfl z12 ⟨by decide, by decide⟩ (fun c => ?_) (fun c => ?_)
            · replace h := h.1 c
              refine v_ic (v := Int32.ofInt 1) mt_29 rfl rfl ?_
              refine j_retb mt_29 rfl rfl (by decide) ?_
              refine v_s mt_23 rfl rfl rfl ?_
              refine j_inc (e := x3 + 1) (L' := [some (.ref r0), some (.ref 1), some (iv x2), some (iv (x3 + 1)), some (iv c2)]) mt_23 rfl rfl (Nat.le_of_ble_eq_true rfl) rfl rfl ?_
              refine v_go mt_23 rfl rfl ?_
              exact h
            · replace h := h.2 (Int.not_le.mp c)
              refine v_s mt_29 rfl rfl rfl ?_
              refine v_gr (w := (r0 + 1)) 0 mt_29 rfl rfl h0 (by decide) (g_3_0 h0) ?_
              refine v_s mt_29 rfl rfl rfl ?_
              refine j_gi (w := J5 r0 1) 1 mt_29 rfl rfl h0 (by decide) rfl ?_
              refine v_s mt_29 rfl rfl rfl ?_
              obtain ⟨z13, h⟩ := h
              refine j_as mt_29 rfl (shL r0 (SH_lt h0) h0).1 z13 (by decide) ?_
              refine v_s mt_29 rfl rfl rfl ?_
              refine v_s mt_29 rfl rfl rfl ?_
              refine j_gi (w := J5 r0 1) 1 mt_29 rfl rfl h0 (by decide) ((up_na (sh_ne h0 (shL r0 (SH_lt h0) h0).1 (by decide))).trans rfl) ?_
              refine v_ic (v := Int32.ofInt 1) mt_29 rfl rfl ?_
              refine j_add (e := (J5 r0 1) + 1) mt_29 rfl rfl ?_
              refine j_pi 1 mt_29 rfl rfl h0 (by decide) ?_
              refine v_ic (v := Int32.ofInt 1) mt_29 rfl rfl ?_
              refine j_retb mt_29 rfl rfl (by decide) ?_
              refine v_s mt_23 rfl rfl rfl ?_
              refine j_inc (e := x3 + 1) (L' := [some (.ref r0), some (.ref 1), some (iv x2), some (iv (x3 + 1)), some (iv c2)]) mt_23 rfl rfl (Nat.le_of_ble_eq_true rfl) rfl rfl ?_
              refine v_go mt_23 rfl rfl ?_
              exact h
          · replace h := h.2 (Decidable.not_not.mp c)
            refine v_ic (v := Int32.ofInt 0) mt_23 rfl rfl ?_
            refine v_go mt_23 rfl rfl ?_
            refine j_add (e := 2000) mt_23 rfl (by decide) ?_
            refine v_inl (L1 := [some (.ref r0), some (iv 2000)]) mt_23 rfl rfl mt_29 rfl rfl (m_callj (As := [iv 2000]) (rest := []) rfl rfl h0 rfl (Nat.le_of_ble_eq_true rfl) (Nat.le_of_ble_eq_true rfl)) rfl (by clear h; omega) ?_
            refine v_s mt_29 rfl rfl rfl ?_
            refine j_gi (w := J5 r0 1) 1 mt_29 rfl rfl h0 (by decide) rfl ?_
            refine v_s mt_29 rfl rfl rfl ?_
            refine v_gr (w := (r0 + 1)) 0 mt_29 rfl rfl h0 (by decide) (g_3_0 h0) ?_
            refine j_len (e := 150) mt_29 rfl (shL r0 (SH_lt h0) h0).1 (by decide) rfl ?_
            obtain ⟨z14, h⟩ := h
            refine j_if2 mt_29 rfl rfl z14 ⟨by decide, by decide⟩ (fun c => ?_) (fun c => ?_)
            · replace h := h.1 c
              refine v_ic (v := Int32.ofInt 1) mt_29 rfl rfl ?_
              refine j_retb mt_29 rfl rfl (by decide) ?_
              refine v_s mt_23 rfl rfl rfl ?_
              refine j_inc (e := x3 + 1) (L' := [some (.ref r0), some (.ref 1), some (iv x2), some (iv (x3 + 1)), some (iv c2)]) mt_23 rfl rfl (Nat.le_of_ble_eq_true rfl) rfl rfl ?_
              refine v_go mt_23 rfl rfl ?_
              exact h
            · replace h := h.2 (Int.not_le.mp c)
              refine v_s mt_29 rfl rfl rfl ?_
              refine v_gr (w := (r0 + 1)) 0 mt_29 rfl rfl h0 (by decide) (g_3_0 h0) ?_
              refine v_s mt_29 rfl rfl rfl ?_
              refine j_gi (w := J5 r0 1) 1 mt_29 rfl rfl h0 (by decide) rfl ?_
              refine v_s mt_29 rfl rfl rfl ?_
              obtain ⟨z15, h⟩ := h
              refine j_as mt_29 rfl (shL r0 (SH_lt h0) h0).1 z15 (by decide) ?_
              refine v_s mt_29 rfl rfl rfl ?_
              refine v_s mt_29 rfl rfl rfl ?_
              refine j_gi (w := J5 r0 1) 1 mt_29 rfl rfl h0 (by decide) ((up_na (sh_ne h0 (shL r0 (SH_lt h0) h0).1 (by decide))).trans rfl) ?_
              refine v_ic (v := Int32.ofInt 1) mt_29 rfl rfl ?_
              refine j_add (e := (J5 r0 1) + 1) mt_29 rfl rfl ?_
              refine j_pi 1 mt_29 rfl rfl h0 (by decide) ?_
              refine v_ic (v := Int32.ofInt 1) mt_29 rfl rfl ?_
              refine j_retb mt_29 rfl rfl (by decide) ?_
              refine v_s mt_23 rfl rfl rfl ?_
              refine j_inc (e := x3 + 1) (L' := [some (.ref r0), some (.ref 1), some (iv x2), some (iv (x3 + 1)), some (iv c2)]) mt_23 rfl rfl (Nat.le_of_ble_eq_true rfl) rfl rfl ?_
              refine v_go mt_23 rfl rfl ?_
              exact h
        · replace h := h.2 (Decidable.not_not.mp c)
          refine v_ic (v := Int32.ofInt 0) mt_23 rfl rfl ?_
          exact j_retb mt_23 rfl rfl (by decide) h
      · replace h := h.2 c
        refine v_ic (v := Int32.ofInt 1) mt_23 rfl rfl ?_
        exact j_retb mt_23 rfl rfl (by decide) h
set_option maxHeartbeats 600000 in
theorem b_24_0 {X : Nat × (Nat → Int32)} {d : Nat} {J : Nat → Nat → Int} {sw : Bool × Bool × Bool} {lg : Nat → Nat → Int64} {x : Nat} {K : (Option Value ⊕ Nat) → mM → Prop} {r0 : Nat} {x2 : Int} {o3 o4 : Option Value} (h0 : SH[r0]? = some (8, 4)) (hd : 1 ≤ d)
    (h : ∃ (c2 : Int) (J1 : Nat → Nat → Int), EE X (d - 1) 25 [.ref r0, .ref 1, iv x2] (mj J sw lg x) (.inl (some (iv c2))) (mj J1 sw lg x) ∧ InR c2 ∧ (¬ c2 = 0 → VV X d 24 (13, [some (.ref r0), some (.ref 1), some (iv x2), some (iv 0), o4], [], mj J1 sw lg x) K) ∧ (c2 = 0 → K (.inl (some (iv 0))) (mj J1 sw lg x))) : VV X d 24 (0, [some (.ref r0), some (.ref 1), some (iv x2), o3, o4], [], mj J sw lg x) K := by
  refine v_s mt_24 rfl rfl rfl ?_
  refine v_s mt_24 rfl rfl rfl ?_
  refine v_s mt_24 rfl rfl rfl ?_
  obtain ⟨c2, J1, z1, h⟩ := h
  refine v_call (d1 := (d - 1)) mt_24 rfl rfl mt_25 rfl rfl (m_callj (As := [.ref 1, iv x2]) (rest := []) rfl rfl h0 rfl (Nat.le_of_ble_eq_true rfl) (Nat.le_of_ble_eq_true rfl)) z1 (by clear h; omega) ?_
  obtain ⟨z2, h⟩ := h
  refine j_if1 mt_24 rfl rfl z2 (fun c => ?_) (fun c => ?_)
  · replace h := h.1 c
    refine v_ic (v := Int32.ofInt 0) mt_24 rfl rfl ?_
    refine v_isn (L' := [some (.ref r0), some (.ref 1), some (iv x2), some (iv 0), o4]) mt_24 rfl (Nat.le_of_ble_eq_true rfl) rfl ?_
    exact h
  · replace h := h.2 (Decidable.not_not.mp c)
    refine v_ic (v := Int32.ofInt 0) mt_24 rfl rfl ?_
    exact j_retb mt_24 rfl rfl (by decide) h
set_option maxHeartbeats 600000 in
theorem b_24_13 {X : Nat × (Nat → Int32)} {d : Nat} {J : Nat → Nat → Int} {sw : Bool × Bool × Bool} {lg : Nat → Nat → Int64} {x : Nat} {K : (Option Value ⊕ Nat) → mM → Prop} {r0 : Nat} {x2 x3 : Int} {o4 : Option Value} (h0 : SH[r0]? = some (8, 4)) (hd : 1 ≤ d)
    (h : InR x3 ∧ (150 ≤ x3 → K (.inl (some (iv 1))) (mj J sw lg x)) ∧ (x3 < 150 → (∃ (c2 : Int) (J1 : Nat → Nat → Int), EE X 0 85 [.ref 1] (mj J sw lg x) (.inl (some (iv c2))) (mj J1 sw lg x) ∧ InR c2 ∧ (c2 = 42 → (∃ (c4 : Int) (J3 : Nat → Nat → Int), EE X (d - 1) 25 [.ref r0, .ref 1, iv x2] (mj (m_up J1 1 3 ((J1 1 3) + 1)) sw lg x) (.inl (some (iv c4))) (mj J3 sw lg x) ∧ InR c4 ∧ (¬ c4 = 0 → ((¬ c2 = 42 → ((¬ c2 = 47 → (InR (J3 r0 1) ∧ (150 ≤ J3 r0 1 → VV X d 24 (13, [some (.ref r0), some (.ref 1), some (iv x2), some (iv (x3 + 1)), some (iv c2)], [], mj J3 sw lg x) K) ∧ (J3 r0 1 < 150 → ((0 ≤ J3 r0 1 ∧ J3 r0 1 < 150) ∧ VV X d 24 (13, [some (.ref r0), some (.ref 1), some (iv x2), some (iv (x3 + 1)), some (iv c2)], [], mj (m_up (m_up J3 (r0 + 1) ((J3 r0 1).toNat) 2004) r0 1 ((J3 r0 1) + 1)) sw lg x) K)))) ∧ (c2 = 47 → (InR (J3 r0 1) ∧ (150 ≤ J3 r0 1 → VV X d 24 (13, [some (.ref r0), some (.ref 1), some (iv x2), some (iv (x3 + 1)), some (iv c2)], [], mj J3 sw lg x) K) ∧ (J3 r0 1 < 150 → ((0 ≤ J3 r0 1 ∧ J3 r0 1 < 150) ∧ VV X d 24 (13, [some (.ref r0), some (.ref 1), some (iv x2), some (iv (x3 + 1)), some (iv c2)], [], mj (m_up (m_up J3 (r0 + 1) ((J3 r0 1).toNat) 2003) r0 1 ((J3 r0 1) + 1)) sw lg x) K)))))) ∧ (c2 = 42 → (InR (J3 r0 1) ∧ (150 ≤ J3 r0 1 → VV X d 24 (13, [some (.ref r0), some (.ref 1), some (iv x2), some (iv (x3 + 1)), some (iv c2)], [], mj J3 sw lg x) K) ∧ (J3 r0 1 < 150 → ((0 ≤ J3 r0 1 ∧ J3 r0 1 < 150) ∧ VV X d 24 (13, [some (.ref r0), some (.ref 1), some (iv x2), some (iv (x3 + 1)), some (iv c2)], [], mj (m_up (m_up J3 (r0 + 1) ((J3 r0 1).toNat) 2002) r0 1 ((J3 r0 1) + 1)) sw lg x) K)))))) ∧ (c4 = 0 → K (.inl (some (iv 0))) (mj J3 sw lg x)))) ∧ (¬ c2 = 42 → ((c2 = 47 → (∃ (c6 : Int) (J5 : Nat → Nat → Int), EE X (d - 1) 25 [.ref r0, .ref 1, iv x2] (mj (m_up J1 1 3 ((J1 1 3) + 1)) sw lg x) (.inl (some (iv c6))) (mj J5 sw lg x) ∧ InR c6 ∧ (¬ c6 = 0 → ((¬ c2 = 42 → ((¬ c2 = 47 → (InR (J5 r0 1) ∧ (150 ≤ J5 r0 1 → VV X d 24 (13, [some (.ref r0), some (.ref 1), some (iv x2), some (iv (x3 + 1)), some (iv c2)], [], mj J5 sw lg x) K) ∧ (J5 r0 1 < 150 → ((0 ≤ J5 r0 1 ∧ J5 r0 1 < 150) ∧ VV X d 24 (13, [some (.ref r0), some (.ref 1), some (iv x2), some (iv (x3 + 1)), some (iv c2)], [], mj (m_up (m_up J5 (r0 + 1) ((J5 r0 1).toNat) 2004) r0 1 ((J5 r0 1) + 1)) sw lg x) K)))) ∧ (c2 = 47 → (InR (J5 r0 1) ∧ (150 ≤ J5 r0 1 → VV X d 24 (13, [some (.ref r0), some (.ref 1), some (iv x2), some (iv (x3 + 1)), some (iv c2)], [], mj J5 sw lg x) K) ∧ (J5 r0 1 < 150 → ((0 ≤ J5 r0 1 ∧ J5 r0 1 < 150) ∧ VV X d 24 (13, [some (.ref r0), some (.ref 1), some (iv x2), some (iv (x3 + 1)), some (iv c2)], [], mj (m_up (m_up J5 (r0 + 1) ((J5 r0 1).toNat) 2003) r0 1 ((J5 r0 1) + 1)) sw lg x) K)))))) ∧ (c2 = 42 → (InR (J5 r0 1) ∧ (150 ≤ J5 r0 1 → VV X d 24 (13, [some (.ref r0), some (.ref 1), some (iv x2), some (iv (x3 + 1)), some (iv c2)], [], mj J5 sw lg x) K) ∧ (J5 r0 1 < 150 → ((0 ≤ J5 r0 1 ∧ J5 r0 1 < 150) ∧ VV X d 24 (13, [some (.ref r0), some (.ref 1), some (iv x2), some (iv (x3 + 1)), some (iv c2)], [], mj (m_up (m_up J5 (r0 + 1) ((J5 r0 1).toNat) 2002) r0 1 ((J5 r0 1) + 1)) sw lg x) K)))))) ∧ (c6 = 0 → K (.inl (some (iv 0))) (mj J5 sw lg x)))) ∧ (¬ c2 = 47 → ((c2 = 37 → (∃ (c8 : Int) (J7 : Nat → Nat → Int), EE X (d - 1) 25 [.ref r0, .ref 1, iv x2] (mj (m_up J1 1 3 ((J1 1 3) + 1)) sw lg x) (.inl (some (iv c8))) (mj J7 sw lg x) ∧ InR c8 ∧ (¬ c8 = 0 → ((¬ c2 = 42 → ((¬ c2 = 47 → (InR (J7 r0 1) ∧ (150 ≤ J7 r0 1 → VV X d 24 (13, [some (.ref r0), some (.ref 1), some (iv x2), some (iv (x3 + 1)), some (iv c2)], [], mj J7 sw lg x) K) ∧ (J7 r0 1 < 150 → ((0 ≤ J7 r0 1 ∧ J7 r0 1 < 150) ∧ VV X d 24 (13, [some (.ref r0), some (.ref 1), some (iv x2), some (iv (x3 + 1)), some (iv c2)], [], mj (m_up (m_up J7 (r0 + 1) ((J7 r0 1).toNat) 2004) r0 1 ((J7 r0 1) + 1)) sw lg x) K)))) ∧ (c2 = 47 → (InR (J7 r0 1) ∧ (150 ≤ J7 r0 1 → VV X d 24 (13, [some (.ref r0), some (.ref 1), some (iv x2), some (iv (x3 + 1)), some (iv c2)], [], mj J7 sw lg x) K) ∧ (J7 r0 1 < 150 → ((0 ≤ J7 r0 1 ∧ J7 r0 1 < 150) ∧ VV X d 24 (13, [some (.ref r0), some (.ref 1), some (iv x2), some (iv (x3 + 1)), some (iv c2)], [], mj (m_up (m_up J7 (r0 + 1) ((J7 r0 1).toNat) 2003) r0 1 ((J7 r0 1) + 1)) sw lg x) K)))))) ∧ (c2 = 42 → (InR (J7 r0 1) ∧ (150 ≤ J7 r0 1 → VV X d 24 (13, [some (.ref r0), some (.ref 1), some (iv x2), some (iv (x3 + 1)), some (iv c2)], [], mj J7 sw lg x) K) ∧ (J7 r0 1 < 150 → ((0 ≤ J7 r0 1 ∧ J7 r0 1 < 150) ∧ VV X d 24 (13, [some (.ref r0), some (.ref 1), some (iv x2), some (iv (x3 + 1)), some (iv c2)], [], mj (m_up (m_up J7 (r0 + 1) ((J7 r0 1).toNat) 2002) r0 1 ((J7 r0 1) + 1)) sw lg x) K)))))) ∧ (c8 = 0 → K (.inl (some (iv 0))) (mj J7 sw lg x)))) ∧ (¬ c2 = 37 → K (.inl (some (iv 1))) (mj J1 sw lg x))))))))) : VV X d 24 (13, [some (.ref r0), some (.ref 1), some (iv x2), some (iv x3), o4], [], mj J sw lg x) K := by
  refine v_s mt_24 rfl rfl rfl ?_
  refine v_sp (v := Int32.ofInt 150) mt_24 rfl rfl ?_
  obtain ⟨z1, h⟩ := h
  refine j_if2 mt_24 rfl rfl z1 ⟨by decide, by decide⟩ (fun c => ?_) (fun c => ?_)
  · replace h := h.1 c
    refine v_ic (v := Int32.ofInt 1) mt_24 rfl rfl ?_
    exact j_retb mt_24 rfl rfl (by decide) h
  · replace h := h.2 (Int.not_le.mp c)
    refine v_s mt_24 rfl rfl rfl ?_
    obtain ⟨c2, J1, z2, h⟩ := h
    refine v_call (d1 := 0) mt_24 rfl rfl mt_85 rfl rfl (m_callj (As := []) (rest := []) rfl rfl c_1 rfl (Nat.le_of_ble_eq_true rfl) (Nat.le_of_ble_eq_true rfl)) z2 (by clear h; omega) ?_
    refine v_is (L' := [some (.ref r0), some (.ref 1), some (iv x2), some (iv x3), some (iv c2)]) mt_24 rfl (Nat.le_of_ble_eq_true rfl) rfl ?_
    refine v_s mt_24 rfl rfl rfl ?_
    refine v_bp (v := Int32.ofInt 42) mt_24 rfl rfl ?_
    obtain ⟨z3, h⟩ := h
    refine j_if2 mt_24 rfl rfl z3 ⟨by decide, by decide⟩ (fun c => ?_) (fun c => ?_)
    · replace h := h.1 c
      refine v_s mt_24 rfl rfl rfl ?_
      refine v_s mt_24 rfl rfl rfl ?_
      refine j_gi (w := J1 1 3) 3 mt_24 rfl rfl c_1 (by decide) rfl ?_
      refine v_ic (v := Int32.ofInt 1) mt_24 rfl rfl ?_
      refine j_add (e := (J1 1 3) + 1) mt_24 rfl rfl ?_
      refine j_pi 3 mt_24 rfl rfl c_1 (by decide) ?_
      refine v_s mt_24 rfl rfl rfl ?_
      refine v_s mt_24 rfl rfl rfl ?_
      refine v_s mt_24 rfl rfl rfl ?_
      obtain ⟨c4, J3, z4, h⟩ := h
      refine v_call (d1 := (d - 1)) mt_24 rfl rfl mt_25 rfl rfl (m_callj (As := [.ref 1, iv x2]) (rest := []) rfl rfl h0 rfl (Nat.le_of_ble_eq_true rfl) (Nat.le_of_ble_eq_true rfl)) z4 (by clear h; omega) ?_
      obtain ⟨z5, h⟩ := h
      refine j_if1 mt_24 rfl rfl z5 (fun c => ?_) (fun c => ?_)
      · replace h := h.1 c
        refine v_s mt_24 rfl rfl rfl ?_
        refine v_sp (v := Int32.ofInt 2000) mt_24 rfl rfl ?_
        refine v_s mt_24 rfl rfl rfl ?_
        refine v_bp (v := Int32.ofInt 42) mt_24 rfl rfl ?_
        refine j_if2 mt_24 rfl rfl z3 ⟨by decide, by decide⟩ (fun c => ?_) (fun c => ?_)
        · replace h := h.1 c
          refine v_s mt_24 rfl rfl rfl ?_
          refine v_bp (v := Int32.ofInt 47) mt_24 rfl rfl ?_
          refine j_if2 mt_24 rfl rfl z3 ⟨by decide, by decide⟩ (fun c => ?_) (fun c => ?_)
          · replace h := h.1 c
            refine v_ic (v := Int32.ofInt 4) mt_24 rfl rfl ?_
            refine j_add (e := 2004) mt_24 rfl (by decide) ?_
            refine v_inl (L1 := [some (.ref r0), some (iv 2004)]) mt_24 rfl rfl mt_29 rfl rfl (m_callj (As := [iv 2004]) (rest := []) rfl rfl h0 rfl (Nat.le_of_ble_eq_true rfl) (Nat.le_of_ble_eq_true rfl)) rfl (by clear h; omega) ?_
            refine v_s mt_29 rfl rfl rfl ?_
            refine j_gi (w := J3 r0 1) 1 mt_29 rfl rfl h0 (by decide) rfl ?_
            refine v_s mt_29 rfl rfl rfl ?_
            refine v_gr (w := (r0 + 1)) 0 mt_29 rfl rfl h0 (by decide) (g_3_0 h0) ?_
            refine j_len (e := 150) mt_29 rfl (shL r0 (SH_lt h0) h0).1 (by decide) rfl ?_
            obtain ⟨z6, h⟩ := h
            refine j_if2 mt_29 rfl rfl z6 ⟨by decide, by decide⟩ (fun c => ?_) (fun c => ?_)
            · replace h := h.1 c
              refine v_ic (v := Int32.ofInt 1) mt_29 rfl rfl ?_
              refine j_retb mt_29 rfl rfl (by decide) ?_
              refine v_s mt_24 rfl rfl rfl ?_
              refine j_inc (e := x3 + 1) (L' := [some (.ref r0), some (.ref 1), some (iv x2), some (iv (x3 + 1)), some (iv c2)]) mt_24 rfl rfl (Nat.le_of_ble_eq_true rfl) rfl rfl ?_
              refine v_go mt_24 rfl rfl ?_
              exact h
            · replace h := h.2 (Int.not_le.mp c)
              refine v_s mt_29 rfl rfl rfl ?_
              refine v_gr (w := (r0 + 1)) 0 mt_29 rfl rfl h0 (by decide) (g_3_0 h0) ?_
              refine v_s mt_29 rfl rfl rfl ?_
              refine j_gi (w := J3 r0 1) 1 mt_29 rfl rfl h0 (by decide) rfl ?_
              refine v_s mt_29 rfl rfl rfl ?_
              obtain ⟨z7, h⟩ := h
              refine j_as mt_29 rfl (shL r0 (SH_lt h0) h0).1 z7 (by decide) ?_
              refine v_s mt_29 rfl rfl rfl ?_
              refine v_s mt_29 rfl rfl rfl ?_
              refine j_gi (w := J3 r0 1) 1 mt_29 rfl rfl h0 (by decide) ((up_na (sh_ne h0 (shL r0 (SH_lt h0) h0).1 (by decide))).trans rfl) ?_
              refine v_ic (v := Int32.ofInt 1) mt_29 rfl rfl ?_
              refine j_add (e := (J3 r0 1) + 1) mt_29 rfl rfl ?_
              refine j_pi 1 mt_29 rfl rfl h0 (by decide) ?_
              refine v_ic (v := Int32.ofInt 1) mt_29 rfl rfl ?_
              refine j_retb mt_29 rfl rfl (by decide) ?_
              refine v_s mt_24 rfl rfl rfl ?_
              refine j_inc (e := x3 + 1) (L' := [some (.ref r0), some (.ref 1), some (iv x2), some (iv (x3 + 1)), some (iv c2)]) mt_24 rfl rfl (Nat.le_of_ble_eq_true rfl) rfl rfl ?_
              refine v_go mt_24 rfl rfl ?_
              exact h
          · replace h := h.2 (Decidable.not_not.mp c)
            refine v_ic (v := Int32.ofInt 3) mt_24 rfl rfl ?_
            refine v_go mt_24 rfl rfl ?_
            refine j_add (e := 2003) mt_24 rfl (by decide) ?_
            refine v_inl (L1 := [some (.ref r0), some (iv 2003)]) mt_24 rfl rfl mt_29 rfl rfl (m_callj (As := [iv 2003]) (rest := []) rfl rfl h0 rfl (Nat.le_of_ble_eq_true rfl) (Nat.le_of_ble_eq_true rfl)) rfl (by clear h; omega) ?_
            refine v_s mt_29 rfl rfl rfl ?_
            refine j_gi (w := J3 r0 1) 1 mt_29 rfl rfl h0 (by decide) rfl ?_
            refine v_s mt_29 rfl rfl rfl ?_
            refine v_gr (w := (r0 + 1)) 0 mt_29 rfl rfl h0 (by decide) (g_3_0 h0) ?_
            refine j_len (e := 150) mt_29 rfl (shL r0 (SH_lt h0) h0).1 (by decide) rfl ?_
            obtain ⟨z8, h⟩ := h
            refine j_if2 mt_29 rfl rfl z8 ⟨by decide, by decide⟩ (fun c => ?_) (fun c => ?_)
            · replace h := h.1 c
              refine v_ic (v := Int32.ofInt 1) mt_29 rfl rfl ?_
              refine j_retb mt_29 rfl rfl (by decide) ?_
              refine v_s mt_24 rfl rfl rfl ?_
              refine j_inc (e := x3 + 1) (L' := [some (.ref r0), some (.ref 1), some (iv x2), some (iv (x3 + 1)), some (iv c2)]) mt_24 rfl rfl (Nat.le_of_ble_eq_true rfl) rfl rfl ?_
              refine v_go mt_24 rfl rfl ?_
              exact h
            · replace h := h.2 (Int.not_le.mp c)
              refine v_s mt_29 rfl rfl rfl ?_
              refine v_gr (w := (r0 + 1)) 0 mt_29 rfl rfl h0 (by decide) (g_3_0 h0) ?_
              refine v_s mt_29 rfl rfl rfl ?_
              refine j_gi (w := J3 r0 1) 1 mt_29 rfl rfl h0 (by decide) rfl ?_
              refine v_s mt_29 rfl rfl rfl ?_
              obtain ⟨z9, h⟩ := h
              refine j_as mt_29 rfl (shL r0 (SH_lt h0) h0).1 z9 (by decide) ?_
              refine v_s mt_29 rfl rfl rfl ?_
              refine v_s mt_29 rfl rfl rfl ?_
              refine j_gi (w := J3 r0 1) 1 mt_29 rfl rfl h0 (by decide) ((up_na (sh_ne h0 (shL r0 (SH_lt h0) h0).1 (by decide))).trans rfl) ?_
              refine v_ic (v := Int32.ofInt 1) mt_29 rfl rfl ?_
              refine j_add (e := (J3 r0 1) + 1) mt_29 rfl rfl ?_
              refine j_pi 1 mt_29 rfl rfl h0 (by decide) ?_
              refine v_ic (v := Int32.ofInt 1) mt_29 rfl rfl ?_
              refine j_retb mt_29 rfl rfl (by decide) ?_
              refine v_s mt_24 rfl rfl rfl ?_
              refine j_inc (e := x3 + 1) (L' := [some (.ref r0), some (.ref 1), some (iv x2), some (iv (x3 + 1)), some (iv c2)]) mt_24 rfl rfl (Nat.le_of_ble_eq_true rfl) rfl rfl ?_
              refine v_go mt_24 rfl rfl ?_
              exact h
        · replace h := h.2 (Decidable.not_not.mp c)
          refine v_ic (v := Int32.ofInt 2) mt_24 rfl rfl ?_
          refine v_go mt_24 rfl rfl ?_
          refine j_add (e := 2002) mt_24 rfl (by decide) ?_
          refine v_inl (L1 := [some (.ref r0), some (iv 2002)]) mt_24 rfl rfl mt_29 rfl rfl (m_callj (As := [iv 2002]) (rest := []) rfl rfl h0 rfl (Nat.le_of_ble_eq_true rfl) (Nat.le_of_ble_eq_true rfl)) rfl (by clear h; omega) ?_
          refine v_s mt_29 rfl rfl rfl ?_
          refine j_gi (w := J3 r0 1) 1 mt_29 rfl rfl h0 (by decide) rfl ?_
          refine v_s mt_29 rfl rfl rfl ?_
          refine v_gr (w := (r0 + 1)) 0 mt_29 rfl rfl h0 (by decide) (g_3_0 h0) ?_
          refine j_len (e := 150) mt_29 rfl (shL r0 (SH_lt h0) h0).1 (by decide) rfl ?_
          obtain ⟨z10, h⟩ := h
          refine j_if2 mt_29 rfl rfl z10 ⟨by decide, by decide⟩ (fun c => ?_) (fun c => ?_)
          · replace h := h.1 c
            refine v_ic (v := Int32.ofInt 1) mt_29 rfl rfl ?_
            refine j_retb mt_29 rfl rfl (by decide) ?_
            refine v_s mt_24 rfl rfl rfl ?_
            refine j_inc (e := x3 + 1) (L' := [some (.ref r0), some (.ref 1), some (iv x2), some (iv (x3 + 1)), some (iv c2)]) mt_24 rfl rfl (Nat.le_of_ble_eq_true rfl) rfl rfl ?_
            refine v_go mt_24 rfl rfl ?_
            exact h
          · replace h := h.2 (Int.not_le.mp c)
            refine v_s mt_29 rfl rfl rfl ?_
            refine v_gr (w := (r0 + 1)) 0 mt_29 rfl rfl h0 (by decide) (g_3_0 h0) ?_
            refine v_s mt_29 rfl rfl rfl ?_
            refine j_gi (w := J3 r0 1) 1 mt_29 rfl rfl h0 (by decide) rfl ?_
            refine v_s mt_29 rfl rfl rfl ?_
            obtain ⟨z11, h⟩ := h
            refine j_as mt_29 rfl (shL r0 (SH_lt h0) h0).1 z11 (by decide) ?_
            refine v_s mt_29 rfl rfl rfl ?_
            refine v_s mt_29 rfl rfl rfl ?_
            refine j_gi (w := J3 r0 1) 1 mt_29 rfl rfl h0 (by decide) ((up_na (sh_ne h0 (shL r0 (SH_lt h0) h0).1 (by decide))).trans rfl) ?_
            refine v_ic (v := Int32.ofInt 1) mt_29 rfl rfl ?_
            refine j_add (e := (J3 r0 1) + 1) mt_29 rfl rfl ?_
            refine j_pi 1 mt_29 rfl rfl h0 (by decide) ?_
            refine v_ic (v := Int32.ofInt 1) mt_29 rfl rfl ?_
            refine j_retb mt_29 rfl rfl (by decide) ?_
            refine v_s mt_24 rfl rfl rfl ?_
            refine j_inc (e := x3 + 1) (L' := [some (.ref r0), some (.ref 1), some (iv x2), some (iv (x3 + 1)), some (iv c2)]) mt_24 rfl rfl (Nat.le_of_ble_eq_true rfl) rfl rfl ?_
            refine v_go mt_24 rfl rfl ?_
            exact h
      · replace h := h.2 (Decidable.not_not.mp c)
        refine v_ic (v := Int32.ofInt 0) mt_24 rfl rfl ?_
        exact j_retb mt_24 rfl rfl (by decide) h
    · replace h := h.2 c
      refine v_s mt_24 rfl rfl rfl ?_
      refine v_bp (v := Int32.ofInt 47) mt_24 rfl rfl ?_
      refine j_if2 mt_24 rfl rfl z3 ⟨by decide, by decide⟩ (fun c => ?_) (fun c => ?_)
      · replace h := h.1 c
        refine v_s mt_24 rfl rfl rfl ?_
        refine v_s mt_24 rfl rfl rfl ?_
        refine j_gi (w := J1 1 3) 3 mt_24 rfl rfl c_1 (by decide) rfl ?_
        refine v_ic (v := Int32.ofInt 1) mt_24 rfl rfl ?_
        refine j_add (e := (J1 1 3) + 1) mt_24 rfl rfl ?_
        refine j_pi 3 mt_24 rfl rfl c_1 (by decide) ?_
        refine v_s mt_24 rfl rfl rfl ?_
        refine v_s mt_24 rfl rfl rfl ?_
        refine v_s mt_24 rfl rfl rfl ?_
        obtain ⟨c6, J5, z12, h⟩ := h
        refine v_call (d1 := (d - 1)) mt_24 rfl rfl mt_25 rfl rfl (m_callj (As := [.ref 1, iv x2]) (rest := []) rfl rfl h0 rfl (Nat.le_of_ble_eq_true rfl) (Nat.le_of_ble_eq_true rfl)) z12 (by clear h; omega) ?_
        obtain ⟨z13, h⟩ := h
        refine j_if1 mt_24 rfl rfl z13 (fun c => ?_) (fun c => ?_)
        · replace h := h.1 c
          refine v_s mt_24 rfl rfl rfl ?_
          refine v_sp (v := Int32.ofInt 2000) mt_24 rfl rfl ?_
          refine v_s mt_24 rfl rfl rfl ?_
          refine v_bp (v := Int32.ofInt 42) mt_24 rfl rfl ?_
          refine j_if2 mt_24 rfl rfl z3 ⟨by decide, by decide⟩ (fun c => ?_) (fun c => ?_)
          · replace h := h.1 c
            refine v_s mt_24 rfl rfl rfl ?_
            refine v_bp (v := Int32.ofInt 47) mt_24 rfl rfl ?_
            refine j_if2 mt_24 rfl rfl z3 ⟨by decide, by decide⟩ (fun c => ?_) (fun c => ?_)
            · replace h := h.1 c
              refine v_ic (v := Int32.ofInt 4) mt_24 rfl rfl ?_
              refine j_add (e := 2004) mt_24 rfl (by decide) ?_
              refine v_inl (L1 := [some (.ref r0), some (iv 2004)]) mt_24 rfl rfl mt_29 rfl rfl (m_callj (As := [iv 2004]) (rest := []) rfl rfl h0 rfl (Nat.le_of_ble_eq_true rfl) (Nat.le_of_ble_eq_true rfl)) rfl (by clear h; omega) ?_
              refine v_s mt_29 rfl rfl rfl ?_
              refine j_gi (w := J5 r0 1) 1 mt_29 rfl rfl h0 (by decide) rfl ?_
              refine v_s mt_29 rfl rfl rfl ?_
              refine v_gr (w := (r0 + 1)) 0 mt_29 rfl rfl h0 (by decide) (g_3_0 h0) ?_
              refine j_len (e := 150) mt_29 rfl (shL r0 (SH_lt h0) h0).1 (by decide) rfl ?_
              obtain ⟨z14, h⟩ := h
              refine j_if2 mt_29 rfl rfl z14 ⟨by decide, by decide⟩ (fun c => ?_) (fun c => ?_)
              · replace h := h.1 c
                refine v_ic (v := Int32.ofInt 1) mt_29 rfl rfl ?_
                refine j_retb mt_29 rfl rfl (by decide) ?_
                refine v_s mt_24 rfl rfl rfl ?_
                refine j_inc (e := x3 + 1) (L' := [some (.ref r0), some (.ref 1), some (iv x2), some (iv (x3 + 1)), some (iv c2)]) mt_24 rfl rfl (Nat.le_of_ble_eq_true rfl) rfl rfl ?_
                refine v_go mt_24 rfl rfl ?_
                exact h
              · replace h := h.2 (Int.not_le.mp c)
                refine v_s mt_29 rfl rfl rfl ?_
                refine v_gr (w := (r0 + 1)) 0 mt_29 rfl rfl h0 (by decide) (g_3_0 h0) ?_
                refine v_s mt_29 rfl rfl rfl ?_
                refine j_gi (w := J5 r0 1) 1 mt_29 rfl rfl h0 (by decide) rfl ?_
                refine v_s mt_29 rfl rfl rfl ?_
                obtain ⟨z15, h⟩ := h
                refine j_as mt_29 rfl (shL r0 (SH_lt h0) h0).1 z15 (by decide) ?_
                refine v_s mt_29 rfl rfl rfl ?_
                refine v_s mt_29 rfl rfl rfl ?_
                refine j_gi (w := J5 r0 1) 1 mt_29 rfl rfl h0 (by decide) ((up_na (sh_ne h0 (shL r0 (SH_lt h0) h0).1 (by decide))).trans rfl) ?_
                refine v_ic (v := Int32.ofInt 1) mt_29 rfl rfl ?_
                refine j_add (e := (J5 r0 1) + 1) mt_29 rfl rfl ?_
                refine j_pi 1 mt_29 rfl rfl h0 (by decide) ?_
                refine v_ic (v := Int32.ofInt 1) mt_29 rfl rfl ?_
                refine j_retb mt_29 rfl rfl (by decide) ?_
                refine v_s mt_24 rfl rfl rfl ?_
                refine j_inc (e := x3 + 1) (L' := [some (.ref r0), some (.ref 1), some (iv x2), some (iv (x3 + 1)), some (iv c2)]) mt_24 rfl rfl (Nat.le_of_ble_eq_true rfl) rfl rfl ?_
                refine v_go mt_24 rfl rfl ?_
                exact h
            · replace h := h.2 (Decidable.not_not.mp c)
              refine v_ic (v := Int32.ofInt 3) mt_24 rfl rfl ?_
              refine v_go mt_24 rfl rfl ?_
              refine j_add (e := 2003) mt_24 rfl (by decide) ?_
              refine v_inl (L1 := [some (.ref r0), some (iv 2003)]) mt_24 rfl rfl mt_29 rfl rfl (m_callj (As := [iv 2003]) (rest := []) rfl rfl h0 rfl (Nat.le_of_ble_eq_true rfl) (Nat.le_of_ble_eq_true rfl)) rfl (by clear h; omega) ?_
              refine v_s mt_29 rfl rfl rfl ?_
              refine j_gi (w := J5 r0 1) 1 mt_29 rfl rfl h0 (by decide) rfl ?_
              refine v_s mt_29 rfl rfl rfl ?_
              refine v_gr (w := (r0 + 1)) 0 mt_29 rfl rfl h0 (by decide) (g_3_0 h0) ?_
              refine j_len (e := 150) mt_29 rfl (shL r0 (SH_lt h0) h0).1 (by decide) rfl ?_
              obtain ⟨z16, h⟩ := h
              refine j_if2 mt_29 rfl rfl z16 ⟨by decide, by decide⟩ (fun c => ?_) (fun c => ?_)
              · replace h := h.1 c
                refine v_ic (v := Int32.ofInt 1) mt_29 rfl rfl ?_
                refine j_retb mt_29 rfl rfl (by decide) ?_
                refine v_s mt_24 rfl rfl rfl ?_
                refine j_inc (e := x3 + 1) (L' := [some (.ref r0), some (.ref 1), some (iv x2), some (iv (x3 + 1)), some (iv c2)]) mt_24 rfl rfl (Nat.le_of_ble_eq_true rfl) rfl rfl ?_
                refine v_go mt_24 rfl rfl ?_
                exact h
              · replace h := h.2 (Int.not_le.mp c)
                refine v_s mt_29 rfl rfl rfl ?_
                refine v_gr (w := (r0 + 1)) 0 mt_29 rfl rfl h0 (by decide) (g_3_0 h0) ?_
                refine v_s mt_29 rfl rfl rfl ?_
                refine j_gi (w := J5 r0 1) 1 mt_29 rfl rfl h0 (by decide) rfl ?_
                refine v_s mt_29 rfl rfl rfl ?_
                obtain ⟨z17, h⟩ := h
                refine j_as mt_29 rfl (shL r0 (SH_lt h0) h0).1 z17 (by decide) ?_
                refine v_s mt_29 rfl rfl rfl ?_
                refine v_s mt_29 rfl rfl rfl ?_
                refine j_gi (w := J5 r0 1) 1 mt_29 rfl rfl h0 (by decide) ((up_na (sh_ne h0 (shL r0 (SH_lt h0) h0).1 (by decide))).trans rfl) ?_
                refine v_ic (v := Int32.ofInt 1) mt_29 rfl rfl ?_
                refine j_add (e := (J5 r0 1) + 1) mt_29 rfl rfl ?_
                refine j_pi 1 mt_29 rfl rfl h0 (by decide) ?_
                refine v_ic (v := Int32.ofInt 1) mt_29 rfl rfl ?_
                refine j_retb mt_29 rfl rfl (by decide) ?_
                refine v_s mt_24 rfl rfl rfl ?_
                refine j_inc (e := x3 + 1) (L' := [some (.ref r0), some (.ref 1), some (iv x2), some (iv (x3 + 1)), some (iv c2)]) mt_24 rfl rfl (Nat.le_of_ble_eq_true rfl) rfl rfl ?_
                refine v_go mt_24 rfl rfl ?_
                exact h
          · replace h := h.2 (Decidable.not_not.mp c)
            refine v_ic (v := Int32.ofInt 2) mt_24 rfl rfl ?_
            refine v_go mt_24 rfl rfl ?_
            refine j_add (e := 2002) mt_24 rfl (by decide) ?_
            refine v_inl (L1 := [some (.ref r0), some (iv 2002)]) mt_24 rfl rfl mt_29 rfl rfl (m_callj (As := [iv 2002]) (rest := []) rfl rfl h0 rfl (Nat.le_of_ble_eq_true rfl) (Nat.le_of_ble_eq_true rfl)) rfl (by clear h; omega) ?_
            refine v_s mt_29 rfl rfl rfl ?_
            refine j_gi (w := J5 r0 1) 1 mt_29 rfl rfl h0 (by decide) rfl ?_
            refine v_s mt_29 rfl rfl rfl ?_
            refine v_gr (w := (r0 + 1)) 0 mt_29 rfl rfl h0 (by decide) (g_3_0 h0) ?_
            refine j_len (e := 150) mt_29 rfl (shL r0 (SH_lt h0) h0).1 (by decide) rfl ?_
            obtain ⟨z18, h⟩ := h
            refine j_if2 mt_29 rfl rfl z18 ⟨by decide, by decide⟩ (fun c => ?_) (fun c => ?_)
            · replace h := h.1 c
              refine v_ic (v := Int32.ofInt 1) mt_29 rfl rfl ?_
              refine j_retb mt_29 rfl rfl (by decide) ?_
              refine v_s mt_24 rfl rfl rfl ?_
              refine j_inc (e := x3 + 1) (L' := [some (.ref r0), some (.ref 1), some (iv x2), some (iv (x3 + 1)), some (iv c2)]) mt_24 rfl rfl (Nat.le_of_ble_eq_true rfl) rfl rfl ?_
              refine v_go mt_24 rfl rfl ?_
              exact h
            · replace h := h.2 (Int.not_le.mp c)
              refine v_s mt_29 rfl rfl rfl ?_
              refine v_gr (w := (r0 + 1)) 0 mt_29 rfl rfl h0 (by decide) (g_3_0 h0) ?_
              refine v_s mt_29 rfl rfl rfl ?_
              refine j_gi (w := J5 r0 1) 1 mt_29 rfl rfl h0 (by decide) rfl ?_
              refine v_s mt_29 rfl rfl rfl ?_
              obtain ⟨z19, h⟩ := h
              refine j_as mt_29 rfl (shL r0 (SH_lt h0) h0).1 z19 (by decide) ?_
              refine v_s mt_29 rfl rfl rfl ?_
              refine v_s mt_29 rfl rfl rfl ?_
              refine j_gi (w := J5 r0 1) 1 mt_29 rfl rfl h0 (by decide) ((up_na (sh_ne h0 (shL r0 (SH_lt h0) h0).1 (by decide))).trans rfl) ?_
              refine v_ic (v := Int32.ofInt 1) mt_29 rfl rfl ?_
              refine j_add (e := (J5 r0 1) + 1) mt_29 rfl rfl ?_
              refine j_pi 1 mt_29 rfl rfl h0 (by decide) ?_
              refine v_ic (v := Int32.ofInt 1) mt_29 rfl rfl ?_
              refine j_retb mt_29 rfl rfl (by decide) ?_
              refine v_s mt_24 rfl rfl rfl ?_
              refine j_inc (e := x3 + 1) (L' := [some (.ref r0), some (.ref 1), some (iv x2), some (iv (x3 + 1)), some (iv c2)]) mt_24 rfl rfl (Nat.le_of_ble_eq_true rfl) rfl rfl ?_
              refine v_go mt_24 rfl rfl ?_
              exact h
        · replace h := h.2 (Decidable.not_not.mp c)
          refine v_ic (v := Int32.ofInt 0) mt_24 rfl rfl ?_
          exact j_retb mt_24 rfl rfl (by decide) h
      · replace h := h.2 c
        refine v_s mt_24 rfl rfl rfl ?_
        refine v_bp (v := Int32.ofInt 37) mt_24 rfl rfl ?_
        refine j_if2 mt_24 rfl rfl z3 ⟨by decide, by decide⟩ (fun c => ?_) (fun c => ?_)
        · replace h := h.1 c
          refine v_s mt_24 rfl rfl rfl ?_
          refine v_s mt_24 rfl rfl rfl ?_
          refine j_gi (w := J1 1 3) 3 mt_24 rfl rfl c_1 (by decide) rfl ?_
          refine v_ic (v := Int32.ofInt 1) mt_24 rfl rfl ?_
          refine j_add (e := (J1 1 3) + 1) mt_24 rfl rfl ?_
          refine j_pi 3 mt_24 rfl rfl c_1 (by decide) ?_
          refine v_s mt_24 rfl rfl rfl ?_
          refine v_s mt_24 rfl rfl rfl ?_
          refine v_s mt_24 rfl rfl rfl ?_
          obtain ⟨c8, J7, z20, h⟩ := h
          refine v_call (d1 := (d - 1)) mt_24 rfl rfl mt_25 rfl rfl (m_callj (As := [.ref 1, iv x2]) (rest := []) rfl rfl h0 rfl (Nat.le_of_ble_eq_true rfl) (Nat.le_of_ble_eq_true rfl)) z20 (by clear h; omega) ?_
          obtain ⟨z21, h⟩ := h
          refine j_if1 mt_24 rfl rfl z21 (fun c => ?_) (fun c => ?_)
          · replace h := h.1 c
            refine v_s mt_24 rfl rfl rfl ?_
            refine v_sp (v := Int32.ofInt 2000) mt_24 rfl rfl ?_
            refine v_s mt_24 rfl rfl rfl ?_
            refine v_bp (v := Int32.ofInt 42) mt_24 rfl rfl ?_
            refine j_if2 mt_24 rfl rfl z3 ⟨by decide, by decide⟩ (fun c => ?_) (fun c => ?_)
            · replace h := h.1 c
              refine v_s mt_24 rfl rfl rfl ?_
              refine v_bp (v := Int32.ofInt 47) mt_24 rfl rfl ?_
              refine j_if2 mt_24 rfl rfl z3 ⟨by decide, by decide⟩ (fun c => ?_) (fun c => ?_)
              · replace h := h.1 c
                refine v_ic (v := Int32.ofInt 4) mt_24 rfl rfl ?_
                refine j_add (e := 2004) mt_24 rfl (by decide) ?_
                refine v_inl (L1 := [some (.ref r0), some (iv 2004)]) mt_24 rfl rfl mt_29 rfl rfl (m_callj (As := [iv 2004]) (rest := []) rfl rfl h0 rfl (Nat.le_of_ble_eq_true rfl) (Nat.le_of_ble_eq_true rfl)) rfl (by clear h; omega) ?_
                refine v_s mt_29 rfl rfl rfl ?_
                refine j_gi (w := J7 r0 1) 1 mt_29 rfl rfl h0 (by decide) rfl ?_
                refine v_s mt_29 rfl rfl rfl ?_
                refine v_gr (w := (r0 + 1)) 0 mt_29 rfl rfl h0 (by decide) (g_3_0 h0) ?_
                refine j_len (e := 150) mt_29 rfl (shL r0 (SH_lt h0) h0).1 (by decide) rfl ?_
                obtain ⟨z22, h⟩ := h
                refine j_if2 mt_29 rfl rfl z22 ⟨by decide, by decide⟩ (fun c => ?_) (fun c => ?_)
                · replace h := h.1 c
                  refine v_ic (v := Int32.ofInt 1) mt_29 rfl rfl ?_
                  refine j_retb mt_29 rfl rfl (by decide) ?_
                  refine v_s mt_24 rfl rfl rfl ?_
                  refine j_inc (e := x3 + 1) (L' := [some (.ref r0), some (.ref 1), some (iv x2), some (iv (x3 + 1)), some (iv c2)]) mt_24 rfl rfl (Nat.le_of_ble_eq_true rfl) rfl rfl ?_
                  refine v_go mt_24 rfl rfl ?_
                  exact h
                · replace h := h.2 (Int.not_le.mp c)
                  refine v_s mt_29 rfl rfl rfl ?_
                  refine v_gr (w := (r0 + 1)) 0 mt_29 rfl rfl h0 (by decide) (g_3_0 h0) ?_
                  refine v_s mt_29 rfl rfl rfl ?_
                  refine j_gi (w := J7 r0 1) 1 mt_29 rfl rfl h0 (by decide) rfl ?_
                  refine v_s mt_29 rfl rfl rfl ?_
                  obtain ⟨z23, h⟩ := h
                  refine j_as mt_29 rfl (shL r0 (SH_lt h0) h0).1 z23 (by decide) ?_
                  refine v_s mt_29 rfl rfl rfl ?_
                  refine v_s mt_29 rfl rfl rfl ?_
                  refine j_gi (w := J7 r0 1) 1 mt_29 rfl rfl h0 (by decide) ((up_na (sh_ne h0 (shL r0 (SH_lt h0) h0).1 (by decide))).trans rfl) ?_
                  refine v_ic (v := Int32.ofInt 1) mt_29 rfl rfl ?_
                  refine j_add (e := (J7 r0 1) + 1) mt_29 rfl rfl ?_
                  refine j_pi 1 mt_29 rfl rfl h0 (by decide) ?_
                  refine v_ic (v := Int32.ofInt 1) mt_29 rfl rfl ?_
                  refine j_retb mt_29 rfl rfl (by decide) ?_
                  refine v_s mt_24 rfl rfl rfl ?_
                  refine j_inc (e := x3 + 1) (L' := [some (.ref r0), some (.ref 1), some (iv x2), some (iv (x3 + 1)), some (iv c2)]) mt_24 rfl rfl (Nat.le_of_ble_eq_true rfl) rfl rfl ?_
                  refine v_go mt_24 rfl rfl ?_
                  exact h
              · replace h := h.2 (Decidable.not_not.mp c)
                refine v_ic (v := Int32.ofInt 3) mt_24 rfl rfl ?_
                refine v_go mt_24 rfl rfl ?_
                refine j_add (e := 2003) mt_24 rfl (by decide) ?_
                refine v_inl (L1 := [some (.ref r0), some (iv 2003)]) mt_24 rfl rfl mt_29 rfl rfl (m_callj (As := [iv 2003]) (rest := []) rfl rfl h0 rfl (Nat.le_of_ble_eq_true rfl) (Nat.le_of_ble_eq_true rfl)) rfl (by clear h; omega) ?_
                refine v_s mt_29 rfl rfl rfl ?_
                refine j_gi (w := J7 r0 1) 1 mt_29 rfl rfl h0 (by decide) rfl ?_
                refine v_s mt_29 rfl rfl rfl ?_
                refine v_gr (w := (r0 + 1)) 0 mt_29 rfl rfl h0 (by decide) (g_3_0 h0) ?_
                refine j_len (e := 150) mt_29 rfl (shL r0 (SH_lt h0) h0).1 (by decide) rfl ?_
                obtain ⟨z24, h⟩ := h
                refine j_if2 mt_29 rfl rfl z24 ⟨by decide, by decide⟩ (fun c => ?_) (fun c => ?_)
                · replace h := h.1 c
                  refine v_ic (v := Int32.ofInt 1) mt_29 rfl rfl ?_
                  refine j_retb mt_29 rfl rfl (by decide) ?_
                  refine v_s mt_24 rfl rfl rfl ?_
                  refine j_inc (e := x3 + 1) (L' := [some (.ref r0), some (.ref 1), some (iv x2), some (iv (x3 + 1)), some (iv c2)]) mt_24 rfl rfl (Nat.le_of_ble_eq_true rfl) rfl rfl ?_
                  refine v_go mt_24 rfl rfl ?_
                  exact h
                · replace h := h.2 (Int.not_le.mp c)
                  refine v_s mt_29 rfl rfl rfl ?_
                  refine v_gr (w := (r0 + 1)) 0 mt_29 rfl rfl h0 (by decide) (g_3_0 h0) ?_
                  refine v_s mt_29 rfl rfl rfl ?_
                  refine j_gi (w := J7 r0 1) 1 mt_29 rfl rfl h0 (by decide) rfl ?_
                  refine v_s mt_29 rfl rfl rfl ?_
                  obtain ⟨z25, h⟩ := h
                  refine j_as mt_29 rfl (shL r0 (SH_lt h0) h0).1 z25 (by decide) ?_
                  refine v_s mt_29 rfl rfl rfl ?_
                  refine v_s mt_29 rfl rfl rfl ?_
                  refine j_gi (w := J7 r0 1) 1 mt_29 rfl rfl h0 (by decide) ((up_na (sh_ne h0 (shL r0 (SH_lt h0) h0).1 (by decide))).trans rfl) ?_
                  refine v_ic (v := Int32.ofInt 1) mt_29 rfl rfl ?_
                  refine j_add (e := (J7 r0 1) + 1) mt_29 rfl rfl ?_
                  refine j_pi 1 mt_29 rfl rfl h0 (by decide) ?_
                  refine v_ic (v := Int32.ofInt 1) mt_29 rfl rfl ?_
                  refine j_retb mt_29 rfl rfl (by decide) ?_
                  refine v_s mt_24 rfl rfl rfl ?_
                  refine j_inc (e := x3 + 1) (L' := [some (.ref r0), some (.ref 1), some (iv x2), some (iv (x3 + 1)), some (iv c2)]) mt_24 rfl rfl (Nat.le_of_ble_eq_true rfl) rfl rfl ?_
                  refine v_go mt_24 rfl rfl ?_
                  exact h
            · replace h := h.2 (Decidable.not_not.mp c)
              refine v_ic (v := Int32.ofInt 2) mt_24 rfl rfl ?_
              refine v_go mt_24 rfl rfl ?_
              refine j_add (e := 2002) mt_24 rfl (by decide) ?_
              refine v_inl (L1 := [some (.ref r0), some (iv 2002)]) mt_24 rfl rfl mt_29 rfl rfl (m_callj (As := [iv 2002]) (rest := []) rfl rfl h0 rfl (Nat.le_of_ble_eq_true rfl) (Nat.le_of_ble_eq_true rfl)) rfl (by clear h; omega) ?_
              refine v_s mt_29 rfl rfl rfl ?_
              refine j_gi (w := J7 r0 1) 1 mt_29 rfl rfl h0 (by decide) rfl ?_
              refine v_s mt_29 rfl rfl rfl ?_
              refine v_gr (w := (r0 + 1)) 0 mt_29 rfl rfl h0 (by decide) (g_3_0 h0) ?_
              refine j_len (e := 150) mt_29 rfl (shL r0 (SH_lt h0) h0).1 (by decide) rfl ?_
              obtain ⟨z26, h⟩ := h
              refine j_if2 mt_29 rfl rfl z26 ⟨by decide, by decide⟩ (fun c => ?_) (fun c => ?_)
              · replace h := h.1 c
                refine v_ic (v := Int32.ofInt 1) mt_29 rfl rfl ?_
                refine j_retb mt_29 rfl rfl (by decide) ?_
                refine v_s mt_24 rfl rfl rfl ?_
                refine j_inc (e := x3 + 1) (L' := [some (.ref r0), some (.ref 1), some (iv x2), some (iv (x3 + 1)), some (iv c2)]) mt_24 rfl rfl (Nat.le_of_ble_eq_true rfl) rfl rfl ?_
                refine v_go mt_24 rfl rfl ?_
                exact h
              · replace h := h.2 (Int.not_le.mp c)
                refine v_s mt_29 rfl rfl rfl ?_
                refine v_gr (w := (r0 + 1)) 0 mt_29 rfl rfl h0 (by decide) (g_3_0 h0) ?_
                refine v_s mt_29 rfl rfl rfl ?_
                refine j_gi (w := J7 r0 1) 1 mt_29 rfl rfl h0 (by decide) rfl ?_
                refine v_s mt_29 rfl rfl rfl ?_
                obtain ⟨z27, h⟩ := h
                refine j_as mt_29 rfl (shL r0 (SH_lt h0) h0).1 z27 (by decide) ?_
                refine v_s mt_29 rfl rfl rfl ?_
                refine v_s mt_29 rfl rfl rfl ?_
                refine j_gi (w := J7 r0 1) 1 mt_29 rfl rfl h0 (by decide) ((up_na (sh_ne h0 (shL r0 (SH_lt h0) h0).1 (by decide))).trans rfl) ?_
                refine v_ic (v := Int32.ofInt 1) mt_29 rfl rfl ?_
                refine j_add (e := (J7 r0 1) + 1) mt_29 rfl rfl ?_
                refine j_pi 1 mt_29 rfl rfl h0 (by decide) ?_
                refine v_ic (v := Int32.ofInt 1) mt_29 rfl rfl ?_
                refine j_retb mt_29 rfl rfl (by decide) ?_
                refine v_s mt_24 rfl rfl rfl ?_
                refine j_inc (e := x3 + 1) (L' := [some (.ref r0), some (.ref 1), some (iv x2), some (iv (x3 + 1)), some (iv c2)]) mt_24 rfl rfl (Nat.le_of_ble_eq_true rfl) rfl rfl ?_
                refine v_go mt_24 rfl rfl ?_
                exact h
          · replace h := h.2 (Decidable.not_not.mp c)
            refine v_ic (v := Int32.ofInt 0) mt_24 rfl rfl ?_
            exact j_retb mt_24 rfl rfl (by decide) h
        · replace h := h.2 c
          refine v_ic (v := Int32.ofInt 1) mt_24 rfl rfl ?_
          exact j_retb mt_24 rfl rfl (by decide) h
set_option maxHeartbeats 600000 in
theorem b_25_0 {X : Nat × (Nat → Int32)} {d : Nat} {J : Nat → Nat → Int} {sw : Bool × Bool × Bool} {lg : Nat → Nat → Int64} {x : Nat} {K : (Option Value ⊕ Nat) → mM → Prop} {r0 : Nat} {x2 : Int} {o3 : Option Value} (h0 : SH[r0]? = some (8, 4)) (hd : 2 ≤ d)
    (h : ∃ (c2 : Int) (J1 : Nat → Nat → Int), EE X 0 85 [.ref 1] (mj J sw lg x) (.inl (some (iv c2))) (mj J1 sw lg x) ∧ InR c2 ∧ (¬ c2 = 40 → (∃ (c4 : Int) (J3 : Nat → Nat → Int), EE X 0 90 [.ref 1] (mj J1 sw lg x) (.inl (some (iv c4))) (mj J3 sw lg x) ∧ InR c4 ∧ (c4 = 0 → (∃ (J5 : Nat → Nat → Int), EE X 1 88 [.ref 1] (mj J3 sw lg x) (.inl none) (mj J5 sw lg x) ∧ ∃ (c7 : Int) (J6 : Nat → Nat → Int), EE X 0 89 [.ref 1, .ref (m_scr + 1 + 6)] (mj J5 sw lg x) (.inl (some (iv c7))) (mj J6 sw lg x) ∧ InR c7 ∧ (c7 = 0 → (∃ (c9 : Int) (J8 : Nat → Nat → Int), EE X 0 89 [.ref 1, .ref (m_scr + 1 + 7)] (mj J6 sw lg x) (.inl (some (iv c9))) (mj J8 sw lg x) ∧ InR c9 ∧ (c9 = 0 → (∃ (c11 : Int) (J10 : Nat → Nat → Int), EE X 1 28 [.ref 1] (mj J8 sw lg x) (.inl (some (iv c11))) (mj J10 sw lg x) ∧ InR c11 ∧ (¬ c11 = (-1) → (InR (J10 r0 1) ∧ (150 ≤ J10 r0 1 → K (.inl (some (iv 1))) (mj J10 sw lg x)) ∧ (J10 r0 1 < 150 → ((0 ≤ J10 r0 1 ∧ J10 r0 1 < 150) ∧ K (.inl (some (iv 1))) (mj (m_up (m_up J10 (r0 + 1) ((J10 r0 1).toNat) (1000 + c11)) r0 1 ((J10 r0 1) + 1)) sw lg x))))) ∧ (c11 = (-1) → K (.inl (some (iv 0))) (mj (m_up (m_up J10 1 6 1) 1 7 (J10 1 4)) sw lg x)))) ∧ (¬ c9 = 0 → (∃ (c13 : Int) (J12 : Nat → Nat → Int), EE X (d - 1) 27 [.ref r0, .ref 1, iv x2, iv 6] (mj J8 sw lg x) (.inl (some (iv c13))) (mj J12 sw lg x) ∧ (c13 = 0 ∨ c13 = 1) ∧ K (.inl (some (iv c13))) (mj J12 sw lg x))))) ∧ (¬ c7 = 0 → (∃ (c15 : Int) (J14 : Nat → Nat → Int), EE X (d - 1) 27 [.ref r0, .ref 1, iv x2, iv 5] (mj J6 sw lg x) (.inl (some (iv c15))) (mj J14 sw lg x) ∧ (c15 = 0 ∨ c15 = 1) ∧ K (.inl (some (iv c15))) (mj J14 sw lg x))))) ∧ (¬ c4 = 0 → (∃ (c17 : Int) (J16 : Nat → Nat → Int), EE X 1 91 [.ref 1, iv 0, iv 999] (mj J3 sw lg x) (.inl (some (iv c17))) (mj J16 sw lg x) ∧ InR c17 ∧ (c17 = 0 → K (.inl (some (iv 0))) (mj J16 sw lg x)) ∧ (¬ c17 = 0 → (InR (J16 r0 1) ∧ (150 ≤ J16 r0 1 → K (.inl (some (iv 1))) (mj J16 sw lg x)) ∧ (J16 r0 1 < 150 → ((0 ≤ J16 r0 1 ∧ J16 r0 1 < 150) ∧ K (.inl (some (iv 1))) (mj (m_up (m_up J16 (r0 + 1) ((J16 r0 1).toNat) (J16 1 5)) r0 1 ((J16 r0 1) + 1)) sw lg x))))))))) ∧ (c2 = 40 → (∃ (c19 : Int) (J18 : Nat → Nat → Int), EE X (d - 1) 26 [.ref r0, .ref 1, iv x2] (mj J1 sw lg x) (.inl (some (iv c19))) (mj J18 sw lg x) ∧ (c19 = 0 ∨ c19 = 1) ∧ K (.inl (some (iv c19))) (mj J18 sw lg x)))) : VV X d 25 (0, [some (.ref r0), some (.ref 1), some (iv x2), o3], [], mj J sw lg x) K := by
  refine v_s mt_25 rfl rfl rfl ?_
  obtain ⟨c2, J1, z1, h⟩ := h
  refine v_call (d1 := 0) mt_25 rfl rfl mt_85 rfl rfl (m_callj (As := []) (rest := []) rfl rfl c_1 rfl (Nat.le_of_ble_eq_true rfl) (Nat.le_of_ble_eq_true rfl)) z1 (by clear h; omega) ?_
  refine v_bp (v := Int32.ofInt 40) mt_25 rfl rfl ?_
  obtain ⟨z2, h⟩ := h
  refine j_if2 mt_25 rfl rfl z2 ⟨by decide, by decide⟩ (fun c => ?_) (fun c => ?_)
  · replace h := h.1 c
    refine v_s mt_25 rfl rfl rfl ?_
    obtain ⟨c4, J3, z3, h⟩ := h
    refine v_call (d1 := 0) mt_25 rfl rfl mt_90 rfl rfl (m_callj (As := []) (rest := []) rfl rfl c_1 rfl (Nat.le_of_ble_eq_true rfl) (Nat.le_of_ble_eq_true rfl)) z3 (by clear h; omega) ?_
    obtain ⟨z4, h⟩ := h
    refine j_if1 mt_25 rfl rfl z4 (fun c => ?_) (fun c => ?_)
    · replace h := h.1 c
      refine v_s mt_25 rfl rfl rfl ?_
      obtain ⟨J5, z5, h⟩ := h
      refine v_call (d1 := 1) mt_25 rfl rfl mt_88 rfl rfl (m_callj (As := []) (rest := []) rfl rfl c_1 rfl (Nat.le_of_ble_eq_true rfl) (Nat.le_of_ble_eq_true rfl)) z5 (by clear h; omega) ?_
      refine v_s mt_25 rfl rfl rfl ?_
      refine v_s mt_25 rfl rfl rfl ?_
      obtain ⟨c7, J6, z6, h⟩ := h
      refine v_call (d1 := 0) mt_25 rfl rfl mt_89 rfl rfl (m_callj (As := [.ref (m_scr + 1 + 6)]) (rest := []) rfl rfl c_1 rfl (Nat.le_of_ble_eq_true rfl) (Nat.le_of_ble_eq_true rfl)) z6 (by clear h; omega) ?_
      obtain ⟨z7, h⟩ := h
      refine j_if1 mt_25 rfl rfl z7 (fun c => ?_) (fun c => ?_)
      · replace h := h.1 c
        refine v_s mt_25 rfl rfl rfl ?_
        refine v_s mt_25 rfl rfl rfl ?_
        obtain ⟨c9, J8, z8, h⟩ := h
        refine v_call (d1 := 0) mt_25 rfl rfl mt_89 rfl rfl (m_callj (As := [.ref (m_scr + 1 + 7)]) (rest := []) rfl rfl c_1 rfl (Nat.le_of_ble_eq_true rfl) (Nat.le_of_ble_eq_true rfl)) z8 (by clear h; omega) ?_
        obtain ⟨z9, h⟩ := h
        refine j_if1 mt_25 rfl rfl z9 (fun c => ?_) (fun c => ?_)
        · replace h := h.1 c
          refine v_s mt_25 rfl rfl rfl ?_
          obtain ⟨c11, J10, z10, h⟩ := h
          refine v_call (d1 := 1) mt_25 rfl rfl mt_28 rfl rfl rfl z10 (by clear h; omega) ?_
          refine v_isn (L' := [some (.ref r0), some (.ref 1), some (iv x2), some (iv c11)]) mt_25 rfl (Nat.le_of_ble_eq_true rfl) rfl ?_
          refine v_s mt_25 rfl rfl rfl ?_
          refine v_ic (v := Int32.ofInt (-1)) mt_25 rfl rfl ?_
          obtain ⟨z11, h⟩ := h
          refine j_if2 mt_25 rfl rfl z11 ⟨by decide, by decide⟩ (fun c => ?_) (fun c => ?_)
          · replace h := h.1 c
            refine v_s mt_25 rfl rfl rfl ?_
            refine v_sp (v := Int32.ofInt 1000) mt_25 rfl rfl ?_
            refine v_s mt_25 rfl rfl rfl ?_
            refine j_add (e := 1000 + c11) mt_25 rfl rfl ?_
            refine v_inl (L1 := [some (.ref r0), some (iv (1000 + c11))]) mt_25 rfl rfl mt_29 rfl rfl (m_callj (As := [iv (1000 + c11)]) (rest := []) rfl rfl h0 rfl (Nat.le_of_ble_eq_true rfl) (Nat.le_of_ble_eq_true rfl)) rfl (by clear h; omega) ?_
            refine v_s mt_29 rfl rfl rfl ?_
            refine j_gi (w := J10 r0 1) 1 mt_29 rfl rfl h0 (by decide) rfl ?_
            refine v_s mt_29 rfl rfl rfl ?_
            refine v_gr (w := (r0 + 1)) 0 mt_29 rfl rfl h0 (by decide) (g_3_0 h0) ?_
            refine j_len (e := 150) mt_29 rfl (shL r0 (SH_lt h0) h0).1 (by decide) rfl ?_
            obtain ⟨z12, h⟩ := h
            refine j_if2 mt_29 rfl rfl z12 ⟨by decide, by decide⟩ (fun c => ?_) (fun c => ?_)
            · replace h := h.1 c
              refine v_ic (v := Int32.ofInt 1) mt_29 rfl rfl ?_
              refine j_retb mt_29 rfl rfl (by decide) ?_
              exact j_retb mt_25 rfl rfl (by decide) h
            · replace h := h.2 (Int.not_le.mp c)
              refine v_s mt_29 rfl rfl rfl ?_
              refine v_gr (w := (r0 + 1)) 0 mt_29 rfl rfl h0 (by decide) (g_3_0 h0) ?_
              refine v_s mt_29 rfl rfl rfl ?_
              refine j_gi (w := J10 r0 1) 1 mt_29 rfl rfl h0 (by decide) rfl ?_
              refine v_s mt_29 rfl rfl rfl ?_
              obtain ⟨z13, h⟩ := h
              refine j_as mt_29 rfl (shL r0 (SH_lt h0) h0).1 z13 (by decide) ?_
              refine v_s mt_29 rfl rfl rfl ?_
              refine v_s mt_29 rfl rfl rfl ?_
              refine j_gi (w := J10 r0 1) 1 mt_29 rfl rfl h0 (by decide) ((up_na (sh_ne h0 (shL r0 (SH_lt h0) h0).1 (by decide))).trans rfl) ?_
              refine v_ic (v := Int32.ofInt 1) mt_29 rfl rfl ?_
              refine j_add (e := (J10 r0 1) + 1) mt_29 rfl rfl ?_
              refine j_pi 1 mt_29 rfl rfl h0 (by decide) ?_
              refine v_ic (v := Int32.ofInt 1) mt_29 rfl rfl ?_
              refine j_retb mt_29 rfl rfl (by decide) ?_
              exact j_retb mt_25 rfl rfl (by decide) h
          · replace h := h.2 (Decidable.not_not.mp c)
            refine v_s mt_25 rfl rfl rfl ?_
            refine v_ic (v := Int32.ofInt 1) mt_25 rfl rfl ?_
            refine v_s mt_25 rfl rfl rfl ?_
            refine j_gi (w := J10 1 4) 4 mt_25 rfl rfl c_1 (by decide) rfl ?_
            refine v_inl (L1 := [some (.ref 1), some (iv 1), some (iv (J10 1 4))]) mt_25 rfl rfl mt_84 rfl rfl (m_callj (As := [iv 1, iv (J10 1 4)]) (rest := []) rfl rfl c_1 rfl (Nat.le_of_ble_eq_true rfl) (Nat.le_of_ble_eq_true rfl)) rfl (by clear h; omega) ?_
            refine v_s mt_84 rfl rfl rfl ?_
            refine v_s mt_84 rfl rfl rfl ?_
            refine j_pi 6 mt_84 rfl rfl c_1 (by decide) ?_
            refine v_s mt_84 rfl rfl rfl ?_
            refine v_s mt_84 rfl rfl rfl ?_
            refine j_pi 7 mt_84 rfl rfl c_1 (by decide) ?_
            refine v_ic (v := Int32.ofInt 0) mt_84 rfl rfl ?_
            refine j_retb mt_84 rfl rfl (by decide) ?_
            exact j_retb mt_25 rfl rfl (by decide) h
        · replace h := h.2 c
          refine v_s mt_25 rfl rfl rfl ?_
          refine v_s mt_25 rfl rfl rfl ?_
          refine v_s mt_25 rfl rfl rfl ?_
          refine v_bp (v := Int32.ofInt 6) mt_25 rfl rfl ?_
          obtain ⟨c13, J12, z14, h⟩ := h
          refine v_call (d1 := (d - 1)) mt_25 rfl rfl mt_27 rfl rfl (m_callj (As := [.ref 1, iv x2, iv 6]) (rest := []) rfl rfl h0 rfl (Nat.le_of_ble_eq_true rfl) (Nat.le_of_ble_eq_true rfl)) z14 (by clear h; omega) ?_
          obtain ⟨z15, h⟩ := h
          exact j_retb mt_25 rfl rfl z15 h
      · replace h := h.2 c
        refine v_s mt_25 rfl rfl rfl ?_
        refine v_s mt_25 rfl rfl rfl ?_
        refine v_s mt_25 rfl rfl rfl ?_
        refine v_ic (v := Int32.ofInt 5) mt_25 rfl rfl ?_
        obtain ⟨c15, J14, z16, h⟩ := h
        refine v_call (d1 := (d - 1)) mt_25 rfl rfl mt_27 rfl rfl (m_callj (As := [.ref 1, iv x2, iv 5]) (rest := []) rfl rfl h0 rfl (Nat.le_of_ble_eq_true rfl) (Nat.le_of_ble_eq_true rfl)) z16 (by clear h; omega) ?_
        obtain ⟨z17, h⟩ := h
        exact j_retb mt_25 rfl rfl z17 h
    · replace h := h.2 c
      refine v_s mt_25 rfl rfl rfl ?_
      refine v_ic (v := Int32.ofInt 0) mt_25 rfl rfl ?_
      refine v_sp (v := Int32.ofInt 999) mt_25 rfl rfl ?_
      obtain ⟨c17, J16, z18, h⟩ := h
      refine v_call (d1 := 1) mt_25 rfl rfl mt_91 rfl rfl (m_callj (As := [iv 0, iv 999]) (rest := []) rfl rfl c_1 rfl (Nat.le_of_ble_eq_true rfl) (Nat.le_of_ble_eq_true rfl)) z18 (by clear h; omega) ?_
      obtain ⟨z19, h⟩ := h
      refine j_if1 mt_25 rfl rfl z19 (fun c => ?_) (fun c => ?_)
      · replace h := h.1 c
        refine v_ic (v := Int32.ofInt 0) mt_25 rfl rfl ?_
        exact j_retb mt_25 rfl rfl (by decide) h
      · replace h := h.2 c
        refine v_s mt_25 rfl rfl rfl ?_
        refine v_s mt_25 rfl rfl rfl ?_
        refine j_gi (w := J16 1 5) 5 mt_25 rfl rfl c_1 (by decide) rfl ?_
        refine v_inl (L1 := [some (.ref r0), some (iv (J16 1 5))]) mt_25 rfl rfl mt_29 rfl rfl (m_callj (As := [iv (J16 1 5)]) (rest := []) rfl rfl h0 rfl (Nat.le_of_ble_eq_true rfl) (Nat.le_of_ble_eq_true rfl)) rfl (by clear h; omega) ?_
        refine v_s mt_29 rfl rfl rfl ?_
        refine j_gi (w := J16 r0 1) 1 mt_29 rfl rfl h0 (by decide) rfl ?_
        refine v_s mt_29 rfl rfl rfl ?_
        refine v_gr (w := (r0 + 1)) 0 mt_29 rfl rfl h0 (by decide) (g_3_0 h0) ?_
        refine j_len (e := 150) mt_29 rfl (shL r0 (SH_lt h0) h0).1 (by decide) rfl ?_
        obtain ⟨z20, h⟩ := h
        refine j_if2 mt_29 rfl rfl z20 ⟨by decide, by decide⟩ (fun c => ?_) (fun c => ?_)
        · replace h := h.1 c
          refine v_ic (v := Int32.ofInt 1) mt_29 rfl rfl ?_
          refine j_retb mt_29 rfl rfl (by decide) ?_
          refine j_if1 mt_25 rfl rfl ⟨by decide, by decide⟩ (fun c => absurd (show (1 : Int) = 0 from c) (by decide)) (fun _ => ?_)
          refine v_ic (v := Int32.ofInt 1) mt_25 rfl rfl ?_
          refine v_go mt_25 rfl rfl ?_
          exact j_retb mt_25 rfl rfl (by decide) h
        · replace h := h.2 (Int.not_le.mp c)
          refine v_s mt_29 rfl rfl rfl ?_
          refine v_gr (w := (r0 + 1)) 0 mt_29 rfl rfl h0 (by decide) (g_3_0 h0) ?_
          refine v_s mt_29 rfl rfl rfl ?_
          refine j_gi (w := J16 r0 1) 1 mt_29 rfl rfl h0 (by decide) rfl ?_
          refine v_s mt_29 rfl rfl rfl ?_
          obtain ⟨z21, h⟩ := h
          refine j_as mt_29 rfl (shL r0 (SH_lt h0) h0).1 z21 (by decide) ?_
          refine v_s mt_29 rfl rfl rfl ?_
          refine v_s mt_29 rfl rfl rfl ?_
          refine j_gi (w := J16 r0 1) 1 mt_29 rfl rfl h0 (by decide) ((up_na (sh_ne h0 (shL r0 (SH_lt h0) h0).1 (by decide))).trans rfl) ?_
          refine v_ic (v := Int32.ofInt 1) mt_29 rfl rfl ?_
          refine j_add (e := (J16 r0 1) + 1) mt_29 rfl rfl ?_
          refine j_pi 1 mt_29 rfl rfl h0 (by decide) ?_
          refine v_ic (v := Int32.ofInt 1) mt_29 rfl rfl ?_
          refine j_retb mt_29 rfl rfl (by decide) ?_
          refine j_if1 mt_25 rfl rfl ⟨by decide, by decide⟩ (fun c => absurd (show (1 : Int) = 0 from c) (by decide)) (fun _ => ?_)
          refine v_ic (v := Int32.ofInt 1) mt_25 rfl rfl ?_
          refine v_go mt_25 rfl rfl ?_
          exact j_retb mt_25 rfl rfl (by decide) h
  · replace h := h.2 (Decidable.not_not.mp c)
    refine v_s mt_25 rfl rfl rfl ?_
    refine v_s mt_25 rfl rfl rfl ?_
    refine v_s mt_25 rfl rfl rfl ?_
    obtain ⟨c19, J18, z22, h⟩ := h
    refine v_call (d1 := (d - 1)) mt_25 rfl rfl mt_26 rfl rfl (m_callj (As := [.ref 1, iv x2]) (rest := []) rfl rfl h0 rfl (Nat.le_of_ble_eq_true rfl) (Nat.le_of_ble_eq_true rfl)) z22 (by clear h; omega) ?_
    obtain ⟨z23, h⟩ := h
    exact j_retb mt_25 rfl rfl z23 h
set_option maxHeartbeats 600000 in
theorem b_26_0 {X : Nat × (Nat → Int32)} {d : Nat} {J : Nat → Nat → Int} {sw : Bool × Bool × Bool} {lg : Nat → Nat → Int64} {x : Nat} {K : (Option Value ⊕ Nat) → mM → Prop} {r0 : Nat} {x2 : Int} (h0 : SH[r0]? = some (8, 4)) (hd : 2 ≤ d)
    (h : InR x2 ∧ (x2 < 6 → (∃ (c2 : Int) (J1 : Nat → Nat → Int), EE X 1 87 [.ref 1, iv 40] (mj J sw lg x) (.inl (some (iv c2))) (mj J1 sw lg x) ∧ InR c2 ∧ (c2 = 0 → K (.inl (some (iv 0))) (mj J1 sw lg x)) ∧ (¬ c2 = 0 → (∃ (c4 : Int) (J3 : Nat → Nat → Int), EE X (d - 1) 23 [.ref r0, .ref 1, iv (x2 + 1)] (mj J1 sw lg x) (.inl (some (iv c4))) (mj J3 sw lg x) ∧ InR c4 ∧ (c4 = 0 → K (.inl (some (iv 0))) (mj J3 sw lg x)) ∧ (¬ c4 = 0 → (∃ (c6 : Int) (J5 : Nat → Nat → Int), EE X 1 87 [.ref 1, iv 41] (mj J3 sw lg x) (.inl (some (iv c6))) (mj J5 sw lg x) ∧ InR c6 ∧ (c6 = 0 → K (.inl (some (iv 0))) (mj J5 sw lg x)) ∧ (¬ c6 = 0 → K (.inl (some (iv 1))) (mj J5 sw lg x)))))))) ∧ (6 ≤ x2 → K (.inl (some (iv 0))) (mj (m_up (m_up J 1 6 3) 1 7 (J 1 3)) sw lg x))) : VV X d 26 (0, [some (.ref r0), some (.ref 1), some (iv x2)], [], mj J sw lg x) K := by
  refine v_s mt_26 rfl rfl rfl ?_
  refine v_bp (v := Int32.ofInt 6) mt_26 rfl rfl ?_
  obtain ⟨z1, h⟩ := h
  refine j_if2 mt_26 rfl rfl z1 ⟨by decide, by decide⟩ (fun c => ?_) (fun c => ?_)
  · replace h := h.1 c
    refine v_s mt_26 rfl rfl rfl ?_
    refine v_bp (v := Int32.ofInt 40) mt_26 rfl rfl ?_
    obtain ⟨c2, J1, z2, h⟩ := h
    refine v_call (d1 := 1) mt_26 rfl rfl mt_87 rfl rfl (m_callj (As := [iv 40]) (rest := []) rfl rfl c_1 rfl (Nat.le_of_ble_eq_true rfl) (Nat.le_of_ble_eq_true rfl)) z2 (by clear h; omega) ?_
    obtain ⟨z3, h⟩ := h
    refine j_if1 mt_26 rfl rfl z3 (fun c => ?_) (fun c => ?_)
    · replace h := h.1 c
      refine v_ic (v := Int32.ofInt 0) mt_26 rfl rfl ?_
      exact j_retb mt_26 rfl rfl (by decide) h
    · replace h := h.2 c
      refine v_s mt_26 rfl rfl rfl ?_
      refine v_s mt_26 rfl rfl rfl ?_
      refine v_s mt_26 rfl rfl rfl ?_
      refine v_ic (v := Int32.ofInt 1) mt_26 rfl rfl ?_
      refine j_add (e := x2 + 1) mt_26 rfl rfl ?_
      obtain ⟨c4, J3, z4, h⟩ := h
      refine v_call (d1 := (d - 1)) mt_26 rfl rfl mt_23 rfl rfl (m_callj (As := [.ref 1, iv (x2 + 1)]) (rest := []) rfl rfl h0 rfl (Nat.le_of_ble_eq_true rfl) (Nat.le_of_ble_eq_true rfl)) z4 (by clear h; omega) ?_
      obtain ⟨z5, h⟩ := h
      refine j_if1 mt_26 rfl rfl z5 (fun c => ?_) (fun c => ?_)
      · replace h := h.1 c
        refine v_ic (v := Int32.ofInt 0) mt_26 rfl rfl ?_
        exact j_retb mt_26 rfl rfl (by decide) h
      · replace h := h.2 c
        refine v_s mt_26 rfl rfl rfl ?_
        refine v_bp (v := Int32.ofInt 41) mt_26 rfl rfl ?_
        obtain ⟨c6, J5, z6, h⟩ := h
        refine v_call (d1 := 1) mt_26 rfl rfl mt_87 rfl rfl (m_callj (As := [iv 41]) (rest := []) rfl rfl c_1 rfl (Nat.le_of_ble_eq_true rfl) (Nat.le_of_ble_eq_true rfl)) z6 (by clear h; omega) ?_
        obtain ⟨z7, h⟩ := h
        refine j_if1 mt_26 rfl rfl z7 (fun c => ?_) (fun c => ?_)
        · replace h := h.1 c
          refine v_ic (v := Int32.ofInt 0) mt_26 rfl rfl ?_
          exact j_retb mt_26 rfl rfl (by decide) h
        · replace h := h.2 c
          refine v_ic (v := Int32.ofInt 1) mt_26 rfl rfl ?_
          refine v_go mt_26 rfl rfl ?_
          exact j_retb mt_26 rfl rfl (by decide) h
  · replace h := h.2 (Int.not_lt.mp c)
    refine v_s mt_26 rfl rfl rfl ?_
    refine v_ic (v := Int32.ofInt 3) mt_26 rfl rfl ?_
    refine v_s mt_26 rfl rfl rfl ?_
    refine j_gi (w := J 1 3) 3 mt_26 rfl rfl c_1 (by decide) rfl ?_
    refine v_inl (L1 := [some (.ref 1), some (iv 3), some (iv (J 1 3))]) mt_26 rfl rfl mt_84 rfl rfl (m_callj (As := [iv 3, iv (J 1 3)]) (rest := []) rfl rfl c_1 rfl (Nat.le_of_ble_eq_true rfl) (Nat.le_of_ble_eq_true rfl)) rfl (by clear h; omega) ?_
    refine v_s mt_84 rfl rfl rfl ?_
    refine v_s mt_84 rfl rfl rfl ?_
    refine j_pi 6 mt_84 rfl rfl c_1 (by decide) ?_
    refine v_s mt_84 rfl rfl rfl ?_
    refine v_s mt_84 rfl rfl rfl ?_
    refine j_pi 7 mt_84 rfl rfl c_1 (by decide) ?_
    refine v_ic (v := Int32.ofInt 0) mt_84 rfl rfl ?_
    refine j_retb mt_84 rfl rfl (by decide) ?_
    exact j_retb mt_26 rfl rfl (by decide) h
set_option maxHeartbeats 600000 in
theorem b_27_0 {X : Nat × (Nat → Int32)} {d : Nat} {J : Nat → Nat → Int} {sw : Bool × Bool × Bool} {lg : Nat → Nat → Int64} {x : Nat} {K : (Option Value ⊕ Nat) → mM → Prop} {r0 : Nat} {x2 x3 : Int} (h0 : SH[r0]? = some (8, 4)) (hd : 2 ≤ d)
    (h : InR x2 ∧ (x2 < 6 → (∃ (c2 : Int) (J1 : Nat → Nat → Int), EE X 1 87 [.ref 1, iv 91] (mj J sw lg x) (.inl (some (iv c2))) (mj J1 sw lg x) ∧ InR c2 ∧ (c2 = 0 → K (.inl (some (iv 0))) (mj J1 sw lg x)) ∧ (¬ c2 = 0 → (∃ (c4 : Int) (J3 : Nat → Nat → Int), EE X (d - 1) 23 [.ref r0, .ref 1, iv (x2 + 1)] (mj J1 sw lg x) (.inl (some (iv c4))) (mj J3 sw lg x) ∧ InR c4 ∧ (c4 = 0 → K (.inl (some (iv 0))) (mj J3 sw lg x)) ∧ (¬ c4 = 0 → (∃ (c6 : Int) (J5 : Nat → Nat → Int), EE X 1 87 [.ref 1, iv 44] (mj J3 sw lg x) (.inl (some (iv c6))) (mj J5 sw lg x) ∧ InR c6 ∧ (c6 = 0 → K (.inl (some (iv 0))) (mj J5 sw lg x)) ∧ (¬ c6 = 0 → (∃ (c8 : Int) (J7 : Nat → Nat → Int), EE X (d - 1) 23 [.ref r0, .ref 1, iv (x2 + 1)] (mj J5 sw lg x) (.inl (some (iv c8))) (mj J7 sw lg x) ∧ InR c8 ∧ (c8 = 0 → K (.inl (some (iv 0))) (mj J7 sw lg x)) ∧ (¬ c8 = 0 → (∃ (c10 : Int) (J9 : Nat → Nat → Int), EE X 1 87 [.ref 1, iv 93] (mj J7 sw lg x) (.inl (some (iv c10))) (mj J9 sw lg x) ∧ InR c10 ∧ (c10 = 0 → K (.inl (some (iv 0))) (mj J9 sw lg x)) ∧ (¬ c10 = 0 → (InR (J9 r0 1) ∧ (150 ≤ J9 r0 1 → K (.inl (some (iv 1))) (mj J9 sw lg x)) ∧ (J9 r0 1 < 150 → ((0 ≤ J9 r0 1 ∧ J9 r0 1 < 150) ∧ K (.inl (some (iv 1))) (mj (m_up (m_up J9 (r0 + 1) ((J9 r0 1).toNat) (2000 + x3)) r0 1 ((J9 r0 1) + 1)) sw lg x))))))))))))))) ∧ (6 ≤ x2 → K (.inl (some (iv 0))) (mj (m_up (m_up J 1 6 3) 1 7 (J 1 4)) sw lg x))) : VV X d 27 (0, [some (.ref r0), some (.ref 1), some (iv x2), some (iv x3)], [], mj J sw lg x) K := by
  refine v_s mt_27 rfl rfl rfl ?_
  refine v_bp (v := Int32.ofInt 6) mt_27 rfl rfl ?_
  obtain ⟨z1, h⟩ := h
  refine j_if2 mt_27 rfl rfl z1 ⟨by decide, by decide⟩ (fun c => ?_) (fun c => ?_)
  · replace h := h.1 c
    refine v_s mt_27 rfl rfl rfl ?_
    refine v_bp (v := Int32.ofInt 91) mt_27 rfl rfl ?_
    obtain ⟨c2, J1, z2, h⟩ := h
    refine v_call (d1 := 1) mt_27 rfl rfl mt_87 rfl rfl (m_callj (As := [iv 91]) (rest := []) rfl rfl c_1 rfl (Nat.le_of_ble_eq_true rfl) (Nat.le_of_ble_eq_true rfl)) z2 (by clear h; omega) ?_
    obtain ⟨z3, h⟩ := h
    refine j_if1 mt_27 rfl rfl z3 (fun c => ?_) (fun c => ?_)
    · replace h := h.1 c
      refine v_ic (v := Int32.ofInt 0) mt_27 rfl rfl ?_
      exact j_retb mt_27 rfl rfl (by decide) h
    · replace h := h.2 c
      refine v_s mt_27 rfl rfl rfl ?_
      refine v_s mt_27 rfl rfl rfl ?_
      refine v_s mt_27 rfl rfl rfl ?_
      refine v_ic (v := Int32.ofInt 1) mt_27 rfl rfl ?_
      refine j_add (e := x2 + 1) mt_27 rfl rfl ?_
      obtain ⟨c4, J3, z4, h⟩ := h
      refine v_call (d1 := (d - 1)) mt_27 rfl rfl mt_23 rfl rfl (m_callj (As := [.ref 1, iv (x2 + 1)]) (rest := []) rfl rfl h0 rfl (Nat.le_of_ble_eq_true rfl) (Nat.le_of_ble_eq_true rfl)) z4 (by clear h; omega) ?_
      obtain ⟨z5, h⟩ := h
      refine j_if1 mt_27 rfl rfl z5 (fun c => ?_) (fun c => ?_)
      · replace h := h.1 c
        refine v_ic (v := Int32.ofInt 0) mt_27 rfl rfl ?_
        exact j_retb mt_27 rfl rfl (by decide) h
      · replace h := h.2 c
        refine v_s mt_27 rfl rfl rfl ?_
        refine v_bp (v := Int32.ofInt 44) mt_27 rfl rfl ?_
        obtain ⟨c6, J5, z6, h⟩ := h
        refine v_call (d1 := 1) mt_27 rfl rfl mt_87 rfl rfl (m_callj (As := [iv 44]) (rest := []) rfl rfl c_1 rfl (Nat.le_of_ble_eq_true rfl) (Nat.le_of_ble_eq_true rfl)) z6 (by clear h; omega) ?_
        obtain ⟨z7, h⟩ := h
        refine j_if1 mt_27 rfl rfl z7 (fun c => ?_) (fun c => ?_)
        · replace h := h.1 c
          refine v_ic (v := Int32.ofInt 0) mt_27 rfl rfl ?_
          exact j_retb mt_27 rfl rfl (by decide) h
        · replace h := h.2 c
          refine v_s mt_27 rfl rfl rfl ?_
          refine v_s mt_27 rfl rfl rfl ?_
          refine v_s mt_27 rfl rfl rfl ?_
          refine v_ic (v := Int32.ofInt 1) mt_27 rfl rfl ?_
          refine j_add (e := x2 + 1) mt_27 rfl rfl ?_
          obtain ⟨c8, J7, z8, h⟩ := h
          refine v_call (d1 := (d - 1)) mt_27 rfl rfl mt_23 rfl rfl (m_callj (As := [.ref 1, iv (x2 + 1)]) (rest := []) rfl rfl h0 rfl (Nat.le_of_ble_eq_true rfl) (Nat.le_of_ble_eq_true rfl)) z8 (by clear h; omega) ?_
          obtain ⟨z9, h⟩ := h
          refine j_if1 mt_27 rfl rfl z9 (fun c => ?_) (fun c => ?_)
          · replace h := h.1 c
            refine v_ic (v := Int32.ofInt 0) mt_27 rfl rfl ?_
            exact j_retb mt_27 rfl rfl (by decide) h
          · replace h := h.2 c
            refine v_s mt_27 rfl rfl rfl ?_
            refine v_bp (v := Int32.ofInt 93) mt_27 rfl rfl ?_
            obtain ⟨c10, J9, z10, h⟩ := h
            refine v_call (d1 := 1) mt_27 rfl rfl mt_87 rfl rfl (m_callj (As := [iv 93]) (rest := []) rfl rfl c_1 rfl (Nat.le_of_ble_eq_true rfl) (Nat.le_of_ble_eq_true rfl)) z10 (by clear h; omega) ?_
            obtain ⟨z11, h⟩ := h
            refine j_if1 mt_27 rfl rfl z11 (fun c => ?_) (fun c => ?_)
            · replace h := h.1 c
              refine v_ic (v := Int32.ofInt 0) mt_27 rfl rfl ?_
              exact j_retb mt_27 rfl rfl (by decide) h
            · replace h := h.2 c
              refine v_s mt_27 rfl rfl rfl ?_
              refine v_sp (v := Int32.ofInt 2000) mt_27 rfl rfl ?_
              refine v_s mt_27 rfl rfl rfl ?_
              refine j_add (e := 2000 + x3) mt_27 rfl rfl ?_
              refine v_inl (L1 := [some (.ref r0), some (iv (2000 + x3))]) mt_27 rfl rfl mt_29 rfl rfl (m_callj (As := [iv (2000 + x3)]) (rest := []) rfl rfl h0 rfl (Nat.le_of_ble_eq_true rfl) (Nat.le_of_ble_eq_true rfl)) rfl (by clear h; omega) ?_
              refine v_s mt_29 rfl rfl rfl ?_
              refine j_gi (w := J9 r0 1) 1 mt_29 rfl rfl h0 (by decide) rfl ?_
              refine v_s mt_29 rfl rfl rfl ?_
              refine v_gr (w := (r0 + 1)) 0 mt_29 rfl rfl h0 (by decide) (g_3_0 h0) ?_
              refine j_len (e := 150) mt_29 rfl (shL r0 (SH_lt h0) h0).1 (by decide) rfl ?_
              obtain ⟨z12, h⟩ := h
              refine j_if2 mt_29 rfl rfl z12 ⟨by decide, by decide⟩ (fun c => ?_) (fun c => ?_)
              · replace h := h.1 c
                refine v_ic (v := Int32.ofInt 1) mt_29 rfl rfl ?_
                refine j_retb mt_29 rfl rfl (by decide) ?_
                refine j_if1 mt_27 rfl rfl ⟨by decide, by decide⟩ (fun c => absurd (show (1 : Int) = 0 from c) (by decide)) (fun _ => ?_)
                refine v_ic (v := Int32.ofInt 1) mt_27 rfl rfl ?_
                refine v_go mt_27 rfl rfl ?_
                exact j_retb mt_27 rfl rfl (by decide) h
              · replace h := h.2 (Int.not_le.mp c)
                refine v_s mt_29 rfl rfl rfl ?_
                refine v_gr (w := (r0 + 1)) 0 mt_29 rfl rfl h0 (by decide) (g_3_0 h0) ?_
                refine v_s mt_29 rfl rfl rfl ?_
                refine j_gi (w := J9 r0 1) 1 mt_29 rfl rfl h0 (by decide) rfl ?_
                refine v_s mt_29 rfl rfl rfl ?_
                obtain ⟨z13, h⟩ := h
                refine j_as mt_29 rfl (shL r0 (SH_lt h0) h0).1 z13 (by decide) ?_
                refine v_s mt_29 rfl rfl rfl ?_
                refine v_s mt_29 rfl rfl rfl ?_
                refine j_gi (w := J9 r0 1) 1 mt_29 rfl rfl h0 (by decide) ((up_na (sh_ne h0 (shL r0 (SH_lt h0) h0).1 (by decide))).trans rfl) ?_
                refine v_ic (v := Int32.ofInt 1) mt_29 rfl rfl ?_
                refine j_add (e := (J9 r0 1) + 1) mt_29 rfl rfl ?_
                refine j_pi 1 mt_29 rfl rfl h0 (by decide) ?_
                refine v_ic (v := Int32.ofInt 1) mt_29 rfl rfl ?_
                refine j_retb mt_29 rfl rfl (by decide) ?_
                refine j_if1 mt_27 rfl rfl ⟨by decide, by decide⟩ (fun c => absurd (show (1 : Int) = 0 from c) (by decide)) (fun _ => ?_)
                refine v_ic (v := Int32.ofInt 1) mt_27 rfl rfl ?_
                refine v_go mt_27 rfl rfl ?_
                exact j_retb mt_27 rfl rfl (by decide) h
  · replace h := h.2 (Int.not_lt.mp c)
    refine v_s mt_27 rfl rfl rfl ?_
    refine v_ic (v := Int32.ofInt 3) mt_27 rfl rfl ?_
    refine v_s mt_27 rfl rfl rfl ?_
    refine j_gi (w := J 1 4) 4 mt_27 rfl rfl c_1 (by decide) rfl ?_
    refine v_inl (L1 := [some (.ref 1), some (iv 3), some (iv (J 1 4))]) mt_27 rfl rfl mt_84 rfl rfl (m_callj (As := [iv 3, iv (J 1 4)]) (rest := []) rfl rfl c_1 rfl (Nat.le_of_ble_eq_true rfl) (Nat.le_of_ble_eq_true rfl)) rfl (by clear h; omega) ?_
    refine v_s mt_84 rfl rfl rfl ?_
    refine v_s mt_84 rfl rfl rfl ?_
    refine j_pi 6 mt_84 rfl rfl c_1 (by decide) ?_
    refine v_s mt_84 rfl rfl rfl ?_
    refine v_s mt_84 rfl rfl rfl ?_
    refine j_pi 7 mt_84 rfl rfl c_1 (by decide) ?_
    refine v_ic (v := Int32.ofInt 0) mt_84 rfl rfl ?_
    refine j_retb mt_84 rfl rfl (by decide) ?_
    exact j_retb mt_27 rfl rfl (by decide) h
set_option maxHeartbeats 600000 in
theorem b_187_0 {X : Nat × (Nat → Int32)} {d : Nat} {J : Nat → Nat → Int} {sw : Bool × Bool × Bool} {lg : Nat → Nat → Int64} {x : Nat} {K : (Option Value ⊕ Nat) → mM → Prop} {x1 x2 : Int} (hd : 1 ≤ d)
    (h : InR (J 542 5) ∧ (¬ J 542 5 = (-1) → K (.inl none) (mj J sw lg x)) ∧ (J 542 5 = (-1) → ((0 ≤ J 542 34 ∧ J 542 34 < 150) ∧ K (.inl none) (mj (m_up (m_up (m_up J 553 ((J 542 34).toNat) x1) 554 ((J 542 34).toNat) x2) 542 34 ((J 542 34) + 1)) sw lg x)))) : VV X d 187 (0, [some (.ref 542), some (iv x1), some (iv x2)], [], mj J sw lg x) K := by
  refine v_s mt_187 rfl rfl rfl ?_
  refine v_inl (L1 := [some (.ref 542)]) mt_187 rfl rfl mt_165 rfl rfl (m_callj (As := []) (rest := []) rfl rfl c_542 rfl (Nat.le_of_ble_eq_true rfl) (Nat.le_of_ble_eq_true rfl)) rfl (by clear h; omega) ?_
  refine v_s mt_165 rfl rfl rfl ?_
  refine j_gi (w := J 542 5) 5 mt_165 rfl rfl c_542 (by decide) rfl ?_
  refine v_ic (v := Int32.ofInt (-1)) mt_165 rfl rfl ?_
  obtain ⟨z1, h⟩ := h
  refine j_if2 mt_165 rfl rfl z1 ⟨by decide, by decide⟩ (fun c => ?_) (fun c => ?_)
  · replace h := h.1 c
    refine v_ic (v := Int32.ofInt 0) mt_165 rfl rfl ?_
    refine j_retb mt_165 rfl rfl (by decide) ?_
    refine j_if1 mt_187 rfl rfl ⟨by decide, by decide⟩ (fun c => absurd (show ¬ (0 : Int) = 0 from c) (by decide)) (fun _ => ?_)
    exact v_ret mt_187 rfl rfl rfl h
  · replace h := h.2 (Decidable.not_not.mp c)
    refine v_ic (v := Int32.ofInt 1) mt_165 rfl rfl ?_
    refine v_go mt_165 rfl rfl ?_
    refine j_retb mt_165 rfl rfl (by decide) ?_
    refine j_if1 mt_187 rfl rfl ⟨by decide, by decide⟩ (fun _ => ?_) (fun c => (c (show ¬ (1 : Int) = 0 by decide)).elim)
    refine v_s mt_187 rfl rfl rfl ?_
    refine v_gr (w := 553) 29 mt_187 rfl rfl c_542 (by decide) (g_12_29 c_542) ?_
    refine v_s mt_187 rfl rfl rfl ?_
    refine j_gi (w := J 542 34) 34 mt_187 rfl rfl c_542 (by decide) rfl ?_
    refine v_s mt_187 rfl rfl rfl ?_
    obtain ⟨z2, h⟩ := h
    refine j_as mt_187 rfl c_553 z2 (by decide) ?_
    refine v_s mt_187 rfl rfl rfl ?_
    refine v_gr (w := 554) 30 mt_187 rfl rfl c_542 (by decide) (g_12_30 c_542) ?_
    refine v_s mt_187 rfl rfl rfl ?_
    refine j_gi (w := J 542 34) 34 mt_187 rfl rfl c_542 (by decide) ((up_na (by decide)).trans rfl) ?_
    refine v_s mt_187 rfl rfl rfl ?_
    refine j_as mt_187 rfl c_554 z2 (by decide) ?_
    refine v_s mt_187 rfl rfl rfl ?_
    refine v_s mt_187 rfl rfl rfl ?_
    refine j_gi (w := J 542 34) 34 mt_187 rfl rfl c_542 (by decide) ((up_na (by decide)).trans ((up_na (by decide)).trans rfl)) ?_
    refine v_ic (v := Int32.ofInt 1) mt_187 rfl rfl ?_
    refine j_add (e := (J 542 34) + 1) mt_187 rfl rfl ?_
    refine j_pi 34 mt_187 rfl rfl c_542 (by decide) ?_
    exact v_ret mt_187 rfl rfl rfl h
set_option maxHeartbeats 600000 in
theorem b_188_0 {X : Nat × (Nat → Int32)} {d : Nat} {J : Nat → Nat → Int} {sw : Bool × Bool × Bool} {lg : Nat → Nat → Int64} {x : Nat} {K : (Option Value ⊕ Nat) → mM → Prop} {x1 : Int} (hd : 1 ≤ d)
    (h : InR (J 542 5) ∧ (¬ J 542 5 = (-1) → ((¬ J 542 5 = (-1) → K (.inl none) (mj (m_up J 542 7 ((J 542 7) + 1)) sw lg x)) ∧ (J 542 5 = (-1) → K (.inl none) (mj (m_up (m_up J 542 4 ((J 542 4) + x1)) 542 7 ((J 542 7) + 1)) sw lg x)))) ∧ (J 542 5 = (-1) → (InR (J 542 7) ∧ (¬ J 542 7 = 6 → ((¬ J 542 5 = (-1) → K (.inl none) (mj (m_up J 542 7 ((J 542 7) + 1)) sw lg x)) ∧ (J 542 5 = (-1) → K (.inl none) (mj (m_up (m_up J 542 4 ((J 542 4) + x1)) 542 7 ((J 542 7) + 1)) sw lg x)))) ∧ (J 542 7 = 6 → (∃ (J1 : Nat → Nat → Int), EE X 0 166 [.ref 542, iv 3, iv (J 542 4)] (mj J sw lg x) (.inl none) (mj J1 sw lg x) ∧ InR (J1 542 5) ∧ (¬ J1 542 5 = (-1) → K (.inl none) (mj (m_up J1 542 7 ((J1 542 7) + 1)) sw lg x)) ∧ (J1 542 5 = (-1) → K (.inl none) (mj (m_up (m_up J1 542 4 ((J1 542 4) + x1)) 542 7 ((J1 542 7) + 1)) sw lg x))))))) : VV X d 188 (0, [some (.ref 542), some (iv x1)], [], mj J sw lg x) K := by
  refine v_s mt_188 rfl rfl rfl ?_
  refine v_inl (L1 := [some (.ref 542)]) mt_188 rfl rfl mt_165 rfl rfl (m_callj (As := []) (rest := []) rfl rfl c_542 rfl (Nat.le_of_ble_eq_true rfl) (Nat.le_of_ble_eq_true rfl)) rfl (by clear h; omega) ?_
  refine v_s mt_165 rfl rfl rfl ?_
  refine j_gi (w := J 542 5) 5 mt_165 rfl rfl c_542 (by decide) rfl ?_
  refine v_ic (v := Int32.ofInt (-1)) mt_165 rfl rfl ?_
  obtain ⟨z1, h⟩ := h
  refine j_if2 mt_165 rfl rfl z1 ⟨by decide, by decide⟩ (fun c => ?_) (fun c => ?_)
  · replace h := h.1 c
    refine v_ic (v := Int32.ofInt 0) mt_165 rfl rfl ?_
    refine j_retb mt_165 rfl rfl (by decide) ?_
    refine j_if1 mt_188 rfl rfl ⟨by decide, by decide⟩ (fun _ => ?_) (fun c => (c (show (0 : Int) = 0 by decide)).elim)
    refine v_s mt_188 rfl rfl rfl ?_
    refine v_inl (L1 := [some (.ref 542)]) mt_188 rfl rfl mt_165 rfl rfl (m_callj (As := []) (rest := []) rfl rfl c_542 rfl (Nat.le_of_ble_eq_true rfl) (Nat.le_of_ble_eq_true rfl)) rfl (by clear h; omega) ?_
    refine v_s mt_165 rfl rfl rfl ?_
    refine j_gi (w := J 542 5) 5 mt_165 rfl rfl c_542 (by decide) rfl ?_
    refine v_ic (v := Int32.ofInt (-1)) mt_165 rfl rfl ?_
    refine j_if2 mt_165 rfl rfl z1 ⟨by decide, by decide⟩ (fun c => ?_) (fun c => ?_)
    · replace h := h.1 c
      refine v_ic (v := Int32.ofInt 0) mt_165 rfl rfl ?_
      refine j_retb mt_165 rfl rfl (by decide) ?_
      refine j_if1 mt_188 rfl rfl ⟨by decide, by decide⟩ (fun _ => ?_) (fun c => (c (show (0 : Int) = 0 by decide)).elim)
      refine v_s mt_188 rfl rfl rfl ?_
      refine v_s mt_188 rfl rfl rfl ?_
      refine j_gi (w := J 542 7) 7 mt_188 rfl rfl c_542 (by decide) rfl ?_
      refine v_ic (v := Int32.ofInt 1) mt_188 rfl rfl ?_
      refine j_add (e := (J 542 7) + 1) mt_188 rfl rfl ?_
      refine j_pi 7 mt_188 rfl rfl c_542 (by decide) ?_
      exact v_ret mt_188 rfl rfl rfl h
    · replace h := h.2 (Decidable.not_not.mp c)
      refine v_ic (v := Int32.ofInt 1) mt_165 rfl rfl ?_
      refine v_go mt_165 rfl rfl ?_
      refine j_retb mt_165 rfl rfl (by decide) ?_
      refine j_if1 mt_188 rfl rfl ⟨by decide, by decide⟩ (fun c => absurd (show (1 : Int) = 0 from c) (by decide)) (fun _ => ?_)
      refine v_s mt_188 rfl rfl rfl ?_
      refine v_s mt_188 rfl rfl rfl ?_
      refine j_gi (w := J 542 4) 4 mt_188 rfl rfl c_542 (by decide) rfl ?_
      refine v_s mt_188 rfl rfl rfl ?_
      refine j_add (e := (J 542 4) + x1) mt_188 rfl rfl ?_
      refine j_pi 4 mt_188 rfl rfl c_542 (by decide) ?_
      refine v_s mt_188 rfl rfl rfl ?_
      refine v_s mt_188 rfl rfl rfl ?_
      refine j_gi (w := J 542 7) 7 mt_188 rfl rfl c_542 (by decide) ((up_nk (by decide)).trans rfl) ?_
      refine v_ic (v := Int32.ofInt 1) mt_188 rfl rfl ?_
      refine j_add (e := (J 542 7) + 1) mt_188 rfl rfl ?_
      refine j_pi 7 mt_188 rfl rfl c_542 (by decide) ?_
      exact v_ret mt_188 rfl rfl rfl h
  · replace h := h.2 (Decidable.not_not.mp c)
    refine v_ic (v := Int32.ofInt 1) mt_165 rfl rfl ?_
    refine v_go mt_165 rfl rfl ?_
    refine j_retb mt_165 rfl rfl (by decide) ?_
    refine j_if1 mt_188 rfl rfl ⟨by decide, by decide⟩ (fun c => absurd (show (1 : Int) = 0 from c) (by decide)) (fun _ => ?_)
    refine v_s mt_188 rfl rfl rfl ?_
    refine j_gi (w := J 542 7) 7 mt_188 rfl rfl c_542 (by decide) rfl ?_
    refine v_bp (v := Int32.ofInt 6) mt_188 rfl rfl ?_
    obtain ⟨z2, h⟩ := h
    refine j_if2 mt_188 rfl rfl z2 ⟨by decide, by decide⟩ (fun c => ?_) (fun c => ?_)
    · replace h := h.1 c
      refine v_s mt_188 rfl rfl rfl ?_
      refine v_inl (L1 := [some (.ref 542)]) mt_188 rfl rfl mt_165 rfl rfl (m_callj (As := []) (rest := []) rfl rfl c_542 rfl (Nat.le_of_ble_eq_true rfl) (Nat.le_of_ble_eq_true rfl)) rfl (by clear h; omega) ?_
      refine v_s mt_165 rfl rfl rfl ?_
      refine j_gi (w := J 542 5) 5 mt_165 rfl rfl c_542 (by decide) rfl ?_
      refine v_ic (v := Int32.ofInt (-1)) mt_165 rfl rfl ?_
      refine j_if2 mt_165 rfl rfl z1 ⟨by decide, by decide⟩ (fun c => ?_) (fun c => ?_)
      · replace h := h.1 c
        refine v_ic (v := Int32.ofInt 0) mt_165 rfl rfl ?_
        refine j_retb mt_165 rfl rfl (by decide) ?_
        refine j_if1 mt_188 rfl rfl ⟨by decide, by decide⟩ (fun _ => ?_) (fun c => (c (show (0 : Int) = 0 by decide)).elim)
        refine v_s mt_188 rfl rfl rfl ?_
        refine v_s mt_188 rfl rfl rfl ?_
        refine j_gi (w := J 542 7) 7 mt_188 rfl rfl c_542 (by decide) rfl ?_
        refine v_ic (v := Int32.ofInt 1) mt_188 rfl rfl ?_
        refine j_add (e := (J 542 7) + 1) mt_188 rfl rfl ?_
        refine j_pi 7 mt_188 rfl rfl c_542 (by decide) ?_
        exact v_ret mt_188 rfl rfl rfl h
      · replace h := h.2 (Decidable.not_not.mp c)
        refine v_ic (v := Int32.ofInt 1) mt_165 rfl rfl ?_
        refine v_go mt_165 rfl rfl ?_
        refine j_retb mt_165 rfl rfl (by decide) ?_
        refine j_if1 mt_188 rfl rfl ⟨by decide, by decide⟩ (fun c => absurd (show (1 : Int) = 0 from c) (by decide)) (fun _ => ?_)
        refine v_s mt_188 rfl rfl rfl ?_
        refine v_s mt_188 rfl rfl rfl ?_
        refine j_gi (w := J 542 4) 4 mt_188 rfl rfl c_542 (by decide) rfl ?_
        refine v_s mt_188 rfl rfl rfl ?_
        refine j_add (e := (J 542 4) + x1) mt_188 rfl rfl ?_
        refine j_pi 4 mt_188 rfl rfl c_542 (by decide) ?_
        refine v_s mt_188 rfl rfl rfl ?_
        refine v_s mt_188 rfl rfl rfl ?_
        refine j_gi (w := J 542 7) 7 mt_188 rfl rfl c_542 (by decide) ((up_nk (by decide)).trans rfl) ?_
        refine v_ic (v := Int32.ofInt 1) mt_188 rfl rfl ?_
        refine j_add (e := (J 542 7) + 1) mt_188 rfl rfl ?_
        refine j_pi 7 mt_188 rfl rfl c_542 (by decide) ?_
        exact v_ret mt_188 rfl rfl rfl h
    · replace h := h.2 (Decidable.not_not.mp c)
      refine v_s mt_188 rfl rfl rfl ?_
      refine v_ic (v := Int32.ofInt 3) mt_188 rfl rfl ?_
      refine v_s mt_188 rfl rfl rfl ?_
      refine j_gi (w := J 542 4) 4 mt_188 rfl rfl c_542 (by decide) rfl ?_
      obtain ⟨J1, z3, h⟩ := h
      refine v_call (d1 := 0) mt_188 rfl rfl mt_166 rfl rfl (m_callj (As := [iv 3, iv (J 542 4)]) (rest := []) rfl rfl c_542 rfl (Nat.le_of_ble_eq_true rfl) (Nat.le_of_ble_eq_true rfl)) z3 (by clear h; omega) ?_
      refine v_s mt_188 rfl rfl rfl ?_
      refine v_inl (L1 := [some (.ref 542)]) mt_188 rfl rfl mt_165 rfl rfl (m_callj (As := []) (rest := []) rfl rfl c_542 rfl (Nat.le_of_ble_eq_true rfl) (Nat.le_of_ble_eq_true rfl)) rfl (by clear h; omega) ?_
      refine v_s mt_165 rfl rfl rfl ?_
      refine j_gi (w := J1 542 5) 5 mt_165 rfl rfl c_542 (by decide) rfl ?_
      refine v_ic (v := Int32.ofInt (-1)) mt_165 rfl rfl ?_
      obtain ⟨z4, h⟩ := h
      refine j_if2 mt_165 rfl rfl z4 ⟨by decide, by decide⟩ (fun c => ?_) (fun c => ?_)
      · replace h := h.1 c
        refine v_ic (v := Int32.ofInt 0) mt_165 rfl rfl ?_
        refine j_retb mt_165 rfl rfl (by decide) ?_
        refine j_if1 mt_188 rfl rfl ⟨by decide, by decide⟩ (fun _ => ?_) (fun c => (c (show (0 : Int) = 0 by decide)).elim)
        refine v_s mt_188 rfl rfl rfl ?_
        refine v_s mt_188 rfl rfl rfl ?_
        refine j_gi (w := J1 542 7) 7 mt_188 rfl rfl c_542 (by decide) rfl ?_
        refine v_ic (v := Int32.ofInt 1) mt_188 rfl rfl ?_
        refine j_add (e := (J1 542 7) + 1) mt_188 rfl rfl ?_
        refine j_pi 7 mt_188 rfl rfl c_542 (by decide) ?_
        exact v_ret mt_188 rfl rfl rfl h
      · replace h := h.2 (Decidable.not_not.mp c)
        refine v_ic (v := Int32.ofInt 1) mt_165 rfl rfl ?_
        refine v_go mt_165 rfl rfl ?_
        refine j_retb mt_165 rfl rfl (by decide) ?_
        refine j_if1 mt_188 rfl rfl ⟨by decide, by decide⟩ (fun c => absurd (show (1 : Int) = 0 from c) (by decide)) (fun _ => ?_)
        refine v_s mt_188 rfl rfl rfl ?_
        refine v_s mt_188 rfl rfl rfl ?_
        refine j_gi (w := J1 542 4) 4 mt_188 rfl rfl c_542 (by decide) rfl ?_
        refine v_s mt_188 rfl rfl rfl ?_
        refine j_add (e := (J1 542 4) + x1) mt_188 rfl rfl ?_
        refine j_pi 4 mt_188 rfl rfl c_542 (by decide) ?_
        refine v_s mt_188 rfl rfl rfl ?_
        refine v_s mt_188 rfl rfl rfl ?_
        refine j_gi (w := J1 542 7) 7 mt_188 rfl rfl c_542 (by decide) ((up_nk (by decide)).trans rfl) ?_
        refine v_ic (v := Int32.ofInt 1) mt_188 rfl rfl ?_
        refine j_add (e := (J1 542 7) + 1) mt_188 rfl rfl ?_
        refine j_pi 7 mt_188 rfl rfl c_542 (by decide) ?_
        exact v_ret mt_188 rfl rfl rfl h
set_option maxHeartbeats 600000 in
theorem b_189_0 {X : Nat × (Nat → Int32)} {d : Nat} {J : Nat → Nat → Int} {sw : Bool × Bool × Bool} {lg : Nat → Nat → Int64} {x : Nat} {K : (Option Value ⊕ Nat) → mM → Prop} {o1 : Option Value} (hd : 2 ≤ d)
    (h : ∃ (J1 : Nat → Nat → Int), EE X (d - 1) 190 [.ref 542] (mj J sw lg x) (.inl none) (mj J1 sw lg x) ∧ VV X d 189 (4, [some (.ref 542), o1], [], mj J1 sw lg x) K) : VV X d 189 (0, [some (.ref 542), o1], [], mj J sw lg x) K := by
  refine v_s mt_189 rfl rfl rfl ?_
  obtain ⟨J1, z1, h⟩ := h
  refine v_call (d1 := (d - 1)) mt_189 rfl rfl mt_190 rfl rfl (m_callj (As := []) (rest := []) rfl rfl c_542 rfl (Nat.le_of_ble_eq_true rfl) (Nat.le_of_ble_eq_true rfl)) z1 (by clear h; omega) ?_
  exact h
set_option maxHeartbeats 600000 in
theorem b_189_4 {X : Nat × (Nat → Int32)} {d : Nat} {J : Nat → Nat → Int} {sw : Bool × Bool × Bool} {lg : Nat → Nat → Int64} {x : Nat} {K : (Option Value ⊕ Nat) → mM → Prop} {o1 : Option Value} (hd : 2 ≤ d)
    (h : InR (J 542 5) ∧ (¬ J 542 5 = (-1) → K (.inl none) (mj J sw lg x)) ∧ (J 542 5 = (-1) → (∃ (c2 : Int) (J1 : Nat → Nat → Int), EE X 0 167 [.ref 542] (mj J sw lg x) (.inl (some (iv c2))) (mj J1 sw lg x) ∧ InR c2 ∧ (c2 = 43 → (∃ (c4 : Int) (J3 : Nat → Nat → Int), EE X 0 167 [.ref 542] (mj J1 sw lg x) (.inl (some (iv c4))) (mj J3 sw lg x) ∧ InR c4 ∧ (¬ c4 = 43 → (∃ (J5 : Nat → Nat → Int), EE X (d - 1) 190 [.ref 542] (mj (m_up J3 542 4 ((J3 542 4) + 1)) sw lg x) (.inl none) (mj J5 sw lg x) ∧ ∃ (J6 : Nat → Nat → Int), EE X 1 187 [.ref 542, iv 3, iv 0] (mj J5 sw lg x) (.inl none) (mj J6 sw lg x) ∧ VV X d 189 (4, [some (.ref 542), some (iv 3)], [], mj J6 sw lg x) K)) ∧ (c4 = 43 → (∃ (J7 : Nat → Nat → Int), EE X (d - 1) 190 [.ref 542] (mj (m_up J3 542 4 ((J3 542 4) + 1)) sw lg x) (.inl none) (mj J7 sw lg x) ∧ ∃ (J8 : Nat → Nat → Int), EE X 1 187 [.ref 542, iv 2, iv 0] (mj J7 sw lg x) (.inl none) (mj J8 sw lg x) ∧ VV X d 189 (4, [some (.ref 542), some (iv 2)], [], mj J8 sw lg x) K)))) ∧ (¬ c2 = 43 → (∃ (c10 : Int) (J9 : Nat → Nat → Int), EE X 0 167 [.ref 542] (mj J1 sw lg x) (.inl (some (iv c10))) (mj J9 sw lg x) ∧ InR c10 ∧ (¬ c10 = 45 → K (.inl none) (mj J9 sw lg x)) ∧ (c10 = 45 → (∃ (c12 : Int) (J11 : Nat → Nat → Int), EE X 0 167 [.ref 542] (mj J9 sw lg x) (.inl (some (iv c12))) (mj J11 sw lg x) ∧ InR c12 ∧ (¬ c12 = 43 → (∃ (J13 : Nat → Nat → Int), EE X (d - 1) 190 [.ref 542] (mj (m_up J11 542 4 ((J11 542 4) + 1)) sw lg x) (.inl none) (mj J13 sw lg x) ∧ ∃ (J14 : Nat → Nat → Int), EE X 1 187 [.ref 542, iv 3, iv 0] (mj J13 sw lg x) (.inl none) (mj J14 sw lg x) ∧ VV X d 189 (4, [some (.ref 542), some (iv 3)], [], mj J14 sw lg x) K)) ∧ (c12 = 43 → (∃ (J15 : Nat → Nat → Int), EE X (d - 1) 190 [.ref 542] (mj (m_up J11 542 4 ((J11 542 4) + 1)) sw lg x) (.inl none) (mj J15 sw lg x) ∧ ∃ (J16 : Nat → Nat → Int), EE X 1 187 [.ref 542, iv 2, iv 0] (mj J15 sw lg x) (.inl none) (mj J16 sw lg x) ∧ VV X d 189 (4, [some (.ref 542), some (iv 2)], [], mj J16 sw lg x) K))))))))) : VV X d 189 (4, [some (.ref 542), o1], [], mj J sw lg x) K := by
  refine v_s mt_189 rfl rfl rfl ?_
  refine v_inl (L1 := [some (.ref 542)]) mt_189 rfl rfl mt_165 rfl rfl (m_callj (As := []) (rest := []) rfl rfl c_542 rfl (Nat.le_of_ble_eq_true rfl) (Nat.le_of_ble_eq_true rfl)) rfl (by clear h; omega) ?_
  refine v_s mt_165 rfl rfl rfl ?_
  refine j_gi (w := J 542 5) 5 mt_165 rfl rfl c_542 (by decide) rfl ?_
  refine v_ic (v := Int32.ofInt (-1)) mt_165 rfl rfl ?_
  obtain ⟨z1, h⟩ := h
  refine j_if2 mt_165 rfl rfl z1 ⟨by decide, by decide⟩ (fun c => ?_) (fun c => ?_)
  · replace h := h.1 c
    refine v_ic (v := Int32.ofInt 0) mt_165 rfl rfl ?_
    refine j_retb mt_165 rfl rfl (by decide) ?_
    refine j_if1 mt_189 rfl rfl ⟨by decide, by decide⟩ (fun _ => ?_) (fun c => (c (show (0 : Int) = 0 by decide)).elim)
    exact v_ret mt_189 rfl rfl rfl h
  · replace h := h.2 (Decidable.not_not.mp c)
    refine v_ic (v := Int32.ofInt 1) mt_165 rfl rfl ?_
    refine v_go mt_165 rfl rfl ?_
    refine j_retb mt_165 rfl rfl (by decide) ?_
    refine j_if1 mt_189 rfl rfl ⟨by decide, by decide⟩ (fun c => absurd (show (1 : Int) = 0 from c) (by decide)) (fun _ => ?_)
    refine v_s mt_189 rfl rfl rfl ?_
    obtain ⟨c2, J1, z2, h⟩ := h
    refine v_call (d1 := 0) mt_189 rfl rfl mt_167 rfl rfl (m_callj (As := []) (rest := []) rfl rfl c_542 rfl (Nat.le_of_ble_eq_true rfl) (Nat.le_of_ble_eq_true rfl)) z2 (by clear h; omega) ?_
    refine v_bp (v := Int32.ofInt 43) mt_189 rfl rfl ?_
    obtain ⟨z3, h⟩ := h
    refine j_if2 mt_189 rfl rfl z3 ⟨by decide, by decide⟩ (fun c => ?_) (fun c => ?_)
    · replace h := h.1 c
      refine v_s mt_189 rfl rfl rfl ?_
      obtain ⟨c4, J3, z4, h⟩ := h
      refine v_call (d1 := 0) mt_189 rfl rfl mt_167 rfl rfl (m_callj (As := []) (rest := []) rfl rfl c_542 rfl (Nat.le_of_ble_eq_true rfl) (Nat.le_of_ble_eq_true rfl)) z4 (by clear h; omega) ?_
      refine v_bp (v := Int32.ofInt 43) mt_189 rfl rfl ?_
      obtain ⟨z5, h⟩ := h
      refine j_if2 mt_189 rfl rfl z5 ⟨by decide, by decide⟩ (fun c => ?_) (fun c => ?_)
      · replace h := h.1 c
        refine v_ic (v := Int32.ofInt 3) mt_189 rfl rfl ?_
        refine v_isn (L' := [some (.ref 542), some (iv 3)]) mt_189 rfl (Nat.le_of_ble_eq_true rfl) rfl ?_
        refine v_s mt_189 rfl rfl rfl ?_
        refine v_s mt_189 rfl rfl rfl ?_
        refine j_gi (w := J3 542 4) 4 mt_189 rfl rfl c_542 (by decide) rfl ?_
        refine v_ic (v := Int32.ofInt 1) mt_189 rfl rfl ?_
        refine j_add (e := (J3 542 4) + 1) mt_189 rfl rfl ?_
        refine j_pi 4 mt_189 rfl rfl c_542 (by decide) ?_
        refine v_s mt_189 rfl rfl rfl ?_
        obtain ⟨J5, z6, h⟩ := h
        refine v_call (d1 := (d - 1)) mt_189 rfl rfl mt_190 rfl rfl (m_callj (As := []) (rest := []) rfl rfl c_542 rfl (Nat.le_of_ble_eq_true rfl) (Nat.le_of_ble_eq_true rfl)) z6 (by clear h; omega) ?_
        refine v_s mt_189 rfl rfl rfl ?_
        refine v_s mt_189 rfl rfl rfl ?_
        refine v_ic (v := Int32.ofInt 0) mt_189 rfl rfl ?_
        obtain ⟨J6, z7, h⟩ := h
        refine v_call (d1 := 1) mt_189 rfl rfl mt_187 rfl rfl (m_callj (As := [iv 3, iv 0]) (rest := []) rfl rfl c_542 rfl (Nat.le_of_ble_eq_true rfl) (Nat.le_of_ble_eq_true rfl)) z7 (by clear h; omega) ?_
        refine v_go mt_189 rfl rfl ?_
        exact h
      · replace h := h.2 (Decidable.not_not.mp c)
        refine v_ic (v := Int32.ofInt 2) mt_189 rfl rfl ?_
        refine v_go mt_189 rfl rfl ?_
        refine v_isn (L' := [some (.ref 542), some (iv 2)]) mt_189 rfl (Nat.le_of_ble_eq_true rfl) rfl ?_
        refine v_s mt_189 rfl rfl rfl ?_
        refine v_s mt_189 rfl rfl rfl ?_
        refine j_gi (w := J3 542 4) 4 mt_189 rfl rfl c_542 (by decide) rfl ?_
        refine v_ic (v := Int32.ofInt 1) mt_189 rfl rfl ?_
        refine j_add (e := (J3 542 4) + 1) mt_189 rfl rfl ?_
        refine j_pi 4 mt_189 rfl rfl c_542 (by decide) ?_
        refine v_s mt_189 rfl rfl rfl ?_
        obtain ⟨J7, z8, h⟩ := h
        refine v_call (d1 := (d - 1)) mt_189 rfl rfl mt_190 rfl rfl (m_callj (As := []) (rest := []) rfl rfl c_542 rfl (Nat.le_of_ble_eq_true rfl) (Nat.le_of_ble_eq_true rfl)) z8 (by clear h; omega) ?_
        refine v_s mt_189 rfl rfl rfl ?_
        refine v_s mt_189 rfl rfl rfl ?_
        refine v_ic (v := Int32.ofInt 0) mt_189 rfl rfl ?_
        obtain ⟨J8, z9, h⟩ := h
        refine v_call (d1 := 1) mt_189 rfl rfl mt_187 rfl rfl (m_callj (As := [iv 2, iv 0]) (rest := []) rfl rfl c_542 rfl (Nat.le_of_ble_eq_true rfl) (Nat.le_of_ble_eq_true rfl)) z9 (by clear h; omega) ?_
        refine v_go mt_189 rfl rfl ?_
        exact h
    · replace h := h.2 c
      refine v_s mt_189 rfl rfl rfl ?_
      obtain ⟨c10, J9, z10, h⟩ := h
      refine v_call (d1 := 0) mt_189 rfl rfl mt_167 rfl rfl (m_callj (As := []) (rest := []) rfl rfl c_542 rfl (Nat.le_of_ble_eq_true rfl) (Nat.le_of_ble_eq_true rfl)) z10 (by clear h; omega) ?_
      refine v_bp (v := Int32.ofInt 45) mt_189 rfl rfl ?_
      obtain ⟨z11, h⟩ := h
      refine j_if2 mt_189 rfl rfl z11 ⟨by decide, by decide⟩ (fun c => ?_) (fun c => ?_)
      · replace h := h.1 c
        exact v_ret mt_189 rfl rfl rfl h
      · replace h := h.2 (Decidable.not_not.mp c)
        refine v_s mt_189 rfl rfl rfl ?_
        obtain ⟨c12, J11, z12, h⟩ := h
        refine v_call (d1 := 0) mt_189 rfl rfl mt_167 rfl rfl (m_callj (As := []) (rest := []) rfl rfl c_542 rfl (Nat.le_of_ble_eq_true rfl) (Nat.le_of_ble_eq_true rfl)) z12 (by clear h; omega) ?_
        refine v_bp (v := Int32.ofInt 43) mt_189 rfl rfl ?_
        obtain ⟨z13, h⟩ := h
        refine j_if2 mt_189 rfl rfl z13 ⟨by decide, by decide⟩ (fun c => ?_) (fun c => ?_)
        · replace h := h.1 c
          refine v_ic (v := Int32.ofInt 3) mt_189 rfl rfl ?_
          refine v_isn (L' := [some (.ref 542), some (iv 3)]) mt_189 rfl (Nat.le_of_ble_eq_true rfl) rfl ?_
          refine v_s mt_189 rfl rfl rfl ?_
          refine v_s mt_189 rfl rfl rfl ?_
          refine j_gi (w := J11 542 4) 4 mt_189 rfl rfl c_542 (by decide) rfl ?_
          refine v_ic (v := Int32.ofInt 1) mt_189 rfl rfl ?_
          refine j_add (e := (J11 542 4) + 1) mt_189 rfl rfl ?_
          refine j_pi 4 mt_189 rfl rfl c_542 (by decide) ?_
          refine v_s mt_189 rfl rfl rfl ?_
          obtain ⟨J13, z14, h⟩ := h
          refine v_call (d1 := (d - 1)) mt_189 rfl rfl mt_190 rfl rfl (m_callj (As := []) (rest := []) rfl rfl c_542 rfl (Nat.le_of_ble_eq_true rfl) (Nat.le_of_ble_eq_true rfl)) z14 (by clear h; omega) ?_
          refine v_s mt_189 rfl rfl rfl ?_
          refine v_s mt_189 rfl rfl rfl ?_
          refine v_ic (v := Int32.ofInt 0) mt_189 rfl rfl ?_
          obtain ⟨J14, z15, h⟩ := h
          refine v_call (d1 := 1) mt_189 rfl rfl mt_187 rfl rfl (m_callj (As := [iv 3, iv 0]) (rest := []) rfl rfl c_542 rfl (Nat.le_of_ble_eq_true rfl) (Nat.le_of_ble_eq_true rfl)) z15 (by clear h; omega) ?_
          refine v_go mt_189 rfl rfl ?_
          exact h
        · replace h := h.2 (Decidable.not_not.mp c)
          refine v_ic (v := Int32.ofInt 2) mt_189 rfl rfl ?_
          refine v_go mt_189 rfl rfl ?_
          refine v_isn (L' := [some (.ref 542), some (iv 2)]) mt_189 rfl (Nat.le_of_ble_eq_true rfl) rfl ?_
          refine v_s mt_189 rfl rfl rfl ?_
          refine v_s mt_189 rfl rfl rfl ?_
          refine j_gi (w := J11 542 4) 4 mt_189 rfl rfl c_542 (by decide) rfl ?_
          refine v_ic (v := Int32.ofInt 1) mt_189 rfl rfl ?_
          refine j_add (e := (J11 542 4) + 1) mt_189 rfl rfl ?_
          refine j_pi 4 mt_189 rfl rfl c_542 (by decide) ?_
          refine v_s mt_189 rfl rfl rfl ?_
          obtain ⟨J15, z16, h⟩ := h
          refine v_call (d1 := (d - 1)) mt_189 rfl rfl mt_190 rfl rfl (m_callj (As := []) (rest := []) rfl rfl c_542 rfl (Nat.le_of_ble_eq_true rfl) (Nat.le_of_ble_eq_true rfl)) z16 (by clear h; omega) ?_
          refine v_s mt_189 rfl rfl rfl ?_
          refine v_s mt_189 rfl rfl rfl ?_
          refine v_ic (v := Int32.ofInt 0) mt_189 rfl rfl ?_
          obtain ⟨J16, z17, h⟩ := h
          refine v_call (d1 := 1) mt_189 rfl rfl mt_187 rfl rfl (m_callj (As := [iv 2, iv 0]) (rest := []) rfl rfl c_542 rfl (Nat.le_of_ble_eq_true rfl) (Nat.le_of_ble_eq_true rfl)) z17 (by clear h; omega) ?_
          refine v_go mt_189 rfl rfl ?_
          exact h
set_option maxHeartbeats 600000 in
theorem b_190_0 {X : Nat × (Nat → Int32)} {d : Nat} {J : Nat → Nat → Int} {sw : Bool × Bool × Bool} {lg : Nat → Nat → Int64} {x : Nat} {K : (Option Value ⊕ Nat) → mM → Prop} {o1 : Option Value} (hd : 2 ≤ d)
    (h : ∃ (J1 : Nat → Nat → Int), EE X (d - 1) 193 [.ref 542] (mj J sw lg x) (.inl none) (mj J1 sw lg x) ∧ VV X d 190 (4, [some (.ref 542), o1], [], mj J1 sw lg x) K) : VV X d 190 (0, [some (.ref 542), o1], [], mj J sw lg x) K := by
  refine v_s mt_190 rfl rfl rfl ?_
  obtain ⟨J1, z1, h⟩ := h
  refine v_call (d1 := (d - 1)) mt_190 rfl rfl mt_193 rfl rfl (m_callj (As := []) (rest := []) rfl rfl c_542 rfl (Nat.le_of_ble_eq_true rfl) (Nat.le_of_ble_eq_true rfl)) z1 (by clear h; omega) ?_
  exact h
set_option maxHeartbeats 600000 in
theorem b_190_4 {X : Nat × (Nat → Int32)} {d : Nat} {J : Nat → Nat → Int} {sw : Bool × Bool × Bool} {lg : Nat → Nat → Int64} {x : Nat} {K : (Option Value ⊕ Nat) → mM → Prop} {o1 : Option Value} (hd : 2 ≤ d)
    (h : InR (J 542 5) ∧ (¬ J 542 5 = (-1) → K (.inl none) (mj J sw lg x)) ∧ (J 542 5 = (-1) → (∃ (c2 : Int) (J1 : Nat → Nat → Int), EE X 0 167 [.ref 542] (mj J sw lg x) (.inl (some (iv c2))) (mj J1 sw lg x) ∧ InR c2 ∧ (c2 = 42 → (∃ (c4 : Int) (J3 : Nat → Nat → Int), EE X 0 167 [.ref 542] (mj J1 sw lg x) (.inl (some (iv c4))) (mj J3 sw lg x) ∧ InR c4 ∧ (¬ c4 = 42 → (∃ (c6 : Int) (J5 : Nat → Nat → Int), EE X 0 167 [.ref 542] (mj J3 sw lg x) (.inl (some (iv c6))) (mj J5 sw lg x) ∧ InR c6 ∧ (¬ c6 = 47 → (∃ (J7 : Nat → Nat → Int), EE X (d - 1) 193 [.ref 542] (mj (m_up J5 542 4 ((J5 542 4) + 1)) sw lg x) (.inl none) (mj J7 sw lg x) ∧ ∃ (J8 : Nat → Nat → Int), EE X 1 187 [.ref 542, iv 8, iv 0] (mj J7 sw lg x) (.inl none) (mj J8 sw lg x) ∧ VV X d 190 (4, [some (.ref 542), some (iv 8)], [], mj J8 sw lg x) K)) ∧ (c6 = 47 → (∃ (J9 : Nat → Nat → Int), EE X (d - 1) 193 [.ref 542] (mj (m_up J5 542 4 ((J5 542 4) + 1)) sw lg x) (.inl none) (mj J9 sw lg x) ∧ ∃ (J10 : Nat → Nat → Int), EE X 1 187 [.ref 542, iv 5, iv 0] (mj J9 sw lg x) (.inl none) (mj J10 sw lg x) ∧ VV X d 190 (4, [some (.ref 542), some (iv 5)], [], mj J10 sw lg x) K)))) ∧ (c4 = 42 → (∃ (J11 : Nat → Nat → Int), EE X (d - 1) 193 [.ref 542] (mj (m_up J3 542 4 ((J3 542 4) + 1)) sw lg x) (.inl none) (mj J11 sw lg x) ∧ ∃ (J12 : Nat → Nat → Int), EE X 1 187 [.ref 542, iv 4, iv 0] (mj J11 sw lg x) (.inl none) (mj J12 sw lg x) ∧ VV X d 190 (4, [some (.ref 542), some (iv 4)], [], mj J12 sw lg x) K)))) ∧ (¬ c2 = 42 → (∃ (c14 : Int) (J13 : Nat → Nat → Int), EE X 0 167 [.ref 542] (mj J1 sw lg x) (.inl (some (iv c14))) (mj J13 sw lg x) ∧ InR c14 ∧ (c14 = 47 → (∃ (c16 : Int) (J15 : Nat → Nat → Int), EE X 0 167 [.ref 542] (mj J13 sw lg x) (.inl (some (iv c16))) (mj J15 sw lg x) ∧ InR c16 ∧ (¬ c16 = 42 → (∃ (c18 : Int) (J17 : Nat → Nat → Int), EE X 0 167 [.ref 542] (mj J15 sw lg x) (.inl (some (iv c18))) (mj J17 sw lg x) ∧ InR c18 ∧ (¬ c18 = 47 → (∃ (J19 : Nat → Nat → Int), EE X (d - 1) 193 [.ref 542] (mj (m_up J17 542 4 ((J17 542 4) + 1)) sw lg x) (.inl none) (mj J19 sw lg x) ∧ ∃ (J20 : Nat → Nat → Int), EE X 1 187 [.ref 542, iv 8, iv 0] (mj J19 sw lg x) (.inl none) (mj J20 sw lg x) ∧ VV X d 190 (4, [some (.ref 542), some (iv 8)], [], mj J20 sw lg x) K)) ∧ (c18 = 47 → (∃ (J21 : Nat → Nat → Int), EE X (d - 1) 193 [.ref 542] (mj (m_up J17 542 4 ((J17 542 4) + 1)) sw lg x) (.inl none) (mj J21 sw lg x) ∧ ∃ (J22 : Nat → Nat → Int), EE X 1 187 [.ref 542, iv 5, iv 0] (mj J21 sw lg x) (.inl none) (mj J22 sw lg x) ∧ VV X d 190 (4, [some (.ref 542), some (iv 5)], [], mj J22 sw lg x) K)))) ∧ (c16 = 42 → (∃ (J23 : Nat → Nat → Int), EE X (d - 1) 193 [.ref 542] (mj (m_up J15 542 4 ((J15 542 4) + 1)) sw lg x) (.inl none) (mj J23 sw lg x) ∧ ∃ (J24 : Nat → Nat → Int), EE X 1 187 [.ref 542, iv 4, iv 0] (mj J23 sw lg x) (.inl none) (mj J24 sw lg x) ∧ VV X d 190 (4, [some (.ref 542), some (iv 4)], [], mj J24 sw lg x) K)))) ∧ (¬ c14 = 47 → (∃ (c26 : Int) (J25 : Nat → Nat → Int), EE X 0 167 [.ref 542] (mj J13 sw lg x) (.inl (some (iv c26))) (mj J25 sw lg x) ∧ InR c26 ∧ (¬ c26 = 37 → K (.inl none) (mj J25 sw lg x)) ∧ (c26 = 37 → (∃ (c28 : Int) (J27 : Nat → Nat → Int), EE X 0 167 [.ref 542] (mj J25 sw lg x) (.inl (some (iv c28))) (mj J27 sw lg x) ∧ InR c28 ∧ (¬ c28 = 42 → (∃ (c30 : Int) (J29 : Nat → Nat → Int), EE X 0 167 [.ref 542] (mj J27 sw lg x) (.inl (some (iv c30))) (mj J29 sw lg x) ∧ InR c30 ∧ (¬ c30 = 47 → (∃ (J31 : Nat → Nat → Int), EE X (d - 1) 193 [.ref 542] (mj (m_up J29 542 4 ((J29 542 4) + 1)) sw lg x) (.inl none) (mj J31 sw lg x) ∧ ∃ (J32 : Nat → Nat → Int), EE X 1 187 [.ref 542, iv 8, iv 0] (mj J31 sw lg x) (.inl none) (mj J32 sw lg x) ∧ VV X d 190 (4, [some (.ref 542), some (iv 8)], [], mj J32 sw lg x) K)) ∧ (c30 = 47 → (∃ (J33 : Nat → Nat → Int), EE X (d - 1) 193 [.ref 542] (mj (m_up J29 542 4 ((J29 542 4) + 1)) sw lg x) (.inl none) (mj J33 sw lg x) ∧ ∃ (J34 : Nat → Nat → Int), EE X 1 187 [.ref 542, iv 5, iv 0] (mj J33 sw lg x) (.inl none) (mj J34 sw lg x) ∧ VV X d 190 (4, [some (.ref 542), some (iv 5)], [], mj J34 sw lg x) K)))) ∧ (c28 = 42 → (∃ (J35 : Nat → Nat → Int), EE X (d - 1) 193 [.ref 542] (mj (m_up J27 542 4 ((J27 542 4) + 1)) sw lg x) (.inl none) (mj J35 sw lg x) ∧ ∃ (J36 : Nat → Nat → Int), EE X 1 187 [.ref 542, iv 4, iv 0] (mj J35 sw lg x) (.inl none) (mj J36 sw lg x) ∧ VV X d 190 (4, [some (.ref 542), some (iv 4)], [], mj J36 sw lg x) K))))))))))) : VV X d 190 (4, [some (.ref 542), o1], [], mj J sw lg x) K := by
  refine v_s mt_190 rfl rfl rfl ?_
  refine v_inl (L1 := [some (.ref 542)]) mt_190 rfl rfl mt_165 rfl rfl (m_callj (As := []) (rest := []) rfl rfl c_542 rfl (Nat.le_of_ble_eq_true rfl) (Nat.le_of_ble_eq_true rfl)) rfl (by clear h; omega) ?_
  refine v_s mt_165 rfl rfl rfl ?_
  refine j_gi (w := J 542 5) 5 mt_165 rfl rfl c_542 (by decide) rfl ?_
  refine v_ic (v := Int32.ofInt (-1)) mt_165 rfl rfl ?_
  obtain ⟨z1, h⟩ := h
  refine j_if2 mt_165 rfl rfl z1 ⟨by decide, by decide⟩ (fun c => ?_) (fun c => ?_)
  · replace h := h.1 c
    refine v_ic (v := Int32.ofInt 0) mt_165 rfl rfl ?_
    refine j_retb mt_165 rfl rfl (by decide) ?_
    refine j_if1 mt_190 rfl rfl ⟨by decide, by decide⟩ (fun _ => ?_) (fun c => (c (show (0 : Int) = 0 by decide)).elim)
    exact v_ret mt_190 rfl rfl rfl h
  · replace h := h.2 (Decidable.not_not.mp c)
    refine v_ic (v := Int32.ofInt 1) mt_165 rfl rfl ?_
    refine v_go mt_165 rfl rfl ?_
    refine j_retb mt_165 rfl rfl (by decide) ?_
    refine j_if1 mt_190 rfl rfl ⟨by decide, by decide⟩ (fun c => absurd (show (1 : Int) = 0 from c) (by decide)) (fun _ => ?_)
    refine v_s mt_190 rfl rfl rfl ?_
    obtain ⟨c2, J1, z2, h⟩ := h
    refine v_call (d1 := 0) mt_190 rfl rfl mt_167 rfl rfl (m_callj (As := []) (rest := []) rfl rfl c_542 rfl (Nat.le_of_ble_eq_true rfl) (Nat.le_of_ble_eq_true rfl)) z2 (by clear h; omega) ?_
    refine v_bp (v := Int32.ofInt 42) mt_190 rfl rfl ?_
    obtain ⟨z3, h⟩ := h
    refine j_if2 mt_190 rfl rfl z3 ⟨by decide, by decide⟩ (fun c => ?_) (fun c => ?_)
    · replace h := h.1 c
      refine v_s mt_190 rfl rfl rfl ?_
      obtain ⟨c4, J3, z4, h⟩ := h
      refine v_call (d1 := 0) mt_190 rfl rfl mt_167 rfl rfl (m_callj (As := []) (rest := []) rfl rfl c_542 rfl (Nat.le_of_ble_eq_true rfl) (Nat.le_of_ble_eq_true rfl)) z4 (by clear h; omega) ?_
      refine v_bp (v := Int32.ofInt 42) mt_190 rfl rfl ?_
      obtain ⟨z5, h⟩ := h
      refine j_if2 mt_190 rfl rfl z5 ⟨by decide, by decide⟩ (fun c => ?_) (fun c => ?_)
      · replace h := h.1 c
        refine v_s mt_190 rfl rfl rfl ?_
        obtain ⟨c6, J5, z6, h⟩ := h
        refine v_call (d1 := 0) mt_190 rfl rfl mt_167 rfl rfl (m_callj (As := []) (rest := []) rfl rfl c_542 rfl (Nat.le_of_ble_eq_true rfl) (Nat.le_of_ble_eq_true rfl)) z6 (by clear h; omega) ?_
        refine v_bp (v := Int32.ofInt 47) mt_190 rfl rfl ?_
        obtain ⟨z7, h⟩ := h
        refine j_if2 mt_190 rfl rfl z7 ⟨by decide, by decide⟩ (fun c => ?_) (fun c => ?_)
        · replace h := h.1 c
          refine v_bp (v := Int32.ofInt 8) mt_190 rfl rfl ?_
          refine v_isn (L' := [some (.ref 542), some (iv 8)]) mt_190 rfl (Nat.le_of_ble_eq_true rfl) rfl ?_
          refine v_s mt_190 rfl rfl rfl ?_
          refine v_s mt_190 rfl rfl rfl ?_
          refine j_gi (w := J5 542 4) 4 mt_190 rfl rfl c_542 (by decide) rfl ?_
          refine v_ic (v := Int32.ofInt 1) mt_190 rfl rfl ?_
          refine j_add (e := (J5 542 4) + 1) mt_190 rfl rfl ?_
          refine j_pi 4 mt_190 rfl rfl c_542 (by decide) ?_
          refine v_s mt_190 rfl rfl rfl ?_
          obtain ⟨J7, z8, h⟩ := h
          refine v_call (d1 := (d - 1)) mt_190 rfl rfl mt_193 rfl rfl (m_callj (As := []) (rest := []) rfl rfl c_542 rfl (Nat.le_of_ble_eq_true rfl) (Nat.le_of_ble_eq_true rfl)) z8 (by clear h; omega) ?_
          refine v_s mt_190 rfl rfl rfl ?_
          refine v_s mt_190 rfl rfl rfl ?_
          refine v_ic (v := Int32.ofInt 0) mt_190 rfl rfl ?_
          obtain ⟨J8, z9, h⟩ := h
          refine v_call (d1 := 1) mt_190 rfl rfl mt_187 rfl rfl (m_callj (As := [iv 8, iv 0]) (rest := []) rfl rfl c_542 rfl (Nat.le_of_ble_eq_true rfl) (Nat.le_of_ble_eq_true rfl)) z9 (by clear h; omega) ?_
          refine v_go mt_190 rfl rfl ?_
          exact h
        · replace h := h.2 (Decidable.not_not.mp c)
          refine v_ic (v := Int32.ofInt 5) mt_190 rfl rfl ?_
          refine v_go mt_190 rfl rfl ?_
          refine v_isn (L' := [some (.ref 542), some (iv 5)]) mt_190 rfl (Nat.le_of_ble_eq_true rfl) rfl ?_
          refine v_s mt_190 rfl rfl rfl ?_
          refine v_s mt_190 rfl rfl rfl ?_
          refine j_gi (w := J5 542 4) 4 mt_190 rfl rfl c_542 (by decide) rfl ?_
          refine v_ic (v := Int32.ofInt 1) mt_190 rfl rfl ?_
          refine j_add (e := (J5 542 4) + 1) mt_190 rfl rfl ?_
          refine j_pi 4 mt_190 rfl rfl c_542 (by decide) ?_
          refine v_s mt_190 rfl rfl rfl ?_
          obtain ⟨J9, z10, h⟩ := h
          refine v_call (d1 := (d - 1)) mt_190 rfl rfl mt_193 rfl rfl (m_callj (As := []) (rest := []) rfl rfl c_542 rfl (Nat.le_of_ble_eq_true rfl) (Nat.le_of_ble_eq_true rfl)) z10 (by clear h; omega) ?_
          refine v_s mt_190 rfl rfl rfl ?_
          refine v_s mt_190 rfl rfl rfl ?_
          refine v_ic (v := Int32.ofInt 0) mt_190 rfl rfl ?_
          obtain ⟨J10, z11, h⟩ := h
          refine v_call (d1 := 1) mt_190 rfl rfl mt_187 rfl rfl (m_callj (As := [iv 5, iv 0]) (rest := []) rfl rfl c_542 rfl (Nat.le_of_ble_eq_true rfl) (Nat.le_of_ble_eq_true rfl)) z11 (by clear h; omega) ?_
          refine v_go mt_190 rfl rfl ?_
          exact h
      · replace h := h.2 (Decidable.not_not.mp c)
        refine v_ic (v := Int32.ofInt 4) mt_190 rfl rfl ?_
        refine v_go mt_190 rfl rfl ?_
        refine v_isn (L' := [some (.ref 542), some (iv 4)]) mt_190 rfl (Nat.le_of_ble_eq_true rfl) rfl ?_
        refine v_s mt_190 rfl rfl rfl ?_
        refine v_s mt_190 rfl rfl rfl ?_
        refine j_gi (w := J3 542 4) 4 mt_190 rfl rfl c_542 (by decide) rfl ?_
        refine v_ic (v := Int32.ofInt 1) mt_190 rfl rfl ?_
        refine j_add (e := (J3 542 4) + 1) mt_190 rfl rfl ?_
        refine j_pi 4 mt_190 rfl rfl c_542 (by decide) ?_
        refine v_s mt_190 rfl rfl rfl ?_
        obtain ⟨J11, z12, h⟩ := h
        refine v_call (d1 := (d - 1)) mt_190 rfl rfl mt_193 rfl rfl (m_callj (As := []) (rest := []) rfl rfl c_542 rfl (Nat.le_of_ble_eq_true rfl) (Nat.le_of_ble_eq_true rfl)) z12 (by clear h; omega) ?_
        refine v_s mt_190 rfl rfl rfl ?_
        refine v_s mt_190 rfl rfl rfl ?_
        refine v_ic (v := Int32.ofInt 0) mt_190 rfl rfl ?_
        obtain ⟨J12, z13, h⟩ := h
        refine v_call (d1 := 1) mt_190 rfl rfl mt_187 rfl rfl (m_callj (As := [iv 4, iv 0]) (rest := []) rfl rfl c_542 rfl (Nat.le_of_ble_eq_true rfl) (Nat.le_of_ble_eq_true rfl)) z13 (by clear h; omega) ?_
        refine v_go mt_190 rfl rfl ?_
        exact h
    · replace h := h.2 c
      refine v_s mt_190 rfl rfl rfl ?_
      obtain ⟨c14, J13, z14, h⟩ := h
      refine v_call (d1 := 0) mt_190 rfl rfl mt_167 rfl rfl (m_callj (As := []) (rest := []) rfl rfl c_542 rfl (Nat.le_of_ble_eq_true rfl) (Nat.le_of_ble_eq_true rfl)) z14 (by clear h; omega) ?_
      refine v_bp (v := Int32.ofInt 47) mt_190 rfl rfl ?_
      obtain ⟨z15, h⟩ := h
      refine j_if2 mt_190 rfl rfl z15 ⟨by decide, by decide⟩ (fun c => ?_) (fun c => ?_)
      · replace h := h.1 c
        refine v_s mt_190 rfl rfl rfl ?_
        obtain ⟨c16, J15, z16, h⟩ := h
        refine v_call (d1 := 0) mt_190 rfl rfl mt_167 rfl rfl (m_callj (As := []) (rest := []) rfl rfl c_542 rfl (Nat.le_of_ble_eq_true rfl) (Nat.le_of_ble_eq_true rfl)) z16 (by clear h; omega) ?_
        refine v_bp (v := Int32.ofInt 42) mt_190 rfl rfl ?_
        obtain ⟨z17, h⟩ := h
        refine j_if2 mt_190 rfl rfl z17 ⟨by decide, by decide⟩ (fun c => ?_) (fun c => ?_)
        · replace h := h.1 c
          refine v_s mt_190 rfl rfl rfl ?_
          obtain ⟨c18, J17, z18, h⟩ := h
          refine v_call (d1 := 0) mt_190 rfl rfl mt_167 rfl rfl (m_callj (As := []) (rest := []) rfl rfl c_542 rfl (Nat.le_of_ble_eq_true rfl) (Nat.le_of_ble_eq_true rfl)) z18 (by clear h; omega) ?_
          refine v_bp (v := Int32.ofInt 47) mt_190 rfl rfl ?_
          obtain ⟨z19, h⟩ := h
          refine j_if2 mt_190 rfl rfl z19 ⟨by decide, by decide⟩ (fun c => ?_) (fun c => ?_)
          · replace h := h.1 c
            refine v_bp (v := Int32.ofInt 8) mt_190 rfl rfl ?_
            refine v_isn (L' := [some (.ref 542), some (iv 8)]) mt_190 rfl (Nat.le_of_ble_eq_true rfl) rfl ?_
            refine v_s mt_190 rfl rfl rfl ?_
            refine v_s mt_190 rfl rfl rfl ?_
            refine j_gi (w := J17 542 4) 4 mt_190 rfl rfl c_542 (by decide) rfl ?_
            refine v_ic (v := Int32.ofInt 1) mt_190 rfl rfl ?_
            refine j_add (e := (J17 542 4) + 1) mt_190 rfl rfl ?_
            refine j_pi 4 mt_190 rfl rfl c_542 (by decide) ?_
            refine v_s mt_190 rfl rfl rfl ?_
            obtain ⟨J19, z20, h⟩ := h
            refine v_call (d1 := (d - 1)) mt_190 rfl rfl mt_193 rfl rfl (m_callj (As := []) (rest := []) rfl rfl c_542 rfl (Nat.le_of_ble_eq_true rfl) (Nat.le_of_ble_eq_true rfl)) z20 (by clear h; omega) ?_
            refine v_s mt_190 rfl rfl rfl ?_
            refine v_s mt_190 rfl rfl rfl ?_
            refine v_ic (v := Int32.ofInt 0) mt_190 rfl rfl ?_
            obtain ⟨J20, z21, h⟩ := h
            refine v_call (d1 := 1) mt_190 rfl rfl mt_187 rfl rfl (m_callj (As := [iv 8, iv 0]) (rest := []) rfl rfl c_542 rfl (Nat.le_of_ble_eq_true rfl) (Nat.le_of_ble_eq_true rfl)) z21 (by clear h; omega) ?_
            refine v_go mt_190 rfl rfl ?_
            exact h
          · replace h := h.2 (Decidable.not_not.mp c)
            refine v_ic (v := Int32.ofInt 5) mt_190 rfl rfl ?_
            refine v_go mt_190 rfl rfl ?_
            refine v_isn (L' := [some (.ref 542), some (iv 5)]) mt_190 rfl (Nat.le_of_ble_eq_true rfl) rfl ?_
            refine v_s mt_190 rfl rfl rfl ?_
            refine v_s mt_190 rfl rfl rfl ?_
            refine j_gi (w := J17 542 4) 4 mt_190 rfl rfl c_542 (by decide) rfl ?_
            refine v_ic (v := Int32.ofInt 1) mt_190 rfl rfl ?_
            refine j_add (e := (J17 542 4) + 1) mt_190 rfl rfl ?_
            refine j_pi 4 mt_190 rfl rfl c_542 (by decide) ?_
            refine v_s mt_190 rfl rfl rfl ?_
            obtain ⟨J21, z22, h⟩ := h
            refine v_call (d1 := (d - 1)) mt_190 rfl rfl mt_193 rfl rfl (m_callj (As := []) (rest := []) rfl rfl c_542 rfl (Nat.le_of_ble_eq_true rfl) (Nat.le_of_ble_eq_true rfl)) z22 (by clear h; omega) ?_
            refine v_s mt_190 rfl rfl rfl ?_
            refine v_s mt_190 rfl rfl rfl ?_
            refine v_ic (v := Int32.ofInt 0) mt_190 rfl rfl ?_
            obtain ⟨J22, z23, h⟩ := h
            refine v_call (d1 := 1) mt_190 rfl rfl mt_187 rfl rfl (m_callj (As := [iv 5, iv 0]) (rest := []) rfl rfl c_542 rfl (Nat.le_of_ble_eq_true rfl) (Nat.le_of_ble_eq_true rfl)) z23 (by clear h; omega) ?_
            refine v_go mt_190 rfl rfl ?_
            exact h
        · replace h := h.2 (Decidable.not_not.mp c)
          refine v_ic (v := Int32.ofInt 4) mt_190 rfl rfl ?_
          refine v_go mt_190 rfl rfl ?_
          refine v_isn (L' := [some (.ref 542), some (iv 4)]) mt_190 rfl (Nat.le_of_ble_eq_true rfl) rfl ?_
          refine v_s mt_190 rfl rfl rfl ?_
          refine v_s mt_190 rfl rfl rfl ?_
          refine j_gi (w := J15 542 4) 4 mt_190 rfl rfl c_542 (by decide) rfl ?_
          refine v_ic (v := Int32.ofInt 1) mt_190 rfl rfl ?_
          refine j_add (e := (J15 542 4) + 1) mt_190 rfl rfl ?_
          refine j_pi 4 mt_190 rfl rfl c_542 (by decide) ?_
          refine v_s mt_190 rfl rfl rfl ?_
          obtain ⟨J23, z24, h⟩ := h
          refine v_call (d1 := (d - 1)) mt_190 rfl rfl mt_193 rfl rfl (m_callj (As := []) (rest := []) rfl rfl c_542 rfl (Nat.le_of_ble_eq_true rfl) (Nat.le_of_ble_eq_true rfl)) z24 (by clear h; omega) ?_
          refine v_s mt_190 rfl rfl rfl ?_
          refine v_s mt_190 rfl rfl rfl ?_
          refine v_ic (v := Int32.ofInt 0) mt_190 rfl rfl ?_
          obtain ⟨J24, z25, h⟩ := h
          refine v_call (d1 := 1) mt_190 rfl rfl mt_187 rfl rfl (m_callj (As := [iv 4, iv 0]) (rest := []) rfl rfl c_542 rfl (Nat.le_of_ble_eq_true rfl) (Nat.le_of_ble_eq_true rfl)) z25 (by clear h; omega) ?_
          refine v_go mt_190 rfl rfl ?_
          exact h
      · replace h := h.2 c
        refine v_s mt_190 rfl rfl rfl ?_
        obtain ⟨c26, J25, z26, h⟩ := h
        refine v_call (d1 := 0) mt_190 rfl rfl mt_167 rfl rfl (m_callj (As := []) (rest := []) rfl rfl c_542 rfl (Nat.le_of_ble_eq_true rfl) (Nat.le_of_ble_eq_true rfl)) z26 (by clear h; omega) ?_
        refine v_bp (v := Int32.ofInt 37) mt_190 rfl rfl ?_
        obtain ⟨z27, h⟩ := h
        refine j_if2 mt_190 rfl rfl z27 ⟨by decide, by decide⟩ (fun c => ?_) (fun c => ?_)
        · replace h := h.1 c
          exact v_ret mt_190 rfl rfl rfl h
        · replace h := h.2 (Decidable.not_not.mp c)
          refine v_s mt_190 rfl rfl rfl ?_
          obtain ⟨c28, J27, z28, h⟩ := h
          refine v_call (d1 := 0) mt_190 rfl rfl mt_167 rfl rfl (m_callj (As := []) (rest := []) rfl rfl c_542 rfl (Nat.le_of_ble_eq_true rfl) (Nat.le_of_ble_eq_true rfl)) z28 (by clear h; omega) ?_
          refine v_bp (v := Int32.ofInt 42) mt_190 rfl rfl ?_
          obtain ⟨z29, h⟩ := h
          refine j_if2 mt_190 rfl rfl z29 ⟨by decide, by decide⟩ (fun c => ?_) (fun c => ?_)
          · replace h := h.1 c
            refine v_s mt_190 rfl rfl rfl ?_
            obtain ⟨c30, J29, z30, h⟩ := h
            refine v_call (d1 := 0) mt_190 rfl rfl mt_167 rfl rfl (m_callj (As := []) (rest := []) rfl rfl c_542 rfl (Nat.le_of_ble_eq_true rfl) (Nat.le_of_ble_eq_true rfl)) z30 (by clear h; omega) ?_
            refine v_bp (v := Int32.ofInt 47) mt_190 rfl rfl ?_
            obtain ⟨z31, h⟩ := h
            refine j_if2 mt_190 rfl rfl z31 ⟨by decide, by decide⟩ (fun c => ?_) (fun c => ?_)
            · replace h := h.1 c
              refine v_bp (v := Int32.ofInt 8) mt_190 rfl rfl ?_
              refine v_isn (L' := [some (.ref 542), some (iv 8)]) mt_190 rfl (Nat.le_of_ble_eq_true rfl) rfl ?_
              refine v_s mt_190 rfl rfl rfl ?_
              refine v_s mt_190 rfl rfl rfl ?_
              refine j_gi (w := J29 542 4) 4 mt_190 rfl rfl c_542 (by decide) rfl ?_
              refine v_ic (v := Int32.ofInt 1) mt_190 rfl rfl ?_
              refine j_add (e := (J29 542 4) + 1) mt_190 rfl rfl ?_
              refine j_pi 4 mt_190 rfl rfl c_542 (by decide) ?_
              refine v_s mt_190 rfl rfl rfl ?_
              obtain ⟨J31, z32, h⟩ := h
              refine v_call (d1 := (d - 1)) mt_190 rfl rfl mt_193 rfl rfl (m_callj (As := []) (rest := []) rfl rfl c_542 rfl (Nat.le_of_ble_eq_true rfl) (Nat.le_of_ble_eq_true rfl)) z32 (by clear h; omega) ?_
              refine v_s mt_190 rfl rfl rfl ?_
              refine v_s mt_190 rfl rfl rfl ?_
              refine v_ic (v := Int32.ofInt 0) mt_190 rfl rfl ?_
              obtain ⟨J32, z33, h⟩ := h
              refine v_call (d1 := 1) mt_190 rfl rfl mt_187 rfl rfl (m_callj (As := [iv 8, iv 0]) (rest := []) rfl rfl c_542 rfl (Nat.le_of_ble_eq_true rfl) (Nat.le_of_ble_eq_true rfl)) z33 (by clear h; omega) ?_
              refine v_go mt_190 rfl rfl ?_
              exact h
            · replace h := h.2 (Decidable.not_not.mp c)
              refine v_ic (v := Int32.ofInt 5) mt_190 rfl rfl ?_
              refine v_go mt_190 rfl rfl ?_
              refine v_isn (L' := [some (.ref 542), some (iv 5)]) mt_190 rfl (Nat.le_of_ble_eq_true rfl) rfl ?_
              refine v_s mt_190 rfl rfl rfl ?_
              refine v_s mt_190 rfl rfl rfl ?_
              refine j_gi (w := J29 542 4) 4 mt_190 rfl rfl c_542 (by decide) rfl ?_
              refine v_ic (v := Int32.ofInt 1) mt_190 rfl rfl ?_
              refine j_add (e := (J29 542 4) + 1) mt_190 rfl rfl ?_
              refine j_pi 4 mt_190 rfl rfl c_542 (by decide) ?_
              refine v_s mt_190 rfl rfl rfl ?_
              obtain ⟨J33, z34, h⟩ := h
              refine v_call (d1 := (d - 1)) mt_190 rfl rfl mt_193 rfl rfl (m_callj (As := []) (rest := []) rfl rfl c_542 rfl (Nat.le_of_ble_eq_true rfl) (Nat.le_of_ble_eq_true rfl)) z34 (by clear h; omega) ?_
              refine v_s mt_190 rfl rfl rfl ?_
              refine v_s mt_190 rfl rfl rfl ?_
              refine v_ic (v := Int32.ofInt 0) mt_190 rfl rfl ?_
              obtain ⟨J34, z35, h⟩ := h
              refine v_call (d1 := 1) mt_190 rfl rfl mt_187 rfl rfl (m_callj (As := [iv 5, iv 0]) (rest := []) rfl rfl c_542 rfl (Nat.le_of_ble_eq_true rfl) (Nat.le_of_ble_eq_true rfl)) z35 (by clear h; omega) ?_
              refine v_go mt_190 rfl rfl ?_
              exact h
          · replace h := h.2 (Decidable.not_not.mp c)
            refine v_ic (v := Int32.ofInt 4) mt_190 rfl rfl ?_
            refine v_go mt_190 rfl rfl ?_
            refine v_isn (L' := [some (.ref 542), some (iv 4)]) mt_190 rfl (Nat.le_of_ble_eq_true rfl) rfl ?_
            refine v_s mt_190 rfl rfl rfl ?_
            refine v_s mt_190 rfl rfl rfl ?_
            refine j_gi (w := J27 542 4) 4 mt_190 rfl rfl c_542 (by decide) rfl ?_
            refine v_ic (v := Int32.ofInt 1) mt_190 rfl rfl ?_
            refine j_add (e := (J27 542 4) + 1) mt_190 rfl rfl ?_
            refine j_pi 4 mt_190 rfl rfl c_542 (by decide) ?_
            refine v_s mt_190 rfl rfl rfl ?_
            obtain ⟨J35, z36, h⟩ := h
            refine v_call (d1 := (d - 1)) mt_190 rfl rfl mt_193 rfl rfl (m_callj (As := []) (rest := []) rfl rfl c_542 rfl (Nat.le_of_ble_eq_true rfl) (Nat.le_of_ble_eq_true rfl)) z36 (by clear h; omega) ?_
            refine v_s mt_190 rfl rfl rfl ?_
            refine v_s mt_190 rfl rfl rfl ?_
            refine v_ic (v := Int32.ofInt 0) mt_190 rfl rfl ?_
            obtain ⟨J36, z37, h⟩ := h
            refine v_call (d1 := 1) mt_190 rfl rfl mt_187 rfl rfl (m_callj (As := [iv 4, iv 0]) (rest := []) rfl rfl c_542 rfl (Nat.le_of_ble_eq_true rfl) (Nat.le_of_ble_eq_true rfl)) z37 (by clear h; omega) ?_
            refine v_go mt_190 rfl rfl ?_
            exact h
set_option maxHeartbeats 600000 in
theorem b_191_0 {X : Nat × (Nat → Int32)} {d : Nat} {J : Nat → Nat → Int} {sw : Bool × Bool × Bool} {lg : Nat → Nat → Int64} {x : Nat} {K : (Option Value ⊕ Nat) → mM → Prop} {x1 x2 : Int} (hd : 2 ≤ d)
    (h : ∃ (J1 : Nat → Nat → Int), EE X 1 188 [.ref 542, iv x1] (mj J sw lg x) (.inl none) (mj J1 sw lg x) ∧ ∃ (J2 : Nat → Nat → Int), EE X 1 174 [.ref 542, iv 91] (mj J1 sw lg x) (.inl none) (mj J2 sw lg x) ∧ ∃ (J3 : Nat → Nat → Int), EE X (d - 1) 189 [.ref 542] (mj J2 sw lg x) (.inl none) (mj J3 sw lg x) ∧ ∃ (J4 : Nat → Nat → Int), EE X 1 174 [.ref 542, iv 44] (mj J3 sw lg x) (.inl none) (mj J4 sw lg x) ∧ ∃ (J5 : Nat → Nat → Int), EE X (d - 1) 189 [.ref 542] (mj J4 sw lg x) (.inl none) (mj J5 sw lg x) ∧ ∃ (J6 : Nat → Nat → Int), EE X 1 174 [.ref 542, iv 93] (mj J5 sw lg x) (.inl none) (mj J6 sw lg x) ∧ ∃ (J7 : Nat → Nat → Int), EE X 1 187 [.ref 542, iv x2, iv 0] (mj (m_up J6 542 7 ((J6 542 7) - 1)) sw lg x) (.inl none) (mj J7 sw lg x) ∧ K (.inl none) (mj J7 sw lg x)) : VV X d 191 (0, [some (.ref 542), some (iv x1), some (iv x2)], [], mj J sw lg x) K := by
  refine v_s mt_191 rfl rfl rfl ?_
  refine v_s mt_191 rfl rfl rfl ?_
  obtain ⟨J1, z1, h⟩ := h
  refine v_call (d1 := 1) mt_191 rfl rfl mt_188 rfl rfl (m_callj (As := [iv x1]) (rest := []) rfl rfl c_542 rfl (Nat.le_of_ble_eq_true rfl) (Nat.le_of_ble_eq_true rfl)) z1 (by clear h; omega) ?_
  refine v_s mt_191 rfl rfl rfl ?_
  refine v_bp (v := Int32.ofInt 91) mt_191 rfl rfl ?_
  obtain ⟨J2, z2, h⟩ := h
  refine v_call (d1 := 1) mt_191 rfl rfl mt_174 rfl rfl (m_callj (As := [iv 91]) (rest := []) rfl rfl c_542 rfl (Nat.le_of_ble_eq_true rfl) (Nat.le_of_ble_eq_true rfl)) z2 (by clear h; omega) ?_
  refine v_s mt_191 rfl rfl rfl ?_
  obtain ⟨J3, z3, h⟩ := h
  refine v_call (d1 := (d - 1)) mt_191 rfl rfl mt_189 rfl rfl (m_callj (As := []) (rest := []) rfl rfl c_542 rfl (Nat.le_of_ble_eq_true rfl) (Nat.le_of_ble_eq_true rfl)) z3 (by clear h; omega) ?_
  refine v_s mt_191 rfl rfl rfl ?_
  refine v_bp (v := Int32.ofInt 44) mt_191 rfl rfl ?_
  obtain ⟨J4, z4, h⟩ := h
  refine v_call (d1 := 1) mt_191 rfl rfl mt_174 rfl rfl (m_callj (As := [iv 44]) (rest := []) rfl rfl c_542 rfl (Nat.le_of_ble_eq_true rfl) (Nat.le_of_ble_eq_true rfl)) z4 (by clear h; omega) ?_
  refine v_s mt_191 rfl rfl rfl ?_
  obtain ⟨J5, z5, h⟩ := h
  refine v_call (d1 := (d - 1)) mt_191 rfl rfl mt_189 rfl rfl (m_callj (As := []) (rest := []) rfl rfl c_542 rfl (Nat.le_of_ble_eq_true rfl) (Nat.le_of_ble_eq_true rfl)) z5 (by clear h; omega) ?_
  refine v_s mt_191 rfl rfl rfl ?_
  refine v_bp (v := Int32.ofInt 93) mt_191 rfl rfl ?_
  obtain ⟨J6, z6, h⟩ := h
  refine v_call (d1 := 1) mt_191 rfl rfl mt_174 rfl rfl (m_callj (As := [iv 93]) (rest := []) rfl rfl c_542 rfl (Nat.le_of_ble_eq_true rfl) (Nat.le_of_ble_eq_true rfl)) z6 (by clear h; omega) ?_
  refine v_s mt_191 rfl rfl rfl ?_
  refine v_s mt_191 rfl rfl rfl ?_
  refine j_gi (w := J6 542 7) 7 mt_191 rfl rfl c_542 (by decide) rfl ?_
  refine v_ic (v := Int32.ofInt 1) mt_191 rfl rfl ?_
  refine j_sub (e := (J6 542 7) - 1) mt_191 rfl rfl ?_
  refine j_pi 7 mt_191 rfl rfl c_542 (by decide) ?_
  refine v_s mt_191 rfl rfl rfl ?_
  refine v_s mt_191 rfl rfl rfl ?_
  refine v_ic (v := Int32.ofInt 0) mt_191 rfl rfl ?_
  obtain ⟨J7, z7, h⟩ := h
  refine v_call (d1 := 1) mt_191 rfl rfl mt_187 rfl rfl (m_callj (As := [iv x2, iv 0]) (rest := []) rfl rfl c_542 rfl (Nat.le_of_ble_eq_true rfl) (Nat.le_of_ble_eq_true rfl)) z7 (by clear h; omega) ?_
  exact v_ret mt_191 rfl rfl rfl h
set_option maxHeartbeats 600000 in
theorem b_192_0 {X : Nat × (Nat → Int32)} {d : Nat} {J : Nat → Nat → Int} {sw : Bool × Bool × Bool} {lg : Nat → Nat → Int64} {x : Nat} {K : (Option Value ⊕ Nat) → mM → Prop} {o1 : Option Value} (hd : 2 ≤ d)
    (h : ∃ (c2 : Int) (J1 : Nat → Nat → Int), EE X 1 170 [.ref 542] (mj J sw lg x) (.inl (some (iv c2))) (mj J1 sw lg x) ∧ ∃ (c4 : Int) (J3 : Nat → Nat → Int), EE X 0 171 [.ref (m_scr + 1 + 31)] (mj J1 sw lg x) (.inl (some (iv c4))) (mj J3 sw lg x) ∧ InR c2 ∧ InR c4 ∧ (¬ c2 = c4 → (∃ (c6 : Int) (J5 : Nat → Nat → Int), EE X 0 171 [.ref (m_scr + 1 + 32)] (mj J3 sw lg x) (.inl (some (iv c6))) (mj J5 sw lg x) ∧ InR c6 ∧ (¬ c2 = c6 → (∃ (c8 : Int) (J7 : Nat → Nat → Int), EE X 0 171 [.ref (m_scr + 1 + 33)] (mj J5 sw lg x) (.inl (some (iv c8))) (mj J7 sw lg x) ∧ InR c8 ∧ (¬ c2 = c8 → (∃ (c10 : Int) (J9 : Nat → Nat → Int), EE X 0 171 [.ref (m_scr + 1 + 34)] (mj J7 sw lg x) (.inl (some (iv c10))) (mj J9 sw lg x) ∧ InR c10 ∧ (¬ c2 = c10 → (∃ (c12 : Int) (J11 : Nat → Nat → Int), EE X 0 171 [.ref (m_scr + 1 + 27)] (mj J9 sw lg x) (.inl (some (iv c12))) (mj J11 sw lg x) ∧ InR c12 ∧ (¬ c2 = c12 → (∃ (c14 : Int) (J13 : Nat → Nat → Int), EE X 0 171 [.ref (m_scr + 1 + 35)] (mj J11 sw lg x) (.inl (some (iv c14))) (mj J13 sw lg x) ∧ InR c14 ∧ (¬ c2 = c14 → (∃ (c16 : Int) (J15 : Nat → Nat → Int), EE X 0 171 [.ref (m_scr + 1 + 36)] (mj J13 sw lg x) (.inl (some (iv c16))) (mj J15 sw lg x) ∧ InR c16 ∧ (¬ c2 = c16 → (∃ (c18 : Int) (J17 : Nat → Nat → Int), EE X 0 171 [.ref (m_scr + 1 + 24)] (mj J15 sw lg x) (.inl (some (iv c18))) (mj J17 sw lg x) ∧ InR c18 ∧ (¬ c2 = c18 → K (.inl (some (iv (-1)))) (mj J17 sw lg x)) ∧ (c2 = c18 → K (.inl (some (iv 7))) (mj J17 sw lg x)))) ∧ (c2 = c16 → K (.inl (some (iv 6))) (mj J15 sw lg x)))) ∧ (c2 = c14 → K (.inl (some (iv 5))) (mj J13 sw lg x)))) ∧ (c2 = c12 → K (.inl (some (iv 4))) (mj J11 sw lg x)))) ∧ (c2 = c10 → K (.inl (some (iv 3))) (mj J9 sw lg x)))) ∧ (c2 = c8 → K (.inl (some (iv 2))) (mj J7 sw lg x)))) ∧ (c2 = c6 → K (.inl (some (iv 1))) (mj J5 sw lg x)))) ∧ (c2 = c4 → K (.inl (some (iv 0))) (mj J3 sw lg x))) : VV X d 192 (0, [some (.ref 542), o1], [], mj J sw lg x) K := by
  refine v_s mt_192 rfl rfl rfl ?_
  obtain ⟨c2, J1, z1, h⟩ := h
  refine v_call (d1 := 1) mt_192 rfl rfl mt_170 rfl rfl (m_callj (As := []) (rest := []) rfl rfl c_542 rfl (Nat.le_of_ble_eq_true rfl) (Nat.le_of_ble_eq_true rfl)) z1 (by clear h; omega) ?_
  refine v_isn (L' := [some (.ref 542), some (iv c2)]) mt_192 rfl (Nat.le_of_ble_eq_true rfl) rfl ?_
  refine v_s mt_192 rfl rfl rfl ?_
  refine v_s mt_192 rfl rfl rfl ?_
  obtain ⟨c4, J3, z2, h⟩ := h
  refine v_call (d1 := 0) mt_192 rfl rfl mt_171 rfl rfl rfl z2 (by clear h; omega) ?_
  obtain ⟨z3, h⟩ := h
  obtain ⟨z4, h⟩ := h
  refine j_if2 mt_192 rfl rfl z3 z4 (fun c => ?_) (fun c => ?_)
  · replace h := h.1 c
    refine v_s mt_192 rfl rfl rfl ?_
    refine v_s mt_192 rfl rfl rfl ?_
    obtain ⟨c6, J5, z5, h⟩ := h
    refine v_call (d1 := 0) mt_192 rfl rfl mt_171 rfl rfl rfl z5 (by clear h; omega) ?_
    obtain ⟨z6, h⟩ := h
    refine j_if2 mt_192 rfl rfl z3 z6 (fun c => ?_) (fun c => ?_)
    · replace h := h.1 c
      refine v_s mt_192 rfl rfl rfl ?_
      refine v_s mt_192 rfl rfl rfl ?_
      obtain ⟨c8, J7, z7, h⟩ := h
      refine v_call (d1 := 0) mt_192 rfl rfl mt_171 rfl rfl rfl z7 (by clear h; omega) ?_
      obtain ⟨z8, h⟩ := h
      refine j_if2 mt_192 rfl rfl z3 z8 (fun c => ?_) (fun c => ?_)
      · replace h := h.1 c
        refine v_s mt_192 rfl rfl rfl ?_
        refine v_s mt_192 rfl rfl rfl ?_
        obtain ⟨c10, J9, z9, h⟩ := h
        refine v_call (d1 := 0) mt_192 rfl rfl mt_171 rfl rfl rfl z9 (by clear h; omega) ?_
        obtain ⟨z10, h⟩ := h
        refine j_if2 mt_192 rfl rfl z3 z10 (fun c => ?_) (fun c => ?_)
        · replace h := h.1 c
          refine v_s mt_192 rfl rfl rfl ?_
          refine v_s mt_192 rfl rfl rfl ?_
          obtain ⟨c12, J11, z11, h⟩ := h
          refine v_call (d1 := 0) mt_192 rfl rfl mt_171 rfl rfl rfl z11 (by clear h; omega) ?_
          obtain ⟨z12, h⟩ := h
          refine j_if2 mt_192 rfl rfl z3 z12 (fun c => ?_) (fun c => ?_)
          · replace h := h.1 c
            refine v_s mt_192 rfl rfl rfl ?_
            refine v_s mt_192 rfl rfl rfl ?_
            obtain ⟨c14, J13, z13, h⟩ := h
            refine v_call (d1 := 0) mt_192 rfl rfl mt_171 rfl rfl rfl z13 (by clear h; omega) ?_
            obtain ⟨z14, h⟩ := h
            refine j_if2 mt_192 rfl rfl z3 z14 (fun c => ?_) (fun c => ?_)
            · replace h := h.1 c
              refine v_s mt_192 rfl rfl rfl ?_
              refine v_s mt_192 rfl rfl rfl ?_
              obtain ⟨c16, J15, z15, h⟩ := h
              refine v_call (d1 := 0) mt_192 rfl rfl mt_171 rfl rfl rfl z15 (by clear h; omega) ?_
              obtain ⟨z16, h⟩ := h
              refine j_if2 mt_192 rfl rfl z3 z16 (fun c => ?_) (fun c => ?_)
              · replace h := h.1 c
                refine v_s mt_192 rfl rfl rfl ?_
                refine v_s mt_192 rfl rfl rfl ?_
                obtain ⟨c18, J17, z17, h⟩ := h
                refine v_call (d1 := 0) mt_192 rfl rfl mt_171 rfl rfl rfl z17 (by clear h; omega) ?_
                obtain ⟨z18, h⟩ := h
                refine j_if2 mt_192 rfl rfl z3 z18 (fun c => ?_) (fun c => ?_)
                · replace h := h.1 c
                  refine v_ic (v := Int32.ofInt (-1)) mt_192 rfl rfl ?_
                  exact v_ret mt_192 rfl rfl rfl h
                · replace h := h.2 (Decidable.not_not.mp c)
                  refine v_bp (v := Int32.ofInt 7) mt_192 rfl rfl ?_
                  refine v_go mt_192 rfl rfl ?_
                  exact v_ret mt_192 rfl rfl rfl h
              · replace h := h.2 (Decidable.not_not.mp c)
                refine v_bp (v := Int32.ofInt 6) mt_192 rfl rfl ?_
                refine v_go mt_192 rfl rfl ?_
                exact v_ret mt_192 rfl rfl rfl h
            · replace h := h.2 (Decidable.not_not.mp c)
              refine v_ic (v := Int32.ofInt 5) mt_192 rfl rfl ?_
              refine v_go mt_192 rfl rfl ?_
              exact v_ret mt_192 rfl rfl rfl h
          · replace h := h.2 (Decidable.not_not.mp c)
            refine v_ic (v := Int32.ofInt 4) mt_192 rfl rfl ?_
            refine v_go mt_192 rfl rfl ?_
            exact v_ret mt_192 rfl rfl rfl h
        · replace h := h.2 (Decidable.not_not.mp c)
          refine v_ic (v := Int32.ofInt 3) mt_192 rfl rfl ?_
          refine v_go mt_192 rfl rfl ?_
          exact v_ret mt_192 rfl rfl rfl h
      · replace h := h.2 (Decidable.not_not.mp c)
        refine v_ic (v := Int32.ofInt 2) mt_192 rfl rfl ?_
        refine v_go mt_192 rfl rfl ?_
        exact v_ret mt_192 rfl rfl rfl h
    · replace h := h.2 (Decidable.not_not.mp c)
      refine v_ic (v := Int32.ofInt 1) mt_192 rfl rfl ?_
      refine v_go mt_192 rfl rfl ?_
      exact v_ret mt_192 rfl rfl rfl h
  · replace h := h.2 (Decidable.not_not.mp c)
    refine v_ic (v := Int32.ofInt 0) mt_192 rfl rfl ?_
    refine v_go mt_192 rfl rfl ?_
    exact v_ret mt_192 rfl rfl rfl h
set_option maxHeartbeats 600000 in
theorem b_193_0 {X : Nat × (Nat → Int32)} {d : Nat} {J : Nat → Nat → Int} {sw : Bool × Bool × Bool} {lg : Nat → Nat → Int64} {x : Nat} {K : (Option Value ⊕ Nat) → mM → Prop} {o1 : Option Value} (hd : 3 ≤ d)
    (h : InR (J 542 5) ∧ (¬ J 542 5 = (-1) → K (.inl none) (mj J sw lg x)) ∧ (J 542 5 = (-1) → (∃ (c2 : Int) (J1 : Nat → Nat → Int), EE X 0 167 [.ref 542] (mj J sw lg x) (.inl (some (iv c2))) (mj J1 sw lg x) ∧ InR c2 ∧ (¬ c2 = 40 → (∃ (c4 : Int) (J3 : Nat → Nat → Int), EE X 0 167 [.ref 542] (mj J1 sw lg x) (.inl (some (iv c4))) (mj J3 sw lg x) ∧ InR c4 ∧ (c4 < 48 → (∃ (c6 : Int) (J5 : Nat → Nat → Int), EE X 1 170 [.ref 542] (mj J3 sw lg x) (.inl (some (iv c6))) (mj J5 sw lg x) ∧ ∃ (c8 : Int) (J7 : Nat → Nat → Int), EE X 0 171 [.ref (m_scr + 1 + 29)] (mj J5 sw lg x) (.inl (some (iv c8))) (mj J7 sw lg x) ∧ InR c6 ∧ InR c8 ∧ (¬ c6 = c8 → (∃ (c10 : Int) (J9 : Nat → Nat → Int), EE X 1 170 [.ref 542] (mj J7 sw lg x) (.inl (some (iv c10))) (mj J9 sw lg x) ∧ ∃ (c12 : Int) (J11 : Nat → Nat → Int), EE X 0 171 [.ref (m_scr + 1 + 30)] (mj J9 sw lg x) (.inl (some (iv c12))) (mj J11 sw lg x) ∧ InR c10 ∧ InR c12 ∧ (¬ c10 = c12 → (∃ (c14 : Int) (J13 : Nat → Nat → Int), EE X 2 192 [.ref 542] (mj J11 sw lg x) (.inl (some (iv c14))) (mj J13 sw lg x) ∧ InR c14 ∧ (¬ c14 = (-1) → (InR (J13 542 5) ∧ (¬ J13 542 5 = (-1) → K (.inl none) (mj J13 sw lg x)) ∧ (J13 542 5 = (-1) → (∃ (J15 : Nat → Nat → Int), EE X 1 172 [.ref 542] (mj J13 sw lg x) (.inl none) (mj J15 sw lg x) ∧ ∃ (J16 : Nat → Nat → Int), EE X 1 187 [.ref 542, iv 1, iv c14] (mj J15 sw lg x) (.inl none) (mj J16 sw lg x) ∧ K (.inl none) (mj J16 sw lg x))))) ∧ (c14 = (-1) → (∃ (J17 : Nat → Nat → Int), EE X 0 166 [.ref 542, iv 1, iv (J13 542 4)] (mj J13 sw lg x) (.inl none) (mj J17 sw lg x) ∧ InR (J17 542 5) ∧ (¬ J17 542 5 = (-1) → K (.inl none) (mj J17 sw lg x)) ∧ (J17 542 5 = (-1) → (∃ (J18 : Nat → Nat → Int), EE X 1 172 [.ref 542] (mj J17 sw lg x) (.inl none) (mj J18 sw lg x) ∧ ∃ (J19 : Nat → Nat → Int), EE X 1 187 [.ref 542, iv 1, iv c14] (mj J18 sw lg x) (.inl none) (mj J19 sw lg x) ∧ K (.inl none) (mj J19 sw lg x))))))) ∧ (c10 = c12 → (∃ (J20 : Nat → Nat → Int), EE X (d - 1) 191 [.ref 542, iv 4, iv 7] (mj J11 sw lg x) (.inl none) (mj J20 sw lg x) ∧ K (.inl none) (mj J20 sw lg x))))) ∧ (c6 = c8 → (∃ (J21 : Nat → Nat → Int), EE X (d - 1) 191 [.ref 542, iv 5, iv 6] (mj J7 sw lg x) (.inl none) (mj J21 sw lg x) ∧ K (.inl none) (mj J21 sw lg x))))) ∧ (48 ≤ c4 → ((57 < c4 → (∃ (c23 : Int) (J22 : Nat → Nat → Int), EE X 1 170 [.ref 542] (mj J3 sw lg x) (.inl (some (iv c23))) (mj J22 sw lg x) ∧ ∃ (c25 : Int) (J24 : Nat → Nat → Int), EE X 0 171 [.ref (m_scr + 1 + 29)] (mj J22 sw lg x) (.inl (some (iv c25))) (mj J24 sw lg x) ∧ InR c23 ∧ InR c25 ∧ (¬ c23 = c25 → (∃ (c27 : Int) (J26 : Nat → Nat → Int), EE X 1 170 [.ref 542] (mj J24 sw lg x) (.inl (some (iv c27))) (mj J26 sw lg x) ∧ ∃ (c29 : Int) (J28 : Nat → Nat → Int), EE X 0 171 [.ref (m_scr + 1 + 30)] (mj J26 sw lg x) (.inl (some (iv c29))) (mj J28 sw lg x) ∧ InR c27 ∧ InR c29 ∧ (¬ c27 = c29 → (∃ (c31 : Int) (J30 : Nat → Nat → Int), EE X 2 192 [.ref 542] (mj J28 sw lg x) (.inl (some (iv c31))) (mj J30 sw lg x) ∧ InR c31 ∧ (¬ c31 = (-1) → (InR (J30 542 5) ∧ (¬ J30 542 5 = (-1) → K (.inl none) (mj J30 sw lg x)) ∧ (J30 542 5 = (-1) → (∃ (J32 : Nat → Nat → Int), EE X 1 172 [.ref 542] (mj J30 sw lg x) (.inl none) (mj J32 sw lg x) ∧ ∃ (J33 : Nat → Nat → Int), EE X 1 187 [.ref 542, iv 1, iv c31] (mj J32 sw lg x) (.inl none) (mj J33 sw lg x) ∧ K (.inl none) (mj J33 sw lg x))))) ∧ (c31 = (-1) → (∃ (J34 : Nat → Nat → Int), EE X 0 166 [.ref 542, iv 1, iv (J30 542 4)] (mj J30 sw lg x) (.inl none) (mj J34 sw lg x) ∧ InR (J34 542 5) ∧ (¬ J34 542 5 = (-1) → K (.inl none) (mj J34 sw lg x)) ∧ (J34 542 5 = (-1) → (∃ (J35 : Nat → Nat → Int), EE X 1 172 [.ref 542] (mj J34 sw lg x) (.inl none) (mj J35 sw lg x) ∧ ∃ (J36 : Nat → Nat → Int), EE X 1 187 [.ref 542, iv 1, iv c31] (mj J35 sw lg x) (.inl none) (mj J36 sw lg x) ∧ K (.inl none) (mj J36 sw lg x))))))) ∧ (c27 = c29 → (∃ (J37 : Nat → Nat → Int), EE X (d - 1) 191 [.ref 542, iv 4, iv 7] (mj J28 sw lg x) (.inl none) (mj J37 sw lg x) ∧ K (.inl none) (mj J37 sw lg x))))) ∧ (c23 = c25 → (∃ (J38 : Nat → Nat → Int), EE X (d - 1) 191 [.ref 542, iv 5, iv 6] (mj J24 sw lg x) (.inl none) (mj J38 sw lg x) ∧ K (.inl none) (mj J38 sw lg x))))) ∧ (c4 ≤ 57 → (∃ (c40 : Int) (J39 : Nat → Nat → Int), EE X 1 173 [.ref 542, iv 0, iv 999] (mj J3 sw lg x) (.inl (some (iv c40))) (mj J39 sw lg x) ∧ ∃ (J41 : Nat → Nat → Int), EE X 1 187 [.ref 542, iv 0, iv c40] (mj J39 sw lg x) (.inl none) (mj J41 sw lg x) ∧ K (.inl none) (mj J41 sw lg x))))))) ∧ (c2 = 40 → (∃ (J42 : Nat → Nat → Int), EE X 1 188 [.ref 542, iv 1] (mj J1 sw lg x) (.inl none) (mj J42 sw lg x) ∧ ∃ (J43 : Nat → Nat → Int), EE X (d - 1) 189 [.ref 542] (mj J42 sw lg x) (.inl none) (mj J43 sw lg x) ∧ ∃ (J44 : Nat → Nat → Int), EE X 1 174 [.ref 542, iv 41] (mj J43 sw lg x) (.inl none) (mj J44 sw lg x) ∧ K (.inl none) (mj (m_up J44 542 7 ((J44 542 7) - 1)) sw lg x)))))) : VV X d 193 (0, [some (.ref 542), o1], [], mj J sw lg x) K := by
  refine v_s mt_193 rfl rfl rfl ?_
  refine v_inl (L1 := [some (.ref 542)]) mt_193 rfl rfl mt_165 rfl rfl (m_callj (As := []) (rest := []) rfl rfl c_542 rfl (Nat.le_of_ble_eq_true rfl) (Nat.le_of_ble_eq_true rfl)) rfl (by clear h; omega) ?_
  refine v_s mt_165 rfl rfl rfl ?_
  refine j_gi (w := J 542 5) 5 mt_165 rfl rfl c_542 (by decide) rfl ?_
  refine v_ic (v := Int32.ofInt (-1)) mt_165 rfl rfl ?_
  obtain ⟨z1, h⟩ := h
  refine j_if2 mt_165 rfl rfl z1 ⟨by decide, by decide⟩ (fun c => ?_) (fun c => ?_)
  · replace h := h.1 c
    refine v_ic (v := Int32.ofInt 0) mt_165 rfl rfl ?_
    refine j_retb mt_165 rfl rfl (by decide) ?_
    refine j_if1 mt_193 rfl rfl ⟨by decide, by decide⟩ (fun c => absurd (show ¬ (0 : Int) = 0 from c) (by decide)) (fun _ => ?_)
    exact v_ret mt_193 rfl rfl rfl h
  · replace h := h.2 (Decidable.not_not.mp c)
    refine v_ic (v := Int32.ofInt 1) mt_165 rfl rfl ?_
    refine v_go mt_165 rfl rfl ?_
    refine j_retb mt_165 rfl rfl (by decide) ?_
    refine j_if1 mt_193 rfl rfl ⟨by decide, by decide⟩ (fun _ => ?_) (fun c => (c (show ¬ (1 : Int) = 0 by decide)).elim)
    refine v_s mt_193 rfl rfl rfl ?_
    obtain ⟨c2, J1, z2, h⟩ := h
    refine v_call (d1 := 0) mt_193 rfl rfl mt_167 rfl rfl (m_callj (As := []) (rest := []) rfl rfl c_542 rfl (Nat.le_of_ble_eq_true rfl) (Nat.le_of_ble_eq_true rfl)) z2 (by clear h; omega) ?_
    refine v_bp (v := Int32.ofInt 40) mt_193 rfl rfl ?_
    obtain ⟨z3, h⟩ := h
    refine j_if2 mt_193 rfl rfl z3 ⟨by decide, by decide⟩ (fun c => ?_) (fun c => ?_)
    · replace h := h.1 c
      refine v_s mt_193 rfl rfl rfl ?_
      obtain ⟨c4, J3, z4, h⟩ := h
      refine v_call (d1 := 0) mt_193 rfl rfl mt_167 rfl rfl (m_callj (As := []) (rest := []) rfl rfl c_542 rfl (Nat.le_of_ble_eq_true rfl) (Nat.le_of_ble_eq_true rfl)) z4 (by clear h; omega) ?_
      refine v_inl (L1 := [some (iv c4)]) mt_193 rfl rfl mt_169 rfl rfl rfl rfl (by clear h; omega) ?_
      refine v_s mt_169 rfl rfl rfl ?_
      refine v_bp (v := Int32.ofInt 48) mt_169 rfl rfl ?_
      obtain ⟨z5, h⟩ := h
      refine j_if2 mt_169 rfl rfl z5 ⟨by decide, by decide⟩ (fun c => ?_) (fun c => ?_)
      · replace h := h.1 c
        refine v_ic (v := Int32.ofInt 0) mt_169 rfl rfl ?_
        refine j_retb mt_169 rfl rfl (by decide) ?_
        refine j_if1 mt_193 rfl rfl ⟨by decide, by decide⟩ (fun _ => ?_) (fun c => (c (show (0 : Int) = 0 by decide)).elim)
        refine v_s mt_193 rfl rfl rfl ?_
        obtain ⟨c6, J5, z6, h⟩ := h
        refine v_call (d1 := 1) mt_193 rfl rfl mt_170 rfl rfl (m_callj (As := []) (rest := []) rfl rfl c_542 rfl (Nat.le_of_ble_eq_true rfl) (Nat.le_of_ble_eq_true rfl)) z6 (by clear h; omega) ?_
        refine v_s mt_193 rfl rfl rfl ?_
        obtain ⟨c8, J7, z7, h⟩ := h
        refine v_call (d1 := 0) mt_193 rfl rfl mt_171 rfl rfl rfl z7 (by clear h; omega) ?_
        obtain ⟨z8, h⟩ := h
        obtain ⟨z9, h⟩ := h
        refine j_if2 mt_193 rfl rfl z8 z9 (fun c => ?_) (fun c => ?_)
        · replace h := h.1 c
          refine v_s mt_193 rfl rfl rfl ?_
          obtain ⟨c10, J9, z10, h⟩ := h
          refine v_call (d1 := 1) mt_193 rfl rfl mt_170 rfl rfl (m_callj (As := []) (rest := []) rfl rfl c_542 rfl (Nat.le_of_ble_eq_true rfl) (Nat.le_of_ble_eq_true rfl)) z10 (by clear h; omega) ?_
          refine v_s mt_193 rfl rfl rfl ?_
          obtain ⟨c12, J11, z11, h⟩ := h
          refine v_call (d1 := 0) mt_193 rfl rfl mt_171 rfl rfl rfl z11 (by clear h; omega) ?_
          obtain ⟨z12, h⟩ := h
          obtain ⟨z13, h⟩ := h
          refine j_if2 mt_193 rfl rfl z12 z13 (fun c => ?_) (fun c => ?_)
          · replace h := h.1 c
            refine v_s mt_193 rfl rfl rfl ?_
            obtain ⟨c14, J13, z14, h⟩ := h
            refine v_call (d1 := 2) mt_193 rfl rfl mt_192 rfl rfl (m_callj (As := []) (rest := []) rfl rfl c_542 rfl (Nat.le_of_ble_eq_true rfl) (Nat.le_of_ble_eq_true rfl)) z14 (by clear h; omega) ?_
            refine v_isn (L' := [some (.ref 542), some (iv c14)]) mt_193 rfl (Nat.le_of_ble_eq_true rfl) rfl ?_
            refine v_s mt_193 rfl rfl rfl ?_
            refine v_ic (v := Int32.ofInt (-1)) mt_193 rfl rfl ?_
            obtain ⟨z15, h⟩ := h
            refine j_if2 mt_193 rfl rfl z15 ⟨by decide, by decide⟩ (fun c => ?_) (fun c => ?_)
            · replace h := h.1 c
              refine v_s mt_193 rfl rfl rfl ?_
              refine v_inl (L1 := [some (.ref 542)]) mt_193 rfl rfl mt_165 rfl rfl (m_callj (As := []) (rest := []) rfl rfl c_542 rfl (Nat.le_of_ble_eq_true rfl) (Nat.le_of_ble_eq_true rfl)) rfl (by clear h; omega) ?_
              refine v_s mt_165 rfl rfl rfl ?_
              refine j_gi (w := J13 542 5) 5 mt_165 rfl rfl c_542 (by decide) rfl ?_
              refine v_ic (v := Int32.ofInt (-1)) mt_165 rfl rfl ?_
              obtain ⟨z16, h⟩ := h
              refine j_if2 mt_165 rfl rfl z16 ⟨by decide, by decide⟩ (fun c => ?_) (fun c => ?_)
              · replace h := h.1 c
                refine v_ic (v := Int32.ofInt 0) mt_165 rfl rfl ?_
                refine j_retb mt_165 rfl rfl (by decide) ?_
                refine j_if1 mt_193 rfl rfl ⟨by decide, by decide⟩ (fun c => absurd (show ¬ (0 : Int) = 0 from c) (by decide)) (fun _ => ?_)
                exact v_ret mt_193 rfl rfl rfl h
              · replace h := h.2 (Decidable.not_not.mp c)
                refine v_ic (v := Int32.ofInt 1) mt_165 rfl rfl ?_
                refine v_go mt_165 rfl rfl ?_
                refine j_retb mt_165 rfl rfl (by decide) ?_
                refine j_if1 mt_193 rfl rfl ⟨by decide, by decide⟩ (fun _ => ?_) (fun c => (c (show ¬ (1 : Int) = 0 by decide)).elim)
                refine v_s mt_193 rfl rfl rfl ?_
                obtain ⟨J15, z17, h⟩ := h
                refine v_call (d1 := 1) mt_193 rfl rfl mt_172 rfl rfl (m_callj (As := []) (rest := []) rfl rfl c_542 rfl (Nat.le_of_ble_eq_true rfl) (Nat.le_of_ble_eq_true rfl)) z17 (by clear h; omega) ?_
                refine v_s mt_193 rfl rfl rfl ?_
                refine v_ic (v := Int32.ofInt 1) mt_193 rfl rfl ?_
                refine v_s mt_193 rfl rfl rfl ?_
                obtain ⟨J16, z18, h⟩ := h
                refine v_call (d1 := 1) mt_193 rfl rfl mt_187 rfl rfl (m_callj (As := [iv 1, iv c14]) (rest := []) rfl rfl c_542 rfl (Nat.le_of_ble_eq_true rfl) (Nat.le_of_ble_eq_true rfl)) z18 (by clear h; omega) ?_
                exact v_ret mt_193 rfl rfl rfl h
            · replace h := h.2 (Decidable.not_not.mp c)
              refine v_s mt_193 rfl rfl rfl ?_
              refine v_ic (v := Int32.ofInt 1) mt_193 rfl rfl ?_
              refine v_s mt_193 rfl rfl rfl ?_
              refine j_gi (w := J13 542 4) 4 mt_193 rfl rfl c_542 (by decide) rfl ?_
              obtain ⟨J17, z19, h⟩ := h
              refine v_call (d1 := 0) mt_193 rfl rfl mt_166 rfl rfl (m_callj (As := [iv 1, iv (J13 542 4)]) (rest := []) rfl rfl c_542 rfl (Nat.le_of_ble_eq_true rfl) (Nat.le_of_ble_eq_true rfl)) z19 (by clear h; omega) ?_
              refine v_s mt_193 rfl rfl rfl ?_
              refine v_inl (L1 := [some (.ref 542)]) mt_193 rfl rfl mt_165 rfl rfl (m_callj (As := []) (rest := []) rfl rfl c_542 rfl (Nat.le_of_ble_eq_true rfl) (Nat.le_of_ble_eq_true rfl)) rfl (by clear h; omega) ?_
              refine v_s mt_165 rfl rfl rfl ?_
              refine j_gi (w := J17 542 5) 5 mt_165 rfl rfl c_542 (by decide) rfl ?_
              refine v_ic (v := Int32.ofInt (-1)) mt_165 rfl rfl ?_
              obtain ⟨z20, h⟩ := h
              refine j_if2 mt_165 rfl rfl z20 ⟨by decide, by decide⟩ (fun c => ?_) (fun c => ?_)
              · replace h := h.1 c
                refine v_ic (v := Int32.ofInt 0) mt_165 rfl rfl ?_
                refine j_retb mt_165 rfl rfl (by decide) ?_
                refine j_if1 mt_193 rfl rfl ⟨by decide, by decide⟩ (fun c => absurd (show ¬ (0 : Int) = 0 from c) (by decide)) (fun _ => ?_)
                exact v_ret mt_193 rfl rfl rfl h
              · replace h := h.2 (Decidable.not_not.mp c)
                refine v_ic (v := Int32.ofInt 1) mt_165 rfl rfl ?_
                refine v_go mt_165 rfl rfl ?_
                refine j_retb mt_165 rfl rfl (by decide) ?_
                refine j_if1 mt_193 rfl rfl ⟨by decide, by decide⟩ (fun _ => ?_) (fun c => (c (show ¬ (1 : Int) = 0 by decide)).elim)
                refine v_s mt_193 rfl rfl rfl ?_
                obtain ⟨J18, z21, h⟩ := h
                refine v_call (d1 := 1) mt_193 rfl rfl mt_172 rfl rfl (m_callj (As := []) (rest := []) rfl rfl c_542 rfl (Nat.le_of_ble_eq_true rfl) (Nat.le_of_ble_eq_true rfl)) z21 (by clear h; omega) ?_
                refine v_s mt_193 rfl rfl rfl ?_
                refine v_ic (v := Int32.ofInt 1) mt_193 rfl rfl ?_
                refine v_s mt_193 rfl rfl rfl ?_
                obtain ⟨J19, z22, h⟩ := h
                refine v_call (d1 := 1) mt_193 rfl rfl mt_187 rfl rfl (m_callj (As := [iv 1, iv c14]) (rest := []) rfl rfl c_542 rfl (Nat.le_of_ble_eq_true rfl) (Nat.le_of_ble_eq_true rfl)) z22 (by clear h; omega) ?_
                exact v_ret mt_193 rfl rfl rfl h
          · replace h := h.2 (Decidable.not_not.mp c)
            refine v_s mt_193 rfl rfl rfl ?_
            refine v_ic (v := Int32.ofInt 4) mt_193 rfl rfl ?_
            refine v_bp (v := Int32.ofInt 7) mt_193 rfl rfl ?_
            obtain ⟨J20, z23, h⟩ := h
            refine v_call (d1 := (d - 1)) mt_193 rfl rfl mt_191 rfl rfl (m_callj (As := [iv 4, iv 7]) (rest := []) rfl rfl c_542 rfl (Nat.le_of_ble_eq_true rfl) (Nat.le_of_ble_eq_true rfl)) z23 (by clear h; omega) ?_
            refine v_go mt_193 rfl rfl ?_
            exact v_ret mt_193 rfl rfl rfl h
        · replace h := h.2 (Decidable.not_not.mp c)
          refine v_s mt_193 rfl rfl rfl ?_
          refine v_ic (v := Int32.ofInt 5) mt_193 rfl rfl ?_
          refine v_bp (v := Int32.ofInt 6) mt_193 rfl rfl ?_
          obtain ⟨J21, z24, h⟩ := h
          refine v_call (d1 := (d - 1)) mt_193 rfl rfl mt_191 rfl rfl (m_callj (As := [iv 5, iv 6]) (rest := []) rfl rfl c_542 rfl (Nat.le_of_ble_eq_true rfl) (Nat.le_of_ble_eq_true rfl)) z24 (by clear h; omega) ?_
          refine v_go mt_193 rfl rfl ?_
          exact v_ret mt_193 rfl rfl rfl h
      · replace h := h.2 (Int.not_lt.mp c)
        refine v_s mt_169 rfl rfl rfl ?_
        refine v_bp (v := Int32.ofInt 57) mt_169 rfl rfl ?_
        refine j_if2 mt_169 rfl rfl z5 ⟨by decide, by decide⟩ (fun c => ?_) (fun c => ?_)
        · replace h := h.1 c
          refine v_ic (v := Int32.ofInt 0) mt_169 rfl rfl ?_
          refine j_retb mt_169 rfl rfl (by decide) ?_
          refine j_if1 mt_193 rfl rfl ⟨by decide, by decide⟩ (fun _ => ?_) (fun c => (c (show (0 : Int) = 0 by decide)).elim)
          refine v_s mt_193 rfl rfl rfl ?_
          obtain ⟨c23, J22, z25, h⟩ := h
          refine v_call (d1 := 1) mt_193 rfl rfl mt_170 rfl rfl (m_callj (As := []) (rest := []) rfl rfl c_542 rfl (Nat.le_of_ble_eq_true rfl) (Nat.le_of_ble_eq_true rfl)) z25 (by clear h; omega) ?_
          refine v_s mt_193 rfl rfl rfl ?_
          obtain ⟨c25, J24, z26, h⟩ := h
          refine v_call (d1 := 0) mt_193 rfl rfl mt_171 rfl rfl rfl z26 (by clear h; omega) ?_
          obtain ⟨z27, h⟩ := h
          obtain ⟨z28, h⟩ := h
          refine j_if2 mt_193 rfl rfl z27 z28 (fun c => ?_) (fun c => ?_)
          · replace h := h.1 c
            refine v_s mt_193 rfl rfl rfl ?_
            obtain ⟨c27, J26, z29, h⟩ := h
            refine v_call (d1 := 1) mt_193 rfl rfl mt_170 rfl rfl (m_callj (As := []) (rest := []) rfl rfl c_542 rfl (Nat.le_of_ble_eq_true rfl) (Nat.le_of_ble_eq_true rfl)) z29 (by clear h; omega) ?_
            refine v_s mt_193 rfl rfl rfl ?_
            obtain ⟨c29, J28, z30, h⟩ := h
            refine v_call (d1 := 0) mt_193 rfl rfl mt_171 rfl rfl rfl z30 (by clear h; omega) ?_
            obtain ⟨z31, h⟩ := h
            obtain ⟨z32, h⟩ := h
            refine j_if2 mt_193 rfl rfl z31 z32 (fun c => ?_) (fun c => ?_)
            · replace h := h.1 c
              refine v_s mt_193 rfl rfl rfl ?_
              obtain ⟨c31, J30, z33, h⟩ := h
              refine v_call (d1 := 2) mt_193 rfl rfl mt_192 rfl rfl (m_callj (As := []) (rest := []) rfl rfl c_542 rfl (Nat.le_of_ble_eq_true rfl) (Nat.le_of_ble_eq_true rfl)) z33 (by clear h; omega) ?_
              refine v_isn (L' := [some (.ref 542), some (iv c31)]) mt_193 rfl (Nat.le_of_ble_eq_true rfl) rfl ?_
              refine v_s mt_193 rfl rfl rfl ?_
              refine v_ic (v := Int32.ofInt (-1)) mt_193 rfl rfl ?_
              obtain ⟨z34, h⟩ := h
              refine j_if2 mt_193 rfl rfl z34 ⟨by decide, by decide⟩ (fun c => ?_) (fun c => ?_)
              · replace h := h.1 c
                refine v_s mt_193 rfl rfl rfl ?_
                refine v_inl (L1 := [some (.ref 542)]) mt_193 rfl rfl mt_165 rfl rfl (m_callj (As := []) (rest := []) rfl rfl c_542 rfl (Nat.le_of_ble_eq_true rfl) (Nat.le_of_ble_eq_true rfl)) rfl (by clear h; omega) ?_
                refine v_s mt_165 rfl rfl rfl ?_
                refine j_gi (w := J30 542 5) 5 mt_165 rfl rfl c_542 (by decide) rfl ?_
                refine v_ic (v := Int32.ofInt (-1)) mt_165 rfl rfl ?_
                obtain ⟨z35, h⟩ := h
                refine j_if2 mt_165 rfl rfl z35 ⟨by decide, by decide⟩ (fun c => ?_) (fun c => ?_)
                · replace h := h.1 c
                  refine v_ic (v := Int32.ofInt 0) mt_165 rfl rfl ?_
                  refine j_retb mt_165 rfl rfl (by decide) ?_
                  refine j_if1 mt_193 rfl rfl ⟨by decide, by decide⟩ (fun c => absurd (show ¬ (0 : Int) = 0 from c) (by decide)) (fun _ => ?_)
                  exact v_ret mt_193 rfl rfl rfl h
                · replace h := h.2 (Decidable.not_not.mp c)
                  refine v_ic (v := Int32.ofInt 1) mt_165 rfl rfl ?_
                  refine v_go mt_165 rfl rfl ?_
                  refine j_retb mt_165 rfl rfl (by decide) ?_
                  refine j_if1 mt_193 rfl rfl ⟨by decide, by decide⟩ (fun _ => ?_) (fun c => (c (show ¬ (1 : Int) = 0 by decide)).elim)
                  refine v_s mt_193 rfl rfl rfl ?_
                  obtain ⟨J32, z36, h⟩ := h
                  refine v_call (d1 := 1) mt_193 rfl rfl mt_172 rfl rfl (m_callj (As := []) (rest := []) rfl rfl c_542 rfl (Nat.le_of_ble_eq_true rfl) (Nat.le_of_ble_eq_true rfl)) z36 (by clear h; omega) ?_
                  refine v_s mt_193 rfl rfl rfl ?_
                  refine v_ic (v := Int32.ofInt 1) mt_193 rfl rfl ?_
                  refine v_s mt_193 rfl rfl rfl ?_
                  obtain ⟨J33, z37, h⟩ := h
                  refine v_call (d1 := 1) mt_193 rfl rfl mt_187 rfl rfl (m_callj (As := [iv 1, iv c31]) (rest := []) rfl rfl c_542 rfl (Nat.le_of_ble_eq_true rfl) (Nat.le_of_ble_eq_true rfl)) z37 (by clear h; omega) ?_
                  exact v_ret mt_193 rfl rfl rfl h
              · replace h := h.2 (Decidable.not_not.mp c)
                refine v_s mt_193 rfl rfl rfl ?_
                refine v_ic (v := Int32.ofInt 1) mt_193 rfl rfl ?_
                refine v_s mt_193 rfl rfl rfl ?_
                refine j_gi (w := J30 542 4) 4 mt_193 rfl rfl c_542 (by decide) rfl ?_
                obtain ⟨J34, z38, h⟩ := h
                refine v_call (d1 := 0) mt_193 rfl rfl mt_166 rfl rfl (m_callj (As := [iv 1, iv (J30 542 4)]) (rest := []) rfl rfl c_542 rfl (Nat.le_of_ble_eq_true rfl) (Nat.le_of_ble_eq_true rfl)) z38 (by clear h; omega) ?_
                refine v_s mt_193 rfl rfl rfl ?_
                refine v_inl (L1 := [some (.ref 542)]) mt_193 rfl rfl mt_165 rfl rfl (m_callj (As := []) (rest := []) rfl rfl c_542 rfl (Nat.le_of_ble_eq_true rfl) (Nat.le_of_ble_eq_true rfl)) rfl (by clear h; omega) ?_
                refine v_s mt_165 rfl rfl rfl ?_
                refine j_gi (w := J34 542 5) 5 mt_165 rfl rfl c_542 (by decide) rfl ?_
                refine v_ic (v := Int32.ofInt (-1)) mt_165 rfl rfl ?_
                obtain ⟨z39, h⟩ := h
                refine j_if2 mt_165 rfl rfl z39 ⟨by decide, by decide⟩ (fun c => ?_) (fun c => ?_)
                · replace h := h.1 c
                  refine v_ic (v := Int32.ofInt 0) mt_165 rfl rfl ?_
                  refine j_retb mt_165 rfl rfl (by decide) ?_
                  refine j_if1 mt_193 rfl rfl ⟨by decide, by decide⟩ (fun c => absurd (show ¬ (0 : Int) = 0 from c) (by decide)) (fun _ => ?_)
                  exact v_ret mt_193 rfl rfl rfl h
                · replace h := h.2 (Decidable.not_not.mp c)
                  refine v_ic (v := Int32.ofInt 1) mt_165 rfl rfl ?_
                  refine v_go mt_165 rfl rfl ?_
                  refine j_retb mt_165 rfl rfl (by decide) ?_
                  refine j_if1 mt_193 rfl rfl ⟨by decide, by decide⟩ (fun _ => ?_) (fun c => (c (show ¬ (1 : Int) = 0 by decide)).elim)
                  refine v_s mt_193 rfl rfl rfl ?_
                  obtain ⟨J35, z40, h⟩ := h
                  refine v_call (d1 := 1) mt_193 rfl rfl mt_172 rfl rfl (m_callj (As := []) (rest := []) rfl rfl c_542 rfl (Nat.le_of_ble_eq_true rfl) (Nat.le_of_ble_eq_true rfl)) z40 (by clear h; omega) ?_
                  refine v_s mt_193 rfl rfl rfl ?_
                  refine v_ic (v := Int32.ofInt 1) mt_193 rfl rfl ?_
                  refine v_s mt_193 rfl rfl rfl ?_
                  obtain ⟨J36, z41, h⟩ := h
                  refine v_call (d1 := 1) mt_193 rfl rfl mt_187 rfl rfl (m_callj (As := [iv 1, iv c31]) (rest := []) rfl rfl c_542 rfl (Nat.le_of_ble_eq_true rfl) (Nat.le_of_ble_eq_true rfl)) z41 (by clear h; omega) ?_
                  exact v_ret mt_193 rfl rfl rfl h
            · replace h := h.2 (Decidable.not_not.mp c)
              refine v_s mt_193 rfl rfl rfl ?_
              refine v_ic (v := Int32.ofInt 4) mt_193 rfl rfl ?_
              refine v_bp (v := Int32.ofInt 7) mt_193 rfl rfl ?_
              obtain ⟨J37, z42, h⟩ := h
              refine v_call (d1 := (d - 1)) mt_193 rfl rfl mt_191 rfl rfl (m_callj (As := [iv 4, iv 7]) (rest := []) rfl rfl c_542 rfl (Nat.le_of_ble_eq_true rfl) (Nat.le_of_ble_eq_true rfl)) z42 (by clear h; omega) ?_
              refine v_go mt_193 rfl rfl ?_
              exact v_ret mt_193 rfl rfl rfl h
          · replace h := h.2 (Decidable.not_not.mp c)
            refine v_s mt_193 rfl rfl rfl ?_
            refine v_ic (v := Int32.ofInt 5) mt_193 rfl rfl ?_
            refine v_bp (v := Int32.ofInt 6) mt_193 rfl rfl ?_
            obtain ⟨J38, z43, h⟩ := h
            refine v_call (d1 := (d - 1)) mt_193 rfl rfl mt_191 rfl rfl (m_callj (As := [iv 5, iv 6]) (rest := []) rfl rfl c_542 rfl (Nat.le_of_ble_eq_true rfl) (Nat.le_of_ble_eq_true rfl)) z43 (by clear h; omega) ?_
            refine v_go mt_193 rfl rfl ?_
            exact v_ret mt_193 rfl rfl rfl h
        · replace h := h.2 (Int.not_lt.mp c)
          refine v_ic (v := Int32.ofInt 1) mt_169 rfl rfl ?_
          refine v_go mt_169 rfl rfl ?_
          refine j_retb mt_169 rfl rfl (by decide) ?_
          refine j_if1 mt_193 rfl rfl ⟨by decide, by decide⟩ (fun c => absurd (show (1 : Int) = 0 from c) (by decide)) (fun _ => ?_)
          refine v_s mt_193 rfl rfl rfl ?_
          refine v_ic (v := Int32.ofInt 0) mt_193 rfl rfl ?_
          refine v_s mt_193 rfl rfl rfl ?_
          refine v_ic (v := Int32.ofInt 0) mt_193 rfl rfl ?_
          refine v_sp (v := Int32.ofInt 999) mt_193 rfl rfl ?_
          obtain ⟨c40, J39, z44, h⟩ := h
          refine v_call (d1 := 1) mt_193 rfl rfl mt_173 rfl rfl (m_callj (As := [iv 0, iv 999]) (rest := [iv 0, .ref 542]) rfl rfl c_542 rfl (Nat.le_of_ble_eq_true rfl) (Nat.le_of_ble_eq_true rfl)) z44 (by clear h; omega) ?_
          obtain ⟨J41, z45, h⟩ := h
          refine v_call (d1 := 1) mt_193 rfl rfl mt_187 rfl rfl (m_callj (As := [iv 0, iv c40]) (rest := []) rfl rfl c_542 rfl (Nat.le_of_ble_eq_true rfl) (Nat.le_of_ble_eq_true rfl)) z45 (by clear h; omega) ?_
          refine v_go mt_193 rfl rfl ?_
          exact v_ret mt_193 rfl rfl rfl h
    · replace h := h.2 (Decidable.not_not.mp c)
      refine v_s mt_193 rfl rfl rfl ?_
      refine v_ic (v := Int32.ofInt 1) mt_193 rfl rfl ?_
      obtain ⟨J42, z46, h⟩ := h
      refine v_call (d1 := 1) mt_193 rfl rfl mt_188 rfl rfl (m_callj (As := [iv 1]) (rest := []) rfl rfl c_542 rfl (Nat.le_of_ble_eq_true rfl) (Nat.le_of_ble_eq_true rfl)) z46 (by clear h; omega) ?_
      refine v_s mt_193 rfl rfl rfl ?_
      obtain ⟨J43, z47, h⟩ := h
      refine v_call (d1 := (d - 1)) mt_193 rfl rfl mt_189 rfl rfl (m_callj (As := []) (rest := []) rfl rfl c_542 rfl (Nat.le_of_ble_eq_true rfl) (Nat.le_of_ble_eq_true rfl)) z47 (by clear h; omega) ?_
      refine v_s mt_193 rfl rfl rfl ?_
      refine v_bp (v := Int32.ofInt 41) mt_193 rfl rfl ?_
      obtain ⟨J44, z48, h⟩ := h
      refine v_call (d1 := 1) mt_193 rfl rfl mt_174 rfl rfl (m_callj (As := [iv 41]) (rest := []) rfl rfl c_542 rfl (Nat.le_of_ble_eq_true rfl) (Nat.le_of_ble_eq_true rfl)) z48 (by clear h; omega) ?_
      refine v_s mt_193 rfl rfl rfl ?_
      refine v_s mt_193 rfl rfl rfl ?_
      refine j_gi (w := J44 542 7) 7 mt_193 rfl rfl c_542 (by decide) rfl ?_
      refine v_ic (v := Int32.ofInt 1) mt_193 rfl rfl ?_
      refine j_sub (e := (J44 542 7) - 1) mt_193 rfl rfl ?_
      refine j_pi 7 mt_193 rfl rfl c_542 (by decide) ?_
      refine v_go mt_193 rfl rfl ?_
      exact v_ret mt_193 rfl rfl rfl h
set_option maxHeartbeats 600000 in
theorem b_194_0 {X : Nat × (Nat → Int32)} {d : Nat} {J : Nat → Nat → Int} {sw : Bool × Bool × Bool} {lg : Nat → Nat → Int64} {x : Nat} {K : (Option Value ⊕ Nat) → mM → Prop} {x1 : Int} {o2 : Option Value} (hd : 61 ≤ d)
    (h : InR x1 ∧ (x1 < 0 → K (.inl (some (iv 0))) (mj (m_up (m_up (m_up J 542 0 0) 542 0 1) 543 1 ((J 543 1) + 1)) sw lg x)) ∧ (0 ≤ x1 → (InR (J 542 2) ∧ (J 542 2 < x1 → K (.inl (some (iv 0))) (mj (m_up (m_up (m_up J 542 0 0) 542 0 1) 543 1 ((J 543 1) + 1)) sw lg x)) ∧ (x1 ≤ J 542 2 → ((150 < x1 → K (.inl (some (iv 0))) (mj (m_up (m_up (m_up J 542 0 0) 542 0 1) 543 1 ((J 543 1) + 1)) sw lg x)) ∧ (x1 ≤ 150 → (∃ (J1 : Nat → Nat → Int), EE X 60 189 [.ref 542] (mj (m_up (m_up (m_up (m_up (m_up (m_up (m_up (m_up J 542 0 0) 542 2 0) 542 8 (-1)) 542 3 x1) 542 4 0) 542 5 (-1)) 542 7 0) 542 34 0) sw lg x) (.inl none) (mj J1 sw lg x) ∧ VV X d 194 (54, [some (.ref 542), some (iv x1), o2], [], mj J1 sw lg x) K))))))) : VV X d 194 (0, [some (.ref 542), some (iv x1), o2], [], mj J sw lg x) K := by
  refine v_s mt_194 rfl rfl rfl ?_
  refine v_ic (v := Int32.ofInt 0) mt_194 rfl rfl ?_
  refine j_pi 0 mt_194 rfl rfl c_542 (by decide) ?_
  refine v_s mt_194 rfl rfl rfl ?_
  refine v_s mt_194 rfl rfl rfl ?_
  obtain ⟨z1, h⟩ := h
  refine j_if1 mt_194 rfl rfl z1 (fun c => ?_) (fun c => ?_)
  · replace h := h.1 c
    refine v_ic (v := Int32.ofInt 0) mt_194 rfl rfl ?_
    refine v_ic (v := Int32.ofInt 1) mt_194 rfl rfl ?_
    refine v_ic (v := Int32.ofInt 1) mt_194 rfl rfl ?_
    refine v_inl (L1 := [some (.ref 542), some (iv 0), some (iv 1), some (iv 1)]) mt_194 rfl rfl mt_161 rfl rfl (m_callj (As := [iv 0, iv 1, iv 1]) (rest := []) rfl rfl c_542 rfl (Nat.le_of_ble_eq_true rfl) (Nat.le_of_ble_eq_true rfl)) rfl (by clear h; omega) ?_
    refine v_s mt_161 rfl rfl rfl ?_
    refine j_if1 mt_161 rfl rfl ⟨by decide, by decide⟩ (fun c => absurd (show ¬ (0 : Int) = 0 from c) (by decide)) (fun _ => ?_)
    refine v_s mt_161 rfl rfl rfl ?_
    refine j_gi (w := 0) 0 mt_161 rfl rfl c_542 (by decide) (up_eq _ _ _ _) ?_
    refine j_if1 mt_161 rfl rfl ⟨by decide, by decide⟩ (fun c => absurd (show ¬ (0 : Int) = 0 from c) (by decide)) (fun _ => ?_)
    refine v_s mt_161 rfl rfl rfl ?_
    refine v_s mt_161 rfl rfl rfl ?_
    refine j_pi 0 mt_161 rfl rfl c_542 (by decide) ?_
    refine v_s mt_161 rfl rfl rfl ?_
    refine v_gr (w := 543) 1 mt_161 rfl rfl c_542 (by decide) (g_12_1 c_542) ?_
    refine v_s mt_161 rfl rfl rfl ?_
    refine v_s mt_161 rfl rfl rfl ?_
    refine j_al (w := J 543 1) mt_161 rfl c_543 ⟨by decide, by decide⟩ (by decide) ((up_na (by decide)).trans ((up_na (by decide)).trans rfl)) ?_
    refine v_ic (v := Int32.ofInt 1) mt_161 rfl rfl ?_
    refine j_add (e := (J 543 1) + 1) mt_161 rfl rfl ?_
    refine j_as mt_161 rfl c_543 ⟨by decide, by decide⟩ (by decide) ?_
    refine v_s mt_161 rfl rfl rfl ?_
    refine j_gi (w := 1) 0 mt_161 rfl rfl c_542 (by decide) ((up_na (by decide)).trans (up_eq _ _ _ _)) ?_
    refine j_if1 mt_161 rfl rfl ⟨by decide, by decide⟩ (fun _ => ?_) (fun c => (c (show ¬ (1 : Int) = 0 by decide)).elim)
    refine v_ic (v := Int32.ofInt 0) mt_161 rfl rfl ?_
    refine j_retb mt_161 rfl rfl (by decide) ?_
    refine j_if1 mt_194 rfl rfl ⟨by decide, by decide⟩ (fun c => absurd (show ¬ (0 : Int) = 0 from c) (by decide)) (fun _ => ?_)
    refine v_ic (v := Int32.ofInt 0) mt_194 rfl rfl ?_
    exact v_ret mt_194 rfl rfl rfl h
  · replace h := h.2 (Int.not_lt.mp c)
    refine v_s mt_194 rfl rfl rfl ?_
    refine v_s mt_194 rfl rfl rfl ?_
    refine j_gi (w := J 542 2) 2 mt_194 rfl rfl c_542 (by decide) ((up_nk (by decide)).trans rfl) ?_
    obtain ⟨z2, h⟩ := h
    refine j_if2 mt_194 rfl rfl z1 z2 (fun c => ?_) (fun c => ?_)
    · replace h := h.1 c
      refine v_ic (v := Int32.ofInt 0) mt_194 rfl rfl ?_
      refine v_ic (v := Int32.ofInt 1) mt_194 rfl rfl ?_
      refine v_ic (v := Int32.ofInt 1) mt_194 rfl rfl ?_
      refine v_inl (L1 := [some (.ref 542), some (iv 0), some (iv 1), some (iv 1)]) mt_194 rfl rfl mt_161 rfl rfl (m_callj (As := [iv 0, iv 1, iv 1]) (rest := []) rfl rfl c_542 rfl (Nat.le_of_ble_eq_true rfl) (Nat.le_of_ble_eq_true rfl)) rfl (by clear h; omega) ?_
      refine v_s mt_161 rfl rfl rfl ?_
      refine j_if1 mt_161 rfl rfl ⟨by decide, by decide⟩ (fun c => absurd (show ¬ (0 : Int) = 0 from c) (by decide)) (fun _ => ?_)
      refine v_s mt_161 rfl rfl rfl ?_
      refine j_gi (w := 0) 0 mt_161 rfl rfl c_542 (by decide) (up_eq _ _ _ _) ?_
      refine j_if1 mt_161 rfl rfl ⟨by decide, by decide⟩ (fun c => absurd (show ¬ (0 : Int) = 0 from c) (by decide)) (fun _ => ?_)
      refine v_s mt_161 rfl rfl rfl ?_
      refine v_s mt_161 rfl rfl rfl ?_
      refine j_pi 0 mt_161 rfl rfl c_542 (by decide) ?_
      refine v_s mt_161 rfl rfl rfl ?_
      refine v_gr (w := 543) 1 mt_161 rfl rfl c_542 (by decide) (g_12_1 c_542) ?_
      refine v_s mt_161 rfl rfl rfl ?_
      refine v_s mt_161 rfl rfl rfl ?_
      refine j_al (w := J 543 1) mt_161 rfl c_543 ⟨by decide, by decide⟩ (by decide) ((up_na (by decide)).trans ((up_na (by decide)).trans rfl)) ?_
      refine v_ic (v := Int32.ofInt 1) mt_161 rfl rfl ?_
      refine j_add (e := (J 543 1) + 1) mt_161 rfl rfl ?_
      refine j_as mt_161 rfl c_543 ⟨by decide, by decide⟩ (by decide) ?_
      refine v_s mt_161 rfl rfl rfl ?_
      refine j_gi (w := 1) 0 mt_161 rfl rfl c_542 (by decide) ((up_na (by decide)).trans (up_eq _ _ _ _)) ?_
      refine j_if1 mt_161 rfl rfl ⟨by decide, by decide⟩ (fun _ => ?_) (fun c => (c (show ¬ (1 : Int) = 0 by decide)).elim)
      refine v_ic (v := Int32.ofInt 0) mt_161 rfl rfl ?_
      refine j_retb mt_161 rfl rfl (by decide) ?_
      refine j_if1 mt_194 rfl rfl ⟨by decide, by decide⟩ (fun c => absurd (show ¬ (0 : Int) = 0 from c) (by decide)) (fun _ => ?_)
      refine v_ic (v := Int32.ofInt 0) mt_194 rfl rfl ?_
      exact v_ret mt_194 rfl rfl rfl h
    · replace h := h.2 (Int.not_lt.mp c)
      refine v_s mt_194 rfl rfl rfl ?_
      refine v_sp (v := Int32.ofInt 150) mt_194 rfl rfl ?_
      refine j_if2 mt_194 rfl rfl z1 ⟨by decide, by decide⟩ (fun c => ?_) (fun c => ?_)
      · replace h := h.1 c
        refine v_ic (v := Int32.ofInt 0) mt_194 rfl rfl ?_
        refine v_ic (v := Int32.ofInt 1) mt_194 rfl rfl ?_
        refine v_ic (v := Int32.ofInt 1) mt_194 rfl rfl ?_
        refine v_inl (L1 := [some (.ref 542), some (iv 0), some (iv 1), some (iv 1)]) mt_194 rfl rfl mt_161 rfl rfl (m_callj (As := [iv 0, iv 1, iv 1]) (rest := []) rfl rfl c_542 rfl (Nat.le_of_ble_eq_true rfl) (Nat.le_of_ble_eq_true rfl)) rfl (by clear h; omega) ?_
        refine v_s mt_161 rfl rfl rfl ?_
        refine j_if1 mt_161 rfl rfl ⟨by decide, by decide⟩ (fun c => absurd (show ¬ (0 : Int) = 0 from c) (by decide)) (fun _ => ?_)
        refine v_s mt_161 rfl rfl rfl ?_
        refine j_gi (w := 0) 0 mt_161 rfl rfl c_542 (by decide) (up_eq _ _ _ _) ?_
        refine j_if1 mt_161 rfl rfl ⟨by decide, by decide⟩ (fun c => absurd (show ¬ (0 : Int) = 0 from c) (by decide)) (fun _ => ?_)
        refine v_s mt_161 rfl rfl rfl ?_
        refine v_s mt_161 rfl rfl rfl ?_
        refine j_pi 0 mt_161 rfl rfl c_542 (by decide) ?_
        refine v_s mt_161 rfl rfl rfl ?_
        refine v_gr (w := 543) 1 mt_161 rfl rfl c_542 (by decide) (g_12_1 c_542) ?_
        refine v_s mt_161 rfl rfl rfl ?_
        refine v_s mt_161 rfl rfl rfl ?_
        refine j_al (w := J 543 1) mt_161 rfl c_543 ⟨by decide, by decide⟩ (by decide) ((up_na (by decide)).trans ((up_na (by decide)).trans rfl)) ?_
        refine v_ic (v := Int32.ofInt 1) mt_161 rfl rfl ?_
        refine j_add (e := (J 543 1) + 1) mt_161 rfl rfl ?_
        refine j_as mt_161 rfl c_543 ⟨by decide, by decide⟩ (by decide) ?_
        refine v_s mt_161 rfl rfl rfl ?_
        refine j_gi (w := 1) 0 mt_161 rfl rfl c_542 (by decide) ((up_na (by decide)).trans (up_eq _ _ _ _)) ?_
        refine j_if1 mt_161 rfl rfl ⟨by decide, by decide⟩ (fun _ => ?_) (fun c => (c (show ¬ (1 : Int) = 0 by decide)).elim)
        refine v_ic (v := Int32.ofInt 0) mt_161 rfl rfl ?_
        refine j_retb mt_161 rfl rfl (by decide) ?_
        refine j_if1 mt_194 rfl rfl ⟨by decide, by decide⟩ (fun c => absurd (show ¬ (0 : Int) = 0 from c) (by decide)) (fun _ => ?_)
        refine v_ic (v := Int32.ofInt 0) mt_194 rfl rfl ?_
        exact v_ret mt_194 rfl rfl rfl h
      · replace h := h.2 (Int.not_lt.mp c)
        refine v_ic (v := Int32.ofInt 1) mt_194 rfl rfl ?_
        refine v_go mt_194 rfl rfl ?_
        refine v_ic (v := Int32.ofInt 1) mt_194 rfl rfl ?_
        refine v_ic (v := Int32.ofInt 1) mt_194 rfl rfl ?_
        refine v_inl (L1 := [some (.ref 542), some (iv 1), some (iv 1), some (iv 1)]) mt_194 rfl rfl mt_161 rfl rfl (m_callj (As := [iv 1, iv 1, iv 1]) (rest := []) rfl rfl c_542 rfl (Nat.le_of_ble_eq_true rfl) (Nat.le_of_ble_eq_true rfl)) rfl (by clear h; omega) ?_
        refine v_s mt_161 rfl rfl rfl ?_
        refine j_if1 mt_161 rfl rfl ⟨by decide, by decide⟩ (fun _ => ?_) (fun c => (c (show ¬ (1 : Int) = 0 by decide)).elim)
        refine v_s mt_161 rfl rfl rfl ?_
        refine j_gi (w := 0) 0 mt_161 rfl rfl c_542 (by decide) (up_eq _ _ _ _) ?_
        refine j_if1 mt_161 rfl rfl ⟨by decide, by decide⟩ (fun c => absurd (show ¬ (0 : Int) = 0 from c) (by decide)) (fun _ => ?_)
        refine v_ic (v := Int32.ofInt 1) mt_161 rfl rfl ?_
        refine v_go mt_161 rfl rfl ?_
        refine j_retb mt_161 rfl rfl (by decide) ?_
        refine j_if1 mt_194 rfl rfl ⟨by decide, by decide⟩ (fun _ => ?_) (fun c => (c (show ¬ (1 : Int) = 0 by decide)).elim)
        refine v_s mt_194 rfl rfl rfl ?_
        refine v_s mt_194 rfl rfl rfl ?_
        refine v_inl (L1 := [some (.ref 542), some (iv x1)]) mt_194 rfl rfl mt_176 rfl rfl (m_callj (As := [iv x1]) (rest := []) rfl rfl c_542 rfl (Nat.le_of_ble_eq_true rfl) (Nat.le_of_ble_eq_true rfl)) rfl (by clear h; omega) ?_
        refine v_s mt_176 rfl rfl rfl ?_
        refine v_ic (v := Int32.ofInt 0) mt_176 rfl rfl ?_
        refine j_pi 2 mt_176 rfl rfl c_542 (by decide) ?_
        refine v_s mt_176 rfl rfl rfl ?_
        refine v_ic (v := Int32.ofInt (-1)) mt_176 rfl rfl ?_
        refine j_pi 8 mt_176 rfl rfl c_542 (by decide) ?_
        refine v_s mt_176 rfl rfl rfl ?_
        refine v_s mt_176 rfl rfl rfl ?_
        refine j_pi 3 mt_176 rfl rfl c_542 (by decide) ?_
        refine v_s mt_176 rfl rfl rfl ?_
        refine v_ic (v := Int32.ofInt 0) mt_176 rfl rfl ?_
        refine j_pi 4 mt_176 rfl rfl c_542 (by decide) ?_
        refine v_s mt_176 rfl rfl rfl ?_
        refine v_ic (v := Int32.ofInt (-1)) mt_176 rfl rfl ?_
        refine j_pi 5 mt_176 rfl rfl c_542 (by decide) ?_
        refine v_s mt_176 rfl rfl rfl ?_
        refine v_ic (v := Int32.ofInt 0) mt_176 rfl rfl ?_
        refine j_pi 7 mt_176 rfl rfl c_542 (by decide) ?_
        refine v_ret mt_176 rfl rfl rfl ?_
        refine v_s mt_194 rfl rfl rfl ?_
        refine v_ic (v := Int32.ofInt 0) mt_194 rfl rfl ?_
        refine j_pi 34 mt_194 rfl rfl c_542 (by decide) ?_
        refine v_s mt_194 rfl rfl rfl ?_
        obtain ⟨J1, z3, h⟩ := h
        refine v_call (d1 := 60) mt_194 rfl rfl mt_189 rfl rfl (m_callj (As := []) (rest := []) rfl rfl c_542 rfl (Nat.le_of_ble_eq_true rfl) (Nat.le_of_ble_eq_true rfl)) z3 (by clear h; omega) ?_
        exact h
set_option maxHeartbeats 600000 in
theorem b_194_54 {X : Nat × (Nat → Int32)} {d : Nat} {J : Nat → Nat → Int} {sw : Bool × Bool × Bool} {lg : Nat → Nat → Int64} {x : Nat} {K : (Option Value ⊕ Nat) → mM → Prop} {x1 : Int} {o2 : Option Value} (hd : 61 ≤ d)
    (h : InR (J 542 5) ∧ (¬ J 542 5 = (-1) → VV X d 194 (77, [some (.ref 542), some (iv x1), o2], [], mj J sw lg x) K) ∧ (J 542 5 = (-1) → (∃ (c2 : Int) (J1 : Nat → Nat → Int), EE X 0 167 [.ref 542] (mj J sw lg x) (.inl (some (iv c2))) (mj J1 sw lg x) ∧ InR (J1 542 4) ∧ InR (J1 542 3) ∧ (J1 542 3 ≤ J1 542 4 → VV X d 194 (77, [some (.ref 542), some (iv x1), o2], [], mj J1 sw lg x) K) ∧ (J1 542 4 < J1 542 3 → (∃ (J3 : Nat → Nat → Int), EE X 0 166 [.ref 542, iv 1, iv (J1 542 4)] (mj J1 sw lg x) (.inl none) (mj J3 sw lg x) ∧ VV X d 194 (77, [some (.ref 542), some (iv x1), o2], [], mj J3 sw lg x) K))))) : VV X d 194 (54, [some (.ref 542), some (iv x1), o2], [], mj J sw lg x) K := by
  refine v_s mt_194 rfl rfl rfl ?_
  refine v_inl (L1 := [some (.ref 542)]) mt_194 rfl rfl mt_165 rfl rfl (m_callj (As := []) (rest := []) rfl rfl c_542 rfl (Nat.le_of_ble_eq_true rfl) (Nat.le_of_ble_eq_true rfl)) rfl (by clear h; omega) ?_
  refine v_s mt_165 rfl rfl rfl ?_
  refine j_gi (w := J 542 5) 5 mt_165 rfl rfl c_542 (by decide) rfl ?_
  refine v_ic (v := Int32.ofInt (-1)) mt_165 rfl rfl ?_
  obtain ⟨z1, h⟩ := h
  refine j_if2 mt_165 rfl rfl z1 ⟨by decide, by decide⟩ (fun c => ?_) (fun c => ?_)
  · replace h := h.1 c
    refine v_ic (v := Int32.ofInt 0) mt_165 rfl rfl ?_
    refine j_retb mt_165 rfl rfl (by decide) ?_
    refine j_if1 mt_194 rfl rfl ⟨by decide, by decide⟩ (fun _ => ?_) (fun c => (c (show (0 : Int) = 0 by decide)).elim)
    exact h
  · replace h := h.2 (Decidable.not_not.mp c)
    refine v_ic (v := Int32.ofInt 1) mt_165 rfl rfl ?_
    refine v_go mt_165 rfl rfl ?_
    refine j_retb mt_165 rfl rfl (by decide) ?_
    refine j_if1 mt_194 rfl rfl ⟨by decide, by decide⟩ (fun c => absurd (show (1 : Int) = 0 from c) (by decide)) (fun _ => ?_)
    refine v_s mt_194 rfl rfl rfl ?_
    refine v_inl (L1 := [some (.ref 542)]) mt_194 rfl rfl mt_175 rfl rfl (m_callj (As := []) (rest := []) rfl rfl c_542 rfl (Nat.le_of_ble_eq_true rfl) (Nat.le_of_ble_eq_true rfl)) rfl (by clear h; omega) ?_
    refine v_s mt_175 rfl rfl rfl ?_
    obtain ⟨c2, J1, z2, h⟩ := h
    refine v_call (d1 := 0) mt_175 rfl rfl mt_167 rfl rfl (m_callj (As := []) (rest := []) rfl rfl c_542 rfl (Nat.le_of_ble_eq_true rfl) (Nat.le_of_ble_eq_true rfl)) z2 (by clear h; omega) ?_
    refine v_s mt_175 rfl rfl rfl ?_
    refine v_s mt_175 rfl rfl rfl ?_
    refine j_gi (w := J1 542 4) 4 mt_175 rfl rfl c_542 (by decide) rfl ?_
    refine v_s mt_175 rfl rfl rfl ?_
    refine j_gi (w := J1 542 3) 3 mt_175 rfl rfl c_542 (by decide) rfl ?_
    obtain ⟨z3, h⟩ := h
    obtain ⟨z4, h⟩ := h
    refine j_if2 mt_175 rfl rfl z3 z4 (fun c => ?_) (fun c => ?_)
    · replace h := h.1 c
      refine v_ic (v := Int32.ofInt 0) mt_175 rfl rfl ?_
      refine j_retb mt_175 rfl rfl (by decide) ?_
      refine j_if1 mt_194 rfl rfl ⟨by decide, by decide⟩ (fun _ => ?_) (fun c => (c (show (0 : Int) = 0 by decide)).elim)
      exact h
    · replace h := h.2 (Int.not_le.mp c)
      refine v_ic (v := Int32.ofInt 1) mt_175 rfl rfl ?_
      refine v_go mt_175 rfl rfl ?_
      refine j_retb mt_175 rfl rfl (by decide) ?_
      refine j_if1 mt_194 rfl rfl ⟨by decide, by decide⟩ (fun c => absurd (show (1 : Int) = 0 from c) (by decide)) (fun _ => ?_)
      refine v_s mt_194 rfl rfl rfl ?_
      refine v_ic (v := Int32.ofInt 1) mt_194 rfl rfl ?_
      refine v_s mt_194 rfl rfl rfl ?_
      refine j_gi (w := J1 542 4) 4 mt_194 rfl rfl c_542 (by decide) rfl ?_
      obtain ⟨J3, z5, h⟩ := h
      refine v_call (d1 := 0) mt_194 rfl rfl mt_166 rfl rfl (m_callj (As := [iv 1, iv (J1 542 4)]) (rest := []) rfl rfl c_542 rfl (Nat.le_of_ble_eq_true rfl) (Nat.le_of_ble_eq_true rfl)) z5 (by clear h; omega) ?_
      exact h
set_option maxHeartbeats 600000 in
theorem b_194_77 {X : Nat × (Nat → Int32)} {d : Nat} {J : Nat → Nat → Int} {sw : Bool × Bool × Bool} {lg : Nat → Nat → Int64} {x : Nat} {K : (Option Value ⊕ Nat) → mM → Prop} {x1 : Int} {o2 : Option Value} (hd : 61 ≤ d)
    (h : ∃ (c2 : Int) (J1 : Nat → Nat → Int), EE X 1 177 [.ref 542, iv 1] (mj J sw lg x) (.inl (some (iv c2))) (mj J1 sw lg x) ∧ InR (J1 542 5) ∧ (J1 542 5 = (-1) → VV X d 194 (93, [some (.ref 542), some (iv x1), some (iv c2)], [], mj J1 sw lg x) K) ∧ (¬ J1 542 5 = (-1) → K (.inl (some (iv c2))) (mj J1 sw lg x))) : VV X d 194 (77, [some (.ref 542), some (iv x1), o2], [], mj J sw lg x) K := by
  refine v_s mt_194 rfl rfl rfl ?_
  refine v_ic (v := Int32.ofInt 1) mt_194 rfl rfl ?_
  obtain ⟨c2, J1, z1, h⟩ := h
  refine v_call (d1 := 1) mt_194 rfl rfl mt_177 rfl rfl (m_callj (As := [iv 1]) (rest := []) rfl rfl c_542 rfl (Nat.le_of_ble_eq_true rfl) (Nat.le_of_ble_eq_true rfl)) z1 (by clear h; omega) ?_
  refine v_isn (L' := [some (.ref 542), some (iv x1), some (iv c2)]) mt_194 rfl (Nat.le_of_ble_eq_true rfl) rfl ?_
  refine v_s mt_194 rfl rfl rfl ?_
  refine j_gi (w := J1 542 5) 5 mt_194 rfl rfl c_542 (by decide) rfl ?_
  refine v_ic (v := Int32.ofInt (-1)) mt_194 rfl rfl ?_
  obtain ⟨z2, h⟩ := h
  refine j_if2 mt_194 rfl rfl z2 ⟨by decide, by decide⟩ (fun c => ?_) (fun c => ?_)
  · replace h := h.1 c
    exact h
  · replace h := h.2 c
    refine v_s mt_194 rfl rfl rfl ?_
    exact v_ret mt_194 rfl rfl rfl h
set_option maxHeartbeats 600000 in
theorem b_194_93 {X : Nat × (Nat → Int32)} {d : Nat} {J : Nat → Nat → Int} {sw : Bool × Bool × Bool} {lg : Nat → Nat → Int64} {x : Nat} {K : (Option Value ⊕ Nat) → mM → Prop} {x1 x2 : Int} (hd : 61 ≤ d)
    (h : ∃ (J1 : Nat → Nat → Int), EE X 0 179 [.ref 542, .ref 553, .ref 555, iv (J 542 34)] (mj (m_up J 542 35 (J 542 34)) sw lg x) (.inl none) (mj J1 sw lg x) ∧ ∃ (J2 : Nat → Nat → Int), EE X 0 179 [.ref 542, .ref 554, .ref 556, iv (J1 542 34)] (mj J1 sw lg x) (.inl none) (mj J2 sw lg x) ∧ K (.inl (some (iv x2))) (mj J2 sw lg x)) : VV X d 194 (93, [some (.ref 542), some (iv x1), some (iv x2)], [], mj J sw lg x) K := by
  refine v_s mt_194 rfl rfl rfl ?_
  refine v_s mt_194 rfl rfl rfl ?_
  refine j_gi (w := J 542 34) 34 mt_194 rfl rfl c_542 (by decide) rfl ?_
  refine j_pi 35 mt_194 rfl rfl c_542 (by decide) ?_
  refine v_s mt_194 rfl rfl rfl ?_
  refine v_s mt_194 rfl rfl rfl ?_
  refine v_gr (w := 553) 29 mt_194 rfl rfl c_542 (by decide) (g_12_29 c_542) ?_
  refine v_s mt_194 rfl rfl rfl ?_
  refine v_gr (w := 555) 31 mt_194 rfl rfl c_542 (by decide) (g_12_31 c_542) ?_
  refine v_s mt_194 rfl rfl rfl ?_
  refine j_gi (w := J 542 34) 34 mt_194 rfl rfl c_542 (by decide) ((up_nk (by decide)).trans rfl) ?_
  obtain ⟨J1, z1, h⟩ := h
  refine v_call (d1 := 0) mt_194 rfl rfl mt_179 rfl rfl (m_callj (As := [.ref 553, .ref 555, iv (J 542 34)]) (rest := []) rfl rfl c_542 rfl (Nat.le_of_ble_eq_true rfl) (Nat.le_of_ble_eq_true rfl)) z1 (by clear h; omega) ?_
  refine v_s mt_194 rfl rfl rfl ?_
  refine v_s mt_194 rfl rfl rfl ?_
  refine v_gr (w := 554) 30 mt_194 rfl rfl c_542 (by decide) (g_12_30 c_542) ?_
  refine v_s mt_194 rfl rfl rfl ?_
  refine v_gr (w := 556) 32 mt_194 rfl rfl c_542 (by decide) (g_12_32 c_542) ?_
  refine v_s mt_194 rfl rfl rfl ?_
  refine j_gi (w := J1 542 34) 34 mt_194 rfl rfl c_542 (by decide) rfl ?_
  obtain ⟨J2, z2, h⟩ := h
  refine v_call (d1 := 0) mt_194 rfl rfl mt_179 rfl rfl (m_callj (As := [.ref 554, .ref 556, iv (J1 542 34)]) (rest := []) rfl rfl c_542 rfl (Nat.le_of_ble_eq_true rfl) (Nat.le_of_ble_eq_true rfl)) z2 (by clear h; omega) ?_
  refine v_s mt_194 rfl rfl rfl ?_
  exact v_ret mt_194 rfl rfl rfl h
