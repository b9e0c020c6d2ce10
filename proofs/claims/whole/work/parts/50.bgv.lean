set_option maxHeartbeats 600000 in
theorem b_10_0 {X : Nat × (Nat → Int32)} {d : Nat} {J : Nat → Nat → Int} {sw : Bool × Bool × Bool} {lg : Nat → Nat → Int64} {x : Nat} {K : (Option Value ⊕ Nat) → mM → Prop} {r1 r2 r3 : Nat} {x4 : Int} {o5 o6 o7 : Option Value} (h1 : SH[r1]? = some (11, 9)) (h2 : SH[r2]? = some (14, 12)) (h3 : SH[r3]? = some (8, 4)) (hd : 3 ≤ d)
    (h : VV X d 10 (3, [some (.ref 536), some (.ref r1), some (.ref r2), some (.ref r3), some (iv x4), some (iv 0), o6, o7], [], mj J sw lg x) K) : VV X d 10 (0, [some (.ref 536), some (.ref r1), some (.ref r2), some (.ref r3), some (iv x4), o5, o6, o7], [], mj J sw lg x) K := by
  refine v_ic (v := Int32.ofInt 0) mt_10 rfl rfl ?_
  refine v_is (L' := [some (.ref 536), some (.ref r1), some (.ref r2), some (.ref r3), some (iv x4), some (iv 0), o6, o7]) mt_10 rfl (Nat.le_of_ble_eq_true rfl) rfl ?_
  exact h
set_option maxHeartbeats 600000 in
theorem b_10_3 {X : Nat × (Nat → Int32)} {d : Nat} {J : Nat → Nat → Int} {sw : Bool × Bool × Bool} {lg : Nat → Nat → Int64} {x : Nat} {K : (Option Value ⊕ Nat) → mM → Prop} {r1 r2 r3 : Nat} {x4 x5 : Int} {o6 o7 : Option Value} (h1 : SH[r1]? = some (11, 9)) (h2 : SH[r2]? = some (14, 12)) (h3 : SH[r3]? = some (8, 4)) (hd : 3 ≤ d)
    (h : InR x5 ∧ InR (J r2 1) ∧ (J r2 1 ≤ x5 → VV X d 10 (82, [some (.ref 536), some (.ref r1), some (.ref r2), some (.ref r3), some (iv x4), some (iv (bShl 1 (J r2 2))), some (iv 0), o7], [], mj J sw lg x) K) ∧ (x5 < J r2 1 → VV X d 10 (15, [some (.ref 536), some (.ref r1), some (.ref r2), some (.ref r3), some (iv x4), some (iv x5), some (iv 0), o7], [], mj J sw lg x) K)) : VV X d 10 (3, [some (.ref 536), some (.ref r1), some (.ref r2), some (.ref r3), some (iv x4), some (iv x5), o6, o7], [], mj J sw lg x) K := by
  refine v_s mt_10 rfl rfl rfl ?_
  refine v_s mt_10 rfl rfl rfl ?_
  refine j_gi (w := J r2 1) 1 mt_10 rfl rfl h2 (by decide) rfl ?_
  obtain ⟨z1, h⟩ := h
  obtain ⟨z2, h⟩ := h
  refine j_if2 mt_10 rfl rfl z1 z2 (fun c => ?_) (fun c => ?_)
  · replace h := h.1 c
    refine v_ic (v := Int32.ofInt 1) mt_10 rfl rfl ?_
    refine v_s mt_10 rfl rfl rfl ?_
    refine j_gi (w := J r2 2) 2 mt_10 rfl rfl h2 (by decide) rfl ?_
    refine j_shl (e := bShl 1 (J r2 2)) mt_10 rfl rfl ?_
    refine v_is (L' := [some (.ref 536), some (.ref r1), some (.ref r2), some (.ref r3), some (iv x4), some (iv (bShl 1 (J r2 2))), o6, o7]) mt_10 rfl (Nat.le_of_ble_eq_true rfl) rfl ?_
    refine v_ic (v := Int32.ofInt 0) mt_10 rfl rfl ?_
    refine v_is (L' := [some (.ref 536), some (.ref r1), some (.ref r2), some (.ref r3), some (iv x4), some (iv (bShl 1 (J r2 2))), some (iv 0), o7]) mt_10 rfl (Nat.le_of_ble_eq_true rfl) rfl ?_
    exact h
  · replace h := h.2 (Int.not_le.mp c)
    refine v_ic (v := Int32.ofInt 0) mt_10 rfl rfl ?_
    refine v_is (L' := [some (.ref 536), some (.ref r1), some (.ref r2), some (.ref r3), some (iv x4), some (iv x5), some (iv 0), o7]) mt_10 rfl (Nat.le_of_ble_eq_true rfl) rfl ?_
    exact h
set_option maxHeartbeats 600000 in
theorem b_10_82 {X : Nat × (Nat → Int32)} {d : Nat} {J : Nat → Nat → Int} {sw : Bool × Bool × Bool} {lg : Nat → Nat → Int64} {x : Nat} {K : (Option Value ⊕ Nat) → mM → Prop} {r1 r2 : Nat} {x4 x5 x6 : Int} {o3 o7 : Option Value} (h1 : SH[r1]? = some (11, 9)) (h2 : SH[r2]? = some (14, 12)) (hd : 3 ≤ d)
    (h : InR x6 ∧ InR x5 ∧ (x5 ≤ x6 → VV X d 10 (120, [some (.ref 536), some (.ref r1), some (.ref r2), o3, some (iv x4), some (iv x5), some (iv ((J r2 1) - 1)), o7], [], mj J sw lg x) K) ∧ (x6 < x5 → ((0 ≤ ((J r2 1) * 512) + x6 ∧ ((J r2 1) * 512) + x6 < 3584) ∧ VV X d 10 (82, [some (.ref 536), some (.ref r1), some (.ref r2), o3, some (iv x4), some (iv x5), some (iv (x6 + 1)), o7], [], mj (m_up J 538 ((((J r2 1) * 512) + x6).toNat) 0) sw lg x) K))) : VV X d 10 (82, [some (.ref 536), some (.ref r1), some (.ref r2), o3, some (iv x4), some (iv x5), some (iv x6), o7], [], mj J sw lg x) K := by
  refine v_s mt_10 rfl rfl rfl ?_
  refine v_s mt_10 rfl rfl rfl ?_
  obtain ⟨z1, h⟩ := h
  obtain ⟨z2, h⟩ := h
  refine j_if2 mt_10 rfl rfl z1 z2 (fun c => ?_) (fun c => ?_)
  · replace h := h.1 c
    refine v_s mt_10 rfl rfl rfl ?_
    refine j_gi (w := J r2 1) 1 mt_10 rfl rfl h2 (by decide) rfl ?_
    refine v_ic (v := Int32.ofInt 1) mt_10 rfl rfl ?_
    refine j_sub (e := (J r2 1) - 1) mt_10 rfl rfl ?_
    refine v_is (L' := [some (.ref 536), some (.ref r1), some (.ref r2), o3, some (iv x4), some (iv x5), some (iv ((J r2 1) - 1)), o7]) mt_10 rfl (Nat.le_of_ble_eq_true rfl) rfl ?_
    exact h
  · replace h := h.2 (Int.not_le.mp c)
    refine v_s mt_10 rfl rfl rfl ?_
    refine v_gr (w := 538) 1 mt_10 rfl rfl c_536 (by decide) (g_1_1 c_536) ?_
    refine v_s mt_10 rfl rfl rfl ?_
    refine j_gi (w := J r2 1) 1 mt_10 rfl rfl h2 (by decide) rfl ?_
    refine v_sp (v := Int32.ofInt 512) mt_10 rfl rfl ?_
    refine j_mul (e := (J r2 1) * 512) mt_10 rfl rfl ?_
    refine v_s mt_10 rfl rfl rfl ?_
    refine j_add (e := ((J r2 1) * 512) + x6) mt_10 rfl rfl ?_
    refine v_ic (v := Int32.ofInt 0) mt_10 rfl rfl ?_
    obtain ⟨z3, h⟩ := h
    refine j_as mt_10 rfl c_538 z3 (by decide) ?_
    refine j_inc (e := x6 + 1) (L' := [some (.ref 536), some (.ref r1), some (.ref r2), o3, some (iv x4), some (iv x5), some (iv (x6 + 1)), o7]) mt_10 rfl rfl (Nat.le_of_ble_eq_true rfl) rfl rfl ?_
    refine v_go mt_10 rfl rfl ?_
    exact h
set_option maxHeartbeats 600000 in
theorem b_10_15 {X : Nat × (Nat → Int32)} {d : Nat} {J : Nat → Nat → Int} {sw : Bool × Bool × Bool} {lg : Nat → Nat → Int64} {x : Nat} {K : (Option Value ⊕ Nat) → mM → Prop} {r1 r2 r3 : Nat} {x4 x5 x6 : Int} {o7 : Option Value} (h1 : SH[r1]? = some (11, 9)) (h2 : SH[r2]? = some (14, 12)) (h3 : SH[r3]? = some (8, 4)) (hd : 3 ≤ d)
    (h : InR x6 ∧ InR (J r2 2) ∧ (J r2 2 ≤ x6 → VV X d 10 (3, [some (.ref 536), some (.ref r1), some (.ref r2), some (.ref r3), some (iv x4), some (iv (x5 + 1)), some (iv x6), o7], [], mj J sw lg x) K) ∧ (x6 < J r2 2 → ((0 ≤ x6 ∧ x6 < 9) ∧ ∃ (c2 : Int) (J1 : Nat → Nat → Int), EE X 2 48 [.ref r1, .ref r2, .ref r3, iv x5, iv x4, iv x6] (mj J sw lg x) (.inl (some (iv c2))) (mj J1 sw lg x) ∧ InR (J (r1 + 5) x6.toNat) ∧ InR c2 ∧ (0 ≤ (x5 * 9) + x6 ∧ (x5 * 9) + x6 < 54) ∧ VV X d 10 (15, [some (.ref 536), some (.ref r1), some (.ref r2), some (.ref r3), some (iv x4), some (iv x5), some (iv (x6 + 1)), o7], [], mj (m_up J1 537 (((x5 * 9) + x6).toNat) (min (J (r1 + 5) x6.toNat) c2)) sw lg x) K))) : VV X d 10 (15, [some (.ref 536), some (.ref r1), some (.ref r2), some (.ref r3), some (iv x4), some (iv x5), some (iv x6), o7], [], mj J sw lg x) K := by
  refine v_s mt_10 rfl rfl rfl ?_
  refine v_s mt_10 rfl rfl rfl ?_
  refine j_gi (w := J r2 2) 2 mt_10 rfl rfl h2 (by decide) rfl ?_
  obtain ⟨z1, h⟩ := h
  obtain ⟨z2, h⟩ := h
  refine j_if2 mt_10 rfl rfl z1 z2 (fun c => ?_) (fun c => ?_)
  · replace h := h.1 c
    refine j_inc (e := x5 + 1) (L' := [some (.ref 536), some (.ref r1), some (.ref r2), some (.ref r3), some (iv x4), some (iv (x5 + 1)), some (iv x6), o7]) mt_10 rfl rfl (Nat.le_of_ble_eq_true rfl) rfl rfl ?_
    refine v_go mt_10 rfl rfl ?_
    exact h
  · replace h := h.2 (Int.not_le.mp c)
    refine v_s mt_10 rfl rfl rfl ?_
    refine v_gr (w := 537) 0 mt_10 rfl rfl c_536 (by decide) (g_1_0 c_536) ?_
    refine v_s mt_10 rfl rfl rfl ?_
    refine v_bp (v := Int32.ofInt 9) mt_10 rfl rfl ?_
    refine j_mul (e := x5 * 9) mt_10 rfl rfl ?_
    refine v_s mt_10 rfl rfl rfl ?_
    refine j_add (e := (x5 * 9) + x6) mt_10 rfl rfl ?_
    refine v_s mt_10 rfl rfl rfl ?_
    refine v_gr (w := (r1 + 5)) 4 mt_10 rfl rfl h1 (by decide) (g_6_4 h1) ?_
    refine v_s mt_10 rfl rfl rfl ?_
    obtain ⟨z3, h⟩ := h
    refine j_al (w := J (r1 + 5) x6.toNat) mt_10 rfl (shS r1 (SH_lt h1) h1).2.2.2.2.1 z3 (by decide) rfl ?_
    refine v_s mt_10 rfl rfl rfl ?_
    refine v_s mt_10 rfl rfl rfl ?_
    refine v_s mt_10 rfl rfl rfl ?_
    refine v_s mt_10 rfl rfl rfl ?_
    refine v_s mt_10 rfl rfl rfl ?_
    refine v_s mt_10 rfl rfl rfl ?_
    obtain ⟨c2, J1, z4, h⟩ := h
    refine v_call (d1 := 2) mt_10 rfl rfl mt_48 rfl rfl (m_callj (As := [.ref r2, .ref r3, iv x5, iv x4, iv x6]) (rest := [iv (J (r1 + 5) x6.toNat), iv ((x5 * 9) + x6), .ref 537]) rfl rfl h1 rfl (Nat.le_of_ble_eq_true rfl) (Nat.le_of_ble_eq_true rfl)) z4 (by clear h; omega) ?_
    obtain ⟨z5, h⟩ := h
    obtain ⟨z6, h⟩ := h
    refine j_min mt_10 rfl (Nat.le_of_ble_eq_true rfl) z5 z6 ?_
    obtain ⟨z7, h⟩ := h
    refine j_as mt_10 rfl c_537 z7 (by decide) ?_
    refine j_inc (e := x6 + 1) (L' := [some (.ref 536), some (.ref r1), some (.ref r2), some (.ref r3), some (iv x4), some (iv x5), some (iv (x6 + 1)), o7]) mt_10 rfl rfl (Nat.le_of_ble_eq_true rfl) rfl rfl ?_
    refine v_go mt_10 rfl rfl ?_
    exact h
set_option maxHeartbeats 600000 in
theorem b_10_120 {X : Nat × (Nat → Int32)} {d : Nat} {J : Nat → Nat → Int} {sw : Bool × Bool × Bool} {lg : Nat → Nat → Int64} {x : Nat} {K : (Option Value ⊕ Nat) → mM → Prop} {r1 r2 : Nat} {x4 x5 x6 : Int} {o3 o7 : Option Value} (h1 : SH[r1]? = some (11, 9)) (h2 : SH[r2]? = some (14, 12)) (hd : 3 ≤ d)
    (h : InR x6 ∧ (x6 < 0 → K (.inl none) (mj J sw lg x)) ∧ (0 ≤ x6 → VV X d 10 (128, [some (.ref 536), some (.ref r1), some (.ref r2), o3, some (iv x4), some (iv x5), some (iv x6), some (iv 0)], [], mj J sw lg x) K)) : VV X d 10 (120, [some (.ref 536), some (.ref r1), some (.ref r2), o3, some (iv x4), some (iv x5), some (iv x6), o7], [], mj J sw lg x) K := by
  refine v_s mt_10 rfl rfl rfl ?_
  obtain ⟨z1, h⟩ := h
  refine j_if1 mt_10 rfl rfl z1 (fun c => ?_) (fun c => ?_)
  · replace h := h.1 c
    exact v_ret mt_10 rfl rfl rfl h
  · replace h := h.2 (Int.not_lt.mp c)
    refine v_ic (v := Int32.ofInt 0) mt_10 rfl rfl ?_
    refine v_is (L' := [some (.ref 536), some (.ref r1), some (.ref r2), o3, some (iv x4), some (iv x5), some (iv x6), some (iv 0)]) mt_10 rfl (Nat.le_of_ble_eq_true rfl) rfl ?_
    exact h
set_option maxHeartbeats 600000 in
theorem b_10_128 {X : Nat × (Nat → Int32)} {d : Nat} {J : Nat → Nat → Int} {sw : Bool × Bool × Bool} {lg : Nat → Nat → Int64} {x : Nat} {K : (Option Value ⊕ Nat) → mM → Prop} {r1 r2 : Nat} {x4 x5 x6 x7 : Int} {o3 : Option Value} (h1 : SH[r1]? = some (11, 9)) (h2 : SH[r2]? = some (14, 12)) (hd : 3 ≤ d)
    (h : InR x7 ∧ InR x5 ∧ (x5 ≤ x7 → VV X d 10 (120, [some (.ref 536), some (.ref r1), some (.ref r2), o3, some (iv x4), some (iv x5), some (iv (x6 + (-1))), some (iv x7)], [], mj J sw lg x) K) ∧ (x7 < x5 → (∃ (c2 : Int) (J1 : Nat → Nat → Int), EE X 0 276 [iv x7] (mj J sw lg x) (.inl (some (iv c2))) (mj J1 sw lg x) ∧ InR c2 ∧ InR x6 ∧ (x6 < c2 → VV X d 10 (128, [some (.ref 536), some (.ref r1), some (.ref r2), o3, some (iv x4), some (iv x5), some (iv x6), some (iv (x7 + 1))], [], mj J1 sw lg x) K) ∧ (c2 ≤ x6 → (∃ (c4 : Int) (J3 : Nat → Nat → Int), EE X 1 11 [.ref 536, .ref r1, .ref r2, iv x6, iv x7] (mj J1 sw lg x) (.inl (some (iv c4))) (mj J3 sw lg x) ∧ (0 ≤ (x6 * 512) + x7 ∧ (x6 * 512) + x7 < 3584) ∧ VV X d 10 (128, [some (.ref 536), some (.ref r1), some (.ref r2), o3, some (iv x4), some (iv x5), some (iv x6), some (iv (x7 + 1))], [], mj (m_up J3 538 (((x6 * 512) + x7).toNat) c4) sw lg x) K))))) : VV X d 10 (128, [some (.ref 536), some (.ref r1), some (.ref r2), o3, some (iv x4), some (iv x5), some (iv x6), some (iv x7)], [], mj J sw lg x) K := by
  refine v_s mt_10 rfl rfl rfl ?_
  refine v_s mt_10 rfl rfl rfl ?_
  obtain ⟨z1, h⟩ := h
  obtain ⟨z2, h⟩ := h
  refine j_if2 mt_10 rfl rfl z1 z2 (fun c => ?_) (fun c => ?_)
  · replace h := h.1 c
    refine j_inc (e := x6 + (-1)) (L' := [some (.ref 536), some (.ref r1), some (.ref r2), o3, some (iv x4), some (iv x5), some (iv (x6 + (-1))), some (iv x7)]) mt_10 rfl rfl (Nat.le_of_ble_eq_true rfl) rfl rfl ?_
    refine v_go mt_10 rfl rfl ?_
    exact h
  · replace h := h.2 (Int.not_le.mp c)
    refine v_s mt_10 rfl rfl rfl ?_
    obtain ⟨c2, J1, z3, h⟩ := h
    refine v_call (d1 := 0) mt_10 rfl rfl mt_276 rfl rfl rfl z3 (by clear h; omega) ?_
    refine v_s mt_10 rfl rfl rfl ?_
    obtain ⟨z4, h⟩ := h
    obtain ⟨z5, h⟩ := h
    refine j_if2 mt_10 rfl rfl z4 z5 (fun c => ?_) (fun c => ?_)
    · replace h := h.1 c
      refine j_inc (e := x7 + 1) (L' := [some (.ref 536), some (.ref r1), some (.ref r2), o3, some (iv x4), some (iv x5), some (iv x6), some (iv (x7 + 1))]) mt_10 rfl rfl (Nat.le_of_ble_eq_true rfl) rfl rfl ?_
      refine v_go mt_10 rfl rfl ?_
      exact h
    · replace h := h.2 (Int.not_lt.mp c)
      refine v_s mt_10 rfl rfl rfl ?_
      refine v_gr (w := 538) 1 mt_10 rfl rfl c_536 (by decide) (g_1_1 c_536) ?_
      refine v_s mt_10 rfl rfl rfl ?_
      refine v_sp (v := Int32.ofInt 512) mt_10 rfl rfl ?_
      refine j_mul (e := x6 * 512) mt_10 rfl rfl ?_
      refine v_s mt_10 rfl rfl rfl ?_
      refine j_add (e := (x6 * 512) + x7) mt_10 rfl rfl ?_
      refine v_s mt_10 rfl rfl rfl ?_
      refine v_s mt_10 rfl rfl rfl ?_
      refine v_s mt_10 rfl rfl rfl ?_
      refine v_s mt_10 rfl rfl rfl ?_
      refine v_s mt_10 rfl rfl rfl ?_
      obtain ⟨c4, J3, z6, h⟩ := h
      refine v_call (d1 := 1) mt_10 rfl rfl mt_11 rfl rfl (m_callj (As := [.ref r1, .ref r2, iv x6, iv x7]) (rest := [iv ((x6 * 512) + x7), .ref 538]) rfl rfl c_536 rfl (Nat.le_of_ble_eq_true rfl) (Nat.le_of_ble_eq_true rfl)) z6 (by clear h; omega) ?_
      obtain ⟨z7, h⟩ := h
      refine j_as mt_10 rfl c_538 z7 (by decide) ?_
      refine j_inc (e := x7 + 1) (L' := [some (.ref 536), some (.ref r1), some (.ref r2), o3, some (iv x4), some (iv x5), some (iv x6), some (iv (x7 + 1))]) mt_10 rfl rfl (Nat.le_of_ble_eq_true rfl) rfl rfl ?_
      refine v_go mt_10 rfl rfl ?_
      exact h
set_option maxHeartbeats 600000 in
theorem b_11_0 {X : Nat × (Nat → Int32)} {d : Nat} {J : Nat → Nat → Int} {sw : Bool × Bool × Bool} {lg : Nat → Nat → Int64} {x : Nat} {K : (Option Value ⊕ Nat) → mM → Prop} {r1 r2 : Nat} {x3 x4 : Int} {o5 o6 : Option Value} (h1 : SH[r1]? = some (11, 9)) (h2 : SH[r2]? = some (14, 12)) (hd : 1 ≤ d)
    (h : (0 ≤ ((x3 + 1) * 512) + x4 ∧ ((x3 + 1) * 512) + x4 < 3584) ∧ (bAnd (bShr (J r1 6) x3) 1 = 0 → VV X d 11 (31, [some (.ref 536), some (.ref r1), some (.ref r2), some (iv x3), some (iv x4), some (iv (J 538 ((((x3 + 1) * 512) + x4).toNat))), some (iv 0)], [], mj J sw lg x) K) ∧ (¬ bAnd (bShr (J r1 6) x3) 1 = 0 → K (.inl (some (iv (J 538 ((((x3 + 1) * 512) + x4).toNat))))) (mj J sw lg x))) : VV X d 11 (0, [some (.ref 536), some (.ref r1), some (.ref r2), some (iv x3), some (iv x4), o5, o6], [], mj J sw lg x) K := by
  refine v_s mt_11 rfl rfl rfl ?_
  refine v_gr (w := 538) 1 mt_11 rfl rfl c_536 (by decide) (g_1_1 c_536) ?_
  refine v_s mt_11 rfl rfl rfl ?_
  refine v_ic (v := Int32.ofInt 1) mt_11 rfl rfl ?_
  refine j_add (e := x3 + 1) mt_11 rfl rfl ?_
  refine v_sp (v := Int32.ofInt 512) mt_11 rfl rfl ?_
  refine j_mul (e := (x3 + 1) * 512) mt_11 rfl rfl ?_
  refine v_s mt_11 rfl rfl rfl ?_
  refine j_add (e := ((x3 + 1) * 512) + x4) mt_11 rfl rfl ?_
  obtain ⟨z1, h⟩ := h
  refine j_al (w := J 538 ((((x3 + 1) * 512) + x4).toNat)) mt_11 rfl c_538 z1 (by decide) rfl ?_
  refine v_is (L' := [some (.ref 536), some (.ref r1), some (.ref r2), some (iv x3), some (iv x4), some (iv (J 538 ((((x3 + 1) * 512) + x4).toNat))), o6]) mt_11 rfl (Nat.le_of_ble_eq_true rfl) rfl ?_
  refine v_s mt_11 rfl rfl rfl ?_
  refine v_s mt_11 rfl rfl rfl ?_
  refine v_inl (L1 := [some (.ref r1), some (iv x3)]) mt_11 rfl rfl mt_47 rfl rfl (m_callj (As := [iv x3]) (rest := []) rfl rfl h1 rfl (Nat.le_of_ble_eq_true rfl) (Nat.le_of_ble_eq_true rfl)) rfl (by clear h; omega) ?_
  refine v_s mt_47 rfl rfl rfl ?_
  refine j_gi (w := J r1 6) 6 mt_47 rfl rfl h1 (by decide) rfl ?_
  refine v_s mt_47 rfl rfl rfl ?_
  refine j_shr (e := bShr (J r1 6) x3) mt_47 rfl rfl ?_
  refine v_ic (v := Int32.ofInt 1) mt_47 rfl rfl ?_
  refine j_and (e := bAnd (bShr (J r1 6) x3) 1) mt_47 rfl rfl ?_
  refine j_if1 mt_47 rfl rfl (inT _) (fun c => ?_) (fun c => ?_)
  · replace h := h.1 c
    refine v_ic (v := Int32.ofInt 0) mt_47 rfl rfl ?_
    refine j_retb mt_47 rfl rfl (by decide) ?_
    refine j_if1 mt_11 rfl rfl ⟨by decide, by decide⟩ (fun _ => ?_) (fun c => (c (show (0 : Int) = 0 by decide)).elim)
    refine v_ic (v := Int32.ofInt 0) mt_11 rfl rfl ?_
    refine v_is (L' := [some (.ref 536), some (.ref r1), some (.ref r2), some (iv x3), some (iv x4), some (iv (J 538 ((((x3 + 1) * 512) + x4).toNat))), some (iv 0)]) mt_11 rfl (Nat.le_of_ble_eq_true rfl) rfl ?_
    exact h
  · replace h := h.2 c
    refine v_ic (v := Int32.ofInt 1) mt_47 rfl rfl ?_
    refine v_go mt_47 rfl rfl ?_
    refine j_retb mt_47 rfl rfl (by decide) ?_
    refine j_if1 mt_11 rfl rfl ⟨by decide, by decide⟩ (fun c => absurd (show (1 : Int) = 0 from c) (by decide)) (fun _ => ?_)
    refine v_s mt_11 rfl rfl rfl ?_
    exact v_ret mt_11 rfl rfl rfl h
set_option maxHeartbeats 600000 in
theorem b_11_31 {X : Nat × (Nat → Int32)} {d : Nat} {J : Nat → Nat → Int} {sw : Bool × Bool × Bool} {lg : Nat → Nat → Int64} {x : Nat} {K : (Option Value ⊕ Nat) → mM → Prop} {r2 : Nat} {x3 x4 x5 x6 : Int} {o1 : Option Value} (h2 : SH[r2]? = some (14, 12)) (hd : 1 ≤ d)
    (h : InR x6 ∧ InR (J r2 2) ∧ (J r2 2 ≤ x6 → K (.inl (some (iv x5))) (mj J sw lg x)) ∧ (x6 < J r2 2 → ((¬ bAnd (bShr x4 x6) 1 = 0 → VV X d 11 (31, [some (.ref 536), o1, some (.ref r2), some (iv x3), some (iv x4), some (iv x5), some (iv (x6 + 1))], [], mj J sw lg x) K) ∧ (bAnd (bShr x4 x6) 1 = 0 → (∃ (c2 : Int) (J1 : Nat → Nat → Int), EE X 0 12 [.ref 536, iv x3, iv x6, iv x4] (mj J sw lg x) (.inl (some (iv c2))) (mj J1 sw lg x) ∧ InR x5 ∧ InR c2 ∧ VV X d 11 (31, [some (.ref 536), o1, some (.ref r2), some (iv x3), some (iv x4), some (iv (max x5 c2)), some (iv (x6 + 1))], [], mj J1 sw lg x) K))))) : VV X d 11 (31, [some (.ref 536), o1, some (.ref r2), some (iv x3), some (iv x4), some (iv x5), some (iv x6)], [], mj J sw lg x) K := by
  refine v_s mt_11 rfl rfl rfl ?_
  refine v_s mt_11 rfl rfl rfl ?_
  refine j_gi (w := J r2 2) 2 mt_11 rfl rfl h2 (by decide) rfl ?_
  obtain ⟨z1, h⟩ := h
  obtain ⟨z2, h⟩ := h
  refine j_if2 mt_11 rfl rfl z1 z2 (fun c => ?_) (fun c => ?_)
  · replace h := h.1 c
    refine v_s mt_11 rfl rfl rfl ?_
    exact v_ret mt_11 rfl rfl rfl h
  · replace h := h.2 (Int.not_le.mp c)
    refine v_s mt_11 rfl rfl rfl ?_
    refine v_s mt_11 rfl rfl rfl ?_
    refine j_shr (e := bShr x4 x6) mt_11 rfl rfl ?_
    refine v_ic (v := Int32.ofInt 1) mt_11 rfl rfl ?_
    refine j_and (e := bAnd (bShr x4 x6) 1) mt_11 rfl rfl ?_
    refine j_if1 mt_11 rfl rfl (inT _) (fun c => ?_) (fun c => ?_)
    · replace h := h.1 c
      refine j_inc (e := x6 + 1) (L' := [some (.ref 536), o1, some (.ref r2), some (iv x3), some (iv x4), some (iv x5), some (iv (x6 + 1))]) mt_11 rfl rfl (Nat.le_of_ble_eq_true rfl) rfl rfl ?_
      refine v_go mt_11 rfl rfl ?_
      exact h
    · replace h := h.2 (Decidable.not_not.mp c)
      refine v_s mt_11 rfl rfl rfl ?_
      refine v_s mt_11 rfl rfl rfl ?_
      refine v_s mt_11 rfl rfl rfl ?_
      refine v_s mt_11 rfl rfl rfl ?_
      refine v_s mt_11 rfl rfl rfl ?_
      obtain ⟨c2, J1, z3, h⟩ := h
      refine v_call (d1 := 0) mt_11 rfl rfl mt_12 rfl rfl (m_callj (As := [iv x3, iv x6, iv x4]) (rest := [iv x5]) rfl rfl c_536 rfl (Nat.le_of_ble_eq_true rfl) (Nat.le_of_ble_eq_true rfl)) z3 (by clear h; omega) ?_
      obtain ⟨z4, h⟩ := h
      obtain ⟨z5, h⟩ := h
      refine j_max mt_11 rfl (Nat.le_of_ble_eq_true rfl) z4 z5 ?_
      refine v_is (L' := [some (.ref 536), o1, some (.ref r2), some (iv x3), some (iv x4), some (iv (max x5 c2)), some (iv x6)]) mt_11 rfl (Nat.le_of_ble_eq_true rfl) rfl ?_
      refine j_inc (e := x6 + 1) (L' := [some (.ref 536), o1, some (.ref r2), some (iv x3), some (iv x4), some (iv (max x5 c2)), some (iv (x6 + 1))]) mt_11 rfl rfl (Nat.le_of_ble_eq_true rfl) rfl rfl ?_
      refine v_go mt_11 rfl rfl ?_
      exact h
set_option maxHeartbeats 600000 in
theorem b_12_0 {X : Nat × (Nat → Int32)} {d : Nat} {J : Nat → Nat → Int} {sw : Bool × Bool × Bool} {lg : Nat → Nat → Int64} {x : Nat} {K : (Option Value ⊕ Nat) → mM → Prop} {x1 x2 x3 : Int}
    (h : (0 ≤ (x1 * 9) + x2 ∧ (x1 * 9) + x2 < 54) ∧ (0 ≤ ((x1 + 1) * 512) + (bOr x3 (bShl 1 x2)) ∧ ((x1 + 1) * 512) + (bOr x3 (bShl 1 x2)) < 3584) ∧ K (.inl (some (iv ((J 537 (((x1 * 9) + x2).toNat)) + (J 538 ((((x1 + 1) * 512) + (bOr x3 (bShl 1 x2))).toNat)))))) (mj J sw lg x)) : VV X d 12 (0, [some (.ref 536), some (iv x1), some (iv x2), some (iv x3)], [], mj J sw lg x) K := by
  refine v_s mt_12 rfl rfl rfl ?_
  refine v_gr (w := 537) 0 mt_12 rfl rfl c_536 (by decide) (g_1_0 c_536) ?_
  refine v_s mt_12 rfl rfl rfl ?_
  refine v_bp (v := Int32.ofInt 9) mt_12 rfl rfl ?_
  refine j_mul (e := x1 * 9) mt_12 rfl rfl ?_
  refine v_s mt_12 rfl rfl rfl ?_
  refine j_add (e := (x1 * 9) + x2) mt_12 rfl rfl ?_
  obtain ⟨z1, h⟩ := h
  refine j_al (w := J 537 (((x1 * 9) + x2).toNat)) mt_12 rfl c_537 z1 (by decide) rfl ?_
  refine v_s mt_12 rfl rfl rfl ?_
  refine v_gr (w := 538) 1 mt_12 rfl rfl c_536 (by decide) (g_1_1 c_536) ?_
  refine v_s mt_12 rfl rfl rfl ?_
  refine v_ic (v := Int32.ofInt 1) mt_12 rfl rfl ?_
  refine j_add (e := x1 + 1) mt_12 rfl rfl ?_
  refine v_sp (v := Int32.ofInt 512) mt_12 rfl rfl ?_
  refine j_mul (e := (x1 + 1) * 512) mt_12 rfl rfl ?_
  refine v_s mt_12 rfl rfl rfl ?_
  refine v_ic (v := Int32.ofInt 1) mt_12 rfl rfl ?_
  refine v_s mt_12 rfl rfl rfl ?_
  refine j_shl (e := bShl 1 x2) mt_12 rfl rfl ?_
  refine j_or (e := bOr x3 (bShl 1 x2)) mt_12 rfl rfl ?_
  refine j_add (e := ((x1 + 1) * 512) + (bOr x3 (bShl 1 x2))) mt_12 rfl rfl ?_
  obtain ⟨z2, h⟩ := h
  refine j_al (w := J 538 ((((x1 + 1) * 512) + (bOr x3 (bShl 1 x2))).toNat)) mt_12 rfl c_538 z2 (by decide) rfl ?_
  refine j_add (e := (J 537 (((x1 * 9) + x2).toNat)) + (J 538 ((((x1 + 1) * 512) + (bOr x3 (bShl 1 x2))).toNat))) mt_12 rfl rfl ?_
  exact v_ret mt_12 rfl rfl rfl h
set_option maxHeartbeats 600000 in
theorem b_14_0 {X : Nat × (Nat → Int32)} {d : Nat} {J : Nat → Nat → Int} {sw : Bool × Bool × Bool} {lg : Nat → Nat → Int64} {x : Nat} {K : (Option Value ⊕ Nat) → mM → Prop} {r1 r2 : Nat} {x3 : Int} {o4 o5 o6 : Option Value} (h1 : SH[r1]? = some (11, 9)) (h2 : SH[r2]? = some (14, 12)) (hd : 2 ≤ d)
    (h : VV X d 14 (9, [some (.ref 536), some (.ref r1), some (.ref r2), some (iv x3), some (iv 0), some (iv (-1)), some (iv 0)], [], mj J sw lg x) K) : VV X d 14 (0, [some (.ref 536), some (.ref r1), some (.ref r2), some (iv x3), o4, o5, o6], [], mj J sw lg x) K := by
  refine v_ic (v := Int32.ofInt 0) mt_14 rfl rfl ?_
  refine v_is (L' := [some (.ref 536), some (.ref r1), some (.ref r2), some (iv x3), some (iv 0), o5, o6]) mt_14 rfl (Nat.le_of_ble_eq_true rfl) rfl ?_
  refine v_ic (v := Int32.ofInt (-1)) mt_14 rfl rfl ?_
  refine v_is (L' := [some (.ref 536), some (.ref r1), some (.ref r2), some (iv x3), some (iv 0), some (iv (-1)), o6]) mt_14 rfl (Nat.le_of_ble_eq_true rfl) rfl ?_
  refine v_ic (v := Int32.ofInt 0) mt_14 rfl rfl ?_
  refine v_is (L' := [some (.ref 536), some (.ref r1), some (.ref r2), some (iv x3), some (iv 0), some (iv (-1)), some (iv 0)]) mt_14 rfl (Nat.le_of_ble_eq_true rfl) rfl ?_
  exact h
set_option maxHeartbeats 600000 in
theorem b_14_9 {X : Nat × (Nat → Int32)} {d : Nat} {J : Nat → Nat → Int} {sw : Bool × Bool × Bool} {lg : Nat → Nat → Int64} {x : Nat} {K : (Option Value ⊕ Nat) → mM → Prop} {r1 r2 : Nat} {x3 x4 x5 x6 : Int} (h1 : SH[r1]? = some (11, 9)) (h2 : SH[r2]? = some (14, 12)) (hd : 2 ≤ d)
    (h : InR x6 ∧ InR x3 ∧ (x3 < x6 → K (.inl (some (iv x5))) (mj J sw lg x)) ∧ (x6 ≤ x3 → (InR (J r2 1) ∧ (J r2 1 ≤ x6 → K (.inl (some (iv x5))) (mj J sw lg x)) ∧ (x6 < J r2 1 → (∃ (c2 : Int) (J1 : Nat → Nat → Int), EE X 1 15 [.ref 536, .ref r1, .ref r2, iv x6, iv x4] (mj J sw lg x) (.inl (some (iv c2))) (mj J1 sw lg x) ∧ InR c2 ∧ (c2 = (-1) → VV X d 14 (9, [some (.ref 536), some (.ref r1), some (.ref r2), some (iv x3), some (iv x4), some (iv c2), some (iv (x6 + 1))], [], mj J1 sw lg x) K) ∧ (¬ c2 = (-1) → VV X d 14 (9, [some (.ref 536), some (.ref r1), some (.ref r2), some (iv x3), some (iv (bOr x4 (bShl 1 c2))), some (iv c2), some (iv (x6 + 1))], [], mj J1 sw lg x) K)))))) : VV X d 14 (9, [some (.ref 536), some (.ref r1), some (.ref r2), some (iv x3), some (iv x4), some (iv x5), some (iv x6)], [], mj J sw lg x) K := by
  refine v_s mt_14 rfl rfl rfl ?_
  refine v_s mt_14 rfl rfl rfl ?_
  obtain ⟨z1, h⟩ := h
  obtain ⟨z2, h⟩ := h
  refine j_if2 mt_14 rfl rfl z1 z2 (fun c => ?_) (fun c => ?_)
  · replace h := h.1 c
    refine v_s mt_14 rfl rfl rfl ?_
    exact v_ret mt_14 rfl rfl rfl h
  · replace h := h.2 (Int.not_lt.mp c)
    refine v_s mt_14 rfl rfl rfl ?_
    refine v_s mt_14 rfl rfl rfl ?_
    refine j_gi (w := J r2 1) 1 mt_14 rfl rfl h2 (by decide) rfl ?_
    obtain ⟨z3, h⟩ := h
    refine j_if2 mt_14 rfl rfl z1 z3 (fun c => ?_) (fun c => ?_)
    · replace h := h.1 c
      refine v_s mt_14 rfl rfl rfl ?_
      exact v_ret mt_14 rfl rfl rfl h
    · replace h := h.2 (Int.not_le.mp c)
      refine v_s mt_14 rfl rfl rfl ?_
      refine v_s mt_14 rfl rfl rfl ?_
      refine v_s mt_14 rfl rfl rfl ?_
      refine v_s mt_14 rfl rfl rfl ?_
      refine v_s mt_14 rfl rfl rfl ?_
      obtain ⟨c2, J1, z4, h⟩ := h
      refine v_call (d1 := 1) mt_14 rfl rfl mt_15 rfl rfl (m_callj (As := [.ref r1, .ref r2, iv x6, iv x4]) (rest := []) rfl rfl c_536 rfl (Nat.le_of_ble_eq_true rfl) (Nat.le_of_ble_eq_true rfl)) z4 (by clear h; omega) ?_
      refine v_is (L' := [some (.ref 536), some (.ref r1), some (.ref r2), some (iv x3), some (iv x4), some (iv c2), some (iv x6)]) mt_14 rfl (Nat.le_of_ble_eq_true rfl) rfl ?_
      refine v_s mt_14 rfl rfl rfl ?_
      refine v_ic (v := Int32.ofInt (-1)) mt_14 rfl rfl ?_
      obtain ⟨z5, h⟩ := h
      refine j_if2 mt_14 rfl rfl z5 ⟨by decide, by decide⟩ (fun c => ?_) (fun c => ?_)
      · replace h := h.1 c
        refine j_inc (e := x6 + 1) (L' := [some (.ref 536), some (.ref r1), some (.ref r2), some (iv x3), some (iv x4), some (iv c2), some (iv (x6 + 1))]) mt_14 rfl rfl (Nat.le_of_ble_eq_true rfl) rfl rfl ?_
        refine v_go mt_14 rfl rfl ?_
        exact h
      · replace h := h.2 c
        refine v_s mt_14 rfl rfl rfl ?_
        refine v_ic (v := Int32.ofInt 1) mt_14 rfl rfl ?_
        refine v_s mt_14 rfl rfl rfl ?_
        refine j_shl (e := bShl 1 c2) mt_14 rfl rfl ?_
        refine j_or (e := bOr x4 (bShl 1 c2)) mt_14 rfl rfl ?_
        refine v_is (L' := [some (.ref 536), some (.ref r1), some (.ref r2), some (iv x3), some (iv (bOr x4 (bShl 1 c2))), some (iv c2), some (iv x6)]) mt_14 rfl (Nat.le_of_ble_eq_true rfl) rfl ?_
        refine j_inc (e := x6 + 1) (L' := [some (.ref 536), some (.ref r1), some (.ref r2), some (iv x3), some (iv (bOr x4 (bShl 1 c2))), some (iv c2), some (iv (x6 + 1))]) mt_14 rfl rfl (Nat.le_of_ble_eq_true rfl) rfl rfl ?_
        refine v_go mt_14 rfl rfl ?_
        exact h
set_option maxHeartbeats 600000 in
theorem b_15_0 {X : Nat × (Nat → Int32)} {d : Nat} {J : Nat → Nat → Int} {sw : Bool × Bool × Bool} {lg : Nat → Nat → Int64} {x : Nat} {K : (Option Value ⊕ Nat) → mM → Prop} {r1 r2 : Nat} {x3 x4 : Int} {o5 : Option Value} (h1 : SH[r1]? = some (11, 9)) (h2 : SH[r2]? = some (14, 12)) (hd : 1 ≤ d)
    (h : (bAnd (bShr (J r1 6) x3) 1 = 0 → VV X d 15 (13, [some (.ref 536), some (.ref r1), some (.ref r2), some (iv x3), some (iv x4), some (iv 0)], [], mj J sw lg x) K) ∧ (¬ bAnd (bShr (J r1 6) x3) 1 = 0 → K (.inl (some (iv (-1)))) (mj J sw lg x))) : VV X d 15 (0, [some (.ref 536), some (.ref r1), some (.ref r2), some (iv x3), some (iv x4), o5], [], mj J sw lg x) K := by
  refine v_s mt_15 rfl rfl rfl ?_
  refine v_s mt_15 rfl rfl rfl ?_
  refine v_inl (L1 := [some (.ref r1), some (iv x3)]) mt_15 rfl rfl mt_47 rfl rfl (m_callj (As := [iv x3]) (rest := []) rfl rfl h1 rfl (Nat.le_of_ble_eq_true rfl) (Nat.le_of_ble_eq_true rfl)) rfl (by clear h; omega) ?_
  refine v_s mt_47 rfl rfl rfl ?_
  refine j_gi (w := J r1 6) 6 mt_47 rfl rfl h1 (by decide) rfl ?_
  refine v_s mt_47 rfl rfl rfl ?_
  refine j_shr (e := bShr (J r1 6) x3) mt_47 rfl rfl ?_
  refine v_ic (v := Int32.ofInt 1) mt_47 rfl rfl ?_
  refine j_and (e := bAnd (bShr (J r1 6) x3) 1) mt_47 rfl rfl ?_
  refine j_if1 mt_47 rfl rfl (inT _) (fun c => ?_) (fun c => ?_)
  · replace h := h.1 c
    refine v_ic (v := Int32.ofInt 0) mt_47 rfl rfl ?_
    refine j_retb mt_47 rfl rfl (by decide) ?_
    refine j_if1 mt_15 rfl rfl ⟨by decide, by decide⟩ (fun _ => ?_) (fun c => (c (show (0 : Int) = 0 by decide)).elim)
    refine v_ic (v := Int32.ofInt 0) mt_15 rfl rfl ?_
    refine v_is (L' := [some (.ref 536), some (.ref r1), some (.ref r2), some (iv x3), some (iv x4), some (iv 0)]) mt_15 rfl (Nat.le_of_ble_eq_true rfl) rfl ?_
    exact h
  · replace h := h.2 c
    refine v_ic (v := Int32.ofInt 1) mt_47 rfl rfl ?_
    refine v_go mt_47 rfl rfl ?_
    refine j_retb mt_47 rfl rfl (by decide) ?_
    refine j_if1 mt_15 rfl rfl ⟨by decide, by decide⟩ (fun c => absurd (show (1 : Int) = 0 from c) (by decide)) (fun _ => ?_)
    refine v_ic (v := Int32.ofInt (-1)) mt_15 rfl rfl ?_
    exact v_ret mt_15 rfl rfl rfl h
set_option maxHeartbeats 600000 in
theorem b_15_13 {X : Nat × (Nat → Int32)} {d : Nat} {J : Nat → Nat → Int} {sw : Bool × Bool × Bool} {lg : Nat → Nat → Int64} {x : Nat} {K : (Option Value ⊕ Nat) → mM → Prop} {r2 : Nat} {x3 x4 x5 : Int} {o1 : Option Value} (h2 : SH[r2]? = some (14, 12)) (hd : 1 ≤ d)
    (h : InR x5 ∧ InR (J r2 2) ∧ (J r2 2 ≤ x5 → K (.inl (some (iv (-1)))) (mj J sw lg x)) ∧ (x5 < J r2 2 → ((¬ bAnd (bShr x4 x5) 1 = 0 → VV X d 15 (13, [some (.ref 536), o1, some (.ref r2), some (iv x3), some (iv x4), some (iv (x5 + 1))], [], mj J sw lg x) K) ∧ (bAnd (bShr x4 x5) 1 = 0 → (∃ (c2 : Int) (J1 : Nat → Nat → Int), EE X 0 12 [.ref 536, iv x3, iv x5, iv x4] (mj J sw lg x) (.inl (some (iv c2))) (mj J1 sw lg x) ∧ (0 ≤ (x3 * 512) + x4 ∧ (x3 * 512) + x4 < 3584) ∧ InR c2 ∧ InR (J1 538 (((x3 * 512) + x4).toNat)) ∧ (¬ c2 = J1 538 (((x3 * 512) + x4).toNat) → VV X d 15 (13, [some (.ref 536), o1, some (.ref r2), some (iv x3), some (iv x4), some (iv (x5 + 1))], [], mj J1 sw lg x) K) ∧ (c2 = J1 538 (((x3 * 512) + x4).toNat) → K (.inl (some (iv x5))) (mj J1 sw lg x))))))) : VV X d 15 (13, [some (.ref 536), o1, some (.ref r2), some (iv x3), some (iv x4), some (iv x5)], [], mj J sw lg x) K := by
  refine v_s mt_15 rfl rfl rfl ?_
  refine v_s mt_15 rfl rfl rfl ?_
  refine j_gi (w := J r2 2) 2 mt_15 rfl rfl h2 (by decide) rfl ?_
  obtain ⟨z1, h⟩ := h
  obtain ⟨z2, h⟩ := h
  refine j_if2 mt_15 rfl rfl z1 z2 (fun c => ?_) (fun c => ?_)
  · replace h := h.1 c
    refine v_ic (v := Int32.ofInt (-1)) mt_15 rfl rfl ?_
    exact v_ret mt_15 rfl rfl rfl h
  · replace h := h.2 (Int.not_le.mp c)
    refine v_s mt_15 rfl rfl rfl ?_
    refine v_s mt_15 rfl rfl rfl ?_
    refine j_shr (e := bShr x4 x5) mt_15 rfl rfl ?_
    refine v_ic (v := Int32.ofInt 1) mt_15 rfl rfl ?_
    refine j_and (e := bAnd (bShr x4 x5) 1) mt_15 rfl rfl ?_
    refine j_if1 mt_15 rfl rfl (inT _) (fun c => ?_) (fun c => ?_)
    · replace h := h.1 c
      refine j_inc (e := x5 + 1) (L' := [some (.ref 536), o1, some (.ref r2), some (iv x3), some (iv x4), some (iv (x5 + 1))]) mt_15 rfl rfl (Nat.le_of_ble_eq_true rfl) rfl rfl ?_
      refine v_go mt_15 rfl rfl ?_
      exact h
    · replace h := h.2 (Decidable.not_not.mp c)
      refine v_s mt_15 rfl rfl rfl ?_
      refine v_s mt_15 rfl rfl rfl ?_
      refine v_s mt_15 rfl rfl rfl ?_
      refine v_s mt_15 rfl rfl rfl ?_
      obtain ⟨c2, J1, z3, h⟩ := h
      refine v_call (d1 := 0) mt_15 rfl rfl mt_12 rfl rfl (m_callj (As := [iv x3, iv x5, iv x4]) (rest := []) rfl rfl c_536 rfl (Nat.le_of_ble_eq_true rfl) (Nat.le_of_ble_eq_true rfl)) z3 (by clear h; omega) ?_
      refine v_s mt_15 rfl rfl rfl ?_
      refine v_gr (w := 538) 1 mt_15 rfl rfl c_536 (by decide) (g_1_1 c_536) ?_
      refine v_s mt_15 rfl rfl rfl ?_
      refine v_sp (v := Int32.ofInt 512) mt_15 rfl rfl ?_
      refine j_mul (e := x3 * 512) mt_15 rfl rfl ?_
      refine v_s mt_15 rfl rfl rfl ?_
      refine j_add (e := (x3 * 512) + x4) mt_15 rfl rfl ?_
      obtain ⟨z4, h⟩ := h
      refine j_al (w := J1 538 (((x3 * 512) + x4).toNat)) mt_15 rfl c_538 z4 (by decide) rfl ?_
      obtain ⟨z5, h⟩ := h
      obtain ⟨z6, h⟩ := h
      refine j_if2 mt_15 rfl rfl z5 z6 (fun c => ?_) (fun c => ?_)
      · replace h := h.1 c
        refine j_inc (e := x5 + 1) (L' := [some (.ref 536), o1, some (.ref r2), some (iv x3), some (iv x4), some (iv (x5 + 1))]) mt_15 rfl rfl (Nat.le_of_ble_eq_true rfl) rfl rfl ?_
        refine v_go mt_15 rfl rfl ?_
        exact h
      · replace h := h.2 (Decidable.not_not.mp c)
        refine v_s mt_15 rfl rfl rfl ?_
        exact v_ret mt_15 rfl rfl rfl h
set_option maxHeartbeats 600000 in
theorem b_239_0 {X : Nat × (Nat → Int32)} {d : Nat} {J : Nat → Nat → Int} {sw : Bool × Bool × Bool} {lg : Nat → Nat → Int64} {x : Nat} {K : (Option Value ⊕ Nat) → mM → Prop} {x1 : Int} {o2 o3 o4 o5 : Option Value} (hd : 5 ≤ d)
    (h : ∃ (J1 : Nat → Nat → Int), EE X 1 204 [.ref 542] (mj J sw lg x) (.inl none) (mj J1 sw lg x) ∧ VV X d 239 (6, [some (.ref 542), some (iv x1), some (iv 0), o3, o4, o5], [], mj J1 sw lg x) K) : VV X d 239 (0, [some (.ref 542), some (iv x1), o2, o3, o4, o5], [], mj J sw lg x) K := by
  refine v_s mt_239 rfl rfl rfl ?_
  obtain ⟨J1, z1, h⟩ := h
  refine v_call (d1 := 1) mt_239 rfl rfl mt_204 rfl rfl (m_callj (As := []) (rest := []) rfl rfl c_542 rfl (Nat.le_of_ble_eq_true rfl) (Nat.le_of_ble_eq_true rfl)) z1 (by clear h; omega) ?_
  refine v_ic (v := Int32.ofInt 0) mt_239 rfl rfl ?_
  refine v_isn (L' := [some (.ref 542), some (iv x1), some (iv 0), o3, o4, o5]) mt_239 rfl (Nat.le_of_ble_eq_true rfl) rfl ?_
  exact h
set_option maxHeartbeats 600000 in
theorem b_239_6 {X : Nat × (Nat → Int32)} {d : Nat} {J : Nat → Nat → Int} {sw : Bool × Bool × Bool} {lg : Nat → Nat → Int64} {x : Nat} {K : (Option Value ⊕ Nat) → mM → Prop} {x1 x2 : Int} {o3 o4 o5 : Option Value} (hd : 5 ≤ d)
    (h : InR x2 ∧ InR (J 542 25) ∧ (J 542 25 ≤ x2 → VV X d 239 (86, [some (.ref 542), some (iv x1), some (iv 0), o3, o4, o5], [], mj J sw lg x) K) ∧ (x2 < J 542 25 → VV X d 239 (16, [some (.ref 542), some (iv x1), some (iv x2), some (iv 0), o4, o5], [], mj J sw lg x) K)) : VV X d 239 (6, [some (.ref 542), some (iv x1), some (iv x2), o3, o4, o5], [], mj J sw lg x) K := by
  refine v_s mt_239 rfl rfl rfl ?_
  refine v_s mt_239 rfl rfl rfl ?_
  refine j_gi (w := J 542 25) 25 mt_239 rfl rfl c_542 (by decide) rfl ?_
  obtain ⟨z1, h⟩ := h
  obtain ⟨z2, h⟩ := h
  refine j_if2 mt_239 rfl rfl z1 z2 (fun c => ?_) (fun c => ?_)
  · replace h := h.1 c
    refine v_ic (v := Int32.ofInt 0) mt_239 rfl rfl ?_
    refine v_isn (L' := [some (.ref 542), some (iv x1), some (iv 0), o3, o4, o5]) mt_239 rfl (Nat.le_of_ble_eq_true rfl) rfl ?_
    exact h
  · replace h := h.2 (Int.not_le.mp c)
    refine v_ic (v := Int32.ofInt 0) mt_239 rfl rfl ?_
    refine v_isn (L' := [some (.ref 542), some (iv x1), some (iv x2), some (iv 0), o4, o5]) mt_239 rfl (Nat.le_of_ble_eq_true rfl) rfl ?_
    exact h
set_option maxHeartbeats 600000 in
theorem b_239_86 {X : Nat × (Nat → Int32)} {d : Nat} {J : Nat → Nat → Int} {sw : Bool × Bool × Bool} {lg : Nat → Nat → Int64} {x : Nat} {K : (Option Value ⊕ Nat) → mM → Prop} {x1 x2 : Int} {o3 o4 o5 : Option Value} (hd : 5 ≤ d)
    (h : InR x2 ∧ (bShl 1 (J 542 26) ≤ x2 → VV X d 239 (124, [some (.ref 542), some (iv x1), some (iv ((J 542 25) - 1)), o3, o4, o5], [], mj J sw lg x) K) ∧ (x2 < bShl 1 (J 542 26) → ((0 ≤ bOr (bShl (J 542 25) 9) x2 ∧ bOr (bShl (J 542 25) 9) x2 < 3584) ∧ VV X d 239 (86, [some (.ref 542), some (iv x1), some (iv (x2 + 1)), o3, o4, o5], [], mj (m_up J 566 ((bOr (bShl (J 542 25) 9) x2).toNat) 0) sw lg x) K))) : VV X d 239 (86, [some (.ref 542), some (iv x1), some (iv x2), o3, o4, o5], [], mj J sw lg x) K := by
  refine v_s mt_239 rfl rfl rfl ?_
  refine v_ic (v := Int32.ofInt 1) mt_239 rfl rfl ?_
  refine v_s mt_239 rfl rfl rfl ?_
  refine j_gi (w := J 542 26) 26 mt_239 rfl rfl c_542 (by decide) rfl ?_
  refine j_shl (e := bShl 1 (J 542 26)) mt_239 rfl rfl ?_
  obtain ⟨z1, h⟩ := h
  refine j_if2 mt_239 rfl rfl z1 (inT _) (fun c => ?_) (fun c => ?_)
  · replace h := h.1 c
    refine v_s mt_239 rfl rfl rfl ?_
    refine j_gi (w := J 542 25) 25 mt_239 rfl rfl c_542 (by decide) rfl ?_
    refine v_ic (v := Int32.ofInt 1) mt_239 rfl rfl ?_
    refine j_sub (e := (J 542 25) - 1) mt_239 rfl rfl ?_
    refine v_isn (L' := [some (.ref 542), some (iv x1), some (iv ((J 542 25) - 1)), o3, o4, o5]) mt_239 rfl (Nat.le_of_ble_eq_true rfl) rfl ?_
    exact h
  · replace h := h.2 (Int.not_le.mp c)
    refine v_s mt_239 rfl rfl rfl ?_
    refine v_gr (w := 566) 51 mt_239 rfl rfl c_542 (by decide) (g_12_51 c_542) ?_
    refine v_s mt_239 rfl rfl rfl ?_
    refine j_gi (w := J 542 25) 25 mt_239 rfl rfl c_542 (by decide) rfl ?_
    refine v_bp (v := Int32.ofInt 9) mt_239 rfl rfl ?_
    refine j_shl (e := bShl (J 542 25) 9) mt_239 rfl rfl ?_
    refine v_s mt_239 rfl rfl rfl ?_
    refine j_or (e := bOr (bShl (J 542 25) 9) x2) mt_239 rfl rfl ?_
    refine v_ic (v := Int32.ofInt 0) mt_239 rfl rfl ?_
    obtain ⟨z2, h⟩ := h
    refine j_as mt_239 rfl c_566 z2 (by decide) ?_
    refine j_inc (e := x2 + 1) (L' := [some (.ref 542), some (iv x1), some (iv (x2 + 1)), o3, o4, o5]) mt_239 rfl rfl (Nat.le_of_ble_eq_true rfl) rfl rfl ?_
    refine v_go mt_239 rfl rfl ?_
    exact h
set_option maxHeartbeats 600000 in
theorem b_239_16 {X : Nat × (Nat → Int32)} {d : Nat} {J : Nat → Nat → Int} {sw : Bool × Bool × Bool} {lg : Nat → Nat → Int64} {x : Nat} {K : (Option Value ⊕ Nat) → mM → Prop} {x1 x2 x3 : Int} {o4 o5 : Option Value} (hd : 5 ≤ d)
    (h : InR x3 ∧ InR (J 542 26) ∧ (J 542 26 ≤ x3 → VV X d 239 (6, [some (.ref 542), some (iv x1), some (iv (x2 + 1)), some (iv x3), o4, o5], [], mj J sw lg x) K) ∧ (x3 < J 542 26 → (∃ (c2 : Int) (J1 : Nat → Nat → Int), EE X 4 207 [.ref 542, iv x2, iv x1, iv x3] (mj J sw lg x) (.inl (some (iv c2))) (mj J1 sw lg x) ∧ (0 ≤ 30 + x3 ∧ 30 + x3 < 50) ∧ InR c2 ∧ InR (J1 562 ((30 + x3).toNat)) ∧ (c2 ≤ J1 562 ((30 + x3).toNat) → ((0 ≤ (9 * x2) + x3 ∧ (9 * x2) + x3 < 54) ∧ VV X d 239 (16, [some (.ref 542), some (iv x1), some (iv x2), some (iv (x3 + 1)), some (iv c2), o5], [], mj (m_up J1 567 (((9 * x2) + x3).toNat) c2) sw lg x) K)) ∧ (J1 562 ((30 + x3).toNat) < c2 → ((0 ≤ (9 * x2) + x3 ∧ (9 * x2) + x3 < 54) ∧ VV X d 239 (16, [some (.ref 542), some (iv x1), some (iv x2), some (iv (x3 + 1)), some (iv c2), o5], [], mj (m_up J1 567 (((9 * x2) + x3).toNat) (J1 562 ((30 + x3).toNat))) sw lg x) K))))) : VV X d 239 (16, [some (.ref 542), some (iv x1), some (iv x2), some (iv x3), o4, o5], [], mj J sw lg x) K := by
  refine v_s mt_239 rfl rfl rfl ?_
  refine v_s mt_239 rfl rfl rfl ?_
  refine j_gi (w := J 542 26) 26 mt_239 rfl rfl c_542 (by decide) rfl ?_
  obtain ⟨z1, h⟩ := h
  obtain ⟨z2, h⟩ := h
  refine j_if2 mt_239 rfl rfl z1 z2 (fun c => ?_) (fun c => ?_)
  · replace h := h.1 c
    refine j_inc (e := x2 + 1) (L' := [some (.ref 542), some (iv x1), some (iv (x2 + 1)), some (iv x3), o4, o5]) mt_239 rfl rfl (Nat.le_of_ble_eq_true rfl) rfl rfl ?_
    refine v_go mt_239 rfl rfl ?_
    exact h
  · replace h := h.2 (Int.not_le.mp c)
    refine v_s mt_239 rfl rfl rfl ?_
    refine v_s mt_239 rfl rfl rfl ?_
    refine v_s mt_239 rfl rfl rfl ?_
    refine v_s mt_239 rfl rfl rfl ?_
    obtain ⟨c2, J1, z3, h⟩ := h
    refine v_call (d1 := 4) mt_239 rfl rfl mt_207 rfl rfl (m_callj (As := [iv x2, iv x1, iv x3]) (rest := []) rfl rfl c_542 rfl (Nat.le_of_ble_eq_true rfl) (Nat.le_of_ble_eq_true rfl)) z3 (by clear h; omega) ?_
    refine v_is (L' := [some (.ref 542), some (iv x1), some (iv x2), some (iv x3), some (iv c2), o5]) mt_239 rfl (Nat.le_of_ble_eq_true rfl) rfl ?_
    refine v_s mt_239 rfl rfl rfl ?_
    refine v_gr (w := 567) 52 mt_239 rfl rfl c_542 (by decide) (g_12_52 c_542) ?_
    refine v_bp (v := Int32.ofInt 9) mt_239 rfl rfl ?_
    refine v_s mt_239 rfl rfl rfl ?_
    refine j_mul (e := 9 * x2) mt_239 rfl rfl ?_
    refine v_s mt_239 rfl rfl rfl ?_
    refine j_add (e := (9 * x2) + x3) mt_239 rfl rfl ?_
    refine v_s mt_239 rfl rfl rfl ?_
    refine v_s mt_239 rfl rfl rfl ?_
    refine v_gr (w := 562) 46 mt_239 rfl rfl c_542 (by decide) (g_12_46 c_542) ?_
    refine v_bp (v := Int32.ofInt 30) mt_239 rfl rfl ?_
    refine v_s mt_239 rfl rfl rfl ?_
    refine j_add (e := 30 + x3) mt_239 rfl rfl ?_
    obtain ⟨z4, h⟩ := h
    refine j_al (w := J1 562 ((30 + x3).toNat)) mt_239 rfl c_562 z4 (by decide) rfl ?_
    obtain ⟨z5, h⟩ := h
    obtain ⟨z6, h⟩ := h
    refine j_if2 mt_239 rfl rfl z5 z6 (fun c => ?_) (fun c => ?_)
    · replace h := h.1 c
      refine v_s mt_239 rfl rfl rfl ?_
      obtain ⟨z7, h⟩ := h
      refine j_as mt_239 rfl c_567 z7 (by decide) ?_
      refine j_inc (e := x3 + 1) (L' := [some (.ref 542), some (iv x1), some (iv x2), some (iv (x3 + 1)), some (iv c2), o5]) mt_239 rfl rfl (Nat.le_of_ble_eq_true rfl) rfl rfl ?_
      refine v_go mt_239 rfl rfl ?_
      exact h
    · replace h := h.2 (Int.not_le.mp c)
      refine v_s mt_239 rfl rfl rfl ?_
      refine v_gr (w := 562) 46 mt_239 rfl rfl c_542 (by decide) (g_12_46 c_542) ?_
      refine v_bp (v := Int32.ofInt 30) mt_239 rfl rfl ?_
      refine v_s mt_239 rfl rfl rfl ?_
      refine j_add (e := 30 + x3) mt_239 rfl rfl ?_
      refine j_al (w := J1 562 ((30 + x3).toNat)) mt_239 rfl c_562 z4 (by decide) rfl ?_
      refine v_go mt_239 rfl rfl ?_
      obtain ⟨z8, h⟩ := h
      refine j_as mt_239 rfl c_567 z8 (by decide) ?_
      refine j_inc (e := x3 + 1) (L' := [some (.ref 542), some (iv x1), some (iv x2), some (iv (x3 + 1)), some (iv c2), o5]) mt_239 rfl rfl (Nat.le_of_ble_eq_true rfl) rfl rfl ?_
      refine v_go mt_239 rfl rfl ?_
      exact h
set_option maxHeartbeats 600000 in
theorem b_239_124 {X : Nat × (Nat → Int32)} {d : Nat} {J : Nat → Nat → Int} {sw : Bool × Bool × Bool} {lg : Nat → Nat → Int64} {x : Nat} {K : (Option Value ⊕ Nat) → mM → Prop} {x1 x2 : Int} {o3 o4 o5 : Option Value} (hd : 5 ≤ d)
    (h : InR x2 ∧ (x2 < 0 → VV X d 239 (242, [some (.ref 542), some (iv x1), some (iv 0), some (iv 0), o4, o5], [], mj J sw lg x) K) ∧ (0 ≤ x2 → VV X d 239 (130, [some (.ref 542), some (iv x1), some (iv x2), some (iv 0), o4, o5], [], mj J sw lg x) K)) : VV X d 239 (124, [some (.ref 542), some (iv x1), some (iv x2), o3, o4, o5], [], mj J sw lg x) K := by
  refine v_s mt_239 rfl rfl rfl ?_
  obtain ⟨z1, h⟩ := h
  refine j_if1 mt_239 rfl rfl z1 (fun c => ?_) (fun c => ?_)
  · replace h := h.1 c
    refine v_ic (v := Int32.ofInt 0) mt_239 rfl rfl ?_
    refine v_isn (L' := [some (.ref 542), some (iv x1), some (iv 0), o3, o4, o5]) mt_239 rfl (Nat.le_of_ble_eq_true rfl) rfl ?_
    refine v_ic (v := Int32.ofInt 0) mt_239 rfl rfl ?_
    refine v_isn (L' := [some (.ref 542), some (iv x1), some (iv 0), some (iv 0), o4, o5]) mt_239 rfl (Nat.le_of_ble_eq_true rfl) rfl ?_
    exact h
  · replace h := h.2 (Int.not_lt.mp c)
    refine v_ic (v := Int32.ofInt 0) mt_239 rfl rfl ?_
    refine v_isn (L' := [some (.ref 542), some (iv x1), some (iv x2), some (iv 0), o4, o5]) mt_239 rfl (Nat.le_of_ble_eq_true rfl) rfl ?_
    exact h
set_option maxHeartbeats 600000 in
theorem b_239_242 {X : Nat × (Nat → Int32)} {d : Nat} {J : Nat → Nat → Int} {sw : Bool × Bool × Bool} {lg : Nat → Nat → Int64} {x : Nat} {K : (Option Value ⊕ Nat) → mM → Prop} {x1 x2 x3 : Int} {o4 o5 : Option Value} (hd : 5 ≤ d)
    (h : InR x3 ∧ InR (J 542 25) ∧ (J 542 25 ≤ x3 → K (.inl none) (mj J sw lg x)) ∧ (x3 < J 542 25 → ((0 ≤ x3 ∧ x3 < 6) ∧ VV X d 239 (265, [some (.ref 542), some (iv x1), some (iv x2), some (iv x3), some (iv ((J 542 26) - 1)), o5], [], mj (m_up J 568 x3.toNat (-1)) sw lg x) K))) : VV X d 239 (242, [some (.ref 542), some (iv x1), some (iv x2), some (iv x3), o4, o5], [], mj J sw lg x) K := by
  refine v_s mt_239 rfl rfl rfl ?_
  refine v_s mt_239 rfl rfl rfl ?_
  refine j_gi (w := J 542 25) 25 mt_239 rfl rfl c_542 (by decide) rfl ?_
  obtain ⟨z1, h⟩ := h
  obtain ⟨z2, h⟩ := h
  refine j_if2 mt_239 rfl rfl z1 z2 (fun c => ?_) (fun c => ?_)
  · replace h := h.1 c
    exact v_ret mt_239 rfl rfl rfl h
  · replace h := h.2 (Int.not_le.mp c)
    refine v_s mt_239 rfl rfl rfl ?_
    refine v_gr (w := 568) 53 mt_239 rfl rfl c_542 (by decide) (g_12_53 c_542) ?_
    refine v_s mt_239 rfl rfl rfl ?_
    refine v_ic (v := Int32.ofInt (-1)) mt_239 rfl rfl ?_
    obtain ⟨z3, h⟩ := h
    refine j_as mt_239 rfl c_568 z3 (by decide) ?_
    refine v_s mt_239 rfl rfl rfl ?_
    refine j_gi (w := J 542 26) 26 mt_239 rfl rfl c_542 (by decide) ((up_na (by decide)).trans rfl) ?_
    refine v_ic (v := Int32.ofInt 1) mt_239 rfl rfl ?_
    refine j_sub (e := (J 542 26) - 1) mt_239 rfl rfl ?_
    refine v_is (L' := [some (.ref 542), some (iv x1), some (iv x2), some (iv x3), some (iv ((J 542 26) - 1)), o5]) mt_239 rfl (Nat.le_of_ble_eq_true rfl) rfl ?_
    exact h
set_option maxHeartbeats 600000 in
theorem b_239_130 {X : Nat × (Nat → Int32)} {d : Nat} {J : Nat → Nat → Int} {sw : Bool × Bool × Bool} {lg : Nat → Nat → Int64} {x : Nat} {K : (Option Value ⊕ Nat) → mM → Prop} {x1 x2 x3 : Int} {o4 o5 : Option Value} (hd : 5 ≤ d)
    (h : InR x3 ∧ (bShl 1 (J 542 26) ≤ x3 → VV X d 239 (124, [some (.ref 542), some (iv x1), some (iv (x2 + (-1))), some (iv x3), o4, o5], [], mj J sw lg x) K) ∧ (x3 < bShl 1 (J 542 26) → ((0 ≤ bOr (bShl (x2 + 1) 9) x3 ∧ bOr (bShl (x2 + 1) 9) x3 < 3584) ∧ VV X d 239 (158, [some (.ref 542), some (iv x1), some (iv x2), some (iv x3), some (iv (J 566 ((bOr (bShl (x2 + 1) 9) x3).toNat))), some (iv 0)], [], mj J sw lg x) K))) : VV X d 239 (130, [some (.ref 542), some (iv x1), some (iv x2), some (iv x3), o4, o5], [], mj J sw lg x) K := by
  refine v_s mt_239 rfl rfl rfl ?_
  refine v_ic (v := Int32.ofInt 1) mt_239 rfl rfl ?_
  refine v_s mt_239 rfl rfl rfl ?_
  refine j_gi (w := J 542 26) 26 mt_239 rfl rfl c_542 (by decide) rfl ?_
  refine j_shl (e := bShl 1 (J 542 26)) mt_239 rfl rfl ?_
  obtain ⟨z1, h⟩ := h
  refine j_if2 mt_239 rfl rfl z1 (inT _) (fun c => ?_) (fun c => ?_)
  · replace h := h.1 c
    refine j_inc (e := x2 + (-1)) (L' := [some (.ref 542), some (iv x1), some (iv (x2 + (-1))), some (iv x3), o4, o5]) mt_239 rfl rfl (Nat.le_of_ble_eq_true rfl) rfl rfl ?_
    refine v_go mt_239 rfl rfl ?_
    exact h
  · replace h := h.2 (Int.not_le.mp c)
    refine v_s mt_239 rfl rfl rfl ?_
    refine v_gr (w := 566) 51 mt_239 rfl rfl c_542 (by decide) (g_12_51 c_542) ?_
    refine v_s mt_239 rfl rfl rfl ?_
    refine v_ic (v := Int32.ofInt 1) mt_239 rfl rfl ?_
    refine j_add (e := x2 + 1) mt_239 rfl rfl ?_
    refine v_bp (v := Int32.ofInt 9) mt_239 rfl rfl ?_
    refine j_shl (e := bShl (x2 + 1) 9) mt_239 rfl rfl ?_
    refine v_s mt_239 rfl rfl rfl ?_
    refine j_or (e := bOr (bShl (x2 + 1) 9) x3) mt_239 rfl rfl ?_
    obtain ⟨z2, h⟩ := h
    refine j_al (w := J 566 ((bOr (bShl (x2 + 1) 9) x3).toNat)) mt_239 rfl c_566 z2 (by decide) rfl ?_
    refine v_is (L' := [some (.ref 542), some (iv x1), some (iv x2), some (iv x3), some (iv (J 566 ((bOr (bShl (x2 + 1) 9) x3).toNat))), o5]) mt_239 rfl (Nat.le_of_ble_eq_true rfl) rfl ?_
    refine v_ic (v := Int32.ofInt 0) mt_239 rfl rfl ?_
    refine v_is (L' := [some (.ref 542), some (iv x1), some (iv x2), some (iv x3), some (iv (J 566 ((bOr (bShl (x2 + 1) 9) x3).toNat))), some (iv 0)]) mt_239 rfl (Nat.le_of_ble_eq_true rfl) rfl ?_
    exact h
set_option maxHeartbeats 600000 in
theorem b_239_265 {X : Nat × (Nat → Int32)} {d : Nat} {J : Nat → Nat → Int} {sw : Bool × Bool × Bool} {lg : Nat → Nat → Int64} {x : Nat} {K : (Option Value ⊕ Nat) → mM → Prop} {x1 x2 x3 x4 : Int} {o5 : Option Value} (hd : 5 ≤ d)
    (h : InR x4 ∧ (x4 < 0 → ((0 ≤ x3 ∧ x3 < 6) ∧ InR (J 568 x3.toNat) ∧ (J 568 x3.toNat = (-1) → VV X d 239 (242, [some (.ref 542), some (iv x1), some (iv x2), some (iv (x3 + 1)), some (iv x4), o5], [], mj J sw lg x) K) ∧ (¬ J 568 x3.toNat = (-1) → VV X d 239 (242, [some (.ref 542), some (iv x1), some (iv (bOr x2 (bShl 1 (J 568 x3.toNat)))), some (iv (x3 + 1)), some (iv x4), o5], [], mj J sw lg x) K))) ∧ (0 ≤ x4 → ((0 ≤ 18 + x3 ∧ 18 + x3 < 50) ∧ InR (J 562 ((18 + x3).toNat)) ∧ (¬ J 562 ((18 + x3).toNat) = 0 → ((0 ≤ x3 ∧ x3 < 6) ∧ InR (J 568 x3.toNat) ∧ (J 568 x3.toNat = (-1) → VV X d 239 (242, [some (.ref 542), some (iv x1), some (iv x2), some (iv (x3 + 1)), some (iv x4), o5], [], mj J sw lg x) K) ∧ (¬ J 568 x3.toNat = (-1) → VV X d 239 (242, [some (.ref 542), some (iv x1), some (iv (bOr x2 (bShl 1 (J 568 x3.toNat)))), some (iv (x3 + 1)), some (iv x4), o5], [], mj J sw lg x) K))) ∧ (J 562 ((18 + x3).toNat) = 0 → ((¬ bAnd (bShr x2 x4) 1 = 0 → VV X d 239 (265, [some (.ref 542), some (iv x1), some (iv x2), some (iv x3), some (iv (x4 + (-1))), o5], [], mj J sw lg x) K) ∧ (bAnd (bShr x2 x4) 1 = 0 → (∃ (c2 : Int) (J1 : Nat → Nat → Int), EE X 0 240 [.ref 542, iv x3, iv x4, iv x2] (mj J sw lg x) (.inl (some (iv c2))) (mj J1 sw lg x) ∧ (0 ≤ bOr (bShl x3 9) x2 ∧ bOr (bShl x3 9) x2 < 3584) ∧ InR c2 ∧ InR (J1 566 ((bOr (bShl x3 9) x2).toNat)) ∧ (¬ c2 = J1 566 ((bOr (bShl x3 9) x2).toNat) → VV X d 239 (265, [some (.ref 542), some (iv x1), some (iv x2), some (iv x3), some (iv (x4 + (-1))), o5], [], mj J1 sw lg x) K) ∧ (c2 = J1 566 ((bOr (bShl x3 9) x2).toNat) → ((0 ≤ x3 ∧ x3 < 6) ∧ VV X d 239 (265, [some (.ref 542), some (iv x1), some (iv x2), some (iv x3), some (iv (x4 + (-1))), o5], [], mj (m_up J1 568 x3.toNat x4) sw lg x) K))))))))) : VV X d 239 (265, [some (.ref 542), some (iv x1), some (iv x2), some (iv x3), some (iv x4), o5], [], mj J sw lg x) K := by
  refine v_s mt_239 rfl rfl rfl ?_
  obtain ⟨z1, h⟩ := h
  refine j_if1 mt_239 rfl rfl z1 (fun c => ?_) (fun c => ?_)
  · replace h := h.1 c
    refine v_s mt_239 rfl rfl rfl ?_
    refine v_gr (w := 568) 53 mt_239 rfl rfl c_542 (by decide) (g_12_53 c_542) ?_
    refine v_s mt_239 rfl rfl rfl ?_
    obtain ⟨z2, h⟩ := h
    refine j_al (w := J 568 x3.toNat) mt_239 rfl c_568 z2 (by decide) rfl ?_
    refine v_ic (v := Int32.ofInt (-1)) mt_239 rfl rfl ?_
    obtain ⟨z3, h⟩ := h
    refine j_if2 mt_239 rfl rfl z3 ⟨by decide, by decide⟩ (fun c => ?_) (fun c => ?_)
    · replace h := h.1 c
      refine j_inc (e := x3 + 1) (L' := [some (.ref 542), some (iv x1), some (iv x2), some (iv (x3 + 1)), some (iv x4), o5]) mt_239 rfl rfl (Nat.le_of_ble_eq_true rfl) rfl rfl ?_
      refine v_go mt_239 rfl rfl ?_
      exact h
    · replace h := h.2 c
      refine v_s mt_239 rfl rfl rfl ?_
      refine v_ic (v := Int32.ofInt 1) mt_239 rfl rfl ?_
      refine v_s mt_239 rfl rfl rfl ?_
      refine v_gr (w := 568) 53 mt_239 rfl rfl c_542 (by decide) (g_12_53 c_542) ?_
      refine v_s mt_239 rfl rfl rfl ?_
      refine j_al (w := J 568 x3.toNat) mt_239 rfl c_568 z2 (by decide) rfl ?_
      refine j_shl (e := bShl 1 (J 568 x3.toNat)) mt_239 rfl rfl ?_
      refine j_or (e := bOr x2 (bShl 1 (J 568 x3.toNat))) mt_239 rfl rfl ?_
      refine v_isn (L' := [some (.ref 542), some (iv x1), some (iv (bOr x2 (bShl 1 (J 568 x3.toNat)))), some (iv x3), some (iv x4), o5]) mt_239 rfl (Nat.le_of_ble_eq_true rfl) rfl ?_
      refine j_inc (e := x3 + 1) (L' := [some (.ref 542), some (iv x1), some (iv (bOr x2 (bShl 1 (J 568 x3.toNat)))), some (iv (x3 + 1)), some (iv x4), o5]) mt_239 rfl rfl (Nat.le_of_ble_eq_true rfl) rfl rfl ?_
      refine v_go mt_239 rfl rfl ?_
      exact h
  · replace h := h.2 (Int.not_lt.mp c)
    refine v_s mt_239 rfl rfl rfl ?_
    refine v_gr (w := 562) 46 mt_239 rfl rfl c_542 (by decide) (g_12_46 c_542) ?_
    refine v_bp (v := Int32.ofInt 18) mt_239 rfl rfl ?_
    refine v_s mt_239 rfl rfl rfl ?_
    refine j_add (e := 18 + x3) mt_239 rfl rfl ?_
    obtain ⟨z4, h⟩ := h
    refine j_al (w := J 562 ((18 + x3).toNat)) mt_239 rfl c_562 z4 (by decide) rfl ?_
    obtain ⟨z5, h⟩ := h
    refine j_if1 mt_239 rfl rfl z5 (fun c => ?_) (fun c => ?_)
    · replace h := h.1 c
      refine v_s mt_239 rfl rfl rfl ?_
      refine v_gr (w := 568) 53 mt_239 rfl rfl c_542 (by decide) (g_12_53 c_542) ?_
      refine v_s mt_239 rfl rfl rfl ?_
      obtain ⟨z6, h⟩ := h
      refine j_al (w := J 568 x3.toNat) mt_239 rfl c_568 z6 (by decide) rfl ?_
      refine v_ic (v := Int32.ofInt (-1)) mt_239 rfl rfl ?_
      obtain ⟨z7, h⟩ := h
      refine j_if2 mt_239 rfl rfl z7 ⟨by decide, by decide⟩ (fun c => ?_) (fun c => ?_)
      · replace h := h.1 c
        refine j_inc (e := x3 + 1) (L' := [some (.ref 542), some (iv x1), some (iv x2), some (iv (x3 + 1)), some (iv x4), o5]) mt_239 rfl rfl (Nat.le_of_ble_eq_true rfl) rfl rfl ?_
        refine v_go mt_239 rfl rfl ?_
        exact h
      · replace h := h.2 c
        refine v_s mt_239 rfl rfl rfl ?_
        refine v_ic (v := Int32.ofInt 1) mt_239 rfl rfl ?_
        refine v_s mt_239 rfl rfl rfl ?_
        refine v_gr (w := 568) 53 mt_239 rfl rfl c_542 (by decide) (g_12_53 c_542) ?_
        refine v_s mt_239 rfl rfl rfl ?_
        refine j_al (w := J 568 x3.toNat) mt_239 rfl c_568 z6 (by decide) rfl ?_
        refine j_shl (e := bShl 1 (J 568 x3.toNat)) mt_239 rfl rfl ?_
        refine j_or (e := bOr x2 (bShl 1 (J 568 x3.toNat))) mt_239 rfl rfl ?_
        refine v_isn (L' := [some (.ref 542), some (iv x1), some (iv (bOr x2 (bShl 1 (J 568 x3.toNat)))), some (iv x3), some (iv x4), o5]) mt_239 rfl (Nat.le_of_ble_eq_true rfl) rfl ?_
        refine j_inc (e := x3 + 1) (L' := [some (.ref 542), some (iv x1), some (iv (bOr x2 (bShl 1 (J 568 x3.toNat)))), some (iv (x3 + 1)), some (iv x4), o5]) mt_239 rfl rfl (Nat.le_of_ble_eq_true rfl) rfl rfl ?_
        refine v_go mt_239 rfl rfl ?_
        exact h
    · replace h := h.2 (Decidable.not_not.mp c)
      refine v_s mt_239 rfl rfl rfl ?_
      refine v_s mt_239 rfl rfl rfl ?_
      refine j_shr (e := bShr x2 x4) mt_239 rfl rfl ?_
      refine v_ic (v := Int32.ofInt 1) mt_239 rfl rfl ?_
      refine j_and (e := bAnd (bShr x2 x4) 1) mt_239 rfl rfl ?_
      refine j_if1 mt_239 rfl rfl (inT _) (fun c => ?_) (fun c => ?_)
      · replace h := h.1 c
        refine j_inc (e := x4 + (-1)) (L' := [some (.ref 542), some (iv x1), some (iv x2), some (iv x3), some (iv (x4 + (-1))), o5]) mt_239 rfl rfl (Nat.le_of_ble_eq_true rfl) rfl rfl ?_
        refine v_go mt_239 rfl rfl ?_
        exact h
      · replace h := h.2 (Decidable.not_not.mp c)
        refine v_s mt_239 rfl rfl rfl ?_
        refine v_s mt_239 rfl rfl rfl ?_
        refine v_s mt_239 rfl rfl rfl ?_
        refine v_s mt_239 rfl rfl rfl ?_
        obtain ⟨c2, J1, z8, h⟩ := h
        refine v_call (d1 := 0) mt_239 rfl rfl mt_240 rfl rfl (m_callj (As := [iv x3, iv x4, iv x2]) (rest := []) rfl rfl c_542 rfl (Nat.le_of_ble_eq_true rfl) (Nat.le_of_ble_eq_true rfl)) z8 (by clear h; omega) ?_
        refine v_s mt_239 rfl rfl rfl ?_
        refine v_gr (w := 566) 51 mt_239 rfl rfl c_542 (by decide) (g_12_51 c_542) ?_
        refine v_s mt_239 rfl rfl rfl ?_
        refine v_bp (v := Int32.ofInt 9) mt_239 rfl rfl ?_
        refine j_shl (e := bShl x3 9) mt_239 rfl rfl ?_
        refine v_s mt_239 rfl rfl rfl ?_
        refine j_or (e := bOr (bShl x3 9) x2) mt_239 rfl rfl ?_
        obtain ⟨z9, h⟩ := h
        refine j_al (w := J1 566 ((bOr (bShl x3 9) x2).toNat)) mt_239 rfl c_566 z9 (by decide) rfl ?_
        obtain ⟨z10, h⟩ := h
        obtain ⟨z11, h⟩ := h
        refine j_if2 mt_239 rfl rfl z10 z11 (fun c => ?_) (fun c => ?_)
        · replace h := h.1 c
          refine j_inc (e := x4 + (-1)) (L' := [some (.ref 542), some (iv x1), some (iv x2), some (iv x3), some (iv (x4 + (-1))), o5]) mt_239 rfl rfl (Nat.le_of_ble_eq_true rfl) rfl rfl ?_
          refine v_go mt_239 rfl rfl ?_
          exact h
        · replace h := h.2 (Decidable.not_not.mp c)
          refine v_s mt_239 rfl rfl rfl ?_
          refine v_gr (w := 568) 53 mt_239 rfl rfl c_542 (by decide) (g_12_53 c_542) ?_
          refine v_s mt_239 rfl rfl rfl ?_
          refine v_s mt_239 rfl rfl rfl ?_
          obtain ⟨z12, h⟩ := h
          refine j_as mt_239 rfl c_568 z12 (by decide) ?_
          refine j_inc (e := x4 + (-1)) (L' := [some (.ref 542), some (iv x1), some (iv x2), some (iv x3), some (iv (x4 + (-1))), o5]) mt_239 rfl rfl (Nat.le_of_ble_eq_true rfl) rfl rfl ?_
          refine v_go mt_239 rfl rfl ?_
          exact h
set_option maxHeartbeats 600000 in
theorem b_239_158 {X : Nat × (Nat → Int32)} {d : Nat} {J : Nat → Nat → Int} {sw : Bool × Bool × Bool} {lg : Nat → Nat → Int64} {x : Nat} {K : (Option Value ⊕ Nat) → mM → Prop} {x1 x2 x3 x4 x5 : Int} (hd : 5 ≤ d)
    (h : InR x5 ∧ InR (J 542 26) ∧ (J 542 26 ≤ x5 → ((0 ≤ bOr (bShl x2 9) x3 ∧ bOr (bShl x2 9) x3 < 3584) ∧ VV X d 239 (130, [some (.ref 542), some (iv x1), some (iv x2), some (iv (x3 + 1)), some (iv x4), some (iv x5)], [], mj (m_up J 566 ((bOr (bShl x2 9) x3).toNat) x4) sw lg x) K)) ∧ (x5 < J 542 26 → ((0 ≤ 18 + x2 ∧ 18 + x2 < 50) ∧ InR (J 562 ((18 + x2).toNat)) ∧ (¬ J 562 ((18 + x2).toNat) = 0 → ((0 ≤ bOr (bShl x2 9) x3 ∧ bOr (bShl x2 9) x3 < 3584) ∧ VV X d 239 (130, [some (.ref 542), some (iv x1), some (iv x2), some (iv (x3 + 1)), some (iv x4), some (iv x5)], [], mj (m_up J 566 ((bOr (bShl x2 9) x3).toNat) x4) sw lg x) K)) ∧ (J 562 ((18 + x2).toNat) = 0 → ((¬ bAnd (bShr x3 x5) 1 = 0 → VV X d 239 (158, [some (.ref 542), some (iv x1), some (iv x2), some (iv x3), some (iv x4), some (iv (x5 + 1))], [], mj J sw lg x) K) ∧ (bAnd (bShr x3 x5) 1 = 0 → (∃ (c2 : Int) (J1 : Nat → Nat → Int), EE X 0 240 [.ref 542, iv x2, iv x5, iv x3] (mj J sw lg x) (.inl (some (iv c2))) (mj J1 sw lg x) ∧ InR c2 ∧ InR x4 ∧ (c2 ≤ x4 → VV X d 239 (158, [some (.ref 542), some (iv x1), some (iv x2), some (iv x3), some (iv x4), some (iv (x5 + 1))], [], mj J1 sw lg x) K) ∧ (x4 < c2 → (∃ (c4 : Int) (J3 : Nat → Nat → Int), EE X 0 240 [.ref 542, iv x2, iv x5, iv x3] (mj J1 sw lg x) (.inl (some (iv c4))) (mj J3 sw lg x) ∧ VV X d 239 (158, [some (.ref 542), some (iv x1), some (iv x2), some (iv x3), some (iv c4), some (iv (x5 + 1))], [], mj J3 sw lg x) K))))))))) : VV X d 239 (158, [some (.ref 542), some (iv x1), some (iv x2), some (iv x3), some (iv x4), some (iv x5)], [], mj J sw lg x) K := by
  refine v_s mt_239 rfl rfl rfl ?_
  refine v_s mt_239 rfl rfl rfl ?_
  refine j_gi (w := J 542 26) 26 mt_239 rfl rfl c_542 (by decide) rfl ?_
  obtain ⟨z1, h⟩ := h
  obtain ⟨z2, h⟩ := h
  refine j_if2 mt_239 rfl rfl z1 z2 (fun c => ?_) (fun c => ?_)
  · replace h := h.1 c
    refine v_s mt_239 rfl rfl rfl ?_
    refine v_gr (w := 566) 51 mt_239 rfl rfl c_542 (by decide) (g_12_51 c_542) ?_
    refine v_s mt_239 rfl rfl rfl ?_
    refine v_bp (v := Int32.ofInt 9) mt_239 rfl rfl ?_
    refine j_shl (e := bShl x2 9) mt_239 rfl rfl ?_
    refine v_s mt_239 rfl rfl rfl ?_
    refine j_or (e := bOr (bShl x2 9) x3) mt_239 rfl rfl ?_
    refine v_s mt_239 rfl rfl rfl ?_
    obtain ⟨z3, h⟩ := h
    refine j_as mt_239 rfl c_566 z3 (by decide) ?_
    refine j_inc (e := x3 + 1) (L' := [some (.ref 542), some (iv x1), some (iv x2), some (iv (x3 + 1)), some (iv x4), some (iv x5)]) mt_239 rfl rfl (Nat.le_of_ble_eq_true rfl) rfl rfl ?_
    refine v_go mt_239 rfl rfl ?_
    exact h
  · replace h := h.2 (Int.not_le.mp c)
    refine v_s mt_239 rfl rfl rfl ?_
    refine v_gr (w := 562) 46 mt_239 rfl rfl c_542 (by decide) (g_12_46 c_542) ?_
    refine v_bp (v := Int32.ofInt 18) mt_239 rfl rfl ?_
    refine v_s mt_239 rfl rfl rfl ?_
    refine j_add (e := 18 + x2) mt_239 rfl rfl ?_
    obtain ⟨z4, h⟩ := h
    refine j_al (w := J 562 ((18 + x2).toNat)) mt_239 rfl c_562 z4 (by decide) rfl ?_
    obtain ⟨z5, h⟩ := h
    refine j_if1 mt_239 rfl rfl z5 (fun c => ?_) (fun c => ?_)
    · replace h := h.1 c
      refine v_s mt_239 rfl rfl rfl ?_
      refine v_gr (w := 566) 51 mt_239 rfl rfl c_542 (by decide) (g_12_51 c_542) ?_
      refine v_s mt_239 rfl rfl rfl ?_
      refine v_bp (v := Int32.ofInt 9) mt_239 rfl rfl ?_
      refine j_shl (e := bShl x2 9) mt_239 rfl rfl ?_
      refine v_s mt_239 rfl rfl rfl ?_
      refine j_or (e := bOr (bShl x2 9) x3) mt_239 rfl rfl ?_
      refine v_s mt_239 rfl rfl rfl ?_
      obtain ⟨z6, h⟩ := h
      refine j_as mt_239 rfl c_566 z6 (by decide) ?_
      refine j_inc (e := x3 + 1) (L' := [some (.ref 542), some (iv x1), some (iv x2), some (iv (x3 + 1)), some (iv x4), some (iv x5)]) mt_239 rfl rfl (Nat.le_of_ble_eq_true rfl) rfl rfl ?_
      refine v_go mt_239 rfl rfl ?_
      exact h
    · replace h := h.2 (Decidable.not_not.mp c)
      refine v_s mt_239 rfl rfl rfl ?_
      refine v_s mt_239 rfl rfl rfl ?_
      refine v_s mt_239 rfl rfl rfl ?_
      refine v_s mt_239 rfl rfl rfl ?_
      refine v_s mt_239 rfl rfl rfl ?_
      refine v_inl (L1 := [some (.ref 542), some (iv x2), some (iv x5), some (iv x3), some (iv x4)]) mt_239 rfl rfl mt_241 rfl rfl (m_callj (As := [iv x2, iv x5, iv x3, iv x4]) (rest := []) rfl rfl c_542 rfl (Nat.le_of_ble_eq_true rfl) (Nat.le_of_ble_eq_true rfl)) rfl (by clear h; omega) ?_
      refine v_s mt_241 rfl rfl rfl ?_
      refine v_s mt_241 rfl rfl rfl ?_
      refine j_shr (e := bShr x3 x5) mt_241 rfl rfl ?_
      refine v_ic (v := Int32.ofInt 1) mt_241 rfl rfl ?_
      refine j_and (e := bAnd (bShr x3 x5) 1) mt_241 rfl rfl ?_
      refine j_if1 mt_241 rfl rfl (inT _) (fun c => ?_) (fun c => ?_)
      · replace h := h.1 c
        refine v_ic (v := Int32.ofInt 0) mt_241 rfl rfl ?_
        refine j_retb mt_241 rfl rfl (by decide) ?_
        refine j_if1 mt_239 rfl rfl ⟨by decide, by decide⟩ (fun _ => ?_) (fun c => (c (show (0 : Int) = 0 by decide)).elim)
        refine v_s mt_239 rfl rfl rfl ?_
        refine v_is (L' := [some (.ref 542), some (iv x1), some (iv x2), some (iv x3), some (iv x4), some (iv x5)]) mt_239 rfl (Nat.le_of_ble_eq_true rfl) rfl ?_
        refine j_inc (e := x5 + 1) (L' := [some (.ref 542), some (iv x1), some (iv x2), some (iv x3), some (iv x4), some (iv (x5 + 1))]) mt_239 rfl rfl (Nat.le_of_ble_eq_true rfl) rfl rfl ?_
        refine v_go mt_239 rfl rfl ?_
        exact h
      · replace h := h.2 (Decidable.not_not.mp c)
        refine v_s mt_241 rfl rfl rfl ?_
        refine v_s mt_241 rfl rfl rfl ?_
        refine v_s mt_241 rfl rfl rfl ?_
        refine v_s mt_241 rfl rfl rfl ?_
        obtain ⟨c2, J1, z7, h⟩ := h
        refine v_call (d1 := 0) mt_241 rfl rfl mt_240 rfl rfl (m_callj (As := [iv x2, iv x5, iv x3]) (rest := []) rfl rfl c_542 rfl (Nat.le_of_ble_eq_true rfl) (Nat.le_of_ble_eq_true rfl)) z7 (by clear h; omega) ?_
        refine v_s mt_241 rfl rfl rfl ?_
        obtain ⟨z8, h⟩ := h
        obtain ⟨z9, h⟩ := h
        refine j_if2 mt_241 rfl rfl z8 z9 (fun c => ?_) (fun c => ?_)
        · replace h := h.1 c
          refine v_ic (v := Int32.ofInt 0) mt_241 rfl rfl ?_
          refine j_retb mt_241 rfl rfl (by decide) ?_
          refine j_if1 mt_239 rfl rfl ⟨by decide, by decide⟩ (fun _ => ?_) (fun c => (c (show (0 : Int) = 0 by decide)).elim)
          refine v_s mt_239 rfl rfl rfl ?_
          refine v_is (L' := [some (.ref 542), some (iv x1), some (iv x2), some (iv x3), some (iv x4), some (iv x5)]) mt_239 rfl (Nat.le_of_ble_eq_true rfl) rfl ?_
          refine j_inc (e := x5 + 1) (L' := [some (.ref 542), some (iv x1), some (iv x2), some (iv x3), some (iv x4), some (iv (x5 + 1))]) mt_239 rfl rfl (Nat.le_of_ble_eq_true rfl) rfl rfl ?_
          refine v_go mt_239 rfl rfl ?_
          exact h
        · replace h := h.2 (Int.not_le.mp c)
          refine v_ic (v := Int32.ofInt 1) mt_241 rfl rfl ?_
          refine v_go mt_241 rfl rfl ?_
          refine j_retb mt_241 rfl rfl (by decide) ?_
          refine j_if1 mt_239 rfl rfl ⟨by decide, by decide⟩ (fun c => absurd (show (1 : Int) = 0 from c) (by decide)) (fun _ => ?_)
          refine v_s mt_239 rfl rfl rfl ?_
          refine v_s mt_239 rfl rfl rfl ?_
          refine v_s mt_239 rfl rfl rfl ?_
          refine v_s mt_239 rfl rfl rfl ?_
          obtain ⟨c4, J3, z10, h⟩ := h
          refine v_call (d1 := 0) mt_239 rfl rfl mt_240 rfl rfl (m_callj (As := [iv x2, iv x5, iv x3]) (rest := []) rfl rfl c_542 rfl (Nat.le_of_ble_eq_true rfl) (Nat.le_of_ble_eq_true rfl)) z10 (by clear h; omega) ?_
          refine v_go mt_239 rfl rfl ?_
          refine v_is (L' := [some (.ref 542), some (iv x1), some (iv x2), some (iv x3), some (iv c4), some (iv x5)]) mt_239 rfl (Nat.le_of_ble_eq_true rfl) rfl ?_
          refine j_inc (e := x5 + 1) (L' := [some (.ref 542), some (iv x1), some (iv x2), some (iv x3), some (iv c4), some (iv (x5 + 1))]) mt_239 rfl rfl (Nat.le_of_ble_eq_true rfl) rfl rfl ?_
          refine v_go mt_239 rfl rfl ?_
          exact h
set_option maxHeartbeats 600000 in
theorem b_240_0 {X : Nat × (Nat → Int32)} {d : Nat} {J : Nat → Nat → Int} {sw : Bool × Bool × Bool} {lg : Nat → Nat → Int64} {x : Nat} {K : (Option Value ⊕ Nat) → mM → Prop} {x1 x2 x3 : Int}
    (h : (0 ≤ (9 * x1) + x2 ∧ (9 * x1) + x2 < 54) ∧ (0 ≤ bOr (bOr (bShl (x1 + 1) 9) x3) (bShl 1 x2) ∧ bOr (bOr (bShl (x1 + 1) 9) x3) (bShl 1 x2) < 3584) ∧ K (.inl (some (iv ((J 567 (((9 * x1) + x2).toNat)) + (J 566 ((bOr (bOr (bShl (x1 + 1) 9) x3) (bShl 1 x2)).toNat)))))) (mj J sw lg x)) : VV X d 240 (0, [some (.ref 542), some (iv x1), some (iv x2), some (iv x3)], [], mj J sw lg x) K := by
  refine v_s mt_240 rfl rfl rfl ?_
  refine v_gr (w := 567) 52 mt_240 rfl rfl c_542 (by decide) (g_12_52 c_542) ?_
  refine v_bp (v := Int32.ofInt 9) mt_240 rfl rfl ?_
  refine v_s mt_240 rfl rfl rfl ?_
  refine j_mul (e := 9 * x1) mt_240 rfl rfl ?_
  refine v_s mt_240 rfl rfl rfl ?_
  refine j_add (e := (9 * x1) + x2) mt_240 rfl rfl ?_
  obtain ⟨z1, h⟩ := h
  refine j_al (w := J 567 (((9 * x1) + x2).toNat)) mt_240 rfl c_567 z1 (by decide) rfl ?_
  refine v_s mt_240 rfl rfl rfl ?_
  refine v_gr (w := 566) 51 mt_240 rfl rfl c_542 (by decide) (g_12_51 c_542) ?_
  refine v_s mt_240 rfl rfl rfl ?_
  refine v_ic (v := Int32.ofInt 1) mt_240 rfl rfl ?_
  refine j_add (e := x1 + 1) mt_240 rfl rfl ?_
  refine v_bp (v := Int32.ofInt 9) mt_240 rfl rfl ?_
  refine j_shl (e := bShl (x1 + 1) 9) mt_240 rfl rfl ?_
  refine v_s mt_240 rfl rfl rfl ?_
  refine j_or (e := bOr (bShl (x1 + 1) 9) x3) mt_240 rfl rfl ?_
  refine v_ic (v := Int32.ofInt 1) mt_240 rfl rfl ?_
  refine v_s mt_240 rfl rfl rfl ?_
  refine j_shl (e := bShl 1 x2) mt_240 rfl rfl ?_
  refine j_or (e := bOr (bOr (bShl (x1 + 1) 9) x3) (bShl 1 x2)) mt_240 rfl rfl ?_
  obtain ⟨z2, h⟩ := h
  refine j_al (w := J 566 ((bOr (bOr (bShl (x1 + 1) 9) x3) (bShl 1 x2)).toNat)) mt_240 rfl c_566 z2 (by decide) rfl ?_
  refine j_add (e := (J 567 (((9 * x1) + x2).toNat)) + (J 566 ((bOr (bOr (bShl (x1 + 1) 9) x3) (bShl 1 x2)).toNat))) mt_240 rfl rfl ?_
  exact v_ret mt_240 rfl rfl rfl h
