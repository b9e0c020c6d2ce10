set_option maxHeartbeats 600000 in
theorem b_44_0 {X : Nat × (Nat → Int32)} {d : Nat} {J : Nat → Nat → Int} {sw : Bool × Bool × Bool} {lg : Nat → Nat → Int64} {x : Nat} {K : (Option Value ⊕ Nat) → mM → Prop} {r0 r1 : Nat} (h0 : SH[r0]? = some (11, 9)) (h1 : SH[r1]? = some (11, 9))
    (h : ∀ J1 : Nat → Nat → Int, J1 = m_row J (r0 + 1) (va_cpy (J (r1 + 1)) (J (r0 + 1)) 0 0 6) → ∀ J2 : Nat → Nat → Int, J2 = m_row J1 (r0 + 2) (va_cpy (J1 (r1 + 2)) (J1 (r0 + 2)) 0 0 6) → ∀ J3 : Nat → Nat → Int, J3 = m_row J2 (r0 + 3) (va_cpy (J2 (r1 + 3)) (J2 (r0 + 3)) 0 0 6) → ∀ J4 : Nat → Nat → Int, J4 = m_row J3 (r0 + 4) (va_cpy (J3 (r1 + 4)) (J3 (r0 + 4)) 0 0 6) → ∀ J5 : Nat → Nat → Int, J5 = m_row J4 (r0 + 5) (va_cpy (J4 (r1 + 5)) (J4 (r0 + 5)) 0 0 9) → ∀ J6 : Nat → Nat → Int, J6 = m_row J5 (r0 + 6) (va_cpy (J5 (r1 + 6)) (J5 (r0 + 6)) 0 0 9) → K (.inl none) (mj (m_up (m_up (m_up J6 r0 6 (J6 r1 6)) r0 7 ((m_up J6 r0 6 (J6 r1 6)) r1 7)) r0 8 ((m_up (m_up J6 r0 6 (J6 r1 6)) r0 7 ((m_up J6 r0 6 (J6 r1 6)) r1 7)) r1 8)) sw lg x)) : VV X d 44 (0, [some (.ref r0), some (.ref r1)], [], mj J sw lg x) K := by
  refine v_s mt_44 rfl rfl rfl ?_
  refine v_gr (w := (r1 + 1)) 0 mt_44 rfl rfl h1 (by decide) (g_6_0 h1) ?_
  refine v_ic (v := Int32.ofInt 0) mt_44 rfl rfl ?_
  refine v_s mt_44 rfl rfl rfl ?_
  refine v_gr (w := (r0 + 1)) 0 mt_44 rfl rfl h0 (by decide) (g_6_0 h0) ?_
  refine v_ic (v := Int32.ofInt 0) mt_44 rfl rfl ?_
  refine v_bp (v := Int32.ofInt 6) mt_44 rfl rfl ?_
  refine j_cpy (c := 6) (sp := 0) (dp := 0) mt_44 rfl (shS r1 (SH_lt h1) h1).1 (shS r0 (SH_lt h0) h0).1 (Nat.le_of_ble_eq_true rfl) (by decide) (by decide) (by decide) (by decide) ?_
  generalize eJ1 : m_row J (r0 + 1) (va_cpy (J (r1 + 1)) (J (r0 + 1)) 0 0 6) = J1
  replace h := h J1 eJ1.symm
  refine v_s mt_44 rfl rfl rfl ?_
  refine v_gr (w := (r1 + 2)) 1 mt_44 rfl rfl h1 (by decide) (g_6_1 h1) ?_
  refine v_ic (v := Int32.ofInt 0) mt_44 rfl rfl ?_
  refine v_s mt_44 rfl rfl rfl ?_
  refine v_gr (w := (r0 + 2)) 1 mt_44 rfl rfl h0 (by decide) (g_6_1 h0) ?_
  refine v_ic (v := Int32.ofInt 0) mt_44 rfl rfl ?_
  refine v_bp (v := Int32.ofInt 6) mt_44 rfl rfl ?_
  refine j_cpy (c := 6) (sp := 0) (dp := 0) mt_44 rfl (shS r1 (SH_lt h1) h1).2.1 (shS r0 (SH_lt h0) h0).2.1 (Nat.le_of_ble_eq_true rfl) (by decide) (by decide) (by decide) (by decide) ?_
  generalize eJ2 : m_row J1 (r0 + 2) (va_cpy (J1 (r1 + 2)) (J1 (r0 + 2)) 0 0 6) = J2
  replace h := h J2 eJ2.symm
  refine v_s mt_44 rfl rfl rfl ?_
  refine v_gr (w := (r1 + 3)) 2 mt_44 rfl rfl h1 (by decide) (g_6_2 h1) ?_
  refine v_ic (v := Int32.ofInt 0) mt_44 rfl rfl ?_
  refine v_s mt_44 rfl rfl rfl ?_
  refine v_gr (w := (r0 + 3)) 2 mt_44 rfl rfl h0 (by decide) (g_6_2 h0) ?_
  refine v_ic (v := Int32.ofInt 0) mt_44 rfl rfl ?_
  refine v_bp (v := Int32.ofInt 6) mt_44 rfl rfl ?_
  refine j_cpy (c := 6) (sp := 0) (dp := 0) mt_44 rfl (shS r1 (SH_lt h1) h1).2.2.1 (shS r0 (SH_lt h0) h0).2.2.1 (Nat.le_of_ble_eq_true rfl) (by decide) (by decide) (by decide) (by decide) ?_
  generalize eJ3 : m_row J2 (r0 + 3) (va_cpy (J2 (r1 + 3)) (J2 (r0 + 3)) 0 0 6) = J3
  replace h := h J3 eJ3.symm
  refine v_s mt_44 rfl rfl rfl ?_
  refine v_gr (w := (r1 + 4)) 3 mt_44 rfl rfl h1 (by decide) (g_6_3 h1) ?_
  refine v_ic (v := Int32.ofInt 0) mt_44 rfl rfl ?_
  refine v_s mt_44 rfl rfl rfl ?_
  refine v_gr (w := (r0 + 4)) 3 mt_44 rfl rfl h0 (by decide) (g_6_3 h0) ?_
  refine v_ic (v := Int32.ofInt 0) mt_44 rfl rfl ?_
  refine v_bp (v := Int32.ofInt 6) mt_44 rfl rfl ?_
  refine j_cpy (c := 6) (sp := 0) (dp := 0) mt_44 rfl (shS r1 (SH_lt h1) h1).2.2.2.1 (shS r0 (SH_lt h0) h0).2.2.2.1 (Nat.le_of_ble_eq_true rfl) (by decide) (by decide) (by decide) (by decide) ?_
  generalize eJ4 : m_row J3 (r0 + 4) (va_cpy (J3 (r1 + 4)) (J3 (r0 + 4)) 0 0 6) = J4
  replace h := h J4 eJ4.symm
  refine v_s mt_44 rfl rfl rfl ?_
  refine v_gr (w := (r1 + 5)) 4 mt_44 rfl rfl h1 (by decide) (g_6_4 h1) ?_
  refine v_ic (v := Int32.ofInt 0) mt_44 rfl rfl ?_
  refine v_s mt_44 rfl rfl rfl ?_
  refine v_gr (w := (r0 + 5)) 4 mt_44 rfl rfl h0 (by decide) (g_6_4 h0) ?_
  refine v_ic (v := Int32.ofInt 0) mt_44 rfl rfl ?_
  refine v_bp (v := Int32.ofInt 9) mt_44 rfl rfl ?_
  refine j_cpy (c := 9) (sp := 0) (dp := 0) mt_44 rfl (shS r1 (SH_lt h1) h1).2.2.2.2.1 (shS r0 (SH_lt h0) h0).2.2.2.2.1 (Nat.le_of_ble_eq_true rfl) (by decide) (by decide) (by decide) (by decide) ?_
  generalize eJ5 : m_row J4 (r0 + 5) (va_cpy (J4 (r1 + 5)) (J4 (r0 + 5)) 0 0 9) = J5
  replace h := h J5 eJ5.symm
  refine v_s mt_44 rfl rfl rfl ?_
  refine v_gr (w := (r1 + 6)) 5 mt_44 rfl rfl h1 (by decide) (g_6_5 h1) ?_
  refine v_ic (v := Int32.ofInt 0) mt_44 rfl rfl ?_
  refine v_s mt_44 rfl rfl rfl ?_
  refine v_gr (w := (r0 + 6)) 5 mt_44 rfl rfl h0 (by decide) (g_6_5 h0) ?_
  refine v_ic (v := Int32.ofInt 0) mt_44 rfl rfl ?_
  refine v_bp (v := Int32.ofInt 9) mt_44 rfl rfl ?_
  refine j_cpy (c := 9) (sp := 0) (dp := 0) mt_44 rfl (shS r1 (SH_lt h1) h1).2.2.2.2.2 (shS r0 (SH_lt h0) h0).2.2.2.2.2 (Nat.le_of_ble_eq_true rfl) (by decide) (by decide) (by decide) (by decide) ?_
  generalize eJ6 : m_row J5 (r0 + 6) (va_cpy (J5 (r1 + 6)) (J5 (r0 + 6)) 0 0 9) = J6
  replace h := h J6 eJ6.symm
  refine v_s mt_44 rfl rfl rfl ?_
  refine v_s mt_44 rfl rfl rfl ?_
  refine j_gi (w := J6 r1 6) 6 mt_44 rfl rfl h1 (by decide) rfl ?_
  refine j_pi 6 mt_44 rfl rfl h0 (by decide) ?_
  refine v_s mt_44 rfl rfl rfl ?_
  refine v_s mt_44 rfl rfl rfl ?_
  refine j_gi (w := (m_up J6 r0 6 (J6 r1 6)) r1 7) 7 mt_44 rfl rfl h1 (by decide) rfl ?_
  refine j_pi 7 mt_44 rfl rfl h0 (by decide) ?_
  refine v_s mt_44 rfl rfl rfl ?_
  refine v_s mt_44 rfl rfl rfl ?_
  refine j_gi (w := (m_up (m_up J6 r0 6 (J6 r1 6)) r0 7 ((m_up J6 r0 6 (J6 r1 6)) r1 7)) r1 8) 8 mt_44 rfl rfl h1 (by decide) rfl ?_
  refine j_pi 8 mt_44 rfl rfl h0 (by decide) ?_
  exact v_ret mt_44 rfl rfl rfl h
set_option maxHeartbeats 600000 in
theorem b_179_0 {X : Nat × (Nat → Int32)} {d : Nat} {J : Nat → Nat → Int} {sw : Bool × Bool × Bool} {lg : Nat → Nat → Int64} {x : Nat} {K : (Option Value ⊕ Nat) → mM → Prop} {r1 r2 n1 n2 : Nat} {x3 : Int} {o4 : Option Value} (h1 : SH[r1]? = some (0, n1)) (hn1 : n1 ≤ 2147483648) (h2 : SH[r2]? = some (0, n2)) (hn2 : n2 ≤ 2147483648)
    (h : VV X d 179 (3, [some (.ref 542), some (.ref r1), some (.ref r2), some (iv x3), some (iv 0)], [], mj J sw lg x) K) : VV X d 179 (0, [some (.ref 542), some (.ref r1), some (.ref r2), some (iv x3), o4], [], mj J sw lg x) K := by
  refine v_ic (v := Int32.ofInt 0) mt_179 rfl rfl ?_
  refine v_is (L' := [some (.ref 542), some (.ref r1), some (.ref r2), some (iv x3), some (iv 0)]) mt_179 rfl (Nat.le_of_ble_eq_true rfl) rfl ?_
  exact h
set_option maxHeartbeats 600000 in
theorem b_179_3 {X : Nat × (Nat → Int32)} {d : Nat} {J : Nat → Nat → Int} {sw : Bool × Bool × Bool} {lg : Nat → Nat → Int64} {x : Nat} {K : (Option Value ⊕ Nat) → mM → Prop} {r1 r2 n1 n2 : Nat} {x3 x4 : Int} {o0 : Option Value} (h1 : SH[r1]? = some (0, n1)) (hn1 : n1 ≤ 2147483648) (h2 : SH[r2]? = some (0, n2)) (hn2 : n2 ≤ 2147483648)
    (h : InR x4 ∧ InR x3 ∧ (x3 ≤ x4 → K (.inl none) (mj J sw lg x)) ∧ (x4 < x3 → ((0 ≤ x4 ∧ x4 < n1) ∧ (0 ≤ x4 ∧ x4 < n2) ∧ VV X d 179 (3, [o0, some (.ref r1), some (.ref r2), some (iv x3), some (iv (x4 + 1))], [], mj (m_up J r2 x4.toNat (J r1 x4.toNat)) sw lg x) K))) : VV X d 179 (3, [o0, some (.ref r1), some (.ref r2), some (iv x3), some (iv x4)], [], mj J sw lg x) K := by
  refine v_s mt_179 rfl rfl rfl ?_
  refine v_s mt_179 rfl rfl rfl ?_
  obtain ⟨z1, h⟩ := h
  obtain ⟨z2, h⟩ := h
  refine j_if2 mt_179 rfl rfl z1 z2 (fun c => ?_) (fun c => ?_)
  · replace h := h.1 c
    exact v_ret mt_179 rfl rfl rfl h
  · replace h := h.2 (Int.not_le.mp c)
    refine v_s mt_179 rfl rfl rfl ?_
    refine v_s mt_179 rfl rfl rfl ?_
    refine v_s mt_179 rfl rfl rfl ?_
    refine v_s mt_179 rfl rfl rfl ?_
    obtain ⟨z3, h⟩ := h
    refine j_al (w := J r1 x4.toNat) mt_179 rfl h1 z3 hn1 rfl ?_
    obtain ⟨z4, h⟩ := h
    refine j_as mt_179 rfl h2 z4 hn2 ?_
    refine j_inc (e := x4 + 1) (L' := [o0, some (.ref r1), some (.ref r2), some (iv x3), some (iv (x4 + 1))]) mt_179 rfl rfl (Nat.le_of_ble_eq_true rfl) rfl rfl ?_
    refine v_go mt_179 rfl rfl ?_
    exact h
set_option maxHeartbeats 600000 in
theorem b_204_0 {X : Nat × (Nat → Int32)} {d : Nat} {J : Nat → Nat → Int} {sw : Bool × Bool × Bool} {lg : Nat → Nat → Int64} {x : Nat} {K : (Option Value ⊕ Nat) → mM → Prop} (hd : 1 ≤ d)
    (h : ∃ (J1 : Nat → Nat → Int), EE X 0 179 [.ref 542, .ref 561, .ref 562, iv 50] (mj J sw lg x) (.inl none) (mj J1 sw lg x) ∧ K (.inl none) (mj J1 sw lg x)) : VV X d 204 (0, [some (.ref 542)], [], mj J sw lg x) K := by
  refine v_s mt_204 rfl rfl rfl ?_
  refine v_s mt_204 rfl rfl rfl ?_
  refine v_gr (w := 561) 45 mt_204 rfl rfl c_542 (by decide) (g_12_45 c_542) ?_
  refine v_s mt_204 rfl rfl rfl ?_
  refine v_gr (w := 562) 46 mt_204 rfl rfl c_542 (by decide) (g_12_46 c_542) ?_
  refine v_bp (v := Int32.ofInt 50) mt_204 rfl rfl ?_
  obtain ⟨J1, z1, h⟩ := h
  refine v_call (d1 := 0) mt_204 rfl rfl mt_179 rfl rfl (m_callj (As := [.ref 561, .ref 562, iv 50]) (rest := []) rfl rfl c_542 rfl (Nat.le_of_ble_eq_true rfl) (Nat.le_of_ble_eq_true rfl)) z1 (by clear h; omega) ?_
  exact v_ret mt_204 rfl rfl rfl h
set_option maxHeartbeats 600000 in
theorem b_276_0 {X : Nat × (Nat → Int32)} {d : Nat} {J : Nat → Nat → Int} {sw : Bool × Bool × Bool} {lg : Nat → Nat → Int64} {x : Nat} {K : (Option Value ⊕ Nat) → mM → Prop} {x0 : Int}
    (h : K (.inl (some (iv (bAnd (((bAnd (((bAnd (x0 - (bAnd (bUsh x0 1) 1431655765)) 858993459) + (bAnd (bUsh (x0 - (bAnd (bUsh x0 1) 1431655765)) 2) 858993459)) + (bUsh ((bAnd (x0 - (bAnd (bUsh x0 1) 1431655765)) 858993459) + (bAnd (bUsh (x0 - (bAnd (bUsh x0 1) 1431655765)) 2) 858993459)) 4)) 252645135) + (bUsh (bAnd (((bAnd (x0 - (bAnd (bUsh x0 1) 1431655765)) 858993459) + (bAnd (bUsh (x0 - (bAnd (bUsh x0 1) 1431655765)) 2) 858993459)) + (bUsh ((bAnd (x0 - (bAnd (bUsh x0 1) 1431655765)) 858993459) + (bAnd (bUsh (x0 - (bAnd (bUsh x0 1) 1431655765)) 2) 858993459)) 4)) 252645135) 8)) + (bUsh ((bAnd (((bAnd (x0 - (bAnd (bUsh x0 1) 1431655765)) 858993459) + (bAnd (bUsh (x0 - (bAnd (bUsh x0 1) 1431655765)) 2) 858993459)) + (bUsh ((bAnd (x0 - (bAnd (bUsh x0 1) 1431655765)) 858993459) + (bAnd (bUsh (x0 - (bAnd (bUsh x0 1) 1431655765)) 2) 858993459)) 4)) 252645135) + (bUsh (bAnd (((bAnd (x0 - (bAnd (bUsh x0 1) 1431655765)) 858993459) + (bAnd (bUsh (x0 - (bAnd (bUsh x0 1) 1431655765)) 2) 858993459)) + (bUsh ((bAnd (x0 - (bAnd (bUsh x0 1) 1431655765)) 858993459) + (bAnd (bUsh (x0 - (bAnd (bUsh x0 1) 1431655765)) 2) 858993459)) 4)) 252645135) 8)) 16)) 63)))) (mj J sw lg x)) : VV X d 276 (0, [some (iv x0)], [], mj J sw lg x) K := by
  refine v_s mt_276 rfl rfl rfl ?_
  refine v_s mt_276 rfl rfl rfl ?_
  refine v_ic (v := Int32.ofInt 1) mt_276 rfl rfl ?_
  refine j_ush (e := bUsh x0 1) mt_276 rfl rfl ?_
  refine j_ldw (e := 1431655765) mt_276 rfl rfl ?_
  refine j_and (e := bAnd (bUsh x0 1) 1431655765) mt_276 rfl rfl ?_
  refine j_sub (e := x0 - (bAnd (bUsh x0 1) 1431655765)) mt_276 rfl rfl ?_
  refine v_isn (L' := [some (iv (x0 - (bAnd (bUsh x0 1) 1431655765)))]) mt_276 rfl (Nat.le_of_ble_eq_true rfl) rfl ?_
  refine v_s mt_276 rfl rfl rfl ?_
  refine j_ldw (e := 858993459) mt_276 rfl rfl ?_
  refine j_and (e := bAnd (x0 - (bAnd (bUsh x0 1) 1431655765)) 858993459) mt_276 rfl rfl ?_
  refine v_s mt_276 rfl rfl rfl ?_
  refine v_ic (v := Int32.ofInt 2) mt_276 rfl rfl ?_
  refine j_ush (e := bUsh (x0 - (bAnd (bUsh x0 1) 1431655765)) 2) mt_276 rfl rfl ?_
  refine j_ldw (e := 858993459) mt_276 rfl rfl ?_
  refine j_and (e := bAnd (bUsh (x0 - (bAnd (bUsh x0 1) 1431655765)) 2) 858993459) mt_276 rfl rfl ?_
  refine j_add (e := (bAnd (x0 - (bAnd (bUsh x0 1) 1431655765)) 858993459) + (bAnd (bUsh (x0 - (bAnd (bUsh x0 1) 1431655765)) 2) 858993459)) mt_276 rfl rfl ?_
  refine v_isn (L' := [some (iv ((bAnd (x0 - (bAnd (bUsh x0 1) 1431655765)) 858993459) + (bAnd (bUsh (x0 - (bAnd (bUsh x0 1) 1431655765)) 2) 858993459)))]) mt_276 rfl (Nat.le_of_ble_eq_true rfl) rfl ?_
  refine v_s mt_276 rfl rfl rfl ?_
  refine v_s mt_276 rfl rfl rfl ?_
  refine v_ic (v := Int32.ofInt 4) mt_276 rfl rfl ?_
  refine j_ush (e := bUsh ((bAnd (x0 - (bAnd (bUsh x0 1) 1431655765)) 858993459) + (bAnd (bUsh (x0 - (bAnd (bUsh x0 1) 1431655765)) 2) 858993459)) 4) mt_276 rfl rfl ?_
  refine j_add (e := ((bAnd (x0 - (bAnd (bUsh x0 1) 1431655765)) 858993459) + (bAnd (bUsh (x0 - (bAnd (bUsh x0 1) 1431655765)) 2) 858993459)) + (bUsh ((bAnd (x0 - (bAnd (bUsh x0 1) 1431655765)) 858993459) + (bAnd (bUsh (x0 - (bAnd (bUsh x0 1) 1431655765)) 2) 858993459)) 4)) mt_276 rfl rfl ?_
  refine j_ldw (e := 252645135) mt_276 rfl rfl ?_
  refine j_and (e := bAnd (((bAnd (x0 - (bAnd (bUsh x0 1) 1431655765)) 858993459) + (bAnd (bUsh (x0 - (bAnd (bUsh x0 1) 1431655765)) 2) 858993459)) + (bUsh ((bAnd (x0 - (bAnd (bUsh x0 1) 1431655765)) 858993459) + (bAnd (bUsh (x0 - (bAnd (bUsh x0 1) 1431655765)) 2) 858993459)) 4)) 252645135) mt_276 rfl rfl ?_
  refine v_isn (L' := [some (iv (bAnd (((bAnd (x0 - (bAnd (bUsh x0 1) 1431655765)) 858993459) + (bAnd (bUsh (x0 - (bAnd (bUsh x0 1) 1431655765)) 2) 858993459)) + (bUsh ((bAnd (x0 - (bAnd (bUsh x0 1) 1431655765)) 858993459) + (bAnd (bUsh (x0 - (bAnd (bUsh x0 1) 1431655765)) 2) 858993459)) 4)) 252645135))]) mt_276 rfl (Nat.le_of_ble_eq_true rfl) rfl ?_
  refine v_s mt_276 rfl rfl rfl ?_
  refine v_s mt_276 rfl rfl rfl ?_
  refine v_bp (v := Int32.ofInt 8) mt_276 rfl rfl ?_
  refine j_ush (e := bUsh (bAnd (((bAnd (x0 - (bAnd (bUsh x0 1) 1431655765)) 858993459) + (bAnd (bUsh (x0 - (bAnd (bUsh x0 1) 1431655765)) 2) 858993459)) + (bUsh ((bAnd (x0 - (bAnd (bUsh x0 1) 1431655765)) 858993459) + (bAnd (bUsh (x0 - (bAnd (bUsh x0 1) 1431655765)) 2) 858993459)) 4)) 252645135) 8) mt_276 rfl rfl ?_
  refine j_add (e := (bAnd (((bAnd (x0 - (bAnd (bUsh x0 1) 1431655765)) 858993459) + (bAnd (bUsh (x0 - (bAnd (bUsh x0 1) 1431655765)) 2) 858993459)) + (bUsh ((bAnd (x0 - (bAnd (bUsh x0 1) 1431655765)) 858993459) + (bAnd (bUsh (x0 - (bAnd (bUsh x0 1) 1431655765)) 2) 858993459)) 4)) 252645135) + (bUsh (bAnd (((bAnd (x0 - (bAnd (bUsh x0 1) 1431655765)) 858993459) + (bAnd (bUsh (x0 - (bAnd (bUsh x0 1) 1431655765)) 2) 858993459)) + (bUsh ((bAnd (x0 - (bAnd (bUsh x0 1) 1431655765)) 858993459) + (bAnd (bUsh (x0 - (bAnd (bUsh x0 1) 1431655765)) 2) 858993459)) 4)) 252645135) 8)) mt_276 rfl rfl ?_
  refine v_isn (L' := [some (iv ((bAnd (((bAnd (x0 - (bAnd (bUsh x0 1) 1431655765)) 858993459) + (bAnd (bUsh (x0 - (bAnd (bUsh x0 1) 1431655765)) 2) 858993459)) + (bUsh ((bAnd (x0 - (bAnd (bUsh x0 1) 1431655765)) 858993459) + (bAnd (bUsh (x0 - (bAnd (bUsh x0 1) 1431655765)) 2) 858993459)) 4)) 252645135) + (bUsh (bAnd (((bAnd (x0 - (bAnd (bUsh x0 1) 1431655765)) 858993459) + (bAnd (bUsh (x0 - (bAnd (bUsh x0 1) 1431655765)) 2) 858993459)) + (bUsh ((bAnd (x0 - (bAnd (bUsh x0 1) 1431655765)) 858993459) + (bAnd (bUsh (x0 - (bAnd (bUsh x0 1) 1431655765)) 2) 858993459)) 4)) 252645135) 8)))]) mt_276 rfl (Nat.le_of_ble_eq_true rfl) rfl ?_
  refine v_s mt_276 rfl rfl rfl ?_
  refine v_s mt_276 rfl rfl rfl ?_
  refine v_bp (v := Int32.ofInt 16) mt_276 rfl rfl ?_
  refine j_ush (e := bUsh ((bAnd (((bAnd (x0 - (bAnd (bUsh x0 1) 1431655765)) 858993459) + (bAnd (bUsh (x0 - (bAnd (bUsh x0 1) 1431655765)) 2) 858993459)) + (bUsh ((bAnd (x0 - (bAnd (bUsh x0 1) 1431655765)) 858993459) + (bAnd (bUsh (x0 - (bAnd (bUsh x0 1) 1431655765)) 2) 858993459)) 4)) 252645135) + (bUsh (bAnd (((bAnd (x0 - (bAnd (bUsh x0 1) 1431655765)) 858993459) + (bAnd (bUsh (x0 - (bAnd (bUsh x0 1) 1431655765)) 2) 858993459)) + (bUsh ((bAnd (x0 - (bAnd (bUsh x0 1) 1431655765)) 858993459) + (bAnd (bUsh (x0 - (bAnd (bUsh x0 1) 1431655765)) 2) 858993459)) 4)) 252645135) 8)) 16) mt_276 rfl rfl ?_
  refine j_add (e := ((bAnd (((bAnd (x0 - (bAnd (bUsh x0 1) 1431655765)) 858993459) + (bAnd (bUsh (x0 - (bAnd (bUsh x0 1) 1431655765)) 2) 858993459)) + (bUsh ((bAnd (x0 - (bAnd (bUsh x0 1) 1431655765)) 858993459) + (bAnd (bUsh (x0 - (bAnd (bUsh x0 1) 1431655765)) 2) 858993459)) 4)) 252645135) + (bUsh (bAnd (((bAnd (x0 - (bAnd (bUsh x0 1) 1431655765)) 858993459) + (bAnd (bUsh (x0 - (bAnd (bUsh x0 1) 1431655765)) 2) 858993459)) + (bUsh ((bAnd (x0 - (bAnd (bUsh x0 1) 1431655765)) 858993459) + (bAnd (bUsh (x0 - (bAnd (bUsh x0 1) 1431655765)) 2) 858993459)) 4)) 252645135) 8)) + (bUsh ((bAnd (((bAnd (x0 - (bAnd (bUsh x0 1) 1431655765)) 858993459) + (bAnd (bUsh (x0 - (bAnd (bUsh x0 1) 1431655765)) 2) 858993459)) + (bUsh ((bAnd (x0 - (bAnd (bUsh x0 1) 1431655765)) 858993459) + (bAnd (bUsh (x0 - (bAnd (bUsh x0 1) 1431655765)) 2) 858993459)) 4)) 252645135) + (bUsh (bAnd (((bAnd (x0 - (bAnd (bUsh x0 1) 1431655765)) 858993459) + (bAnd (bUsh (x0 - (bAnd (bUsh x0 1) 1431655765)) 2) 858993459)) + (bUsh ((bAnd (x0 - (bAnd (bUsh x0 1) 1431655765)) 858993459) + (bAnd (bUsh (x0 - (bAnd (bUsh x0 1) 1431655765)) 2) 858993459)) 4)) 252645135) 8)) 16)) mt_276 rfl rfl ?_
  refine v_isn (L' := [some (iv (((bAnd (((bAnd (x0 - (bAnd (bUsh x0 1) 1431655765)) 858993459) + (bAnd (bUsh (x0 - (bAnd (bUsh x0 1) 1431655765)) 2) 858993459)) + (bUsh ((bAnd (x0 - (bAnd (bUsh x0 1) 1431655765)) 858993459) + (bAnd (bUsh (x0 - (bAnd (bUsh x0 1) 1431655765)) 2) 858993459)) 4)) 252645135) + (bUsh (bAnd (((bAnd (x0 - (bAnd (bUsh x0 1) 1431655765)) 858993459) + (bAnd (bUsh (x0 - (bAnd (bUsh x0 1) 1431655765)) 2) 858993459)) + (bUsh ((bAnd (x0 - (bAnd (bUsh x0 1) 1431655765)) 858993459) + (bAnd (bUsh (x0 - (bAnd (bUsh x0 1) 1431655765)) 2) 858993459)) 4)) 252645135) 8)) + (bUsh ((bAnd (((bAnd (x0 - (bAnd (bUsh x0 1) 1431655765)) 858993459) + (bAnd (bUsh (x0 - (bAnd (bUsh x0 1) 1431655765)) 2) 858993459)) + (bUsh ((bAnd (x0 - (bAnd (bUsh x0 1) 1431655765)) 858993459) + (bAnd (bUsh (x0 - (bAnd (bUsh x0 1) 1431655765)) 2) 858993459)) 4)) 252645135) + (bUsh (bAnd (((bAnd (x0 - (bAnd (bUsh x0 1) 1431655765)) 858993459) + (bAnd (bUsh (x0 - (bAnd (bUsh x0 1) 1431655765)) 2) 858993459)) + (bUsh ((bAnd (x0 - (bAnd (bUsh x0 1) 1431655765)) 858993459) + (bAnd (bUsh (x0 - (bAnd (bUsh x0 1) 1431655765)) 2) 858993459)) 4)) 252645135) 8)) 16)))]) mt_276 rfl (Nat.le_of_ble_eq_true rfl) rfl ?_
  refine v_s mt_276 rfl rfl rfl ?_
  refine v_bp (v := Int32.ofInt 63) mt_276 rfl rfl ?_
  refine j_and (e := bAnd (((bAnd (((bAnd (x0 - (bAnd (bUsh x0 1) 1431655765)) 858993459) + (bAnd (bUsh (x0 - (bAnd (bUsh x0 1) 1431655765)) 2) 858993459)) + (bUsh ((bAnd (x0 - (bAnd (bUsh x0 1) 1431655765)) 858993459) + (bAnd (bUsh (x0 - (bAnd (bUsh x0 1) 1431655765)) 2) 858993459)) 4)) 252645135) + (bUsh (bAnd (((bAnd (x0 - (bAnd (bUsh x0 1) 1431655765)) 858993459) + (bAnd (bUsh (x0 - (bAnd (bUsh x0 1) 1431655765)) 2) 858993459)) + (bUsh ((bAnd (x0 - (bAnd (bUsh x0 1) 1431655765)) 858993459) + (bAnd (bUsh (x0 - (bAnd (bUsh x0 1) 1431655765)) 2) 858993459)) 4)) 252645135) 8)) + (bUsh ((bAnd (((bAnd (x0 - (bAnd (bUsh x0 1) 1431655765)) 858993459) + (bAnd (bUsh (x0 - (bAnd (bUsh x0 1) 1431655765)) 2) 858993459)) + (bUsh ((bAnd (x0 - (bAnd (bUsh x0 1) 1431655765)) 858993459) + (bAnd (bUsh (x0 - (bAnd (bUsh x0 1) 1431655765)) 2) 858993459)) 4)) 252645135) + (bUsh (bAnd (((bAnd (x0 - (bAnd (bUsh x0 1) 1431655765)) 858993459) + (bAnd (bUsh (x0 - (bAnd (bUsh x0 1) 1431655765)) 2) 858993459)) + (bUsh ((bAnd (x0 - (bAnd (bUsh x0 1) 1431655765)) 858993459) + (bAnd (bUsh (x0 - (bAnd (bUsh x0 1) 1431655765)) 2) 858993459)) 4)) 252645135) 8)) 16)) 63) mt_276 rfl rfl ?_
  exact v_ret mt_276 rfl rfl rfl h
set_option maxHeartbeats 600000 in
theorem b_105_0 {X : Nat × (Nat → Int32)} {d : Nat} {J : Nat → Nat → Int} {sw : Bool × Bool × Bool} {lg : Nat → Nat → Int64} {x : Nat} {K : (Option Value ⊕ Nat) → mM → Prop} {r1 : Nat} {x2 : Int} {o3 o4 o5 o6 o7 : Option Value} (h1 : SH[r1]? = some (14, 12)) (hd : 1 ≤ d)
    (h : VV X d 105 (17, [some (.ref 539), some (.ref r1), some (iv x2), some (iv 0), some (iv 10), some (iv (bShl 1 (J r1 2))), some (iv 0), o7], [], mj J sw lg x) K) : VV X d 105 (0, [some (.ref 539), some (.ref r1), some (iv x2), o3, o4, o5, o6, o7], [], mj J sw lg x) K := by
  refine v_ic (v := Int32.ofInt 0) mt_105 rfl rfl ?_
  refine v_isn (L' := [some (.ref 539), some (.ref r1), some (iv x2), some (iv 0), o4, o5, o6, o7]) mt_105 rfl (Nat.le_of_ble_eq_true rfl) rfl ?_
  refine v_bp (v := Int32.ofInt 10) mt_105 rfl rfl ?_
  refine v_is (L' := [some (.ref 539), some (.ref r1), some (iv x2), some (iv 0), some (iv 10), o5, o6, o7]) mt_105 rfl (Nat.le_of_ble_eq_true rfl) rfl ?_
  refine v_ic (v := Int32.ofInt 1) mt_105 rfl rfl ?_
  refine v_s mt_105 rfl rfl rfl ?_
  refine j_gi (w := J r1 2) 2 mt_105 rfl rfl h1 (by decide) rfl ?_
  refine j_shl (e := bShl 1 (J r1 2)) mt_105 rfl rfl ?_
  refine v_is (L' := [some (.ref 539), some (.ref r1), some (iv x2), some (iv 0), some (iv 10), some (iv (bShl 1 (J r1 2))), o6, o7]) mt_105 rfl (Nat.le_of_ble_eq_true rfl) rfl ?_
  refine v_ic (v := Int32.ofInt 0) mt_105 rfl rfl ?_
  refine v_is (L' := [some (.ref 539), some (.ref r1), some (iv x2), some (iv 0), some (iv 10), some (iv (bShl 1 (J r1 2))), some (iv 0), o7]) mt_105 rfl (Nat.le_of_ble_eq_true rfl) rfl ?_
  exact h
set_option maxHeartbeats 600000 in
theorem b_105_17 {X : Nat × (Nat → Int32)} {d : Nat} {J : Nat → Nat → Int} {sw : Bool × Bool × Bool} {lg : Nat → Nat → Int64} {x : Nat} {K : (Option Value ⊕ Nat) → mM → Prop} {r1 : Nat} {x2 x3 x4 x5 x6 : Int} {o0 o7 : Option Value} (h1 : SH[r1]? = some (14, 12)) (hd : 1 ≤ d)
    (h : InR x6 ∧ InR x5 ∧ (x5 ≤ x6 → K (.inl (some (iv x3))) (mj J sw lg x)) ∧ (x6 < x5 → (∃ (c2 : Int) (J1 : Nat → Nat → Int), EE X 0 276 [iv x6] (mj J sw lg x) (.inl (some (iv c2))) (mj J1 sw lg x) ∧ InR c2 ∧ InR x4 ∧ (x4 ≤ c2 → VV X d 105 (17, [o0, some (.ref r1), some (iv x2), some (iv x3), some (iv x4), some (iv x5), some (iv (x6 + 1)), some (iv c2)], [], mj J1 sw lg x) K) ∧ (c2 < x4 → (∃ (c4 : Int) (J3 : Nat → Nat → Int), EE X 0 106 [.ref r1, iv x6] (mj J1 sw lg x) (.inl (some (iv c4))) (mj J3 sw lg x) ∧ (¬ bAnd x2 (bXor c4 (-1)) = 0 → VV X d 105 (17, [o0, some (.ref r1), some (iv x2), some (iv x3), some (iv x4), some (iv x5), some (iv (x6 + 1)), some (iv c2)], [], mj J3 sw lg x) K) ∧ (bAnd x2 (bXor c4 (-1)) = 0 → VV X d 105 (17, [o0, some (.ref r1), some (iv x2), some (iv x6), some (iv c2), some (iv x5), some (iv (x6 + 1)), some (iv c2)], [], mj J3 sw lg x) K)))))) : VV X d 105 (17, [o0, some (.ref r1), some (iv x2), some (iv x3), some (iv x4), some (iv x5), some (iv x6), o7], [], mj J sw lg x) K := by
  refine v_s mt_105 rfl rfl rfl ?_
  refine v_s mt_105 rfl rfl rfl ?_
  obtain ⟨z1, h⟩ := h
  obtain ⟨z2, h⟩ := h
  refine j_if2 mt_105 rfl rfl z1 z2 (fun c => ?_) (fun c => ?_)
  · replace h := h.1 c
    refine v_s mt_105 rfl rfl rfl ?_
    exact v_ret mt_105 rfl rfl rfl h
  · replace h := h.2 (Int.not_le.mp c)
    refine v_s mt_105 rfl rfl rfl ?_
    obtain ⟨c2, J1, z3, h⟩ := h
    refine v_call (d1 := 0) mt_105 rfl rfl mt_276 rfl rfl rfl z3 (by clear h; omega) ?_
    refine v_is (L' := [o0, some (.ref r1), some (iv x2), some (iv x3), some (iv x4), some (iv x5), some (iv x6), some (iv c2)]) mt_105 rfl (Nat.le_of_ble_eq_true rfl) rfl ?_
    refine v_s mt_105 rfl rfl rfl ?_
    refine v_s mt_105 rfl rfl rfl ?_
    obtain ⟨z4, h⟩ := h
    obtain ⟨z5, h⟩ := h
    refine j_if2 mt_105 rfl rfl z4 z5 (fun c => ?_) (fun c => ?_)
    · replace h := h.1 c
      refine j_inc (e := x6 + 1) (L' := [o0, some (.ref r1), some (iv x2), some (iv x3), some (iv x4), some (iv x5), some (iv (x6 + 1)), some (iv c2)]) mt_105 rfl rfl (Nat.le_of_ble_eq_true rfl) rfl rfl ?_
      refine v_go mt_105 rfl rfl ?_
      exact h
    · replace h := h.2 (Int.not_le.mp c)
      refine v_s mt_105 rfl rfl rfl ?_
      refine v_s mt_105 rfl rfl rfl ?_
      refine v_s mt_105 rfl rfl rfl ?_
      obtain ⟨c4, J3, z6, h⟩ := h
      refine v_call (d1 := 0) mt_105 rfl rfl mt_106 rfl rfl rfl z6 (by clear h; omega) ?_
      refine v_ic (v := Int32.ofInt (-1)) mt_105 rfl rfl ?_
      refine j_xor (e := bXor c4 (-1)) mt_105 rfl rfl ?_
      refine j_and (e := bAnd x2 (bXor c4 (-1))) mt_105 rfl rfl ?_
      refine j_if1 mt_105 rfl rfl (inT _) (fun c => ?_) (fun c => ?_)
      · replace h := h.1 c
        refine j_inc (e := x6 + 1) (L' := [o0, some (.ref r1), some (iv x2), some (iv x3), some (iv x4), some (iv x5), some (iv (x6 + 1)), some (iv c2)]) mt_105 rfl rfl (Nat.le_of_ble_eq_true rfl) rfl rfl ?_
        refine v_go mt_105 rfl rfl ?_
        exact h
      · replace h := h.2 (Decidable.not_not.mp c)
        refine v_s mt_105 rfl rfl rfl ?_
        refine v_isn (L' := [o0, some (.ref r1), some (iv x2), some (iv x6), some (iv x4), some (iv x5), some (iv x6), some (iv c2)]) mt_105 rfl (Nat.le_of_ble_eq_true rfl) rfl ?_
        refine v_s mt_105 rfl rfl rfl ?_
        refine v_is (L' := [o0, some (.ref r1), some (iv x2), some (iv x6), some (iv c2), some (iv x5), some (iv x6), some (iv c2)]) mt_105 rfl (Nat.le_of_ble_eq_true rfl) rfl ?_
        refine j_inc (e := x6 + 1) (L' := [o0, some (.ref r1), some (iv x2), some (iv x6), some (iv c2), some (iv x5), some (iv (x6 + 1)), some (iv c2)]) mt_105 rfl rfl (Nat.le_of_ble_eq_true rfl) rfl rfl ?_
        refine v_go mt_105 rfl rfl ?_
        exact h
set_option maxHeartbeats 600000 in
theorem b_248_0 {X : Nat × (Nat → Int32)} {d : Nat} {J : Nat → Nat → Int} {sw : Bool × Bool × Bool} {lg : Nat → Nat → Int64} {x : Nat} {K : (Option Value ⊕ Nat) → mM → Prop} {o1 o2 : Option Value} (hd : 2 ≤ d)
    (h : VV X d 248 (9, [some (.ref 542), some (iv (-1)), some (iv 0)], [], mj (m_up J 542 0 0) sw lg x) K) : VV X d 248 (0, [some (.ref 542), o1, o2], [], mj J sw lg x) K := by
  refine v_s mt_248 rfl rfl rfl ?_
  refine v_ic (v := Int32.ofInt 0) mt_248 rfl rfl ?_
  refine j_pi 0 mt_248 rfl rfl c_542 (by decide) ?_
  refine v_ic (v := Int32.ofInt (-1)) mt_248 rfl rfl ?_
  refine v_isn (L' := [some (.ref 542), some (iv (-1)), o2]) mt_248 rfl (Nat.le_of_ble_eq_true rfl) rfl ?_
  refine v_ic (v := Int32.ofInt 0) mt_248 rfl rfl ?_
  refine v_isn (L' := [some (.ref 542), some (iv (-1)), some (iv 0)]) mt_248 rfl (Nat.le_of_ble_eq_true rfl) rfl ?_
  exact h
set_option maxHeartbeats 600000 in
theorem b_248_9 {X : Nat × (Nat → Int32)} {d : Nat} {J : Nat → Nat → Int} {sw : Bool × Bool × Bool} {lg : Nat → Nat → Int64} {x : Nat} {K : (Option Value ⊕ Nat) → mM → Prop} {x1 x2 : Int} (hd : 2 ≤ d)
    (h : InR x2 ∧ (bShl 1 (J 542 26) ≤ x2 → K (.inl (some (iv x1))) (mj J sw lg x)) ∧ (x2 < bShl 1 (J 542 26) → (∃ (c2 : Int) (J1 : Nat → Nat → Int), EE X 0 244 [.ref 542] (mj J sw lg x) (.inl (some (iv c2))) (mj J1 sw lg x) ∧ ∃ (c4 : Int) (J3 : Nat → Nat → Int), EE X 1 247 [.ref 542, iv x2] (mj J1 sw lg x) (.inl (some (iv c4))) (mj J3 sw lg x) ∧ (¬ bAnd c2 (bXor c4 (-1)) = 0 → VV X d 248 (9, [some (.ref 542), some (iv x1), some (iv (x2 + 1))], [], mj J3 sw lg x) K) ∧ (bAnd c2 (bXor c4 (-1)) = 0 → (InR x1 ∧ (x1 = (-1) → VV X d 248 (9, [some (.ref 542), some (iv x2), some (iv (x2 + 1))], [], mj J3 sw lg x) K) ∧ (¬ x1 = (-1) → (∃ (c6 : Int) (J5 : Nat → Nat → Int), EE X 0 246 [iv x2] (mj J3 sw lg x) (.inl (some (iv c6))) (mj J5 sw lg x) ∧ ∃ (c8 : Int) (J7 : Nat → Nat → Int), EE X 0 246 [iv x1] (mj J5 sw lg x) (.inl (some (iv c8))) (mj J7 sw lg x) ∧ InR c6 ∧ InR c8 ∧ (c8 ≤ c6 → VV X d 248 (9, [some (.ref 542), some (iv x1), some (iv (x2 + 1))], [], mj J7 sw lg x) K) ∧ (c6 < c8 → VV X d 248 (9, [some (.ref 542), some (iv x2), some (iv (x2 + 1))], [], mj J7 sw lg x) K)))))))) : VV X d 248 (9, [some (.ref 542), some (iv x1), some (iv x2)], [], mj J sw lg x) K := by
  refine v_s mt_248 rfl rfl rfl ?_
  refine v_ic (v := Int32.ofInt 1) mt_248 rfl rfl ?_
  refine v_s mt_248 rfl rfl rfl ?_
  refine j_gi (w := J 542 26) 26 mt_248 rfl rfl c_542 (by decide) rfl ?_
  refine j_shl (e := bShl 1 (J 542 26)) mt_248 rfl rfl ?_
  obtain ⟨z1, h⟩ := h
  refine j_if2 mt_248 rfl rfl z1 (inT _) (fun c => ?_) (fun c => ?_)
  · replace h := h.1 c
    refine v_s mt_248 rfl rfl rfl ?_
    exact v_ret mt_248 rfl rfl rfl h
  · replace h := h.2 (Int.not_le.mp c)
    refine v_s mt_248 rfl rfl rfl ?_
    obtain ⟨c2, J1, z2, h⟩ := h
    refine v_call (d1 := 0) mt_248 rfl rfl mt_244 rfl rfl (m_callj (As := []) (rest := []) rfl rfl c_542 rfl (Nat.le_of_ble_eq_true rfl) (Nat.le_of_ble_eq_true rfl)) z2 (by clear h; omega) ?_
    refine v_s mt_248 rfl rfl rfl ?_
    refine v_s mt_248 rfl rfl rfl ?_
    obtain ⟨c4, J3, z3, h⟩ := h
    refine v_call (d1 := 1) mt_248 rfl rfl mt_247 rfl rfl (m_callj (As := [iv x2]) (rest := [iv c2]) rfl rfl c_542 rfl (Nat.le_of_ble_eq_true rfl) (Nat.le_of_ble_eq_true rfl)) z3 (by clear h; omega) ?_
    refine v_ic (v := Int32.ofInt (-1)) mt_248 rfl rfl ?_
    refine j_xor (e := bXor c4 (-1)) mt_248 rfl rfl ?_
    refine j_and (e := bAnd c2 (bXor c4 (-1))) mt_248 rfl rfl ?_
    refine j_if1 mt_248 rfl rfl (inT _) (fun c => ?_) (fun c => ?_)
    · replace h := h.1 c
      refine j_inc (e := x2 + 1) (L' := [some (.ref 542), some (iv x1), some (iv (x2 + 1))]) mt_248 rfl rfl (Nat.le_of_ble_eq_true rfl) rfl rfl ?_
      refine v_go mt_248 rfl rfl ?_
      exact h
    · replace h := h.2 (Decidable.not_not.mp c)
      refine v_s mt_248 rfl rfl rfl ?_
      refine v_ic (v := Int32.ofInt (-1)) mt_248 rfl rfl ?_
      obtain ⟨z4, h⟩ := h
      refine j_if2 mt_248 rfl rfl z4 ⟨by decide, by decide⟩ (fun c => ?_) (fun c => ?_)
      · replace h := h.1 c
        refine v_s mt_248 rfl rfl rfl ?_
        refine v_isn (L' := [some (.ref 542), some (iv x2), some (iv x2)]) mt_248 rfl (Nat.le_of_ble_eq_true rfl) rfl ?_
        refine j_inc (e := x2 + 1) (L' := [some (.ref 542), some (iv x2), some (iv (x2 + 1))]) mt_248 rfl rfl (Nat.le_of_ble_eq_true rfl) rfl rfl ?_
        refine v_go mt_248 rfl rfl ?_
        exact h
      · replace h := h.2 c
        refine v_s mt_248 rfl rfl rfl ?_
        obtain ⟨c6, J5, z5, h⟩ := h
        refine v_call (d1 := 0) mt_248 rfl rfl mt_246 rfl rfl rfl z5 (by clear h; omega) ?_
        refine v_s mt_248 rfl rfl rfl ?_
        obtain ⟨c8, J7, z6, h⟩ := h
        refine v_call (d1 := 0) mt_248 rfl rfl mt_246 rfl rfl rfl z6 (by clear h; omega) ?_
        obtain ⟨z7, h⟩ := h
        obtain ⟨z8, h⟩ := h
        refine j_if2 mt_248 rfl rfl z7 z8 (fun c => ?_) (fun c => ?_)
        · replace h := h.1 c
          refine j_inc (e := x2 + 1) (L' := [some (.ref 542), some (iv x1), some (iv (x2 + 1))]) mt_248 rfl rfl (Nat.le_of_ble_eq_true rfl) rfl rfl ?_
          refine v_go mt_248 rfl rfl ?_
          exact h
        · replace h := h.2 (Int.not_le.mp c)
          refine v_s mt_248 rfl rfl rfl ?_
          refine v_isn (L' := [some (.ref 542), some (iv x2), some (iv x2)]) mt_248 rfl (Nat.le_of_ble_eq_true rfl) rfl ?_
          refine j_inc (e := x2 + 1) (L' := [some (.ref 542), some (iv x2), some (iv (x2 + 1))]) mt_248 rfl rfl (Nat.le_of_ble_eq_true rfl) rfl rfl ?_
          refine v_go mt_248 rfl rfl ?_
          exact h
set_option maxHeartbeats 600000 in
theorem b_107_0 {X : Nat × (Nat → Int32)} {d : Nat} {J : Nat → Nat → Int} {sw : Bool × Bool × Bool} {lg : Nat → Nat → Int64} {x : Nat} {K : (Option Value ⊕ Nat) → mM → Prop} {r1 : Nat} {o2 o3 o4 : Option Value} (h1 : SH[r1]? = some (14, 12)) (hd : 2 ≤ d)
    (h : VV X d 107 (7, [some (.ref 539), some (.ref r1), some (iv 0), some (iv 0), some (iv 0)], [], mj J sw lg x) K) : VV X d 107 (0, [some (.ref 539), some (.ref r1), o2, o3, o4], [], mj J sw lg x) K := by
  refine v_ic (v := Int32.ofInt 0) mt_107 rfl rfl ?_
  refine v_isn (L' := [some (.ref 539), some (.ref r1), some (iv 0), o3, o4]) mt_107 rfl (Nat.le_of_ble_eq_true rfl) rfl ?_
  refine v_ic (v := Int32.ofInt 0) mt_107 rfl rfl ?_
  refine v_isn (L' := [some (.ref 539), some (.ref r1), some (iv 0), some (iv 0), o4]) mt_107 rfl (Nat.le_of_ble_eq_true rfl) rfl ?_
  refine v_ic (v := Int32.ofInt 0) mt_107 rfl rfl ?_
  refine v_is (L' := [some (.ref 539), some (.ref r1), some (iv 0), some (iv 0), some (iv 0)]) mt_107 rfl (Nat.le_of_ble_eq_true rfl) rfl ?_
  exact h
set_option maxHeartbeats 600000 in
theorem b_107_7 {X : Nat × (Nat → Int32)} {d : Nat} {J : Nat → Nat → Int} {sw : Bool × Bool × Bool} {lg : Nat → Nat → Int64} {x : Nat} {K : (Option Value ⊕ Nat) → mM → Prop} {r1 : Nat} {x2 x3 x4 : Int} {o0 : Option Value} (h1 : SH[r1]? = some (14, 12)) (hd : 2 ≤ d)
    (h : InR x4 ∧ InR (J r1 2) ∧ (J r1 2 ≤ x4 → K (.inl (some (iv x3))) (mj J sw lg x)) ∧ (x4 < J r1 2 → ((¬ bAnd (bShr x2 x4) 1 = 0 → VV X d 107 (7, [o0, some (.ref r1), some (iv x2), some (iv x3), some (iv (x4 + 1))], [], mj J sw lg x) K) ∧ (bAnd (bShr x2 x4) 1 = 0 → (∃ (c2 : Int) (J1 : Nat → Nat → Int), EE X 1 108 [.ref r1, iv x4] (mj J sw lg x) (.inl (some (iv c2))) (mj J1 sw lg x) ∧ VV X d 107 (7, [o0, some (.ref r1), some (iv (bOr x2 c2)), some (iv (x3 + 1)), some (iv (x4 + 1))], [], mj J1 sw lg x) K))))) : VV X d 107 (7, [o0, some (.ref r1), some (iv x2), some (iv x3), some (iv x4)], [], mj J sw lg x) K := by
  refine v_s mt_107 rfl rfl rfl ?_
  refine v_s mt_107 rfl rfl rfl ?_
  refine j_gi (w := J r1 2) 2 mt_107 rfl rfl h1 (by decide) rfl ?_
  obtain ⟨z1, h⟩ := h
  obtain ⟨z2, h⟩ := h
  refine j_if2 mt_107 rfl rfl z1 z2 (fun c => ?_) (fun c => ?_)
  · replace h := h.1 c
    refine v_s mt_107 rfl rfl rfl ?_
    exact v_ret mt_107 rfl rfl rfl h
  · replace h := h.2 (Int.not_le.mp c)
    refine v_s mt_107 rfl rfl rfl ?_
    refine v_s mt_107 rfl rfl rfl ?_
    refine j_shr (e := bShr x2 x4) mt_107 rfl rfl ?_
    refine v_ic (v := Int32.ofInt 1) mt_107 rfl rfl ?_
    refine j_and (e := bAnd (bShr x2 x4) 1) mt_107 rfl rfl ?_
    refine j_if1 mt_107 rfl rfl (inT _) (fun c => ?_) (fun c => ?_)
    · replace h := h.1 c
      refine j_inc (e := x4 + 1) (L' := [o0, some (.ref r1), some (iv x2), some (iv x3), some (iv (x4 + 1))]) mt_107 rfl rfl (Nat.le_of_ble_eq_true rfl) rfl rfl ?_
      refine v_go mt_107 rfl rfl ?_
      exact h
    · replace h := h.2 (Decidable.not_not.mp c)
      refine j_inc (e := x3 + 1) (L' := [o0, some (.ref r1), some (iv x2), some (iv (x3 + 1)), some (iv x4)]) mt_107 rfl rfl (Nat.le_of_ble_eq_true rfl) rfl rfl ?_
      refine v_s mt_107 rfl rfl rfl ?_
      refine v_s mt_107 rfl rfl rfl ?_
      refine v_s mt_107 rfl rfl rfl ?_
      obtain ⟨c2, J1, z3, h⟩ := h
      refine v_call (d1 := 1) mt_107 rfl rfl mt_108 rfl rfl rfl z3 (by clear h; omega) ?_
      refine j_or (e := bOr x2 c2) mt_107 rfl rfl ?_
      refine v_isn (L' := [o0, some (.ref r1), some (iv (bOr x2 c2)), some (iv (x3 + 1)), some (iv x4)]) mt_107 rfl (Nat.le_of_ble_eq_true rfl) rfl ?_
      refine j_inc (e := x4 + 1) (L' := [o0, some (.ref r1), some (iv (bOr x2 c2)), some (iv (x3 + 1)), some (iv (x4 + 1))]) mt_107 rfl rfl (Nat.le_of_ble_eq_true rfl) rfl rfl ?_
      refine v_go mt_107 rfl rfl ?_
      exact h
set_option maxHeartbeats 600000 in
theorem b_108_0 {X : Nat × (Nat → Int32)} {d : Nat} {J : Nat → Nat → Int} {sw : Bool × Bool × Bool} {lg : Nat → Nat → Int64} {x : Nat} {K : (Option Value ⊕ Nat) → mM → Prop} {r0 : Nat} {x1 : Int} {o2 o3 : Option Value} (h0 : SH[r0]? = some (14, 12)) (hd : 1 ≤ d)
    (h : VV X d 108 (6, [some (.ref r0), some (iv x1), some (iv (bShl 1 x1)), some (iv 0)], [], mj J sw lg x) K) : VV X d 108 (0, [some (.ref r0), some (iv x1), o2, o3], [], mj J sw lg x) K := by
  refine v_ic (v := Int32.ofInt 1) mt_108 rfl rfl ?_
  refine v_s mt_108 rfl rfl rfl ?_
  refine j_shl (e := bShl 1 x1) mt_108 rfl rfl ?_
  refine v_isn (L' := [some (.ref r0), some (iv x1), some (iv (bShl 1 x1)), o3]) mt_108 rfl (Nat.le_of_ble_eq_true rfl) rfl ?_
  refine v_ic (v := Int32.ofInt 0) mt_108 rfl rfl ?_
  refine v_isn (L' := [some (.ref r0), some (iv x1), some (iv (bShl 1 x1)), some (iv 0)]) mt_108 rfl (Nat.le_of_ble_eq_true rfl) rfl ?_
  exact h
set_option maxHeartbeats 600000 in
theorem b_108_6 {X : Nat × (Nat → Int32)} {d : Nat} {J : Nat → Nat → Int} {sw : Bool × Bool × Bool} {lg : Nat → Nat → Int64} {x : Nat} {K : (Option Value ⊕ Nat) → mM → Prop} {r0 : Nat} {x1 x2 x3 : Int} (h0 : SH[r0]? = some (14, 12)) (hd : 1 ≤ d)
    (h : InR x3 ∧ InR (J r0 2) ∧ (J r0 2 ≤ x3 → K (.inl (some (iv x2))) (mj J sw lg x)) ∧ (x3 < J r0 2 → (∃ (c2 : Int) (J1 : Nat → Nat → Int), EE X 0 106 [.ref r0, iv x2] (mj J sw lg x) (.inl (some (iv c2))) (mj J1 sw lg x) ∧ VV X d 108 (6, [some (.ref r0), some (iv x1), some (iv c2), some (iv (x3 + 1))], [], mj J1 sw lg x) K))) : VV X d 108 (6, [some (.ref r0), some (iv x1), some (iv x2), some (iv x3)], [], mj J sw lg x) K := by
  refine v_s mt_108 rfl rfl rfl ?_
  refine v_s mt_108 rfl rfl rfl ?_
  refine j_gi (w := J r0 2) 2 mt_108 rfl rfl h0 (by decide) rfl ?_
  obtain ⟨z1, h⟩ := h
  obtain ⟨z2, h⟩ := h
  refine j_if2 mt_108 rfl rfl z1 z2 (fun c => ?_) (fun c => ?_)
  · replace h := h.1 c
    refine v_s mt_108 rfl rfl rfl ?_
    exact v_ret mt_108 rfl rfl rfl h
  · replace h := h.2 (Int.not_le.mp c)
    refine v_s mt_108 rfl rfl rfl ?_
    refine v_s mt_108 rfl rfl rfl ?_
    obtain ⟨c2, J1, z3, h⟩ := h
    refine v_call (d1 := 0) mt_108 rfl rfl mt_106 rfl rfl rfl z3 (by clear h; omega) ?_
    refine v_isn (L' := [some (.ref r0), some (iv x1), some (iv c2), some (iv x3)]) mt_108 rfl (Nat.le_of_ble_eq_true rfl) rfl ?_
    refine j_inc (e := x3 + 1) (L' := [some (.ref r0), some (iv x1), some (iv c2), some (iv (x3 + 1))]) mt_108 rfl rfl (Nat.le_of_ble_eq_true rfl) rfl rfl ?_
    refine v_go mt_108 rfl rfl ?_
    exact h
set_option maxHeartbeats 600000 in
theorem b_250_0 {X : Nat × (Nat → Int32)} {d : Nat} {J : Nat → Nat → Int} {sw : Bool × Bool × Bool} {lg : Nat → Nat → Int64} {x : Nat} {K : (Option Value ⊕ Nat) → mM → Prop} {o1 o2 o3 o4 o5 : Option Value} (hd : 2 ≤ d)
    (h : VV X d 250 (11, [some (.ref 542), some (iv 0), some (iv 0), some (iv 0), o4, o5], [], mj (m_up J 542 0 0) sw lg x) K) : VV X d 250 (0, [some (.ref 542), o1, o2, o3, o4, o5], [], mj J sw lg x) K := by
  refine v_s mt_250 rfl rfl rfl ?_
  refine v_ic (v := Int32.ofInt 0) mt_250 rfl rfl ?_
  refine j_pi 0 mt_250 rfl rfl c_542 (by decide) ?_
  refine v_ic (v := Int32.ofInt 0) mt_250 rfl rfl ?_
  refine v_isn (L' := [some (.ref 542), some (iv 0), o2, o3, o4, o5]) mt_250 rfl (Nat.le_of_ble_eq_true rfl) rfl ?_
  refine v_ic (v := Int32.ofInt 0) mt_250 rfl rfl ?_
  refine v_isn (L' := [some (.ref 542), some (iv 0), some (iv 0), o3, o4, o5]) mt_250 rfl (Nat.le_of_ble_eq_true rfl) rfl ?_
  refine v_ic (v := Int32.ofInt 0) mt_250 rfl rfl ?_
  refine v_isn (L' := [some (.ref 542), some (iv 0), some (iv 0), some (iv 0), o4, o5]) mt_250 rfl (Nat.le_of_ble_eq_true rfl) rfl ?_
  exact h
set_option maxHeartbeats 600000 in
theorem b_250_11 {X : Nat × (Nat → Int32)} {d : Nat} {J : Nat → Nat → Int} {sw : Bool × Bool × Bool} {lg : Nat → Nat → Int64} {x : Nat} {K : (Option Value ⊕ Nat) → mM → Prop} {x1 x2 x3 : Int} {o4 o5 : Option Value} (hd : 2 ≤ d)
    (h : InR x3 ∧ InR (J 542 26) ∧ (J 542 26 ≤ x3 → K (.inl (some (iv x2))) (mj J sw lg x)) ∧ (x3 < J 542 26 → ((¬ bAnd (bShr x1 x3) 1 = 1 → VV X d 250 (39, [some (.ref 542), some (iv x1), some (iv x2), some (iv x3), some (iv (bShl 1 x3)), some (iv 0)], [], mj J sw lg x) K) ∧ (bAnd (bShr x1 x3) 1 = 1 → VV X d 250 (11, [some (.ref 542), some (iv x1), some (iv x2), some (iv (x3 + 1)), o4, o5], [], mj J sw lg x) K)))) : VV X d 250 (11, [some (.ref 542), some (iv x1), some (iv x2), some (iv x3), o4, o5], [], mj J sw lg x) K := by
  refine v_s mt_250 rfl rfl rfl ?_
  refine v_s mt_250 rfl rfl rfl ?_
  refine j_gi (w := J 542 26) 26 mt_250 rfl rfl c_542 (by decide) rfl ?_
  obtain ⟨z1, h⟩ := h
  obtain ⟨z2, h⟩ := h
  refine j_if2 mt_250 rfl rfl z1 z2 (fun c => ?_) (fun c => ?_)
  · replace h := h.1 c
    refine v_s mt_250 rfl rfl rfl ?_
    exact v_ret mt_250 rfl rfl rfl h
  · replace h := h.2 (Int.not_le.mp c)
    refine v_s mt_250 rfl rfl rfl ?_
    refine v_s mt_250 rfl rfl rfl ?_
    refine j_shr (e := bShr x1 x3) mt_250 rfl rfl ?_
    refine v_ic (v := Int32.ofInt 1) mt_250 rfl rfl ?_
    refine j_and (e := bAnd (bShr x1 x3) 1) mt_250 rfl rfl ?_
    refine v_ic (v := Int32.ofInt 1) mt_250 rfl rfl ?_
    refine j_if2 mt_250 rfl rfl (inT _) ⟨by decide, by decide⟩ (fun c => ?_) (fun c => ?_)
    · replace h := h.1 c
      refine v_ic (v := Int32.ofInt 1) mt_250 rfl rfl ?_
      refine v_s mt_250 rfl rfl rfl ?_
      refine j_shl (e := bShl 1 x3) mt_250 rfl rfl ?_
      refine v_is (L' := [some (.ref 542), some (iv x1), some (iv x2), some (iv x3), some (iv (bShl 1 x3)), o5]) mt_250 rfl (Nat.le_of_ble_eq_true rfl) rfl ?_
      refine v_ic (v := Int32.ofInt 0) mt_250 rfl rfl ?_
      refine v_is (L' := [some (.ref 542), some (iv x1), some (iv x2), some (iv x3), some (iv (bShl 1 x3)), some (iv 0)]) mt_250 rfl (Nat.le_of_ble_eq_true rfl) rfl ?_
      exact h
    · replace h := h.2 (Decidable.not_not.mp c)
      refine v_go mt_250 rfl rfl ?_
      refine j_inc (e := x3 + 1) (L' := [some (.ref 542), some (iv x1), some (iv x2), some (iv (x3 + 1)), o4, o5]) mt_250 rfl rfl (Nat.le_of_ble_eq_true rfl) rfl rfl ?_
      refine v_go mt_250 rfl rfl ?_
      exact h
set_option maxHeartbeats 600000 in
theorem b_250_39 {X : Nat × (Nat → Int32)} {d : Nat} {J : Nat → Nat → Int} {sw : Bool × Bool × Bool} {lg : Nat → Nat → Int64} {x : Nat} {K : (Option Value ⊕ Nat) → mM → Prop} {x1 x2 x3 x4 x5 : Int} (hd : 2 ≤ d)
    (h : InR x5 ∧ (9 ≤ x5 → VV X d 250 (11, [some (.ref 542), some (iv (bOr x1 x4)), some (iv (x2 + 1)), some (iv (x3 + 1)), some (iv x4), some (iv x5)], [], mj J sw lg x) K) ∧ (x5 < 9 → (∃ (c2 : Int) (J1 : Nat → Nat → Int), EE X 1 247 [.ref 542, iv x4] (mj J sw lg x) (.inl (some (iv c2))) (mj J1 sw lg x) ∧ VV X d 250 (39, [some (.ref 542), some (iv x1), some (iv x2), some (iv x3), some (iv c2), some (iv (x5 + 1))], [], mj J1 sw lg x) K))) : VV X d 250 (39, [some (.ref 542), some (iv x1), some (iv x2), some (iv x3), some (iv x4), some (iv x5)], [], mj J sw lg x) K := by
  refine v_s mt_250 rfl rfl rfl ?_
  refine v_bp (v := Int32.ofInt 9) mt_250 rfl rfl ?_
  obtain ⟨z1, h⟩ := h
  refine j_if2 mt_250 rfl rfl z1 ⟨by decide, by decide⟩ (fun c => ?_) (fun c => ?_)
  · replace h := h.1 c
    refine v_s mt_250 rfl rfl rfl ?_
    refine v_s mt_250 rfl rfl rfl ?_
    refine j_or (e := bOr x1 x4) mt_250 rfl rfl ?_
    refine v_isn (L' := [some (.ref 542), some (iv (bOr x1 x4)), some (iv x2), some (iv x3), some (iv x4), some (iv x5)]) mt_250 rfl (Nat.le_of_ble_eq_true rfl) rfl ?_
    refine j_inc (e := x2 + 1) (L' := [some (.ref 542), some (iv (bOr x1 x4)), some (iv (x2 + 1)), some (iv x3), some (iv x4), some (iv x5)]) mt_250 rfl rfl (Nat.le_of_ble_eq_true rfl) rfl rfl ?_
    refine j_inc (e := x3 + 1) (L' := [some (.ref 542), some (iv (bOr x1 x4)), some (iv (x2 + 1)), some (iv (x3 + 1)), some (iv x4), some (iv x5)]) mt_250 rfl rfl (Nat.le_of_ble_eq_true rfl) rfl rfl ?_
    refine v_go mt_250 rfl rfl ?_
    exact h
  · replace h := h.2 (Int.not_le.mp c)
    refine v_s mt_250 rfl rfl rfl ?_
    refine v_s mt_250 rfl rfl rfl ?_
    obtain ⟨c2, J1, z2, h⟩ := h
    refine v_call (d1 := 1) mt_250 rfl rfl mt_247 rfl rfl (m_callj (As := [iv x4]) (rest := []) rfl rfl c_542 rfl (Nat.le_of_ble_eq_true rfl) (Nat.le_of_ble_eq_true rfl)) z2 (by clear h; omega) ?_
    refine v_is (L' := [some (.ref 542), some (iv x1), some (iv x2), some (iv x3), some (iv c2), some (iv x5)]) mt_250 rfl (Nat.le_of_ble_eq_true rfl) rfl ?_
    refine j_inc (e := x5 + 1) (L' := [some (.ref 542), some (iv x1), some (iv x2), some (iv x3), some (iv c2), some (iv (x5 + 1))]) mt_250 rfl rfl (Nat.le_of_ble_eq_true rfl) rfl rfl ?_
    refine v_go mt_250 rfl rfl ?_
    exact h
set_option maxHeartbeats 600000 in
theorem b_103_0 {X : Nat × (Nat → Int32)} {d : Nat} {J : Nat → Nat → Int} {sw : Bool × Bool × Bool} {lg : Nat → Nat → Int64} {x : Nat} {K : (Option Value ⊕ Nat) → mM → Prop} {r1 : Nat} {x2 x3 : Int} {o4 o5 o6 o7 o8 : Option Value} (h1 : SH[r1]? = some (14, 12)) (hd : 1 ≤ d)
    (h : VV X d 103 (13, [some (.ref 539), some (.ref r1), some (iv x2), some (iv x3), some (iv ((J r1 2) * 512)), some (iv 0), o6, o7, o8], [], mj J sw lg x) K) : VV X d 103 (0, [some (.ref 539), some (.ref r1), some (iv x2), some (iv x3), o4, o5, o6, o7, o8], [], mj J sw lg x) K := by
  refine v_s mt_103 rfl rfl rfl ?_
  refine j_gi (w := J r1 2) 2 mt_103 rfl rfl h1 (by decide) rfl ?_
  refine v_sp (v := Int32.ofInt 512) mt_103 rfl rfl ?_
  refine j_mul (e := (J r1 2) * 512) mt_103 rfl rfl ?_
  refine v_is (L' := [some (.ref 539), some (.ref r1), some (iv x2), some (iv x3), some (iv ((J r1 2) * 512)), o5, o6, o7, o8]) mt_103 rfl (Nat.le_of_ble_eq_true rfl) rfl ?_
  refine v_ic (v := Int32.ofInt 0) mt_103 rfl rfl ?_
  refine v_is (L' := [some (.ref 539), some (.ref r1), some (iv x2), some (iv x3), some (iv ((J r1 2) * 512)), some (iv 0), o6, o7, o8]) mt_103 rfl (Nat.le_of_ble_eq_true rfl) rfl ?_
  exact h
set_option maxHeartbeats 600000 in
theorem b_103_13 {X : Nat × (Nat → Int32)} {d : Nat} {J : Nat → Nat → Int} {sw : Bool × Bool × Bool} {lg : Nat → Nat → Int64} {x : Nat} {K : (Option Value ⊕ Nat) → mM → Prop} {r1 : Nat} {x2 x3 x4 x5 : Int} {o6 o7 o8 : Option Value} (h1 : SH[r1]? = some (14, 12)) (hd : 1 ≤ d)
    (h : InR x5 ∧ InR x4 ∧ (x4 ≤ x5 → (∃ (J1 : Nat → Nat → Int), EE X 0 104 [.ref 539, iv x3, iv (bAnd (bShl 1 x3) x2), iv 0] (mj (m_up J 539 2 0) sw lg x) (.inl none) (mj J1 sw lg x) ∧ VV X d 103 (53, [some (.ref 539), some (.ref r1), some (iv x2), some (iv x3), some (iv x4), some (iv 0), o6, o7, o8], [], mj J1 sw lg x) K)) ∧ (x5 < x4 → ((0 ≤ x5 ∧ x5 < 4608) ∧ VV X d 103 (13, [some (.ref 539), some (.ref r1), some (iv x2), some (iv x3), some (iv x4), some (iv (x5 + 1)), o6, o7, o8], [], mj (m_up J 540 x5.toNat (-1)) sw lg x) K))) : VV X d 103 (13, [some (.ref 539), some (.ref r1), some (iv x2), some (iv x3), some (iv x4), some (iv x5), o6, o7, o8], [], mj J sw lg x) K := by
  refine v_s mt_103 rfl rfl rfl ?_
  refine v_s mt_103 rfl rfl rfl ?_
  obtain ⟨z1, h⟩ := h
  obtain ⟨z2, h⟩ := h
  refine j_if2 mt_103 rfl rfl z1 z2 (fun c => ?_) (fun c => ?_)
  · replace h := h.1 c
    refine v_s mt_103 rfl rfl rfl ?_
    refine v_ic (v := Int32.ofInt 0) mt_103 rfl rfl ?_
    refine j_pi 2 mt_103 rfl rfl c_539 (by decide) ?_
    refine v_s mt_103 rfl rfl rfl ?_
    refine v_s mt_103 rfl rfl rfl ?_
    refine v_ic (v := Int32.ofInt 1) mt_103 rfl rfl ?_
    refine v_s mt_103 rfl rfl rfl ?_
    refine j_shl (e := bShl 1 x3) mt_103 rfl rfl ?_
    refine v_s mt_103 rfl rfl rfl ?_
    refine j_and (e := bAnd (bShl 1 x3) x2) mt_103 rfl rfl ?_
    refine v_ic (v := Int32.ofInt 0) mt_103 rfl rfl ?_
    obtain ⟨J1, z3, h⟩ := h
    refine v_call (d1 := 0) mt_103 rfl rfl mt_104 rfl rfl (m_callj (As := [iv x3, iv (bAnd (bShl 1 x3) x2), iv 0]) (rest := []) rfl rfl c_539 rfl (Nat.le_of_ble_eq_true rfl) (Nat.le_of_ble_eq_true rfl)) z3 (by clear h; omega) ?_
    refine v_ic (v := Int32.ofInt 0) mt_103 rfl rfl ?_
    refine v_is (L' := [some (.ref 539), some (.ref r1), some (iv x2), some (iv x3), some (iv x4), some (iv 0), o6, o7, o8]) mt_103 rfl (Nat.le_of_ble_eq_true rfl) rfl ?_
    exact h
  · replace h := h.2 (Int.not_le.mp c)
    refine v_s mt_103 rfl rfl rfl ?_
    refine v_gr (w := 540) 0 mt_103 rfl rfl c_539 (by decide) (g_10_0 c_539) ?_
    refine v_s mt_103 rfl rfl rfl ?_
    refine v_ic (v := Int32.ofInt (-1)) mt_103 rfl rfl ?_
    obtain ⟨z4, h⟩ := h
    refine j_as mt_103 rfl c_540 z4 (by decide) ?_
    refine j_inc (e := x5 + 1) (L' := [some (.ref 539), some (.ref r1), some (iv x2), some (iv x3), some (iv x4), some (iv (x5 + 1)), o6, o7, o8]) mt_103 rfl rfl (Nat.le_of_ble_eq_true rfl) rfl rfl ?_
    refine v_go mt_103 rfl rfl ?_
    exact h
set_option maxHeartbeats 600000 in
theorem b_103_53 {X : Nat × (Nat → Int32)} {d : Nat} {J : Nat → Nat → Int} {sw : Bool × Bool × Bool} {lg : Nat → Nat → Int64} {x : Nat} {K : (Option Value ⊕ Nat) → mM → Prop} {r1 : Nat} {x2 x3 x4 x5 : Int} {o6 o7 o8 : Option Value} (h1 : SH[r1]? = some (14, 12)) (hd : 1 ≤ d)
    (h : InR x5 ∧ InR (J 539 2) ∧ (J 539 2 ≤ x5 → K (.inl (some (iv (-1)))) (mj J sw lg x)) ∧ (x5 < J 539 2 → ((4608 ≤ x5 → K (.inl (some (iv (-1)))) (mj J sw lg x)) ∧ (x5 < 4608 → ((0 ≤ x5 ∧ x5 < 4608) ∧ InR x2 ∧ (¬ bRem (J 541 x5.toNat) 512 = x2 → VV X d 103 (120, [some (.ref 539), some (.ref r1), some (iv x2), some (iv x3), some (iv x4), some (iv x5), some (iv (bDiv (J 541 x5.toNat) 512)), some (iv (bRem (J 541 x5.toNat) 512)), some (iv 0)], [], mj J sw lg x) K) ∧ (bRem (J 541 x5.toNat) 512 = x2 → ((0 ≤ J 541 x5.toNat ∧ J 541 x5.toNat < 4608) ∧ K (.inl (some (iv (J 540 ((J 541 x5.toNat).toNat))))) (mj J sw lg x)))))))) : VV X d 103 (53, [some (.ref 539), some (.ref r1), some (iv x2), some (iv x3), some (iv x4), some (iv x5), o6, o7, o8], [], mj J sw lg x) K := by
  refine v_s mt_103 rfl rfl rfl ?_
  refine v_s mt_103 rfl rfl rfl ?_
  refine j_gi (w := J 539 2) 2 mt_103 rfl rfl c_539 (by decide) rfl ?_
  obtain ⟨z1, h⟩ := h
  obtain ⟨z2, h⟩ := h
  refine j_if2 mt_103 rfl rfl z1 z2 (fun c => ?_) (fun c => ?_)
  · replace h := h.1 c
    refine v_ic (v := Int32.ofInt (-1)) mt_103 rfl rfl ?_
    exact v_ret mt_103 rfl rfl rfl h
  · replace h := h.2 (Int.not_le.mp c)
    refine v_s mt_103 rfl rfl rfl ?_
    refine v_s mt_103 rfl rfl rfl ?_
    refine v_gr (w := 541) 1 mt_103 rfl rfl c_539 (by decide) (g_10_1 c_539) ?_
    refine j_len (e := 4608) mt_103 rfl c_541 (by decide) rfl ?_
    refine j_if2 mt_103 rfl rfl z1 ⟨by decide, by decide⟩ (fun c => ?_) (fun c => ?_)
    · replace h := h.1 c
      refine v_ic (v := Int32.ofInt (-1)) mt_103 rfl rfl ?_
      exact v_ret mt_103 rfl rfl rfl h
    · replace h := h.2 (Int.not_le.mp c)
      refine v_s mt_103 rfl rfl rfl ?_
      refine v_gr (w := 541) 1 mt_103 rfl rfl c_539 (by decide) (g_10_1 c_539) ?_
      refine v_s mt_103 rfl rfl rfl ?_
      obtain ⟨z3, h⟩ := h
      refine j_al (w := J 541 x5.toNat) mt_103 rfl c_541 z3 (by decide) rfl ?_
      refine v_sp (v := Int32.ofInt 512) mt_103 rfl rfl ?_
      refine j_div (e := bDiv (J 541 x5.toNat) 512) mt_103 rfl ⟨by decide, by decide⟩ (by decide) rfl ?_
      refine v_is (L' := [some (.ref 539), some (.ref r1), some (iv x2), some (iv x3), some (iv x4), some (iv x5), some (iv (bDiv (J 541 x5.toNat) 512)), o7, o8]) mt_103 rfl (Nat.le_of_ble_eq_true rfl) rfl ?_
      refine v_s mt_103 rfl rfl rfl ?_
      refine v_gr (w := 541) 1 mt_103 rfl rfl c_539 (by decide) (g_10_1 c_539) ?_
      refine v_s mt_103 rfl rfl rfl ?_
      refine j_al (w := J 541 x5.toNat) mt_103 rfl c_541 z3 (by decide) rfl ?_
      refine v_sp (v := Int32.ofInt 512) mt_103 rfl rfl ?_
      refine j_rem (e := bRem (J 541 x5.toNat) 512) mt_103 rfl ⟨by decide, by decide⟩ (by decide) rfl ?_
      refine v_is (L' := [some (.ref 539), some (.ref r1), some (iv x2), some (iv x3), some (iv x4), some (iv x5), some (iv (bDiv (J 541 x5.toNat) 512)), some (iv (bRem (J 541 x5.toNat) 512)), o8]) mt_103 rfl (Nat.le_of_ble_eq_true rfl) rfl ?_
      refine v_s mt_103 rfl rfl rfl ?_
      refine v_s mt_103 rfl rfl rfl ?_
      obtain ⟨z4, h⟩ := h
      refine j_if2 mt_103 rfl rfl (inT _) z4 (fun c => ?_) (fun c => ?_)
      · replace h := h.1 c
        refine v_ic (v := Int32.ofInt 0) mt_103 rfl rfl ?_
        refine v_is (L' := [some (.ref 539), some (.ref r1), some (iv x2), some (iv x3), some (iv x4), some (iv x5), some (iv (bDiv (J 541 x5.toNat) 512)), some (iv (bRem (J 541 x5.toNat) 512)), some (iv 0)]) mt_103 rfl (Nat.le_of_ble_eq_true rfl) rfl ?_
        exact h
      · replace h := h.2 (Decidable.not_not.mp c)
        refine v_s mt_103 rfl rfl rfl ?_
        refine v_gr (w := 540) 0 mt_103 rfl rfl c_539 (by decide) (g_10_0 c_539) ?_
        refine v_s mt_103 rfl rfl rfl ?_
        refine v_gr (w := 541) 1 mt_103 rfl rfl c_539 (by decide) (g_10_1 c_539) ?_
        refine v_s mt_103 rfl rfl rfl ?_
        refine j_al (w := J 541 x5.toNat) mt_103 rfl c_541 z3 (by decide) rfl ?_
        obtain ⟨z5, h⟩ := h
        refine j_al (w := J 540 ((J 541 x5.toNat).toNat)) mt_103 rfl c_540 z5 (by decide) rfl ?_
        exact v_ret mt_103 rfl rfl rfl h
set_option maxHeartbeats 600000 in
theorem b_103_120 {X : Nat × (Nat → Int32)} {d : Nat} {J : Nat → Nat → Int} {sw : Bool × Bool × Bool} {lg : Nat → Nat → Int64} {x : Nat} {K : (Option Value ⊕ Nat) → mM → Prop} {r1 : Nat} {x2 x3 x4 x5 x6 x7 x8 : Int} (h1 : SH[r1]? = some (14, 12)) (hd : 1 ≤ d)
    (h : InR x8 ∧ InR (J r1 2) ∧ (J r1 2 ≤ x8 → VV X d 103 (53, [some (.ref 539), some (.ref r1), some (iv x2), some (iv x3), some (iv x4), some (iv (x5 + 1)), some (iv x6), some (iv x7), some (iv x8)], [], mj J sw lg x) K) ∧ (x8 < J r1 2 → ((0 ≤ x6 ∧ x6 < 9) ∧ (bAnd (bShr (J (r1 + 4) x6.toNat) x8) 1 = 0 → VV X d 103 (120, [some (.ref 539), some (.ref r1), some (iv x2), some (iv x3), some (iv x4), some (iv x5), some (iv x6), some (iv x7), some (iv (x8 + 1))], [], mj J sw lg x) K) ∧ (¬ bAnd (bShr (J (r1 + 4) x6.toNat) x8) 1 = 0 → ((0 ≤ x5 ∧ x5 < 4608) ∧ (0 ≤ J 541 x5.toNat ∧ J 541 x5.toNat < 4608) ∧ ∃ (J1 : Nat → Nat → Int), EE X 0 104 [.ref 539, iv x8, iv (bOr x7 (bAnd (bShl 1 x8) x2)), iv ((J 540 ((J 541 x5.toNat).toNat)) + 1)] (mj J sw lg x) (.inl none) (mj J1 sw lg x) ∧ VV X d 103 (120, [some (.ref 539), some (.ref r1), some (iv x2), some (iv x3), some (iv x4), some (iv x5), some (iv x6), some (iv x7), some (iv (x8 + 1))], [], mj J1 sw lg x) K))))) : VV X d 103 (120, [some (.ref 539), some (.ref r1), some (iv x2), some (iv x3), some (iv x4), some (iv x5), some (iv x6), some (iv x7), some (iv x8)], [], mj J sw lg x) K := by
  refine v_s mt_103 rfl rfl rfl ?_
  refine v_s mt_103 rfl rfl rfl ?_
  refine j_gi (w := J r1 2) 2 mt_103 rfl rfl h1 (by decide) rfl ?_
  obtain ⟨z1, h⟩ := h
  obtain ⟨z2, h⟩ := h
  refine j_if2 mt_103 rfl rfl z1 z2 (fun c => ?_) (fun c => ?_)
  · replace h := h.1 c
    refine j_inc (e := x5 + 1) (L' := [some (.ref 539), some (.ref r1), some (iv x2), some (iv x3), some (iv x4), some (iv (x5 + 1)), some (iv x6), some (iv x7), some (iv x8)]) mt_103 rfl rfl (Nat.le_of_ble_eq_true rfl) rfl rfl ?_
    refine v_go mt_103 rfl rfl ?_
    exact h
  · replace h := h.2 (Int.not_le.mp c)
    refine v_s mt_103 rfl rfl rfl ?_
    refine v_gr (w := (r1 + 4)) 11 mt_103 rfl rfl h1 (by decide) (g_9_11 h1) ?_
    refine v_s mt_103 rfl rfl rfl ?_
    obtain ⟨z3, h⟩ := h
    refine j_al (w := J (r1 + 4) x6.toNat) mt_103 rfl (shV r1 (SH_lt h1) h1).2.2.2.1 z3 (by decide) rfl ?_
    refine v_s mt_103 rfl rfl rfl ?_
    refine j_shr (e := bShr (J (r1 + 4) x6.toNat) x8) mt_103 rfl rfl ?_
    refine v_ic (v := Int32.ofInt 1) mt_103 rfl rfl ?_
    refine j_and (e := bAnd (bShr (J (r1 + 4) x6.toNat) x8) 1) mt_103 rfl rfl ?_
    refine j_if1 mt_103 rfl rfl (inT _) (fun c => ?_) (fun c => ?_)
    · replace h := h.1 c
      refine j_inc (e := x8 + 1) (L' := [some (.ref 539), some (.ref r1), some (iv x2), some (iv x3), some (iv x4), some (iv x5), some (iv x6), some (iv x7), some (iv (x8 + 1))]) mt_103 rfl rfl (Nat.le_of_ble_eq_true rfl) rfl rfl ?_
      refine v_go mt_103 rfl rfl ?_
      exact h
    · replace h := h.2 c
      refine v_s mt_103 rfl rfl rfl ?_
      refine v_s mt_103 rfl rfl rfl ?_
      refine v_s mt_103 rfl rfl rfl ?_
      refine v_ic (v := Int32.ofInt 1) mt_103 rfl rfl ?_
      refine v_s mt_103 rfl rfl rfl ?_
      refine j_shl (e := bShl 1 x8) mt_103 rfl rfl ?_
      refine v_s mt_103 rfl rfl rfl ?_
      refine j_and (e := bAnd (bShl 1 x8) x2) mt_103 rfl rfl ?_
      refine j_or (e := bOr x7 (bAnd (bShl 1 x8) x2)) mt_103 rfl rfl ?_
      refine v_s mt_103 rfl rfl rfl ?_
      refine v_gr (w := 540) 0 mt_103 rfl rfl c_539 (by decide) (g_10_0 c_539) ?_
      refine v_s mt_103 rfl rfl rfl ?_
      refine v_gr (w := 541) 1 mt_103 rfl rfl c_539 (by decide) (g_10_1 c_539) ?_
      refine v_s mt_103 rfl rfl rfl ?_
      obtain ⟨z4, h⟩ := h
      refine j_al (w := J 541 x5.toNat) mt_103 rfl c_541 z4 (by decide) rfl ?_
      obtain ⟨z5, h⟩ := h
      refine j_al (w := J 540 ((J 541 x5.toNat).toNat)) mt_103 rfl c_540 z5 (by decide) rfl ?_
      refine v_ic (v := Int32.ofInt 1) mt_103 rfl rfl ?_
      refine j_add (e := (J 540 ((J 541 x5.toNat).toNat)) + 1) mt_103 rfl rfl ?_
      obtain ⟨J1, z6, h⟩ := h
      refine v_call (d1 := 0) mt_103 rfl rfl mt_104 rfl rfl (m_callj (As := [iv x8, iv (bOr x7 (bAnd (bShl 1 x8) x2)), iv ((J 540 ((J 541 x5.toNat).toNat)) + 1)]) (rest := []) rfl rfl c_539 rfl (Nat.le_of_ble_eq_true rfl) (Nat.le_of_ble_eq_true rfl)) z6 (by clear h; omega) ?_
      refine j_inc (e := x8 + 1) (L' := [some (.ref 539), some (.ref r1), some (iv x2), some (iv x3), some (iv x4), some (iv x5), some (iv x6), some (iv x7), some (iv (x8 + 1))]) mt_103 rfl rfl (Nat.le_of_ble_eq_true rfl) rfl rfl ?_
      refine v_go mt_103 rfl rfl ?_
      exact h
set_option maxHeartbeats 600000 in
theorem b_104_0 {X : Nat × (Nat → Int32)} {d : Nat} {J : Nat → Nat → Int} {sw : Bool × Bool × Bool} {lg : Nat → Nat → Int64} {x : Nat} {K : (Option Value ⊕ Nat) → mM → Prop} {x1 x2 x3 : Int} {o4 : Option Value}
    (h : InR ((x1 * 512) + x2) ∧ ((x1 * 512) + x2 < 0 → K (.inl none) (mj J sw lg x)) ∧ (0 ≤ (x1 * 512) + x2 → ((4608 ≤ (x1 * 512) + x2 → K (.inl none) (mj J sw lg x)) ∧ ((x1 * 512) + x2 < 4608 → ((0 ≤ (x1 * 512) + x2 ∧ (x1 * 512) + x2 < 4608) ∧ InR (J 540 (((x1 * 512) + x2).toNat)) ∧ (¬ J 540 (((x1 * 512) + x2).toNat) = (-1) → K (.inl none) (mj J sw lg x)) ∧ (J 540 (((x1 * 512) + x2).toNat) = (-1) → (InR (J 539 2) ∧ (4608 ≤ J 539 2 → K (.inl none) (mj J sw lg x)) ∧ (J 539 2 < 4608 → ((0 ≤ J 539 2 ∧ J 539 2 < 4608) ∧ K (.inl none) (mj (m_up (m_up (m_up J 540 (((x1 * 512) + x2).toNat) x3) 541 ((J 539 2).toNat) ((x1 * 512) + x2)) 539 2 ((J 539 2) + 1)) sw lg x)))))))))) : VV X d 104 (0, [some (.ref 539), some (iv x1), some (iv x2), some (iv x3), o4], [], mj J sw lg x) K := by
  refine v_s mt_104 rfl rfl rfl ?_
  refine v_sp (v := Int32.ofInt 512) mt_104 rfl rfl ?_
  refine j_mul (e := x1 * 512) mt_104 rfl rfl ?_
  refine v_s mt_104 rfl rfl rfl ?_
  refine j_add (e := (x1 * 512) + x2) mt_104 rfl rfl ?_
  refine v_is (L' := [some (.ref 539), some (iv x1), some (iv x2), some (iv x3), some (iv ((x1 * 512) + x2))]) mt_104 rfl (Nat.le_of_ble_eq_true rfl) rfl ?_
  refine v_s mt_104 rfl rfl rfl ?_
  obtain ⟨z1, h⟩ := h
  refine j_if1 mt_104 rfl rfl z1 (fun c => ?_) (fun c => ?_)
  · replace h := h.1 c
    exact v_ret mt_104 rfl rfl rfl h
  · replace h := h.2 (Int.not_lt.mp c)
    refine v_s mt_104 rfl rfl rfl ?_
    refine v_s mt_104 rfl rfl rfl ?_
    refine v_gr (w := 540) 0 mt_104 rfl rfl c_539 (by decide) (g_10_0 c_539) ?_
    refine j_len (e := 4608) mt_104 rfl c_540 (by decide) rfl ?_
    refine j_if2 mt_104 rfl rfl z1 ⟨by decide, by decide⟩ (fun c => ?_) (fun c => ?_)
    · replace h := h.1 c
      exact v_ret mt_104 rfl rfl rfl h
    · replace h := h.2 (Int.not_le.mp c)
      refine v_s mt_104 rfl rfl rfl ?_
      refine v_gr (w := 540) 0 mt_104 rfl rfl c_539 (by decide) (g_10_0 c_539) ?_
      refine v_s mt_104 rfl rfl rfl ?_
      obtain ⟨z2, h⟩ := h
      refine j_al (w := J 540 (((x1 * 512) + x2).toNat)) mt_104 rfl c_540 z2 (by decide) rfl ?_
      refine v_ic (v := Int32.ofInt (-1)) mt_104 rfl rfl ?_
      obtain ⟨z3, h⟩ := h
      refine j_if2 mt_104 rfl rfl z3 ⟨by decide, by decide⟩ (fun c => ?_) (fun c => ?_)
      · replace h := h.1 c
        exact v_ret mt_104 rfl rfl rfl h
      · replace h := h.2 (Decidable.not_not.mp c)
        refine v_s mt_104 rfl rfl rfl ?_
        refine j_gi (w := J 539 2) 2 mt_104 rfl rfl c_539 (by decide) rfl ?_
        refine v_s mt_104 rfl rfl rfl ?_
        refine v_gr (w := 541) 1 mt_104 rfl rfl c_539 (by decide) (g_10_1 c_539) ?_
        refine j_len (e := 4608) mt_104 rfl c_541 (by decide) rfl ?_
        obtain ⟨z4, h⟩ := h
        refine j_if2 mt_104 rfl rfl z4 ⟨by decide, by decide⟩ (fun c => ?_) (fun c => ?_)
        · replace h := h.1 c
          exact v_ret mt_104 rfl rfl rfl h
        · replace h := h.2 (Int.not_le.mp c)
          refine v_s mt_104 rfl rfl rfl ?_
          refine v_gr (w := 540) 0 mt_104 rfl rfl c_539 (by decide) (g_10_0 c_539) ?_
          refine v_s mt_104 rfl rfl rfl ?_
          refine v_s mt_104 rfl rfl rfl ?_
          refine j_as mt_104 rfl c_540 z2 (by decide) ?_
          refine v_s mt_104 rfl rfl rfl ?_
          refine v_gr (w := 541) 1 mt_104 rfl rfl c_539 (by decide) (g_10_1 c_539) ?_
          refine v_s mt_104 rfl rfl rfl ?_
          refine j_gi (w := J 539 2) 2 mt_104 rfl rfl c_539 (by decide) ((up_na (by decide)).trans rfl) ?_
          refine v_s mt_104 rfl rfl rfl ?_
          obtain ⟨z5, h⟩ := h
          refine j_as mt_104 rfl c_541 z5 (by decide) ?_
          refine v_s mt_104 rfl rfl rfl ?_
          refine v_s mt_104 rfl rfl rfl ?_
          refine j_gi (w := J 539 2) 2 mt_104 rfl rfl c_539 (by decide) ((up_na (by decide)).trans ((up_na (by decide)).trans rfl)) ?_
          refine v_ic (v := Int32.ofInt 1) mt_104 rfl rfl ?_
          refine j_add (e := (J 539 2) + 1) mt_104 rfl rfl ?_
          refine j_pi 2 mt_104 rfl rfl c_539 (by decide) ?_
          exact v_ret mt_104 rfl rfl rfl h
set_option maxHeartbeats 600000 in
theorem b_245_0 {X : Nat × (Nat → Int32)} {d : Nat} {J : Nat → Nat → Int} {sw : Bool × Bool × Bool} {lg : Nat → Nat → Int64} {x : Nat} {K : (Option Value ⊕ Nat) → mM → Prop} {x1 : Int} {o2 o3 o4 o5 o6 o7 o8 : Option Value} (hd : 2 ≤ d)
    (h : InR x1 ∧ (x1 < 0 → K (.inl (some (iv 0))) (mj (m_up (m_up (m_up J 542 0 0) 542 0 1) 543 0 ((J 543 0) + 1)) sw lg x)) ∧ (0 ≤ x1 → (InR ((J 542 26) - 1) ∧ ((J 542 26) - 1 < x1 → K (.inl (some (iv 0))) (mj (m_up (m_up (m_up J 542 0 0) 542 0 1) 543 0 ((J 543 0) + 1)) sw lg x)) ∧ (x1 ≤ (J 542 26) - 1 → VV X d 245 (18, [some (.ref 542), some (iv x1), some (iv 0), o3, o4, o5, o6, o7, o8], [], mj (m_up J 542 0 0) sw lg x) K)))) : VV X d 245 (0, [some (.ref 542), some (iv x1), o2, o3, o4, o5, o6, o7, o8], [], mj J sw lg x) K := by
  refine v_s mt_245 rfl rfl rfl ?_
  refine v_ic (v := Int32.ofInt 0) mt_245 rfl rfl ?_
  refine j_pi 0 mt_245 rfl rfl c_542 (by decide) ?_
  refine v_s mt_245 rfl rfl rfl ?_
  refine v_s mt_245 rfl rfl rfl ?_
  refine v_ic (v := Int32.ofInt 1) mt_245 rfl rfl ?_
  refine v_inl (L1 := [some (.ref 542), some (iv x1), some (iv 1)]) mt_245 rfl rfl mt_227 rfl rfl (m_callj (As := [iv x1, iv 1]) (rest := []) rfl rfl c_542 rfl (Nat.le_of_ble_eq_true rfl) (Nat.le_of_ble_eq_true rfl)) rfl (by clear h; omega) ?_
  refine v_s mt_227 rfl rfl rfl ?_
  refine v_s mt_227 rfl rfl rfl ?_
  refine v_ic (v := Int32.ofInt 0) mt_227 rfl rfl ?_
  refine v_s mt_227 rfl rfl rfl ?_
  refine j_gi (w := J 542 26) 26 mt_227 rfl rfl c_542 (by decide) ((up_nk (by decide)).trans rfl) ?_
  refine v_ic (v := Int32.ofInt 1) mt_227 rfl rfl ?_
  refine j_sub (e := (J 542 26) - 1) mt_227 rfl rfl ?_
  refine v_inl (L1 := [some (iv x1), some (iv 0), some (iv ((J 542 26) - 1))]) mt_227 rfl rfl mt_162 rfl rfl rfl rfl (by clear h; omega) ?_
  refine v_s mt_162 rfl rfl rfl ?_
  refine v_s mt_162 rfl rfl rfl ?_
  obtain ⟨z1, h⟩ := h
  refine j_if2 mt_162 rfl rfl z1 ⟨by decide, by decide⟩ (fun c => ?_) (fun c => ?_)
  · replace h := h.1 c
    refine v_ic (v := Int32.ofInt 0) mt_162 rfl rfl ?_
    refine j_retb mt_162 rfl rfl (by decide) ?_
    refine v_s mt_227 rfl rfl rfl ?_
    refine v_ic (v := Int32.ofInt 0) mt_227 rfl rfl ?_
    refine v_inl (L1 := [some (.ref 542), some (iv 0), some (iv 1), some (iv 0)]) mt_227 rfl rfl mt_161 rfl rfl (m_callj (As := [iv 0, iv 1, iv 0]) (rest := []) rfl rfl c_542 rfl (Nat.le_of_ble_eq_true rfl) (Nat.le_of_ble_eq_true rfl)) rfl (by clear h; omega) ?_
    refine v_s mt_161 rfl rfl rfl ?_
    refine j_if1 mt_161 rfl rfl ⟨by decide, by decide⟩ (fun c => absurd (show ¬ (0 : Int) = 0 from c) (by decide)) (fun _ => ?_)
    refine v_s mt_161 rfl rfl rfl ?_
    refine j_gi (w := 0) 0 mt_161 rfl rfl c_542 (by decide) (up_eq _ _ _ _) ?_
    refine j_if1 mt_161 rfl rfl ⟨by decide, by decide⟩ (fun c => absurd (show ¬ (0 : Int) = 0 from c) (by decide)) (fun _ => ?_)
    refine v_s mt_161 rfl rfl rfl ?_
    refine v_s mt_161 rfl rfl rfl ?_
    refine j_pi 0 mt_161 rfl rfl c_542 (by decide) ?_
    refine v_s mt_161 rfl rfl rfl ?_
    refine v_gr (w := 543) 1 mt_161 rfl rfl c_542 (by decide) (g_12_1 c_542) ?_
    refine v_s mt_161 rfl rfl rfl ?_
    refine v_s mt_161 rfl rfl rfl ?_
    refine j_al (w := J 543 0) mt_161 rfl c_543 ⟨by decide, by decide⟩ (by decide) ((up_na (by decide)).trans ((up_na (by decide)).trans rfl)) ?_
    refine v_ic (v := Int32.ofInt 1) mt_161 rfl rfl ?_
    refine j_add (e := (J 543 0) + 1) mt_161 rfl rfl ?_
    refine j_as mt_161 rfl c_543 ⟨by decide, by decide⟩ (by decide) ?_
    refine v_s mt_161 rfl rfl rfl ?_
    refine j_gi (w := 1) 0 mt_161 rfl rfl c_542 (by decide) ((up_na (by decide)).trans (up_eq _ _ _ _)) ?_
    refine j_if1 mt_161 rfl rfl ⟨by decide, by decide⟩ (fun _ => ?_) (fun c => (c (show ¬ (1 : Int) = 0 by decide)).elim)
    refine v_ic (v := Int32.ofInt 0) mt_161 rfl rfl ?_
    refine j_retb mt_161 rfl rfl (by decide) ?_
    refine j_retb mt_227 rfl rfl (by decide) ?_
    refine j_if1 mt_245 rfl rfl ⟨by decide, by decide⟩ (fun c => absurd (show ¬ (0 : Int) = 0 from c) (by decide)) (fun _ => ?_)
    refine v_ic (v := Int32.ofInt 0) mt_245 rfl rfl ?_
    exact v_ret mt_245 rfl rfl rfl h
  · replace h := h.2 (Int.not_lt.mp c)
    refine v_s mt_162 rfl rfl rfl ?_
    refine v_s mt_162 rfl rfl rfl ?_
    obtain ⟨z2, h⟩ := h
    refine j_if2 mt_162 rfl rfl z1 z2 (fun c => ?_) (fun c => ?_)
    · replace h := h.1 c
      refine v_ic (v := Int32.ofInt 0) mt_162 rfl rfl ?_
      refine j_retb mt_162 rfl rfl (by decide) ?_
      refine v_s mt_227 rfl rfl rfl ?_
      refine v_ic (v := Int32.ofInt 0) mt_227 rfl rfl ?_
      refine v_inl (L1 := [some (.ref 542), some (iv 0), some (iv 1), some (iv 0)]) mt_227 rfl rfl mt_161 rfl rfl (m_callj (As := [iv 0, iv 1, iv 0]) (rest := []) rfl rfl c_542 rfl (Nat.le_of_ble_eq_true rfl) (Nat.le_of_ble_eq_true rfl)) rfl (by clear h; omega) ?_
      refine v_s mt_161 rfl rfl rfl ?_
      refine j_if1 mt_161 rfl rfl ⟨by decide, by decide⟩ (fun c => absurd (show ¬ (0 : Int) = 0 from c) (by decide)) (fun _ => ?_)
      refine v_s mt_161 rfl rfl rfl ?_
      refine j_gi (w := 0) 0 mt_161 rfl rfl c_542 (by decide) (up_eq _ _ _ _) ?_
      refine j_if1 mt_161 rfl rfl ⟨by decide, by decide⟩ (fun c => absurd (show ¬ (0 : Int) = 0 from c) (by decide)) (fun _ => ?_)
      refine v_s mt_161 rfl rfl rfl ?_
      refine v_s mt_161 rfl rfl rfl ?_
      refine j_pi 0 mt_161 rfl rfl c_542 (by decide) ?_
      refine v_s mt_161 rfl rfl rfl ?_
      refine v_gr (w := 543) 1 mt_161 rfl rfl c_542 (by decide) (g_12_1 c_542) ?_
      refine v_s mt_161 rfl rfl rfl ?_
      refine v_s mt_161 rfl rfl rfl ?_
      refine j_al (w := J 543 0) mt_161 rfl c_543 ⟨by decide, by decide⟩ (by decide) ((up_na (by decide)).trans ((up_na (by decide)).trans rfl)) ?_
      refine v_ic (v := Int32.ofInt 1) mt_161 rfl rfl ?_
      refine j_add (e := (J 543 0) + 1) mt_161 rfl rfl ?_
      refine j_as mt_161 rfl c_543 ⟨by decide, by decide⟩ (by decide) ?_
      refine v_s mt_161 rfl rfl rfl ?_
      refine j_gi (w := 1) 0 mt_161 rfl rfl c_542 (by decide) ((up_na (by decide)).trans (up_eq _ _ _ _)) ?_
      refine j_if1 mt_161 rfl rfl ⟨by decide, by decide⟩ (fun _ => ?_) (fun c => (c (show ¬ (1 : Int) = 0 by decide)).elim)
      refine v_ic (v := Int32.ofInt 0) mt_161 rfl rfl ?_
      refine j_retb mt_161 rfl rfl (by decide) ?_
      refine j_retb mt_227 rfl rfl (by decide) ?_
      refine j_if1 mt_245 rfl rfl ⟨by decide, by decide⟩ (fun c => absurd (show ¬ (0 : Int) = 0 from c) (by decide)) (fun _ => ?_)
      refine v_ic (v := Int32.ofInt 0) mt_245 rfl rfl ?_
      exact v_ret mt_245 rfl rfl rfl h
    · replace h := h.2 (Int.not_lt.mp c)
      refine v_ic (v := Int32.ofInt 1) mt_162 rfl rfl ?_
      refine v_go mt_162 rfl rfl ?_
      refine j_retb mt_162 rfl rfl (by decide) ?_
      refine v_s mt_227 rfl rfl rfl ?_
      refine v_ic (v := Int32.ofInt 0) mt_227 rfl rfl ?_
      refine v_inl (L1 := [some (.ref 542), some (iv 1), some (iv 1), some (iv 0)]) mt_227 rfl rfl mt_161 rfl rfl (m_callj (As := [iv 1, iv 1, iv 0]) (rest := []) rfl rfl c_542 rfl (Nat.le_of_ble_eq_true rfl) (Nat.le_of_ble_eq_true rfl)) rfl (by clear h; omega) ?_
      refine v_s mt_161 rfl rfl rfl ?_
      refine j_if1 mt_161 rfl rfl ⟨by decide, by decide⟩ (fun _ => ?_) (fun c => (c (show ¬ (1 : Int) = 0 by decide)).elim)
      refine v_s mt_161 rfl rfl rfl ?_
      refine j_gi (w := 0) 0 mt_161 rfl rfl c_542 (by decide) (up_eq _ _ _ _) ?_
      refine j_if1 mt_161 rfl rfl ⟨by decide, by decide⟩ (fun c => absurd (show ¬ (0 : Int) = 0 from c) (by decide)) (fun _ => ?_)
      refine v_ic (v := Int32.ofInt 1) mt_161 rfl rfl ?_
      refine v_go mt_161 rfl rfl ?_
      refine j_retb mt_161 rfl rfl (by decide) ?_
      refine j_retb mt_227 rfl rfl (by decide) ?_
      refine j_if1 mt_245 rfl rfl ⟨by decide, by decide⟩ (fun _ => ?_) (fun c => (c (show ¬ (1 : Int) = 0 by decide)).elim)
      refine v_ic (v := Int32.ofInt 0) mt_245 rfl rfl ?_
      refine v_isn (L' := [some (.ref 542), some (iv x1), some (iv 0), o3, o4, o5, o6, o7, o8]) mt_245 rfl (Nat.le_of_ble_eq_true rfl) rfl ?_
      exact h
set_option maxHeartbeats 600000 in
theorem b_245_18 {X : Nat × (Nat → Int32)} {d : Nat} {J : Nat → Nat → Int} {sw : Bool × Bool × Bool} {lg : Nat → Nat → Int64} {x : Nat} {K : (Option Value ⊕ Nat) → mM → Prop} {x1 x2 : Int} {o3 o4 o5 o6 o7 o8 : Option Value} (hd : 2 ≤ d)
    (h : InR x2 ∧ (4608 ≤ x2 → ((0 ≤ bOr (bShl x1 9) (bShl 1 x1) ∧ bOr (bShl x1 9) (bShl 1 x1) < 4608) ∧ VV X d 245 (66, [some (.ref 542), some (iv x1), some (iv (bOr (bShl x1 9) (bShl 1 x1))), some (iv 1), some (iv 0), o5, o6, o7, o8], [], mj (m_up (m_up J 569 ((bOr (bShl x1 9) (bShl 1 x1)).toNat) 0) 570 0 (bOr (bShl x1 9) (bShl 1 x1))) sw lg x) K)) ∧ (x2 < 4608 → ((0 ≤ x2 ∧ x2 < 4608) ∧ VV X d 245 (18, [some (.ref 542), some (iv x1), some (iv (x2 + 1)), o3, o4, o5, o6, o7, o8], [], mj (m_up J 569 x2.toNat (-1)) sw lg x) K))) : VV X d 245 (18, [some (.ref 542), some (iv x1), some (iv x2), o3, o4, o5, o6, o7, o8], [], mj J sw lg x) K := by
  refine v_s mt_245 rfl rfl rfl ?_
  refine v_sp (v := Int32.ofInt 4608) mt_245 rfl rfl ?_
  obtain ⟨z1, h⟩ := h
  refine j_if2 mt_245 rfl rfl z1 ⟨by decide, by decide⟩ (fun c => ?_) (fun c => ?_)
  · replace h := h.1 c
    refine v_s mt_245 rfl rfl rfl ?_
    refine v_bp (v := Int32.ofInt 9) mt_245 rfl rfl ?_
    refine j_shl (e := bShl x1 9) mt_245 rfl rfl ?_
    refine v_ic (v := Int32.ofInt 1) mt_245 rfl rfl ?_
    refine v_s mt_245 rfl rfl rfl ?_
    refine j_shl (e := bShl 1 x1) mt_245 rfl rfl ?_
    refine j_or (e := bOr (bShl x1 9) (bShl 1 x1)) mt_245 rfl rfl ?_
    refine v_isn (L' := [some (.ref 542), some (iv x1), some (iv (bOr (bShl x1 9) (bShl 1 x1))), o3, o4, o5, o6, o7, o8]) mt_245 rfl (Nat.le_of_ble_eq_true rfl) rfl ?_
    refine v_s mt_245 rfl rfl rfl ?_
    refine v_gr (w := 569) 54 mt_245 rfl rfl c_542 (by decide) (g_12_54 c_542) ?_
    refine v_s mt_245 rfl rfl rfl ?_
    refine v_ic (v := Int32.ofInt 0) mt_245 rfl rfl ?_
    obtain ⟨z2, h⟩ := h
    refine j_as mt_245 rfl c_569 z2 (by decide) ?_
    refine v_s mt_245 rfl rfl rfl ?_
    refine v_gr (w := 570) 55 mt_245 rfl rfl c_542 (by decide) (g_12_55 c_542) ?_
    refine v_ic (v := Int32.ofInt 0) mt_245 rfl rfl ?_
    refine v_s mt_245 rfl rfl rfl ?_
    refine j_as mt_245 rfl c_570 ⟨by decide, by decide⟩ (by decide) ?_
    refine v_ic (v := Int32.ofInt 1) mt_245 rfl rfl ?_
    refine v_isn (L' := [some (.ref 542), some (iv x1), some (iv (bOr (bShl x1 9) (bShl 1 x1))), some (iv 1), o4, o5, o6, o7, o8]) mt_245 rfl (Nat.le_of_ble_eq_true rfl) rfl ?_
    refine v_ic (v := Int32.ofInt 0) mt_245 rfl rfl ?_
    refine v_is (L' := [some (.ref 542), some (iv x1), some (iv (bOr (bShl x1 9) (bShl 1 x1))), some (iv 1), some (iv 0), o5, o6, o7, o8]) mt_245 rfl (Nat.le_of_ble_eq_true rfl) rfl ?_
    exact h
  · replace h := h.2 (Int.not_le.mp c)
    refine v_s mt_245 rfl rfl rfl ?_
    refine v_gr (w := 569) 54 mt_245 rfl rfl c_542 (by decide) (g_12_54 c_542) ?_
    refine v_s mt_245 rfl rfl rfl ?_
    refine v_ic (v := Int32.ofInt (-1)) mt_245 rfl rfl ?_
    obtain ⟨z3, h⟩ := h
    refine j_as mt_245 rfl c_569 z3 (by decide) ?_
    refine j_inc (e := x2 + 1) (L' := [some (.ref 542), some (iv x1), some (iv (x2 + 1)), o3, o4, o5, o6, o7, o8]) mt_245 rfl rfl (Nat.le_of_ble_eq_true rfl) rfl rfl ?_
    refine v_go mt_245 rfl rfl ?_
    exact h
set_option maxHeartbeats 600000 in
theorem b_245_66 {X : Nat × (Nat → Int32)} {d : Nat} {J : Nat → Nat → Int} {sw : Bool × Bool × Bool} {lg : Nat → Nat → Int64} {x : Nat} {K : (Option Value ⊕ Nat) → mM → Prop} {x1 x2 x3 x4 : Int} {o5 o6 o7 o8 : Option Value} (hd : 2 ≤ d)
    (h : InR x4 ∧ InR x3 ∧ (x3 ≤ x4 → K (.inl (some (iv (-1)))) (mj J sw lg x)) ∧ (x4 < x3 → ((0 ≤ x4 ∧ x4 < 4608) ∧ ∃ (c2 : Int) (J1 : Nat → Nat → Int), EE X 0 244 [.ref 542] (mj J sw lg x) (.inl (some (iv c2))) (mj J1 sw lg x) ∧ (¬ bAnd c2 (bXor (bAnd (J 570 x4.toNat) 511) (-1)) = 0 → (∃ (c4 : Int) (J3 : Nat → Nat → Int), EE X 0 205 [.ref 542, iv (bShr (J1 570 x4.toNat) 9)] (mj J1 sw lg x) (.inl (some (iv c4))) (mj J3 sw lg x) ∧ VV X d 245 (129, [some (.ref 542), some (iv x1), some (iv x2), some (iv x3), some (iv x4), some (iv (bAnd (J 570 x4.toNat) 511)), some (iv c4), some (iv 0), o8], [], mj J3 sw lg x) K)) ∧ (bAnd c2 (bXor (bAnd (J 570 x4.toNat) 511) (-1)) = 0 → ((0 ≤ J1 570 x4.toNat ∧ J1 570 x4.toNat < 4608) ∧ K (.inl (some (iv (J1 569 ((J1 570 x4.toNat).toNat))))) (mj J1 sw lg x)))))) : VV X d 245 (66, [some (.ref 542), some (iv x1), some (iv x2), some (iv x3), some (iv x4), o5, o6, o7, o8], [], mj J sw lg x) K := by
  refine v_s mt_245 rfl rfl rfl ?_
  refine v_s mt_245 rfl rfl rfl ?_
  obtain ⟨z1, h⟩ := h
  obtain ⟨z2, h⟩ := h
  refine j_if2 mt_245 rfl rfl z1 z2 (fun c => ?_) (fun c => ?_)
  · replace h := h.1 c
    refine v_ic (v := Int32.ofInt (-1)) mt_245 rfl rfl ?_
    exact v_ret mt_245 rfl rfl rfl h
  · replace h := h.2 (Int.not_le.mp c)
    refine v_s mt_245 rfl rfl rfl ?_
    refine v_gr (w := 570) 55 mt_245 rfl rfl c_542 (by decide) (g_12_55 c_542) ?_
    refine v_s mt_245 rfl rfl rfl ?_
    obtain ⟨z3, h⟩ := h
    refine j_al (w := J 570 x4.toNat) mt_245 rfl c_570 z3 (by decide) rfl ?_
    refine v_sp (v := Int32.ofInt 511) mt_245 rfl rfl ?_
    refine j_and (e := bAnd (J 570 x4.toNat) 511) mt_245 rfl rfl ?_
    refine v_is (L' := [some (.ref 542), some (iv x1), some (iv x2), some (iv x3), some (iv x4), some (iv (bAnd (J 570 x4.toNat) 511)), o6, o7, o8]) mt_245 rfl (Nat.le_of_ble_eq_true rfl) rfl ?_
    refine v_s mt_245 rfl rfl rfl ?_
    obtain ⟨c2, J1, z4, h⟩ := h
    refine v_call (d1 := 0) mt_245 rfl rfl mt_244 rfl rfl (m_callj (As := []) (rest := []) rfl rfl c_542 rfl (Nat.le_of_ble_eq_true rfl) (Nat.le_of_ble_eq_true rfl)) z4 (by clear h; omega) ?_
    refine v_s mt_245 rfl rfl rfl ?_
    refine v_ic (v := Int32.ofInt (-1)) mt_245 rfl rfl ?_
    refine j_xor (e := bXor (bAnd (J 570 x4.toNat) 511) (-1)) mt_245 rfl rfl ?_
    refine j_and (e := bAnd c2 (bXor (bAnd (J 570 x4.toNat) 511) (-1))) mt_245 rfl rfl ?_
    refine j_if1 mt_245 rfl rfl (inT _) (fun c => ?_) (fun c => ?_)
    · replace h := h.1 c
      refine v_s mt_245 rfl rfl rfl ?_
      refine v_s mt_245 rfl rfl rfl ?_
      refine v_gr (w := 570) 55 mt_245 rfl rfl c_542 (by decide) (g_12_55 c_542) ?_
      refine v_s mt_245 rfl rfl rfl ?_
      refine j_al (w := J1 570 x4.toNat) mt_245 rfl c_570 z3 (by decide) rfl ?_
      refine v_bp (v := Int32.ofInt 9) mt_245 rfl rfl ?_
      refine j_shr (e := bShr (J1 570 x4.toNat) 9) mt_245 rfl rfl ?_
      obtain ⟨c4, J3, z5, h⟩ := h
      refine v_call (d1 := 0) mt_245 rfl rfl mt_205 rfl rfl (m_callj (As := [iv (bShr (J1 570 x4.toNat) 9)]) (rest := []) rfl rfl c_542 rfl (Nat.le_of_ble_eq_true rfl) (Nat.le_of_ble_eq_true rfl)) z5 (by clear h; omega) ?_
      refine v_is (L' := [some (.ref 542), some (iv x1), some (iv x2), some (iv x3), some (iv x4), some (iv (bAnd (J 570 x4.toNat) 511)), some (iv c4), o7, o8]) mt_245 rfl (Nat.le_of_ble_eq_true rfl) rfl ?_
      refine v_ic (v := Int32.ofInt 0) mt_245 rfl rfl ?_
      refine v_is (L' := [some (.ref 542), some (iv x1), some (iv x2), some (iv x3), some (iv x4), some (iv (bAnd (J 570 x4.toNat) 511)), some (iv c4), some (iv 0), o8]) mt_245 rfl (Nat.le_of_ble_eq_true rfl) rfl ?_
      exact h
    · replace h := h.2 (Decidable.not_not.mp c)
      refine v_s mt_245 rfl rfl rfl ?_
      refine v_gr (w := 569) 54 mt_245 rfl rfl c_542 (by decide) (g_12_54 c_542) ?_
      refine v_s mt_245 rfl rfl rfl ?_
      refine v_gr (w := 570) 55 mt_245 rfl rfl c_542 (by decide) (g_12_55 c_542) ?_
      refine v_s mt_245 rfl rfl rfl ?_
      refine j_al (w := J1 570 x4.toNat) mt_245 rfl c_570 z3 (by decide) rfl ?_
      obtain ⟨z6, h⟩ := h
      refine j_al (w := J1 569 ((J1 570 x4.toNat).toNat)) mt_245 rfl c_569 z6 (by decide) rfl ?_
      exact v_ret mt_245 rfl rfl rfl h
set_option maxHeartbeats 600000 in
theorem b_245_129 {X : Nat × (Nat → Int32)} {d : Nat} {J : Nat → Nat → Int} {sw : Bool × Bool × Bool} {lg : Nat → Nat → Int64} {x : Nat} {K : (Option Value ⊕ Nat) → mM → Prop} {x1 x2 x3 x4 x5 x6 x7 : Int} {o8 : Option Value} (hd : 2 ≤ d)
    (h : InR x7 ∧ InR (J 542 26) ∧ (J 542 26 ≤ x7 → VV X d 245 (66, [some (.ref 542), some (iv x1), some (iv x2), some (iv x3), some (iv (x4 + 1)), some (iv x5), some (iv x6), some (iv x7), o8], [], mj J sw lg x) K) ∧ (x7 < J 542 26 → ((bAnd (bShr x6 x7) 1 = 0 → VV X d 245 (129, [some (.ref 542), some (iv x1), some (iv x2), some (iv x3), some (iv x4), some (iv x5), some (iv x6), some (iv (x7 + 1)), some (iv (bOr (bOr (bShl x7 9) x5) (bShl 1 x7)))], [], mj J sw lg x) K) ∧ (¬ bAnd (bShr x6 x7) 1 = 0 → ((0 ≤ bOr (bOr (bShl x7 9) x5) (bShl 1 x7) ∧ bOr (bOr (bShl x7 9) x5) (bShl 1 x7) < 4608) ∧ InR (J 569 ((bOr (bOr (bShl x7 9) x5) (bShl 1 x7)).toNat)) ∧ (J 569 ((bOr (bOr (bShl x7 9) x5) (bShl 1 x7)).toNat) = (-1) → ((0 ≤ x4 ∧ x4 < 4608) ∧ (0 ≤ J 570 x4.toNat ∧ J 570 x4.toNat < 4608) ∧ (0 ≤ x3 ∧ x3 < 4608) ∧ VV X d 245 (129, [some (.ref 542), some (iv x1), some (iv x2), some (iv (x3 + 1)), some (iv x4), some (iv x5), some (iv x6), some (iv (x7 + 1)), some (iv (bOr (bOr (bShl x7 9) x5) (bShl 1 x7)))], [], mj (m_up (m_up J 569 ((bOr (bOr (bShl x7 9) x5) (bShl 1 x7)).toNat) ((J 569 ((J 570 x4.toNat).toNat)) + 1)) 570 x3.toNat (bOr (bOr (bShl x7 9) x5) (bShl 1 x7))) sw lg x) K)) ∧ (¬ J 569 ((bOr (bOr (bShl x7 9) x5) (bShl 1 x7)).toNat) = (-1) → VV X d 245 (129, [some (.ref 542), some (iv x1), some (iv x2), some (iv x3), some (iv x4), some (iv x5), some (iv x6), some (iv (x7 + 1)), some (iv (bOr (bOr (bShl x7 9) x5) (bShl 1 x7)))], [], mj J sw lg x) K)))))) : VV X d 245 (129, [some (.ref 542), some (iv x1), some (iv x2), some (iv x3), some (iv x4), some (iv x5), some (iv x6), some (iv x7), o8], [], mj J sw lg x) K := by
  refine v_s mt_245 rfl rfl rfl ?_
  refine v_s mt_245 rfl rfl rfl ?_
  refine j_gi (w := J 542 26) 26 mt_245 rfl rfl c_542 (by decide) rfl ?_
  obtain ⟨z1, h⟩ := h
  obtain ⟨z2, h⟩ := h
  refine j_if2 mt_245 rfl rfl z1 z2 (fun c => ?_) (fun c => ?_)
  · replace h := h.1 c
    refine j_inc (e := x4 + 1) (L' := [some (.ref 542), some (iv x1), some (iv x2), some (iv x3), some (iv (x4 + 1)), some (iv x5), some (iv x6), some (iv x7), o8]) mt_245 rfl rfl (Nat.le_of_ble_eq_true rfl) rfl rfl ?_
    refine v_go mt_245 rfl rfl ?_
    exact h
  · replace h := h.2 (Int.not_le.mp c)
    refine v_s mt_245 rfl rfl rfl ?_
    refine v_bp (v := Int32.ofInt 9) mt_245 rfl rfl ?_
    refine j_shl (e := bShl x7 9) mt_245 rfl rfl ?_
    refine v_s mt_245 rfl rfl rfl ?_
    refine j_or (e := bOr (bShl x7 9) x5) mt_245 rfl rfl ?_
    refine v_ic (v := Int32.ofInt 1) mt_245 rfl rfl ?_
    refine v_s mt_245 rfl rfl rfl ?_
    refine j_shl (e := bShl 1 x7) mt_245 rfl rfl ?_
    refine j_or (e := bOr (bOr (bShl x7 9) x5) (bShl 1 x7)) mt_245 rfl rfl ?_
    refine v_is (L' := [some (.ref 542), some (iv x1), some (iv x2), some (iv x3), some (iv x4), some (iv x5), some (iv x6), some (iv x7), some (iv (bOr (bOr (bShl x7 9) x5) (bShl 1 x7)))]) mt_245 rfl (Nat.le_of_ble_eq_true rfl) rfl ?_
    refine v_s mt_245 rfl rfl rfl ?_
    refine v_s mt_245 rfl rfl rfl ?_
    refine j_shr (e := bShr x6 x7) mt_245 rfl rfl ?_
    refine v_ic (v := Int32.ofInt 1) mt_245 rfl rfl ?_
    refine j_and (e := bAnd (bShr x6 x7) 1) mt_245 rfl rfl ?_
    refine j_if1 mt_245 rfl rfl (inT _) (fun c => ?_) (fun c => ?_)
    · replace h := h.1 c
      refine j_inc (e := x7 + 1) (L' := [some (.ref 542), some (iv x1), some (iv x2), some (iv x3), some (iv x4), some (iv x5), some (iv x6), some (iv (x7 + 1)), some (iv (bOr (bOr (bShl x7 9) x5) (bShl 1 x7)))]) mt_245 rfl rfl (Nat.le_of_ble_eq_true rfl) rfl rfl ?_
      refine v_go mt_245 rfl rfl ?_
      exact h
    · replace h := h.2 c
      refine v_s mt_245 rfl rfl rfl ?_
      refine v_gr (w := 569) 54 mt_245 rfl rfl c_542 (by decide) (g_12_54 c_542) ?_
      refine v_s mt_245 rfl rfl rfl ?_
      obtain ⟨z3, h⟩ := h
      refine j_al (w := J 569 ((bOr (bOr (bShl x7 9) x5) (bShl 1 x7)).toNat)) mt_245 rfl c_569 z3 (by decide) rfl ?_
      refine v_ic (v := Int32.ofInt (-1)) mt_245 rfl rfl ?_
      obtain ⟨z4, h⟩ := h
      refine j_if2 mt_245 rfl rfl z4 ⟨by decide, by decide⟩ (fun c => ?_) (fun c => ?_)
      · replace h := h.1 c
        refine v_s mt_245 rfl rfl rfl ?_
        refine v_gr (w := 569) 54 mt_245 rfl rfl c_542 (by decide) (g_12_54 c_542) ?_
        refine v_s mt_245 rfl rfl rfl ?_
        refine v_s mt_245 rfl rfl rfl ?_
        refine v_gr (w := 569) 54 mt_245 rfl rfl c_542 (by decide) (g_12_54 c_542) ?_
        refine v_s mt_245 rfl rfl rfl ?_
        refine v_gr (w := 570) 55 mt_245 rfl rfl c_542 (by decide) (g_12_55 c_542) ?_
        refine v_s mt_245 rfl rfl rfl ?_
        obtain ⟨z5, h⟩ := h
        refine j_al (w := J 570 x4.toNat) mt_245 rfl c_570 z5 (by decide) rfl ?_
        obtain ⟨z6, h⟩ := h
        refine j_al (w := J 569 ((J 570 x4.toNat).toNat)) mt_245 rfl c_569 z6 (by decide) rfl ?_
        refine v_ic (v := Int32.ofInt 1) mt_245 rfl rfl ?_
        refine j_add (e := (J 569 ((J 570 x4.toNat).toNat)) + 1) mt_245 rfl rfl ?_
        refine j_as mt_245 rfl c_569 z3 (by decide) ?_
        refine v_s mt_245 rfl rfl rfl ?_
        refine v_gr (w := 570) 55 mt_245 rfl rfl c_542 (by decide) (g_12_55 c_542) ?_
        refine v_s mt_245 rfl rfl rfl ?_
        refine v_s mt_245 rfl rfl rfl ?_
        obtain ⟨z7, h⟩ := h
        refine j_as mt_245 rfl c_570 z7 (by decide) ?_
        refine j_inc (e := x3 + 1) (L' := [some (.ref 542), some (iv x1), some (iv x2), some (iv (x3 + 1)), some (iv x4), some (iv x5), some (iv x6), some (iv x7), some (iv (bOr (bOr (bShl x7 9) x5) (bShl 1 x7)))]) mt_245 rfl rfl (Nat.le_of_ble_eq_true rfl) rfl rfl ?_
        refine j_inc (e := x7 + 1) (L' := [some (.ref 542), some (iv x1), some (iv x2), some (iv (x3 + 1)), some (iv x4), some (iv x5), some (iv x6), some (iv (x7 + 1)), some (iv (bOr (bOr (bShl x7 9) x5) (bShl 1 x7)))]) mt_245 rfl rfl (Nat.le_of_ble_eq_true rfl) rfl rfl ?_
        refine v_go mt_245 rfl rfl ?_
        exact h
      · replace h := h.2 c
        refine v_go mt_245 rfl rfl ?_
        refine j_inc (e := x7 + 1) (L' := [some (.ref 542), some (iv x1), some (iv x2), some (iv x3), some (iv x4), some (iv x5), some (iv x6), some (iv (x7 + 1)), some (iv (bOr (bOr (bShl x7 9) x5) (bShl 1 x7)))]) mt_245 rfl rfl (Nat.le_of_ble_eq_true rfl) rfl rfl ?_
        refine v_go mt_245 rfl rfl ?_
        exact h
set_option maxHeartbeats 600000 in
theorem b_249_0 {X : Nat × (Nat → Int32)} {d : Nat} {J : Nat → Nat → Int} {sw : Bool × Bool × Bool} {lg : Nat → Nat → Int64} {x : Nat} {K : (Option Value ⊕ Nat) → mM → Prop} {x1 x2 : Int} {o3 o4 : Option Value} (hd : 2 ≤ d)
    (h : InR x1 ∧ (x1 < 0 → K (.inl (some (iv 0))) (mj (m_up (m_up (m_up J 542 0 0) 542 0 1) 543 0 ((J 543 0) + 1)) sw lg x)) ∧ (0 ≤ x1 → (InR ((J 542 26) - 1) ∧ ((J 542 26) - 1 < x1 → K (.inl (some (iv 0))) (mj (m_up (m_up (m_up J 542 0 0) 542 0 1) 543 0 ((J 543 0) + 1)) sw lg x)) ∧ (x1 ≤ (J 542 26) - 1 → (InR x2 ∧ (x2 < 0 → K (.inl (some (iv 0))) (mj (m_up (m_up (m_up J 542 0 0) 542 0 1) 543 0 ((J 543 0) + 1)) sw lg x)) ∧ (0 ≤ x2 → (((J 542 26) - 1 < x2 → K (.inl (some (iv 0))) (mj (m_up (m_up (m_up J 542 0 0) 542 0 1) 543 0 ((J 543 0) + 1)) sw lg x)) ∧ (x2 ≤ (J 542 26) - 1 → VV X d 249 (32, [some (.ref 542), some (iv x1), some (iv x2), some (iv (bShl 1 x1)), some (iv 0)], [], mj (m_up J 542 0 0) sw lg x) K)))))))) : VV X d 249 (0, [some (.ref 542), some (iv x1), some (iv x2), o3, o4], [], mj J sw lg x) K := by
  refine v_s mt_249 rfl rfl rfl ?_
  refine v_ic (v := Int32.ofInt 0) mt_249 rfl rfl ?_
  refine j_pi 0 mt_249 rfl rfl c_542 (by decide) ?_
  refine v_s mt_249 rfl rfl rfl ?_
  refine v_s mt_249 rfl rfl rfl ?_
  refine v_ic (v := Int32.ofInt 1) mt_249 rfl rfl ?_
  refine v_inl (L1 := [some (.ref 542), some (iv x1), some (iv 1)]) mt_249 rfl rfl mt_227 rfl rfl (m_callj (As := [iv x1, iv 1]) (rest := []) rfl rfl c_542 rfl (Nat.le_of_ble_eq_true rfl) (Nat.le_of_ble_eq_true rfl)) rfl (by clear h; omega) ?_
  refine v_s mt_227 rfl rfl rfl ?_
  refine v_s mt_227 rfl rfl rfl ?_
  refine v_ic (v := Int32.ofInt 0) mt_227 rfl rfl ?_
  refine v_s mt_227 rfl rfl rfl ?_
  refine j_gi (w := J 542 26) 26 mt_227 rfl rfl c_542 (by decide) ((up_nk (by decide)).trans rfl) ?_
  refine v_ic (v := Int32.ofInt 1) mt_227 rfl rfl ?_
  refine j_sub (e := (J 542 26) - 1) mt_227 rfl rfl ?_
  refine v_inl (L1 := [some (iv x1), some (iv 0), some (iv ((J 542 26) - 1))]) mt_227 rfl rfl mt_162 rfl rfl rfl rfl (by clear h; omega) ?_
  refine v_s mt_162 rfl rfl rfl ?_
  refine v_s mt_162 rfl rfl rfl ?_
  obtain ⟨z1, h⟩ := h
  refine j_if2 mt_162 rfl rfl z1 ⟨by decide, by decide⟩ (fun c => ?_) (fun c => ?_)
  · replace h := h.1 c
    refine v_ic (v := Int32.ofInt 0) mt_162 rfl rfl ?_
    refine j_retb mt_162 rfl rfl (by decide) ?_
    refine v_s mt_227 rfl rfl rfl ?_
    refine v_ic (v := Int32.ofInt 0) mt_227 rfl rfl ?_
    refine v_inl (L1 := [some (.ref 542), some (iv 0), some (iv 1), some (iv 0)]) mt_227 rfl rfl mt_161 rfl rfl (m_callj (As := [iv 0, iv 1, iv 0]) (rest := []) rfl rfl c_542 rfl (Nat.le_of_ble_eq_true rfl) (Nat.le_of_ble_eq_true rfl)) rfl (by clear h; omega) ?_
    refine v_s mt_161 rfl rfl rfl ?_
    refine j_if1 mt_161 rfl rfl ⟨by decide, by decide⟩ (fun c => absurd (show ¬ (0 : Int) = 0 from c) (by decide)) (fun _ => ?_)
    refine v_s mt_161 rfl rfl rfl ?_
    refine j_gi (w := 0) 0 mt_161 rfl rfl c_542 (by decide) (up_eq _ _ _ _) ?_
    refine j_if1 mt_161 rfl rfl ⟨by decide, by decide⟩ (fun c => absurd (show ¬ (0 : Int) = 0 from c) (by decide)) (fun _ => ?_)
    refine v_s mt_161 rfl rfl rfl ?_
    refine v_s mt_161 rfl rfl rfl ?_
    refine j_pi 0 mt_161 rfl rfl c_542 (by decide) ?_
    refine v_s mt_161 rfl rfl rfl ?_
    refine v_gr (w := 543) 1 mt_161 rfl rfl c_542 (by decide) (g_12_1 c_542) ?_
    refine v_s mt_161 rfl rfl rfl ?_
    refine v_s mt_161 rfl rfl rfl ?_
    refine j_al (w := J 543 0) mt_161 rfl c_543 ⟨by decide, by decide⟩ (by decide) ((up_na (by decide)).trans ((up_na (by decide)).trans rfl)) ?_
    refine v_ic (v := Int32.ofInt 1) mt_161 rfl rfl ?_
    refine j_add (e := (J 543 0) + 1) mt_161 rfl rfl ?_
    refine j_as mt_161 rfl c_543 ⟨by decide, by decide⟩ (by decide) ?_
    refine v_s mt_161 rfl rfl rfl ?_
    refine j_gi (w := 1) 0 mt_161 rfl rfl c_542 (by decide) ((up_na (by decide)).trans (up_eq _ _ _ _)) ?_
    refine j_if1 mt_161 rfl rfl ⟨by decide, by decide⟩ (fun _ => ?_) (fun c => (c (show ¬ (1 : Int) = 0 by decide)).elim)
    refine v_ic (v := Int32.ofInt 0) mt_161 rfl rfl ?_
    refine j_retb mt_161 rfl rfl (by decide) ?_
    refine j_retb mt_227 rfl rfl (by decide) ?_
    refine j_if1 mt_249 rfl rfl ⟨by decide, by decide⟩ (fun _ => ?_) (fun c => (c (show (0 : Int) = 0 by decide)).elim)
    refine v_ic (v := Int32.ofInt 0) mt_249 rfl rfl ?_
    exact v_ret mt_249 rfl rfl rfl h
  · replace h := h.2 (Int.not_lt.mp c)
    refine v_s mt_162 rfl rfl rfl ?_
    refine v_s mt_162 rfl rfl rfl ?_
    obtain ⟨z2, h⟩ := h
    refine j_if2 mt_162 rfl rfl z1 z2 (fun c => ?_) (fun c => ?_)
    · replace h := h.1 c
      refine v_ic (v := Int32.ofInt 0) mt_162 rfl rfl ?_
      refine j_retb mt_162 rfl rfl (by decide) ?_
      refine v_s mt_227 rfl rfl rfl ?_
      refine v_ic (v := Int32.ofInt 0) mt_227 rfl rfl ?_
      refine v_inl (L1 := [some (.ref 542), some (iv 0), some (iv 1), some (iv 0)]) mt_227 rfl rfl mt_161 rfl rfl (m_callj (As := [iv 0, iv 1, iv 0]) (rest := []) rfl rfl c_542 rfl (Nat.le_of_ble_eq_true rfl) (Nat.le_of_ble_eq_true rfl)) rfl (by clear h; omega) ?_
      refine v_s mt_161 rfl rfl rfl ?_
      refine j_if1 mt_161 rfl rfl ⟨by decide, by decide⟩ (fun c => absurd (show ¬ (0 : Int) = 0 from c) (by decide)) (fun _ => ?_)
      refine v_s mt_161 rfl rfl rfl ?_
      refine j_gi (w := 0) 0 mt_161 rfl rfl c_542 (by decide) (up_eq _ _ _ _) ?_
      refine j_if1 mt_161 rfl rfl ⟨by decide, by decide⟩ (fun c => absurd (show ¬ (0 : Int) = 0 from c) (by decide)) (fun _ => ?_)
      refine v_s mt_161 rfl rfl rfl ?_
      refine v_s mt_161 rfl rfl rfl ?_
      refine j_pi 0 mt_161 rfl rfl c_542 (by decide) ?_
      refine v_s mt_161 rfl rfl rfl ?_
      refine v_gr (w := 543) 1 mt_161 rfl rfl c_542 (by decide) (g_12_1 c_542) ?_
      refine v_s mt_161 rfl rfl rfl ?_
      refine v_s mt_161 rfl rfl rfl ?_
      refine j_al (w := J 543 0) mt_161 rfl c_543 ⟨by decide, by decide⟩ (by decide) ((up_na (by decide)).trans ((up_na (by decide)).trans rfl)) ?_
      refine v_ic (v := Int32.ofInt 1) mt_161 rfl rfl ?_
      refine j_add (e := (J 543 0) + 1) mt_161 rfl rfl ?_
      refine j_as mt_161 rfl c_543 ⟨by decide, by decide⟩ (by decide) ?_
      refine v_s mt_161 rfl rfl rfl ?_
      refine j_gi (w := 1) 0 mt_161 rfl rfl c_542 (by decide) ((up_na (by decide)).trans (up_eq _ _ _ _)) ?_
      refine j_if1 mt_161 rfl rfl ⟨by decide, by decide⟩ (fun _ => ?_) (fun c => (c (show ¬ (1 : Int) = 0 by decide)).elim)
      refine v_ic (v := Int32.ofInt 0) mt_161 rfl rfl ?_
      refine j_retb mt_161 rfl rfl (by decide) ?_
      refine j_retb mt_227 rfl rfl (by decide) ?_
      refine j_if1 mt_249 rfl rfl ⟨by decide, by decide⟩ (fun _ => ?_) (fun c => (c (show (0 : Int) = 0 by decide)).elim)
      refine v_ic (v := Int32.ofInt 0) mt_249 rfl rfl ?_
      exact v_ret mt_249 rfl rfl rfl h
    · replace h := h.2 (Int.not_lt.mp c)
      refine v_ic (v := Int32.ofInt 1) mt_162 rfl rfl ?_
      refine v_go mt_162 rfl rfl ?_
      refine j_retb mt_162 rfl rfl (by decide) ?_
      refine v_s mt_227 rfl rfl rfl ?_
      refine v_ic (v := Int32.ofInt 0) mt_227 rfl rfl ?_
      refine v_inl (L1 := [some (.ref 542), some (iv 1), some (iv 1), some (iv 0)]) mt_227 rfl rfl mt_161 rfl rfl (m_callj (As := [iv 1, iv 1, iv 0]) (rest := []) rfl rfl c_542 rfl (Nat.le_of_ble_eq_true rfl) (Nat.le_of_ble_eq_true rfl)) rfl (by clear h; omega) ?_
      refine v_s mt_161 rfl rfl rfl ?_
      refine j_if1 mt_161 rfl rfl ⟨by decide, by decide⟩ (fun _ => ?_) (fun c => (c (show ¬ (1 : Int) = 0 by decide)).elim)
      refine v_s mt_161 rfl rfl rfl ?_
      refine j_gi (w := 0) 0 mt_161 rfl rfl c_542 (by decide) (up_eq _ _ _ _) ?_
      refine j_if1 mt_161 rfl rfl ⟨by decide, by decide⟩ (fun c => absurd (show ¬ (0 : Int) = 0 from c) (by decide)) (fun _ => ?_)
      refine v_ic (v := Int32.ofInt 1) mt_161 rfl rfl ?_
      refine v_go mt_161 rfl rfl ?_
      refine j_retb mt_161 rfl rfl (by decide) ?_
      refine j_retb mt_227 rfl rfl (by decide) ?_
      refine j_if1 mt_249 rfl rfl ⟨by decide, by decide⟩ (fun c => absurd (show (1 : Int) = 0 from c) (by decide)) (fun _ => ?_)
      refine v_s mt_249 rfl rfl rfl ?_
      refine v_s mt_249 rfl rfl rfl ?_
      refine v_ic (v := Int32.ofInt 1) mt_249 rfl rfl ?_
      refine v_inl (L1 := [some (.ref 542), some (iv x2), some (iv 1)]) mt_249 rfl rfl mt_227 rfl rfl (m_callj (As := [iv x2, iv 1]) (rest := []) rfl rfl c_542 rfl (Nat.le_of_ble_eq_true rfl) (Nat.le_of_ble_eq_true rfl)) rfl (by clear h; omega) ?_
      refine v_s mt_227 rfl rfl rfl ?_
      refine v_s mt_227 rfl rfl rfl ?_
      refine v_ic (v := Int32.ofInt 0) mt_227 rfl rfl ?_
      refine v_s mt_227 rfl rfl rfl ?_
      refine j_gi (w := J 542 26) 26 mt_227 rfl rfl c_542 (by decide) ((up_nk (by decide)).trans rfl) ?_
      refine v_ic (v := Int32.ofInt 1) mt_227 rfl rfl ?_
      refine j_sub (e := (J 542 26) - 1) mt_227 rfl rfl ?_
      refine v_inl (L1 := [some (iv x2), some (iv 0), some (iv ((J 542 26) - 1))]) mt_227 rfl rfl mt_162 rfl rfl rfl rfl (by clear h; omega) ?_
      refine v_s mt_162 rfl rfl rfl ?_
      refine v_s mt_162 rfl rfl rfl ?_
      obtain ⟨z3, h⟩ := h
      refine j_if2 mt_162 rfl rfl z3 ⟨by decide, by decide⟩ (fun c => ?_) (fun c => ?_)
      · replace h := h.1 c
        refine v_ic (v := Int32.ofInt 0) mt_162 rfl rfl ?_
        refine j_retb mt_162 rfl rfl (by decide) ?_
        refine v_s mt_227 rfl rfl rfl ?_
        refine v_ic (v := Int32.ofInt 0) mt_227 rfl rfl ?_
        refine v_inl (L1 := [some (.ref 542), some (iv 0), some (iv 1), some (iv 0)]) mt_227 rfl rfl mt_161 rfl rfl (m_callj (As := [iv 0, iv 1, iv 0]) (rest := []) rfl rfl c_542 rfl (Nat.le_of_ble_eq_true rfl) (Nat.le_of_ble_eq_true rfl)) rfl (by clear h; omega) ?_
        refine v_s mt_161 rfl rfl rfl ?_
        refine j_if1 mt_161 rfl rfl ⟨by decide, by decide⟩ (fun c => absurd (show ¬ (0 : Int) = 0 from c) (by decide)) (fun _ => ?_)
        refine v_s mt_161 rfl rfl rfl ?_
        refine j_gi (w := 0) 0 mt_161 rfl rfl c_542 (by decide) (up_eq _ _ _ _) ?_
        refine j_if1 mt_161 rfl rfl ⟨by decide, by decide⟩ (fun c => absurd (show ¬ (0 : Int) = 0 from c) (by decide)) (fun _ => ?_)
        refine v_s mt_161 rfl rfl rfl ?_
        refine v_s mt_161 rfl rfl rfl ?_
        refine j_pi 0 mt_161 rfl rfl c_542 (by decide) ?_
        refine v_s mt_161 rfl rfl rfl ?_
        refine v_gr (w := 543) 1 mt_161 rfl rfl c_542 (by decide) (g_12_1 c_542) ?_
        refine v_s mt_161 rfl rfl rfl ?_
        refine v_s mt_161 rfl rfl rfl ?_
        refine j_al (w := J 543 0) mt_161 rfl c_543 ⟨by decide, by decide⟩ (by decide) ((up_na (by decide)).trans ((up_na (by decide)).trans rfl)) ?_
        refine v_ic (v := Int32.ofInt 1) mt_161 rfl rfl ?_
        refine j_add (e := (J 543 0) + 1) mt_161 rfl rfl ?_
        refine j_as mt_161 rfl c_543 ⟨by decide, by decide⟩ (by decide) ?_
        refine v_s mt_161 rfl rfl rfl ?_
        refine j_gi (w := 1) 0 mt_161 rfl rfl c_542 (by decide) ((up_na (by decide)).trans (up_eq _ _ _ _)) ?_
        refine j_if1 mt_161 rfl rfl ⟨by decide, by decide⟩ (fun _ => ?_) (fun c => (c (show ¬ (1 : Int) = 0 by decide)).elim)
        refine v_ic (v := Int32.ofInt 0) mt_161 rfl rfl ?_
        refine j_retb mt_161 rfl rfl (by decide) ?_
        refine j_retb mt_227 rfl rfl (by decide) ?_
        refine j_if1 mt_249 rfl rfl ⟨by decide, by decide⟩ (fun c => absurd (show ¬ (0 : Int) = 0 from c) (by decide)) (fun _ => ?_)
        refine v_ic (v := Int32.ofInt 0) mt_249 rfl rfl ?_
        exact v_ret mt_249 rfl rfl rfl h
      · replace h := h.2 (Int.not_lt.mp c)
        refine v_s mt_162 rfl rfl rfl ?_
        refine v_s mt_162 rfl rfl rfl ?_
        refine j_if2 mt_162 rfl rfl z3 z2 (fun c => ?_) (fun c => ?_)
        · replace h := h.1 c
          refine v_ic (v := Int32.ofInt 0) mt_162 rfl rfl ?_
          refine j_retb mt_162 rfl rfl (by decide) ?_
          refine v_s mt_227 rfl rfl rfl ?_
          refine v_ic (v := Int32.ofInt 0) mt_227 rfl rfl ?_
          refine v_inl (L1 := [some (.ref 542), some (iv 0), some (iv 1), some (iv 0)]) mt_227 rfl rfl mt_161 rfl rfl (m_callj (As := [iv 0, iv 1, iv 0]) (rest := []) rfl rfl c_542 rfl (Nat.le_of_ble_eq_true rfl) (Nat.le_of_ble_eq_true rfl)) rfl (by clear h; omega) ?_
          refine v_s mt_161 rfl rfl rfl ?_
          refine j_if1 mt_161 rfl rfl ⟨by decide, by decide⟩ (fun c => absurd (show ¬ (0 : Int) = 0 from c) (by decide)) (fun _ => ?_)
          refine v_s mt_161 rfl rfl rfl ?_
          refine j_gi (w := 0) 0 mt_161 rfl rfl c_542 (by decide) (up_eq _ _ _ _) ?_
          refine j_if1 mt_161 rfl rfl ⟨by decide, by decide⟩ (fun c => absurd (show ¬ (0 : Int) = 0 from c) (by decide)) (fun _ => ?_)
          refine v_s mt_161 rfl rfl rfl ?_
          refine v_s mt_161 rfl rfl rfl ?_
          refine j_pi 0 mt_161 rfl rfl c_542 (by decide) ?_
          refine v_s mt_161 rfl rfl rfl ?_
          refine v_gr (w := 543) 1 mt_161 rfl rfl c_542 (by decide) (g_12_1 c_542) ?_
          refine v_s mt_161 rfl rfl rfl ?_
          refine v_s mt_161 rfl rfl rfl ?_
          refine j_al (w := J 543 0) mt_161 rfl c_543 ⟨by decide, by decide⟩ (by decide) ((up_na (by decide)).trans ((up_na (by decide)).trans rfl)) ?_
          refine v_ic (v := Int32.ofInt 1) mt_161 rfl rfl ?_
          refine j_add (e := (J 543 0) + 1) mt_161 rfl rfl ?_
          refine j_as mt_161 rfl c_543 ⟨by decide, by decide⟩ (by decide) ?_
          refine v_s mt_161 rfl rfl rfl ?_
          refine j_gi (w := 1) 0 mt_161 rfl rfl c_542 (by decide) ((up_na (by decide)).trans (up_eq _ _ _ _)) ?_
          refine j_if1 mt_161 rfl rfl ⟨by decide, by decide⟩ (fun _ => ?_) (fun c => (c (show ¬ (1 : Int) = 0 by decide)).elim)
          refine v_ic (v := Int32.ofInt 0) mt_161 rfl rfl ?_
          refine j_retb mt_161 rfl rfl (by decide) ?_
          refine j_retb mt_227 rfl rfl (by decide) ?_
          refine j_if1 mt_249 rfl rfl ⟨by decide, by decide⟩ (fun c => absurd (show ¬ (0 : Int) = 0 from c) (by decide)) (fun _ => ?_)
          refine v_ic (v := Int32.ofInt 0) mt_249 rfl rfl ?_
          exact v_ret mt_249 rfl rfl rfl h
        · replace h := h.2 (Int.not_lt.mp c)
          refine v_ic (v := Int32.ofInt 1) mt_162 rfl rfl ?_
          refine v_go mt_162 rfl rfl ?_
          refine j_retb mt_162 rfl rfl (by decide) ?_
          refine v_s mt_227 rfl rfl rfl ?_
          refine v_ic (v := Int32.ofInt 0) mt_227 rfl rfl ?_
          refine v_inl (L1 := [some (.ref 542), some (iv 1), some (iv 1), some (iv 0)]) mt_227 rfl rfl mt_161 rfl rfl (m_callj (As := [iv 1, iv 1, iv 0]) (rest := []) rfl rfl c_542 rfl (Nat.le_of_ble_eq_true rfl) (Nat.le_of_ble_eq_true rfl)) rfl (by clear h; omega) ?_
          refine v_s mt_161 rfl rfl rfl ?_
          refine j_if1 mt_161 rfl rfl ⟨by decide, by decide⟩ (fun _ => ?_) (fun c => (c (show ¬ (1 : Int) = 0 by decide)).elim)
          refine v_s mt_161 rfl rfl rfl ?_
          refine j_gi (w := 0) 0 mt_161 rfl rfl c_542 (by decide) (up_eq _ _ _ _) ?_
          refine j_if1 mt_161 rfl rfl ⟨by decide, by decide⟩ (fun c => absurd (show ¬ (0 : Int) = 0 from c) (by decide)) (fun _ => ?_)
          refine v_ic (v := Int32.ofInt 1) mt_161 rfl rfl ?_
          refine v_go mt_161 rfl rfl ?_
          refine j_retb mt_161 rfl rfl (by decide) ?_
          refine j_retb mt_227 rfl rfl (by decide) ?_
          refine j_if1 mt_249 rfl rfl ⟨by decide, by decide⟩ (fun _ => ?_) (fun c => (c (show ¬ (1 : Int) = 0 by decide)).elim)
          refine v_ic (v := Int32.ofInt 1) mt_249 rfl rfl ?_
          refine v_s mt_249 rfl rfl rfl ?_
          refine j_shl (e := bShl 1 x1) mt_249 rfl rfl ?_
          refine v_isn (L' := [some (.ref 542), some (iv x1), some (iv x2), some (iv (bShl 1 x1)), o4]) mt_249 rfl (Nat.le_of_ble_eq_true rfl) rfl ?_
          refine v_ic (v := Int32.ofInt 0) mt_249 rfl rfl ?_
          refine v_is (L' := [some (.ref 542), some (iv x1), some (iv x2), some (iv (bShl 1 x1)), some (iv 0)]) mt_249 rfl (Nat.le_of_ble_eq_true rfl) rfl ?_
          exact h
set_option maxHeartbeats 600000 in
theorem b_249_32 {X : Nat × (Nat → Int32)} {d : Nat} {J : Nat → Nat → Int} {sw : Bool × Bool × Bool} {lg : Nat → Nat → Int64} {x : Nat} {K : (Option Value ⊕ Nat) → mM → Prop} {x1 x2 x3 x4 : Int} (hd : 2 ≤ d)
    (h : InR x4 ∧ (9 ≤ x4 → K (.inl (some (iv (-1)))) (mj J sw lg x)) ∧ (x4 < 9 → ((¬ bAnd (bShr x3 x2) 1 = 1 → (∃ (c2 : Int) (J1 : Nat → Nat → Int), EE X 1 247 [.ref 542, iv x3] (mj J sw lg x) (.inl (some (iv c2))) (mj J1 sw lg x) ∧ VV X d 249 (32, [some (.ref 542), some (iv x1), some (iv x2), some (iv c2), some (iv (x4 + 1))], [], mj J1 sw lg x) K)) ∧ (bAnd (bShr x3 x2) 1 = 1 → K (.inl (some (iv x4))) (mj J sw lg x))))) : VV X d 249 (32, [some (.ref 542), some (iv x1), some (iv x2), some (iv x3), some (iv x4)], [], mj J sw lg x) K := by
  refine v_s mt_249 rfl rfl rfl ?_
  refine v_bp (v := Int32.ofInt 9) mt_249 rfl rfl ?_
  obtain ⟨z1, h⟩ := h
  refine j_if2 mt_249 rfl rfl z1 ⟨by decide, by decide⟩ (fun c => ?_) (fun c => ?_)
  · replace h := h.1 c
    refine v_ic (v := Int32.ofInt (-1)) mt_249 rfl rfl ?_
    exact v_ret mt_249 rfl rfl rfl h
  · replace h := h.2 (Int.not_le.mp c)
    refine v_s mt_249 rfl rfl rfl ?_
    refine v_s mt_249 rfl rfl rfl ?_
    refine j_shr (e := bShr x3 x2) mt_249 rfl rfl ?_
    refine v_ic (v := Int32.ofInt 1) mt_249 rfl rfl ?_
    refine j_and (e := bAnd (bShr x3 x2) 1) mt_249 rfl rfl ?_
    refine v_ic (v := Int32.ofInt 1) mt_249 rfl rfl ?_
    refine j_if2 mt_249 rfl rfl (inT _) ⟨by decide, by decide⟩ (fun c => ?_) (fun c => ?_)
    · replace h := h.1 c
      refine v_s mt_249 rfl rfl rfl ?_
      refine v_s mt_249 rfl rfl rfl ?_
      obtain ⟨c2, J1, z2, h⟩ := h
      refine v_call (d1 := 1) mt_249 rfl rfl mt_247 rfl rfl (m_callj (As := [iv x3]) (rest := []) rfl rfl c_542 rfl (Nat.le_of_ble_eq_true rfl) (Nat.le_of_ble_eq_true rfl)) z2 (by clear h; omega) ?_
      refine v_isn (L' := [some (.ref 542), some (iv x1), some (iv x2), some (iv c2), some (iv x4)]) mt_249 rfl (Nat.le_of_ble_eq_true rfl) rfl ?_
      refine j_inc (e := x4 + 1) (L' := [some (.ref 542), some (iv x1), some (iv x2), some (iv c2), some (iv (x4 + 1))]) mt_249 rfl rfl (Nat.le_of_ble_eq_true rfl) rfl rfl ?_
      refine v_go mt_249 rfl rfl ?_
      exact h
    · replace h := h.2 (Decidable.not_not.mp c)
      refine v_s mt_249 rfl rfl rfl ?_
      exact v_ret mt_249 rfl rfl rfl h
