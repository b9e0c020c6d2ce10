set_option maxHeartbeats 600000 in
theorem b_4_0 {X : Nat × (Nat → Int32)} {d : Nat} {J : Nat → Nat → Int} {sw : Bool × Bool × Bool} {lg : Nat → Nat → Int64} {x : Nat} {K : (Option Value ⊕ Nat) → mM → Prop} {r0 r1 r2 r3 : Nat} {o4 o5 o6 : Option Value} (h0 : SH[r0]? = some (5, 9)) (h1 : SH[r1]? = some (11, 9)) (h2 : SH[r2]? = some (14, 12)) (h3 : SH[r3]? = some (8, 4)) (hd : 5 ≤ d)
    (h : VV X d 4 (8, [some (.ref r0), some (.ref r1), some (.ref r2), some (.ref r3), some (iv 0), o5, o6], [], mj (m_up J r0 6 0) sw lg x) K) : VV X d 4 (0, [some (.ref r0), some (.ref r1), some (.ref r2), some (.ref r3), o4, o5, o6], [], mj J sw lg x) K := by
  refine v_s mt_4 rfl rfl rfl ?_
  refine v_ic (v := Int32.ofInt 0) mt_4 rfl rfl ?_
  refine j_pi 6 mt_4 rfl rfl h0 (by decide) ?_
  refine v_ic (v := Int32.ofInt 0) mt_4 rfl rfl ?_
  refine v_is (L' := [some (.ref r0), some (.ref r1), some (.ref r2), some (.ref r3), some (iv 0), o5, o6]) mt_4 rfl (Nat.le_of_ble_eq_true rfl) rfl ?_
  exact h
set_option maxHeartbeats 600000 in
theorem b_4_8 {X : Nat × (Nat → Int32)} {d : Nat} {J : Nat → Nat → Int} {sw : Bool × Bool × Bool} {lg : Nat → Nat → Int64} {x : Nat} {K : (Option Value ⊕ Nat) → mM → Prop} {r0 r1 r2 r3 : Nat} {x4 : Int} {o5 o6 : Option Value} (h0 : SH[r0]? = some (5, 9)) (h1 : SH[r1]? = some (11, 9)) (h2 : SH[r2]? = some (14, 12)) (h3 : SH[r3]? = some (8, 4)) (hd : 5 ≤ d)
    (h : InR x4 ∧ (6 ≤ x4 → K (.inl none) (mj J sw lg x)) ∧ (x4 < 6 → VV X d 4 (18, [some (.ref r0), some (.ref r1), some (.ref r2), some (.ref r3), some (iv x4), some (iv 0), o6], [], mj J sw lg x) K)) : VV X d 4 (8, [some (.ref r0), some (.ref r1), some (.ref r2), some (.ref r3), some (iv x4), o5, o6], [], mj J sw lg x) K := by
  refine v_s mt_4 rfl rfl rfl ?_
  refine v_bp (v := Int32.ofInt 6) mt_4 rfl rfl ?_
  obtain ⟨z1, h⟩ := h
  refine j_if2 mt_4 rfl rfl z1 ⟨by decide, by decide⟩ (fun c => ?_) (fun c => ?_)
  · replace h := h.1 c
    exact v_ret mt_4 rfl rfl rfl h
  · replace h := h.2 (Int.not_le.mp c)
    refine v_ic (v := Int32.ofInt 0) mt_4 rfl rfl ?_
    refine v_is (L' := [some (.ref r0), some (.ref r1), some (.ref r2), some (.ref r3), some (iv x4), some (iv 0), o6]) mt_4 rfl (Nat.le_of_ble_eq_true rfl) rfl ?_
    exact h
set_option maxHeartbeats 600000 in
theorem b_4_18 {X : Nat × (Nat → Int32)} {d : Nat} {J : Nat → Nat → Int} {sw : Bool × Bool × Bool} {lg : Nat → Nat → Int64} {x : Nat} {K : (Option Value ⊕ Nat) → mM → Prop} {r0 r1 r2 r3 : Nat} {x4 x5 : Int} {o6 : Option Value} (h0 : SH[r0]? = some (5, 9)) (h1 : SH[r1]? = some (11, 9)) (h2 : SH[r2]? = some (14, 12)) (h3 : SH[r3]? = some (8, 4)) (hd : 5 ≤ d)
    (h : InR x5 ∧ (6 ≤ x5 → VV X d 4 (8, [some (.ref r0), some (.ref r1), some (.ref r2), some (.ref r3), some (iv (x4 + 1)), some (iv x5), o6], [], mj J sw lg x) K) ∧ (x5 < 6 → (InR x4 ∧ InR (J r2 1) ∧ (J r2 1 ≤ x4 → ((0 ≤ (x4 * 6) + x5 ∧ (x4 * 6) + x5 < 36) ∧ VV X d 4 (18, [some (.ref r0), some (.ref r1), some (.ref r2), some (.ref r3), some (iv x4), some (iv (x5 + 1)), some (iv 0)], [], mj (m_up J (r0 + 3) (((x4 * 6) + x5).toNat) 0) sw lg x) K)) ∧ (x4 < J r2 1 → (InR (J r2 0) ∧ (J r2 0 ≤ x5 → ((0 ≤ (x4 * 6) + x5 ∧ (x4 * 6) + x5 < 36) ∧ VV X d 4 (18, [some (.ref r0), some (.ref r1), some (.ref r2), some (.ref r3), some (iv x4), some (iv (x5 + 1)), some (iv 0)], [], mj (m_up J (r0 + 3) (((x4 * 6) + x5).toNat) 0) sw lg x) K)) ∧ (x5 < J r2 0 → (∃ (c2 : Int) (J1 : Nat → Nat → Int), EE X 4 5 [.ref r0, .ref r1, .ref r2, .ref r3, iv x4, iv x5] (mj J sw lg x) (.inl (some (iv c2))) (mj J1 sw lg x) ∧ InR c2 ∧ (c2 = 0 → ((0 ≤ (x4 * 6) + x5 ∧ (x4 * 6) + x5 < 36) ∧ VV X d 4 (18, [some (.ref r0), some (.ref r1), some (.ref r2), some (.ref r3), some (iv x4), some (iv (x5 + 1)), some (iv 0)], [], mj (m_up J1 (r0 + 3) (((x4 * 6) + x5).toNat) 0) sw lg x) K)) ∧ (¬ c2 = 0 → ((0 ≤ (x4 * 6) + x5 ∧ (x4 * 6) + x5 < 36) ∧ VV X d 4 (18, [some (.ref r0), some (.ref r1), some (.ref r2), some (.ref r3), some (iv x4), some (iv (x5 + 1)), some (iv 1)], [], mj (m_up (m_up J1 (r0 + 3) (((x4 * 6) + x5).toNat) 1) r0 6 ((J1 r0 6) + 1)) sw lg x) K))))))))) : VV X d 4 (18, [some (.ref r0), some (.ref r1), some (.ref r2), some (.ref r3), some (iv x4), some (iv x5), o6], [], mj J sw lg x) K := by
  refine v_s mt_4 rfl rfl rfl ?_
  refine v_bp (v := Int32.ofInt 6) mt_4 rfl rfl ?_
  obtain ⟨z1, h⟩ := h
  refine j_if2 mt_4 rfl rfl z1 ⟨by decide, by decide⟩ (fun c => ?_) (fun c => ?_)
  · replace h := h.1 c
    refine j_inc (e := x4 + 1) (L' := [some (.ref r0), some (.ref r1), some (.ref r2), some (.ref r3), some (iv (x4 + 1)), some (iv x5), o6]) mt_4 rfl rfl (Nat.le_of_ble_eq_true rfl) rfl rfl ?_
    refine v_go mt_4 rfl rfl ?_
    exact h
  · replace h := h.2 (Int.not_le.mp c)
    refine v_s mt_4 rfl rfl rfl ?_
    refine v_s mt_4 rfl rfl rfl ?_
    refine j_gi (w := J r2 1) 1 mt_4 rfl rfl h2 (by decide) rfl ?_
    obtain ⟨z2, h⟩ := h
    obtain ⟨z3, h⟩ := h
    refine j_if2 mt_4 rfl rfl z2 z3 (fun c => ?_) (fun c => ?_)
    · replace h := h.1 c
      refine v_ic (v := Int32.ofInt 0) mt_4 rfl rfl ?_
      refine v_is (L' := [some (.ref r0), some (.ref r1), some (.ref r2), some (.ref r3), some (iv x4), some (iv x5), some (iv 0)]) mt_4 rfl (Nat.le_of_ble_eq_true rfl) rfl ?_
      refine v_s mt_4 rfl rfl rfl ?_
      refine v_gr (w := (r0 + 3)) 4 mt_4 rfl rfl h0 (by decide) (g_0_4 h0) ?_
      refine v_s mt_4 rfl rfl rfl ?_
      refine v_bp (v := Int32.ofInt 6) mt_4 rfl rfl ?_
      refine j_mul (e := x4 * 6) mt_4 rfl rfl ?_
      refine v_s mt_4 rfl rfl rfl ?_
      refine j_add (e := (x4 * 6) + x5) mt_4 rfl rfl ?_
      refine v_s mt_4 rfl rfl rfl ?_
      obtain ⟨z4, h⟩ := h
      refine j_bs (w := 0) mt_4 rfl (shB r0 (SH_lt h0) h0).2.2.1 z4 (by decide) (by decide) ?_
      refine v_s mt_4 rfl rfl rfl ?_
      refine j_if1 mt_4 rfl rfl ⟨by decide, by decide⟩ (fun _ => ?_) (fun c => (c (show (0 : Int) = 0 by decide)).elim)
      refine j_inc (e := x5 + 1) (L' := [some (.ref r0), some (.ref r1), some (.ref r2), some (.ref r3), some (iv x4), some (iv (x5 + 1)), some (iv 0)]) mt_4 rfl rfl (Nat.le_of_ble_eq_true rfl) rfl rfl ?_
      refine v_go mt_4 rfl rfl ?_
      exact h
    · replace h := h.2 (Int.not_le.mp c)
      refine v_s mt_4 rfl rfl rfl ?_
      refine v_s mt_4 rfl rfl rfl ?_
      refine j_gi (w := J r2 0) 0 mt_4 rfl rfl h2 (by decide) rfl ?_
      obtain ⟨z5, h⟩ := h
      refine j_if2 mt_4 rfl rfl z1 z5 (fun c => ?_) (fun c => ?_)
      · replace h := h.1 c
        refine v_ic (v := Int32.ofInt 0) mt_4 rfl rfl ?_
        refine v_is (L' := [some (.ref r0), some (.ref r1), some (.ref r2), some (.ref r3), some (iv x4), some (iv x5), some (iv 0)]) mt_4 rfl (Nat.le_of_ble_eq_true rfl) rfl ?_
        refine v_s mt_4 rfl rfl rfl ?_
        refine v_gr (w := (r0 + 3)) 4 mt_4 rfl rfl h0 (by decide) (g_0_4 h0) ?_
        refine v_s mt_4 rfl rfl rfl ?_
        refine v_bp (v := Int32.ofInt 6) mt_4 rfl rfl ?_
        refine j_mul (e := x4 * 6) mt_4 rfl rfl ?_
        refine v_s mt_4 rfl rfl rfl ?_
        refine j_add (e := (x4 * 6) + x5) mt_4 rfl rfl ?_
        refine v_s mt_4 rfl rfl rfl ?_
        obtain ⟨z6, h⟩ := h
        refine j_bs (w := 0) mt_4 rfl (shB r0 (SH_lt h0) h0).2.2.1 z6 (by decide) (by decide) ?_
        refine v_s mt_4 rfl rfl rfl ?_
        refine j_if1 mt_4 rfl rfl ⟨by decide, by decide⟩ (fun _ => ?_) (fun c => (c (show (0 : Int) = 0 by decide)).elim)
        refine j_inc (e := x5 + 1) (L' := [some (.ref r0), some (.ref r1), some (.ref r2), some (.ref r3), some (iv x4), some (iv (x5 + 1)), some (iv 0)]) mt_4 rfl rfl (Nat.le_of_ble_eq_true rfl) rfl rfl ?_
        refine v_go mt_4 rfl rfl ?_
        exact h
      · replace h := h.2 (Int.not_le.mp c)
        refine v_s mt_4 rfl rfl rfl ?_
        refine v_s mt_4 rfl rfl rfl ?_
        refine v_s mt_4 rfl rfl rfl ?_
        refine v_s mt_4 rfl rfl rfl ?_
        refine v_s mt_4 rfl rfl rfl ?_
        refine v_s mt_4 rfl rfl rfl ?_
        obtain ⟨c2, J1, z7, h⟩ := h
        refine v_call (d1 := 4) mt_4 rfl rfl mt_5 rfl rfl (m_callj (As := [.ref r1, .ref r2, .ref r3, iv x4, iv x5]) (rest := []) rfl rfl h0 rfl (Nat.le_of_ble_eq_true rfl) (Nat.le_of_ble_eq_true rfl)) z7 (by clear h; omega) ?_
        obtain ⟨z8, h⟩ := h
        refine j_if1 mt_4 rfl rfl z8 (fun c => ?_) (fun c => ?_)
        · replace h := h.1 c
          refine v_ic (v := Int32.ofInt 0) mt_4 rfl rfl ?_
          refine v_is (L' := [some (.ref r0), some (.ref r1), some (.ref r2), some (.ref r3), some (iv x4), some (iv x5), some (iv 0)]) mt_4 rfl (Nat.le_of_ble_eq_true rfl) rfl ?_
          refine v_s mt_4 rfl rfl rfl ?_
          refine v_gr (w := (r0 + 3)) 4 mt_4 rfl rfl h0 (by decide) (g_0_4 h0) ?_
          refine v_s mt_4 rfl rfl rfl ?_
          refine v_bp (v := Int32.ofInt 6) mt_4 rfl rfl ?_
          refine j_mul (e := x4 * 6) mt_4 rfl rfl ?_
          refine v_s mt_4 rfl rfl rfl ?_
          refine j_add (e := (x4 * 6) + x5) mt_4 rfl rfl ?_
          refine v_s mt_4 rfl rfl rfl ?_
          obtain ⟨z9, h⟩ := h
          refine j_bs (w := 0) mt_4 rfl (shB r0 (SH_lt h0) h0).2.2.1 z9 (by decide) (by decide) ?_
          refine v_s mt_4 rfl rfl rfl ?_
          refine j_if1 mt_4 rfl rfl ⟨by decide, by decide⟩ (fun _ => ?_) (fun c => (c (show (0 : Int) = 0 by decide)).elim)
          refine j_inc (e := x5 + 1) (L' := [some (.ref r0), some (.ref r1), some (.ref r2), some (.ref r3), some (iv x4), some (iv (x5 + 1)), some (iv 0)]) mt_4 rfl rfl (Nat.le_of_ble_eq_true rfl) rfl rfl ?_
          refine v_go mt_4 rfl rfl ?_
          exact h
        · replace h := h.2 c
          refine v_ic (v := Int32.ofInt 1) mt_4 rfl rfl ?_
          refine v_go mt_4 rfl rfl ?_
          refine v_is (L' := [some (.ref r0), some (.ref r1), some (.ref r2), some (.ref r3), some (iv x4), some (iv x5), some (iv 1)]) mt_4 rfl (Nat.le_of_ble_eq_true rfl) rfl ?_
          refine v_s mt_4 rfl rfl rfl ?_
          refine v_gr (w := (r0 + 3)) 4 mt_4 rfl rfl h0 (by decide) (g_0_4 h0) ?_
          refine v_s mt_4 rfl rfl rfl ?_
          refine v_bp (v := Int32.ofInt 6) mt_4 rfl rfl ?_
          refine j_mul (e := x4 * 6) mt_4 rfl rfl ?_
          refine v_s mt_4 rfl rfl rfl ?_
          refine j_add (e := (x4 * 6) + x5) mt_4 rfl rfl ?_
          refine v_s mt_4 rfl rfl rfl ?_
          obtain ⟨z10, h⟩ := h
          refine j_bs (w := 1) mt_4 rfl (shB r0 (SH_lt h0) h0).2.2.1 z10 (by decide) (by decide) ?_
          refine v_s mt_4 rfl rfl rfl ?_
          refine j_if1 mt_4 rfl rfl ⟨by decide, by decide⟩ (fun c => absurd (show (1 : Int) = 0 from c) (by decide)) (fun _ => ?_)
          refine v_s mt_4 rfl rfl rfl ?_
          refine v_s mt_4 rfl rfl rfl ?_
          refine j_gi (w := J1 r0 6) 6 mt_4 rfl rfl h0 (by decide) ((up_na (sh_ne h0 (shB r0 (SH_lt h0) h0).2.2.1 (by decide))).trans rfl) ?_
          refine v_ic (v := Int32.ofInt 1) mt_4 rfl rfl ?_
          refine j_add (e := (J1 r0 6) + 1) mt_4 rfl rfl ?_
          refine j_pi 6 mt_4 rfl rfl h0 (by decide) ?_
          refine j_inc (e := x5 + 1) (L' := [some (.ref r0), some (.ref r1), some (.ref r2), some (.ref r3), some (iv x4), some (iv (x5 + 1)), some (iv 1)]) mt_4 rfl rfl (Nat.le_of_ble_eq_true rfl) rfl rfl ?_
          refine v_go mt_4 rfl rfl ?_
          exact h
set_option maxHeartbeats 600000 in
theorem b_5_0 {X : Nat × (Nat → Int32)} {d : Nat} {J : Nat → Nat → Int} {sw : Bool × Bool × Bool} {lg : Nat → Nat → Int64} {x : Nat} {K : (Option Value ⊕ Nat) → mM → Prop} {r0 r1 r2 r3 : Nat} {x4 x5 : Int} {o6 : Option Value} (h0 : SH[r0]? = some (5, 9)) (h1 : SH[r1]? = some (11, 9)) (h2 : SH[r2]? = some (14, 12)) (h3 : SH[r3]? = some (8, 4)) (hd : 4 ≤ d)
    (h : VV X d 5 (3, [some (.ref r0), some (.ref r1), some (.ref r2), some (.ref r3), some (iv x4), some (iv x5), some (iv 0)], [], mj J sw lg x) K) : VV X d 5 (0, [some (.ref r0), some (.ref r1), some (.ref r2), some (.ref r3), some (iv x4), some (iv x5), o6], [], mj J sw lg x) K := by
  refine v_ic (v := Int32.ofInt 0) mt_5 rfl rfl ?_
  refine v_is (L' := [some (.ref r0), some (.ref r1), some (.ref r2), some (.ref r3), some (iv x4), some (iv x5), some (iv 0)]) mt_5 rfl (Nat.le_of_ble_eq_true rfl) rfl ?_
  exact h
set_option maxHeartbeats 600000 in
theorem b_5_3 {X : Nat × (Nat → Int32)} {d : Nat} {J : Nat → Nat → Int} {sw : Bool × Bool × Bool} {lg : Nat → Nat → Int64} {x : Nat} {K : (Option Value ⊕ Nat) → mM → Prop} {r0 r1 r2 r3 : Nat} {x4 x5 x6 : Int} (h0 : SH[r0]? = some (5, 9)) (h1 : SH[r1]? = some (11, 9)) (h2 : SH[r2]? = some (14, 12)) (h3 : SH[r3]? = some (8, 4)) (hd : 4 ≤ d)
    (h : InR x6 ∧ InR (J r0 0) ∧ (J r0 0 ≤ x6 → K (.inl (some (iv 1))) (mj J sw lg x)) ∧ (x6 < J r0 0 → ((0 ≤ x6 ∧ x6 < 8) ∧ (0 ≤ J (r0 + 1) x6.toNat ∧ J (r0 + 1) x6.toNat < 9) ∧ ∃ (c2 : Int) (J1 : Nat → Nat → Int), EE X 2 48 [.ref r1, .ref r2, .ref r3, iv x4, iv x5, iv (J (r0 + 1) x6.toNat)] (mj J sw lg x) (.inl (some (iv c2))) (mj J1 sw lg x) ∧ InR ((J (r1 + 5) ((J (r0 + 1) x6.toNat).toNat)) - c2) ∧ InR (max 0 ((J (r1 + 5) ((J (r0 + 1) x6.toNat).toNat)) - c2)) ∧ InR (J1 (r0 + 2) x6.toNat) ∧ (max 0 ((J (r1 + 5) ((J (r0 + 1) x6.toNat).toNat)) - c2) = J1 (r0 + 2) x6.toNat → VV X d 5 (3, [some (.ref r0), some (.ref r1), some (.ref r2), some (.ref r3), some (iv x4), some (iv x5), some (iv (x6 + 1))], [], mj J1 sw lg x) K) ∧ (¬ max 0 ((J (r1 + 5) ((J (r0 + 1) x6.toNat).toNat)) - c2) = J1 (r0 + 2) x6.toNat → K (.inl (some (iv 0))) (mj J1 sw lg x))))) : VV X d 5 (3, [some (.ref r0), some (.ref r1), some (.ref r2), some (.ref r3), some (iv x4), some (iv x5), some (iv x6)], [], mj J sw lg x) K := by
  refine v_s mt_5 rfl rfl rfl ?_
  refine v_s mt_5 rfl rfl rfl ?_
  refine j_gi (w := J r0 0) 0 mt_5 rfl rfl h0 (by decide) rfl ?_
  obtain ⟨z1, h⟩ := h
  obtain ⟨z2, h⟩ := h
  refine j_if2 mt_5 rfl rfl z1 z2 (fun c => ?_) (fun c => ?_)
  · replace h := h.1 c
    refine v_ic (v := Int32.ofInt 1) mt_5 rfl rfl ?_
    exact j_retb mt_5 rfl rfl (by decide) h
  · replace h := h.2 (Int.not_le.mp c)
    refine v_s mt_5 rfl rfl rfl ?_
    refine v_s mt_5 rfl rfl rfl ?_
    refine v_s mt_5 rfl rfl rfl ?_
    refine v_s mt_5 rfl rfl rfl ?_
    refine v_s mt_5 rfl rfl rfl ?_
    refine v_s mt_5 rfl rfl rfl ?_
    refine v_gr (w := (r0 + 1)) 1 mt_5 rfl rfl h0 (by decide) (g_0_1 h0) ?_
    refine v_s mt_5 rfl rfl rfl ?_
    obtain ⟨z3, h⟩ := h
    refine j_al (w := J (r0 + 1) x6.toNat) mt_5 rfl (shB r0 (SH_lt h0) h0).1 z3 (by decide) rfl ?_
    refine v_inl (L1 := [some (.ref r1), some (.ref r2), some (.ref r3), some (iv x4), some (iv x5), some (iv (J (r0 + 1) x6.toNat))]) mt_5 rfl rfl mt_49 rfl rfl (m_callj (As := [.ref r2, .ref r3, iv x4, iv x5, iv (J (r0 + 1) x6.toNat)]) (rest := []) rfl rfl h1 rfl (Nat.le_of_ble_eq_true rfl) (Nat.le_of_ble_eq_true rfl)) rfl (by clear h; omega) ?_
    refine v_ic (v := Int32.ofInt 0) mt_49 rfl rfl ?_
    refine v_s mt_49 rfl rfl rfl ?_
    refine v_gr (w := (r1 + 5)) 4 mt_49 rfl rfl h1 (by decide) (g_6_4 h1) ?_
    refine v_s mt_49 rfl rfl rfl ?_
    obtain ⟨z4, h⟩ := h
    refine j_al (w := J (r1 + 5) ((J (r0 + 1) x6.toNat).toNat)) mt_49 rfl (shS r1 (SH_lt h1) h1).2.2.2.2.1 z4 (by decide) rfl ?_
    refine v_s mt_49 rfl rfl rfl ?_
    refine v_s mt_49 rfl rfl rfl ?_
    refine v_s mt_49 rfl rfl rfl ?_
    refine v_s mt_49 rfl rfl rfl ?_
    refine v_s mt_49 rfl rfl rfl ?_
    refine v_s mt_49 rfl rfl rfl ?_
    obtain ⟨c2, J1, z5, h⟩ := h
    refine v_call (d1 := 2) mt_49 rfl rfl mt_48 rfl rfl (m_callj (As := [.ref r2, .ref r3, iv x4, iv x5, iv (J (r0 + 1) x6.toNat)]) (rest := [iv (J (r1 + 5) ((J (r0 + 1) x6.toNat).toNat)), iv 0]) rfl rfl h1 rfl (Nat.le_of_ble_eq_true rfl) (Nat.le_of_ble_eq_true rfl)) z5 (by clear h; omega) ?_
    refine j_sub (e := (J (r1 + 5) ((J (r0 + 1) x6.toNat).toNat)) - c2) mt_49 rfl rfl ?_
    obtain ⟨z6, h⟩ := h
    refine j_max mt_49 rfl (Nat.le_of_ble_eq_true rfl) ⟨by decide, by decide⟩ z6 ?_
    refine v_ret mt_49 rfl rfl rfl ?_
    refine v_s mt_5 rfl rfl rfl ?_
    refine v_gr (w := (r0 + 2)) 2 mt_5 rfl rfl h0 (by decide) (g_0_2 h0) ?_
    refine v_s mt_5 rfl rfl rfl ?_
    refine j_al (w := J1 (r0 + 2) x6.toNat) mt_5 rfl (shB r0 (SH_lt h0) h0).2.1 z3 (by decide) rfl ?_
    obtain ⟨z7, h⟩ := h
    obtain ⟨z8, h⟩ := h
    refine j_if2 mt_5 rfl rfl z7 z8 (fun c => ?_) (fun c => ?_)
    · replace h := h.1 c
      refine j_inc (e := x6 + 1) (L' := [some (.ref r0), some (.ref r1), some (.ref r2), some (.ref r3), some (iv x4), some (iv x5), some (iv (x6 + 1))]) mt_5 rfl rfl (Nat.le_of_ble_eq_true rfl) rfl rfl ?_
      refine v_go mt_5 rfl rfl ?_
      exact h
    · replace h := h.2 c
      refine v_ic (v := Int32.ofInt 0) mt_5 rfl rfl ?_
      exact j_retb mt_5 rfl rfl (by decide) h
set_option maxHeartbeats 600000 in
theorem b_6_0 {X : Nat × (Nat → Int32)} {d : Nat} {J : Nat → Nat → Int} {sw : Bool × Bool × Bool} {lg : Nat → Nat → Int64} {x : Nat} {K : (Option Value ⊕ Nat) → mM → Prop} {r0 : Nat} {o1 : Option Value} (h0 : SH[r0]? = some (5, 9))
    (h : VV X d 6 (2, [some (.ref r0), some (iv 0)], [], mj J sw lg x) K) : VV X d 6 (0, [some (.ref r0), o1], [], mj J sw lg x) K := by
  refine v_ic (v := Int32.ofInt 0) mt_6 rfl rfl ?_
  refine v_isn (L' := [some (.ref r0), some (iv 0)]) mt_6 rfl (Nat.le_of_ble_eq_true rfl) rfl ?_
  exact h
set_option maxHeartbeats 600000 in
theorem b_6_2 {X : Nat × (Nat → Int32)} {d : Nat} {J : Nat → Nat → Int} {sw : Bool × Bool × Bool} {lg : Nat → Nat → Int64} {x : Nat} {K : (Option Value ⊕ Nat) → mM → Prop} {r0 : Nat} {x1 : Int} (h0 : SH[r0]? = some (5, 9))
    (h : InR x1 ∧ (36 ≤ x1 → K (.inl (some (iv (-1)))) (mj J sw lg x)) ∧ (x1 < 36 → ((0 ≤ x1 ∧ x1 < 36) ∧ InR (J (r0 + 3) x1.toNat) ∧ (J (r0 + 3) x1.toNat = 0 → VV X d 6 (2, [some (.ref r0), some (iv (x1 + 1))], [], mj J sw lg x) K) ∧ (¬ J (r0 + 3) x1.toNat = 0 → K (.inl (some (iv (((bDiv x1 6) * 10) + (bRem x1 6))))) (mj J sw lg x))))) : VV X d 6 (2, [some (.ref r0), some (iv x1)], [], mj J sw lg x) K := by
  refine v_s mt_6 rfl rfl rfl ?_
  refine v_s mt_6 rfl rfl rfl ?_
  refine v_gr (w := (r0 + 3)) 4 mt_6 rfl rfl h0 (by decide) (g_0_4 h0) ?_
  refine j_len (e := 36) mt_6 rfl (shB r0 (SH_lt h0) h0).2.2.1 (by decide) rfl ?_
  obtain ⟨z1, h⟩ := h
  refine j_if2 mt_6 rfl rfl z1 ⟨by decide, by decide⟩ (fun c => ?_) (fun c => ?_)
  · replace h := h.1 c
    refine v_ic (v := Int32.ofInt (-1)) mt_6 rfl rfl ?_
    exact v_ret mt_6 rfl rfl rfl h
  · replace h := h.2 (Int.not_le.mp c)
    refine v_s mt_6 rfl rfl rfl ?_
    refine v_gr (w := (r0 + 3)) 4 mt_6 rfl rfl h0 (by decide) (g_0_4 h0) ?_
    refine v_s mt_6 rfl rfl rfl ?_
    obtain ⟨z2, h⟩ := h
    refine j_bl (w := J (r0 + 3) x1.toNat) mt_6 rfl (shB r0 (SH_lt h0) h0).2.2.1 z2 (by decide) rfl ?_
    obtain ⟨z3, h⟩ := h
    refine j_if1 mt_6 rfl rfl z3 (fun c => ?_) (fun c => ?_)
    · replace h := h.1 c
      refine j_inc (e := x1 + 1) (L' := [some (.ref r0), some (iv (x1 + 1))]) mt_6 rfl rfl (Nat.le_of_ble_eq_true rfl) rfl rfl ?_
      refine v_go mt_6 rfl rfl ?_
      exact h
    · replace h := h.2 c
      refine v_s mt_6 rfl rfl rfl ?_
      refine v_bp (v := Int32.ofInt 6) mt_6 rfl rfl ?_
      refine j_div (e := bDiv x1 6) mt_6 rfl ⟨by decide, by decide⟩ (by decide) rfl ?_
      refine v_bp (v := Int32.ofInt 10) mt_6 rfl rfl ?_
      refine j_mul (e := (bDiv x1 6) * 10) mt_6 rfl rfl ?_
      refine v_s mt_6 rfl rfl rfl ?_
      refine v_bp (v := Int32.ofInt 6) mt_6 rfl rfl ?_
      refine j_rem (e := bRem x1 6) mt_6 rfl ⟨by decide, by decide⟩ (by decide) rfl ?_
      refine j_add (e := ((bDiv x1 6) * 10) + (bRem x1 6)) mt_6 rfl rfl ?_
      exact v_ret mt_6 rfl rfl rfl h
set_option maxHeartbeats 600000 in
theorem b_7_0 {X : Nat × (Nat → Int32)} {d : Nat} {J : Nat → Nat → Int} {sw : Bool × Bool × Bool} {lg : Nat → Nat → Int64} {x : Nat} {K : (Option Value ⊕ Nat) → mM → Prop} {r0 r1 r2 r3 : Nat} {o4 o5 : Option Value} (h0 : SH[r0]? = some (5, 9)) (h1 : SH[r1]? = some (11, 9)) (h2 : SH[r2]? = some (14, 12)) (h3 : SH[r3]? = some (8, 4)) (hd : 5 ≤ d)
    (h : VV X d 7 (13, [some (.ref r0), some (.ref r1), some (.ref r2), some (.ref r3), some (iv 0), o5], [], mj (m_up (m_up J r0 7 (-1)) r0 8 (-1)) sw lg x) K) : VV X d 7 (0, [some (.ref r0), some (.ref r1), some (.ref r2), some (.ref r3), o4, o5], [], mj J sw lg x) K := by
  refine v_s mt_7 rfl rfl rfl ?_
  refine v_ic (v := Int32.ofInt (-1)) mt_7 rfl rfl ?_
  refine j_pi 7 mt_7 rfl rfl h0 (by decide) ?_
  refine v_s mt_7 rfl rfl rfl ?_
  refine v_ic (v := Int32.ofInt (-1)) mt_7 rfl rfl ?_
  refine j_pi 8 mt_7 rfl rfl h0 (by decide) ?_
  refine v_ic (v := Int32.ofInt 0) mt_7 rfl rfl ?_
  refine v_is (L' := [some (.ref r0), some (.ref r1), some (.ref r2), some (.ref r3), some (iv 0), o5]) mt_7 rfl (Nat.le_of_ble_eq_true rfl) rfl ?_
  exact h
set_option maxHeartbeats 600000 in
theorem b_7_13 {X : Nat × (Nat → Int32)} {d : Nat} {J : Nat → Nat → Int} {sw : Bool × Bool × Bool} {lg : Nat → Nat → Int64} {x : Nat} {K : (Option Value ⊕ Nat) → mM → Prop} {r0 r1 r2 r3 : Nat} {x4 : Int} {o5 : Option Value} (h0 : SH[r0]? = some (5, 9)) (h1 : SH[r1]? = some (11, 9)) (h2 : SH[r2]? = some (14, 12)) (h3 : SH[r3]? = some (8, 4)) (hd : 5 ≤ d)
    (h : InR x4 ∧ InR (J r2 2) ∧ (J r2 2 ≤ x4 → K (.inl none) (mj J sw lg x)) ∧ (x4 < J r2 2 → ((¬ bAnd (bShr (J r0 3) x4) 1 = 0 → VV X d 7 (13, [some (.ref r0), some (.ref r1), some (.ref r2), some (.ref r3), some (iv (x4 + 1)), o5], [], mj J sw lg x) K) ∧ (bAnd (bShr (J r0 3) x4) 1 = 0 → (∃ (c2 : Int) (J1 : Nat → Nat → Int), EE X 4 8 [.ref r0, .ref r1, .ref r2, .ref r3, iv x4] (mj J sw lg x) (.inl (some (iv c2))) (mj J1 sw lg x) ∧ InR (J1 r0 7) ∧ (J1 r0 7 = (-1) → VV X d 7 (13, [some (.ref r0), some (.ref r1), some (.ref r2), some (.ref r3), some (iv (x4 + 1)), some (iv c2)], [], mj (m_up (m_up J1 r0 7 x4) r0 8 c2) sw lg x) K) ∧ (¬ J1 r0 7 = (-1) → (InR c2 ∧ InR (J1 r0 8) ∧ (J1 r0 8 ≤ c2 → VV X d 7 (13, [some (.ref r0), some (.ref r1), some (.ref r2), some (.ref r3), some (iv (x4 + 1)), some (iv c2)], [], mj J1 sw lg x) K) ∧ (c2 < J1 r0 8 → VV X d 7 (13, [some (.ref r0), some (.ref r1), some (.ref r2), some (.ref r3), some (iv (x4 + 1)), some (iv c2)], [], mj (m_up (m_up J1 r0 7 x4) r0 8 c2) sw lg x) K)))))))) : VV X d 7 (13, [some (.ref r0), some (.ref r1), some (.ref r2), some (.ref r3), some (iv x4), o5], [], mj J sw lg x) K := by
  refine v_s mt_7 rfl rfl rfl ?_
  refine v_s mt_7 rfl rfl rfl ?_
  refine j_gi (w := J r2 2) 2 mt_7 rfl rfl h2 (by decide) rfl ?_
  obtain ⟨z1, h⟩ := h
  obtain ⟨z2, h⟩ := h
  refine j_if2 mt_7 rfl rfl z1 z2 (fun c => ?_) (fun c => ?_)
  · replace h := h.1 c
    exact v_ret mt_7 rfl rfl rfl h
  · replace h := h.2 (Int.not_le.mp c)
    refine v_s mt_7 rfl rfl rfl ?_
    refine j_gi (w := J r0 3) 3 mt_7 rfl rfl h0 (by decide) rfl ?_
    refine v_s mt_7 rfl rfl rfl ?_
    refine j_shr (e := bShr (J r0 3) x4) mt_7 rfl rfl ?_
    refine v_ic (v := Int32.ofInt 1) mt_7 rfl rfl ?_
    refine j_and (e := bAnd (bShr (J r0 3) x4) 1) mt_7 rfl rfl ?_
    refine j_if1 mt_7 rfl rfl (inT _) (fun c => ?_) (fun c => ?_)
    · replace h := h.1 c
      refine j_inc (e := x4 + 1) (L' := [some (.ref r0), some (.ref r1), some (.ref r2), some (.ref r3), some (iv (x4 + 1)), o5]) mt_7 rfl rfl (Nat.le_of_ble_eq_true rfl) rfl rfl ?_
      refine v_go mt_7 rfl rfl ?_
      exact h
    · replace h := h.2 (Decidable.not_not.mp c)
      refine v_s mt_7 rfl rfl rfl ?_
      refine v_s mt_7 rfl rfl rfl ?_
      refine v_s mt_7 rfl rfl rfl ?_
      refine v_s mt_7 rfl rfl rfl ?_
      refine v_s mt_7 rfl rfl rfl ?_
      obtain ⟨c2, J1, z3, h⟩ := h
      refine v_call (d1 := 4) mt_7 rfl rfl mt_8 rfl rfl (m_callj (As := [.ref r1, .ref r2, .ref r3, iv x4]) (rest := []) rfl rfl h0 rfl (Nat.le_of_ble_eq_true rfl) (Nat.le_of_ble_eq_true rfl)) z3 (by clear h; omega) ?_
      refine v_is (L' := [some (.ref r0), some (.ref r1), some (.ref r2), some (.ref r3), some (iv x4), some (iv c2)]) mt_7 rfl (Nat.le_of_ble_eq_true rfl) rfl ?_
      refine v_s mt_7 rfl rfl rfl ?_
      refine j_gi (w := J1 r0 7) 7 mt_7 rfl rfl h0 (by decide) rfl ?_
      refine v_ic (v := Int32.ofInt (-1)) mt_7 rfl rfl ?_
      obtain ⟨z4, h⟩ := h
      refine j_if2 mt_7 rfl rfl z4 ⟨by decide, by decide⟩ (fun c => ?_) (fun c => ?_)
      · replace h := h.1 c
        refine v_s mt_7 rfl rfl rfl ?_
        refine v_s mt_7 rfl rfl rfl ?_
        refine j_pi 7 mt_7 rfl rfl h0 (by decide) ?_
        refine v_s mt_7 rfl rfl rfl ?_
        refine v_s mt_7 rfl rfl rfl ?_
        refine j_pi 8 mt_7 rfl rfl h0 (by decide) ?_
        refine j_inc (e := x4 + 1) (L' := [some (.ref r0), some (.ref r1), some (.ref r2), some (.ref r3), some (iv (x4 + 1)), some (iv c2)]) mt_7 rfl rfl (Nat.le_of_ble_eq_true rfl) rfl rfl ?_
        refine v_go mt_7 rfl rfl ?_
        exact h
      · replace h := h.2 c
        refine v_s mt_7 rfl rfl rfl ?_
        refine v_s mt_7 rfl rfl rfl ?_
        refine j_gi (w := J1 r0 8) 8 mt_7 rfl rfl h0 (by decide) rfl ?_
        obtain ⟨z5, h⟩ := h
        obtain ⟨z6, h⟩ := h
        refine j_if2 mt_7 rfl rfl z5 z6 (fun c => ?_) (fun c => ?_)
        · replace h := h.1 c
          refine j_inc (e := x4 + 1) (L' := [some (.ref r0), some (.ref r1), some (.ref r2), some (.ref r3), some (iv (x4 + 1)), some (iv c2)]) mt_7 rfl rfl (Nat.le_of_ble_eq_true rfl) rfl rfl ?_
          refine v_go mt_7 rfl rfl ?_
          exact h
        · replace h := h.2 (Int.not_le.mp c)
          refine v_s mt_7 rfl rfl rfl ?_
          refine v_s mt_7 rfl rfl rfl ?_
          refine j_pi 7 mt_7 rfl rfl h0 (by decide) ?_
          refine v_s mt_7 rfl rfl rfl ?_
          refine v_s mt_7 rfl rfl rfl ?_
          refine j_pi 8 mt_7 rfl rfl h0 (by decide) ?_
          refine j_inc (e := x4 + 1) (L' := [some (.ref r0), some (.ref r1), some (.ref r2), some (.ref r3), some (iv (x4 + 1)), some (iv c2)]) mt_7 rfl rfl (Nat.le_of_ble_eq_true rfl) rfl rfl ?_
          refine v_go mt_7 rfl rfl ?_
          exact h
set_option maxHeartbeats 600000 in
theorem b_8_0 {X : Nat × (Nat → Int32)} {d : Nat} {J : Nat → Nat → Int} {sw : Bool × Bool × Bool} {lg : Nat → Nat → Int64} {x : Nat} {K : (Option Value ⊕ Nat) → mM → Prop} {r0 r1 r2 r3 : Nat} {x4 : Int} {o5 o6 o7 : Option Value} (h0 : SH[r0]? = some (5, 9)) (h1 : SH[r1]? = some (11, 9)) (h2 : SH[r2]? = some (14, 12)) (h3 : SH[r3]? = some (8, 4)) (hd : 4 ≤ d)
    (h : VV X d 8 (3, [some (.ref r0), some (.ref r1), some (.ref r2), some (.ref r3), some (iv x4), some (iv 0), o6, o7], [], mj J sw lg x) K) : VV X d 8 (0, [some (.ref r0), some (.ref r1), some (.ref r2), some (.ref r3), some (iv x4), o5, o6, o7], [], mj J sw lg x) K := by
  refine v_ic (v := Int32.ofInt 0) mt_8 rfl rfl ?_
  refine v_is (L' := [some (.ref r0), some (.ref r1), some (.ref r2), some (.ref r3), some (iv x4), some (iv 0), o6, o7]) mt_8 rfl (Nat.le_of_ble_eq_true rfl) rfl ?_
  exact h
set_option maxHeartbeats 600000 in
theorem b_8_3 {X : Nat × (Nat → Int32)} {d : Nat} {J : Nat → Nat → Int} {sw : Bool × Bool × Bool} {lg : Nat → Nat → Int64} {x : Nat} {K : (Option Value ⊕ Nat) → mM → Prop} {r0 r1 r2 r3 : Nat} {x4 x5 : Int} {o6 o7 : Option Value} (h0 : SH[r0]? = some (5, 9)) (h1 : SH[r1]? = some (11, 9)) (h2 : SH[r2]? = some (14, 12)) (h3 : SH[r3]? = some (8, 4)) (hd : 4 ≤ d)
    (h : InR x5 ∧ (100 ≤ x5 → VV X d 8 (33, [some (.ref r0), some (.ref r1), some (.ref r2), some (.ref r3), some (iv x4), some (iv 0), some (iv 0), o7], [], mj J sw lg x) K) ∧ (x5 < 100 → ((0 ≤ x5 ∧ x5 < 100) ∧ VV X d 8 (3, [some (.ref r0), some (.ref r1), some (.ref r2), some (.ref r3), some (iv x4), some (iv (x5 + 1)), o6, o7], [], mj (m_up J (r0 + 4) x5.toNat 0) sw lg x) K))) : VV X d 8 (3, [some (.ref r0), some (.ref r1), some (.ref r2), some (.ref r3), some (iv x4), some (iv x5), o6, o7], [], mj J sw lg x) K := by
  refine v_s mt_8 rfl rfl rfl ?_
  refine v_s mt_8 rfl rfl rfl ?_
  refine v_gr (w := (r0 + 4)) 5 mt_8 rfl rfl h0 (by decide) (g_0_5 h0) ?_
  refine j_len (e := 100) mt_8 rfl (shB r0 (SH_lt h0) h0).2.2.2 (by decide) rfl ?_
  obtain ⟨z1, h⟩ := h
  refine j_if2 mt_8 rfl rfl z1 ⟨by decide, by decide⟩ (fun c => ?_) (fun c => ?_)
  · replace h := h.1 c
    refine v_ic (v := Int32.ofInt 0) mt_8 rfl rfl ?_
    refine v_is (L' := [some (.ref r0), some (.ref r1), some (.ref r2), some (.ref r3), some (iv x4), some (iv 0), o6, o7]) mt_8 rfl (Nat.le_of_ble_eq_true rfl) rfl ?_
    refine v_ic (v := Int32.ofInt 0) mt_8 rfl rfl ?_
    refine v_is (L' := [some (.ref r0), some (.ref r1), some (.ref r2), some (.ref r3), some (iv x4), some (iv 0), some (iv 0), o7]) mt_8 rfl (Nat.le_of_ble_eq_true rfl) rfl ?_
    exact h
  · replace h := h.2 (Int.not_le.mp c)
    refine v_s mt_8 rfl rfl rfl ?_
    refine v_gr (w := (r0 + 4)) 5 mt_8 rfl rfl h0 (by decide) (g_0_5 h0) ?_
    refine v_s mt_8 rfl rfl rfl ?_
    refine v_ic (v := Int32.ofInt 0) mt_8 rfl rfl ?_
    obtain ⟨z2, h⟩ := h
    refine j_as mt_8 rfl (shB r0 (SH_lt h0) h0).2.2.2 z2 (by decide) ?_
    refine j_inc (e := x5 + 1) (L' := [some (.ref r0), some (.ref r1), some (.ref r2), some (.ref r3), some (iv x4), some (iv (x5 + 1)), o6, o7]) mt_8 rfl rfl (Nat.le_of_ble_eq_true rfl) rfl rfl ?_
    refine v_go mt_8 rfl rfl ?_
    exact h
set_option maxHeartbeats 600000 in
theorem b_8_33 {X : Nat × (Nat → Int32)} {d : Nat} {J : Nat → Nat → Int} {sw : Bool × Bool × Bool} {lg : Nat → Nat → Int64} {x : Nat} {K : (Option Value ⊕ Nat) → mM → Prop} {r0 r1 r2 r3 : Nat} {x4 x5 x6 : Int} {o7 : Option Value} (h0 : SH[r0]? = some (5, 9)) (h1 : SH[r1]? = some (11, 9)) (h2 : SH[r2]? = some (14, 12)) (h3 : SH[r3]? = some (8, 4)) (hd : 4 ≤ d)
    (h : InR x6 ∧ (36 ≤ x6 → K (.inl (some (iv x5))) (mj J sw lg x)) ∧ (x6 < 36 → ((0 ≤ x6 ∧ x6 < 36) ∧ InR (J (r0 + 3) x6.toNat) ∧ (J (r0 + 3) x6.toNat = 0 → VV X d 8 (33, [some (.ref r0), some (.ref r1), some (.ref r2), some (.ref r3), some (iv x4), some (iv x5), some (iv (x6 + 1)), o7], [], mj J sw lg x) K) ∧ (¬ J (r0 + 3) x6.toNat = 0 → ((0 ≤ x4 ∧ x4 < 9) ∧ ∃ (c2 : Int) (J1 : Nat → Nat → Int), EE X 2 48 [.ref r1, .ref r2, .ref r3, iv (bDiv x6 6), iv (bRem x6 6), iv x4] (mj J sw lg x) (.inl (some (iv c2))) (mj J1 sw lg x) ∧ InR ((J (r1 + 5) x4.toNat) - c2) ∧ InR (max 0 ((J (r1 + 5) x4.toNat) - c2)) ∧ (max 0 ((J (r1 + 5) x4.toNat) - c2) < 0 → VV X d 8 (33, [some (.ref r0), some (.ref r1), some (.ref r2), some (.ref r3), some (iv x4), some (iv x5), some (iv (x6 + 1)), some (iv (max 0 ((J (r1 + 5) x4.toNat) - c2)))], [], mj J1 sw lg x) K) ∧ (0 ≤ max 0 ((J (r1 + 5) x4.toNat) - c2) → ((100 ≤ max 0 ((J (r1 + 5) x4.toNat) - c2) → VV X d 8 (33, [some (.ref r0), some (.ref r1), some (.ref r2), some (.ref r3), some (iv x4), some (iv x5), some (iv (x6 + 1)), some (iv (max 0 ((J (r1 + 5) x4.toNat) - c2)))], [], mj J1 sw lg x) K) ∧ (max 0 ((J (r1 + 5) x4.toNat) - c2) < 100 → ((0 ≤ max 0 ((J (r1 + 5) x4.toNat) - c2) ∧ max 0 ((J (r1 + 5) x4.toNat) - c2) < 100) ∧ InR x5 ∧ InR ((J1 (r0 + 4) ((max 0 ((J (r1 + 5) x4.toNat) - c2)).toNat)) + 1) ∧ VV X d 8 (33, [some (.ref r0), some (.ref r1), some (.ref r2), some (.ref r3), some (iv x4), some (iv (max x5 ((J1 (r0 + 4) ((max 0 ((J (r1 + 5) x4.toNat) - c2)).toNat)) + 1))), some (iv (x6 + 1)), some (iv (max 0 ((J (r1 + 5) x4.toNat) - c2)))], [], mj (m_up J1 (r0 + 4) ((max 0 ((J (r1 + 5) x4.toNat) - c2)).toNat) ((J1 (r0 + 4) ((max 0 ((J (r1 + 5) x4.toNat) - c2)).toNat)) + 1)) sw lg x) K))))))))) : VV X d 8 (33, [some (.ref r0), some (.ref r1), some (.ref r2), some (.ref r3), some (iv x4), some (iv x5), some (iv x6), o7], [], mj J sw lg x) K := by
  refine v_s mt_8 rfl rfl rfl ?_
  refine v_s mt_8 rfl rfl rfl ?_
  refine v_gr (w := (r0 + 3)) 4 mt_8 rfl rfl h0 (by decide) (g_0_4 h0) ?_
  refine j_len (e := 36) mt_8 rfl (shB r0 (SH_lt h0) h0).2.2.1 (by decide) rfl ?_
  obtain ⟨z1, h⟩ := h
  refine j_if2 mt_8 rfl rfl z1 ⟨by decide, by decide⟩ (fun c => ?_) (fun c => ?_)
  · replace h := h.1 c
    refine v_s mt_8 rfl rfl rfl ?_
    exact v_ret mt_8 rfl rfl rfl h
  · replace h := h.2 (Int.not_le.mp c)
    refine v_s mt_8 rfl rfl rfl ?_
    refine v_gr (w := (r0 + 3)) 4 mt_8 rfl rfl h0 (by decide) (g_0_4 h0) ?_
    refine v_s mt_8 rfl rfl rfl ?_
    obtain ⟨z2, h⟩ := h
    refine j_bl (w := J (r0 + 3) x6.toNat) mt_8 rfl (shB r0 (SH_lt h0) h0).2.2.1 z2 (by decide) rfl ?_
    obtain ⟨z3, h⟩ := h
    refine j_if1 mt_8 rfl rfl z3 (fun c => ?_) (fun c => ?_)
    · replace h := h.1 c
      refine j_inc (e := x6 + 1) (L' := [some (.ref r0), some (.ref r1), some (.ref r2), some (.ref r3), some (iv x4), some (iv x5), some (iv (x6 + 1)), o7]) mt_8 rfl rfl (Nat.le_of_ble_eq_true rfl) rfl rfl ?_
      refine v_go mt_8 rfl rfl ?_
      exact h
    · replace h := h.2 c
      refine v_s mt_8 rfl rfl rfl ?_
      refine v_s mt_8 rfl rfl rfl ?_
      refine v_s mt_8 rfl rfl rfl ?_
      refine v_s mt_8 rfl rfl rfl ?_
      refine v_bp (v := Int32.ofInt 6) mt_8 rfl rfl ?_
      refine j_div (e := bDiv x6 6) mt_8 rfl ⟨by decide, by decide⟩ (by decide) rfl ?_
      refine v_s mt_8 rfl rfl rfl ?_
      refine v_bp (v := Int32.ofInt 6) mt_8 rfl rfl ?_
      refine j_rem (e := bRem x6 6) mt_8 rfl ⟨by decide, by decide⟩ (by decide) rfl ?_
      refine v_s mt_8 rfl rfl rfl ?_
      refine v_inl (L1 := [some (.ref r1), some (.ref r2), some (.ref r3), some (iv (bDiv x6 6)), some (iv (bRem x6 6)), some (iv x4)]) mt_8 rfl rfl mt_49 rfl rfl (m_callj (As := [.ref r2, .ref r3, iv (bDiv x6 6), iv (bRem x6 6), iv x4]) (rest := []) rfl rfl h1 rfl (Nat.le_of_ble_eq_true rfl) (Nat.le_of_ble_eq_true rfl)) rfl (by clear h; omega) ?_
      refine v_ic (v := Int32.ofInt 0) mt_49 rfl rfl ?_
      refine v_s mt_49 rfl rfl rfl ?_
      refine v_gr (w := (r1 + 5)) 4 mt_49 rfl rfl h1 (by decide) (g_6_4 h1) ?_
      refine v_s mt_49 rfl rfl rfl ?_
      obtain ⟨z4, h⟩ := h
      refine j_al (w := J (r1 + 5) x4.toNat) mt_49 rfl (shS r1 (SH_lt h1) h1).2.2.2.2.1 z4 (by decide) rfl ?_
      refine v_s mt_49 rfl rfl rfl ?_
      refine v_s mt_49 rfl rfl rfl ?_
      refine v_s mt_49 rfl rfl rfl ?_
      refine v_s mt_49 rfl rfl rfl ?_
      refine v_s mt_49 rfl rfl rfl ?_
      refine v_s mt_49 rfl rfl rfl ?_
      obtain ⟨c2, J1, z5, h⟩ := h
      refine v_call (d1 := 2) mt_49 rfl rfl mt_48 rfl rfl (m_callj (As := [.ref r2, .ref r3, iv (bDiv x6 6), iv (bRem x6 6), iv x4]) (rest := [iv (J (r1 + 5) x4.toNat), iv 0]) rfl rfl h1 rfl (Nat.le_of_ble_eq_true rfl) (Nat.le_of_ble_eq_true rfl)) z5 (by clear h; omega) ?_
      refine j_sub (e := (J (r1 + 5) x4.toNat) - c2) mt_49 rfl rfl ?_
      obtain ⟨z6, h⟩ := h
      refine j_max mt_49 rfl (Nat.le_of_ble_eq_true rfl) ⟨by decide, by decide⟩ z6 ?_
      refine v_ret mt_49 rfl rfl rfl ?_
      refine v_is (L' := [some (.ref r0), some (.ref r1), some (.ref r2), some (.ref r3), some (iv x4), some (iv x5), some (iv x6), some (iv (max 0 ((J (r1 + 5) x4.toNat) - c2)))]) mt_8 rfl (Nat.le_of_ble_eq_true rfl) rfl ?_
      refine v_s mt_8 rfl rfl rfl ?_
      obtain ⟨z7, h⟩ := h
      refine j_if1 mt_8 rfl rfl z7 (fun c => ?_) (fun c => ?_)
      · replace h := h.1 c
        refine j_inc (e := x6 + 1) (L' := [some (.ref r0), some (.ref r1), some (.ref r2), some (.ref r3), some (iv x4), some (iv x5), some (iv (x6 + 1)), some (iv (max 0 ((J (r1 + 5) x4.toNat) - c2)))]) mt_8 rfl rfl (Nat.le_of_ble_eq_true rfl) rfl rfl ?_
        refine v_go mt_8 rfl rfl ?_
        exact h
      · replace h := h.2 (Int.not_lt.mp c)
        refine v_s mt_8 rfl rfl rfl ?_
        refine v_s mt_8 rfl rfl rfl ?_
        refine v_gr (w := (r0 + 4)) 5 mt_8 rfl rfl h0 (by decide) (g_0_5 h0) ?_
        refine j_len (e := 100) mt_8 rfl (shB r0 (SH_lt h0) h0).2.2.2 (by decide) rfl ?_
        refine j_if2 mt_8 rfl rfl z7 ⟨by decide, by decide⟩ (fun c => ?_) (fun c => ?_)
        · replace h := h.1 c
          refine j_inc (e := x6 + 1) (L' := [some (.ref r0), some (.ref r1), some (.ref r2), some (.ref r3), some (iv x4), some (iv x5), some (iv (x6 + 1)), some (iv (max 0 ((J (r1 + 5) x4.toNat) - c2)))]) mt_8 rfl rfl (Nat.le_of_ble_eq_true rfl) rfl rfl ?_
          refine v_go mt_8 rfl rfl ?_
          exact h
        · replace h := h.2 (Int.not_le.mp c)
          refine v_s mt_8 rfl rfl rfl ?_
          refine v_gr (w := (r0 + 4)) 5 mt_8 rfl rfl h0 (by decide) (g_0_5 h0) ?_
          refine v_s mt_8 rfl rfl rfl ?_
          refine v_s mt_8 rfl rfl rfl ?_
          obtain ⟨z8, h⟩ := h
          refine j_al (w := J1 (r0 + 4) ((max 0 ((J (r1 + 5) x4.toNat) - c2)).toNat)) mt_8 rfl (shB r0 (SH_lt h0) h0).2.2.2 z8 (by decide) rfl ?_
          refine v_ic (v := Int32.ofInt 1) mt_8 rfl rfl ?_
          refine j_add (e := (J1 (r0 + 4) ((max 0 ((J (r1 + 5) x4.toNat) - c2)).toNat)) + 1) mt_8 rfl rfl ?_
          refine j_as mt_8 rfl (shB r0 (SH_lt h0) h0).2.2.2 z8 (by decide) ?_
          refine v_s mt_8 rfl rfl rfl ?_
          refine v_s mt_8 rfl rfl rfl ?_
          refine v_gr (w := (r0 + 4)) 5 mt_8 rfl rfl h0 (by decide) (g_0_5 h0) ?_
          refine v_s mt_8 rfl rfl rfl ?_
          refine j_al (w := (J1 (r0 + 4) ((max 0 ((J (r1 + 5) x4.toNat) - c2)).toNat)) + 1) mt_8 rfl (shB r0 (SH_lt h0) h0).2.2.2 z8 (by decide) (up_eq _ _ _ _) ?_
          obtain ⟨z9, h⟩ := h
          obtain ⟨z10, h⟩ := h
          refine j_max mt_8 rfl (Nat.le_of_ble_eq_true rfl) z9 z10 ?_
          refine v_is (L' := [some (.ref r0), some (.ref r1), some (.ref r2), some (.ref r3), some (iv x4), some (iv (max x5 ((J1 (r0 + 4) ((max 0 ((J (r1 + 5) x4.toNat) - c2)).toNat)) + 1))), some (iv x6), some (iv (max 0 ((J (r1 + 5) x4.toNat) - c2)))]) mt_8 rfl (Nat.le_of_ble_eq_true rfl) rfl ?_
          refine j_inc (e := x6 + 1) (L' := [some (.ref r0), some (.ref r1), some (.ref r2), some (.ref r3), some (iv x4), some (iv (max x5 ((J1 (r0 + 4) ((max 0 ((J (r1 + 5) x4.toNat) - c2)).toNat)) + 1))), some (iv (x6 + 1)), some (iv (max 0 ((J (r1 + 5) x4.toNat) - c2)))]) mt_8 rfl rfl (Nat.le_of_ble_eq_true rfl) rfl rfl ?_
          refine v_go mt_8 rfl rfl ?_
          exact h
set_option maxHeartbeats 600000 in
theorem b_251_0 {X : Nat × (Nat → Int32)} {d : Nat} {J : Nat → Nat → Int} {sw : Bool × Bool × Bool} {lg : Nat → Nat → Int64} {x : Nat} {K : (Option Value ⊕ Nat) → mM → Prop} {x1 x2 x3 : Int} (hd : 5 ≤ d)
    (h : (0 ≤ 30 + x3 ∧ 30 + x3 < 50) ∧ ∃ (c2 : Int) (J1 : Nat → Nat → Int), EE X 4 207 [.ref 542, iv x1, iv x2, iv x3] (mj J sw lg x) (.inl (some (iv c2))) (mj J1 sw lg x) ∧ ∃ (c4 : Int) (J3 : Nat → Nat → Int), EE X 0 210 [iv ((J 562 ((30 + x3).toNat)) - c2)] (mj J1 sw lg x) (.inl (some (iv c4))) (mj J3 sw lg x) ∧ K (.inl (some (iv c4))) (mj J3 sw lg x)) : VV X d 251 (0, [some (.ref 542), some (iv x1), some (iv x2), some (iv x3)], [], mj J sw lg x) K := by
  refine v_s mt_251 rfl rfl rfl ?_
  refine v_gr (w := 562) 46 mt_251 rfl rfl c_542 (by decide) (g_12_46 c_542) ?_
  refine v_bp (v := Int32.ofInt 30) mt_251 rfl rfl ?_
  refine v_s mt_251 rfl rfl rfl ?_
  refine j_add (e := 30 + x3) mt_251 rfl rfl ?_
  obtain ⟨z1, h⟩ := h
  refine j_al (w := J 562 ((30 + x3).toNat)) mt_251 rfl c_562 z1 (by decide) rfl ?_
  refine v_s mt_251 rfl rfl rfl ?_
  refine v_s mt_251 rfl rfl rfl ?_
  refine v_s mt_251 rfl rfl rfl ?_
  refine v_s mt_251 rfl rfl rfl ?_
  obtain ⟨c2, J1, z2, h⟩ := h
  refine v_call (d1 := 4) mt_251 rfl rfl mt_207 rfl rfl (m_callj (As := [iv x1, iv x2, iv x3]) (rest := [iv (J 562 ((30 + x3).toNat))]) rfl rfl c_542 rfl (Nat.le_of_ble_eq_true rfl) (Nat.le_of_ble_eq_true rfl)) z2 (by clear h; omega) ?_
  refine j_sub (e := (J 562 ((30 + x3).toNat)) - c2) mt_251 rfl rfl ?_
  obtain ⟨c4, J3, z3, h⟩ := h
  refine v_call (d1 := 0) mt_251 rfl rfl mt_210 rfl rfl rfl z3 (by clear h; omega) ?_
  exact v_ret mt_251 rfl rfl rfl h
set_option maxHeartbeats 600000 in
theorem b_252_0 {X : Nat × (Nat → Int32)} {d : Nat} {J : Nat → Nat → Int} {sw : Bool × Bool × Bool} {lg : Nat → Nat → Int64} {x : Nat} {K : (Option Value ⊕ Nat) → mM → Prop} {x1 x2 : Int} {o3 o4 : Option Value} (hd : 6 ≤ d)
    (h : VV X d 252 (5, [some (.ref 542), some (iv x1), some (iv x2), some (iv 1), some (iv 0)], [], mj J sw lg x) K) : VV X d 252 (0, [some (.ref 542), some (iv x1), some (iv x2), o3, o4], [], mj J sw lg x) K := by
  refine v_ic (v := Int32.ofInt 1) mt_252 rfl rfl ?_
  refine v_isn (L' := [some (.ref 542), some (iv x1), some (iv x2), some (iv 1), o4]) mt_252 rfl (Nat.le_of_ble_eq_true rfl) rfl ?_
  refine v_ic (v := Int32.ofInt 0) mt_252 rfl rfl ?_
  refine v_is (L' := [some (.ref 542), some (iv x1), some (iv x2), some (iv 1), some (iv 0)]) mt_252 rfl (Nat.le_of_ble_eq_true rfl) rfl ?_
  exact h
set_option maxHeartbeats 600000 in
theorem b_252_5 {X : Nat × (Nat → Int32)} {d : Nat} {J : Nat → Nat → Int} {sw : Bool × Bool × Bool} {lg : Nat → Nat → Int64} {x : Nat} {K : (Option Value ⊕ Nat) → mM → Prop} {x1 x2 x3 x4 : Int} (hd : 6 ≤ d)
    (h : InR x4 ∧ InR (J 542 26) ∧ (J 542 26 ≤ x4 → ((x3 = 0 ∨ x3 = 1) ∧ K (.inl (some (iv x3))) (mj J sw lg x))) ∧ (x4 < J 542 26 → (InR x3 ∧ (x3 = 0 → VV X d 252 (5, [some (.ref 542), some (iv x1), some (iv x2), some (iv 0), some (iv (x4 + 1))], [], mj J sw lg x) K) ∧ (¬ x3 = 0 → ((0 ≤ x4 ∧ x4 < 9) ∧ InR (J 565 x4.toNat) ∧ (J 565 x4.toNat = (-1) → VV X d 252 (5, [some (.ref 542), some (iv x1), some (iv x2), some (iv 1), some (iv (x4 + 1))], [], mj J sw lg x) K) ∧ (¬ J 565 x4.toNat = (-1) → (∃ (c2 : Int) (J1 : Nat → Nat → Int), EE X 5 251 [.ref 542, iv x1, iv x2, iv x4] (mj J sw lg x) (.inl (some (iv c2))) (mj J1 sw lg x) ∧ InR c2 ∧ InR (J1 565 x4.toNat) ∧ (¬ c2 = J1 565 x4.toNat → VV X d 252 (5, [some (.ref 542), some (iv x1), some (iv x2), some (iv 0), some (iv (x4 + 1))], [], mj J1 sw lg x) K) ∧ (c2 = J1 565 x4.toNat → VV X d 252 (5, [some (.ref 542), some (iv x1), some (iv x2), some (iv 1), some (iv (x4 + 1))], [], mj J1 sw lg x) K)))))))) : VV X d 252 (5, [some (.ref 542), some (iv x1), some (iv x2), some (iv x3), some (iv x4)], [], mj J sw lg x) K := by
  refine v_s mt_252 rfl rfl rfl ?_
  refine v_s mt_252 rfl rfl rfl ?_
  refine j_gi (w := J 542 26) 26 mt_252 rfl rfl c_542 (by decide) rfl ?_
  obtain ⟨z1, h⟩ := h
  obtain ⟨z2, h⟩ := h
  refine j_if2 mt_252 rfl rfl z1 z2 (fun c => ?_) (fun c => ?_)
  · replace h := h.1 c
    refine v_s mt_252 rfl rfl rfl ?_
    obtain ⟨z3, h⟩ := h
    exact j_retb mt_252 rfl rfl z3 h
  · replace h := h.2 (Int.not_le.mp c)
    refine v_s mt_252 rfl rfl rfl ?_
    obtain ⟨z4, h⟩ := h
    refine j_if1 mt_252 rfl rfl z4 (fun c => ?_) (fun c => ?_)
    · replace h := h.1 c
      refine v_ic (v := Int32.ofInt 0) mt_252 rfl rfl ?_
      refine v_isn (L' := [some (.ref 542), some (iv x1), some (iv x2), some (iv 0), some (iv x4)]) mt_252 rfl (Nat.le_of_ble_eq_true rfl) rfl ?_
      refine j_inc (e := x4 + 1) (L' := [some (.ref 542), some (iv x1), some (iv x2), some (iv 0), some (iv (x4 + 1))]) mt_252 rfl rfl (Nat.le_of_ble_eq_true rfl) rfl rfl ?_
      refine v_go mt_252 rfl rfl ?_
      exact h
    · replace h := h.2 c
      refine v_s mt_252 rfl rfl rfl ?_
      refine v_gr (w := 565) 49 mt_252 rfl rfl c_542 (by decide) (g_12_49 c_542) ?_
      refine v_s mt_252 rfl rfl rfl ?_
      obtain ⟨z5, h⟩ := h
      refine j_al (w := J 565 x4.toNat) mt_252 rfl c_565 z5 (by decide) rfl ?_
      refine v_ic (v := Int32.ofInt (-1)) mt_252 rfl rfl ?_
      obtain ⟨z6, h⟩ := h
      refine j_if2 mt_252 rfl rfl z6 ⟨by decide, by decide⟩ (fun c => ?_) (fun c => ?_)
      · replace h := h.1 c
        refine v_ic (v := Int32.ofInt 1) mt_252 rfl rfl ?_
        refine v_go mt_252 rfl rfl ?_
        refine v_isn (L' := [some (.ref 542), some (iv x1), some (iv x2), some (iv 1), some (iv x4)]) mt_252 rfl (Nat.le_of_ble_eq_true rfl) rfl ?_
        refine j_inc (e := x4 + 1) (L' := [some (.ref 542), some (iv x1), some (iv x2), some (iv 1), some (iv (x4 + 1))]) mt_252 rfl rfl (Nat.le_of_ble_eq_true rfl) rfl rfl ?_
        refine v_go mt_252 rfl rfl ?_
        exact h
      · replace h := h.2 c
        refine v_s mt_252 rfl rfl rfl ?_
        refine v_s mt_252 rfl rfl rfl ?_
        refine v_s mt_252 rfl rfl rfl ?_
        refine v_s mt_252 rfl rfl rfl ?_
        obtain ⟨c2, J1, z7, h⟩ := h
        refine v_call (d1 := 5) mt_252 rfl rfl mt_251 rfl rfl (m_callj (As := [iv x1, iv x2, iv x4]) (rest := []) rfl rfl c_542 rfl (Nat.le_of_ble_eq_true rfl) (Nat.le_of_ble_eq_true rfl)) z7 (by clear h; omega) ?_
        refine v_s mt_252 rfl rfl rfl ?_
        refine v_gr (w := 565) 49 mt_252 rfl rfl c_542 (by decide) (g_12_49 c_542) ?_
        refine v_s mt_252 rfl rfl rfl ?_
        refine j_al (w := J1 565 x4.toNat) mt_252 rfl c_565 z5 (by decide) rfl ?_
        obtain ⟨z8, h⟩ := h
        obtain ⟨z9, h⟩ := h
        refine j_if2 mt_252 rfl rfl z8 z9 (fun c => ?_) (fun c => ?_)
        · replace h := h.1 c
          refine v_ic (v := Int32.ofInt 0) mt_252 rfl rfl ?_
          refine v_isn (L' := [some (.ref 542), some (iv x1), some (iv x2), some (iv 0), some (iv x4)]) mt_252 rfl (Nat.le_of_ble_eq_true rfl) rfl ?_
          refine j_inc (e := x4 + 1) (L' := [some (.ref 542), some (iv x1), some (iv x2), some (iv 0), some (iv (x4 + 1))]) mt_252 rfl rfl (Nat.le_of_ble_eq_true rfl) rfl rfl ?_
          refine v_go mt_252 rfl rfl ?_
          exact h
        · replace h := h.2 (Decidable.not_not.mp c)
          refine v_ic (v := Int32.ofInt 1) mt_252 rfl rfl ?_
          refine v_go mt_252 rfl rfl ?_
          refine v_isn (L' := [some (.ref 542), some (iv x1), some (iv x2), some (iv 1), some (iv x4)]) mt_252 rfl (Nat.le_of_ble_eq_true rfl) rfl ?_
          refine j_inc (e := x4 + 1) (L' := [some (.ref 542), some (iv x1), some (iv x2), some (iv 1), some (iv (x4 + 1))]) mt_252 rfl rfl (Nat.le_of_ble_eq_true rfl) rfl rfl ?_
          refine v_go mt_252 rfl rfl ?_
          exact h
set_option maxHeartbeats 600000 in
theorem b_253_0 {X : Nat × (Nat → Int32)} {d : Nat} {J : Nat → Nat → Int} {sw : Bool × Bool × Bool} {lg : Nat → Nat → Int64} {x : Nat} {K : (Option Value ⊕ Nat) → mM → Prop} {x1 : Int} {o2 o3 o4 o5 : Option Value} (hd : 7 ≤ d)
    (h : InR x1 ∧ (x1 < 0 → K (.inl (some (iv 0))) (mj (m_up (m_up (m_up J 542 0 0) 542 0 1) 543 1 ((J 543 1) + 1)) sw lg x)) ∧ (0 ≤ x1 → ((1 < x1 → K (.inl (some (iv 0))) (mj (m_up (m_up (m_up J 542 0 0) 542 0 1) 543 1 ((J 543 1) + 1)) sw lg x)) ∧ (x1 ≤ 1 → (∃ (J1 : Nat → Nat → Int), EE X 1 204 [.ref 542] (mj (m_up J 542 0 0) sw lg x) (.inl none) (mj J1 sw lg x) ∧ VV X d 253 (33, [some (.ref 542), some (iv x1), some (iv 0), some (iv (-1)), some (iv 0), o5], [], mj J1 sw lg x) K))))) : VV X d 253 (0, [some (.ref 542), some (iv x1), o2, o3, o4, o5], [], mj J sw lg x) K := by
  refine v_s mt_253 rfl rfl rfl ?_
  refine v_ic (v := Int32.ofInt 0) mt_253 rfl rfl ?_
  refine j_pi 0 mt_253 rfl rfl c_542 (by decide) ?_
  refine v_s mt_253 rfl rfl rfl ?_
  refine v_s mt_253 rfl rfl rfl ?_
  refine v_ic (v := Int32.ofInt 0) mt_253 rfl rfl ?_
  refine v_ic (v := Int32.ofInt 1) mt_253 rfl rfl ?_
  refine v_inl (L1 := [some (iv x1), some (iv 0), some (iv 1)]) mt_253 rfl rfl mt_162 rfl rfl rfl rfl (by clear h; omega) ?_
  refine v_s mt_162 rfl rfl rfl ?_
  refine v_s mt_162 rfl rfl rfl ?_
  obtain ⟨z1, h⟩ := h
  refine j_if2 mt_162 rfl rfl z1 ⟨by decide, by decide⟩ (fun c => ?_) (fun c => ?_)
  · replace h := h.1 c
    refine v_ic (v := Int32.ofInt 0) mt_162 rfl rfl ?_
    refine j_retb mt_162 rfl rfl (by decide) ?_
    refine v_ic (v := Int32.ofInt 1) mt_253 rfl rfl ?_
    refine v_ic (v := Int32.ofInt 1) mt_253 rfl rfl ?_
    refine v_inl (L1 := [some (.ref 542), some (iv 0), some (iv 1), some (iv 1)]) mt_253 rfl rfl mt_161 rfl rfl (m_callj (As := [iv 0, iv 1, iv 1]) (rest := []) rfl rfl c_542 rfl (Nat.le_of_ble_eq_true rfl) (Nat.le_of_ble_eq_true rfl)) rfl (by clear h; omega) ?_
    refine v_s mt_161 rfl rfl rfl ?_
    refine j_if1 mt_161 rfl rfl ⟨by decide, by decide⟩ (fun c => absurd (show ¬ (0 : Int) = 0 from c) (by decide)) (fun _ => ?_)
    refine v_s mt_161 rfl rfl rfl ?_
    refine j_gi (w := 0) 0 mt_161 rfl rfl c_542 (by decide) (up_eq _ _ _ _) ?_
    refine j_if1 mt_161 rfl rfl ⟨by decide, by decide⟩ (fun c => absurd (show ¬ (0 : Int) = 0 from c) (by decide)) (fun _ => ?_)
    refine v_s mt_161 rfl rfl rfl ?_
    refine v_s mt_161 rfl rfl rfl ?_
    refine j_pi 0 mt_161 rfl rfl c_542 (by decide) ?_
    refine v_s mt_161 rfl rfl rfl ?_
    refine v_gr (w := 543) 1 mt_161 rfl rfl c_542 (by decide) (g_12_1 c_542) ?_
    refine v_s mt_161 rfl rfl rfl ?_
    refine v_s mt_161 rfl rfl rfl ?_
    refine j_al (w := J 543 1) mt_161 rfl c_543 ⟨by decide, by decide⟩ (by decide) ((up_na (by decide)).trans ((up_na (by decide)).trans rfl)) ?_
    refine v_ic (v := Int32.ofInt 1) mt_161 rfl rfl ?_
    refine j_add (e := (J 543 1) + 1) mt_161 rfl rfl ?_
    refine j_as mt_161 rfl c_543 ⟨by decide, by decide⟩ (by decide) ?_
    refine v_s mt_161 rfl rfl rfl ?_
    refine j_gi (w := 1) 0 mt_161 rfl rfl c_542 (by decide) ((up_na (by decide)).trans (up_eq _ _ _ _)) ?_
    refine j_if1 mt_161 rfl rfl ⟨by decide, by decide⟩ (fun _ => ?_) (fun c => (c (show ¬ (1 : Int) = 0 by decide)).elim)
    refine v_ic (v := Int32.ofInt 0) mt_161 rfl rfl ?_
    refine j_retb mt_161 rfl rfl (by decide) ?_
    refine j_if1 mt_253 rfl rfl ⟨by decide, by decide⟩ (fun c => absurd (show ¬ (0 : Int) = 0 from c) (by decide)) (fun _ => ?_)
    refine v_ic (v := Int32.ofInt 0) mt_253 rfl rfl ?_
    exact v_ret mt_253 rfl rfl rfl h
  · replace h := h.2 (Int.not_lt.mp c)
    refine v_s mt_162 rfl rfl rfl ?_
    refine v_s mt_162 rfl rfl rfl ?_
    refine j_if2 mt_162 rfl rfl z1 ⟨by decide, by decide⟩ (fun c => ?_) (fun c => ?_)
    · replace h := h.1 c
      refine v_ic (v := Int32.ofInt 0) mt_162 rfl rfl ?_
      refine j_retb mt_162 rfl rfl (by decide) ?_
      refine v_ic (v := Int32.ofInt 1) mt_253 rfl rfl ?_
      refine v_ic (v := Int32.ofInt 1) mt_253 rfl rfl ?_
      refine v_inl (L1 := [some (.ref 542), some (iv 0), some (iv 1), some (iv 1)]) mt_253 rfl rfl mt_161 rfl rfl (m_callj (As := [iv 0, iv 1, iv 1]) (rest := []) rfl rfl c_542 rfl (Nat.le_of_ble_eq_true rfl) (Nat.le_of_ble_eq_true rfl)) rfl (by clear h; omega) ?_
      refine v_s mt_161 rfl rfl rfl ?_
      refine j_if1 mt_161 rfl rfl ⟨by decide, by decide⟩ (fun c => absurd (show ¬ (0 : Int) = 0 from c) (by decide)) (fun _ => ?_)
      refine v_s mt_161 rfl rfl rfl ?_
      refine j_gi (w := 0) 0 mt_161 rfl rfl c_542 (by decide) (up_eq _ _ _ _) ?_
      refine j_if1 mt_161 rfl rfl ⟨by decide, by decide⟩ (fun c => absurd (show ¬ (0 : Int) = 0 from c) (by decide)) (fun _ => ?_)
      refine v_s mt_161 rfl rfl rfl ?_
      refine v_s mt_161 rfl rfl rfl ?_
      refine j_pi 0 mt_161 rfl rfl c_542 (by decide) ?_
      refine v_s mt_161 rfl rfl rfl ?_
      refine v_gr (w := 543) 1 mt_161 rfl rfl c_542 (by decide) (g_12_1 c_542) ?_
      refine v_s mt_161 rfl rfl rfl ?_
      refine v_s mt_161 rfl rfl rfl ?_
      refine j_al (w := J 543 1) mt_161 rfl c_543 ⟨by decide, by decide⟩ (by decide) ((up_na (by decide)).trans ((up_na (by decide)).trans rfl)) ?_
      refine v_ic (v := Int32.ofInt 1) mt_161 rfl rfl ?_
      refine j_add (e := (J 543 1) + 1) mt_161 rfl rfl ?_
      refine j_as mt_161 rfl c_543 ⟨by decide, by decide⟩ (by decide) ?_
      refine v_s mt_161 rfl rfl rfl ?_
      refine j_gi (w := 1) 0 mt_161 rfl rfl c_542 (by decide) ((up_na (by decide)).trans (up_eq _ _ _ _)) ?_
      refine j_if1 mt_161 rfl rfl ⟨by decide, by decide⟩ (fun _ => ?_) (fun c => (c (show ¬ (1 : Int) = 0 by decide)).elim)
      refine v_ic (v := Int32.ofInt 0) mt_161 rfl rfl ?_
      refine j_retb mt_161 rfl rfl (by decide) ?_
      refine j_if1 mt_253 rfl rfl ⟨by decide, by decide⟩ (fun c => absurd (show ¬ (0 : Int) = 0 from c) (by decide)) (fun _ => ?_)
      refine v_ic (v := Int32.ofInt 0) mt_253 rfl rfl ?_
      exact v_ret mt_253 rfl rfl rfl h
    · replace h := h.2 (Int.not_lt.mp c)
      refine v_ic (v := Int32.ofInt 1) mt_162 rfl rfl ?_
      refine v_go mt_162 rfl rfl ?_
      refine j_retb mt_162 rfl rfl (by decide) ?_
      refine v_ic (v := Int32.ofInt 1) mt_253 rfl rfl ?_
      refine v_ic (v := Int32.ofInt 1) mt_253 rfl rfl ?_
      refine v_inl (L1 := [some (.ref 542), some (iv 1), some (iv 1), some (iv 1)]) mt_253 rfl rfl mt_161 rfl rfl (m_callj (As := [iv 1, iv 1, iv 1]) (rest := []) rfl rfl c_542 rfl (Nat.le_of_ble_eq_true rfl) (Nat.le_of_ble_eq_true rfl)) rfl (by clear h; omega) ?_
      refine v_s mt_161 rfl rfl rfl ?_
      refine j_if1 mt_161 rfl rfl ⟨by decide, by decide⟩ (fun _ => ?_) (fun c => (c (show ¬ (1 : Int) = 0 by decide)).elim)
      refine v_s mt_161 rfl rfl rfl ?_
      refine j_gi (w := 0) 0 mt_161 rfl rfl c_542 (by decide) (up_eq _ _ _ _) ?_
      refine j_if1 mt_161 rfl rfl ⟨by decide, by decide⟩ (fun c => absurd (show ¬ (0 : Int) = 0 from c) (by decide)) (fun _ => ?_)
      refine v_ic (v := Int32.ofInt 1) mt_161 rfl rfl ?_
      refine v_go mt_161 rfl rfl ?_
      refine j_retb mt_161 rfl rfl (by decide) ?_
      refine j_if1 mt_253 rfl rfl ⟨by decide, by decide⟩ (fun _ => ?_) (fun c => (c (show ¬ (1 : Int) = 0 by decide)).elim)
      refine v_s mt_253 rfl rfl rfl ?_
      obtain ⟨J1, z2, h⟩ := h
      refine v_call (d1 := 1) mt_253 rfl rfl mt_204 rfl rfl (m_callj (As := []) (rest := []) rfl rfl c_542 rfl (Nat.le_of_ble_eq_true rfl) (Nat.le_of_ble_eq_true rfl)) z2 (by clear h; omega) ?_
      refine v_ic (v := Int32.ofInt 0) mt_253 rfl rfl ?_
      refine v_isn (L' := [some (.ref 542), some (iv x1), some (iv 0), o3, o4, o5]) mt_253 rfl (Nat.le_of_ble_eq_true rfl) rfl ?_
      refine v_ic (v := Int32.ofInt (-1)) mt_253 rfl rfl ?_
      refine v_isn (L' := [some (.ref 542), some (iv x1), some (iv 0), some (iv (-1)), o4, o5]) mt_253 rfl (Nat.le_of_ble_eq_true rfl) rfl ?_
      refine v_ic (v := Int32.ofInt 0) mt_253 rfl rfl ?_
      refine v_is (L' := [some (.ref 542), some (iv x1), some (iv 0), some (iv (-1)), some (iv 0), o5]) mt_253 rfl (Nat.le_of_ble_eq_true rfl) rfl ?_
      exact h
set_option maxHeartbeats 600000 in
theorem b_253_33 {X : Nat × (Nat → Int32)} {d : Nat} {J : Nat → Nat → Int} {sw : Bool × Bool × Bool} {lg : Nat → Nat → Int64} {x : Nat} {K : (Option Value ⊕ Nat) → mM → Prop} {x1 x2 x3 x4 : Int} {o5 : Option Value} (hd : 7 ≤ d)
    (h : InR x4 ∧ InR (J 542 25) ∧ (J 542 25 ≤ x4 → (InR x1 ∧ (¬ x1 = 0 → K (.inl (some (iv x3))) (mj J sw lg x)) ∧ (x1 = 0 → K (.inl (some (iv x2))) (mj J sw lg x)))) ∧ (x4 < J 542 25 → VV X d 253 (45, [some (.ref 542), some (iv x1), some (iv x2), some (iv x3), some (iv x4), some (iv 0)], [], mj J sw lg x) K)) : VV X d 253 (33, [some (.ref 542), some (iv x1), some (iv x2), some (iv x3), some (iv x4), o5], [], mj J sw lg x) K := by
  refine v_s mt_253 rfl rfl rfl ?_
  refine v_s mt_253 rfl rfl rfl ?_
  refine j_gi (w := J 542 25) 25 mt_253 rfl rfl c_542 (by decide) rfl ?_
  obtain ⟨z1, h⟩ := h
  obtain ⟨z2, h⟩ := h
  refine j_if2 mt_253 rfl rfl z1 z2 (fun c => ?_) (fun c => ?_)
  · replace h := h.1 c
    refine v_s mt_253 rfl rfl rfl ?_
    obtain ⟨z3, h⟩ := h
    refine j_if1 mt_253 rfl rfl z3 (fun c => ?_) (fun c => ?_)
    · replace h := h.1 c
      refine v_s mt_253 rfl rfl rfl ?_
      exact v_ret mt_253 rfl rfl rfl h
    · replace h := h.2 (Decidable.not_not.mp c)
      refine v_s mt_253 rfl rfl rfl ?_
      refine v_go mt_253 rfl rfl ?_
      exact v_ret mt_253 rfl rfl rfl h
  · replace h := h.2 (Int.not_le.mp c)
    refine v_ic (v := Int32.ofInt 0) mt_253 rfl rfl ?_
    refine v_is (L' := [some (.ref 542), some (iv x1), some (iv x2), some (iv x3), some (iv x4), some (iv 0)]) mt_253 rfl (Nat.le_of_ble_eq_true rfl) rfl ?_
    exact h
set_option maxHeartbeats 600000 in
theorem b_253_45 {X : Nat × (Nat → Int32)} {d : Nat} {J : Nat → Nat → Int} {sw : Bool × Bool × Bool} {lg : Nat → Nat → Int64} {x : Nat} {K : (Option Value ⊕ Nat) → mM → Prop} {x1 x2 x3 x4 x5 : Int} (hd : 7 ≤ d)
    (h : InR x5 ∧ InR (J 542 24) ∧ (J 542 24 ≤ x5 → VV X d 253 (33, [some (.ref 542), some (iv x1), some (iv x2), some (iv x3), some (iv (x4 + 1)), some (iv x5)], [], mj J sw lg x) K) ∧ (x5 < J 542 24 → (∃ (c2 : Int) (J1 : Nat → Nat → Int), EE X 6 252 [.ref 542, iv x4, iv x5] (mj J sw lg x) (.inl (some (iv c2))) (mj J1 sw lg x) ∧ InR c2 ∧ (¬ c2 = 0 → (InR x3 ∧ (¬ x3 = (-1) → VV X d 253 (45, [some (.ref 542), some (iv x1), some (iv (x2 + 1)), some (iv x3), some (iv x4), some (iv (x5 + 1))], [], mj J1 sw lg x) K) ∧ (x3 = (-1) → VV X d 253 (45, [some (.ref 542), some (iv x1), some (iv (x2 + 1)), some (iv ((10 * x4) + x5)), some (iv x4), some (iv (x5 + 1))], [], mj J1 sw lg x) K))) ∧ (c2 = 0 → VV X d 253 (45, [some (.ref 542), some (iv x1), some (iv x2), some (iv x3), some (iv x4), some (iv (x5 + 1))], [], mj J1 sw lg x) K)))) : VV X d 253 (45, [some (.ref 542), some (iv x1), some (iv x2), some (iv x3), some (iv x4), some (iv x5)], [], mj J sw lg x) K := by
  refine v_s mt_253 rfl rfl rfl ?_
  refine v_s mt_253 rfl rfl rfl ?_
  refine j_gi (w := J 542 24) 24 mt_253 rfl rfl c_542 (by decide) rfl ?_
  obtain ⟨z1, h⟩ := h
  obtain ⟨z2, h⟩ := h
  refine j_if2 mt_253 rfl rfl z1 z2 (fun c => ?_) (fun c => ?_)
  · replace h := h.1 c
    refine j_inc (e := x4 + 1) (L' := [some (.ref 542), some (iv x1), some (iv x2), some (iv x3), some (iv (x4 + 1)), some (iv x5)]) mt_253 rfl rfl (Nat.le_of_ble_eq_true rfl) rfl rfl ?_
    refine v_go mt_253 rfl rfl ?_
    exact h
  · replace h := h.2 (Int.not_le.mp c)
    refine v_s mt_253 rfl rfl rfl ?_
    refine v_s mt_253 rfl rfl rfl ?_
    refine v_s mt_253 rfl rfl rfl ?_
    obtain ⟨c2, J1, z3, h⟩ := h
    refine v_call (d1 := 6) mt_253 rfl rfl mt_252 rfl rfl (m_callj (As := [iv x4, iv x5]) (rest := []) rfl rfl c_542 rfl (Nat.le_of_ble_eq_true rfl) (Nat.le_of_ble_eq_true rfl)) z3 (by clear h; omega) ?_
    obtain ⟨z4, h⟩ := h
    refine j_if1 mt_253 rfl rfl z4 (fun c => ?_) (fun c => ?_)
    · replace h := h.1 c
      refine j_inc (e := x2 + 1) (L' := [some (.ref 542), some (iv x1), some (iv (x2 + 1)), some (iv x3), some (iv x4), some (iv x5)]) mt_253 rfl rfl (Nat.le_of_ble_eq_true rfl) rfl rfl ?_
      refine v_s mt_253 rfl rfl rfl ?_
      refine v_ic (v := Int32.ofInt (-1)) mt_253 rfl rfl ?_
      obtain ⟨z5, h⟩ := h
      refine j_if2 mt_253 rfl rfl z5 ⟨by decide, by decide⟩ (fun c => ?_) (fun c => ?_)
      · replace h := h.1 c
        refine v_s mt_253 rfl rfl rfl ?_
        refine v_isn (L' := [some (.ref 542), some (iv x1), some (iv (x2 + 1)), some (iv x3), some (iv x4), some (iv x5)]) mt_253 rfl (Nat.le_of_ble_eq_true rfl) rfl ?_
        refine j_inc (e := x5 + 1) (L' := [some (.ref 542), some (iv x1), some (iv (x2 + 1)), some (iv x3), some (iv x4), some (iv (x5 + 1))]) mt_253 rfl rfl (Nat.le_of_ble_eq_true rfl) rfl rfl ?_
        refine v_go mt_253 rfl rfl ?_
        exact h
      · replace h := h.2 (Decidable.not_not.mp c)
        refine v_bp (v := Int32.ofInt 10) mt_253 rfl rfl ?_
        refine v_s mt_253 rfl rfl rfl ?_
        refine j_mul (e := 10 * x4) mt_253 rfl rfl ?_
        refine v_s mt_253 rfl rfl rfl ?_
        refine j_add (e := (10 * x4) + x5) mt_253 rfl rfl ?_
        refine v_go mt_253 rfl rfl ?_
        refine v_isn (L' := [some (.ref 542), some (iv x1), some (iv (x2 + 1)), some (iv ((10 * x4) + x5)), some (iv x4), some (iv x5)]) mt_253 rfl (Nat.le_of_ble_eq_true rfl) rfl ?_
        refine j_inc (e := x5 + 1) (L' := [some (.ref 542), some (iv x1), some (iv (x2 + 1)), some (iv ((10 * x4) + x5)), some (iv x4), some (iv (x5 + 1))]) mt_253 rfl rfl (Nat.le_of_ble_eq_true rfl) rfl rfl ?_
        refine v_go mt_253 rfl rfl ?_
        exact h
    · replace h := h.2 (Decidable.not_not.mp c)
      refine v_go mt_253 rfl rfl ?_
      refine j_inc (e := x5 + 1) (L' := [some (.ref 542), some (iv x1), some (iv x2), some (iv x3), some (iv x4), some (iv (x5 + 1))]) mt_253 rfl rfl (Nat.le_of_ble_eq_true rfl) rfl rfl ?_
      refine v_go mt_253 rfl rfl ?_
      exact h
set_option maxHeartbeats 600000 in
theorem b_254_0 {X : Nat × (Nat → Int32)} {d : Nat} {J : Nat → Nat → Int} {sw : Bool × Bool × Bool} {lg : Nat → Nat → Int64} {x : Nat} {K : (Option Value ⊕ Nat) → mM → Prop} {x1 : Int} {o2 o3 o4 o5 : Option Value} (hd : 7 ≤ d)
    (h : VV X d 254 (2, [some (.ref 542), some (iv x1), some (iv 0), o3, o4, o5], [], mj J sw lg x) K) : VV X d 254 (0, [some (.ref 542), some (iv x1), o2, o3, o4, o5], [], mj J sw lg x) K := by
  refine v_ic (v := Int32.ofInt 0) mt_254 rfl rfl ?_
  refine v_isn (L' := [some (.ref 542), some (iv x1), some (iv 0), o3, o4, o5]) mt_254 rfl (Nat.le_of_ble_eq_true rfl) rfl ?_
  exact h
set_option maxHeartbeats 600000 in
theorem b_254_2 {X : Nat × (Nat → Int32)} {d : Nat} {J : Nat → Nat → Int} {sw : Bool × Bool × Bool} {lg : Nat → Nat → Int64} {x : Nat} {K : (Option Value ⊕ Nat) → mM → Prop} {x1 x2 : Int} {o3 o4 o5 : Option Value} (hd : 7 ≤ d)
    (h : InR x2 ∧ (99 < x2 → VV X d 254 (25, [some (.ref 542), some (iv x1), some (iv 0), some (iv 0), o4, o5], [], mj J sw lg x) K) ∧ (x2 ≤ 99 → ((0 ≤ x2 ∧ x2 < 100) ∧ VV X d 254 (2, [some (.ref 542), some (iv x1), some (iv (x2 + 1)), o3, o4, o5], [], mj (m_up J 571 x2.toNat 0) sw lg x) K))) : VV X d 254 (2, [some (.ref 542), some (iv x1), some (iv x2), o3, o4, o5], [], mj J sw lg x) K := by
  refine v_s mt_254 rfl rfl rfl ?_
  refine v_bp (v := Int32.ofInt 99) mt_254 rfl rfl ?_
  obtain ⟨z1, h⟩ := h
  refine j_if2 mt_254 rfl rfl z1 ⟨by decide, by decide⟩ (fun c => ?_) (fun c => ?_)
  · replace h := h.1 c
    refine v_ic (v := Int32.ofInt 0) mt_254 rfl rfl ?_
    refine v_isn (L' := [some (.ref 542), some (iv x1), some (iv 0), o3, o4, o5]) mt_254 rfl (Nat.le_of_ble_eq_true rfl) rfl ?_
    refine v_ic (v := Int32.ofInt 0) mt_254 rfl rfl ?_
    refine v_isn (L' := [some (.ref 542), some (iv x1), some (iv 0), some (iv 0), o4, o5]) mt_254 rfl (Nat.le_of_ble_eq_true rfl) rfl ?_
    exact h
  · replace h := h.2 (Int.not_lt.mp c)
    refine v_s mt_254 rfl rfl rfl ?_
    refine v_gr (w := 571) 56 mt_254 rfl rfl c_542 (by decide) (g_12_56 c_542) ?_
    refine v_s mt_254 rfl rfl rfl ?_
    refine v_ic (v := Int32.ofInt 0) mt_254 rfl rfl ?_
    obtain ⟨z2, h⟩ := h
    refine j_as mt_254 rfl c_571 z2 (by decide) ?_
    refine j_inc (e := x2 + 1) (L' := [some (.ref 542), some (iv x1), some (iv (x2 + 1)), o3, o4, o5]) mt_254 rfl rfl (Nat.le_of_ble_eq_true rfl) rfl rfl ?_
    refine v_go mt_254 rfl rfl ?_
    exact h
set_option maxHeartbeats 600000 in
theorem b_254_25 {X : Nat × (Nat → Int32)} {d : Nat} {J : Nat → Nat → Int} {sw : Bool × Bool × Bool} {lg : Nat → Nat → Int64} {x : Nat} {K : (Option Value ⊕ Nat) → mM → Prop} {x1 x2 x3 : Int} {o4 o5 : Option Value} (hd : 7 ≤ d)
    (h : InR x3 ∧ InR (J 542 25) ∧ (J 542 25 ≤ x3 → K (.inl (some (iv x2))) (mj J sw lg x)) ∧ (x3 < J 542 25 → VV X d 254 (36, [some (.ref 542), some (iv x1), some (iv x2), some (iv x3), some (iv 0), o5], [], mj J sw lg x) K)) : VV X d 254 (25, [some (.ref 542), some (iv x1), some (iv x2), some (iv x3), o4, o5], [], mj J sw lg x) K := by
  refine v_s mt_254 rfl rfl rfl ?_
  refine v_s mt_254 rfl rfl rfl ?_
  refine j_gi (w := J 542 25) 25 mt_254 rfl rfl c_542 (by decide) rfl ?_
  obtain ⟨z1, h⟩ := h
  obtain ⟨z2, h⟩ := h
  refine j_if2 mt_254 rfl rfl z1 z2 (fun c => ?_) (fun c => ?_)
  · replace h := h.1 c
    refine v_s mt_254 rfl rfl rfl ?_
    exact v_ret mt_254 rfl rfl rfl h
  · replace h := h.2 (Int.not_le.mp c)
    refine v_ic (v := Int32.ofInt 0) mt_254 rfl rfl ?_
    refine v_is (L' := [some (.ref 542), some (iv x1), some (iv x2), some (iv x3), some (iv 0), o5]) mt_254 rfl (Nat.le_of_ble_eq_true rfl) rfl ?_
    exact h
set_option maxHeartbeats 600000 in
theorem b_254_36 {X : Nat × (Nat → Int32)} {d : Nat} {J : Nat → Nat → Int} {sw : Bool × Bool × Bool} {lg : Nat → Nat → Int64} {x : Nat} {K : (Option Value ⊕ Nat) → mM → Prop} {x1 x2 x3 x4 : Int} {o5 : Option Value} (hd : 7 ≤ d)
    (h : InR x4 ∧ InR (J 542 24) ∧ (J 542 24 ≤ x4 → VV X d 254 (25, [some (.ref 542), some (iv x1), some (iv x2), some (iv (x3 + 1)), some (iv x4), o5], [], mj J sw lg x) K) ∧ (x4 < J 542 24 → (∃ (c2 : Int) (J1 : Nat → Nat → Int), EE X 6 252 [.ref 542, iv x3, iv x4] (mj J sw lg x) (.inl (some (iv c2))) (mj J1 sw lg x) ∧ InR c2 ∧ (¬ c2 = 0 → (∃ (c4 : Int) (J3 : Nat → Nat → Int), EE X 5 251 [.ref 542, iv x3, iv x4, iv x1] (mj J1 sw lg x) (.inl (some (iv c4))) (mj J3 sw lg x) ∧ (0 ≤ c4 ∧ c4 < 100) ∧ InR ((J3 571 c4.toNat) + 1) ∧ InR x2 ∧ ((J3 571 c4.toNat) + 1 ≤ x2 → VV X d 254 (36, [some (.ref 542), some (iv x1), some (iv x2), some (iv x3), some (iv (x4 + 1)), some (iv c4)], [], mj (m_up J3 571 c4.toNat ((J3 571 c4.toNat) + 1)) sw lg x) K) ∧ (x2 < (J3 571 c4.toNat) + 1 → VV X d 254 (36, [some (.ref 542), some (iv x1), some (iv ((J3 571 c4.toNat) + 1)), some (iv x3), some (iv (x4 + 1)), some (iv c4)], [], mj (m_up J3 571 c4.toNat ((J3 571 c4.toNat) + 1)) sw lg x) K))) ∧ (c2 = 0 → VV X d 254 (36, [some (.ref 542), some (iv x1), some (iv x2), some (iv x3), some (iv (x4 + 1)), o5], [], mj J1 sw lg x) K)))) : VV X d 254 (36, [some (.ref 542), some (iv x1), some (iv x2), some (iv x3), some (iv x4), o5], [], mj J sw lg x) K := by
  refine v_s mt_254 rfl rfl rfl ?_
  refine v_s mt_254 rfl rfl rfl ?_
  refine j_gi (w := J 542 24) 24 mt_254 rfl rfl c_542 (by decide) rfl ?_
  obtain ⟨z1, h⟩ := h
  obtain ⟨z2, h⟩ := h
  refine j_if2 mt_254 rfl rfl z1 z2 (fun c => ?_) (fun c => ?_)
  · replace h := h.1 c
    refine j_inc (e := x3 + 1) (L' := [some (.ref 542), some (iv x1), some (iv x2), some (iv (x3 + 1)), some (iv x4), o5]) mt_254 rfl rfl (Nat.le_of_ble_eq_true rfl) rfl rfl ?_
    refine v_go mt_254 rfl rfl ?_
    exact h
  · replace h := h.2 (Int.not_le.mp c)
    refine v_s mt_254 rfl rfl rfl ?_
    refine v_s mt_254 rfl rfl rfl ?_
    refine v_s mt_254 rfl rfl rfl ?_
    obtain ⟨c2, J1, z3, h⟩ := h
    refine v_call (d1 := 6) mt_254 rfl rfl mt_252 rfl rfl (m_callj (As := [iv x3, iv x4]) (rest := []) rfl rfl c_542 rfl (Nat.le_of_ble_eq_true rfl) (Nat.le_of_ble_eq_true rfl)) z3 (by clear h; omega) ?_
    obtain ⟨z4, h⟩ := h
    refine j_if1 mt_254 rfl rfl z4 (fun c => ?_) (fun c => ?_)
    · replace h := h.1 c
      refine v_s mt_254 rfl rfl rfl ?_
      refine v_s mt_254 rfl rfl rfl ?_
      refine v_s mt_254 rfl rfl rfl ?_
      refine v_s mt_254 rfl rfl rfl ?_
      obtain ⟨c4, J3, z5, h⟩ := h
      refine v_call (d1 := 5) mt_254 rfl rfl mt_251 rfl rfl (m_callj (As := [iv x3, iv x4, iv x1]) (rest := []) rfl rfl c_542 rfl (Nat.le_of_ble_eq_true rfl) (Nat.le_of_ble_eq_true rfl)) z5 (by clear h; omega) ?_
      refine v_is (L' := [some (.ref 542), some (iv x1), some (iv x2), some (iv x3), some (iv x4), some (iv c4)]) mt_254 rfl (Nat.le_of_ble_eq_true rfl) rfl ?_
      refine v_s mt_254 rfl rfl rfl ?_
      refine v_gr (w := 571) 56 mt_254 rfl rfl c_542 (by decide) (g_12_56 c_542) ?_
      refine v_s mt_254 rfl rfl rfl ?_
      refine v_s mt_254 rfl rfl rfl ?_
      obtain ⟨z6, h⟩ := h
      refine j_al (w := J3 571 c4.toNat) mt_254 rfl c_571 z6 (by decide) rfl ?_
      refine v_ic (v := Int32.ofInt 1) mt_254 rfl rfl ?_
      refine j_add (e := (J3 571 c4.toNat) + 1) mt_254 rfl rfl ?_
      refine j_as mt_254 rfl c_571 z6 (by decide) ?_
      refine v_s mt_254 rfl rfl rfl ?_
      refine v_gr (w := 571) 56 mt_254 rfl rfl c_542 (by decide) (g_12_56 c_542) ?_
      refine v_s mt_254 rfl rfl rfl ?_
      refine j_al (w := (J3 571 c4.toNat) + 1) mt_254 rfl c_571 z6 (by decide) (up_eq _ _ _ _) ?_
      refine v_s mt_254 rfl rfl rfl ?_
      obtain ⟨z7, h⟩ := h
      obtain ⟨z8, h⟩ := h
      refine j_if2 mt_254 rfl rfl z7 z8 (fun c => ?_) (fun c => ?_)
      · replace h := h.1 c
        refine v_s mt_254 rfl rfl rfl ?_
        refine v_isn (L' := [some (.ref 542), some (iv x1), some (iv x2), some (iv x3), some (iv x4), some (iv c4)]) mt_254 rfl (Nat.le_of_ble_eq_true rfl) rfl ?_
        refine j_inc (e := x4 + 1) (L' := [some (.ref 542), some (iv x1), some (iv x2), some (iv x3), some (iv (x4 + 1)), some (iv c4)]) mt_254 rfl rfl (Nat.le_of_ble_eq_true rfl) rfl rfl ?_
        refine v_go mt_254 rfl rfl ?_
        exact h
      · replace h := h.2 (Int.not_le.mp c)
        refine v_s mt_254 rfl rfl rfl ?_
        refine v_gr (w := 571) 56 mt_254 rfl rfl c_542 (by decide) (g_12_56 c_542) ?_
        refine v_s mt_254 rfl rfl rfl ?_
        refine j_al (w := (J3 571 c4.toNat) + 1) mt_254 rfl c_571 z6 (by decide) (up_eq _ _ _ _) ?_
        refine v_go mt_254 rfl rfl ?_
        refine v_isn (L' := [some (.ref 542), some (iv x1), some (iv ((J3 571 c4.toNat) + 1)), some (iv x3), some (iv x4), some (iv c4)]) mt_254 rfl (Nat.le_of_ble_eq_true rfl) rfl ?_
        refine j_inc (e := x4 + 1) (L' := [some (.ref 542), some (iv x1), some (iv ((J3 571 c4.toNat) + 1)), some (iv x3), some (iv (x4 + 1)), some (iv c4)]) mt_254 rfl rfl (Nat.le_of_ble_eq_true rfl) rfl rfl ?_
        refine v_go mt_254 rfl rfl ?_
        exact h
    · replace h := h.2 (Decidable.not_not.mp c)
      refine v_go mt_254 rfl rfl ?_
      refine j_inc (e := x4 + 1) (L' := [some (.ref 542), some (iv x1), some (iv x2), some (iv x3), some (iv (x4 + 1)), o5]) mt_254 rfl rfl (Nat.le_of_ble_eq_true rfl) rfl rfl ?_
      refine v_go mt_254 rfl rfl ?_
      exact h
set_option maxHeartbeats 600000 in
theorem b_255_0 {X : Nat × (Nat → Int32)} {d : Nat} {J : Nat → Nat → Int} {sw : Bool × Bool × Bool} {lg : Nat → Nat → Int64} {x : Nat} {K : (Option Value ⊕ Nat) → mM → Prop} {x1 : Int} {o2 o3 o4 o5 : Option Value} (hd : 8 ≤ d)
    (h : InR x1 ∧ (x1 < 0 → K (.inl (some (iv 0))) (mj (m_up (m_up (m_up J 542 0 0) 542 0 1) 543 1 ((J 543 1) + 1)) sw lg x)) ∧ (0 ≤ x1 → ((1 < x1 → K (.inl (some (iv 0))) (mj (m_up (m_up (m_up J 542 0 0) 542 0 1) 543 1 ((J 543 1) + 1)) sw lg x)) ∧ (x1 ≤ 1 → (∃ (J1 : Nat → Nat → Int), EE X 1 204 [.ref 542] (mj (m_up J 542 0 0) sw lg x) (.inl none) (mj J1 sw lg x) ∧ VV X d 255 (33, [some (.ref 542), some (iv x1), some (iv (-1)), some (iv (-1)), some (iv 0), o5], [], mj J1 sw lg x) K))))) : VV X d 255 (0, [some (.ref 542), some (iv x1), o2, o3, o4, o5], [], mj J sw lg x) K := by
  refine v_s mt_255 rfl rfl rfl ?_
  refine v_ic (v := Int32.ofInt 0) mt_255 rfl rfl ?_
  refine j_pi 0 mt_255 rfl rfl c_542 (by decide) ?_
  refine v_s mt_255 rfl rfl rfl ?_
  refine v_s mt_255 rfl rfl rfl ?_
  refine v_ic (v := Int32.ofInt 0) mt_255 rfl rfl ?_
  refine v_ic (v := Int32.ofInt 1) mt_255 rfl rfl ?_
  refine v_inl (L1 := [some (iv x1), some (iv 0), some (iv 1)]) mt_255 rfl rfl mt_162 rfl rfl rfl rfl (by clear h; omega) ?_
  refine v_s mt_162 rfl rfl rfl ?_
  refine v_s mt_162 rfl rfl rfl ?_
  obtain ⟨z1, h⟩ := h
  refine j_if2 mt_162 rfl rfl z1 ⟨by decide, by decide⟩ (fun c => ?_) (fun c => ?_)
  · replace h := h.1 c
    refine v_ic (v := Int32.ofInt 0) mt_162 rfl rfl ?_
    refine j_retb mt_162 rfl rfl (by decide) ?_
    refine v_ic (v := Int32.ofInt 1) mt_255 rfl rfl ?_
    refine v_ic (v := Int32.ofInt 1) mt_255 rfl rfl ?_
    refine v_inl (L1 := [some (.ref 542), some (iv 0), some (iv 1), some (iv 1)]) mt_255 rfl rfl mt_161 rfl rfl (m_callj (As := [iv 0, iv 1, iv 1]) (rest := []) rfl rfl c_542 rfl (Nat.le_of_ble_eq_true rfl) (Nat.le_of_ble_eq_true rfl)) rfl (by clear h; omega) ?_
    refine v_s mt_161 rfl rfl rfl ?_
    refine j_if1 mt_161 rfl rfl ⟨by decide, by decide⟩ (fun c => absurd (show ¬ (0 : Int) = 0 from c) (by decide)) (fun _ => ?_)
    refine v_s mt_161 rfl rfl rfl ?_
    refine j_gi (w := 0) 0 mt_161 rfl rfl c_542 (by decide) (up_eq _ _ _ _) ?_
    refine j_if1 mt_161 rfl rfl ⟨by decide, by decide⟩ (fun c => absurd (show ¬ (0 : Int) = 0 from c) (by decide)) (fun _ => ?_)
    refine v_s mt_161 rfl rfl rfl ?_
    refine v_s mt_161 rfl rfl rfl ?_
    refine j_pi 0 mt_161 rfl rfl c_542 (by decide) ?_
    refine v_s mt_161 rfl rfl rfl ?_
    refine v_gr (w := 543) 1 mt_161 rfl rfl c_542 (by decide) (g_12_1 c_542) ?_
    refine v_s mt_161 rfl rfl rfl ?_
    refine v_s mt_161 rfl rfl rfl ?_
    refine j_al (w := J 543 1) mt_161 rfl c_543 ⟨by decide, by decide⟩ (by decide) ((up_na (by decide)).trans ((up_na (by decide)).trans rfl)) ?_
    refine v_ic (v := Int32.ofInt 1) mt_161 rfl rfl ?_
    refine j_add (e := (J 543 1) + 1) mt_161 rfl rfl ?_
    refine j_as mt_161 rfl c_543 ⟨by decide, by decide⟩ (by decide) ?_
    refine v_s mt_161 rfl rfl rfl ?_
    refine j_gi (w := 1) 0 mt_161 rfl rfl c_542 (by decide) ((up_na (by decide)).trans (up_eq _ _ _ _)) ?_
    refine j_if1 mt_161 rfl rfl ⟨by decide, by decide⟩ (fun _ => ?_) (fun c => (c (show ¬ (1 : Int) = 0 by decide)).elim)
    refine v_ic (v := Int32.ofInt 0) mt_161 rfl rfl ?_
    refine j_retb mt_161 rfl rfl (by decide) ?_
    refine j_if1 mt_255 rfl rfl ⟨by decide, by decide⟩ (fun c => absurd (show ¬ (0 : Int) = 0 from c) (by decide)) (fun _ => ?_)
    refine v_ic (v := Int32.ofInt 0) mt_255 rfl rfl ?_
    exact v_ret mt_255 rfl rfl rfl h
  · replace h := h.2 (Int.not_lt.mp c)
    refine v_s mt_162 rfl rfl rfl ?_
    refine v_s mt_162 rfl rfl rfl ?_
    refine j_if2 mt_162 rfl rfl z1 ⟨by decide, by decide⟩ (fun c => ?_) (fun c => ?_)
    · replace h := h.1 c
      refine v_ic (v := Int32.ofInt 0) mt_162 rfl rfl ?_
      refine j_retb mt_162 rfl rfl (by decide) ?_
      refine v_ic (v := Int32.ofInt 1) mt_255 rfl rfl ?_
      refine v_ic (v := Int32.ofInt 1) mt_255 rfl rfl ?_
      refine v_inl (L1 := [some (.ref 542), some (iv 0), some (iv 1), some (iv 1)]) mt_255 rfl rfl mt_161 rfl rfl (m_callj (As := [iv 0, iv 1, iv 1]) (rest := []) rfl rfl c_542 rfl (Nat.le_of_ble_eq_true rfl) (Nat.le_of_ble_eq_true rfl)) rfl (by clear h; omega) ?_
      refine v_s mt_161 rfl rfl rfl ?_
      refine j_if1 mt_161 rfl rfl ⟨by decide, by decide⟩ (fun c => absurd (show ¬ (0 : Int) = 0 from c) (by decide)) (fun _ => ?_)
      refine v_s mt_161 rfl rfl rfl ?_
      refine j_gi (w := 0) 0 mt_161 rfl rfl c_542 (by decide) (up_eq _ _ _ _) ?_
      refine j_if1 mt_161 rfl rfl ⟨by decide, by decide⟩ (fun c => absurd (show ¬ (0 : Int) = 0 from c) (by decide)) (fun _ => ?_)
      refine v_s mt_161 rfl rfl rfl ?_
      refine v_s mt_161 rfl rfl rfl ?_
      refine j_pi 0 mt_161 rfl rfl c_542 (by decide) ?_
      refine v_s mt_161 rfl rfl rfl ?_
      refine v_gr (w := 543) 1 mt_161 rfl rfl c_542 (by decide) (g_12_1 c_542) ?_
      refine v_s mt_161 rfl rfl rfl ?_
      refine v_s mt_161 rfl rfl rfl ?_
      refine j_al (w := J 543 1) mt_161 rfl c_543 ⟨by decide, by decide⟩ (by decide) ((up_na (by decide)).trans ((up_na (by decide)).trans rfl)) ?_
      refine v_ic (v := Int32.ofInt 1) mt_161 rfl rfl ?_
      refine j_add (e := (J 543 1) + 1) mt_161 rfl rfl ?_
      refine j_as mt_161 rfl c_543 ⟨by decide, by decide⟩ (by decide) ?_
      refine v_s mt_161 rfl rfl rfl ?_
      refine j_gi (w := 1) 0 mt_161 rfl rfl c_542 (by decide) ((up_na (by decide)).trans (up_eq _ _ _ _)) ?_
      refine j_if1 mt_161 rfl rfl ⟨by decide, by decide⟩ (fun _ => ?_) (fun c => (c (show ¬ (1 : Int) = 0 by decide)).elim)
      refine v_ic (v := Int32.ofInt 0) mt_161 rfl rfl ?_
      refine j_retb mt_161 rfl rfl (by decide) ?_
      refine j_if1 mt_255 rfl rfl ⟨by decide, by decide⟩ (fun c => absurd (show ¬ (0 : Int) = 0 from c) (by decide)) (fun _ => ?_)
      refine v_ic (v := Int32.ofInt 0) mt_255 rfl rfl ?_
      exact v_ret mt_255 rfl rfl rfl h
    · replace h := h.2 (Int.not_lt.mp c)
      refine v_ic (v := Int32.ofInt 1) mt_162 rfl rfl ?_
      refine v_go mt_162 rfl rfl ?_
      refine j_retb mt_162 rfl rfl (by decide) ?_
      refine v_ic (v := Int32.ofInt 1) mt_255 rfl rfl ?_
      refine v_ic (v := Int32.ofInt 1) mt_255 rfl rfl ?_
      refine v_inl (L1 := [some (.ref 542), some (iv 1), some (iv 1), some (iv 1)]) mt_255 rfl rfl mt_161 rfl rfl (m_callj (As := [iv 1, iv 1, iv 1]) (rest := []) rfl rfl c_542 rfl (Nat.le_of_ble_eq_true rfl) (Nat.le_of_ble_eq_true rfl)) rfl (by clear h; omega) ?_
      refine v_s mt_161 rfl rfl rfl ?_
      refine j_if1 mt_161 rfl rfl ⟨by decide, by decide⟩ (fun _ => ?_) (fun c => (c (show ¬ (1 : Int) = 0 by decide)).elim)
      refine v_s mt_161 rfl rfl rfl ?_
      refine j_gi (w := 0) 0 mt_161 rfl rfl c_542 (by decide) (up_eq _ _ _ _) ?_
      refine j_if1 mt_161 rfl rfl ⟨by decide, by decide⟩ (fun c => absurd (show ¬ (0 : Int) = 0 from c) (by decide)) (fun _ => ?_)
      refine v_ic (v := Int32.ofInt 1) mt_161 rfl rfl ?_
      refine v_go mt_161 rfl rfl ?_
      refine j_retb mt_161 rfl rfl (by decide) ?_
      refine j_if1 mt_255 rfl rfl ⟨by decide, by decide⟩ (fun _ => ?_) (fun c => (c (show ¬ (1 : Int) = 0 by decide)).elim)
      refine v_s mt_255 rfl rfl rfl ?_
      obtain ⟨J1, z2, h⟩ := h
      refine v_call (d1 := 1) mt_255 rfl rfl mt_204 rfl rfl (m_callj (As := []) (rest := []) rfl rfl c_542 rfl (Nat.le_of_ble_eq_true rfl) (Nat.le_of_ble_eq_true rfl)) z2 (by clear h; omega) ?_
      refine v_ic (v := Int32.ofInt (-1)) mt_255 rfl rfl ?_
      refine v_isn (L' := [some (.ref 542), some (iv x1), some (iv (-1)), o3, o4, o5]) mt_255 rfl (Nat.le_of_ble_eq_true rfl) rfl ?_
      refine v_ic (v := Int32.ofInt (-1)) mt_255 rfl rfl ?_
      refine v_isn (L' := [some (.ref 542), some (iv x1), some (iv (-1)), some (iv (-1)), o4, o5]) mt_255 rfl (Nat.le_of_ble_eq_true rfl) rfl ?_
      refine v_ic (v := Int32.ofInt 0) mt_255 rfl rfl ?_
      refine v_is (L' := [some (.ref 542), some (iv x1), some (iv (-1)), some (iv (-1)), some (iv 0), o5]) mt_255 rfl (Nat.le_of_ble_eq_true rfl) rfl ?_
      exact h
set_option maxHeartbeats 600000 in
theorem b_255_33 {X : Nat × (Nat → Int32)} {d : Nat} {J : Nat → Nat → Int} {sw : Bool × Bool × Bool} {lg : Nat → Nat → Int64} {x : Nat} {K : (Option Value ⊕ Nat) → mM → Prop} {x1 x2 x3 x4 : Int} {o5 : Option Value} (hd : 8 ≤ d)
    (h : InR x4 ∧ InR (J 542 26) ∧ (J 542 26 ≤ x4 → (InR x1 ∧ (¬ x1 = 0 → K (.inl (some (iv x3))) (mj J sw lg x)) ∧ (x1 = 0 → K (.inl (some (iv x2))) (mj J sw lg x)))) ∧ (x4 < J 542 26 → ((0 ≤ x4 ∧ x4 < 9) ∧ InR (J 565 x4.toNat) ∧ (J 565 x4.toNat = (-1) → (∃ (c2 : Int) (J1 : Nat → Nat → Int), EE X 7 254 [.ref 542, iv x4] (mj J sw lg x) (.inl (some (iv c2))) (mj J1 sw lg x) ∧ InR x2 ∧ (x2 = (-1) → VV X d 255 (33, [some (.ref 542), some (iv x1), some (iv x4), some (iv c2), some (iv (x4 + 1)), some (iv c2)], [], mj J1 sw lg x) K) ∧ (¬ x2 = (-1) → (InR c2 ∧ InR x3 ∧ (c2 < x3 → VV X d 255 (33, [some (.ref 542), some (iv x1), some (iv x4), some (iv c2), some (iv (x4 + 1)), some (iv c2)], [], mj J1 sw lg x) K) ∧ (x3 ≤ c2 → VV X d 255 (33, [some (.ref 542), some (iv x1), some (iv x2), some (iv x3), some (iv (x4 + 1)), some (iv c2)], [], mj J1 sw lg x) K))))) ∧ (¬ J 565 x4.toNat = (-1) → VV X d 255 (33, [some (.ref 542), some (iv x1), some (iv x2), some (iv x3), some (iv (x4 + 1)), o5], [], mj J sw lg x) K)))) : VV X d 255 (33, [some (.ref 542), some (iv x1), some (iv x2), some (iv x3), some (iv x4), o5], [], mj J sw lg x) K := by
  refine v_s mt_255 rfl rfl rfl ?_
  refine v_s mt_255 rfl rfl rfl ?_
  refine j_gi (w := J 542 26) 26 mt_255 rfl rfl c_542 (by decide) rfl ?_
  obtain ⟨z1, h⟩ := h
  obtain ⟨z2, h⟩ := h
  refine j_if2 mt_255 rfl rfl z1 z2 (fun c => ?_) (fun c => ?_)
  · replace h := h.1 c
    refine v_s mt_255 rfl rfl rfl ?_
    obtain ⟨z3, h⟩ := h
    refine j_if1 mt_255 rfl rfl z3 (fun c => ?_) (fun c => ?_)
    · replace h := h.1 c
      refine v_s mt_255 rfl rfl rfl ?_
      exact v_ret mt_255 rfl rfl rfl h
    · replace h := h.2 (Decidable.not_not.mp c)
      refine v_s mt_255 rfl rfl rfl ?_
      refine v_go mt_255 rfl rfl ?_
      exact v_ret mt_255 rfl rfl rfl h
  · replace h := h.2 (Int.not_le.mp c)
    refine v_s mt_255 rfl rfl rfl ?_
    refine v_gr (w := 565) 49 mt_255 rfl rfl c_542 (by decide) (g_12_49 c_542) ?_
    refine v_s mt_255 rfl rfl rfl ?_
    obtain ⟨z4, h⟩ := h
    refine j_al (w := J 565 x4.toNat) mt_255 rfl c_565 z4 (by decide) rfl ?_
    refine v_ic (v := Int32.ofInt (-1)) mt_255 rfl rfl ?_
    obtain ⟨z5, h⟩ := h
    refine j_if2 mt_255 rfl rfl z5 ⟨by decide, by decide⟩ (fun c => ?_) (fun c => ?_)
    · replace h := h.1 c
      refine v_s mt_255 rfl rfl rfl ?_
      refine v_s mt_255 rfl rfl rfl ?_
      obtain ⟨c2, J1, z6, h⟩ := h
      refine v_call (d1 := 7) mt_255 rfl rfl mt_254 rfl rfl (m_callj (As := [iv x4]) (rest := []) rfl rfl c_542 rfl (Nat.le_of_ble_eq_true rfl) (Nat.le_of_ble_eq_true rfl)) z6 (by clear h; omega) ?_
      refine v_is (L' := [some (.ref 542), some (iv x1), some (iv x2), some (iv x3), some (iv x4), some (iv c2)]) mt_255 rfl (Nat.le_of_ble_eq_true rfl) rfl ?_
      refine v_s mt_255 rfl rfl rfl ?_
      refine v_ic (v := Int32.ofInt (-1)) mt_255 rfl rfl ?_
      obtain ⟨z7, h⟩ := h
      refine j_if2 mt_255 rfl rfl z7 ⟨by decide, by decide⟩ (fun c => ?_) (fun c => ?_)
      · replace h := h.1 c
        refine v_s mt_255 rfl rfl rfl ?_
        refine v_isn (L' := [some (.ref 542), some (iv x1), some (iv x4), some (iv x3), some (iv x4), some (iv c2)]) mt_255 rfl (Nat.le_of_ble_eq_true rfl) rfl ?_
        refine v_s mt_255 rfl rfl rfl ?_
        refine v_isn (L' := [some (.ref 542), some (iv x1), some (iv x4), some (iv c2), some (iv x4), some (iv c2)]) mt_255 rfl (Nat.le_of_ble_eq_true rfl) rfl ?_
        refine j_inc (e := x4 + 1) (L' := [some (.ref 542), some (iv x1), some (iv x4), some (iv c2), some (iv (x4 + 1)), some (iv c2)]) mt_255 rfl rfl (Nat.le_of_ble_eq_true rfl) rfl rfl ?_
        refine v_go mt_255 rfl rfl ?_
        exact h
      · replace h := h.2 c
        refine v_s mt_255 rfl rfl rfl ?_
        refine v_s mt_255 rfl rfl rfl ?_
        obtain ⟨z8, h⟩ := h
        obtain ⟨z9, h⟩ := h
        refine j_if2 mt_255 rfl rfl z8 z9 (fun c => ?_) (fun c => ?_)
        · replace h := h.1 c
          refine v_s mt_255 rfl rfl rfl ?_
          refine v_isn (L' := [some (.ref 542), some (iv x1), some (iv x4), some (iv x3), some (iv x4), some (iv c2)]) mt_255 rfl (Nat.le_of_ble_eq_true rfl) rfl ?_
          refine v_s mt_255 rfl rfl rfl ?_
          refine v_isn (L' := [some (.ref 542), some (iv x1), some (iv x4), some (iv c2), some (iv x4), some (iv c2)]) mt_255 rfl (Nat.le_of_ble_eq_true rfl) rfl ?_
          refine j_inc (e := x4 + 1) (L' := [some (.ref 542), some (iv x1), some (iv x4), some (iv c2), some (iv (x4 + 1)), some (iv c2)]) mt_255 rfl rfl (Nat.le_of_ble_eq_true rfl) rfl rfl ?_
          refine v_go mt_255 rfl rfl ?_
          exact h
        · replace h := h.2 (Int.not_lt.mp c)
          refine v_go mt_255 rfl rfl ?_
          refine j_inc (e := x4 + 1) (L' := [some (.ref 542), some (iv x1), some (iv x2), some (iv x3), some (iv (x4 + 1)), some (iv c2)]) mt_255 rfl rfl (Nat.le_of_ble_eq_true rfl) rfl rfl ?_
          refine v_go mt_255 rfl rfl ?_
          exact h
    · replace h := h.2 c
      refine v_go mt_255 rfl rfl ?_
      refine j_inc (e := x4 + 1) (L' := [some (.ref 542), some (iv x1), some (iv x2), some (iv x3), some (iv (x4 + 1)), o5]) mt_255 rfl rfl (Nat.le_of_ble_eq_true rfl) rfl rfl ?_
      refine v_go mt_255 rfl rfl ?_
      exact h
