set_option maxHeartbeats 600000 in
theorem b_2_0 {X : Nat × (Nat → Int32)} {d : Nat} {J : Nat → Nat → Int} {sw : Bool × Bool × Bool} {lg : Nat → Nat → Int64} {x : Nat} {K : (Option Value ⊕ Nat) → mM → Prop} {r0 : Nat} {x2 : Int} {o3 : Option Value} (h0 : SH[r0]? = some (5, 9)) (hd : 3 ≤ d)
    (h : VV X d 2 (6, [some (.ref r0), some (.ref 1), some (iv x2), some (iv 0)], [], mj (m_up (m_up J r0 0 0) r0 3 0) sw lg x) K) : VV X d 2 (0, [some (.ref r0), some (.ref 1), some (iv x2), o3], [], mj J sw lg x) K := by
  refine v_s mt_2 rfl rfl rfl ?_
  refine v_inl (L1 := [some (.ref r0)]) mt_2 rfl rfl mt_1 rfl rfl (m_callj (As := []) (rest := []) rfl rfl h0 rfl (Nat.le_of_ble_eq_true rfl) (Nat.le_of_ble_eq_true rfl)) rfl (by clear h; omega) ?_
  refine v_s mt_1 rfl rfl rfl ?_
  refine v_ic (v := Int32.ofInt 0) mt_1 rfl rfl ?_
  refine j_pi 0 mt_1 rfl rfl h0 (by decide) ?_
  refine v_s mt_1 rfl rfl rfl ?_
  refine v_ic (v := Int32.ofInt 0) mt_1 rfl rfl ?_
  refine j_pi 3 mt_1 rfl rfl h0 (by decide) ?_
  refine v_ret mt_1 rfl rfl rfl ?_
  refine v_ic (v := Int32.ofInt 0) mt_2 rfl rfl ?_
  refine v_isn (L' := [some (.ref r0), some (.ref 1), some (iv x2), some (iv 0)]) mt_2 rfl (Nat.le_of_ble_eq_true rfl) rfl ?_
  exact h
set_option maxHeartbeats 600000 in
theorem b_2_6 {X : Nat × (Nat → Int32)} {d : Nat} {J : Nat → Nat → Int} {sw : Bool × Bool × Bool} {lg : Nat → Nat → Int64} {x : Nat} {K : (Option Value ⊕ Nat) → mM → Prop} {r0 : Nat} {x2 x3 : Int} (h0 : SH[r0]? = some (5, 9)) (hd : 3 ≤ d)
    (h : InR x3 ∧ (8 < x3 → K (.inl (some (iv 1))) (mj J sw lg x)) ∧ (x3 ≤ 8 → (∃ (c2 : Int) (J1 : Nat → Nat → Int), EE X 0 85 [.ref 1] (mj J sw lg x) (.inl (some (iv c2))) (mj J1 sw lg x) ∧ InR c2 ∧ (¬ c2 = (-1) → (∃ (c4 : Int) (J3 : Nat → Nat → Int), EE X 1 91 [.ref 1, iv 0, iv (x2 - 1)] (mj J1 sw lg x) (.inl (some (iv c4))) (mj J3 sw lg x) ∧ InR c4 ∧ (¬ c4 = 0 → ((bAnd (bShr (J3 r0 3) (J3 1 5)) 1 = 0 → (InR (J3 r0 0) ∧ (J3 r0 0 < 8 → (∃ (c6 : Int) (J5 : Nat → Nat → Int), EE X 1 91 [.ref 1, iv 0, iv 99] (mj J3 sw lg x) (.inl (some (iv c6))) (mj J5 sw lg x) ∧ InR c6 ∧ (¬ c6 = 0 → ((0 ≤ J5 r0 0 ∧ J5 r0 0 < 8) ∧ ∃ (c8 : Int) (J7 : Nat → Nat → Int), EE X 1 87 [.ref 1, iv 59] (mj (m_up (m_up (m_up (m_up J5 (r0 + 1) ((J5 r0 0).toNat) (J3 1 5)) (r0 + 2) ((J5 r0 0).toNat) (J5 1 5)) r0 0 ((J5 r0 0) + 1)) r0 3 (bOr (J5 r0 3) (bShl 1 (J3 1 5)))) sw lg x) (.inl (some (iv c8))) (mj J7 sw lg x) ∧ (c8 = 0 ∨ c8 = 1) ∧ InR c8 ∧ (¬ c8 = 0 → VV X d 2 (6, [some (.ref r0), some (.ref 1), some (iv x2), some (iv (x3 + 1))], [], mj J7 sw lg x) K) ∧ (c8 = 0 → K (.inl (some (iv 0))) (mj J7 sw lg x)))) ∧ (c6 = 0 → K (.inl (some (iv 0))) (mj J5 sw lg x)))) ∧ (8 ≤ J3 r0 0 → K (.inl (some (iv 0))) (mj (m_up (m_up J3 1 6 3) 1 7 (J3 1 4)) sw lg x)))) ∧ (¬ bAnd (bShr (J3 r0 3) (J3 1 5)) 1 = 0 → K (.inl (some (iv 0))) (mj (m_up (m_up J3 1 6 2) 1 7 (J3 1 4)) sw lg x)))) ∧ (c4 = 0 → K (.inl (some (iv 0))) (mj J3 sw lg x)))) ∧ (c2 = (-1) → K (.inl (some (iv 1))) (mj J1 sw lg x))))) : VV X d 2 (6, [some (.ref r0), some (.ref 1), some (iv x2), some (iv x3)], [], mj J sw lg x) K := by
  refine v_s mt_2 rfl rfl rfl ?_
  refine v_bp (v := Int32.ofInt 8) mt_2 rfl rfl ?_
  obtain ⟨z1, h⟩ := h
  refine j_if2 mt_2 rfl rfl z1 ⟨by decide, by decide⟩ (fun c => ?_) (fun c => ?_)
  · replace h := h.1 c
    refine v_ic (v := Int32.ofInt 1) mt_2 rfl rfl ?_
    exact j_retb mt_2 rfl rfl (by decide) h
  · replace h := h.2 (Int.not_lt.mp c)
    refine v_s mt_2 rfl rfl rfl ?_
    refine v_inl (L1 := [some (.ref 1)]) mt_2 rfl rfl mt_86 rfl rfl (m_callj (As := []) (rest := []) rfl rfl c_1 rfl (Nat.le_of_ble_eq_true rfl) (Nat.le_of_ble_eq_true rfl)) rfl (by clear h; omega) ?_
    refine v_s mt_86 rfl rfl rfl ?_
    obtain ⟨c2, J1, z2, h⟩ := h
    refine v_call (d1 := 0) mt_86 rfl rfl mt_85 rfl rfl (m_callj (As := []) (rest := []) rfl rfl c_1 rfl (Nat.le_of_ble_eq_true rfl) (Nat.le_of_ble_eq_true rfl)) z2 (by clear h; omega) ?_
    refine v_ic (v := Int32.ofInt (-1)) mt_86 rfl rfl ?_
    obtain ⟨z3, h⟩ := h
    refine j_if2 mt_86 rfl rfl z3 ⟨by decide, by decide⟩ (fun c => ?_) (fun c => ?_)
    · replace h := h.1 c
      refine v_ic (v := Int32.ofInt 0) mt_86 rfl rfl ?_
      refine j_retb mt_86 rfl rfl (by decide) ?_
      refine j_if1 mt_2 rfl rfl ⟨by decide, by decide⟩ (fun _ => ?_) (fun c => (c (show (0 : Int) = 0 by decide)).elim)
      refine v_s mt_2 rfl rfl rfl ?_
      refine v_s mt_2 rfl rfl rfl ?_
      refine v_s mt_2 rfl rfl rfl ?_
      refine v_inl (L1 := [some (.ref r0), some (.ref 1), some (iv x2), none]) mt_2 rfl rfl mt_3 rfl rfl (m_callj (As := [.ref 1, iv x2]) (rest := []) rfl rfl h0 rfl (Nat.le_of_ble_eq_true rfl) (Nat.le_of_ble_eq_true rfl)) rfl (by clear h; omega) ?_
      refine v_s mt_3 rfl rfl rfl ?_
      refine v_ic (v := Int32.ofInt 0) mt_3 rfl rfl ?_
      refine v_s mt_3 rfl rfl rfl ?_
      refine v_ic (v := Int32.ofInt 1) mt_3 rfl rfl ?_
      refine j_sub (e := x2 - 1) mt_3 rfl rfl ?_
      obtain ⟨c4, J3, z4, h⟩ := h
      refine v_call (d1 := 1) mt_3 rfl rfl mt_91 rfl rfl (m_callj (As := [iv 0, iv (x2 - 1)]) (rest := []) rfl rfl c_1 rfl (Nat.le_of_ble_eq_true rfl) (Nat.le_of_ble_eq_true rfl)) z4 (by clear h; omega) ?_
      obtain ⟨z5, h⟩ := h
      refine j_if1 mt_3 rfl rfl z5 (fun c => ?_) (fun c => ?_)
      · replace h := h.1 c
        refine v_s mt_3 rfl rfl rfl ?_
        refine j_gi (w := J3 1 5) 5 mt_3 rfl rfl c_1 (by decide) rfl ?_
        refine v_isn (L' := [some (.ref r0), some (.ref 1), some (iv x2), some (iv (J3 1 5))]) mt_3 rfl (Nat.le_of_ble_eq_true rfl) rfl ?_
        refine v_s mt_3 rfl rfl rfl ?_
        refine j_gi (w := J3 r0 3) 3 mt_3 rfl rfl h0 (by decide) rfl ?_
        refine v_s mt_3 rfl rfl rfl ?_
        refine j_shr (e := bShr (J3 r0 3) (J3 1 5)) mt_3 rfl rfl ?_
        refine v_ic (v := Int32.ofInt 1) mt_3 rfl rfl ?_
        refine j_and (e := bAnd (bShr (J3 r0 3) (J3 1 5)) 1) mt_3 rfl rfl ?_
        refine j_if1 mt_3 rfl rfl (inT _) (fun c => ?_) (fun c => ?_)
        · replace h := h.1 c
          refine v_s mt_3 rfl rfl rfl ?_
          refine j_gi (w := J3 r0 0) 0 mt_3 rfl rfl h0 (by decide) rfl ?_
          refine v_bp (v := Int32.ofInt 8) mt_3 rfl rfl ?_
          obtain ⟨z6, h⟩ := h
          refine j_if2 mt_3 rfl rfl z6 ⟨by decide, by decide⟩ (fun c => ?_) (fun c => ?_)
          · replace h := h.1 c
            refine v_s mt_3 rfl rfl rfl ?_
            refine v_ic (v := Int32.ofInt 0) mt_3 rfl rfl ?_
            refine v_bp (v := Int32.ofInt 99) mt_3 rfl rfl ?_
            obtain ⟨c6, J5, z7, h⟩ := h
            refine v_call (d1 := 1) mt_3 rfl rfl mt_91 rfl rfl (m_callj (As := [iv 0, iv 99]) (rest := []) rfl rfl c_1 rfl (Nat.le_of_ble_eq_true rfl) (Nat.le_of_ble_eq_true rfl)) z7 (by clear h; omega) ?_
            obtain ⟨z8, h⟩ := h
            refine j_if1 mt_3 rfl rfl z8 (fun c => ?_) (fun c => ?_)
            · replace h := h.1 c
              refine v_s mt_3 rfl rfl rfl ?_
              refine v_gr (w := (r0 + 1)) 1 mt_3 rfl rfl h0 (by decide) (g_0_1 h0) ?_
              refine v_s mt_3 rfl rfl rfl ?_
              refine j_gi (w := J5 r0 0) 0 mt_3 rfl rfl h0 (by decide) rfl ?_
              refine v_s mt_3 rfl rfl rfl ?_
              obtain ⟨z9, h⟩ := h
              refine j_as mt_3 rfl (shB r0 (SH_lt h0) h0).1 z9 (by decide) ?_
              refine v_s mt_3 rfl rfl rfl ?_
              refine v_gr (w := (r0 + 2)) 2 mt_3 rfl rfl h0 (by decide) (g_0_2 h0) ?_
              refine v_s mt_3 rfl rfl rfl ?_
              refine j_gi (w := J5 r0 0) 0 mt_3 rfl rfl h0 (by decide) ((up_na (sh_ne h0 (shB r0 (SH_lt h0) h0).1 (by decide))).trans rfl) ?_
              refine v_s mt_3 rfl rfl rfl ?_
              refine j_gi (w := J5 1 5) 5 mt_3 rfl rfl c_1 (by decide) ((up_na (sh_ne c_1 (shB r0 (SH_lt h0) h0).1 (by decide))).trans rfl) ?_
              refine j_as mt_3 rfl (shB r0 (SH_lt h0) h0).2.1 z9 (by decide) ?_
              refine v_s mt_3 rfl rfl rfl ?_
              refine v_s mt_3 rfl rfl rfl ?_
              refine j_gi (w := J5 r0 0) 0 mt_3 rfl rfl h0 (by decide) ((up_na (sh_ne h0 (shB r0 (SH_lt h0) h0).2.1 (by decide))).trans ((up_na (sh_ne h0 (shB r0 (SH_lt h0) h0).1 (by decide))).trans rfl)) ?_
              refine v_ic (v := Int32.ofInt 1) mt_3 rfl rfl ?_
              refine j_add (e := (J5 r0 0) + 1) mt_3 rfl rfl ?_
              refine j_pi 0 mt_3 rfl rfl h0 (by decide) ?_
              refine v_s mt_3 rfl rfl rfl ?_
              refine v_s mt_3 rfl rfl rfl ?_
              refine j_gi (w := J5 r0 3) 3 mt_3 rfl rfl h0 (by decide) ((up_nk (by decide)).trans ((up_na (sh_ne h0 (shB r0 (SH_lt h0) h0).2.1 (by decide))).trans ((up_na (sh_ne h0 (shB r0 (SH_lt h0) h0).1 (by decide))).trans rfl))) ?_
              refine v_ic (v := Int32.ofInt 1) mt_3 rfl rfl ?_
              refine v_s mt_3 rfl rfl rfl ?_
              refine j_shl (e := bShl 1 (J3 1 5)) mt_3 rfl rfl ?_
              refine j_or (e := bOr (J5 r0 3) (bShl 1 (J3 1 5))) mt_3 rfl rfl ?_
              refine j_pi 3 mt_3 rfl rfl h0 (by decide) ?_
              refine v_s mt_3 rfl rfl rfl ?_
              refine v_bp (v := Int32.ofInt 59) mt_3 rfl rfl ?_
              obtain ⟨c8, J7, z10, h⟩ := h
              refine v_call (d1 := 1) mt_3 rfl rfl mt_87 rfl rfl (m_callj (As := [iv 59]) (rest := []) rfl rfl c_1 rfl (Nat.le_of_ble_eq_true rfl) (Nat.le_of_ble_eq_true rfl)) z10 (by clear h; omega) ?_
              obtain ⟨z11, h⟩ := h
              refine j_retb mt_3 rfl rfl z11 ?_
              obtain ⟨z12, h⟩ := h
              refine j_if1 mt_2 rfl rfl z12 (fun c => ?_) (fun c => ?_)
              · replace h := h.1 c
                refine j_inc (e := x3 + 1) (L' := [some (.ref r0), some (.ref 1), some (iv x2), some (iv (x3 + 1))]) mt_2 rfl rfl (Nat.le_of_ble_eq_true rfl) rfl rfl ?_
                refine v_go mt_2 rfl rfl ?_
                exact h
              · replace h := h.2 (Decidable.not_not.mp c)
                refine v_ic (v := Int32.ofInt 0) mt_2 rfl rfl ?_
                exact j_retb mt_2 rfl rfl (by decide) h
            · replace h := h.2 (Decidable.not_not.mp c)
              refine v_ic (v := Int32.ofInt 0) mt_3 rfl rfl ?_
              refine j_retb mt_3 rfl rfl (by decide) ?_
              refine j_if1 mt_2 rfl rfl ⟨by decide, by decide⟩ (fun c => absurd (show ¬ (0 : Int) = 0 from c) (by decide)) (fun _ => ?_)
              refine v_ic (v := Int32.ofInt 0) mt_2 rfl rfl ?_
              exact j_retb mt_2 rfl rfl (by decide) h
          · replace h := h.2 (Int.not_lt.mp c)
            refine v_s mt_3 rfl rfl rfl ?_
            refine v_ic (v := Int32.ofInt 3) mt_3 rfl rfl ?_
            refine v_s mt_3 rfl rfl rfl ?_
            refine j_gi (w := J3 1 4) 4 mt_3 rfl rfl c_1 (by decide) rfl ?_
            refine v_inl (L1 := [some (.ref 1), some (iv 3), some (iv (J3 1 4))]) mt_3 rfl rfl mt_84 rfl rfl (m_callj (As := [iv 3, iv (J3 1 4)]) (rest := []) rfl rfl c_1 rfl (Nat.le_of_ble_eq_true rfl) (Nat.le_of_ble_eq_true rfl)) rfl (by clear h; omega) ?_
            refine v_s mt_84 rfl rfl rfl ?_
            refine v_s mt_84 rfl rfl rfl ?_
            refine j_pi 6 mt_84 rfl rfl c_1 (by decide) ?_
            refine v_s mt_84 rfl rfl rfl ?_
            refine v_s mt_84 rfl rfl rfl ?_
            refine j_pi 7 mt_84 rfl rfl c_1 (by decide) ?_
            refine v_ic (v := Int32.ofInt 0) mt_84 rfl rfl ?_
            refine j_retb mt_84 rfl rfl (by decide) ?_
            refine j_retb mt_3 rfl rfl (by decide) ?_
            refine j_if1 mt_2 rfl rfl ⟨by decide, by decide⟩ (fun c => absurd (show ¬ (0 : Int) = 0 from c) (by decide)) (fun _ => ?_)
            refine v_ic (v := Int32.ofInt 0) mt_2 rfl rfl ?_
            exact j_retb mt_2 rfl rfl (by decide) h
        · replace h := h.2 c
          refine v_s mt_3 rfl rfl rfl ?_
          refine v_ic (v := Int32.ofInt 2) mt_3 rfl rfl ?_
          refine v_s mt_3 rfl rfl rfl ?_
          refine j_gi (w := J3 1 4) 4 mt_3 rfl rfl c_1 (by decide) rfl ?_
          refine v_inl (L1 := [some (.ref 1), some (iv 2), some (iv (J3 1 4))]) mt_3 rfl rfl mt_84 rfl rfl (m_callj (As := [iv 2, iv (J3 1 4)]) (rest := []) rfl rfl c_1 rfl (Nat.le_of_ble_eq_true rfl) (Nat.le_of_ble_eq_true rfl)) rfl (by clear h; omega) ?_
          refine v_s mt_84 rfl rfl rfl ?_
          refine v_s mt_84 rfl rfl rfl ?_
          refine j_pi 6 mt_84 rfl rfl c_1 (by decide) ?_
          refine v_s mt_84 rfl rfl rfl ?_
          refine v_s mt_84 rfl rfl rfl ?_
          refine j_pi 7 mt_84 rfl rfl c_1 (by decide) ?_
          refine v_ic (v := Int32.ofInt 0) mt_84 rfl rfl ?_
          refine j_retb mt_84 rfl rfl (by decide) ?_
          refine j_retb mt_3 rfl rfl (by decide) ?_
          refine j_if1 mt_2 rfl rfl ⟨by decide, by decide⟩ (fun c => absurd (show ¬ (0 : Int) = 0 from c) (by decide)) (fun _ => ?_)
          refine v_ic (v := Int32.ofInt 0) mt_2 rfl rfl ?_
          exact j_retb mt_2 rfl rfl (by decide) h
      · replace h := h.2 (Decidable.not_not.mp c)
        refine v_ic (v := Int32.ofInt 0) mt_3 rfl rfl ?_
        refine j_retb mt_3 rfl rfl (by decide) ?_
        refine j_if1 mt_2 rfl rfl ⟨by decide, by decide⟩ (fun c => absurd (show ¬ (0 : Int) = 0 from c) (by decide)) (fun _ => ?_)
        refine v_ic (v := Int32.ofInt 0) mt_2 rfl rfl ?_
        exact j_retb mt_2 rfl rfl (by decide) h
    · replace h := h.2 (Decidable.not_not.mp c)
      refine v_ic (v := Int32.ofInt 1) mt_86 rfl rfl ?_
      refine v_go mt_86 rfl rfl ?_
      refine j_retb mt_86 rfl rfl (by decide) ?_
      refine j_if1 mt_2 rfl rfl ⟨by decide, by decide⟩ (fun c => absurd (show (1 : Int) = 0 from c) (by decide)) (fun _ => ?_)
      refine v_ic (v := Int32.ofInt 1) mt_2 rfl rfl ?_
      exact j_retb mt_2 rfl rfl (by decide) h
set_option maxHeartbeats 600000 in
theorem b_3_0 {X : Nat × (Nat → Int32)} {d : Nat} {J : Nat → Nat → Int} {sw : Bool × Bool × Bool} {lg : Nat → Nat → Int64} {x : Nat} {K : (Option Value ⊕ Nat) → mM → Prop} {r0 : Nat} {x2 : Int} {o3 : Option Value} (h0 : SH[r0]? = some (5, 9)) (hd : 2 ≤ d)
    (h : ∃ (c2 : Int) (J1 : Nat → Nat → Int), EE X 1 91 [.ref 1, iv 0, iv (x2 - 1)] (mj J sw lg x) (.inl (some (iv c2))) (mj J1 sw lg x) ∧ InR c2 ∧ (¬ c2 = 0 → ((bAnd (bShr (J1 r0 3) (J1 1 5)) 1 = 0 → (InR (J1 r0 0) ∧ (J1 r0 0 < 8 → (∃ (c4 : Int) (J3 : Nat → Nat → Int), EE X 1 91 [.ref 1, iv 0, iv 99] (mj J1 sw lg x) (.inl (some (iv c4))) (mj J3 sw lg x) ∧ InR c4 ∧ (¬ c4 = 0 → ((0 ≤ J3 r0 0 ∧ J3 r0 0 < 8) ∧ ∃ (c6 : Int) (J5 : Nat → Nat → Int), EE X 1 87 [.ref 1, iv 59] (mj (m_up (m_up (m_up (m_up J3 (r0 + 1) ((J3 r0 0).toNat) (J1 1 5)) (r0 + 2) ((J3 r0 0).toNat) (J3 1 5)) r0 0 ((J3 r0 0) + 1)) r0 3 (bOr (J3 r0 3) (bShl 1 (J1 1 5)))) sw lg x) (.inl (some (iv c6))) (mj J5 sw lg x) ∧ (c6 = 0 ∨ c6 = 1) ∧ K (.inl (some (iv c6))) (mj J5 sw lg x))) ∧ (c4 = 0 → K (.inl (some (iv 0))) (mj J3 sw lg x)))) ∧ (8 ≤ J1 r0 0 → K (.inl (some (iv 0))) (mj (m_up (m_up J1 1 6 3) 1 7 (J1 1 4)) sw lg x)))) ∧ (¬ bAnd (bShr (J1 r0 3) (J1 1 5)) 1 = 0 → K (.inl (some (iv 0))) (mj (m_up (m_up J1 1 6 2) 1 7 (J1 1 4)) sw lg x)))) ∧ (c2 = 0 → K (.inl (some (iv 0))) (mj J1 sw lg x))) : VV X d 3 (0, [some (.ref r0), some (.ref 1), some (iv x2), o3], [], mj J sw lg x) K := by
  refine v_s mt_3 rfl rfl rfl ?_
  refine v_ic (v := Int32.ofInt 0) mt_3 rfl rfl ?_
  refine v_s mt_3 rfl rfl rfl ?_
  refine v_ic (v := Int32.ofInt 1) mt_3 rfl rfl ?_
  refine j_sub (e := x2 - 1) mt_3 rfl rfl ?_
  obtain ⟨c2, J1, z1, h⟩ := h
  refine v_call (d1 := 1) mt_3 rfl rfl mt_91 rfl rfl (m_callj (As := [iv 0, iv (x2 - 1)]) (rest := []) rfl rfl c_1 rfl (Nat.le_of_ble_eq_true rfl) (Nat.le_of_ble_eq_true rfl)) z1 (by clear h; omega) ?_
  obtain ⟨z2, h⟩ := h
  refine j_if1 mt_3 rfl rfl z2 (fun c => ?_) (fun c => ?_)
  · replace h := h.1 c
    refine v_s mt_3 rfl rfl rfl ?_
    refine j_gi (w := J1 1 5) 5 mt_3 rfl rfl c_1 (by decide) rfl ?_
    refine v_isn (L' := [some (.ref r0), some (.ref 1), some (iv x2), some (iv (J1 1 5))]) mt_3 rfl (Nat.le_of_ble_eq_true rfl) rfl ?_
    refine v_s mt_3 rfl rfl rfl ?_
    refine j_gi (w := J1 r0 3) 3 mt_3 rfl rfl h0 (by decide) rfl ?_
    refine v_s mt_3 rfl rfl rfl ?_
    refine j_shr (e := bShr (J1 r0 3) (J1 1 5)) mt_3 rfl rfl ?_
    refine v_ic (v := Int32.ofInt 1) mt_3 rfl rfl ?_
    refine j_and (e := bAnd (bShr (J1 r0 3) (J1 1 5)) 1) mt_3 rfl rfl ?_
    refine j_if1 mt_3 rfl rfl (inT _) (fun c => ?_) (fun c => ?_)
    · replace h := h.1 c
      refine v_s mt_3 rfl rfl rfl ?_
      refine j_gi (w := J1 r0 0) 0 mt_3 rfl rfl h0 (by decide) rfl ?_
      refine v_bp (v := Int32.ofInt 8) mt_3 rfl rfl ?_
      obtain ⟨z3, h⟩ := h
      refine j_if2 mt_3 rfl rfl z3 ⟨by decide, by decide⟩ (fun c => ?_) (fun c => ?_)
      · replace h := h.1 c
        refine v_s mt_3 rfl rfl rfl ?_
        refine v_ic (v := Int32.ofInt 0) mt_3 rfl rfl ?_
        refine v_bp (v := Int32.ofInt 99) mt_3 rfl rfl ?_
        obtain ⟨c4, J3, z4, h⟩ := h
        refine v_call (d1 := 1) mt_3 rfl rfl mt_91 rfl rfl (m_callj (As := [iv 0, iv 99]) (rest := []) rfl rfl c_1 rfl (Nat.le_of_ble_eq_true rfl) (Nat.le_of_ble_eq_true rfl)) z4 (by clear h; omega) ?_
        obtain ⟨z5, h⟩ := h
        refine j_if1 mt_3 rfl rfl z5 (fun c => ?_) (fun c => ?_)
        · replace h := h.1 c
          refine v_s mt_3 rfl rfl rfl ?_
          refine v_gr (w := (r0 + 1)) 1 mt_3 rfl rfl h0 (by decide) (g_0_1 h0) ?_
          refine v_s mt_3 rfl rfl rfl ?_
          refine j_gi (w := J3 r0 0) 0 mt_3 rfl rfl h0 (by decide) rfl ?_
          refine v_s mt_3 rfl rfl rfl ?_
          obtain ⟨z6, h⟩ := h
          refine j_as mt_3 rfl (shB r0 (SH_lt h0) h0).1 z6 (by decide) ?_
          refine v_s mt_3 rfl rfl rfl ?_
          refine v_gr (w := (r0 + 2)) 2 mt_3 rfl rfl h0 (by decide) (g_0_2 h0) ?_
          refine v_s mt_3 rfl rfl rfl ?_
          refine j_gi (w := J3 r0 0) 0 mt_3 rfl rfl h0 (by decide) ((up_na (sh_ne h0 (shB r0 (SH_lt h0) h0).1 (by decide))).trans rfl) ?_
          refine v_s mt_3 rfl rfl rfl ?_
          refine j_gi (w := J3 1 5) 5 mt_3 rfl rfl c_1 (by decide) ((up_na (sh_ne c_1 (shB r0 (SH_lt h0) h0).1 (by decide))).trans rfl) ?_
          refine j_as mt_3 rfl (shB r0 (SH_lt h0) h0).2.1 z6 (by decide) ?_
          refine v_s mt_3 rfl rfl rfl ?_
          refine v_s mt_3 rfl rfl rfl ?_
          refine j_gi (w := J3 r0 0) 0 mt_3 rfl rfl h0 (by decide) ((up_na (sh_ne h0 (shB r0 (SH_lt h0) h0).2.1 (by decide))).trans ((up_na (sh_ne h0 (shB r0 (SH_lt h0) h0).1 (by decide))).trans rfl)) ?_
          refine v_ic (v := Int32.ofInt 1) mt_3 rfl rfl ?_
          refine j_add (e := (J3 r0 0) + 1) mt_3 rfl rfl ?_
          refine j_pi 0 mt_3 rfl rfl h0 (by decide) ?_
          refine v_s mt_3 rfl rfl rfl ?_
          refine v_s mt_3 rfl rfl rfl ?_
          refine j_gi (w := J3 r0 3) 3 mt_3 rfl rfl h0 (by decide) ((up_nk (by decide)).trans ((up_na (sh_ne h0 (shB r0 (SH_lt h0) h0).2.1 (by decide))).trans ((up_na (sh_ne h0 (shB r0 (SH_lt h0) h0).1 (by decide))).trans rfl))) ?_
          refine v_ic (v := Int32.ofInt 1) mt_3 rfl rfl ?_
          refine v_s mt_3 rfl rfl rfl ?_
          refine j_shl (e := bShl 1 (J1 1 5)) mt_3 rfl rfl ?_
          refine j_or (e := bOr (J3 r0 3) (bShl 1 (J1 1 5))) mt_3 rfl rfl ?_
          refine j_pi 3 mt_3 rfl rfl h0 (by decide) ?_
          refine v_s mt_3 rfl rfl rfl ?_
          refine v_bp (v := Int32.ofInt 59) mt_3 rfl rfl ?_
          obtain ⟨c6, J5, z7, h⟩ := h
          refine v_call (d1 := 1) mt_3 rfl rfl mt_87 rfl rfl (m_callj (As := [iv 59]) (rest := []) rfl rfl c_1 rfl (Nat.le_of_ble_eq_true rfl) (Nat.le_of_ble_eq_true rfl)) z7 (by clear h; omega) ?_
          obtain ⟨z8, h⟩ := h
          exact j_retb mt_3 rfl rfl z8 h
        · replace h := h.2 (Decidable.not_not.mp c)
          refine v_ic (v := Int32.ofInt 0) mt_3 rfl rfl ?_
          exact j_retb mt_3 rfl rfl (by decide) h
      · replace h := h.2 (Int.not_lt.mp c)
        refine v_s mt_3 rfl rfl rfl ?_
        refine v_ic (v := Int32.ofInt 3) mt_3 rfl rfl ?_
        refine v_s mt_3 rfl rfl rfl ?_
        refine j_gi (w := J1 1 4) 4 mt_3 rfl rfl c_1 (by decide) rfl ?_
        refine v_inl (L1 := [some (.ref 1), some (iv 3), some (iv (J1 1 4))]) mt_3 rfl rfl mt_84 rfl rfl (m_callj (As := [iv 3, iv (J1 1 4)]) (rest := []) rfl rfl c_1 rfl (Nat.le_of_ble_eq_true rfl) (Nat.le_of_ble_eq_true rfl)) rfl (by clear h; omega) ?_
        refine v_s mt_84 rfl rfl rfl ?_
        refine v_s mt_84 rfl rfl rfl ?_
        refine j_pi 6 mt_84 rfl rfl c_1 (by decide) ?_
        refine v_s mt_84 rfl rfl rfl ?_
        refine v_s mt_84 rfl rfl rfl ?_
        refine j_pi 7 mt_84 rfl rfl c_1 (by decide) ?_
        refine v_ic (v := Int32.ofInt 0) mt_84 rfl rfl ?_
        refine j_retb mt_84 rfl rfl (by decide) ?_
        exact j_retb mt_3 rfl rfl (by decide) h
    · replace h := h.2 c
      refine v_s mt_3 rfl rfl rfl ?_
      refine v_ic (v := Int32.ofInt 2) mt_3 rfl rfl ?_
      refine v_s mt_3 rfl rfl rfl ?_
      refine j_gi (w := J1 1 4) 4 mt_3 rfl rfl c_1 (by decide) rfl ?_
      refine v_inl (L1 := [some (.ref 1), some (iv 2), some (iv (J1 1 4))]) mt_3 rfl rfl mt_84 rfl rfl (m_callj (As := [iv 2, iv (J1 1 4)]) (rest := []) rfl rfl c_1 rfl (Nat.le_of_ble_eq_true rfl) (Nat.le_of_ble_eq_true rfl)) rfl (by clear h; omega) ?_
      refine v_s mt_84 rfl rfl rfl ?_
      refine v_s mt_84 rfl rfl rfl ?_
      refine j_pi 6 mt_84 rfl rfl c_1 (by decide) ?_
      refine v_s mt_84 rfl rfl rfl ?_
      refine v_s mt_84 rfl rfl rfl ?_
      refine j_pi 7 mt_84 rfl rfl c_1 (by decide) ?_
      refine v_ic (v := Int32.ofInt 0) mt_84 rfl rfl ?_
      refine j_retb mt_84 rfl rfl (by decide) ?_
      exact j_retb mt_3 rfl rfl (by decide) h
  · replace h := h.2 (Decidable.not_not.mp c)
    refine v_ic (v := Int32.ofInt 0) mt_3 rfl rfl ?_
    exact j_retb mt_3 rfl rfl (by decide) h
set_option maxHeartbeats 600000 in
theorem b_218_0 {X : Nat × (Nat → Int32)} {d : Nat} {J : Nat → Nat → Int} {sw : Bool × Bool × Bool} {lg : Nat → Nat → Int64} {x : Nat} {K : (Option Value ⊕ Nat) → mM → Prop} {x1 : Int} {o2 o3 o4 o5 : Option Value} (hd : 3 ≤ d)
    (h : InR x1 ∧ (x1 < 0 → K (.inl (some (iv 0))) (mj (m_up (m_up (m_up J 542 0 0) 542 0 1) 543 1 ((J 543 1) + 1)) sw lg x)) ∧ (0 ≤ x1 → (InR (J 542 2) ∧ (J 542 2 < x1 → K (.inl (some (iv 0))) (mj (m_up (m_up (m_up J 542 0 0) 542 0 1) 543 1 ((J 543 1) + 1)) sw lg x)) ∧ (x1 ≤ J 542 2 → ((60 < x1 → K (.inl (some (iv 0))) (mj (m_up (m_up (m_up J 542 0 0) 542 0 1) 543 1 ((J 543 1) + 1)) sw lg x)) ∧ (x1 ≤ 60 → VV X d 218 (46, [some (.ref 542), some (iv x1), some (iv 0), o3, o4, o5], [], mj (m_up (m_up (m_up (m_up (m_up (m_up (m_up J 542 0 0) 542 2 0) 542 8 (-1)) 542 3 x1) 542 4 0) 542 5 (-1)) 542 7 0) sw lg x) K)))))) : VV X d 218 (0, [some (.ref 542), some (iv x1), o2, o3, o4, o5], [], mj J sw lg x) K := by
  refine v_s mt_218 rfl rfl rfl ?_
  refine v_ic (v := Int32.ofInt 0) mt_218 rfl rfl ?_
  refine j_pi 0 mt_218 rfl rfl c_542 (by decide) ?_
  refine v_s mt_218 rfl rfl rfl ?_
  refine v_s mt_218 rfl rfl rfl ?_
  obtain ⟨z1, h⟩ := h
  refine j_if1 mt_218 rfl rfl z1 (fun c => ?_) (fun c => ?_)
  · replace h := h.1 c
    refine v_ic (v := Int32.ofInt 0) mt_218 rfl rfl ?_
    refine v_ic (v := Int32.ofInt 1) mt_218 rfl rfl ?_
    refine v_ic (v := Int32.ofInt 1) mt_218 rfl rfl ?_
    refine v_inl (L1 := [some (.ref 542), some (iv 0), some (iv 1), some (iv 1)]) mt_218 rfl rfl mt_161 rfl rfl (m_callj (As := [iv 0, iv 1, iv 1]) (rest := []) rfl rfl c_542 rfl (Nat.le_of_ble_eq_true rfl) (Nat.le_of_ble_eq_true rfl)) rfl (by clear h; omega) ?_
    refine v_s mt_161 rfl rfl rfl ?_
    refine j_if1 mt_161 rfl rfl ⟨by decide, by decide⟩ (fun c => absurd (show ¬ (0 : Int) = 0 from c) (by decide)) (fun _ => ?_)
    refine v_s mt_161 rfl rfl rfl ?_
    refine j_gi (w := 0) 0 mt_161 rfl rfl c_542 (by decide) (up_eq _ _ _ _) ?_
    refine j_if1 mt_161 rfl rfl ⟨by decide, by decide⟩ (fun c => absurd (show ¬ (0 : Int) = 0 from c) (by decide)) (fun _ => ?_)
    refine v_s mt_161 rfl rfl rfl ?_
    refine v_s mt_161 rfl rfl rfl ?_
    refine j_pi 0 mt_161 rfl rfl c_542 (by decide) ?_
    refine v_s mt_161 rfl rfl rfl ?_
    refine v_gr (w := 543) 1 mt_161 rfl rfl c_542 (by decide) (g_12_1 c_542) ?_
    refine v_s mt_161 rfl rfl rfl ?_
    refine v_s mt_161 rfl rfl rfl ?_
    refine j_al (w := J 543 1) mt_161 rfl c_543 ⟨by decide, by decide⟩ (by decide) ((up_na (by decide)).trans ((up_na (by decide)).trans rfl)) ?_
    refine v_ic (v := Int32.ofInt 1) mt_161 rfl rfl ?_
    refine j_add (e := (J 543 1) + 1) mt_161 rfl rfl ?_
    refine j_as mt_161 rfl c_543 ⟨by decide, by decide⟩ (by decide) ?_
    refine v_s mt_161 rfl rfl rfl ?_
    refine j_gi (w := 1) 0 mt_161 rfl rfl c_542 (by decide) ((up_na (by decide)).trans (up_eq _ _ _ _)) ?_
    refine j_if1 mt_161 rfl rfl ⟨by decide, by decide⟩ (fun _ => ?_) (fun c => (c (show ¬ (1 : Int) = 0 by decide)).elim)
    refine v_ic (v := Int32.ofInt 0) mt_161 rfl rfl ?_
    refine j_retb mt_161 rfl rfl (by decide) ?_
    refine j_if1 mt_218 rfl rfl ⟨by decide, by decide⟩ (fun c => absurd (show ¬ (0 : Int) = 0 from c) (by decide)) (fun _ => ?_)
    refine v_ic (v := Int32.ofInt 0) mt_218 rfl rfl ?_
    exact v_ret mt_218 rfl rfl rfl h
  · replace h := h.2 (Int.not_lt.mp c)
    refine v_s mt_218 rfl rfl rfl ?_
    refine v_s mt_218 rfl rfl rfl ?_
    refine j_gi (w := J 542 2) 2 mt_218 rfl rfl c_542 (by decide) ((up_nk (by decide)).trans rfl) ?_
    obtain ⟨z2, h⟩ := h
    refine j_if2 mt_218 rfl rfl z1 z2 (fun c => ?_) (fun c => ?_)
    · replace h := h.1 c
      refine v_ic (v := Int32.ofInt 0) mt_218 rfl rfl ?_
      refine v_ic (v := Int32.ofInt 1) mt_218 rfl rfl ?_
      refine v_ic (v := Int32.ofInt 1) mt_218 rfl rfl ?_
      refine v_inl (L1 := [some (.ref 542), some (iv 0), some (iv 1), some (iv 1)]) mt_218 rfl rfl mt_161 rfl rfl (m_callj (As := [iv 0, iv 1, iv 1]) (rest := []) rfl rfl c_542 rfl (Nat.le_of_ble_eq_true rfl) (Nat.le_of_ble_eq_true rfl)) rfl (by clear h; omega) ?_
      refine v_s mt_161 rfl rfl rfl ?_
      refine j_if1 mt_161 rfl rfl ⟨by decide, by decide⟩ (fun c => absurd (show ¬ (0 : Int) = 0 from c) (by decide)) (fun _ => ?_)
      refine v_s mt_161 rfl rfl rfl ?_
      refine j_gi (w := 0) 0 mt_161 rfl rfl c_542 (by decide) (up_eq _ _ _ _) ?_
      refine j_if1 mt_161 rfl rfl ⟨by decide, by decide⟩ (fun c => absurd (show ¬ (0 : Int) = 0 from c) (by decide)) (fun _ => ?_)
      refine v_s mt_161 rfl rfl rfl ?_
      refine v_s mt_161 rfl rfl rfl ?_
      refine j_pi 0 mt_161 rfl rfl c_542 (by decide) ?_
      refine v_s mt_161 rfl rfl rfl ?_
      refine v_gr (w := 543) 1 mt_161 rfl rfl c_542 (by decide) (g_12_1 c_542) ?_
      refine v_s mt_161 rfl rfl rfl ?_
      refine v_s mt_161 rfl rfl rfl ?_
      refine j_al (w := J 543 1) mt_161 rfl c_543 ⟨by decide, by decide⟩ (by decide) ((up_na (by decide)).trans ((up_na (by decide)).trans rfl)) ?_
      refine v_ic (v := Int32.ofInt 1) mt_161 rfl rfl ?_
      refine j_add (e := (J 543 1) + 1) mt_161 rfl rfl ?_
      refine j_as mt_161 rfl c_543 ⟨by decide, by decide⟩ (by decide) ?_
      refine v_s mt_161 rfl rfl rfl ?_
      refine j_gi (w := 1) 0 mt_161 rfl rfl c_542 (by decide) ((up_na (by decide)).trans (up_eq _ _ _ _)) ?_
      refine j_if1 mt_161 rfl rfl ⟨by decide, by decide⟩ (fun _ => ?_) (fun c => (c (show ¬ (1 : Int) = 0 by decide)).elim)
      refine v_ic (v := Int32.ofInt 0) mt_161 rfl rfl ?_
      refine j_retb mt_161 rfl rfl (by decide) ?_
      refine j_if1 mt_218 rfl rfl ⟨by decide, by decide⟩ (fun c => absurd (show ¬ (0 : Int) = 0 from c) (by decide)) (fun _ => ?_)
      refine v_ic (v := Int32.ofInt 0) mt_218 rfl rfl ?_
      exact v_ret mt_218 rfl rfl rfl h
    · replace h := h.2 (Int.not_lt.mp c)
      refine v_s mt_218 rfl rfl rfl ?_
      refine v_bp (v := Int32.ofInt 60) mt_218 rfl rfl ?_
      refine j_if2 mt_218 rfl rfl z1 ⟨by decide, by decide⟩ (fun c => ?_) (fun c => ?_)
      · replace h := h.1 c
        refine v_ic (v := Int32.ofInt 0) mt_218 rfl rfl ?_
        refine v_ic (v := Int32.ofInt 1) mt_218 rfl rfl ?_
        refine v_ic (v := Int32.ofInt 1) mt_218 rfl rfl ?_
        refine v_inl (L1 := [some (.ref 542), some (iv 0), some (iv 1), some (iv 1)]) mt_218 rfl rfl mt_161 rfl rfl (m_callj (As := [iv 0, iv 1, iv 1]) (rest := []) rfl rfl c_542 rfl (Nat.le_of_ble_eq_true rfl) (Nat.le_of_ble_eq_true rfl)) rfl (by clear h; omega) ?_
        refine v_s mt_161 rfl rfl rfl ?_
        refine j_if1 mt_161 rfl rfl ⟨by decide, by decide⟩ (fun c => absurd (show ¬ (0 : Int) = 0 from c) (by decide)) (fun _ => ?_)
        refine v_s mt_161 rfl rfl rfl ?_
        refine j_gi (w := 0) 0 mt_161 rfl rfl c_542 (by decide) (up_eq _ _ _ _) ?_
        refine j_if1 mt_161 rfl rfl ⟨by decide, by decide⟩ (fun c => absurd (show ¬ (0 : Int) = 0 from c) (by decide)) (fun _ => ?_)
        refine v_s mt_161 rfl rfl rfl ?_
        refine v_s mt_161 rfl rfl rfl ?_
        refine j_pi 0 mt_161 rfl rfl c_542 (by decide) ?_
        refine v_s mt_161 rfl rfl rfl ?_
        refine v_gr (w := 543) 1 mt_161 rfl rfl c_542 (by decide) (g_12_1 c_542) ?_
        refine v_s mt_161 rfl rfl rfl ?_
        refine v_s mt_161 rfl rfl rfl ?_
        refine j_al (w := J 543 1) mt_161 rfl c_543 ⟨by decide, by decide⟩ (by decide) ((up_na (by decide)).trans ((up_na (by decide)).trans rfl)) ?_
        refine v_ic (v := Int32.ofInt 1) mt_161 rfl rfl ?_
        refine j_add (e := (J 543 1) + 1) mt_161 rfl rfl ?_
        refine j_as mt_161 rfl c_543 ⟨by decide, by decide⟩ (by decide) ?_
        refine v_s mt_161 rfl rfl rfl ?_
        refine j_gi (w := 1) 0 mt_161 rfl rfl c_542 (by decide) ((up_na (by decide)).trans (up_eq _ _ _ _)) ?_
        refine j_if1 mt_161 rfl rfl ⟨by decide, by decide⟩ (fun _ => ?_) (fun c => (c (show ¬ (1 : Int) = 0 by decide)).elim)
        refine v_ic (v := Int32.ofInt 0) mt_161 rfl rfl ?_
        refine j_retb mt_161 rfl rfl (by decide) ?_
        refine j_if1 mt_218 rfl rfl ⟨by decide, by decide⟩ (fun c => absurd (show ¬ (0 : Int) = 0 from c) (by decide)) (fun _ => ?_)
        refine v_ic (v := Int32.ofInt 0) mt_218 rfl rfl ?_
        exact v_ret mt_218 rfl rfl rfl h
      · replace h := h.2 (Int.not_lt.mp c)
        refine v_ic (v := Int32.ofInt 1) mt_218 rfl rfl ?_
        refine v_go mt_218 rfl rfl ?_
        refine v_ic (v := Int32.ofInt 1) mt_218 rfl rfl ?_
        refine v_ic (v := Int32.ofInt 1) mt_218 rfl rfl ?_
        refine v_inl (L1 := [some (.ref 542), some (iv 1), some (iv 1), some (iv 1)]) mt_218 rfl rfl mt_161 rfl rfl (m_callj (As := [iv 1, iv 1, iv 1]) (rest := []) rfl rfl c_542 rfl (Nat.le_of_ble_eq_true rfl) (Nat.le_of_ble_eq_true rfl)) rfl (by clear h; omega) ?_
        refine v_s mt_161 rfl rfl rfl ?_
        refine j_if1 mt_161 rfl rfl ⟨by decide, by decide⟩ (fun _ => ?_) (fun c => (c (show ¬ (1 : Int) = 0 by decide)).elim)
        refine v_s mt_161 rfl rfl rfl ?_
        refine j_gi (w := 0) 0 mt_161 rfl rfl c_542 (by decide) (up_eq _ _ _ _) ?_
        refine j_if1 mt_161 rfl rfl ⟨by decide, by decide⟩ (fun c => absurd (show ¬ (0 : Int) = 0 from c) (by decide)) (fun _ => ?_)
        refine v_ic (v := Int32.ofInt 1) mt_161 rfl rfl ?_
        refine v_go mt_161 rfl rfl ?_
        refine j_retb mt_161 rfl rfl (by decide) ?_
        refine j_if1 mt_218 rfl rfl ⟨by decide, by decide⟩ (fun _ => ?_) (fun c => (c (show ¬ (1 : Int) = 0 by decide)).elim)
        refine v_s mt_218 rfl rfl rfl ?_
        refine v_s mt_218 rfl rfl rfl ?_
        refine v_inl (L1 := [some (.ref 542), some (iv x1)]) mt_218 rfl rfl mt_176 rfl rfl (m_callj (As := [iv x1]) (rest := []) rfl rfl c_542 rfl (Nat.le_of_ble_eq_true rfl) (Nat.le_of_ble_eq_true rfl)) rfl (by clear h; omega) ?_
        refine v_s mt_176 rfl rfl rfl ?_
        refine v_ic (v := Int32.ofInt 0) mt_176 rfl rfl ?_
        refine j_pi 2 mt_176 rfl rfl c_542 (by decide) ?_
        refine v_s mt_176 rfl rfl rfl ?_
        refine v_ic (v := Int32.ofInt (-1)) mt_176 rfl rfl ?_
        refine j_pi 8 mt_176 rfl rfl c_542 (by decide) ?_
        refine v_s mt_176 rfl rfl rfl ?_
        refine v_s mt_176 rfl rfl rfl ?_
        refine j_pi 3 mt_176 rfl rfl c_542 (by decide) ?_
        refine v_s mt_176 rfl rfl rfl ?_
        refine v_ic (v := Int32.ofInt 0) mt_176 rfl rfl ?_
        refine j_pi 4 mt_176 rfl rfl c_542 (by decide) ?_
        refine v_s mt_176 rfl rfl rfl ?_
        refine v_ic (v := Int32.ofInt (-1)) mt_176 rfl rfl ?_
        refine j_pi 5 mt_176 rfl rfl c_542 (by decide) ?_
        refine v_s mt_176 rfl rfl rfl ?_
        refine v_ic (v := Int32.ofInt 0) mt_176 rfl rfl ?_
        refine j_pi 7 mt_176 rfl rfl c_542 (by decide) ?_
        refine v_ret mt_176 rfl rfl rfl ?_
        refine v_ic (v := Int32.ofInt 0) mt_218 rfl rfl ?_
        refine v_isn (L' := [some (.ref 542), some (iv x1), some (iv 0), o3, o4, o5]) mt_218 rfl (Nat.le_of_ble_eq_true rfl) rfl ?_
        exact h
set_option maxHeartbeats 600000 in
theorem b_218_46 {X : Nat × (Nat → Int32)} {d : Nat} {J : Nat → Nat → Int} {sw : Bool × Bool × Bool} {lg : Nat → Nat → Int64} {x : Nat} {K : (Option Value ⊕ Nat) → mM → Prop} {x1 x2 : Int} {o3 o4 o5 : Option Value} (hd : 3 ≤ d)
    (h : InR x2 ∧ (9 ≤ x2 → VV X d 218 (67, [some (.ref 542), some (iv x1), some (iv 0), o3, o4, o5], [], mj J sw lg x) K) ∧ (x2 < 9 → ((0 ≤ x2 ∧ x2 < 9) ∧ VV X d 218 (46, [some (.ref 542), some (iv x1), some (iv (x2 + 1)), o3, o4, o5], [], mj (m_up J 564 x2.toNat (-1)) sw lg x) K))) : VV X d 218 (46, [some (.ref 542), some (iv x1), some (iv x2), o3, o4, o5], [], mj J sw lg x) K := by
  refine v_s mt_218 rfl rfl rfl ?_
  refine v_bp (v := Int32.ofInt 9) mt_218 rfl rfl ?_
  obtain ⟨z1, h⟩ := h
  refine j_if2 mt_218 rfl rfl z1 ⟨by decide, by decide⟩ (fun c => ?_) (fun c => ?_)
  · replace h := h.1 c
    refine v_ic (v := Int32.ofInt 0) mt_218 rfl rfl ?_
    refine v_isn (L' := [some (.ref 542), some (iv x1), some (iv 0), o3, o4, o5]) mt_218 rfl (Nat.le_of_ble_eq_true rfl) rfl ?_
    exact h
  · replace h := h.2 (Int.not_le.mp c)
    refine v_s mt_218 rfl rfl rfl ?_
    refine v_gr (w := 564) 48 mt_218 rfl rfl c_542 (by decide) (g_12_48 c_542) ?_
    refine v_s mt_218 rfl rfl rfl ?_
    refine v_ic (v := Int32.ofInt (-1)) mt_218 rfl rfl ?_
    obtain ⟨z2, h⟩ := h
    refine j_as mt_218 rfl c_564 z2 (by decide) ?_
    refine j_inc (e := x2 + 1) (L' := [some (.ref 542), some (iv x1), some (iv (x2 + 1)), o3, o4, o5]) mt_218 rfl rfl (Nat.le_of_ble_eq_true rfl) rfl rfl ?_
    refine v_go mt_218 rfl rfl ?_
    exact h
set_option maxHeartbeats 600000 in
theorem b_218_67 {X : Nat × (Nat → Int32)} {d : Nat} {J : Nat → Nat → Int} {sw : Bool × Bool × Bool} {lg : Nat → Nat → Int64} {x : Nat} {K : (Option Value ⊕ Nat) → mM → Prop} {x1 x2 : Int} {o3 o4 o5 : Option Value} (hd : 3 ≤ d)
    (h : InR (J 542 5) ∧ (¬ J 542 5 = (-1) → VV X d 218 (180, [some (.ref 542), some (iv x1), some (iv x2), o3, o4, o5], [], mj J sw lg x) K) ∧ (J 542 5 = (-1) → (∃ (c2 : Int) (J1 : Nat → Nat → Int), EE X 0 167 [.ref 542] (mj J sw lg x) (.inl (some (iv c2))) (mj J1 sw lg x) ∧ InR (J1 542 4) ∧ InR (J1 542 3) ∧ (J1 542 3 ≤ J1 542 4 → VV X d 218 (180, [some (.ref 542), some (iv x1), some (iv x2), o3, o4, o5], [], mj J1 sw lg x) K) ∧ (J1 542 4 < J1 542 3 → (∃ (c4 : Int) (J3 : Nat → Nat → Int), EE X 0 167 [.ref 542] (mj J1 sw lg x) (.inl (some (iv c4))) (mj J3 sw lg x) ∧ ∃ (c6 : Int) (J5 : Nat → Nat → Int), EE X 1 173 [.ref 542, iv 0, iv ((J3 542 26) - 1)] (mj J3 sw lg x) (.inl (some (iv c6))) (mj J5 sw lg x) ∧ VV X d 218 (97, [some (.ref 542), some (iv x1), some (iv x2), some (iv (J3 542 4)), some (iv c6), o5], [], mj J5 sw lg x) K))))) : VV X d 218 (67, [some (.ref 542), some (iv x1), some (iv x2), o3, o4, o5], [], mj J sw lg x) K := by
  refine v_s mt_218 rfl rfl rfl ?_
  refine v_inl (L1 := [some (.ref 542)]) mt_218 rfl rfl mt_165 rfl rfl (m_callj (As := []) (rest := []) rfl rfl c_542 rfl (Nat.le_of_ble_eq_true rfl) (Nat.le_of_ble_eq_true rfl)) rfl (by clear h; omega) ?_
  refine v_s mt_165 rfl rfl rfl ?_
  refine j_gi (w := J 542 5) 5 mt_165 rfl rfl c_542 (by decide) rfl ?_
  refine v_ic (v := Int32.ofInt (-1)) mt_165 rfl rfl ?_
  obtain ⟨z1, h⟩ := h
  refine j_if2 mt_165 rfl rfl z1 ⟨by decide, by decide⟩ (fun c => ?_) (fun c => ?_)
  · replace h := h.1 c
    refine v_ic (v := Int32.ofInt 0) mt_165 rfl rfl ?_
    refine j_retb mt_165 rfl rfl (by decide) ?_
    refine j_if1 mt_218 rfl rfl ⟨by decide, by decide⟩ (fun _ => ?_) (fun c => (c (show (0 : Int) = 0 by decide)).elim)
    exact h
  · replace h := h.2 (Decidable.not_not.mp c)
    refine v_ic (v := Int32.ofInt 1) mt_165 rfl rfl ?_
    refine v_go mt_165 rfl rfl ?_
    refine j_retb mt_165 rfl rfl (by decide) ?_
    refine j_if1 mt_218 rfl rfl ⟨by decide, by decide⟩ (fun c => absurd (show (1 : Int) = 0 from c) (by decide)) (fun _ => ?_)
    refine v_s mt_218 rfl rfl rfl ?_
    refine v_inl (L1 := [some (.ref 542)]) mt_218 rfl rfl mt_175 rfl rfl (m_callj (As := []) (rest := []) rfl rfl c_542 rfl (Nat.le_of_ble_eq_true rfl) (Nat.le_of_ble_eq_true rfl)) rfl (by clear h; omega) ?_
    refine v_s mt_175 rfl rfl rfl ?_
    obtain ⟨c2, J1, z2, h⟩ := h
    refine v_call (d1 := 0) mt_175 rfl rfl mt_167 rfl rfl (m_callj (As := []) (rest := []) rfl rfl c_542 rfl (Nat.le_of_ble_eq_true rfl) (Nat.le_of_ble_eq_true rfl)) z2 (by clear h; omega) ?_
    refine v_s mt_175 rfl rfl rfl ?_
    refine v_s mt_175 rfl rfl rfl ?_
    refine j_gi (w := J1 542 4) 4 mt_175 rfl rfl c_542 (by decide) rfl ?_
    refine v_s mt_175 rfl rfl rfl ?_
    refine j_gi (w := J1 542 3) 3 mt_175 rfl rfl c_542 (by decide) rfl ?_
    obtain ⟨z3, h⟩ := h
    obtain ⟨z4, h⟩ := h
    refine j_if2 mt_175 rfl rfl z3 z4 (fun c => ?_) (fun c => ?_)
    · replace h := h.1 c
      refine v_ic (v := Int32.ofInt 0) mt_175 rfl rfl ?_
      refine j_retb mt_175 rfl rfl (by decide) ?_
      refine j_if1 mt_218 rfl rfl ⟨by decide, by decide⟩ (fun _ => ?_) (fun c => (c (show (0 : Int) = 0 by decide)).elim)
      exact h
    · replace h := h.2 (Int.not_le.mp c)
      refine v_ic (v := Int32.ofInt 1) mt_175 rfl rfl ?_
      refine v_go mt_175 rfl rfl ?_
      refine j_retb mt_175 rfl rfl (by decide) ?_
      refine j_if1 mt_218 rfl rfl ⟨by decide, by decide⟩ (fun c => absurd (show (1 : Int) = 0 from c) (by decide)) (fun _ => ?_)
      refine v_s mt_218 rfl rfl rfl ?_
      obtain ⟨c4, J3, z5, h⟩ := h
      refine v_call (d1 := 0) mt_218 rfl rfl mt_167 rfl rfl (m_callj (As := []) (rest := []) rfl rfl c_542 rfl (Nat.le_of_ble_eq_true rfl) (Nat.le_of_ble_eq_true rfl)) z5 (by clear h; omega) ?_
      refine v_s mt_218 rfl rfl rfl ?_
      refine v_s mt_218 rfl rfl rfl ?_
      refine j_gi (w := J3 542 4) 4 mt_218 rfl rfl c_542 (by decide) rfl ?_
      refine v_isn (L' := [some (.ref 542), some (iv x1), some (iv x2), some (iv (J3 542 4)), o4, o5]) mt_218 rfl (Nat.le_of_ble_eq_true rfl) rfl ?_
      refine v_s mt_218 rfl rfl rfl ?_
      refine v_inl (L1 := [some (.ref 542)]) mt_218 rfl rfl mt_200 rfl rfl (m_callj (As := []) (rest := []) rfl rfl c_542 rfl (Nat.le_of_ble_eq_true rfl) (Nat.le_of_ble_eq_true rfl)) rfl (by clear h; omega) ?_
      refine v_s mt_200 rfl rfl rfl ?_
      refine v_ic (v := Int32.ofInt 0) mt_200 rfl rfl ?_
      refine v_s mt_200 rfl rfl rfl ?_
      refine j_gi (w := J3 542 26) 26 mt_200 rfl rfl c_542 (by decide) rfl ?_
      refine v_ic (v := Int32.ofInt 1) mt_200 rfl rfl ?_
      refine j_sub (e := (J3 542 26) - 1) mt_200 rfl rfl ?_
      obtain ⟨c6, J5, z6, h⟩ := h
      refine v_call (d1 := 1) mt_200 rfl rfl mt_173 rfl rfl (m_callj (As := [iv 0, iv ((J3 542 26) - 1)]) (rest := []) rfl rfl c_542 rfl (Nat.le_of_ble_eq_true rfl) (Nat.le_of_ble_eq_true rfl)) z6 (by clear h; omega) ?_
      refine v_ret mt_200 rfl rfl rfl ?_
      refine v_is (L' := [some (.ref 542), some (iv x1), some (iv x2), some (iv (J3 542 4)), some (iv c6), o5]) mt_218 rfl (Nat.le_of_ble_eq_true rfl) rfl ?_
      exact h
set_option maxHeartbeats 600000 in
theorem b_218_180 {X : Nat × (Nat → Int32)} {d : Nat} {J : Nat → Nat → Int} {sw : Bool × Bool × Bool} {lg : Nat → Nat → Int64} {x : Nat} {K : (Option Value ⊕ Nat) → mM → Prop} {x1 x2 : Int} {o3 o4 o5 : Option Value} (hd : 3 ≤ d)
    (h : ∃ (c2 : Int) (J1 : Nat → Nat → Int), EE X 1 177 [.ref 542, iv x2] (mj J sw lg x) (.inl (some (iv c2))) (mj J1 sw lg x) ∧ InR (J1 542 5) ∧ (J1 542 5 = (-1) → (∃ (J3 : Nat → Nat → Int), EE X 0 179 [.ref 542, .ref 564, .ref 565, iv 9] (mj (m_up J1 542 50 x2) sw lg x) (.inl none) (mj J3 sw lg x) ∧ K (.inl (some (iv c2))) (mj J3 sw lg x))) ∧ (¬ J1 542 5 = (-1) → K (.inl (some (iv c2))) (mj J1 sw lg x))) : VV X d 218 (180, [some (.ref 542), some (iv x1), some (iv x2), o3, o4, o5], [], mj J sw lg x) K := by
  refine v_s mt_218 rfl rfl rfl ?_
  refine v_s mt_218 rfl rfl rfl ?_
  obtain ⟨c2, J1, z1, h⟩ := h
  refine v_call (d1 := 1) mt_218 rfl rfl mt_177 rfl rfl (m_callj (As := [iv x2]) (rest := []) rfl rfl c_542 rfl (Nat.le_of_ble_eq_true rfl) (Nat.le_of_ble_eq_true rfl)) z1 (by clear h; omega) ?_
  refine v_isn (L' := [some (.ref 542), some (iv x1), some (iv x2), some (iv c2), o4, o5]) mt_218 rfl (Nat.le_of_ble_eq_true rfl) rfl ?_
  refine v_s mt_218 rfl rfl rfl ?_
  refine j_gi (w := J1 542 5) 5 mt_218 rfl rfl c_542 (by decide) rfl ?_
  refine v_ic (v := Int32.ofInt (-1)) mt_218 rfl rfl ?_
  obtain ⟨z2, h⟩ := h
  refine j_if2 mt_218 rfl rfl z2 ⟨by decide, by decide⟩ (fun c => ?_) (fun c => ?_)
  · replace h := h.1 c
    refine v_s mt_218 rfl rfl rfl ?_
    refine v_s mt_218 rfl rfl rfl ?_
    refine j_pi 50 mt_218 rfl rfl c_542 (by decide) ?_
    refine v_s mt_218 rfl rfl rfl ?_
    refine v_s mt_218 rfl rfl rfl ?_
    refine v_gr (w := 564) 48 mt_218 rfl rfl c_542 (by decide) (g_12_48 c_542) ?_
    refine v_s mt_218 rfl rfl rfl ?_
    refine v_gr (w := 565) 49 mt_218 rfl rfl c_542 (by decide) (g_12_49 c_542) ?_
    refine v_bp (v := Int32.ofInt 9) mt_218 rfl rfl ?_
    obtain ⟨J3, z3, h⟩ := h
    refine v_call (d1 := 0) mt_218 rfl rfl mt_179 rfl rfl (m_callj (As := [.ref 564, .ref 565, iv 9]) (rest := []) rfl rfl c_542 rfl (Nat.le_of_ble_eq_true rfl) (Nat.le_of_ble_eq_true rfl)) z3 (by clear h; omega) ?_
    refine v_s mt_218 rfl rfl rfl ?_
    exact v_ret mt_218 rfl rfl rfl h
  · replace h := h.2 c
    refine v_s mt_218 rfl rfl rfl ?_
    exact v_ret mt_218 rfl rfl rfl h
set_option maxHeartbeats 600000 in
theorem b_218_97 {X : Nat × (Nat → Int32)} {d : Nat} {J : Nat → Nat → Int} {sw : Bool × Bool × Bool} {lg : Nat → Nat → Int64} {x : Nat} {K : (Option Value ⊕ Nat) → mM → Prop} {x1 x2 x3 x4 : Int} {o5 : Option Value} (hd : 3 ≤ d)
    (h : InR (J 542 5) ∧ (¬ J 542 5 = (-1) → VV X d 218 (121, [some (.ref 542), some (iv x1), some (iv x2), some (iv x3), some (iv x4), o5], [], mj J sw lg x) K) ∧ (J 542 5 = (-1) → ((0 ≤ x4 ∧ x4 < 9) ∧ InR (J 564 x4.toNat) ∧ (J 564 x4.toNat = (-1) → VV X d 218 (121, [some (.ref 542), some (iv x1), some (iv x2), some (iv x3), some (iv x4), o5], [], mj J sw lg x) K) ∧ (¬ J 564 x4.toNat = (-1) → (∃ (J1 : Nat → Nat → Int), EE X 0 166 [.ref 542, iv 2, iv x3] (mj J sw lg x) (.inl none) (mj J1 sw lg x) ∧ VV X d 218 (121, [some (.ref 542), some (iv x1), some (iv x2), some (iv x3), some (iv x4), o5], [], mj J1 sw lg x) K))))) : VV X d 218 (97, [some (.ref 542), some (iv x1), some (iv x2), some (iv x3), some (iv x4), o5], [], mj J sw lg x) K := by
  refine v_s mt_218 rfl rfl rfl ?_
  refine v_inl (L1 := [some (.ref 542)]) mt_218 rfl rfl mt_165 rfl rfl (m_callj (As := []) (rest := []) rfl rfl c_542 rfl (Nat.le_of_ble_eq_true rfl) (Nat.le_of_ble_eq_true rfl)) rfl (by clear h; omega) ?_
  refine v_s mt_165 rfl rfl rfl ?_
  refine j_gi (w := J 542 5) 5 mt_165 rfl rfl c_542 (by decide) rfl ?_
  refine v_ic (v := Int32.ofInt (-1)) mt_165 rfl rfl ?_
  obtain ⟨z1, h⟩ := h
  refine j_if2 mt_165 rfl rfl z1 ⟨by decide, by decide⟩ (fun c => ?_) (fun c => ?_)
  · replace h := h.1 c
    refine v_ic (v := Int32.ofInt 0) mt_165 rfl rfl ?_
    refine j_retb mt_165 rfl rfl (by decide) ?_
    refine j_if1 mt_218 rfl rfl ⟨by decide, by decide⟩ (fun _ => ?_) (fun c => (c (show (0 : Int) = 0 by decide)).elim)
    exact h
  · replace h := h.2 (Decidable.not_not.mp c)
    refine v_ic (v := Int32.ofInt 1) mt_165 rfl rfl ?_
    refine v_go mt_165 rfl rfl ?_
    refine j_retb mt_165 rfl rfl (by decide) ?_
    refine j_if1 mt_218 rfl rfl ⟨by decide, by decide⟩ (fun c => absurd (show (1 : Int) = 0 from c) (by decide)) (fun _ => ?_)
    refine v_s mt_218 rfl rfl rfl ?_
    refine v_gr (w := 564) 48 mt_218 rfl rfl c_542 (by decide) (g_12_48 c_542) ?_
    refine v_s mt_218 rfl rfl rfl ?_
    obtain ⟨z2, h⟩ := h
    refine j_al (w := J 564 x4.toNat) mt_218 rfl c_564 z2 (by decide) rfl ?_
    refine v_ic (v := Int32.ofInt (-1)) mt_218 rfl rfl ?_
    obtain ⟨z3, h⟩ := h
    refine j_if2 mt_218 rfl rfl z3 ⟨by decide, by decide⟩ (fun c => ?_) (fun c => ?_)
    · replace h := h.1 c
      exact h
    · replace h := h.2 c
      refine v_s mt_218 rfl rfl rfl ?_
      refine v_ic (v := Int32.ofInt 2) mt_218 rfl rfl ?_
      refine v_s mt_218 rfl rfl rfl ?_
      obtain ⟨J1, z4, h⟩ := h
      refine v_call (d1 := 0) mt_218 rfl rfl mt_166 rfl rfl (m_callj (As := [iv 2, iv x3]) (rest := []) rfl rfl c_542 rfl (Nat.le_of_ble_eq_true rfl) (Nat.le_of_ble_eq_true rfl)) z4 (by clear h; omega) ?_
      exact h
set_option maxHeartbeats 600000 in
theorem b_218_121 {X : Nat × (Nat → Int32)} {d : Nat} {J : Nat → Nat → Int} {sw : Bool × Bool × Bool} {lg : Nat → Nat → Int64} {x : Nat} {K : (Option Value ⊕ Nat) → mM → Prop} {x1 x2 x3 x4 : Int} {o5 : Option Value} (hd : 3 ≤ d)
    (h : InR (J 542 5) ∧ (¬ J 542 5 = (-1) → VV X d 218 (140, [some (.ref 542), some (iv x1), some (iv x2), some (iv x3), some (iv x4), o5], [], mj J sw lg x) K) ∧ (J 542 5 = (-1) → (InR x2 ∧ (¬ x2 = 8 → VV X d 218 (140, [some (.ref 542), some (iv x1), some (iv x2), some (iv x3), some (iv x4), o5], [], mj J sw lg x) K) ∧ (x2 = 8 → (∃ (J1 : Nat → Nat → Int), EE X 0 166 [.ref 542, iv 3, iv x3] (mj J sw lg x) (.inl none) (mj J1 sw lg x) ∧ VV X d 218 (140, [some (.ref 542), some (iv x1), some (iv x2), some (iv x3), some (iv x4), o5], [], mj J1 sw lg x) K))))) : VV X d 218 (121, [some (.ref 542), some (iv x1), some (iv x2), some (iv x3), some (iv x4), o5], [], mj J sw lg x) K := by
  refine v_s mt_218 rfl rfl rfl ?_
  refine v_inl (L1 := [some (.ref 542)]) mt_218 rfl rfl mt_165 rfl rfl (m_callj (As := []) (rest := []) rfl rfl c_542 rfl (Nat.le_of_ble_eq_true rfl) (Nat.le_of_ble_eq_true rfl)) rfl (by clear h; omega) ?_
  refine v_s mt_165 rfl rfl rfl ?_
  refine j_gi (w := J 542 5) 5 mt_165 rfl rfl c_542 (by decide) rfl ?_
  refine v_ic (v := Int32.ofInt (-1)) mt_165 rfl rfl ?_
  obtain ⟨z1, h⟩ := h
  refine j_if2 mt_165 rfl rfl z1 ⟨by decide, by decide⟩ (fun c => ?_) (fun c => ?_)
  · replace h := h.1 c
    refine v_ic (v := Int32.ofInt 0) mt_165 rfl rfl ?_
    refine j_retb mt_165 rfl rfl (by decide) ?_
    refine j_if1 mt_218 rfl rfl ⟨by decide, by decide⟩ (fun _ => ?_) (fun c => (c (show (0 : Int) = 0 by decide)).elim)
    exact h
  · replace h := h.2 (Decidable.not_not.mp c)
    refine v_ic (v := Int32.ofInt 1) mt_165 rfl rfl ?_
    refine v_go mt_165 rfl rfl ?_
    refine j_retb mt_165 rfl rfl (by decide) ?_
    refine j_if1 mt_218 rfl rfl ⟨by decide, by decide⟩ (fun c => absurd (show (1 : Int) = 0 from c) (by decide)) (fun _ => ?_)
    refine v_s mt_218 rfl rfl rfl ?_
    refine v_bp (v := Int32.ofInt 8) mt_218 rfl rfl ?_
    obtain ⟨z2, h⟩ := h
    refine j_if2 mt_218 rfl rfl z2 ⟨by decide, by decide⟩ (fun c => ?_) (fun c => ?_)
    · replace h := h.1 c
      exact h
    · replace h := h.2 (Decidable.not_not.mp c)
      refine v_s mt_218 rfl rfl rfl ?_
      refine v_ic (v := Int32.ofInt 3) mt_218 rfl rfl ?_
      refine v_s mt_218 rfl rfl rfl ?_
      obtain ⟨J1, z3, h⟩ := h
      refine v_call (d1 := 0) mt_218 rfl rfl mt_166 rfl rfl (m_callj (As := [iv 3, iv x3]) (rest := []) rfl rfl c_542 rfl (Nat.le_of_ble_eq_true rfl) (Nat.le_of_ble_eq_true rfl)) z3 (by clear h; omega) ?_
      exact h
set_option maxHeartbeats 600000 in
theorem b_218_140 {X : Nat × (Nat → Int32)} {d : Nat} {J : Nat → Nat → Int} {sw : Bool × Bool × Bool} {lg : Nat → Nat → Int64} {x : Nat} {K : (Option Value ⊕ Nat) → mM → Prop} {x1 x2 x3 x4 : Int} {o5 : Option Value} (hd : 3 ≤ d)
    (h : ∃ (c2 : Int) (J1 : Nat → Nat → Int), EE X 1 173 [.ref 542, iv 0, iv 99] (mj J sw lg x) (.inl (some (iv c2))) (mj J1 sw lg x) ∧ ∃ (J3 : Nat → Nat → Int), EE X 1 174 [.ref 542, iv 59] (mj J1 sw lg x) (.inl none) (mj J3 sw lg x) ∧ InR (J3 542 5) ∧ (¬ J3 542 5 = (-1) → VV X d 218 (180, [some (.ref 542), some (iv x1), some (iv x2), some (iv x3), some (iv x4), some (iv c2)], [], mj J3 sw lg x) K) ∧ (J3 542 5 = (-1) → VV X d 218 (165, [some (.ref 542), some (iv x1), some (iv x2), some (iv x3), some (iv x4), some (iv c2)], [], mj J3 sw lg x) K)) : VV X d 218 (140, [some (.ref 542), some (iv x1), some (iv x2), some (iv x3), some (iv x4), o5], [], mj J sw lg x) K := by
  refine v_s mt_218 rfl rfl rfl ?_
  refine v_ic (v := Int32.ofInt 0) mt_218 rfl rfl ?_
  refine v_bp (v := Int32.ofInt 99) mt_218 rfl rfl ?_
  obtain ⟨c2, J1, z1, h⟩ := h
  refine v_call (d1 := 1) mt_218 rfl rfl mt_173 rfl rfl (m_callj (As := [iv 0, iv 99]) (rest := []) rfl rfl c_542 rfl (Nat.le_of_ble_eq_true rfl) (Nat.le_of_ble_eq_true rfl)) z1 (by clear h; omega) ?_
  refine v_is (L' := [some (.ref 542), some (iv x1), some (iv x2), some (iv x3), some (iv x4), some (iv c2)]) mt_218 rfl (Nat.le_of_ble_eq_true rfl) rfl ?_
  refine v_s mt_218 rfl rfl rfl ?_
  refine v_bp (v := Int32.ofInt 59) mt_218 rfl rfl ?_
  obtain ⟨J3, z2, h⟩ := h
  refine v_call (d1 := 1) mt_218 rfl rfl mt_174 rfl rfl (m_callj (As := [iv 59]) (rest := []) rfl rfl c_542 rfl (Nat.le_of_ble_eq_true rfl) (Nat.le_of_ble_eq_true rfl)) z2 (by clear h; omega) ?_
  refine v_s mt_218 rfl rfl rfl ?_
  refine v_inl (L1 := [some (.ref 542)]) mt_218 rfl rfl mt_165 rfl rfl (m_callj (As := []) (rest := []) rfl rfl c_542 rfl (Nat.le_of_ble_eq_true rfl) (Nat.le_of_ble_eq_true rfl)) rfl (by clear h; omega) ?_
  refine v_s mt_165 rfl rfl rfl ?_
  refine j_gi (w := J3 542 5) 5 mt_165 rfl rfl c_542 (by decide) rfl ?_
  refine v_ic (v := Int32.ofInt (-1)) mt_165 rfl rfl ?_
  obtain ⟨z3, h⟩ := h
  refine j_if2 mt_165 rfl rfl z3 ⟨by decide, by decide⟩ (fun c => ?_) (fun c => ?_)
  · replace h := h.1 c
    refine v_ic (v := Int32.ofInt 0) mt_165 rfl rfl ?_
    refine j_retb mt_165 rfl rfl (by decide) ?_
    refine j_if1 mt_218 rfl rfl ⟨by decide, by decide⟩ (fun c => absurd (show ¬ (0 : Int) = 0 from c) (by decide)) (fun _ => ?_)
    refine v_go mt_218 rfl rfl ?_
    exact h
  · replace h := h.2 (Decidable.not_not.mp c)
    refine v_ic (v := Int32.ofInt 1) mt_165 rfl rfl ?_
    refine v_go mt_165 rfl rfl ?_
    refine j_retb mt_165 rfl rfl (by decide) ?_
    refine j_if1 mt_218 rfl rfl ⟨by decide, by decide⟩ (fun _ => ?_) (fun c => (c (show ¬ (1 : Int) = 0 by decide)).elim)
    exact h
set_option maxHeartbeats 600000 in
theorem b_218_165 {X : Nat × (Nat → Int32)} {d : Nat} {J : Nat → Nat → Int} {sw : Bool × Bool × Bool} {lg : Nat → Nat → Int64} {x : Nat} {K : (Option Value ⊕ Nat) → mM → Prop} {x1 x2 x3 x4 x5 : Int} (hd : 3 ≤ d)
    (h : (0 ≤ x4 ∧ x4 < 9) ∧ VV X d 218 (67, [some (.ref 542), some (iv x1), some (iv (x2 + 1)), some (iv x3), some (iv x4), some (iv x5)], [], mj (m_up J 564 x4.toNat x5) sw lg x) K) : VV X d 218 (165, [some (.ref 542), some (iv x1), some (iv x2), some (iv x3), some (iv x4), some (iv x5)], [], mj J sw lg x) K := by
  refine v_s mt_218 rfl rfl rfl ?_
  refine v_gr (w := 564) 48 mt_218 rfl rfl c_542 (by decide) (g_12_48 c_542) ?_
  refine v_s mt_218 rfl rfl rfl ?_
  refine v_s mt_218 rfl rfl rfl ?_
  obtain ⟨z1, h⟩ := h
  refine j_as mt_218 rfl c_564 z1 (by decide) ?_
  refine j_inc (e := x2 + 1) (L' := [some (.ref 542), some (iv x1), some (iv (x2 + 1)), some (iv x3), some (iv x4), some (iv x5)]) mt_218 rfl rfl (Nat.le_of_ble_eq_true rfl) rfl rfl ?_
  refine v_go mt_218 rfl rfl ?_
  exact h
