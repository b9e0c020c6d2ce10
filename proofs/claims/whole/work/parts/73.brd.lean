set_option maxHeartbeats 600000 in
theorem b_85_0 {X : Nat × (Nat → Int32)} {d : Nat} {J : Nat → Nat → Int} {sw : Bool × Bool × Bool} {lg : Nat → Nat → Int64} {x : Nat} {K : (Option Value ⊕ Nat) → mM → Prop}
    (h : InR (J 1 3) ∧ InR (J 1 2) ∧ (J 1 2 ≤ J 1 3 → VV X d 85 (38, [some (.ref 1)], [], mj J sw lg x) K) ∧ (J 1 3 < J 1 2 → ((0 ≤ J 1 3 ∧ J 1 3 < 600) ∧ InR (J 2 ((J 1 3).toNat)) ∧ (¬ J 2 ((J 1 3).toNat) = 32 → VV X d 85 (38, [some (.ref 1)], [], mj J sw lg x) K) ∧ (J 2 ((J 1 3).toNat) = 32 → VV X d 85 (0, [some (.ref 1)], [], mj (m_up J 1 3 ((J 1 3) + 1)) sw lg x) K)))) : VV X d 85 (0, [some (.ref 1)], [], mj J sw lg x) K := by
  refine v_s mt_85 rfl rfl rfl ?_
  refine j_gi (w := J 1 3) 3 mt_85 rfl rfl c_1 (by decide) rfl ?_
  refine v_s mt_85 rfl rfl rfl ?_
  refine j_gi (w := J 1 2) 2 mt_85 rfl rfl c_1 (by decide) rfl ?_
  obtain ⟨z1, h⟩ := h
  obtain ⟨z2, h⟩ := h
  refine j_if2 mt_85 rfl rfl z1 z2 (fun c => ?_) (fun c => ?_)
  · replace h := h.1 c
    exact h
  · replace h := h.2 (Int.not_le.mp c)
    refine v_s mt_85 rfl rfl rfl ?_
    refine v_gr (w := 2) 0 mt_85 rfl rfl c_1 (by decide) (g_8_0 c_1) ?_
    refine v_s mt_85 rfl rfl rfl ?_
    refine j_gi (w := J 1 3) 3 mt_85 rfl rfl c_1 (by decide) rfl ?_
    obtain ⟨z3, h⟩ := h
    refine j_al (w := J 2 ((J 1 3).toNat)) mt_85 rfl c_2 z3 (by decide) rfl ?_
    refine v_bp (v := Int32.ofInt 32) mt_85 rfl rfl ?_
    obtain ⟨z4, h⟩ := h
    refine j_if2 mt_85 rfl rfl z4 ⟨by decide, by decide⟩ (fun c => ?_) (fun c => ?_)
    · replace h := h.1 c
      exact h
    · replace h := h.2 (Decidable.not_not.mp c)
      refine v_s mt_85 rfl rfl rfl ?_
      refine v_s mt_85 rfl rfl rfl ?_
      refine j_gi (w := J 1 3) 3 mt_85 rfl rfl c_1 (by decide) rfl ?_
      refine v_ic (v := Int32.ofInt 1) mt_85 rfl rfl ?_
      refine j_add (e := (J 1 3) + 1) mt_85 rfl rfl ?_
      refine j_pi 3 mt_85 rfl rfl c_1 (by decide) ?_
      refine v_go mt_85 rfl rfl ?_
      exact h
set_option maxHeartbeats 600000 in
theorem b_85_38 {X : Nat × (Nat → Int32)} {d : Nat} {J : Nat → Nat → Int} {sw : Bool × Bool × Bool} {lg : Nat → Nat → Int64} {x : Nat} {K : (Option Value ⊕ Nat) → mM → Prop}
    (h : InR (J 1 3) ∧ InR (J 1 2) ∧ (J 1 2 ≤ J 1 3 → K (.inl (some (iv (-1)))) (mj J sw lg x)) ∧ (J 1 3 < J 1 2 → ((0 ≤ J 1 3 ∧ J 1 3 < 600) ∧ K (.inl (some (iv (J 2 ((J 1 3).toNat))))) (mj J sw lg x)))) : VV X d 85 (38, [some (.ref 1)], [], mj J sw lg x) K := by
  refine v_s mt_85 rfl rfl rfl ?_
  refine j_gi (w := J 1 3) 3 mt_85 rfl rfl c_1 (by decide) rfl ?_
  refine v_s mt_85 rfl rfl rfl ?_
  refine j_gi (w := J 1 2) 2 mt_85 rfl rfl c_1 (by decide) rfl ?_
  obtain ⟨z1, h⟩ := h
  obtain ⟨z2, h⟩ := h
  refine j_if2 mt_85 rfl rfl z1 z2 (fun c => ?_) (fun c => ?_)
  · replace h := h.1 c
    refine v_ic (v := Int32.ofInt (-1)) mt_85 rfl rfl ?_
    exact v_ret mt_85 rfl rfl rfl h
  · replace h := h.2 (Int.not_le.mp c)
    refine v_s mt_85 rfl rfl rfl ?_
    refine v_gr (w := 2) 0 mt_85 rfl rfl c_1 (by decide) (g_8_0 c_1) ?_
    refine v_s mt_85 rfl rfl rfl ?_
    refine j_gi (w := J 1 3) 3 mt_85 rfl rfl c_1 (by decide) rfl ?_
    obtain ⟨z3, h⟩ := h
    refine j_al (w := J 2 ((J 1 3).toNat)) mt_85 rfl c_2 z3 (by decide) rfl ?_
    refine v_go mt_85 rfl rfl ?_
    exact v_ret mt_85 rfl rfl rfl h
set_option maxHeartbeats 600000 in
theorem b_87_0 {X : Nat × (Nat → Int32)} {d : Nat} {J : Nat → Nat → Int} {sw : Bool × Bool × Bool} {lg : Nat → Nat → Int64} {x : Nat} {K : (Option Value ⊕ Nat) → mM → Prop} {x1 : Int} (hd : 1 ≤ d)
    (h : ∃ (c2 : Int) (J1 : Nat → Nat → Int), EE X 0 85 [.ref 1] (mj J sw lg x) (.inl (some (iv c2))) (mj J1 sw lg x) ∧ InR c2 ∧ InR x1 ∧ (c2 = x1 → K (.inl (some (iv 1))) (mj (m_up J1 1 3 ((J1 1 3) + 1)) sw lg x)) ∧ (¬ c2 = x1 → K (.inl (some (iv 0))) (mj (m_up (m_up J1 1 6 1) 1 7 (J1 1 3)) sw lg x))) : VV X d 87 (0, [some (.ref 1), some (iv x1)], [], mj J sw lg x) K := by
  refine v_s mt_87 rfl rfl rfl ?_
  obtain ⟨c2, J1, z1, h⟩ := h
  refine v_call (d1 := 0) mt_87 rfl rfl mt_85 rfl rfl (m_callj (As := []) (rest := []) rfl rfl c_1 rfl (Nat.le_of_ble_eq_true rfl) (Nat.le_of_ble_eq_true rfl)) z1 (by clear h; omega) ?_
  refine v_s mt_87 rfl rfl rfl ?_
  obtain ⟨z2, h⟩ := h
  obtain ⟨z3, h⟩ := h
  refine j_if2 mt_87 rfl rfl z2 z3 (fun c => ?_) (fun c => ?_)
  · replace h := h.1 c
    refine v_s mt_87 rfl rfl rfl ?_
    refine v_s mt_87 rfl rfl rfl ?_
    refine j_gi (w := J1 1 3) 3 mt_87 rfl rfl c_1 (by decide) rfl ?_
    refine v_ic (v := Int32.ofInt 1) mt_87 rfl rfl ?_
    refine j_add (e := (J1 1 3) + 1) mt_87 rfl rfl ?_
    refine j_pi 3 mt_87 rfl rfl c_1 (by decide) ?_
    refine v_ic (v := Int32.ofInt 1) mt_87 rfl rfl ?_
    exact j_retb mt_87 rfl rfl (by decide) h
  · replace h := h.2 c
    refine v_s mt_87 rfl rfl rfl ?_
    refine v_ic (v := Int32.ofInt 1) mt_87 rfl rfl ?_
    refine v_s mt_87 rfl rfl rfl ?_
    refine j_gi (w := J1 1 3) 3 mt_87 rfl rfl c_1 (by decide) rfl ?_
    refine v_inl (L1 := [some (.ref 1), some (iv 1), some (iv (J1 1 3))]) mt_87 rfl rfl mt_84 rfl rfl (m_callj (As := [iv 1, iv (J1 1 3)]) (rest := []) rfl rfl c_1 rfl (Nat.le_of_ble_eq_true rfl) (Nat.le_of_ble_eq_true rfl)) rfl (by clear h; omega) ?_
    refine v_s mt_84 rfl rfl rfl ?_
    refine v_s mt_84 rfl rfl rfl ?_
    refine j_pi 6 mt_84 rfl rfl c_1 (by decide) ?_
    refine v_s mt_84 rfl rfl rfl ?_
    refine v_s mt_84 rfl rfl rfl ?_
    refine j_pi 7 mt_84 rfl rfl c_1 (by decide) ?_
    refine v_ic (v := Int32.ofInt 0) mt_84 rfl rfl ?_
    refine j_retb mt_84 rfl rfl (by decide) ?_
    exact j_retb mt_87 rfl rfl (by decide) h
set_option maxHeartbeats 600000 in
theorem b_88_0 {X : Nat × (Nat → Int32)} {d : Nat} {J : Nat → Nat → Int} {sw : Bool × Bool × Bool} {lg : Nat → Nat → Int64} {x : Nat} {K : (Option Value ⊕ Nat) → mM → Prop} (hd : 1 ≤ d)
    (h : ∃ (c2 : Int) (J1 : Nat → Nat → Int), EE X 0 85 [.ref 1] (mj J sw lg x) (.inl (some (iv c2))) (mj J1 sw lg x) ∧ VV X d 88 (13, [some (.ref 1)], [], mj (m_up J1 1 4 (J1 1 3)) sw lg x) K) : VV X d 88 (0, [some (.ref 1)], [], mj J sw lg x) K := by
  refine v_s mt_88 rfl rfl rfl ?_
  obtain ⟨c2, J1, z1, h⟩ := h
  refine v_call (d1 := 0) mt_88 rfl rfl mt_85 rfl rfl (m_callj (As := []) (rest := []) rfl rfl c_1 rfl (Nat.le_of_ble_eq_true rfl) (Nat.le_of_ble_eq_true rfl)) z1 (by clear h; omega) ?_
  refine v_s mt_88 rfl rfl rfl ?_
  refine v_s mt_88 rfl rfl rfl ?_
  refine v_s mt_88 rfl rfl rfl ?_
  refine j_gi (w := J1 1 3) 3 mt_88 rfl rfl c_1 (by decide) rfl ?_
  refine j_pi 4 mt_88 rfl rfl c_1 (by decide) ?_
  exact h
set_option maxHeartbeats 600000 in
theorem b_88_13 {X : Nat × (Nat → Int32)} {d : Nat} {J : Nat → Nat → Int} {sw : Bool × Bool × Bool} {lg : Nat → Nat → Int64} {x : Nat} {K : (Option Value ⊕ Nat) → mM → Prop} (hd : 1 ≤ d)
    (h : InR (J 1 3) ∧ InR (J 1 2) ∧ (J 1 2 ≤ J 1 3 → K (.inl none) (mj J sw lg x)) ∧ (J 1 3 < J 1 2 → ((0 ≤ J 1 3 ∧ J 1 3 < 600) ∧ InR (J 2 ((J 1 3).toNat)) ∧ (J 2 ((J 1 3).toNat) < 97 → K (.inl none) (mj J sw lg x)) ∧ (97 ≤ J 2 ((J 1 3).toNat) → ((122 < J 2 ((J 1 3).toNat) → K (.inl none) (mj J sw lg x)) ∧ (J 2 ((J 1 3).toNat) ≤ 122 → VV X d 88 (13, [some (.ref 1)], [], mj (m_up J 1 3 ((J 1 3) + 1)) sw lg x) K)))))) : VV X d 88 (13, [some (.ref 1)], [], mj J sw lg x) K := by
  refine v_s mt_88 rfl rfl rfl ?_
  refine j_gi (w := J 1 3) 3 mt_88 rfl rfl c_1 (by decide) rfl ?_
  refine v_s mt_88 rfl rfl rfl ?_
  refine j_gi (w := J 1 2) 2 mt_88 rfl rfl c_1 (by decide) rfl ?_
  obtain ⟨z1, h⟩ := h
  obtain ⟨z2, h⟩ := h
  refine j_if2 mt_88 rfl rfl z1 z2 (fun c => ?_) (fun c => ?_)
  · replace h := h.1 c
    exact v_ret mt_88 rfl rfl rfl h
  · replace h := h.2 (Int.not_le.mp c)
    refine v_s mt_88 rfl rfl rfl ?_
    refine v_gr (w := 2) 0 mt_88 rfl rfl c_1 (by decide) (g_8_0 c_1) ?_
    refine v_s mt_88 rfl rfl rfl ?_
    refine j_gi (w := J 1 3) 3 mt_88 rfl rfl c_1 (by decide) rfl ?_
    obtain ⟨z3, h⟩ := h
    refine j_al (w := J 2 ((J 1 3).toNat)) mt_88 rfl c_2 z3 (by decide) rfl ?_
    refine v_bp (v := Int32.ofInt 97) mt_88 rfl rfl ?_
    obtain ⟨z4, h⟩ := h
    refine j_if2 mt_88 rfl rfl z4 ⟨by decide, by decide⟩ (fun c => ?_) (fun c => ?_)
    · replace h := h.1 c
      exact v_ret mt_88 rfl rfl rfl h
    · replace h := h.2 (Int.not_lt.mp c)
      refine v_s mt_88 rfl rfl rfl ?_
      refine v_gr (w := 2) 0 mt_88 rfl rfl c_1 (by decide) (g_8_0 c_1) ?_
      refine v_s mt_88 rfl rfl rfl ?_
      refine j_gi (w := J 1 3) 3 mt_88 rfl rfl c_1 (by decide) rfl ?_
      refine j_al (w := J 2 ((J 1 3).toNat)) mt_88 rfl c_2 z3 (by decide) rfl ?_
      refine v_bp (v := Int32.ofInt 122) mt_88 rfl rfl ?_
      refine j_if2 mt_88 rfl rfl z4 ⟨by decide, by decide⟩ (fun c => ?_) (fun c => ?_)
      · replace h := h.1 c
        exact v_ret mt_88 rfl rfl rfl h
      · replace h := h.2 (Int.not_lt.mp c)
        refine v_s mt_88 rfl rfl rfl ?_
        refine v_s mt_88 rfl rfl rfl ?_
        refine j_gi (w := J 1 3) 3 mt_88 rfl rfl c_1 (by decide) rfl ?_
        refine v_ic (v := Int32.ofInt 1) mt_88 rfl rfl ?_
        refine j_add (e := (J 1 3) + 1) mt_88 rfl rfl ?_
        refine j_pi 3 mt_88 rfl rfl c_1 (by decide) ?_
        refine v_go mt_88 rfl rfl ?_
        exact h
set_option maxHeartbeats 600000 in
theorem b_89_0 {X : Nat × (Nat → Int32)} {d : Nat} {J : Nat → Nat → Int} {sw : Bool × Bool × Bool} {lg : Nat → Nat → Int64} {x : Nat} {K : (Option Value ⊕ Nat) → mM → Prop} {r1 : Nat} {t1 : List Int32} {o2 : Option Value} (ht1 : m_nstr mT r1 = some t1)
    (h : InR ((J 1 3) - (J 1 4)) ∧ InR (t1.length : Int) ∧ ((J 1 3) - (J 1 4) = (t1.length : Int) → VV X d 89 (20, [some (.ref 1), some (.ref r1), some (iv 0)], [], mj J sw lg x) K) ∧ (¬ (J 1 3) - (J 1 4) = (t1.length : Int) → K (.inl (some (iv 0))) (mj J sw lg x))) : VV X d 89 (0, [some (.ref 1), some (.ref r1), o2], [], mj J sw lg x) K := by
  refine v_s mt_89 rfl rfl rfl ?_
  refine j_gi (w := J 1 3) 3 mt_89 rfl rfl c_1 (by decide) rfl ?_
  refine v_s mt_89 rfl rfl rfl ?_
  refine j_gi (w := J 1 4) 4 mt_89 rfl rfl c_1 (by decide) rfl ?_
  refine j_sub (e := (J 1 3) - (J 1 4)) mt_89 rfl rfl ?_
  refine v_s mt_89 rfl rfl rfl ?_
  refine j_sl mt_89 rfl ht1 (Nat.le_of_ble_eq_true rfl) ?_
  obtain ⟨z1, h⟩ := h
  obtain ⟨z2, h⟩ := h
  refine j_if2 mt_89 rfl rfl z1 z2 (fun c => ?_) (fun c => ?_)
  · replace h := h.1 c
    refine v_ic (v := Int32.ofInt 0) mt_89 rfl rfl ?_
    refine v_isn (L' := [some (.ref 1), some (.ref r1), some (iv 0)]) mt_89 rfl (Nat.le_of_ble_eq_true rfl) rfl ?_
    exact h
  · replace h := h.2 c
    refine v_ic (v := Int32.ofInt 0) mt_89 rfl rfl ?_
    exact j_retb mt_89 rfl rfl (by decide) h
set_option maxHeartbeats 600000 in
theorem b_89_20 {X : Nat × (Nat → Int32)} {d : Nat} {J : Nat → Nat → Int} {sw : Bool × Bool × Bool} {lg : Nat → Nat → Int64} {x : Nat} {K : (Option Value ⊕ Nat) → mM → Prop} {r1 : Nat} {t1 : List Int32} {x2 : Int} (ht1 : m_nstr mT r1 = some t1)
    (h : InR x2 ∧ InR (t1.length : Int) ∧ ((t1.length : Int) ≤ x2 → K (.inl (some (iv 1))) (mj J sw lg x)) ∧ (x2 < (t1.length : Int) → ((0 ≤ (J 1 4) + x2 ∧ (J 1 4) + x2 < 600) ∧ (0 ≤ x2 ∧ x2 < 2147483648) ∧ ∃ ch1 : Int32, t1[x2.toNat]? = some ch1 ∧ InR (J 2 (((J 1 4) + x2).toNat)) ∧ InR ch1.toInt ∧ (J 2 (((J 1 4) + x2).toNat) = ch1.toInt → VV X d 89 (20, [some (.ref 1), some (.ref r1), some (iv (x2 + 1))], [], mj J sw lg x) K) ∧ (¬ J 2 (((J 1 4) + x2).toNat) = ch1.toInt → K (.inl (some (iv 0))) (mj J sw lg x))))) : VV X d 89 (20, [some (.ref 1), some (.ref r1), some (iv x2)], [], mj J sw lg x) K := by
  refine v_s mt_89 rfl rfl rfl ?_
  refine v_s mt_89 rfl rfl rfl ?_
  refine j_sl mt_89 rfl ht1 (Nat.le_of_ble_eq_true rfl) ?_
  obtain ⟨z1, h⟩ := h
  obtain ⟨z2, h⟩ := h
  refine j_if2 mt_89 rfl rfl z1 z2 (fun c => ?_) (fun c => ?_)
  · replace h := h.1 c
    refine v_ic (v := Int32.ofInt 1) mt_89 rfl rfl ?_
    exact j_retb mt_89 rfl rfl (by decide) h
  · replace h := h.2 (Int.not_le.mp c)
    refine v_s mt_89 rfl rfl rfl ?_
    refine v_gr (w := 2) 0 mt_89 rfl rfl c_1 (by decide) (g_8_0 c_1) ?_
    refine v_s mt_89 rfl rfl rfl ?_
    refine j_gi (w := J 1 4) 4 mt_89 rfl rfl c_1 (by decide) rfl ?_
    refine v_s mt_89 rfl rfl rfl ?_
    refine j_add (e := (J 1 4) + x2) mt_89 rfl rfl ?_
    obtain ⟨z3, h⟩ := h
    refine j_al (w := J 2 (((J 1 4) + x2).toNat)) mt_89 rfl c_2 z3 (by decide) rfl ?_
    refine v_s mt_89 rfl rfl rfl ?_
    refine v_s mt_89 rfl rfl rfl ?_
    obtain ⟨z4, ch1, z5, h⟩ := h
    refine j_sc mt_89 rfl ht1 (Nat.le_of_ble_eq_true rfl) z4 z5 ?_
    obtain ⟨z6, h⟩ := h
    obtain ⟨z7, h⟩ := h
    refine j_if2 mt_89 rfl rfl z6 z7 (fun c => ?_) (fun c => ?_)
    · replace h := h.1 c
      refine j_inc (e := x2 + 1) (L' := [some (.ref 1), some (.ref r1), some (iv (x2 + 1))]) mt_89 rfl rfl (Nat.le_of_ble_eq_true rfl) rfl rfl ?_
      refine v_go mt_89 rfl rfl ?_
      exact h
    · replace h := h.2 c
      refine v_ic (v := Int32.ofInt 0) mt_89 rfl rfl ?_
      exact j_retb mt_89 rfl rfl (by decide) h
set_option maxHeartbeats 600000 in
theorem b_90_0 {X : Nat × (Nat → Int32)} {d : Nat} {J : Nat → Nat → Int} {sw : Bool × Bool × Bool} {lg : Nat → Nat → Int64} {x : Nat} {K : (Option Value ⊕ Nat) → mM → Prop}
    (h : InR (J 1 3) ∧ InR (J 1 2) ∧ (J 1 2 ≤ J 1 3 → K (.inl (some (iv 0))) (mj J sw lg x)) ∧ (J 1 3 < J 1 2 → ((0 ≤ J 1 3 ∧ J 1 3 < 600) ∧ InR (J 2 ((J 1 3).toNat)) ∧ (J 2 ((J 1 3).toNat) < 48 → K (.inl (some (iv 0))) (mj J sw lg x)) ∧ (48 ≤ J 2 ((J 1 3).toNat) → ((57 < J 2 ((J 1 3).toNat) → K (.inl (some (iv 0))) (mj J sw lg x)) ∧ (J 2 ((J 1 3).toNat) ≤ 57 → K (.inl (some (iv 1))) (mj J sw lg x))))))) : VV X d 90 (0, [some (.ref 1)], [], mj J sw lg x) K := by
  refine v_s mt_90 rfl rfl rfl ?_
  refine j_gi (w := J 1 3) 3 mt_90 rfl rfl c_1 (by decide) rfl ?_
  refine v_s mt_90 rfl rfl rfl ?_
  refine j_gi (w := J 1 2) 2 mt_90 rfl rfl c_1 (by decide) rfl ?_
  obtain ⟨z1, h⟩ := h
  obtain ⟨z2, h⟩ := h
  refine j_if2 mt_90 rfl rfl z1 z2 (fun c => ?_) (fun c => ?_)
  · replace h := h.1 c
    refine v_ic (v := Int32.ofInt 0) mt_90 rfl rfl ?_
    exact j_retb mt_90 rfl rfl (by decide) h
  · replace h := h.2 (Int.not_le.mp c)
    refine v_s mt_90 rfl rfl rfl ?_
    refine v_gr (w := 2) 0 mt_90 rfl rfl c_1 (by decide) (g_8_0 c_1) ?_
    refine v_s mt_90 rfl rfl rfl ?_
    refine j_gi (w := J 1 3) 3 mt_90 rfl rfl c_1 (by decide) rfl ?_
    obtain ⟨z3, h⟩ := h
    refine j_al (w := J 2 ((J 1 3).toNat)) mt_90 rfl c_2 z3 (by decide) rfl ?_
    refine v_bp (v := Int32.ofInt 48) mt_90 rfl rfl ?_
    obtain ⟨z4, h⟩ := h
    refine j_if2 mt_90 rfl rfl z4 ⟨by decide, by decide⟩ (fun c => ?_) (fun c => ?_)
    · replace h := h.1 c
      refine v_ic (v := Int32.ofInt 0) mt_90 rfl rfl ?_
      exact j_retb mt_90 rfl rfl (by decide) h
    · replace h := h.2 (Int.not_lt.mp c)
      refine v_s mt_90 rfl rfl rfl ?_
      refine v_gr (w := 2) 0 mt_90 rfl rfl c_1 (by decide) (g_8_0 c_1) ?_
      refine v_s mt_90 rfl rfl rfl ?_
      refine j_gi (w := J 1 3) 3 mt_90 rfl rfl c_1 (by decide) rfl ?_
      refine j_al (w := J 2 ((J 1 3).toNat)) mt_90 rfl c_2 z3 (by decide) rfl ?_
      refine v_bp (v := Int32.ofInt 57) mt_90 rfl rfl ?_
      refine j_if2 mt_90 rfl rfl z4 ⟨by decide, by decide⟩ (fun c => ?_) (fun c => ?_)
      · replace h := h.1 c
        refine v_ic (v := Int32.ofInt 0) mt_90 rfl rfl ?_
        exact j_retb mt_90 rfl rfl (by decide) h
      · replace h := h.2 (Int.not_lt.mp c)
        refine v_ic (v := Int32.ofInt 1) mt_90 rfl rfl ?_
        refine v_go mt_90 rfl rfl ?_
        exact j_retb mt_90 rfl rfl (by decide) h
set_option maxHeartbeats 600000 in
theorem b_91_0 {X : Nat × (Nat → Int32)} {d : Nat} {J : Nat → Nat → Int} {sw : Bool × Bool × Bool} {lg : Nat → Nat → Int64} {x : Nat} {K : (Option Value ⊕ Nat) → mM → Prop} {x1 x2 : Int} (hd : 1 ≤ d)
    (h : ∃ (c2 : Int) (J1 : Nat → Nat → Int), EE X 0 85 [.ref 1] (mj J sw lg x) (.inl (some (iv c2))) (mj J1 sw lg x) ∧ ∃ (c4 : Int) (J3 : Nat → Nat → Int), EE X 0 90 [.ref 1] (mj (m_up (m_up J1 1 4 (J1 1 3)) 1 5 0) sw lg x) (.inl (some (iv c4))) (mj J3 sw lg x) ∧ InR c4 ∧ (¬ c4 = 0 → VV X d 91 (35, [some (.ref 1), some (iv x1), some (iv x2)], [], mj J3 sw lg x) K) ∧ (c4 = 0 → K (.inl (some (iv 0))) (mj (m_up (m_up J3 1 6 1) 1 7 (J3 1 3)) sw lg x))) : VV X d 91 (0, [some (.ref 1), some (iv x1), some (iv x2)], [], mj J sw lg x) K := by
  refine v_s mt_91 rfl rfl rfl ?_
  obtain ⟨c2, J1, z1, h⟩ := h
  refine v_call (d1 := 0) mt_91 rfl rfl mt_85 rfl rfl (m_callj (As := []) (rest := []) rfl rfl c_1 rfl (Nat.le_of_ble_eq_true rfl) (Nat.le_of_ble_eq_true rfl)) z1 (by clear h; omega) ?_
  refine v_s mt_91 rfl rfl rfl ?_
  refine v_s mt_91 rfl rfl rfl ?_
  refine v_s mt_91 rfl rfl rfl ?_
  refine j_gi (w := J1 1 3) 3 mt_91 rfl rfl c_1 (by decide) rfl ?_
  refine j_pi 4 mt_91 rfl rfl c_1 (by decide) ?_
  refine v_s mt_91 rfl rfl rfl ?_
  refine v_ic (v := Int32.ofInt 0) mt_91 rfl rfl ?_
  refine j_pi 5 mt_91 rfl rfl c_1 (by decide) ?_
  refine v_s mt_91 rfl rfl rfl ?_
  obtain ⟨c4, J3, z2, h⟩ := h
  refine v_call (d1 := 0) mt_91 rfl rfl mt_90 rfl rfl (m_callj (As := []) (rest := []) rfl rfl c_1 rfl (Nat.le_of_ble_eq_true rfl) (Nat.le_of_ble_eq_true rfl)) z2 (by clear h; omega) ?_
  obtain ⟨z3, h⟩ := h
  refine j_if1 mt_91 rfl rfl z3 (fun c => ?_) (fun c => ?_)
  · replace h := h.1 c
    exact h
  · replace h := h.2 (Decidable.not_not.mp c)
    refine v_s mt_91 rfl rfl rfl ?_
    refine v_ic (v := Int32.ofInt 1) mt_91 rfl rfl ?_
    refine v_s mt_91 rfl rfl rfl ?_
    refine j_gi (w := J3 1 3) 3 mt_91 rfl rfl c_1 (by decide) rfl ?_
    refine v_inl (L1 := [some (.ref 1), some (iv 1), some (iv (J3 1 3))]) mt_91 rfl rfl mt_84 rfl rfl (m_callj (As := [iv 1, iv (J3 1 3)]) (rest := []) rfl rfl c_1 rfl (Nat.le_of_ble_eq_true rfl) (Nat.le_of_ble_eq_true rfl)) rfl (by clear h; omega) ?_
    refine v_s mt_84 rfl rfl rfl ?_
    refine v_s mt_84 rfl rfl rfl ?_
    refine j_pi 6 mt_84 rfl rfl c_1 (by decide) ?_
    refine v_s mt_84 rfl rfl rfl ?_
    refine v_s mt_84 rfl rfl rfl ?_
    refine j_pi 7 mt_84 rfl rfl c_1 (by decide) ?_
    refine v_ic (v := Int32.ofInt 0) mt_84 rfl rfl ?_
    refine j_retb mt_84 rfl rfl (by decide) ?_
    exact j_retb mt_91 rfl rfl (by decide) h
set_option maxHeartbeats 600000 in
theorem b_91_35 {X : Nat × (Nat → Int32)} {d : Nat} {J : Nat → Nat → Int} {sw : Bool × Bool × Bool} {lg : Nat → Nat → Int64} {x : Nat} {K : (Option Value ⊕ Nat) → mM → Prop} {x1 x2 : Int} (hd : 1 ≤ d)
    (h : InR (J 1 3) ∧ InR (J 1 2) ∧ (J 1 2 ≤ J 1 3 → VV X d 91 (96, [some (.ref 1), some (iv x1), some (iv x2)], [], mj J sw lg x) K) ∧ (J 1 3 < J 1 2 → (∃ (c2 : Int) (J1 : Nat → Nat → Int), EE X 0 90 [.ref 1] (mj J sw lg x) (.inl (some (iv c2))) (mj J1 sw lg x) ∧ InR c2 ∧ (c2 = 0 → VV X d 91 (96, [some (.ref 1), some (iv x1), some (iv x2)], [], mj J1 sw lg x) K) ∧ (¬ c2 = 0 → ((0 ≤ J1 1 3 ∧ J1 1 3 < 600) ∧ InR ((((J1 1 5) * 10) + (J1 2 ((J1 1 3).toNat))) - 48) ∧ VV X d 91 (35, [some (.ref 1), some (iv x1), some (iv x2)], [], mj (m_up (m_up J1 1 5 (min 10000 ((((J1 1 5) * 10) + (J1 2 ((J1 1 3).toNat))) - 48))) 1 3 ((J1 1 3) + 1)) sw lg x) K))))) : VV X d 91 (35, [some (.ref 1), some (iv x1), some (iv x2)], [], mj J sw lg x) K := by
  refine v_s mt_91 rfl rfl rfl ?_
  refine j_gi (w := J 1 3) 3 mt_91 rfl rfl c_1 (by decide) rfl ?_
  refine v_s mt_91 rfl rfl rfl ?_
  refine j_gi (w := J 1 2) 2 mt_91 rfl rfl c_1 (by decide) rfl ?_
  obtain ⟨z1, h⟩ := h
  obtain ⟨z2, h⟩ := h
  refine j_if2 mt_91 rfl rfl z1 z2 (fun c => ?_) (fun c => ?_)
  · replace h := h.1 c
    exact h
  · replace h := h.2 (Int.not_le.mp c)
    refine v_s mt_91 rfl rfl rfl ?_
    obtain ⟨c2, J1, z3, h⟩ := h
    refine v_call (d1 := 0) mt_91 rfl rfl mt_90 rfl rfl (m_callj (As := []) (rest := []) rfl rfl c_1 rfl (Nat.le_of_ble_eq_true rfl) (Nat.le_of_ble_eq_true rfl)) z3 (by clear h; omega) ?_
    obtain ⟨z4, h⟩ := h
    refine j_if1 mt_91 rfl rfl z4 (fun c => ?_) (fun c => ?_)
    · replace h := h.1 c
      exact h
    · replace h := h.2 c
      refine v_s mt_91 rfl rfl rfl ?_
      refine v_sp (v := Int32.ofInt 10000) mt_91 rfl rfl ?_
      refine v_s mt_91 rfl rfl rfl ?_
      refine j_gi (w := J1 1 5) 5 mt_91 rfl rfl c_1 (by decide) rfl ?_
      refine v_bp (v := Int32.ofInt 10) mt_91 rfl rfl ?_
      refine j_mul (e := (J1 1 5) * 10) mt_91 rfl rfl ?_
      refine v_s mt_91 rfl rfl rfl ?_
      refine v_gr (w := 2) 0 mt_91 rfl rfl c_1 (by decide) (g_8_0 c_1) ?_
      refine v_s mt_91 rfl rfl rfl ?_
      refine j_gi (w := J1 1 3) 3 mt_91 rfl rfl c_1 (by decide) rfl ?_
      obtain ⟨z5, h⟩ := h
      refine j_al (w := J1 2 ((J1 1 3).toNat)) mt_91 rfl c_2 z5 (by decide) rfl ?_
      refine j_add (e := ((J1 1 5) * 10) + (J1 2 ((J1 1 3).toNat))) mt_91 rfl rfl ?_
      refine v_bp (v := Int32.ofInt 48) mt_91 rfl rfl ?_
      refine j_sub (e := (((J1 1 5) * 10) + (J1 2 ((J1 1 3).toNat))) - 48) mt_91 rfl rfl ?_
      obtain ⟨z6, h⟩ := h
      refine j_min mt_91 rfl (Nat.le_of_ble_eq_true rfl) ⟨by decide, by decide⟩ z6 ?_
      refine j_pi 5 mt_91 rfl rfl c_1 (by decide) ?_
      refine v_s mt_91 rfl rfl rfl ?_
      refine v_s mt_91 rfl rfl rfl ?_
      refine j_gi (w := J1 1 3) 3 mt_91 rfl rfl c_1 (by decide) ((up_nk (by decide)).trans rfl) ?_
      refine v_ic (v := Int32.ofInt 1) mt_91 rfl rfl ?_
      refine j_add (e := (J1 1 3) + 1) mt_91 rfl rfl ?_
      refine j_pi 3 mt_91 rfl rfl c_1 (by decide) ?_
      refine v_go mt_91 rfl rfl ?_
      exact h
set_option maxHeartbeats 600000 in
theorem b_91_96 {X : Nat × (Nat → Int32)} {d : Nat} {J : Nat → Nat → Int} {sw : Bool × Bool × Bool} {lg : Nat → Nat → Int64} {x : Nat} {K : (Option Value ⊕ Nat) → mM → Prop} {x1 x2 : Int} (hd : 1 ≤ d)
    (h : InR (J 1 5) ∧ InR x1 ∧ (J 1 5 < x1 → K (.inl (some (iv 0))) (mj (m_up (m_up J 1 6 2) 1 7 (J 1 4)) sw lg x)) ∧ (x1 ≤ J 1 5 → (InR x2 ∧ (J 1 5 ≤ x2 → K (.inl (some (iv 1))) (mj J sw lg x)) ∧ (x2 < J 1 5 → K (.inl (some (iv 0))) (mj (m_up (m_up J 1 6 2) 1 7 (J 1 4)) sw lg x))))) : VV X d 91 (96, [some (.ref 1), some (iv x1), some (iv x2)], [], mj J sw lg x) K := by
  refine v_s mt_91 rfl rfl rfl ?_
  refine j_gi (w := J 1 5) 5 mt_91 rfl rfl c_1 (by decide) rfl ?_
  refine v_s mt_91 rfl rfl rfl ?_
  obtain ⟨z1, h⟩ := h
  obtain ⟨z2, h⟩ := h
  refine j_if2 mt_91 rfl rfl z1 z2 (fun c => ?_) (fun c => ?_)
  · replace h := h.1 c
    refine v_s mt_91 rfl rfl rfl ?_
    refine v_ic (v := Int32.ofInt 2) mt_91 rfl rfl ?_
    refine v_s mt_91 rfl rfl rfl ?_
    refine j_gi (w := J 1 4) 4 mt_91 rfl rfl c_1 (by decide) rfl ?_
    refine v_inl (L1 := [some (.ref 1), some (iv 2), some (iv (J 1 4))]) mt_91 rfl rfl mt_84 rfl rfl (m_callj (As := [iv 2, iv (J 1 4)]) (rest := []) rfl rfl c_1 rfl (Nat.le_of_ble_eq_true rfl) (Nat.le_of_ble_eq_true rfl)) rfl (by clear h; omega) ?_
    refine v_s mt_84 rfl rfl rfl ?_
    refine v_s mt_84 rfl rfl rfl ?_
    refine j_pi 6 mt_84 rfl rfl c_1 (by decide) ?_
    refine v_s mt_84 rfl rfl rfl ?_
    refine v_s mt_84 rfl rfl rfl ?_
    refine j_pi 7 mt_84 rfl rfl c_1 (by decide) ?_
    refine v_ic (v := Int32.ofInt 0) mt_84 rfl rfl ?_
    refine j_retb mt_84 rfl rfl (by decide) ?_
    refine j_if1 mt_91 rfl rfl ⟨by decide, by decide⟩ (fun _ => ?_) (fun c => (c (show (0 : Int) = 0 by decide)).elim)
    refine v_ic (v := Int32.ofInt 0) mt_91 rfl rfl ?_
    exact j_retb mt_91 rfl rfl (by decide) h
  · replace h := h.2 (Int.not_lt.mp c)
    refine v_s mt_91 rfl rfl rfl ?_
    refine j_gi (w := J 1 5) 5 mt_91 rfl rfl c_1 (by decide) rfl ?_
    refine v_s mt_91 rfl rfl rfl ?_
    obtain ⟨z3, h⟩ := h
    refine j_if2 mt_91 rfl rfl z1 z3 (fun c => ?_) (fun c => ?_)
    · replace h := h.1 c
      refine v_ic (v := Int32.ofInt 1) mt_91 rfl rfl ?_
      refine v_go mt_91 rfl rfl ?_
      exact j_retb mt_91 rfl rfl (by decide) h
    · replace h := h.2 (Int.not_le.mp c)
      refine v_s mt_91 rfl rfl rfl ?_
      refine v_ic (v := Int32.ofInt 2) mt_91 rfl rfl ?_
      refine v_s mt_91 rfl rfl rfl ?_
      refine j_gi (w := J 1 4) 4 mt_91 rfl rfl c_1 (by decide) rfl ?_
      refine v_inl (L1 := [some (.ref 1), some (iv 2), some (iv (J 1 4))]) mt_91 rfl rfl mt_84 rfl rfl (m_callj (As := [iv 2, iv (J 1 4)]) (rest := []) rfl rfl c_1 rfl (Nat.le_of_ble_eq_true rfl) (Nat.le_of_ble_eq_true rfl)) rfl (by clear h; omega) ?_
      refine v_s mt_84 rfl rfl rfl ?_
      refine v_s mt_84 rfl rfl rfl ?_
      refine j_pi 6 mt_84 rfl rfl c_1 (by decide) ?_
      refine v_s mt_84 rfl rfl rfl ?_
      refine v_s mt_84 rfl rfl rfl ?_
      refine j_pi 7 mt_84 rfl rfl c_1 (by decide) ?_
      refine v_ic (v := Int32.ofInt 0) mt_84 rfl rfl ?_
      refine j_retb mt_84 rfl rfl (by decide) ?_
      refine j_if1 mt_91 rfl rfl ⟨by decide, by decide⟩ (fun _ => ?_) (fun c => (c (show (0 : Int) = 0 by decide)).elim)
      refine v_ic (v := Int32.ofInt 0) mt_91 rfl rfl ?_
      exact j_retb mt_91 rfl rfl (by decide) h
set_option maxHeartbeats 600000 in
theorem b_167_0 {X : Nat × (Nat → Int32)} {d : Nat} {J : Nat → Nat → Int} {sw : Bool × Bool × Bool} {lg : Nat → Nat → Int64} {x : Nat} {K : (Option Value ⊕ Nat) → mM → Prop}
    (h : InR (J 542 4) ∧ InR (J 542 3) ∧ (J 542 3 ≤ J 542 4 → VV X d 167 (38, [some (.ref 542)], [], mj J sw lg x) K) ∧ (J 542 4 < J 542 3 → ((0 ≤ J 542 4 ∧ J 542 4 < 600) ∧ InR (J 544 ((J 542 4).toNat)) ∧ (¬ J 544 ((J 542 4).toNat) = 32 → VV X d 167 (38, [some (.ref 542)], [], mj J sw lg x) K) ∧ (J 544 ((J 542 4).toNat) = 32 → VV X d 167 (0, [some (.ref 542)], [], mj (m_up J 542 4 ((J 542 4) + 1)) sw lg x) K)))) : VV X d 167 (0, [some (.ref 542)], [], mj J sw lg x) K := by
  refine v_s mt_167 rfl rfl rfl ?_
  refine j_gi (w := J 542 4) 4 mt_167 rfl rfl c_542 (by decide) rfl ?_
  refine v_s mt_167 rfl rfl rfl ?_
  refine j_gi (w := J 542 3) 3 mt_167 rfl rfl c_542 (by decide) rfl ?_
  obtain ⟨z1, h⟩ := h
  obtain ⟨z2, h⟩ := h
  refine j_if2 mt_167 rfl rfl z1 z2 (fun c => ?_) (fun c => ?_)
  · replace h := h.1 c
    exact h
  · replace h := h.2 (Int.not_le.mp c)
    refine v_s mt_167 rfl rfl rfl ?_
    refine v_gr (w := 544) 9 mt_167 rfl rfl c_542 (by decide) (g_12_9 c_542) ?_
    refine v_s mt_167 rfl rfl rfl ?_
    refine j_gi (w := J 542 4) 4 mt_167 rfl rfl c_542 (by decide) rfl ?_
    obtain ⟨z3, h⟩ := h
    refine j_al (w := J 544 ((J 542 4).toNat)) mt_167 rfl c_544 z3 (by decide) rfl ?_
    refine v_bp (v := Int32.ofInt 32) mt_167 rfl rfl ?_
    obtain ⟨z4, h⟩ := h
    refine j_if2 mt_167 rfl rfl z4 ⟨by decide, by decide⟩ (fun c => ?_) (fun c => ?_)
    · replace h := h.1 c
      exact h
    · replace h := h.2 (Decidable.not_not.mp c)
      refine v_s mt_167 rfl rfl rfl ?_
      refine v_s mt_167 rfl rfl rfl ?_
      refine j_gi (w := J 542 4) 4 mt_167 rfl rfl c_542 (by decide) rfl ?_
      refine v_ic (v := Int32.ofInt 1) mt_167 rfl rfl ?_
      refine j_add (e := (J 542 4) + 1) mt_167 rfl rfl ?_
      refine j_pi 4 mt_167 rfl rfl c_542 (by decide) ?_
      refine v_go mt_167 rfl rfl ?_
      exact h
set_option maxHeartbeats 600000 in
theorem b_167_38 {X : Nat × (Nat → Int32)} {d : Nat} {J : Nat → Nat → Int} {sw : Bool × Bool × Bool} {lg : Nat → Nat → Int64} {x : Nat} {K : (Option Value ⊕ Nat) → mM → Prop}
    (h : InR (J 542 4) ∧ InR (J 542 3) ∧ (J 542 3 ≤ J 542 4 → K (.inl (some (iv 0))) (mj J sw lg x)) ∧ (J 542 4 < J 542 3 → ((0 ≤ J 542 4 ∧ J 542 4 < 600) ∧ K (.inl (some (iv (J 544 ((J 542 4).toNat))))) (mj J sw lg x)))) : VV X d 167 (38, [some (.ref 542)], [], mj J sw lg x) K := by
  refine v_s mt_167 rfl rfl rfl ?_
  refine j_gi (w := J 542 4) 4 mt_167 rfl rfl c_542 (by decide) rfl ?_
  refine v_s mt_167 rfl rfl rfl ?_
  refine j_gi (w := J 542 3) 3 mt_167 rfl rfl c_542 (by decide) rfl ?_
  obtain ⟨z1, h⟩ := h
  obtain ⟨z2, h⟩ := h
  refine j_if2 mt_167 rfl rfl z1 z2 (fun c => ?_) (fun c => ?_)
  · replace h := h.1 c
    refine v_ic (v := Int32.ofInt 0) mt_167 rfl rfl ?_
    exact v_ret mt_167 rfl rfl rfl h
  · replace h := h.2 (Int.not_le.mp c)
    refine v_s mt_167 rfl rfl rfl ?_
    refine v_gr (w := 544) 9 mt_167 rfl rfl c_542 (by decide) (g_12_9 c_542) ?_
    refine v_s mt_167 rfl rfl rfl ?_
    refine j_gi (w := J 542 4) 4 mt_167 rfl rfl c_542 (by decide) rfl ?_
    obtain ⟨z3, h⟩ := h
    refine j_al (w := J 544 ((J 542 4).toNat)) mt_167 rfl c_544 z3 (by decide) rfl ?_
    refine v_go mt_167 rfl rfl ?_
    exact v_ret mt_167 rfl rfl rfl h
set_option maxHeartbeats 600000 in
theorem b_170_0 {X : Nat × (Nat → Int32)} {d : Nat} {J : Nat → Nat → Int} {sw : Bool × Bool × Bool} {lg : Nat → Nat → Int64} {x : Nat} {K : (Option Value ⊕ Nat) → mM → Prop} {o1 o2 o3 : Option Value} (hd : 1 ≤ d)
    (h : ∃ (c2 : Int) (J1 : Nat → Nat → Int), EE X 0 167 [.ref 542] (mj J sw lg x) (.inl (some (iv c2))) (mj J1 sw lg x) ∧ VV X d 170 (14, [some (.ref 542), some (iv 0), some (iv 0), some (iv (J1 542 4))], [], mj J1 sw lg x) K) : VV X d 170 (0, [some (.ref 542), o1, o2, o3], [], mj J sw lg x) K := by
  refine v_s mt_170 rfl rfl rfl ?_
  obtain ⟨c2, J1, z1, h⟩ := h
  refine v_call (d1 := 0) mt_170 rfl rfl mt_167 rfl rfl (m_callj (As := []) (rest := []) rfl rfl c_542 rfl (Nat.le_of_ble_eq_true rfl) (Nat.le_of_ble_eq_true rfl)) z1 (by clear h; omega) ?_
  refine v_s mt_170 rfl rfl rfl ?_
  refine v_ic (v := Int32.ofInt 0) mt_170 rfl rfl ?_
  refine v_isn (L' := [some (.ref 542), some (iv 0), o2, o3]) mt_170 rfl (Nat.le_of_ble_eq_true rfl) rfl ?_
  refine v_ic (v := Int32.ofInt 0) mt_170 rfl rfl ?_
  refine v_isn (L' := [some (.ref 542), some (iv 0), some (iv 0), o3]) mt_170 rfl (Nat.le_of_ble_eq_true rfl) rfl ?_
  refine v_s mt_170 rfl rfl rfl ?_
  refine j_gi (w := J1 542 4) 4 mt_170 rfl rfl c_542 (by decide) rfl ?_
  refine v_isn (L' := [some (.ref 542), some (iv 0), some (iv 0), some (iv (J1 542 4))]) mt_170 rfl (Nat.le_of_ble_eq_true rfl) rfl ?_
  exact h
set_option maxHeartbeats 600000 in
theorem b_170_14 {X : Nat × (Nat → Int32)} {d : Nat} {J : Nat → Nat → Int} {sw : Bool × Bool × Bool} {lg : Nat → Nat → Int64} {x : Nat} {K : (Option Value ⊕ Nat) → mM → Prop} {x1 x2 x3 : Int} (hd : 1 ≤ d)
    (h : InR x3 ∧ InR (J 542 3) ∧ (J 542 3 ≤ x3 → VV X d 170 (67, [some (.ref 542), some (iv x1), some (iv x2), some (iv x3)], [], mj J sw lg x) K) ∧ (x3 < J 542 3 → ((0 ≤ x3 ∧ x3 < 600) ∧ InR (J 544 x3.toNat) ∧ (J 544 x3.toNat < 97 → VV X d 170 (67, [some (.ref 542), some (iv x1), some (iv x2), some (iv x3)], [], mj J sw lg x) K) ∧ (97 ≤ J 544 x3.toNat → ((122 < J 544 x3.toNat → VV X d 170 (67, [some (.ref 542), some (iv x1), some (iv x2), some (iv x3)], [], mj J sw lg x) K) ∧ (J 544 x3.toNat ≤ 122 → (InR x2 ∧ (6 ≤ x2 → VV X d 170 (14, [some (.ref 542), some (iv 0), some (iv (x2 + 1)), some (iv (x3 + 1))], [], mj J sw lg x) K) ∧ (x2 < 6 → VV X d 170 (14, [some (.ref 542), some (iv (bOr (bShl x1 5) ((J 544 x3.toNat) - 96))), some (iv (x2 + 1)), some (iv (x3 + 1))], [], mj J sw lg x) K)))))))) : VV X d 170 (14, [some (.ref 542), some (iv x1), some (iv x2), some (iv x3)], [], mj J sw lg x) K := by
  refine v_s mt_170 rfl rfl rfl ?_
  refine v_s mt_170 rfl rfl rfl ?_
  refine j_gi (w := J 542 3) 3 mt_170 rfl rfl c_542 (by decide) rfl ?_
  obtain ⟨z1, h⟩ := h
  obtain ⟨z2, h⟩ := h
  refine j_if2 mt_170 rfl rfl z1 z2 (fun c => ?_) (fun c => ?_)
  · replace h := h.1 c
    exact h
  · replace h := h.2 (Int.not_le.mp c)
    refine v_s mt_170 rfl rfl rfl ?_
    refine v_gr (w := 544) 9 mt_170 rfl rfl c_542 (by decide) (g_12_9 c_542) ?_
    refine v_s mt_170 rfl rfl rfl ?_
    obtain ⟨z3, h⟩ := h
    refine j_al (w := J 544 x3.toNat) mt_170 rfl c_544 z3 (by decide) rfl ?_
    refine v_inl (L1 := [some (iv (J 544 x3.toNat))]) mt_170 rfl rfl mt_168 rfl rfl rfl rfl (by clear h; omega) ?_
    refine v_s mt_168 rfl rfl rfl ?_
    refine v_bp (v := Int32.ofInt 97) mt_168 rfl rfl ?_
    obtain ⟨z4, h⟩ := h
    refine j_if2 mt_168 rfl rfl z4 ⟨by decide, by decide⟩ (fun c => ?_) (fun c => ?_)
    · replace h := h.1 c
      refine v_ic (v := Int32.ofInt 0) mt_168 rfl rfl ?_
      refine j_retb mt_168 rfl rfl (by decide) ?_
      refine j_if1 mt_170 rfl rfl ⟨by decide, by decide⟩ (fun _ => ?_) (fun c => (c (show (0 : Int) = 0 by decide)).elim)
      exact h
    · replace h := h.2 (Int.not_lt.mp c)
      refine v_s mt_168 rfl rfl rfl ?_
      refine v_bp (v := Int32.ofInt 122) mt_168 rfl rfl ?_
      refine j_if2 mt_168 rfl rfl z4 ⟨by decide, by decide⟩ (fun c => ?_) (fun c => ?_)
      · replace h := h.1 c
        refine v_ic (v := Int32.ofInt 0) mt_168 rfl rfl ?_
        refine j_retb mt_168 rfl rfl (by decide) ?_
        refine j_if1 mt_170 rfl rfl ⟨by decide, by decide⟩ (fun _ => ?_) (fun c => (c (show (0 : Int) = 0 by decide)).elim)
        exact h
      · replace h := h.2 (Int.not_lt.mp c)
        refine v_ic (v := Int32.ofInt 1) mt_168 rfl rfl ?_
        refine v_go mt_168 rfl rfl ?_
        refine j_retb mt_168 rfl rfl (by decide) ?_
        refine j_if1 mt_170 rfl rfl ⟨by decide, by decide⟩ (fun c => absurd (show (1 : Int) = 0 from c) (by decide)) (fun _ => ?_)
        refine v_s mt_170 rfl rfl rfl ?_
        refine v_bp (v := Int32.ofInt 6) mt_170 rfl rfl ?_
        obtain ⟨z5, h⟩ := h
        refine j_if2 mt_170 rfl rfl z5 ⟨by decide, by decide⟩ (fun c => ?_) (fun c => ?_)
        · replace h := h.1 c
          refine v_ic (v := Int32.ofInt 0) mt_170 rfl rfl ?_
          refine v_isn (L' := [some (.ref 542), some (iv 0), some (iv x2), some (iv x3)]) mt_170 rfl (Nat.le_of_ble_eq_true rfl) rfl ?_
          refine j_inc (e := x2 + 1) (L' := [some (.ref 542), some (iv 0), some (iv (x2 + 1)), some (iv x3)]) mt_170 rfl rfl (Nat.le_of_ble_eq_true rfl) rfl rfl ?_
          refine j_inc (e := x3 + 1) (L' := [some (.ref 542), some (iv 0), some (iv (x2 + 1)), some (iv (x3 + 1))]) mt_170 rfl rfl (Nat.le_of_ble_eq_true rfl) rfl rfl ?_
          refine v_go mt_170 rfl rfl ?_
          exact h
        · replace h := h.2 (Int.not_le.mp c)
          refine v_s mt_170 rfl rfl rfl ?_
          refine v_ic (v := Int32.ofInt 5) mt_170 rfl rfl ?_
          refine j_shl (e := bShl x1 5) mt_170 rfl rfl ?_
          refine v_s mt_170 rfl rfl rfl ?_
          refine v_gr (w := 544) 9 mt_170 rfl rfl c_542 (by decide) (g_12_9 c_542) ?_
          refine v_s mt_170 rfl rfl rfl ?_
          refine j_al (w := J 544 x3.toNat) mt_170 rfl c_544 z3 (by decide) rfl ?_
          refine v_bp (v := Int32.ofInt 96) mt_170 rfl rfl ?_
          refine j_sub (e := (J 544 x3.toNat) - 96) mt_170 rfl rfl ?_
          refine j_or (e := bOr (bShl x1 5) ((J 544 x3.toNat) - 96)) mt_170 rfl rfl ?_
          refine v_go mt_170 rfl rfl ?_
          refine v_isn (L' := [some (.ref 542), some (iv (bOr (bShl x1 5) ((J 544 x3.toNat) - 96))), some (iv x2), some (iv x3)]) mt_170 rfl (Nat.le_of_ble_eq_true rfl) rfl ?_
          refine j_inc (e := x2 + 1) (L' := [some (.ref 542), some (iv (bOr (bShl x1 5) ((J 544 x3.toNat) - 96))), some (iv (x2 + 1)), some (iv x3)]) mt_170 rfl rfl (Nat.le_of_ble_eq_true rfl) rfl rfl ?_
          refine j_inc (e := x3 + 1) (L' := [some (.ref 542), some (iv (bOr (bShl x1 5) ((J 544 x3.toNat) - 96))), some (iv (x2 + 1)), some (iv (x3 + 1))]) mt_170 rfl rfl (Nat.le_of_ble_eq_true rfl) rfl rfl ?_
          refine v_go mt_170 rfl rfl ?_
          exact h
set_option maxHeartbeats 600000 in
theorem b_170_67 {X : Nat × (Nat → Int32)} {d : Nat} {J : Nat → Nat → Int} {sw : Bool × Bool × Bool} {lg : Nat → Nat → Int64} {x : Nat} {K : (Option Value ⊕ Nat) → mM → Prop} {x1 x2 x3 : Int} {o0 : Option Value} (hd : 1 ≤ d)
    (h : InR x2 ∧ (x2 ≤ 6 → K (.inl (some (iv x1))) (mj J sw lg x)) ∧ (6 < x2 → K (.inl (some (iv 0))) (mj J sw lg x))) : VV X d 170 (67, [o0, some (iv x1), some (iv x2), some (iv x3)], [], mj J sw lg x) K := by
  refine v_s mt_170 rfl rfl rfl ?_
  refine v_bp (v := Int32.ofInt 6) mt_170 rfl rfl ?_
  obtain ⟨z1, h⟩ := h
  refine j_if2 mt_170 rfl rfl z1 ⟨by decide, by decide⟩ (fun c => ?_) (fun c => ?_)
  · replace h := h.1 c
    refine v_s mt_170 rfl rfl rfl ?_
    exact v_ret mt_170 rfl rfl rfl h
  · replace h := h.2 (Int.not_le.mp c)
    refine v_ic (v := Int32.ofInt 0) mt_170 rfl rfl ?_
    refine v_go mt_170 rfl rfl ?_
    exact v_ret mt_170 rfl rfl rfl h
set_option maxHeartbeats 600000 in
theorem b_171_0 {X : Nat × (Nat → Int32)} {d : Nat} {J : Nat → Nat → Int} {sw : Bool × Bool × Bool} {lg : Nat → Nat → Int64} {x : Nat} {K : (Option Value ⊕ Nat) → mM → Prop} {r0 : Nat} {t0 : List Int32} {o1 o2 : Option Value} (ht0 : m_nstr mT r0 = some t0)
    (h : VV X d 171 (4, [some (.ref r0), some (iv 0), some (iv 0)], [], mj J sw lg x) K) : VV X d 171 (0, [some (.ref r0), o1, o2], [], mj J sw lg x) K := by
  refine v_ic (v := Int32.ofInt 0) mt_171 rfl rfl ?_
  refine v_isn (L' := [some (.ref r0), some (iv 0), o2]) mt_171 rfl (Nat.le_of_ble_eq_true rfl) rfl ?_
  refine v_ic (v := Int32.ofInt 0) mt_171 rfl rfl ?_
  refine v_isn (L' := [some (.ref r0), some (iv 0), some (iv 0)]) mt_171 rfl (Nat.le_of_ble_eq_true rfl) rfl ?_
  exact h
set_option maxHeartbeats 600000 in
theorem b_171_4 {X : Nat × (Nat → Int32)} {d : Nat} {J : Nat → Nat → Int} {sw : Bool × Bool × Bool} {lg : Nat → Nat → Int64} {x : Nat} {K : (Option Value ⊕ Nat) → mM → Prop} {r0 : Nat} {t0 : List Int32} {x1 x2 : Int} (ht0 : m_nstr mT r0 = some t0)
    (h : InR x2 ∧ InR (t0.length : Int) ∧ ((t0.length : Int) ≤ x2 → K (.inl (some (iv x1))) (mj J sw lg x)) ∧ (x2 < (t0.length : Int) → ((0 ≤ x2 ∧ x2 < 2147483648) ∧ ∃ ch1 : Int32, t0[x2.toNat]? = some ch1 ∧ VV X d 171 (4, [some (.ref r0), some (iv (bOr (bShl x1 5) (ch1.toInt - 96))), some (iv (x2 + 1))], [], mj J sw lg x) K))) : VV X d 171 (4, [some (.ref r0), some (iv x1), some (iv x2)], [], mj J sw lg x) K := by
  refine v_s mt_171 rfl rfl rfl ?_
  refine v_s mt_171 rfl rfl rfl ?_
  refine j_sl mt_171 rfl ht0 (Nat.le_of_ble_eq_true rfl) ?_
  obtain ⟨z1, h⟩ := h
  obtain ⟨z2, h⟩ := h
  refine j_if2 mt_171 rfl rfl z1 z2 (fun c => ?_) (fun c => ?_)
  · replace h := h.1 c
    refine v_s mt_171 rfl rfl rfl ?_
    exact v_ret mt_171 rfl rfl rfl h
  · replace h := h.2 (Int.not_le.mp c)
    refine v_s mt_171 rfl rfl rfl ?_
    refine v_ic (v := Int32.ofInt 5) mt_171 rfl rfl ?_
    refine j_shl (e := bShl x1 5) mt_171 rfl rfl ?_
    refine v_s mt_171 rfl rfl rfl ?_
    refine v_s mt_171 rfl rfl rfl ?_
    obtain ⟨z3, ch1, z4, h⟩ := h
    refine j_sc mt_171 rfl ht0 (Nat.le_of_ble_eq_true rfl) z3 z4 ?_
    refine v_bp (v := Int32.ofInt 96) mt_171 rfl rfl ?_
    refine j_sub (e := ch1.toInt - 96) mt_171 rfl rfl ?_
    refine j_or (e := bOr (bShl x1 5) (ch1.toInt - 96)) mt_171 rfl rfl ?_
    refine v_isn (L' := [some (.ref r0), some (iv (bOr (bShl x1 5) (ch1.toInt - 96))), some (iv x2)]) mt_171 rfl (Nat.le_of_ble_eq_true rfl) rfl ?_
    refine j_inc (e := x2 + 1) (L' := [some (.ref r0), some (iv (bOr (bShl x1 5) (ch1.toInt - 96))), some (iv (x2 + 1))]) mt_171 rfl rfl (Nat.le_of_ble_eq_true rfl) rfl rfl ?_
    refine v_go mt_171 rfl rfl ?_
    exact h
set_option maxHeartbeats 600000 in
theorem b_172_0 {X : Nat × (Nat → Int32)} {d : Nat} {J : Nat → Nat → Int} {sw : Bool × Bool × Bool} {lg : Nat → Nat → Int64} {x : Nat} {K : (Option Value ⊕ Nat) → mM → Prop} (hd : 1 ≤ d)
    (h : InR (J 542 4) ∧ InR (J 542 3) ∧ (J 542 3 ≤ J 542 4 → K (.inl none) (mj J sw lg x)) ∧ (J 542 4 < J 542 3 → ((0 ≤ J 542 4 ∧ J 542 4 < 600) ∧ InR (J 544 ((J 542 4).toNat)) ∧ (J 544 ((J 542 4).toNat) < 97 → K (.inl none) (mj J sw lg x)) ∧ (97 ≤ J 544 ((J 542 4).toNat) → ((122 < J 544 ((J 542 4).toNat) → K (.inl none) (mj J sw lg x)) ∧ (J 544 ((J 542 4).toNat) ≤ 122 → VV X d 172 (0, [some (.ref 542)], [], mj (m_up J 542 4 ((J 542 4) + 1)) sw lg x) K)))))) : VV X d 172 (0, [some (.ref 542)], [], mj J sw lg x) K := by
  refine v_s mt_172 rfl rfl rfl ?_
  refine j_gi (w := J 542 4) 4 mt_172 rfl rfl c_542 (by decide) rfl ?_
  refine v_s mt_172 rfl rfl rfl ?_
  refine j_gi (w := J 542 3) 3 mt_172 rfl rfl c_542 (by decide) rfl ?_
  obtain ⟨z1, h⟩ := h
  obtain ⟨z2, h⟩ := h
  refine j_if2 mt_172 rfl rfl z1 z2 (fun c => ?_) (fun c => ?_)
  · replace h := h.1 c
    exact v_ret mt_172 rfl rfl rfl h
  · replace h := h.2 (Int.not_le.mp c)
    refine v_s mt_172 rfl rfl rfl ?_
    refine v_gr (w := 544) 9 mt_172 rfl rfl c_542 (by decide) (g_12_9 c_542) ?_
    refine v_s mt_172 rfl rfl rfl ?_
    refine j_gi (w := J 542 4) 4 mt_172 rfl rfl c_542 (by decide) rfl ?_
    obtain ⟨z3, h⟩ := h
    refine j_al (w := J 544 ((J 542 4).toNat)) mt_172 rfl c_544 z3 (by decide) rfl ?_
    refine v_inl (L1 := [some (iv (J 544 ((J 542 4).toNat)))]) mt_172 rfl rfl mt_168 rfl rfl rfl rfl (by clear h; omega) ?_
    refine v_s mt_168 rfl rfl rfl ?_
    refine v_bp (v := Int32.ofInt 97) mt_168 rfl rfl ?_
    obtain ⟨z4, h⟩ := h
    refine j_if2 mt_168 rfl rfl z4 ⟨by decide, by decide⟩ (fun c => ?_) (fun c => ?_)
    · replace h := h.1 c
      refine v_ic (v := Int32.ofInt 0) mt_168 rfl rfl ?_
      refine j_retb mt_168 rfl rfl (by decide) ?_
      refine j_if1 mt_172 rfl rfl ⟨by decide, by decide⟩ (fun _ => ?_) (fun c => (c (show (0 : Int) = 0 by decide)).elim)
      exact v_ret mt_172 rfl rfl rfl h
    · replace h := h.2 (Int.not_lt.mp c)
      refine v_s mt_168 rfl rfl rfl ?_
      refine v_bp (v := Int32.ofInt 122) mt_168 rfl rfl ?_
      refine j_if2 mt_168 rfl rfl z4 ⟨by decide, by decide⟩ (fun c => ?_) (fun c => ?_)
      · replace h := h.1 c
        refine v_ic (v := Int32.ofInt 0) mt_168 rfl rfl ?_
        refine j_retb mt_168 rfl rfl (by decide) ?_
        refine j_if1 mt_172 rfl rfl ⟨by decide, by decide⟩ (fun _ => ?_) (fun c => (c (show (0 : Int) = 0 by decide)).elim)
        exact v_ret mt_172 rfl rfl rfl h
      · replace h := h.2 (Int.not_lt.mp c)
        refine v_ic (v := Int32.ofInt 1) mt_168 rfl rfl ?_
        refine v_go mt_168 rfl rfl ?_
        refine j_retb mt_168 rfl rfl (by decide) ?_
        refine j_if1 mt_172 rfl rfl ⟨by decide, by decide⟩ (fun c => absurd (show (1 : Int) = 0 from c) (by decide)) (fun _ => ?_)
        refine v_s mt_172 rfl rfl rfl ?_
        refine v_s mt_172 rfl rfl rfl ?_
        refine j_gi (w := J 542 4) 4 mt_172 rfl rfl c_542 (by decide) rfl ?_
        refine v_ic (v := Int32.ofInt 1) mt_172 rfl rfl ?_
        refine j_add (e := (J 542 4) + 1) mt_172 rfl rfl ?_
        refine j_pi 4 mt_172 rfl rfl c_542 (by decide) ?_
        refine v_go mt_172 rfl rfl ?_
        exact h
set_option maxHeartbeats 600000 in
theorem b_173_0 {X : Nat × (Nat → Int32)} {d : Nat} {J : Nat → Nat → Int} {sw : Bool × Bool × Bool} {lg : Nat → Nat → Int64} {x : Nat} {K : (Option Value ⊕ Nat) → mM → Prop} {x1 x2 : Int} {o3 o4 o5 : Option Value} (hd : 1 ≤ d)
    (h : InR (J 542 5) ∧ (¬ J 542 5 = (-1) → K (.inl (some (iv 0))) (mj J sw lg x)) ∧ (J 542 5 = (-1) → (∃ (c2 : Int) (J1 : Nat → Nat → Int), EE X 0 167 [.ref 542] (mj J sw lg x) (.inl (some (iv c2))) (mj J1 sw lg x) ∧ InR c2 ∧ (c2 < 48 → VV X d 173 (30, [some (.ref 542), some (iv x1), some (iv x2), some (iv c2), some (iv (J1 542 4)), some (iv 0)], [], mj J1 sw lg x) K) ∧ (48 ≤ c2 → ((57 < c2 → VV X d 173 (30, [some (.ref 542), some (iv x1), some (iv x2), some (iv c2), some (iv (J1 542 4)), some (iv 0)], [], mj J1 sw lg x) K) ∧ (c2 ≤ 57 → VV X d 173 (41, [some (.ref 542), some (iv x1), some (iv x2), some (iv c2), some (iv (J1 542 4)), some (iv 0)], [], mj J1 sw lg x) K)))))) : VV X d 173 (0, [some (.ref 542), some (iv x1), some (iv x2), o3, o4, o5], [], mj J sw lg x) K := by
  refine v_s mt_173 rfl rfl rfl ?_
  refine v_inl (L1 := [some (.ref 542)]) mt_173 rfl rfl mt_165 rfl rfl (m_callj (As := []) (rest := []) rfl rfl c_542 rfl (Nat.le_of_ble_eq_true rfl) (Nat.le_of_ble_eq_true rfl)) rfl (by clear h; omega) ?_
  refine v_s mt_165 rfl rfl rfl ?_
  refine j_gi (w := J 542 5) 5 mt_165 rfl rfl c_542 (by decide) rfl ?_
  refine v_ic (v := Int32.ofInt (-1)) mt_165 rfl rfl ?_
  obtain ⟨z1, h⟩ := h
  refine j_if2 mt_165 rfl rfl z1 ⟨by decide, by decide⟩ (fun c => ?_) (fun c => ?_)
  · replace h := h.1 c
    refine v_ic (v := Int32.ofInt 0) mt_165 rfl rfl ?_
    refine j_retb mt_165 rfl rfl (by decide) ?_
    refine j_if1 mt_173 rfl rfl ⟨by decide, by decide⟩ (fun c => absurd (show ¬ (0 : Int) = 0 from c) (by decide)) (fun _ => ?_)
    refine v_ic (v := Int32.ofInt 0) mt_173 rfl rfl ?_
    exact v_ret mt_173 rfl rfl rfl h
  · replace h := h.2 (Decidable.not_not.mp c)
    refine v_ic (v := Int32.ofInt 1) mt_165 rfl rfl ?_
    refine v_go mt_165 rfl rfl ?_
    refine j_retb mt_165 rfl rfl (by decide) ?_
    refine j_if1 mt_173 rfl rfl ⟨by decide, by decide⟩ (fun _ => ?_) (fun c => (c (show ¬ (1 : Int) = 0 by decide)).elim)
    refine v_s mt_173 rfl rfl rfl ?_
    obtain ⟨c2, J1, z2, h⟩ := h
    refine v_call (d1 := 0) mt_173 rfl rfl mt_167 rfl rfl (m_callj (As := []) (rest := []) rfl rfl c_542 rfl (Nat.le_of_ble_eq_true rfl) (Nat.le_of_ble_eq_true rfl)) z2 (by clear h; omega) ?_
    refine v_isn (L' := [some (.ref 542), some (iv x1), some (iv x2), some (iv c2), o4, o5]) mt_173 rfl (Nat.le_of_ble_eq_true rfl) rfl ?_
    refine v_s mt_173 rfl rfl rfl ?_
    refine j_gi (w := J1 542 4) 4 mt_173 rfl rfl c_542 (by decide) rfl ?_
    refine v_is (L' := [some (.ref 542), some (iv x1), some (iv x2), some (iv c2), some (iv (J1 542 4)), o5]) mt_173 rfl (Nat.le_of_ble_eq_true rfl) rfl ?_
    refine v_ic (v := Int32.ofInt 0) mt_173 rfl rfl ?_
    refine v_is (L' := [some (.ref 542), some (iv x1), some (iv x2), some (iv c2), some (iv (J1 542 4)), some (iv 0)]) mt_173 rfl (Nat.le_of_ble_eq_true rfl) rfl ?_
    refine v_s mt_173 rfl rfl rfl ?_
    refine v_inl (L1 := [some (iv c2)]) mt_173 rfl rfl mt_169 rfl rfl rfl rfl (by clear h; omega) ?_
    refine v_s mt_169 rfl rfl rfl ?_
    refine v_bp (v := Int32.ofInt 48) mt_169 rfl rfl ?_
    obtain ⟨z3, h⟩ := h
    refine j_if2 mt_169 rfl rfl z3 ⟨by decide, by decide⟩ (fun c => ?_) (fun c => ?_)
    · replace h := h.1 c
      refine v_ic (v := Int32.ofInt 0) mt_169 rfl rfl ?_
      refine j_retb mt_169 rfl rfl (by decide) ?_
      refine j_if1 mt_173 rfl rfl ⟨by decide, by decide⟩ (fun c => absurd (show ¬ (0 : Int) = 0 from c) (by decide)) (fun _ => ?_)
      exact h
    · replace h := h.2 (Int.not_lt.mp c)
      refine v_s mt_169 rfl rfl rfl ?_
      refine v_bp (v := Int32.ofInt 57) mt_169 rfl rfl ?_
      refine j_if2 mt_169 rfl rfl z3 ⟨by decide, by decide⟩ (fun c => ?_) (fun c => ?_)
      · replace h := h.1 c
        refine v_ic (v := Int32.ofInt 0) mt_169 rfl rfl ?_
        refine j_retb mt_169 rfl rfl (by decide) ?_
        refine j_if1 mt_173 rfl rfl ⟨by decide, by decide⟩ (fun c => absurd (show ¬ (0 : Int) = 0 from c) (by decide)) (fun _ => ?_)
        exact h
      · replace h := h.2 (Int.not_lt.mp c)
        refine v_ic (v := Int32.ofInt 1) mt_169 rfl rfl ?_
        refine v_go mt_169 rfl rfl ?_
        refine j_retb mt_169 rfl rfl (by decide) ?_
        refine j_if1 mt_173 rfl rfl ⟨by decide, by decide⟩ (fun _ => ?_) (fun c => (c (show ¬ (1 : Int) = 0 by decide)).elim)
        exact h
set_option maxHeartbeats 600000 in
theorem b_173_30 {X : Nat × (Nat → Int32)} {d : Nat} {J : Nat → Nat → Int} {sw : Bool × Bool × Bool} {lg : Nat → Nat → Int64} {x : Nat} {K : (Option Value ⊕ Nat) → mM → Prop} {x1 x2 x3 x4 x5 : Int} (hd : 1 ≤ d)
    (h : InR (J 542 5) ∧ (J 542 5 = (-1) → K (.inl (some (iv 0))) (mj (m_up (m_up J 542 5 (J 542 4)) 542 6 1) sw lg x)) ∧ (¬ J 542 5 = (-1) → K (.inl (some (iv 0))) (mj J sw lg x))) : VV X d 173 (30, [some (.ref 542), some (iv x1), some (iv x2), some (iv x3), some (iv x4), some (iv x5)], [], mj J sw lg x) K := by
  refine v_s mt_173 rfl rfl rfl ?_
  refine v_ic (v := Int32.ofInt 1) mt_173 rfl rfl ?_
  refine v_s mt_173 rfl rfl rfl ?_
  refine j_gi (w := J 542 4) 4 mt_173 rfl rfl c_542 (by decide) rfl ?_
  refine v_inl (L1 := [some (.ref 542), some (iv 1), some (iv (J 542 4))]) mt_173 rfl rfl mt_166 rfl rfl (m_callj (As := [iv 1, iv (J 542 4)]) (rest := []) rfl rfl c_542 rfl (Nat.le_of_ble_eq_true rfl) (Nat.le_of_ble_eq_true rfl)) rfl (by clear h; omega) ?_
  refine v_s mt_166 rfl rfl rfl ?_
  refine j_gi (w := J 542 5) 5 mt_166 rfl rfl c_542 (by decide) rfl ?_
  refine v_ic (v := Int32.ofInt (-1)) mt_166 rfl rfl ?_
  obtain ⟨z1, h⟩ := h
  refine j_if2 mt_166 rfl rfl z1 ⟨by decide, by decide⟩ (fun c => ?_) (fun c => ?_)
  · replace h := h.1 c
    refine v_s mt_166 rfl rfl rfl ?_
    refine v_s mt_166 rfl rfl rfl ?_
    refine j_pi 5 mt_166 rfl rfl c_542 (by decide) ?_
    refine v_s mt_166 rfl rfl rfl ?_
    refine v_s mt_166 rfl rfl rfl ?_
    refine j_pi 6 mt_166 rfl rfl c_542 (by decide) ?_
    refine v_ret mt_166 rfl rfl rfl ?_
    refine v_ic (v := Int32.ofInt 0) mt_173 rfl rfl ?_
    exact v_ret mt_173 rfl rfl rfl h
  · replace h := h.2 c
    refine v_ret mt_166 rfl rfl rfl ?_
    refine v_ic (v := Int32.ofInt 0) mt_173 rfl rfl ?_
    exact v_ret mt_173 rfl rfl rfl h
set_option maxHeartbeats 600000 in
theorem b_173_41 {X : Nat × (Nat → Int32)} {d : Nat} {J : Nat → Nat → Int} {sw : Bool × Bool × Bool} {lg : Nat → Nat → Int64} {x : Nat} {K : (Option Value ⊕ Nat) → mM → Prop} {x1 x2 x3 x4 x5 : Int} (hd : 1 ≤ d)
    (h : InR (J 542 4) ∧ InR (J 542 3) ∧ (J 542 3 ≤ J 542 4 → VV X d 173 (114, [some (.ref 542), some (iv x1), some (iv x2), some (iv x3), some (iv x4), some (iv x5)], [], mj J sw lg x) K) ∧ (J 542 4 < J 542 3 → ((0 ≤ J 542 4 ∧ J 542 4 < 600) ∧ InR (J 544 ((J 542 4).toNat)) ∧ (J 544 ((J 542 4).toNat) < 48 → VV X d 173 (114, [some (.ref 542), some (iv x1), some (iv x2), some (iv x3), some (iv x4), some (iv x5)], [], mj J sw lg x) K) ∧ (48 ≤ J 544 ((J 542 4).toNat) → ((57 < J 544 ((J 542 4).toNat) → VV X d 173 (114, [some (.ref 542), some (iv x1), some (iv x2), some (iv x3), some (iv x4), some (iv x5)], [], mj J sw lg x) K) ∧ (J 544 ((J 542 4).toNat) ≤ 57 → (InR x5 ∧ (x5 ≤ 9999 → VV X d 173 (41, [some (.ref 542), some (iv x1), some (iv x2), some (iv x3), some (iv x4), some (iv (((10 * x5) + (J 544 ((J 542 4).toNat))) - 48))], [], mj (m_up J 542 4 ((J 542 4) + 1)) sw lg x) K) ∧ (9999 < x5 → VV X d 173 (41, [some (.ref 542), some (iv x1), some (iv x2), some (iv x3), some (iv x4), some (iv 10000)], [], mj (m_up J 542 4 ((J 542 4) + 1)) sw lg x) K)))))))) : VV X d 173 (41, [some (.ref 542), some (iv x1), some (iv x2), some (iv x3), some (iv x4), some (iv x5)], [], mj J sw lg x) K := by
  refine v_s mt_173 rfl rfl rfl ?_
  refine j_gi (w := J 542 4) 4 mt_173 rfl rfl c_542 (by decide) rfl ?_
  refine v_s mt_173 rfl rfl rfl ?_
  refine j_gi (w := J 542 3) 3 mt_173 rfl rfl c_542 (by decide) rfl ?_
  obtain ⟨z1, h⟩ := h
  obtain ⟨z2, h⟩ := h
  refine j_if2 mt_173 rfl rfl z1 z2 (fun c => ?_) (fun c => ?_)
  · replace h := h.1 c
    exact h
  · replace h := h.2 (Int.not_le.mp c)
    refine v_s mt_173 rfl rfl rfl ?_
    refine v_gr (w := 544) 9 mt_173 rfl rfl c_542 (by decide) (g_12_9 c_542) ?_
    refine v_s mt_173 rfl rfl rfl ?_
    refine j_gi (w := J 542 4) 4 mt_173 rfl rfl c_542 (by decide) rfl ?_
    obtain ⟨z3, h⟩ := h
    refine j_al (w := J 544 ((J 542 4).toNat)) mt_173 rfl c_544 z3 (by decide) rfl ?_
    refine v_inl (L1 := [some (iv (J 544 ((J 542 4).toNat)))]) mt_173 rfl rfl mt_169 rfl rfl rfl rfl (by clear h; omega) ?_
    refine v_s mt_169 rfl rfl rfl ?_
    refine v_bp (v := Int32.ofInt 48) mt_169 rfl rfl ?_
    obtain ⟨z4, h⟩ := h
    refine j_if2 mt_169 rfl rfl z4 ⟨by decide, by decide⟩ (fun c => ?_) (fun c => ?_)
    · replace h := h.1 c
      refine v_ic (v := Int32.ofInt 0) mt_169 rfl rfl ?_
      refine j_retb mt_169 rfl rfl (by decide) ?_
      refine j_if1 mt_173 rfl rfl ⟨by decide, by decide⟩ (fun _ => ?_) (fun c => (c (show (0 : Int) = 0 by decide)).elim)
      exact h
    · replace h := h.2 (Int.not_lt.mp c)
      refine v_s mt_169 rfl rfl rfl ?_
      refine v_bp (v := Int32.ofInt 57) mt_169 rfl rfl ?_
      refine j_if2 mt_169 rfl rfl z4 ⟨by decide, by decide⟩ (fun c => ?_) (fun c => ?_)
      · replace h := h.1 c
        refine v_ic (v := Int32.ofInt 0) mt_169 rfl rfl ?_
        refine j_retb mt_169 rfl rfl (by decide) ?_
        refine j_if1 mt_173 rfl rfl ⟨by decide, by decide⟩ (fun _ => ?_) (fun c => (c (show (0 : Int) = 0 by decide)).elim)
        exact h
      · replace h := h.2 (Int.not_lt.mp c)
        refine v_ic (v := Int32.ofInt 1) mt_169 rfl rfl ?_
        refine v_go mt_169 rfl rfl ?_
        refine j_retb mt_169 rfl rfl (by decide) ?_
        refine j_if1 mt_173 rfl rfl ⟨by decide, by decide⟩ (fun c => absurd (show (1 : Int) = 0 from c) (by decide)) (fun _ => ?_)
        refine v_s mt_173 rfl rfl rfl ?_
        refine v_sp (v := Int32.ofInt 9999) mt_173 rfl rfl ?_
        obtain ⟨z5, h⟩ := h
        refine j_if2 mt_173 rfl rfl z5 ⟨by decide, by decide⟩ (fun c => ?_) (fun c => ?_)
        · replace h := h.1 c
          refine v_bp (v := Int32.ofInt 10) mt_173 rfl rfl ?_
          refine v_s mt_173 rfl rfl rfl ?_
          refine j_mul (e := 10 * x5) mt_173 rfl rfl ?_
          refine v_s mt_173 rfl rfl rfl ?_
          refine v_gr (w := 544) 9 mt_173 rfl rfl c_542 (by decide) (g_12_9 c_542) ?_
          refine v_s mt_173 rfl rfl rfl ?_
          refine j_gi (w := J 542 4) 4 mt_173 rfl rfl c_542 (by decide) rfl ?_
          refine j_al (w := J 544 ((J 542 4).toNat)) mt_173 rfl c_544 z3 (by decide) rfl ?_
          refine j_add (e := (10 * x5) + (J 544 ((J 542 4).toNat))) mt_173 rfl rfl ?_
          refine v_bp (v := Int32.ofInt 48) mt_173 rfl rfl ?_
          refine j_sub (e := ((10 * x5) + (J 544 ((J 542 4).toNat))) - 48) mt_173 rfl rfl ?_
          refine v_is (L' := [some (.ref 542), some (iv x1), some (iv x2), some (iv x3), some (iv x4), some (iv (((10 * x5) + (J 544 ((J 542 4).toNat))) - 48))]) mt_173 rfl (Nat.le_of_ble_eq_true rfl) rfl ?_
          refine v_s mt_173 rfl rfl rfl ?_
          refine v_s mt_173 rfl rfl rfl ?_
          refine j_gi (w := J 542 4) 4 mt_173 rfl rfl c_542 (by decide) rfl ?_
          refine v_ic (v := Int32.ofInt 1) mt_173 rfl rfl ?_
          refine j_add (e := (J 542 4) + 1) mt_173 rfl rfl ?_
          refine j_pi 4 mt_173 rfl rfl c_542 (by decide) ?_
          refine v_go mt_173 rfl rfl ?_
          exact h
        · replace h := h.2 (Int.not_le.mp c)
          refine v_sp (v := Int32.ofInt 10000) mt_173 rfl rfl ?_
          refine v_go mt_173 rfl rfl ?_
          refine v_is (L' := [some (.ref 542), some (iv x1), some (iv x2), some (iv x3), some (iv x4), some (iv 10000)]) mt_173 rfl (Nat.le_of_ble_eq_true rfl) rfl ?_
          refine v_s mt_173 rfl rfl rfl ?_
          refine v_s mt_173 rfl rfl rfl ?_
          refine j_gi (w := J 542 4) 4 mt_173 rfl rfl c_542 (by decide) rfl ?_
          refine v_ic (v := Int32.ofInt 1) mt_173 rfl rfl ?_
          refine j_add (e := (J 542 4) + 1) mt_173 rfl rfl ?_
          refine j_pi 4 mt_173 rfl rfl c_542 (by decide) ?_
          refine v_go mt_173 rfl rfl ?_
          exact h
set_option maxHeartbeats 600000 in
theorem b_173_114 {X : Nat × (Nat → Int32)} {d : Nat} {J : Nat → Nat → Int} {sw : Bool × Bool × Bool} {lg : Nat → Nat → Int64} {x : Nat} {K : (Option Value ⊕ Nat) → mM → Prop} {x1 x2 x3 x4 x5 : Int} (hd : 1 ≤ d)
    (h : InR x5 ∧ InR x1 ∧ (x5 < x1 → VV X d 173 (126, [some (.ref 542), some (iv x1), some (iv x2), some (iv x3), some (iv x4), some (iv x5)], [], mj J sw lg x) K) ∧ (x1 ≤ x5 → (InR x2 ∧ (x5 ≤ x2 → K (.inl (some (iv x5))) (mj J sw lg x)) ∧ (x2 < x5 → VV X d 173 (126, [some (.ref 542), some (iv x1), some (iv x2), some (iv x3), some (iv x4), some (iv x5)], [], mj J sw lg x) K)))) : VV X d 173 (114, [some (.ref 542), some (iv x1), some (iv x2), some (iv x3), some (iv x4), some (iv x5)], [], mj J sw lg x) K := by
  refine v_s mt_173 rfl rfl rfl ?_
  refine v_s mt_173 rfl rfl rfl ?_
  obtain ⟨z1, h⟩ := h
  obtain ⟨z2, h⟩ := h
  refine j_if2 mt_173 rfl rfl z1 z2 (fun c => ?_) (fun c => ?_)
  · replace h := h.1 c
    exact h
  · replace h := h.2 (Int.not_lt.mp c)
    refine v_s mt_173 rfl rfl rfl ?_
    refine v_s mt_173 rfl rfl rfl ?_
    obtain ⟨z3, h⟩ := h
    refine j_if2 mt_173 rfl rfl z1 z3 (fun c => ?_) (fun c => ?_)
    · replace h := h.1 c
      refine v_s mt_173 rfl rfl rfl ?_
      exact v_ret mt_173 rfl rfl rfl h
    · replace h := h.2 (Int.not_le.mp c)
      exact h
set_option maxHeartbeats 600000 in
theorem b_173_126 {X : Nat × (Nat → Int32)} {d : Nat} {J : Nat → Nat → Int} {sw : Bool × Bool × Bool} {lg : Nat → Nat → Int64} {x : Nat} {K : (Option Value ⊕ Nat) → mM → Prop} {x1 x2 x3 x4 x5 : Int} (hd : 1 ≤ d)
    (h : InR (J 542 5) ∧ (J 542 5 = (-1) → K (.inl (some (iv 0))) (mj (m_up (m_up J 542 5 x4) 542 6 2) sw lg x)) ∧ (¬ J 542 5 = (-1) → K (.inl (some (iv 0))) (mj J sw lg x))) : VV X d 173 (126, [some (.ref 542), some (iv x1), some (iv x2), some (iv x3), some (iv x4), some (iv x5)], [], mj J sw lg x) K := by
  refine v_s mt_173 rfl rfl rfl ?_
  refine v_ic (v := Int32.ofInt 2) mt_173 rfl rfl ?_
  refine v_s mt_173 rfl rfl rfl ?_
  refine v_inl (L1 := [some (.ref 542), some (iv 2), some (iv x4)]) mt_173 rfl rfl mt_166 rfl rfl (m_callj (As := [iv 2, iv x4]) (rest := []) rfl rfl c_542 rfl (Nat.le_of_ble_eq_true rfl) (Nat.le_of_ble_eq_true rfl)) rfl (by clear h; omega) ?_
  refine v_s mt_166 rfl rfl rfl ?_
  refine j_gi (w := J 542 5) 5 mt_166 rfl rfl c_542 (by decide) rfl ?_
  refine v_ic (v := Int32.ofInt (-1)) mt_166 rfl rfl ?_
  obtain ⟨z1, h⟩ := h
  refine j_if2 mt_166 rfl rfl z1 ⟨by decide, by decide⟩ (fun c => ?_) (fun c => ?_)
  · replace h := h.1 c
    refine v_s mt_166 rfl rfl rfl ?_
    refine v_s mt_166 rfl rfl rfl ?_
    refine j_pi 5 mt_166 rfl rfl c_542 (by decide) ?_
    refine v_s mt_166 rfl rfl rfl ?_
    refine v_s mt_166 rfl rfl rfl ?_
    refine j_pi 6 mt_166 rfl rfl c_542 (by decide) ?_
    refine v_ret mt_166 rfl rfl rfl ?_
    refine v_ic (v := Int32.ofInt 0) mt_173 rfl rfl ?_
    exact v_ret mt_173 rfl rfl rfl h
  · replace h := h.2 c
    refine v_ret mt_166 rfl rfl rfl ?_
    refine v_ic (v := Int32.ofInt 0) mt_173 rfl rfl ?_
    exact v_ret mt_173 rfl rfl rfl h
set_option maxHeartbeats 600000 in
theorem b_174_0 {X : Nat × (Nat → Int32)} {d : Nat} {J : Nat → Nat → Int} {sw : Bool × Bool × Bool} {lg : Nat → Nat → Int64} {x : Nat} {K : (Option Value ⊕ Nat) → mM → Prop} {x1 : Int} (hd : 1 ≤ d)
    (h : InR (J 542 5) ∧ (¬ J 542 5 = (-1) → ((¬ J 542 5 = (-1) → K (.inl none) (mj J sw lg x)) ∧ (J 542 5 = (-1) → K (.inl none) (mj (m_up J 542 4 ((J 542 4) + 1)) sw lg x)))) ∧ (J 542 5 = (-1) → (∃ (c2 : Int) (J1 : Nat → Nat → Int), EE X 0 167 [.ref 542] (mj J sw lg x) (.inl (some (iv c2))) (mj J1 sw lg x) ∧ InR c2 ∧ InR x1 ∧ (c2 = x1 → (InR (J1 542 5) ∧ (¬ J1 542 5 = (-1) → K (.inl none) (mj J1 sw lg x)) ∧ (J1 542 5 = (-1) → K (.inl none) (mj (m_up J1 542 4 ((J1 542 4) + 1)) sw lg x)))) ∧ (¬ c2 = x1 → (InR (J1 542 5) ∧ (J1 542 5 = (-1) → (InR (J1 542 4) ∧ (¬ J1 542 4 = (-1) → K (.inl none) (mj (m_up (m_up J1 542 5 (J1 542 4)) 542 6 1) sw lg x)) ∧ (J1 542 4 = (-1) → K (.inl none) (mj (m_up (m_up (m_up J1 542 5 (J1 542 4)) 542 6 1) 542 4 ((J1 542 4) + 1)) sw lg x)))) ∧ (¬ J1 542 5 = (-1) → ((¬ J1 542 5 = (-1) → K (.inl none) (mj J1 sw lg x)) ∧ (J1 542 5 = (-1) → K (.inl none) (mj (m_up J1 542 4 ((J1 542 4) + 1)) sw lg x))))))))) : VV X d 174 (0, [some (.ref 542), some (iv x1)], [], mj J sw lg x) K := by
  refine v_s mt_174 rfl rfl rfl ?_
  refine v_inl (L1 := [some (.ref 542)]) mt_174 rfl rfl mt_165 rfl rfl (m_callj (As := []) (rest := []) rfl rfl c_542 rfl (Nat.le_of_ble_eq_true rfl) (Nat.le_of_ble_eq_true rfl)) rfl (by clear h; omega) ?_
  refine v_s mt_165 rfl rfl rfl ?_
  refine j_gi (w := J 542 5) 5 mt_165 rfl rfl c_542 (by decide) rfl ?_
  refine v_ic (v := Int32.ofInt (-1)) mt_165 rfl rfl ?_
  obtain ⟨z1, h⟩ := h
  refine j_if2 mt_165 rfl rfl z1 ⟨by decide, by decide⟩ (fun c => ?_) (fun c => ?_)
  · replace h := h.1 c
    refine v_ic (v := Int32.ofInt 0) mt_165 rfl rfl ?_
    refine j_retb mt_165 rfl rfl (by decide) ?_
    refine j_if1 mt_174 rfl rfl ⟨by decide, by decide⟩ (fun _ => ?_) (fun c => (c (show (0 : Int) = 0 by decide)).elim)
    refine v_s mt_174 rfl rfl rfl ?_
    refine v_inl (L1 := [some (.ref 542)]) mt_174 rfl rfl mt_165 rfl rfl (m_callj (As := []) (rest := []) rfl rfl c_542 rfl (Nat.le_of_ble_eq_true rfl) (Nat.le_of_ble_eq_true rfl)) rfl (by clear h; omega) ?_
    refine v_s mt_165 rfl rfl rfl ?_
    refine j_gi (w := J 542 5) 5 mt_165 rfl rfl c_542 (by decide) rfl ?_
    refine v_ic (v := Int32.ofInt (-1)) mt_165 rfl rfl ?_
    refine j_if2 mt_165 rfl rfl z1 ⟨by decide, by decide⟩ (fun c => ?_) (fun c => ?_)
    · replace h := h.1 c
      refine v_ic (v := Int32.ofInt 0) mt_165 rfl rfl ?_
      refine j_retb mt_165 rfl rfl (by decide) ?_
      refine j_if1 mt_174 rfl rfl ⟨by decide, by decide⟩ (fun _ => ?_) (fun c => (c (show (0 : Int) = 0 by decide)).elim)
      exact v_ret mt_174 rfl rfl rfl h
    · replace h := h.2 (Decidable.not_not.mp c)
      refine v_ic (v := Int32.ofInt 1) mt_165 rfl rfl ?_
      refine v_go mt_165 rfl rfl ?_
      refine j_retb mt_165 rfl rfl (by decide) ?_
      refine j_if1 mt_174 rfl rfl ⟨by decide, by decide⟩ (fun c => absurd (show (1 : Int) = 0 from c) (by decide)) (fun _ => ?_)
      refine v_s mt_174 rfl rfl rfl ?_
      refine v_s mt_174 rfl rfl rfl ?_
      refine j_gi (w := J 542 4) 4 mt_174 rfl rfl c_542 (by decide) rfl ?_
      refine v_ic (v := Int32.ofInt 1) mt_174 rfl rfl ?_
      refine j_add (e := (J 542 4) + 1) mt_174 rfl rfl ?_
      refine j_pi 4 mt_174 rfl rfl c_542 (by decide) ?_
      exact v_ret mt_174 rfl rfl rfl h
  · replace h := h.2 (Decidable.not_not.mp c)
    refine v_ic (v := Int32.ofInt 1) mt_165 rfl rfl ?_
    refine v_go mt_165 rfl rfl ?_
    refine j_retb mt_165 rfl rfl (by decide) ?_
    refine j_if1 mt_174 rfl rfl ⟨by decide, by decide⟩ (fun c => absurd (show (1 : Int) = 0 from c) (by decide)) (fun _ => ?_)
    refine v_s mt_174 rfl rfl rfl ?_
    obtain ⟨c2, J1, z2, h⟩ := h
    refine v_call (d1 := 0) mt_174 rfl rfl mt_167 rfl rfl (m_callj (As := []) (rest := []) rfl rfl c_542 rfl (Nat.le_of_ble_eq_true rfl) (Nat.le_of_ble_eq_true rfl)) z2 (by clear h; omega) ?_
    refine v_s mt_174 rfl rfl rfl ?_
    obtain ⟨z3, h⟩ := h
    obtain ⟨z4, h⟩ := h
    refine j_if2 mt_174 rfl rfl z3 z4 (fun c => ?_) (fun c => ?_)
    · replace h := h.1 c
      refine v_s mt_174 rfl rfl rfl ?_
      refine v_inl (L1 := [some (.ref 542)]) mt_174 rfl rfl mt_165 rfl rfl (m_callj (As := []) (rest := []) rfl rfl c_542 rfl (Nat.le_of_ble_eq_true rfl) (Nat.le_of_ble_eq_true rfl)) rfl (by clear h; omega) ?_
      refine v_s mt_165 rfl rfl rfl ?_
      refine j_gi (w := J1 542 5) 5 mt_165 rfl rfl c_542 (by decide) rfl ?_
      refine v_ic (v := Int32.ofInt (-1)) mt_165 rfl rfl ?_
      obtain ⟨z5, h⟩ := h
      refine j_if2 mt_165 rfl rfl z5 ⟨by decide, by decide⟩ (fun c => ?_) (fun c => ?_)
      · replace h := h.1 c
        refine v_ic (v := Int32.ofInt 0) mt_165 rfl rfl ?_
        refine j_retb mt_165 rfl rfl (by decide) ?_
        refine j_if1 mt_174 rfl rfl ⟨by decide, by decide⟩ (fun _ => ?_) (fun c => (c (show (0 : Int) = 0 by decide)).elim)
        exact v_ret mt_174 rfl rfl rfl h
      · replace h := h.2 (Decidable.not_not.mp c)
        refine v_ic (v := Int32.ofInt 1) mt_165 rfl rfl ?_
        refine v_go mt_165 rfl rfl ?_
        refine j_retb mt_165 rfl rfl (by decide) ?_
        refine j_if1 mt_174 rfl rfl ⟨by decide, by decide⟩ (fun c => absurd (show (1 : Int) = 0 from c) (by decide)) (fun _ => ?_)
        refine v_s mt_174 rfl rfl rfl ?_
        refine v_s mt_174 rfl rfl rfl ?_
        refine j_gi (w := J1 542 4) 4 mt_174 rfl rfl c_542 (by decide) rfl ?_
        refine v_ic (v := Int32.ofInt 1) mt_174 rfl rfl ?_
        refine j_add (e := (J1 542 4) + 1) mt_174 rfl rfl ?_
        refine j_pi 4 mt_174 rfl rfl c_542 (by decide) ?_
        exact v_ret mt_174 rfl rfl rfl h
    · replace h := h.2 c
      refine v_s mt_174 rfl rfl rfl ?_
      refine v_ic (v := Int32.ofInt 1) mt_174 rfl rfl ?_
      refine v_s mt_174 rfl rfl rfl ?_
      refine j_gi (w := J1 542 4) 4 mt_174 rfl rfl c_542 (by decide) rfl ?_
      refine v_inl (L1 := [some (.ref 542), some (iv 1), some (iv (J1 542 4))]) mt_174 rfl rfl mt_166 rfl rfl (m_callj (As := [iv 1, iv (J1 542 4)]) (rest := []) rfl rfl c_542 rfl (Nat.le_of_ble_eq_true rfl) (Nat.le_of_ble_eq_true rfl)) rfl (by clear h; omega) ?_
      refine v_s mt_166 rfl rfl rfl ?_
      refine j_gi (w := J1 542 5) 5 mt_166 rfl rfl c_542 (by decide) rfl ?_
      refine v_ic (v := Int32.ofInt (-1)) mt_166 rfl rfl ?_
      obtain ⟨z6, h⟩ := h
      refine j_if2 mt_166 rfl rfl z6 ⟨by decide, by decide⟩ (fun c => ?_) (fun c => ?_)
      · replace h := h.1 c
        refine v_s mt_166 rfl rfl rfl ?_
        refine v_s mt_166 rfl rfl rfl ?_
        refine j_pi 5 mt_166 rfl rfl c_542 (by decide) ?_
        refine v_s mt_166 rfl rfl rfl ?_
        refine v_s mt_166 rfl rfl rfl ?_
        refine j_pi 6 mt_166 rfl rfl c_542 (by decide) ?_
        refine v_ret mt_166 rfl rfl rfl ?_
        refine v_s mt_174 rfl rfl rfl ?_
        refine v_inl (L1 := [some (.ref 542)]) mt_174 rfl rfl mt_165 rfl rfl (m_callj (As := []) (rest := []) rfl rfl c_542 rfl (Nat.le_of_ble_eq_true rfl) (Nat.le_of_ble_eq_true rfl)) rfl (by clear h; omega) ?_
        refine v_s mt_165 rfl rfl rfl ?_
        refine j_gi (w := J1 542 4) 5 mt_165 rfl rfl c_542 (by decide) ((up_nk (by decide)).trans (up_eq _ _ _ _)) ?_
        refine v_ic (v := Int32.ofInt (-1)) mt_165 rfl rfl ?_
        obtain ⟨z7, h⟩ := h
        refine j_if2 mt_165 rfl rfl z7 ⟨by decide, by decide⟩ (fun c => ?_) (fun c => ?_)
        · replace h := h.1 c
          refine v_ic (v := Int32.ofInt 0) mt_165 rfl rfl ?_
          refine j_retb mt_165 rfl rfl (by decide) ?_
          refine j_if1 mt_174 rfl rfl ⟨by decide, by decide⟩ (fun _ => ?_) (fun c => (c (show (0 : Int) = 0 by decide)).elim)
          exact v_ret mt_174 rfl rfl rfl h
        · replace h := h.2 (Decidable.not_not.mp c)
          refine v_ic (v := Int32.ofInt 1) mt_165 rfl rfl ?_
          refine v_go mt_165 rfl rfl ?_
          refine j_retb mt_165 rfl rfl (by decide) ?_
          refine j_if1 mt_174 rfl rfl ⟨by decide, by decide⟩ (fun c => absurd (show (1 : Int) = 0 from c) (by decide)) (fun _ => ?_)
          refine v_s mt_174 rfl rfl rfl ?_
          refine v_s mt_174 rfl rfl rfl ?_
          refine j_gi (w := J1 542 4) 4 mt_174 rfl rfl c_542 (by decide) ((up_nk (by decide)).trans ((up_nk (by decide)).trans rfl)) ?_
          refine v_ic (v := Int32.ofInt 1) mt_174 rfl rfl ?_
          refine j_add (e := (J1 542 4) + 1) mt_174 rfl rfl ?_
          refine j_pi 4 mt_174 rfl rfl c_542 (by decide) ?_
          exact v_ret mt_174 rfl rfl rfl h
      · replace h := h.2 c
        refine v_ret mt_166 rfl rfl rfl ?_
        refine v_s mt_174 rfl rfl rfl ?_
        refine v_inl (L1 := [some (.ref 542)]) mt_174 rfl rfl mt_165 rfl rfl (m_callj (As := []) (rest := []) rfl rfl c_542 rfl (Nat.le_of_ble_eq_true rfl) (Nat.le_of_ble_eq_true rfl)) rfl (by clear h; omega) ?_
        refine v_s mt_165 rfl rfl rfl ?_
        refine j_gi (w := J1 542 5) 5 mt_165 rfl rfl c_542 (by decide) rfl ?_
        refine v_ic (v := Int32.ofInt (-1)) mt_165 rfl rfl ?_
        refine j_if2 mt_165 rfl rfl z6 ⟨by decide, by decide⟩ (fun c => ?_) (fun c => ?_)
        · replace h := h.1 c
          refine v_ic (v := Int32.ofInt 0) mt_165 rfl rfl ?_
          refine j_retb mt_165 rfl rfl (by decide) ?_
          refine j_if1 mt_174 rfl rfl ⟨by decide, by decide⟩ (fun _ => ?_) (fun c => (c (show (0 : Int) = 0 by decide)).elim)
          exact v_ret mt_174 rfl rfl rfl h
        · replace h := h.2 (Decidable.not_not.mp c)
          refine v_ic (v := Int32.ofInt 1) mt_165 rfl rfl ?_
          refine v_go mt_165 rfl rfl ?_
          refine j_retb mt_165 rfl rfl (by decide) ?_
          refine j_if1 mt_174 rfl rfl ⟨by decide, by decide⟩ (fun c => absurd (show (1 : Int) = 0 from c) (by decide)) (fun _ => ?_)
          refine v_s mt_174 rfl rfl rfl ?_
          refine v_s mt_174 rfl rfl rfl ?_
          refine j_gi (w := J1 542 4) 4 mt_174 rfl rfl c_542 (by decide) rfl ?_
          refine v_ic (v := Int32.ofInt 1) mt_174 rfl rfl ?_
          refine j_add (e := (J1 542 4) + 1) mt_174 rfl rfl ?_
          refine j_pi 4 mt_174 rfl rfl c_542 (by decide) ?_
          exact v_ret mt_174 rfl rfl rfl h
