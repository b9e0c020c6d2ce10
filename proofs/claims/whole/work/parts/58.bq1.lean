set_option maxHeartbeats 600000 in
theorem b_115_0 {X : Nat × (Nat → Int32)} {d : Nat} {J : Nat → Nat → Int} {sw : Bool × Bool × Bool} {lg : Nat → Nat → Int64} {x : Nat} {K : (Option Value ⊕ Nat) → mM → Prop}
    (h : K (.inl (some (iv (J 0 1)))) (mj J sw lg x)) : VV X d 115 (0, [some (.ref 0)], [], mj J sw lg x) K := by
  refine v_s mt_115 rfl rfl rfl ?_
  refine j_gi (w := J 0 1) 1 mt_115 rfl rfl c_0 (by decide) rfl ?_
  exact v_ret mt_115 rfl rfl rfl h
set_option maxHeartbeats 600000 in
theorem b_117_0 {X : Nat × (Nat → Int32)} {d : Nat} {J : Nat → Nat → Int} {sw : Bool × Bool × Bool} {lg : Nat → Nat → Int64} {x : Nat} {K : (Option Value ⊕ Nat) → mM → Prop} {x1 : Int} (hd : 2 ≤ d)
    (h : InR x1 ∧ (x1 = 0 → K (.inl (some (iv (J (vA sw) 0)))) (mj J sw lg x)) ∧ (x1 = 1 → K (.inl (some (iv (J (vA sw) 1)))) (mj J sw lg x)) ∧ (x1 = 2 → K (.inl (some (iv (J (vA sw) 2)))) (mj J sw lg x)) ∧ (x1 = 3 → K (.inl (some (iv (J (vA sw) 3)))) (mj J sw lg x)) ∧ (x1 = 4 → K (.inl (some (iv (J 41 7)))) (mj J sw lg x)) ∧ (x1 = 5 → K (.inl (some (iv (J 41 8)))) (mj J sw lg x)) ∧ (x1 = 6 → (∃ (c2 : Int) (J1 : Nat → Nat → Int), EE X 1 65 [.ref 41, .ref (vA sw)] (mj J sw lg x) (.inl (some (iv c2))) (mj J1 sw lg x) ∧ K (.inl (some (iv c2))) (mj J1 sw lg x))) ∧ (x1 = 7 → (∃ (c4 : Int) (J3 : Nat → Nat → Int), EE X 0 66 [.ref 41, .ref (vA sw)] (mj J sw lg x) (.inl (some (iv c4))) (mj J3 sw lg x) ∧ K (.inl (some (iv c4))) (mj J3 sw lg x))) ∧ (x1 = 8 → K (.inl (some (iv (J 41 6)))) (mj J sw lg x)) ∧ (x1 = 9 → (∃ (c6 : Int) (J5 : Nat → Nat → Int), EE X 0 61 [.ref 41, .ref (vA sw)] (mj J sw lg x) (.inl (some (iv c6))) (mj J5 sw lg x) ∧ K (.inl (some (iv c6))) (mj J5 sw lg x))) ∧ (x1 = 10 → K (.inl (some (iv (J (bA sw) 0)))) (mj J sw lg x)) ∧ (x1 = 11 → K (.inl (some (iv (J 0 16)))) (mj J sw lg x)) ∧ (x1 < 0 ∨ 11 < x1 → K (.inr 2) (mj (m_up J 0 18 ((J 0 18) + 1)) sw lg (x + 1)))) : VV X d 117 (0, [some (.ref 0), some (iv x1)], [], mj J sw lg x) K := by
  refine v_s mt_117 rfl rfl rfl ?_
  obtain ⟨z1, h⟩ := h
  by_cases c : x1 = 0
  · replace h := h.1 c
    refine j_si 0 mt_117 rfl ⟨by decide, by decide⟩ c (by decide) rfl rfl ?_
    refine v_s mt_117 rfl rfl rfl ?_
    refine v_gr (w := (vA sw)) 2 mt_117 rfl rfl c_0 (by decide) g_11_2 ?_
    refine j_gi (w := J (vA sw) 0) 0 mt_117 rfl rfl (cvA sw) (by decide) rfl ?_
    exact v_ret mt_117 rfl rfl rfl h
  have c0 := c
  replace h := h.2
  by_cases c : x1 = 1
  · replace h := h.1 c
    refine j_si 1 mt_117 rfl ⟨by decide, by decide⟩ c (by decide) rfl rfl ?_
    refine v_s mt_117 rfl rfl rfl ?_
    refine v_gr (w := (vA sw)) 2 mt_117 rfl rfl c_0 (by decide) g_11_2 ?_
    refine j_gi (w := J (vA sw) 1) 1 mt_117 rfl rfl (cvA sw) (by decide) rfl ?_
    exact v_ret mt_117 rfl rfl rfl h
  have c1 := c
  replace h := h.2
  by_cases c : x1 = 2
  · replace h := h.1 c
    refine j_si 2 mt_117 rfl ⟨by decide, by decide⟩ c (by decide) rfl rfl ?_
    refine v_s mt_117 rfl rfl rfl ?_
    refine v_gr (w := (vA sw)) 2 mt_117 rfl rfl c_0 (by decide) g_11_2 ?_
    refine j_gi (w := J (vA sw) 2) 2 mt_117 rfl rfl (cvA sw) (by decide) rfl ?_
    exact v_ret mt_117 rfl rfl rfl h
  have c2 := c
  replace h := h.2
  by_cases c : x1 = 3
  · replace h := h.1 c
    refine j_si 3 mt_117 rfl ⟨by decide, by decide⟩ c (by decide) rfl rfl ?_
    refine v_s mt_117 rfl rfl rfl ?_
    refine v_gr (w := (vA sw)) 2 mt_117 rfl rfl c_0 (by decide) g_11_2 ?_
    refine j_gi (w := J (vA sw) 3) 3 mt_117 rfl rfl (cvA sw) (by decide) rfl ?_
    exact v_ret mt_117 rfl rfl rfl h
  have c3 := c
  replace h := h.2
  by_cases c : x1 = 4
  · replace h := h.1 c
    refine j_si 4 mt_117 rfl ⟨by decide, by decide⟩ c (by decide) rfl rfl ?_
    refine v_s mt_117 rfl rfl rfl ?_
    refine v_gr (w := 41) 9 mt_117 rfl rfl c_0 (by decide) g_11_9 ?_
    refine j_gi (w := J 41 7) 7 mt_117 rfl rfl c_41 (by decide) rfl ?_
    exact v_ret mt_117 rfl rfl rfl h
  have c4 := c
  replace h := h.2
  by_cases c : x1 = 5
  · replace h := h.1 c
    refine j_si 5 mt_117 rfl ⟨by decide, by decide⟩ c (by decide) rfl rfl ?_
    refine v_s mt_117 rfl rfl rfl ?_
    refine v_gr (w := 41) 9 mt_117 rfl rfl c_0 (by decide) g_11_9 ?_
    refine j_gi (w := J 41 8) 8 mt_117 rfl rfl c_41 (by decide) rfl ?_
    exact v_ret mt_117 rfl rfl rfl h
  have c5 := c
  replace h := h.2
  by_cases c : x1 = 6
  · replace h := h.1 c
    refine j_si 6 mt_117 rfl ⟨by decide, by decide⟩ c (by decide) rfl rfl ?_
    refine v_s mt_117 rfl rfl rfl ?_
    refine v_gr (w := 41) 9 mt_117 rfl rfl c_0 (by decide) g_11_9 ?_
    refine v_s mt_117 rfl rfl rfl ?_
    refine v_gr (w := (vA sw)) 2 mt_117 rfl rfl c_0 (by decide) g_11_2 ?_
    obtain ⟨c2, J1, z2, h⟩ := h
    refine v_call (d1 := 1) mt_117 rfl rfl mt_65 rfl rfl (m_callj (As := [.ref (vA sw)]) (rest := []) rfl rfl c_41 rfl (Nat.le_of_ble_eq_true rfl) (Nat.le_of_ble_eq_true rfl)) z2 (by clear h; omega) ?_
    exact v_ret mt_117 rfl rfl rfl h
  have c6 := c
  replace h := h.2
  by_cases c : x1 = 7
  · replace h := h.1 c
    refine j_si 7 mt_117 rfl ⟨by decide, by decide⟩ c (by decide) rfl rfl ?_
    refine v_s mt_117 rfl rfl rfl ?_
    refine v_gr (w := 41) 9 mt_117 rfl rfl c_0 (by decide) g_11_9 ?_
    refine v_s mt_117 rfl rfl rfl ?_
    refine v_gr (w := (vA sw)) 2 mt_117 rfl rfl c_0 (by decide) g_11_2 ?_
    obtain ⟨c4, J3, z3, h⟩ := h
    refine v_call (d1 := 0) mt_117 rfl rfl mt_66 rfl rfl (m_callj (As := [.ref (vA sw)]) (rest := []) rfl rfl c_41 rfl (Nat.le_of_ble_eq_true rfl) (Nat.le_of_ble_eq_true rfl)) z3 (by clear h; omega) ?_
    exact v_ret mt_117 rfl rfl rfl h
  have c7 := c
  replace h := h.2
  by_cases c : x1 = 8
  · replace h := h.1 c
    refine j_si 8 mt_117 rfl ⟨by decide, by decide⟩ c (by decide) rfl rfl ?_
    refine v_s mt_117 rfl rfl rfl ?_
    refine v_gr (w := 41) 9 mt_117 rfl rfl c_0 (by decide) g_11_9 ?_
    refine j_gi (w := J 41 6) 6 mt_117 rfl rfl c_41 (by decide) rfl ?_
    exact v_ret mt_117 rfl rfl rfl h
  have c8 := c
  replace h := h.2
  by_cases c : x1 = 9
  · replace h := h.1 c
    refine j_si 9 mt_117 rfl ⟨by decide, by decide⟩ c (by decide) rfl rfl ?_
    refine v_s mt_117 rfl rfl rfl ?_
    refine v_gr (w := 41) 9 mt_117 rfl rfl c_0 (by decide) g_11_9 ?_
    refine v_s mt_117 rfl rfl rfl ?_
    refine v_gr (w := (vA sw)) 2 mt_117 rfl rfl c_0 (by decide) g_11_2 ?_
    obtain ⟨c6, J5, z4, h⟩ := h
    refine v_call (d1 := 0) mt_117 rfl rfl mt_61 rfl rfl (m_callj (As := [.ref (vA sw)]) (rest := []) rfl rfl c_41 rfl (Nat.le_of_ble_eq_true rfl) (Nat.le_of_ble_eq_true rfl)) z4 (by clear h; omega) ?_
    exact v_ret mt_117 rfl rfl rfl h
  have c9 := c
  replace h := h.2
  by_cases c : x1 = 10
  · replace h := h.1 c
    refine j_si 10 mt_117 rfl ⟨by decide, by decide⟩ c (by decide) rfl rfl ?_
    refine v_s mt_117 rfl rfl rfl ?_
    refine v_gr (w := (bA sw)) 6 mt_117 rfl rfl c_0 (by decide) g_11_6 ?_
    refine j_gi (w := J (bA sw) 0) 0 mt_117 rfl rfl (cbA sw) (by decide) rfl ?_
    exact v_ret mt_117 rfl rfl rfl h
  have c10 := c
  replace h := h.2
  by_cases c : x1 = 11
  · replace h := h.1 c
    refine j_si 11 mt_117 rfl ⟨by decide, by decide⟩ c (by decide) rfl rfl ?_
    refine v_s mt_117 rfl rfl rfl ?_
    refine j_gi (w := J 0 16) 16 mt_117 rfl rfl c_0 (by decide) rfl ?_
    exact v_ret mt_117 rfl rfl rfl h
  have c11 := c
  replace h := h.2
  have hz : x1 < 0 ∨ 11 < x1 := sw_0_11 c0 c1 c2 c3 c4 c5 c6 c7 c8 c9 c10 c11
  replace h := h hz
  refine j_sd mt_117 rfl z1 hz rfl ?_
  refine v_s mt_117 rfl rfl rfl ?_
  refine v_inx (L1 := [some (.ref 0)]) mt_117 rfl rfl mt_150 rfl rfl (m_callj (As := []) (rest := []) rfl rfl c_0 rfl (Nat.le_of_ble_eq_true rfl) (Nat.le_of_ble_eq_true rfl)) rfl (by clear h; omega) rfl rfl ?_
  refine v_s mt_150 rfl rfl rfl ?_
  refine v_s mt_150 rfl rfl rfl ?_
  refine j_gi (w := J 0 18) 18 mt_150 rfl rfl c_0 (by decide) rfl ?_
  refine v_ic (v := Int32.ofInt 1) mt_150 rfl rfl ?_
  refine j_add (e := (J 0 18) + 1) mt_150 rfl rfl ?_
  refine j_pi 18 mt_150 rfl rfl c_0 (by decide) ?_
  exact v_thr mt_150 rfl rfl (Nat.le_of_ble_eq_true rfl) h
set_option maxHeartbeats 600000 in
theorem b_118_0 {X : Nat × (Nat → Int32)} {d : Nat} {J : Nat → Nat → Int} {sw : Bool × Bool × Bool} {lg : Nat → Nat → Int64} {x : Nat} {K : (Option Value ⊕ Nat) → mM → Prop} {x1 x2 : Int} (hd : 2 ≤ d)
    (h : InR x1 ∧ (x1 < 0 → K (.inr 1) (mj (m_up J 0 17 ((J 0 17) + 1)) sw lg (x + 1))) ∧ (0 ≤ x1 → (InR (J (vA sw) 0) ∧ (x1 < J (vA sw) 0 → (InR x2 ∧ (x2 = 0 → ((0 ≤ x1 ∧ x1 < 6) ∧ K (.inl (some (iv (J ((vA sw) + 1) x1.toNat)))) (mj J sw lg x))) ∧ (x2 = 1 → ((0 ≤ x1 ∧ x1 < 6) ∧ K (.inl (some (iv (J 42 x1.toNat)))) (mj J sw lg x))) ∧ (x2 = 2 → ((0 ≤ x1 ∧ x1 < 6) ∧ K (.inl (some (iv (J 43 x1.toNat)))) (mj J sw lg x))) ∧ (x2 = 3 → ((0 ≤ x1 ∧ x1 < 6) ∧ K (.inl (some (iv (J 44 x1.toNat)))) (mj J sw lg x))) ∧ (x2 = 4 → ((0 ≤ x1 ∧ x1 < 6) ∧ InR (2 * (J 43 x1.toNat)) ∧ InR (J 42 x1.toNat) ∧ (2 * (J 43 x1.toNat) ≤ J 42 x1.toNat → K (.inl (some (iv 0))) (mj J sw lg x)) ∧ (J 42 x1.toNat < 2 * (J 43 x1.toNat) → K (.inl (some (iv 1))) (mj J sw lg x)))) ∧ (x2 = 5 → ((0 ≤ x1 ∧ x1 < 6) ∧ InR ((J ((vA sw) + 1) x1.toNat) - (J 42 x1.toNat)) ∧ K (.inl (some (iv (max 0 ((J ((vA sw) + 1) x1.toNat) - (J 42 x1.toNat)))))) (mj J sw lg x))) ∧ (x2 < 0 ∨ 5 < x2 → K (.inr 2) (mj (m_up J 0 18 ((J 0 18) + 1)) sw lg (x + 1))))) ∧ (J (vA sw) 0 ≤ x1 → K (.inr 1) (mj (m_up J 0 17 ((J 0 17) + 1)) sw lg (x + 1)))))) : VV X d 118 (0, [some (.ref 0), some (iv x1), some (iv x2)], [], mj J sw lg x) K := by
  refine v_s mt_118 rfl rfl rfl ?_
  refine v_s mt_118 rfl rfl rfl ?_
  refine v_inx (L1 := [some (.ref 0), some (iv x1)]) mt_118 rfl rfl mt_151 rfl rfl (m_callj (As := [iv x1]) (rest := []) rfl rfl c_0 rfl (Nat.le_of_ble_eq_true rfl) (Nat.le_of_ble_eq_true rfl)) rfl (by clear h; omega) rfl rfl ?_
  refine v_s mt_151 rfl rfl rfl ?_
  obtain ⟨z1, h⟩ := h
  refine j_if1 mt_151 rfl rfl z1 (fun c => ?_) (fun c => ?_)
  · replace h := h.1 c
    refine v_s mt_151 rfl rfl rfl ?_
    refine v_inx (L1 := [some (.ref 0)]) mt_151 rfl rfl mt_149 rfl rfl (m_callj (As := []) (rest := []) rfl rfl c_0 rfl (Nat.le_of_ble_eq_true rfl) (Nat.le_of_ble_eq_true rfl)) rfl (by clear h; omega) rfl rfl ?_
    refine v_s mt_149 rfl rfl rfl ?_
    refine v_s mt_149 rfl rfl rfl ?_
    refine j_gi (w := J 0 17) 17 mt_149 rfl rfl c_0 (by decide) rfl ?_
    refine v_ic (v := Int32.ofInt 1) mt_149 rfl rfl ?_
    refine j_add (e := (J 0 17) + 1) mt_149 rfl rfl ?_
    refine j_pi 17 mt_149 rfl rfl c_0 (by decide) ?_
    exact v_thr mt_149 rfl rfl (Nat.le_of_ble_eq_true rfl) h
  · replace h := h.2 (Int.not_lt.mp c)
    refine v_s mt_151 rfl rfl rfl ?_
    refine v_s mt_151 rfl rfl rfl ?_
    refine v_gr (w := (vA sw)) 2 mt_151 rfl rfl c_0 (by decide) g_11_2 ?_
    refine j_gi (w := J (vA sw) 0) 0 mt_151 rfl rfl (cvA sw) (by decide) rfl ?_
    obtain ⟨z2, h⟩ := h
    refine j_if2 mt_151 rfl rfl z1 z2 (fun c => ?_) (fun c => ?_)
    · replace h := h.1 c
      refine v_ret mt_151 rfl rfl rfl ?_
      refine v_s mt_118 rfl rfl rfl ?_
      obtain ⟨z3, h⟩ := h
      by_cases c : x2 = 0
      · replace h := h.1 c
        refine j_si 0 mt_118 rfl ⟨by decide, by decide⟩ c (by decide) rfl rfl ?_
        refine v_s mt_118 rfl rfl rfl ?_
        refine v_gr (w := (vA sw)) 2 mt_118 rfl rfl c_0 (by decide) g_11_2 ?_
        refine v_gr (w := ((vA sw) + 1)) 6 mt_118 rfl rfl (cvA sw) (by decide) (g_9_6 (cvA sw)) ?_
        refine v_s mt_118 rfl rfl rfl ?_
        obtain ⟨z4, h⟩ := h
        refine j_al (w := J ((vA sw) + 1) x1.toNat) mt_118 rfl (shV (vA sw) (SH_lt (cvA sw)) (cvA sw)).1 z4 (by decide) rfl ?_
        exact v_ret mt_118 rfl rfl rfl h
      have c0 := c
      replace h := h.2
      by_cases c : x2 = 1
      · replace h := h.1 c
        refine j_si 1 mt_118 rfl ⟨by decide, by decide⟩ c (by decide) rfl rfl ?_
        refine v_s mt_118 rfl rfl rfl ?_
        refine v_gr (w := 41) 9 mt_118 rfl rfl c_0 (by decide) g_11_9 ?_
        refine v_gr (w := 42) 0 mt_118 rfl rfl c_41 (by decide) (g_6_0 c_41) ?_
        refine v_s mt_118 rfl rfl rfl ?_
        obtain ⟨z5, h⟩ := h
        refine j_al (w := J 42 x1.toNat) mt_118 rfl c_42 z5 (by decide) rfl ?_
        exact v_ret mt_118 rfl rfl rfl h
      have c1 := c
      replace h := h.2
      by_cases c : x2 = 2
      · replace h := h.1 c
        refine j_si 2 mt_118 rfl ⟨by decide, by decide⟩ c (by decide) rfl rfl ?_
        refine v_s mt_118 rfl rfl rfl ?_
        refine v_gr (w := 41) 9 mt_118 rfl rfl c_0 (by decide) g_11_9 ?_
        refine v_gr (w := 43) 1 mt_118 rfl rfl c_41 (by decide) (g_6_1 c_41) ?_
        refine v_s mt_118 rfl rfl rfl ?_
        obtain ⟨z6, h⟩ := h
        refine j_al (w := J 43 x1.toNat) mt_118 rfl c_43 z6 (by decide) rfl ?_
        exact v_ret mt_118 rfl rfl rfl h
      have c2 := c
      replace h := h.2
      by_cases c : x2 = 3
      · replace h := h.1 c
        refine j_si 3 mt_118 rfl ⟨by decide, by decide⟩ c (by decide) rfl rfl ?_
        refine v_s mt_118 rfl rfl rfl ?_
        refine v_gr (w := 41) 9 mt_118 rfl rfl c_0 (by decide) g_11_9 ?_
        refine v_gr (w := 44) 2 mt_118 rfl rfl c_41 (by decide) (g_6_2 c_41) ?_
        refine v_s mt_118 rfl rfl rfl ?_
        obtain ⟨z7, h⟩ := h
        refine j_al (w := J 44 x1.toNat) mt_118 rfl c_44 z7 (by decide) rfl ?_
        exact v_ret mt_118 rfl rfl rfl h
      have c3 := c
      replace h := h.2
      by_cases c : x2 = 4
      · replace h := h.1 c
        refine j_si 4 mt_118 rfl ⟨by decide, by decide⟩ c (by decide) rfl rfl ?_
        refine v_s mt_118 rfl rfl rfl ?_
        refine v_gr (w := 41) 9 mt_118 rfl rfl c_0 (by decide) g_11_9 ?_
        refine v_s mt_118 rfl rfl rfl ?_
        refine v_inl (L1 := [some (.ref 41), some (iv x1)]) mt_118 rfl rfl mt_46 rfl rfl (m_callj (As := [iv x1]) (rest := []) rfl rfl c_41 rfl (Nat.le_of_ble_eq_true rfl) (Nat.le_of_ble_eq_true rfl)) rfl (by clear h; omega) ?_
        refine v_ic (v := Int32.ofInt 2) mt_46 rfl rfl ?_
        refine v_s mt_46 rfl rfl rfl ?_
        refine v_gr (w := 43) 1 mt_46 rfl rfl c_41 (by decide) (g_6_1 c_41) ?_
        refine v_s mt_46 rfl rfl rfl ?_
        obtain ⟨z8, h⟩ := h
        refine j_al (w := J 43 x1.toNat) mt_46 rfl c_43 z8 (by decide) rfl ?_
        refine j_mul (e := 2 * (J 43 x1.toNat)) mt_46 rfl rfl ?_
        refine v_s mt_46 rfl rfl rfl ?_
        refine v_gr (w := 42) 0 mt_46 rfl rfl c_41 (by decide) (g_6_0 c_41) ?_
        refine v_s mt_46 rfl rfl rfl ?_
        refine j_al (w := J 42 x1.toNat) mt_46 rfl c_42 z8 (by decide) rfl ?_
        obtain ⟨z9, h⟩ := h
        obtain ⟨z10, h⟩ := h
        refine j_if2 mt_46 rfl rfl z9 z10 (fun c => ?_) (fun c => ?_)
        · replace h := h.1 c
          refine v_ic (v := Int32.ofInt 0) mt_46 rfl rfl ?_
          refine j_retb mt_46 rfl rfl (by decide) ?_
          refine j_if1 mt_118 rfl rfl ⟨by decide, by decide⟩ (fun _ => ?_) (fun c => (c (show (0 : Int) = 0 by decide)).elim)
          refine v_ic (v := Int32.ofInt 0) mt_118 rfl rfl ?_
          exact v_ret mt_118 rfl rfl rfl h
        · replace h := h.2 (Int.not_le.mp c)
          refine v_ic (v := Int32.ofInt 1) mt_46 rfl rfl ?_
          refine v_go mt_46 rfl rfl ?_
          refine j_retb mt_46 rfl rfl (by decide) ?_
          refine j_if1 mt_118 rfl rfl ⟨by decide, by decide⟩ (fun c => absurd (show (1 : Int) = 0 from c) (by decide)) (fun _ => ?_)
          refine v_ic (v := Int32.ofInt 1) mt_118 rfl rfl ?_
          refine v_go mt_118 rfl rfl ?_
          exact v_ret mt_118 rfl rfl rfl h
      have c4 := c
      replace h := h.2
      by_cases c : x2 = 5
      · replace h := h.1 c
        refine j_si 5 mt_118 rfl ⟨by decide, by decide⟩ c (by decide) rfl rfl ?_
        refine v_ic (v := Int32.ofInt 0) mt_118 rfl rfl ?_
        refine v_s mt_118 rfl rfl rfl ?_
        refine v_gr (w := (vA sw)) 2 mt_118 rfl rfl c_0 (by decide) g_11_2 ?_
        refine v_gr (w := ((vA sw) + 1)) 6 mt_118 rfl rfl (cvA sw) (by decide) (g_9_6 (cvA sw)) ?_
        refine v_s mt_118 rfl rfl rfl ?_
        obtain ⟨z11, h⟩ := h
        refine j_al (w := J ((vA sw) + 1) x1.toNat) mt_118 rfl (shV (vA sw) (SH_lt (cvA sw)) (cvA sw)).1 z11 (by decide) rfl ?_
        refine v_s mt_118 rfl rfl rfl ?_
        refine v_gr (w := 41) 9 mt_118 rfl rfl c_0 (by decide) g_11_9 ?_
        refine v_gr (w := 42) 0 mt_118 rfl rfl c_41 (by decide) (g_6_0 c_41) ?_
        refine v_s mt_118 rfl rfl rfl ?_
        refine j_al (w := J 42 x1.toNat) mt_118 rfl c_42 z11 (by decide) rfl ?_
        refine j_sub (e := (J ((vA sw) + 1) x1.toNat) - (J 42 x1.toNat)) mt_118 rfl rfl ?_
        obtain ⟨z12, h⟩ := h
        refine j_max mt_118 rfl (Nat.le_of_ble_eq_true rfl) ⟨by decide, by decide⟩ z12 ?_
        exact v_ret mt_118 rfl rfl rfl h
      have c5 := c
      replace h := h.2
      have hz : x2 < 0 ∨ 5 < x2 := sw_0_5 c0 c1 c2 c3 c4 c5
      replace h := h hz
      refine j_sd mt_118 rfl z3 hz rfl ?_
      refine v_s mt_118 rfl rfl rfl ?_
      refine v_inx (L1 := [some (.ref 0)]) mt_118 rfl rfl mt_150 rfl rfl (m_callj (As := []) (rest := []) rfl rfl c_0 rfl (Nat.le_of_ble_eq_true rfl) (Nat.le_of_ble_eq_true rfl)) rfl (by clear h; omega) rfl rfl ?_
      refine v_s mt_150 rfl rfl rfl ?_
      refine v_s mt_150 rfl rfl rfl ?_
      refine j_gi (w := J 0 18) 18 mt_150 rfl rfl c_0 (by decide) rfl ?_
      refine v_ic (v := Int32.ofInt 1) mt_150 rfl rfl ?_
      refine j_add (e := (J 0 18) + 1) mt_150 rfl rfl ?_
      refine j_pi 18 mt_150 rfl rfl c_0 (by decide) ?_
      exact v_thr mt_150 rfl rfl (Nat.le_of_ble_eq_true rfl) h
    · replace h := h.2 (Int.not_lt.mp c)
      refine v_s mt_151 rfl rfl rfl ?_
      refine v_inx (L1 := [some (.ref 0)]) mt_151 rfl rfl mt_149 rfl rfl (m_callj (As := []) (rest := []) rfl rfl c_0 rfl (Nat.le_of_ble_eq_true rfl) (Nat.le_of_ble_eq_true rfl)) rfl (by clear h; omega) rfl rfl ?_
      refine v_s mt_149 rfl rfl rfl ?_
      refine v_s mt_149 rfl rfl rfl ?_
      refine j_gi (w := J 0 17) 17 mt_149 rfl rfl c_0 (by decide) rfl ?_
      refine v_ic (v := Int32.ofInt 1) mt_149 rfl rfl ?_
      refine j_add (e := (J 0 17) + 1) mt_149 rfl rfl ?_
      refine j_pi 17 mt_149 rfl rfl c_0 (by decide) ?_
      exact v_thr mt_149 rfl rfl (Nat.le_of_ble_eq_true rfl) h
set_option maxHeartbeats 600000 in
theorem b_119_0 {X : Nat × (Nat → Int32)} {d : Nat} {J : Nat → Nat → Int} {sw : Bool × Bool × Bool} {lg : Nat → Nat → Int64} {x : Nat} {K : (Option Value ⊕ Nat) → mM → Prop} {x1 x2 : Int} (hd : 2 ≤ d)
    (h : InR x1 ∧ (x1 < 0 → K (.inr 1) (mj (m_up J 0 17 ((J 0 17) + 1)) sw lg (x + 1))) ∧ (0 ≤ x1 → (InR (J (vA sw) 1) ∧ (x1 < J (vA sw) 1 → (InR x2 ∧ (x2 = 0 → ((0 ≤ x1 ∧ x1 < 6) ∧ K (.inl (some (iv (J ((vA sw) + 2) x1.toNat)))) (mj J sw lg x))) ∧ (x2 = 1 → ((bAnd (bShr (J 41 6) x1) 1 = 0 → K (.inl (some (iv 0))) (mj J sw lg x)) ∧ (¬ bAnd (bShr (J 41 6) x1) 1 = 0 → K (.inl (some (iv 1))) (mj J sw lg x)))) ∧ (x2 = 2 → ((0 ≤ x1 ∧ x1 < 6) ∧ K (.inl (some (iv (J 45 x1.toNat)))) (mj J sw lg x))) ∧ (x2 < 0 ∨ 2 < x2 → K (.inr 2) (mj (m_up J 0 18 ((J 0 18) + 1)) sw lg (x + 1))))) ∧ (J (vA sw) 1 ≤ x1 → K (.inr 1) (mj (m_up J 0 17 ((J 0 17) + 1)) sw lg (x + 1)))))) : VV X d 119 (0, [some (.ref 0), some (iv x1), some (iv x2)], [], mj J sw lg x) K := by
  refine v_s mt_119 rfl rfl rfl ?_
  refine v_s mt_119 rfl rfl rfl ?_
  refine v_inx (L1 := [some (.ref 0), some (iv x1)]) mt_119 rfl rfl mt_152 rfl rfl (m_callj (As := [iv x1]) (rest := []) rfl rfl c_0 rfl (Nat.le_of_ble_eq_true rfl) (Nat.le_of_ble_eq_true rfl)) rfl (by clear h; omega) rfl rfl ?_
  refine v_s mt_152 rfl rfl rfl ?_
  obtain ⟨z1, h⟩ := h
  refine j_if1 mt_152 rfl rfl z1 (fun c => ?_) (fun c => ?_)
  · replace h := h.1 c
    refine v_s mt_152 rfl rfl rfl ?_
    refine v_inx (L1 := [some (.ref 0)]) mt_152 rfl rfl mt_149 rfl rfl (m_callj (As := []) (rest := []) rfl rfl c_0 rfl (Nat.le_of_ble_eq_true rfl) (Nat.le_of_ble_eq_true rfl)) rfl (by clear h; omega) rfl rfl ?_
    refine v_s mt_149 rfl rfl rfl ?_
    refine v_s mt_149 rfl rfl rfl ?_
    refine j_gi (w := J 0 17) 17 mt_149 rfl rfl c_0 (by decide) rfl ?_
    refine v_ic (v := Int32.ofInt 1) mt_149 rfl rfl ?_
    refine j_add (e := (J 0 17) + 1) mt_149 rfl rfl ?_
    refine j_pi 17 mt_149 rfl rfl c_0 (by decide) ?_
    exact v_thr mt_149 rfl rfl (Nat.le_of_ble_eq_true rfl) h
  · replace h := h.2 (Int.not_lt.mp c)
    refine v_s mt_152 rfl rfl rfl ?_
    refine v_s mt_152 rfl rfl rfl ?_
    refine v_gr (w := (vA sw)) 2 mt_152 rfl rfl c_0 (by decide) g_11_2 ?_
    refine j_gi (w := J (vA sw) 1) 1 mt_152 rfl rfl (cvA sw) (by decide) rfl ?_
    obtain ⟨z2, h⟩ := h
    refine j_if2 mt_152 rfl rfl z1 z2 (fun c => ?_) (fun c => ?_)
    · replace h := h.1 c
      refine v_ret mt_152 rfl rfl rfl ?_
      refine v_s mt_119 rfl rfl rfl ?_
      obtain ⟨z3, h⟩ := h
      by_cases c : x2 = 0
      · replace h := h.1 c
        refine j_si 0 mt_119 rfl ⟨by decide, by decide⟩ c (by decide) rfl rfl ?_
        refine v_s mt_119 rfl rfl rfl ?_
        refine v_gr (w := (vA sw)) 2 mt_119 rfl rfl c_0 (by decide) g_11_2 ?_
        refine v_gr (w := ((vA sw) + 2)) 7 mt_119 rfl rfl (cvA sw) (by decide) (g_9_7 (cvA sw)) ?_
        refine v_s mt_119 rfl rfl rfl ?_
        obtain ⟨z4, h⟩ := h
        refine j_al (w := J ((vA sw) + 2) x1.toNat) mt_119 rfl (shV (vA sw) (SH_lt (cvA sw)) (cvA sw)).2.1 z4 (by decide) rfl ?_
        exact v_ret mt_119 rfl rfl rfl h
      have c0 := c
      replace h := h.2
      by_cases c : x2 = 1
      · replace h := h.1 c
        refine j_si 1 mt_119 rfl ⟨by decide, by decide⟩ c (by decide) rfl rfl ?_
        refine v_s mt_119 rfl rfl rfl ?_
        refine v_gr (w := 41) 9 mt_119 rfl rfl c_0 (by decide) g_11_9 ?_
        refine v_s mt_119 rfl rfl rfl ?_
        refine v_inl (L1 := [some (.ref 41), some (iv x1)]) mt_119 rfl rfl mt_47 rfl rfl (m_callj (As := [iv x1]) (rest := []) rfl rfl c_41 rfl (Nat.le_of_ble_eq_true rfl) (Nat.le_of_ble_eq_true rfl)) rfl (by clear h; omega) ?_
        refine v_s mt_47 rfl rfl rfl ?_
        refine j_gi (w := J 41 6) 6 mt_47 rfl rfl c_41 (by decide) rfl ?_
        refine v_s mt_47 rfl rfl rfl ?_
        refine j_shr (e := bShr (J 41 6) x1) mt_47 rfl rfl ?_
        refine v_ic (v := Int32.ofInt 1) mt_47 rfl rfl ?_
        refine j_and (e := bAnd (bShr (J 41 6) x1) 1) mt_47 rfl rfl ?_
        refine j_if1 mt_47 rfl rfl (inT _) (fun c => ?_) (fun c => ?_)
        · replace h := h.1 c
          refine v_ic (v := Int32.ofInt 0) mt_47 rfl rfl ?_
          refine j_retb mt_47 rfl rfl (by decide) ?_
          refine j_if1 mt_119 rfl rfl ⟨by decide, by decide⟩ (fun _ => ?_) (fun c => (c (show (0 : Int) = 0 by decide)).elim)
          refine v_ic (v := Int32.ofInt 0) mt_119 rfl rfl ?_
          exact v_ret mt_119 rfl rfl rfl h
        · replace h := h.2 c
          refine v_ic (v := Int32.ofInt 1) mt_47 rfl rfl ?_
          refine v_go mt_47 rfl rfl ?_
          refine j_retb mt_47 rfl rfl (by decide) ?_
          refine j_if1 mt_119 rfl rfl ⟨by decide, by decide⟩ (fun c => absurd (show (1 : Int) = 0 from c) (by decide)) (fun _ => ?_)
          refine v_ic (v := Int32.ofInt 1) mt_119 rfl rfl ?_
          refine v_go mt_119 rfl rfl ?_
          exact v_ret mt_119 rfl rfl rfl h
      have c1 := c
      replace h := h.2
      by_cases c : x2 = 2
      · replace h := h.1 c
        refine j_si 2 mt_119 rfl ⟨by decide, by decide⟩ c (by decide) rfl rfl ?_
        refine v_s mt_119 rfl rfl rfl ?_
        refine v_gr (w := 41) 9 mt_119 rfl rfl c_0 (by decide) g_11_9 ?_
        refine v_gr (w := 45) 3 mt_119 rfl rfl c_41 (by decide) (g_6_3 c_41) ?_
        refine v_s mt_119 rfl rfl rfl ?_
        obtain ⟨z5, h⟩ := h
        refine j_al (w := J 45 x1.toNat) mt_119 rfl c_45 z5 (by decide) rfl ?_
        exact v_ret mt_119 rfl rfl rfl h
      have c2 := c
      replace h := h.2
      have hz : x2 < 0 ∨ 2 < x2 := sw_0_2 c0 c1 c2
      replace h := h hz
      refine j_sd mt_119 rfl z3 hz rfl ?_
      refine v_s mt_119 rfl rfl rfl ?_
      refine v_inx (L1 := [some (.ref 0)]) mt_119 rfl rfl mt_150 rfl rfl (m_callj (As := []) (rest := []) rfl rfl c_0 rfl (Nat.le_of_ble_eq_true rfl) (Nat.le_of_ble_eq_true rfl)) rfl (by clear h; omega) rfl rfl ?_
      refine v_s mt_150 rfl rfl rfl ?_
      refine v_s mt_150 rfl rfl rfl ?_
      refine j_gi (w := J 0 18) 18 mt_150 rfl rfl c_0 (by decide) rfl ?_
      refine v_ic (v := Int32.ofInt 1) mt_150 rfl rfl ?_
      refine j_add (e := (J 0 18) + 1) mt_150 rfl rfl ?_
      refine j_pi 18 mt_150 rfl rfl c_0 (by decide) ?_
      exact v_thr mt_150 rfl rfl (Nat.le_of_ble_eq_true rfl) h
    · replace h := h.2 (Int.not_lt.mp c)
      refine v_s mt_152 rfl rfl rfl ?_
      refine v_inx (L1 := [some (.ref 0)]) mt_152 rfl rfl mt_149 rfl rfl (m_callj (As := []) (rest := []) rfl rfl c_0 rfl (Nat.le_of_ble_eq_true rfl) (Nat.le_of_ble_eq_true rfl)) rfl (by clear h; omega) rfl rfl ?_
      refine v_s mt_149 rfl rfl rfl ?_
      refine v_s mt_149 rfl rfl rfl ?_
      refine j_gi (w := J 0 17) 17 mt_149 rfl rfl c_0 (by decide) rfl ?_
      refine v_ic (v := Int32.ofInt 1) mt_149 rfl rfl ?_
      refine j_add (e := (J 0 17) + 1) mt_149 rfl rfl ?_
      refine j_pi 17 mt_149 rfl rfl c_0 (by decide) ?_
      exact v_thr mt_149 rfl rfl (Nat.le_of_ble_eq_true rfl) h
set_option maxHeartbeats 600000 in
theorem b_120_0 {X : Nat × (Nat → Int32)} {d : Nat} {J : Nat → Nat → Int} {sw : Bool × Bool × Bool} {lg : Nat → Nat → Int64} {x : Nat} {K : (Option Value ⊕ Nat) → mM → Prop} {x1 x2 : Int} (hd : 2 ≤ d)
    (h : InR x1 ∧ (x1 < 0 → K (.inr 1) (mj (m_up J 0 17 ((J 0 17) + 1)) sw lg (x + 1))) ∧ (0 ≤ x1 → (InR (J (vA sw) 2) ∧ (x1 < J (vA sw) 2 → (InR x2 ∧ (x2 = 0 → ((0 ≤ x1 ∧ x1 < 9) ∧ K (.inl (some (iv (J 46 x1.toNat)))) (mj J sw lg x))) ∧ (x2 = 1 → ((0 ≤ x1 ∧ x1 < 9) ∧ K (.inl (some (iv (J 47 x1.toNat)))) (mj J sw lg x))) ∧ (x2 = 2 → ((0 ≤ x1 ∧ x1 < 9) ∧ K (.inl (some (iv (J ((vA sw) + 3) x1.toNat)))) (mj J sw lg x))) ∧ (x2 = 3 → ((0 ≤ x1 ∧ x1 < 9) ∧ K (.inl (some (iv (J ((vA sw) + 4) x1.toNat)))) (mj J sw lg x))) ∧ (x2 = 4 → (∃ (c2 : Int) (J1 : Nat → Nat → Int), EE X 0 67 [.ref 41, .ref (vA sw), iv x1] (mj J sw lg x) (.inl (some (iv c2))) (mj J1 sw lg x) ∧ K (.inl (some (iv c2))) (mj J1 sw lg x))) ∧ (x2 < 0 ∨ 4 < x2 → K (.inr 2) (mj (m_up J 0 18 ((J 0 18) + 1)) sw lg (x + 1))))) ∧ (J (vA sw) 2 ≤ x1 → K (.inr 1) (mj (m_up J 0 17 ((J 0 17) + 1)) sw lg (x + 1)))))) : VV X d 120 (0, [some (.ref 0), some (iv x1), some (iv x2)], [], mj J sw lg x) K := by
  refine v_s mt_120 rfl rfl rfl ?_
  refine v_s mt_120 rfl rfl rfl ?_
  refine v_inx (L1 := [some (.ref 0), some (iv x1)]) mt_120 rfl rfl mt_153 rfl rfl (m_callj (As := [iv x1]) (rest := []) rfl rfl c_0 rfl (Nat.le_of_ble_eq_true rfl) (Nat.le_of_ble_eq_true rfl)) rfl (by clear h; omega) rfl rfl ?_
  refine v_s mt_153 rfl rfl rfl ?_
  obtain ⟨z1, h⟩ := h
  refine j_if1 mt_153 rfl rfl z1 (fun c => ?_) (fun c => ?_)
  · replace h := h.1 c
    refine v_s mt_153 rfl rfl rfl ?_
    refine v_inx (L1 := [some (.ref 0)]) mt_153 rfl rfl mt_149 rfl rfl (m_callj (As := []) (rest := []) rfl rfl c_0 rfl (Nat.le_of_ble_eq_true rfl) (Nat.le_of_ble_eq_true rfl)) rfl (by clear h; omega) rfl rfl ?_
    refine v_s mt_149 rfl rfl rfl ?_
    refine v_s mt_149 rfl rfl rfl ?_
    refine j_gi (w := J 0 17) 17 mt_149 rfl rfl c_0 (by decide) rfl ?_
    refine v_ic (v := Int32.ofInt 1) mt_149 rfl rfl ?_
    refine j_add (e := (J 0 17) + 1) mt_149 rfl rfl ?_
    refine j_pi 17 mt_149 rfl rfl c_0 (by decide) ?_
    exact v_thr mt_149 rfl rfl (Nat.le_of_ble_eq_true rfl) h
  · replace h := h.2 (Int.not_lt.mp c)
    refine v_s mt_153 rfl rfl rfl ?_
    refine v_s mt_153 rfl rfl rfl ?_
    refine v_gr (w := (vA sw)) 2 mt_153 rfl rfl c_0 (by decide) g_11_2 ?_
    refine j_gi (w := J (vA sw) 2) 2 mt_153 rfl rfl (cvA sw) (by decide) rfl ?_
    obtain ⟨z2, h⟩ := h
    refine j_if2 mt_153 rfl rfl z1 z2 (fun c => ?_) (fun c => ?_)
    · replace h := h.1 c
      refine v_ret mt_153 rfl rfl rfl ?_
      refine v_s mt_120 rfl rfl rfl ?_
      obtain ⟨z3, h⟩ := h
      by_cases c : x2 = 0
      · replace h := h.1 c
        refine j_si 0 mt_120 rfl ⟨by decide, by decide⟩ c (by decide) rfl rfl ?_
        refine v_s mt_120 rfl rfl rfl ?_
        refine v_gr (w := 41) 9 mt_120 rfl rfl c_0 (by decide) g_11_9 ?_
        refine v_gr (w := 46) 4 mt_120 rfl rfl c_41 (by decide) (g_6_4 c_41) ?_
        refine v_s mt_120 rfl rfl rfl ?_
        obtain ⟨z4, h⟩ := h
        refine j_al (w := J 46 x1.toNat) mt_120 rfl c_46 z4 (by decide) rfl ?_
        exact v_ret mt_120 rfl rfl rfl h
      have c0 := c
      replace h := h.2
      by_cases c : x2 = 1
      · replace h := h.1 c
        refine j_si 1 mt_120 rfl ⟨by decide, by decide⟩ c (by decide) rfl rfl ?_
        refine v_s mt_120 rfl rfl rfl ?_
        refine v_gr (w := 41) 9 mt_120 rfl rfl c_0 (by decide) g_11_9 ?_
        refine v_gr (w := 47) 5 mt_120 rfl rfl c_41 (by decide) (g_6_5 c_41) ?_
        refine v_s mt_120 rfl rfl rfl ?_
        obtain ⟨z5, h⟩ := h
        refine j_al (w := J 47 x1.toNat) mt_120 rfl c_47 z5 (by decide) rfl ?_
        exact v_ret mt_120 rfl rfl rfl h
      have c1 := c
      replace h := h.2
      by_cases c : x2 = 2
      · replace h := h.1 c
        refine j_si 2 mt_120 rfl ⟨by decide, by decide⟩ c (by decide) rfl rfl ?_
        refine v_s mt_120 rfl rfl rfl ?_
        refine v_gr (w := (vA sw)) 2 mt_120 rfl rfl c_0 (by decide) g_11_2 ?_
        refine v_gr (w := ((vA sw) + 3)) 8 mt_120 rfl rfl (cvA sw) (by decide) (g_9_8 (cvA sw)) ?_
        refine v_s mt_120 rfl rfl rfl ?_
        obtain ⟨z6, h⟩ := h
        refine j_al (w := J ((vA sw) + 3) x1.toNat) mt_120 rfl (shV (vA sw) (SH_lt (cvA sw)) (cvA sw)).2.2.1 z6 (by decide) rfl ?_
        exact v_ret mt_120 rfl rfl rfl h
      have c2 := c
      replace h := h.2
      by_cases c : x2 = 3
      · replace h := h.1 c
        refine j_si 3 mt_120 rfl ⟨by decide, by decide⟩ c (by decide) rfl rfl ?_
        refine v_s mt_120 rfl rfl rfl ?_
        refine v_gr (w := (vA sw)) 2 mt_120 rfl rfl c_0 (by decide) g_11_2 ?_
        refine v_gr (w := ((vA sw) + 4)) 11 mt_120 rfl rfl (cvA sw) (by decide) (g_9_11 (cvA sw)) ?_
        refine v_s mt_120 rfl rfl rfl ?_
        obtain ⟨z7, h⟩ := h
        refine j_al (w := J ((vA sw) + 4) x1.toNat) mt_120 rfl (shV (vA sw) (SH_lt (cvA sw)) (cvA sw)).2.2.2.1 z7 (by decide) rfl ?_
        exact v_ret mt_120 rfl rfl rfl h
      have c3 := c
      replace h := h.2
      by_cases c : x2 = 4
      · replace h := h.1 c
        refine j_si 4 mt_120 rfl ⟨by decide, by decide⟩ c (by decide) rfl rfl ?_
        refine v_s mt_120 rfl rfl rfl ?_
        refine v_gr (w := 41) 9 mt_120 rfl rfl c_0 (by decide) g_11_9 ?_
        refine v_s mt_120 rfl rfl rfl ?_
        refine v_gr (w := (vA sw)) 2 mt_120 rfl rfl c_0 (by decide) g_11_2 ?_
        refine v_s mt_120 rfl rfl rfl ?_
        obtain ⟨c2, J1, z8, h⟩ := h
        refine v_call (d1 := 0) mt_120 rfl rfl mt_67 rfl rfl (m_callj (As := [.ref (vA sw), iv x1]) (rest := []) rfl rfl c_41 rfl (Nat.le_of_ble_eq_true rfl) (Nat.le_of_ble_eq_true rfl)) z8 (by clear h; omega) ?_
        exact v_ret mt_120 rfl rfl rfl h
      have c4 := c
      replace h := h.2
      have hz : x2 < 0 ∨ 4 < x2 := sw_0_4 c0 c1 c2 c3 c4
      replace h := h hz
      refine j_sd mt_120 rfl z3 hz rfl ?_
      refine v_s mt_120 rfl rfl rfl ?_
      refine v_inx (L1 := [some (.ref 0)]) mt_120 rfl rfl mt_150 rfl rfl (m_callj (As := []) (rest := []) rfl rfl c_0 rfl (Nat.le_of_ble_eq_true rfl) (Nat.le_of_ble_eq_true rfl)) rfl (by clear h; omega) rfl rfl ?_
      refine v_s mt_150 rfl rfl rfl ?_
      refine v_s mt_150 rfl rfl rfl ?_
      refine j_gi (w := J 0 18) 18 mt_150 rfl rfl c_0 (by decide) rfl ?_
      refine v_ic (v := Int32.ofInt 1) mt_150 rfl rfl ?_
      refine j_add (e := (J 0 18) + 1) mt_150 rfl rfl ?_
      refine j_pi 18 mt_150 rfl rfl c_0 (by decide) ?_
      exact v_thr mt_150 rfl rfl (Nat.le_of_ble_eq_true rfl) h
    · replace h := h.2 (Int.not_lt.mp c)
      refine v_s mt_153 rfl rfl rfl ?_
      refine v_inx (L1 := [some (.ref 0)]) mt_153 rfl rfl mt_149 rfl rfl (m_callj (As := []) (rest := []) rfl rfl c_0 rfl (Nat.le_of_ble_eq_true rfl) (Nat.le_of_ble_eq_true rfl)) rfl (by clear h; omega) rfl rfl ?_
      refine v_s mt_149 rfl rfl rfl ?_
      refine v_s mt_149 rfl rfl rfl ?_
      refine j_gi (w := J 0 17) 17 mt_149 rfl rfl c_0 (by decide) rfl ?_
      refine v_ic (v := Int32.ofInt 1) mt_149 rfl rfl ?_
      refine j_add (e := (J 0 17) + 1) mt_149 rfl rfl ?_
      refine j_pi 17 mt_149 rfl rfl c_0 (by decide) ?_
      exact v_thr mt_149 rfl rfl (Nat.le_of_ble_eq_true rfl) h
set_option maxHeartbeats 600000 in
theorem b_121_0 {X : Nat × (Nat → Int32)} {d : Nat} {J : Nat → Nat → Int} {sw : Bool × Bool × Bool} {lg : Nat → Nat → Int64} {x : Nat} {K : (Option Value ⊕ Nat) → mM → Prop} {x1 x2 : Int} (hd : 1 ≤ d)
    (h : InR x1 ∧ (x1 < 0 → K (.inr 1) (mj (m_up J 0 17 ((J 0 17) + 1)) sw lg (x + 1))) ∧ (0 ≤ x1 → (InR (J (vA sw) 3) ∧ (x1 < J (vA sw) 3 → (InR x2 ∧ (x2 = 0 → ((0 ≤ x1 ∧ x1 < 14) ∧ K (.inl (some (iv (J ((vA sw) + 5) x1.toNat)))) (mj J sw lg x))) ∧ (x2 = 1 → ((0 ≤ x1 ∧ x1 < 14) ∧ K (.inl (some (iv (J ((vA sw) + 6) x1.toNat)))) (mj J sw lg x))) ∧ (¬ x2 = 0 ∧ ¬ x2 = 1 → K (.inr 2) (mj (m_up J 0 18 ((J 0 18) + 1)) sw lg (x + 1))))) ∧ (J (vA sw) 3 ≤ x1 → K (.inr 1) (mj (m_up J 0 17 ((J 0 17) + 1)) sw lg (x + 1)))))) : VV X d 121 (0, [some (.ref 0), some (iv x1), some (iv x2)], [], mj J sw lg x) K := by
  refine v_s mt_121 rfl rfl rfl ?_
  obtain ⟨z1, h⟩ := h
  refine j_if1 mt_121 rfl rfl z1 (fun c => ?_) (fun c => ?_)
  · replace h := h.1 c
    refine v_s mt_121 rfl rfl rfl ?_
    refine v_inx (L1 := [some (.ref 0)]) mt_121 rfl rfl mt_149 rfl rfl (m_callj (As := []) (rest := []) rfl rfl c_0 rfl (Nat.le_of_ble_eq_true rfl) (Nat.le_of_ble_eq_true rfl)) rfl (by clear h; omega) rfl rfl ?_
    refine v_s mt_149 rfl rfl rfl ?_
    refine v_s mt_149 rfl rfl rfl ?_
    refine j_gi (w := J 0 17) 17 mt_149 rfl rfl c_0 (by decide) rfl ?_
    refine v_ic (v := Int32.ofInt 1) mt_149 rfl rfl ?_
    refine j_add (e := (J 0 17) + 1) mt_149 rfl rfl ?_
    refine j_pi 17 mt_149 rfl rfl c_0 (by decide) ?_
    exact v_thr mt_149 rfl rfl (Nat.le_of_ble_eq_true rfl) h
  · replace h := h.2 (Int.not_lt.mp c)
    refine v_s mt_121 rfl rfl rfl ?_
    refine v_s mt_121 rfl rfl rfl ?_
    refine v_gr (w := (vA sw)) 2 mt_121 rfl rfl c_0 (by decide) g_11_2 ?_
    refine j_gi (w := J (vA sw) 3) 3 mt_121 rfl rfl (cvA sw) (by decide) rfl ?_
    obtain ⟨z2, h⟩ := h
    refine j_if2 mt_121 rfl rfl z1 z2 (fun c => ?_) (fun c => ?_)
    · replace h := h.1 c
      refine v_s mt_121 rfl rfl rfl ?_
      obtain ⟨z3, h⟩ := h
      by_cases c : x2 = 0
      · replace h := h.1 c
        refine j_ls (off := 27) mt_121 rfl z3 rfl (by rw [c]; rfl) rfl ?_
        refine v_s mt_121 rfl rfl rfl ?_
        refine v_gr (w := (vA sw)) 2 mt_121 rfl rfl c_0 (by decide) g_11_2 ?_
        refine v_gr (w := ((vA sw) + 5)) 9 mt_121 rfl rfl (cvA sw) (by decide) (g_9_9 (cvA sw)) ?_
        refine v_s mt_121 rfl rfl rfl ?_
        obtain ⟨z4, h⟩ := h
        refine j_al (w := J ((vA sw) + 5) x1.toNat) mt_121 rfl (shV (vA sw) (SH_lt (cvA sw)) (cvA sw)).2.2.2.2.1 z4 (by decide) rfl ?_
        exact v_ret mt_121 rfl rfl rfl h
      have c0 := c
      replace h := h.2
      by_cases c : x2 = 1
      · replace h := h.1 c
        refine j_ls (off := 37) mt_121 rfl z3 rfl (by rw [c]; rfl) rfl ?_
        refine v_s mt_121 rfl rfl rfl ?_
        refine v_gr (w := (vA sw)) 2 mt_121 rfl rfl c_0 (by decide) g_11_2 ?_
        refine v_gr (w := ((vA sw) + 6)) 10 mt_121 rfl rfl (cvA sw) (by decide) (g_9_10 (cvA sw)) ?_
        refine v_s mt_121 rfl rfl rfl ?_
        obtain ⟨z5, h⟩ := h
        refine j_al (w := J ((vA sw) + 6) x1.toNat) mt_121 rfl (shV (vA sw) (SH_lt (cvA sw)) (cvA sw)).2.2.2.2.2 z5 (by decide) rfl ?_
        exact v_ret mt_121 rfl rfl rfl h
      have c1 := c
      replace h := h.2
      replace h := h ⟨c0, c1⟩
      refine j_ls (off := 47) mt_121 rfl z3 rfl (by show (if (0 : Int) = x2 then 27 else (if (1 : Int) = x2 then 37 else 47)) = 47; rw [if_neg (fun q => c0 q.symm), if_neg (fun q => c1 q.symm)]) rfl ?_
      refine v_s mt_121 rfl rfl rfl ?_
      refine v_inx (L1 := [some (.ref 0)]) mt_121 rfl rfl mt_150 rfl rfl (m_callj (As := []) (rest := []) rfl rfl c_0 rfl (Nat.le_of_ble_eq_true rfl) (Nat.le_of_ble_eq_true rfl)) rfl (by clear h; omega) rfl rfl ?_
      refine v_s mt_150 rfl rfl rfl ?_
      refine v_s mt_150 rfl rfl rfl ?_
      refine j_gi (w := J 0 18) 18 mt_150 rfl rfl c_0 (by decide) rfl ?_
      refine v_ic (v := Int32.ofInt 1) mt_150 rfl rfl ?_
      refine j_add (e := (J 0 18) + 1) mt_150 rfl rfl ?_
      refine j_pi 18 mt_150 rfl rfl c_0 (by decide) ?_
      exact v_thr mt_150 rfl rfl (Nat.le_of_ble_eq_true rfl) h
    · replace h := h.2 (Int.not_lt.mp c)
      refine v_s mt_121 rfl rfl rfl ?_
      refine v_inx (L1 := [some (.ref 0)]) mt_121 rfl rfl mt_149 rfl rfl (m_callj (As := []) (rest := []) rfl rfl c_0 rfl (Nat.le_of_ble_eq_true rfl) (Nat.le_of_ble_eq_true rfl)) rfl (by clear h; omega) rfl rfl ?_
      refine v_s mt_149 rfl rfl rfl ?_
      refine v_s mt_149 rfl rfl rfl ?_
      refine j_gi (w := J 0 17) 17 mt_149 rfl rfl c_0 (by decide) rfl ?_
      refine v_ic (v := Int32.ofInt 1) mt_149 rfl rfl ?_
      refine j_add (e := (J 0 17) + 1) mt_149 rfl rfl ?_
      refine j_pi 17 mt_149 rfl rfl c_0 (by decide) ?_
      exact v_thr mt_149 rfl rfl (Nat.le_of_ble_eq_true rfl) h
set_option maxHeartbeats 600000 in
theorem b_122_0 {X : Nat × (Nat → Int32)} {d : Nat} {J : Nat → Nat → Int} {sw : Bool × Bool × Bool} {lg : Nat → Nat → Int64} {x : Nat} {K : (Option Value ⊕ Nat) → mM → Prop} {x1 x2 x3 : Int} (hd : 3 ≤ d)
    (h : InR x1 ∧ (x1 < 0 → K (.inr 1) (mj (m_up J 0 17 ((J 0 17) + 1)) sw lg (x + 1))) ∧ (0 ≤ x1 → (InR (J (vA sw) 1) ∧ (x1 < J (vA sw) 1 → (InR x2 ∧ (x2 < 0 → K (.inr 1) (mj (m_up J 0 17 ((J 0 17) + 1)) sw lg (x + 1))) ∧ (0 ≤ x2 → (InR (J (vA sw) 0) ∧ (x2 < J (vA sw) 0 → (InR x3 ∧ (x3 < 0 → K (.inr 1) (mj (m_up J 0 17 ((J 0 17) + 1)) sw lg (x + 1))) ∧ (0 ≤ x3 → (InR (J (vA sw) 2) ∧ (x3 < J (vA sw) 2 → (∃ (c2 : Int) (J1 : Nat → Nat → Int), EE X 2 48 [.ref 41, .ref (vA sw), .ref (lA sw), iv x1, iv x2, iv x3] (mj J sw lg x) (.inl (some (iv c2))) (mj J1 sw lg x) ∧ K (.inl (some (iv c2))) (mj J1 sw lg x))) ∧ (J (vA sw) 2 ≤ x3 → K (.inr 1) (mj (m_up J 0 17 ((J 0 17) + 1)) sw lg (x + 1))))))) ∧ (J (vA sw) 0 ≤ x2 → K (.inr 1) (mj (m_up J 0 17 ((J 0 17) + 1)) sw lg (x + 1))))))) ∧ (J (vA sw) 1 ≤ x1 → K (.inr 1) (mj (m_up J 0 17 ((J 0 17) + 1)) sw lg (x + 1)))))) : VV X d 122 (0, [some (.ref 0), some (iv x1), some (iv x2), some (iv x3)], [], mj J sw lg x) K := by
  refine v_s mt_122 rfl rfl rfl ?_
  refine v_s mt_122 rfl rfl rfl ?_
  refine v_inx (L1 := [some (.ref 0), some (iv x1)]) mt_122 rfl rfl mt_152 rfl rfl (m_callj (As := [iv x1]) (rest := []) rfl rfl c_0 rfl (Nat.le_of_ble_eq_true rfl) (Nat.le_of_ble_eq_true rfl)) rfl (by clear h; omega) rfl rfl ?_
  refine v_s mt_152 rfl rfl rfl ?_
  obtain ⟨z1, h⟩ := h
  refine j_if1 mt_152 rfl rfl z1 (fun c => ?_) (fun c => ?_)
  · replace h := h.1 c
    refine v_s mt_152 rfl rfl rfl ?_
    refine v_inx (L1 := [some (.ref 0)]) mt_152 rfl rfl mt_149 rfl rfl (m_callj (As := []) (rest := []) rfl rfl c_0 rfl (Nat.le_of_ble_eq_true rfl) (Nat.le_of_ble_eq_true rfl)) rfl (by clear h; omega) rfl rfl ?_
    refine v_s mt_149 rfl rfl rfl ?_
    refine v_s mt_149 rfl rfl rfl ?_
    refine j_gi (w := J 0 17) 17 mt_149 rfl rfl c_0 (by decide) rfl ?_
    refine v_ic (v := Int32.ofInt 1) mt_149 rfl rfl ?_
    refine j_add (e := (J 0 17) + 1) mt_149 rfl rfl ?_
    refine j_pi 17 mt_149 rfl rfl c_0 (by decide) ?_
    exact v_thr mt_149 rfl rfl (Nat.le_of_ble_eq_true rfl) h
  · replace h := h.2 (Int.not_lt.mp c)
    refine v_s mt_152 rfl rfl rfl ?_
    refine v_s mt_152 rfl rfl rfl ?_
    refine v_gr (w := (vA sw)) 2 mt_152 rfl rfl c_0 (by decide) g_11_2 ?_
    refine j_gi (w := J (vA sw) 1) 1 mt_152 rfl rfl (cvA sw) (by decide) rfl ?_
    obtain ⟨z2, h⟩ := h
    refine j_if2 mt_152 rfl rfl z1 z2 (fun c => ?_) (fun c => ?_)
    · replace h := h.1 c
      refine v_ret mt_152 rfl rfl rfl ?_
      refine v_s mt_122 rfl rfl rfl ?_
      refine v_s mt_122 rfl rfl rfl ?_
      refine v_inx (L1 := [some (.ref 0), some (iv x2)]) mt_122 rfl rfl mt_151 rfl rfl (m_callj (As := [iv x2]) (rest := []) rfl rfl c_0 rfl (Nat.le_of_ble_eq_true rfl) (Nat.le_of_ble_eq_true rfl)) rfl (by clear h; omega) rfl rfl ?_
      refine v_s mt_151 rfl rfl rfl ?_
      obtain ⟨z3, h⟩ := h
      refine j_if1 mt_151 rfl rfl z3 (fun c => ?_) (fun c => ?_)
      · replace h := h.1 c
        refine v_s mt_151 rfl rfl rfl ?_
        refine v_inx (L1 := [some (.ref 0)]) mt_151 rfl rfl mt_149 rfl rfl (m_callj (As := []) (rest := []) rfl rfl c_0 rfl (Nat.le_of_ble_eq_true rfl) (Nat.le_of_ble_eq_true rfl)) rfl (by clear h; omega) rfl rfl ?_
        refine v_s mt_149 rfl rfl rfl ?_
        refine v_s mt_149 rfl rfl rfl ?_
        refine j_gi (w := J 0 17) 17 mt_149 rfl rfl c_0 (by decide) rfl ?_
        refine v_ic (v := Int32.ofInt 1) mt_149 rfl rfl ?_
        refine j_add (e := (J 0 17) + 1) mt_149 rfl rfl ?_
        refine j_pi 17 mt_149 rfl rfl c_0 (by decide) ?_
        exact v_thr mt_149 rfl rfl (Nat.le_of_ble_eq_true rfl) h
      · replace h := h.2 (Int.not_lt.mp c)
        refine v_s mt_151 rfl rfl rfl ?_
        refine v_s mt_151 rfl rfl rfl ?_
        refine v_gr (w := (vA sw)) 2 mt_151 rfl rfl c_0 (by decide) g_11_2 ?_
        refine j_gi (w := J (vA sw) 0) 0 mt_151 rfl rfl (cvA sw) (by decide) rfl ?_
        obtain ⟨z4, h⟩ := h
        refine j_if2 mt_151 rfl rfl z3 z4 (fun c => ?_) (fun c => ?_)
        · replace h := h.1 c
          refine v_ret mt_151 rfl rfl rfl ?_
          refine v_s mt_122 rfl rfl rfl ?_
          refine v_s mt_122 rfl rfl rfl ?_
          refine v_inx (L1 := [some (.ref 0), some (iv x3)]) mt_122 rfl rfl mt_153 rfl rfl (m_callj (As := [iv x3]) (rest := []) rfl rfl c_0 rfl (Nat.le_of_ble_eq_true rfl) (Nat.le_of_ble_eq_true rfl)) rfl (by clear h; omega) rfl rfl ?_
          refine v_s mt_153 rfl rfl rfl ?_
          obtain ⟨z5, h⟩ := h
          refine j_if1 mt_153 rfl rfl z5 (fun c => ?_) (fun c => ?_)
          · replace h := h.1 c
            refine v_s mt_153 rfl rfl rfl ?_
            refine v_inx (L1 := [some (.ref 0)]) mt_153 rfl rfl mt_149 rfl rfl (m_callj (As := []) (rest := []) rfl rfl c_0 rfl (Nat.le_of_ble_eq_true rfl) (Nat.le_of_ble_eq_true rfl)) rfl (by clear h; omega) rfl rfl ?_
            refine v_s mt_149 rfl rfl rfl ?_
            refine v_s mt_149 rfl rfl rfl ?_
            refine j_gi (w := J 0 17) 17 mt_149 rfl rfl c_0 (by decide) rfl ?_
            refine v_ic (v := Int32.ofInt 1) mt_149 rfl rfl ?_
            refine j_add (e := (J 0 17) + 1) mt_149 rfl rfl ?_
            refine j_pi 17 mt_149 rfl rfl c_0 (by decide) ?_
            exact v_thr mt_149 rfl rfl (Nat.le_of_ble_eq_true rfl) h
          · replace h := h.2 (Int.not_lt.mp c)
            refine v_s mt_153 rfl rfl rfl ?_
            refine v_s mt_153 rfl rfl rfl ?_
            refine v_gr (w := (vA sw)) 2 mt_153 rfl rfl c_0 (by decide) g_11_2 ?_
            refine j_gi (w := J (vA sw) 2) 2 mt_153 rfl rfl (cvA sw) (by decide) rfl ?_
            obtain ⟨z6, h⟩ := h
            refine j_if2 mt_153 rfl rfl z5 z6 (fun c => ?_) (fun c => ?_)
            · replace h := h.1 c
              refine v_ret mt_153 rfl rfl rfl ?_
              refine v_s mt_122 rfl rfl rfl ?_
              refine v_gr (w := 41) 9 mt_122 rfl rfl c_0 (by decide) g_11_9 ?_
              refine v_s mt_122 rfl rfl rfl ?_
              refine v_gr (w := (vA sw)) 2 mt_122 rfl rfl c_0 (by decide) g_11_2 ?_
              refine v_s mt_122 rfl rfl rfl ?_
              refine v_gr (w := (lA sw)) 4 mt_122 rfl rfl c_0 (by decide) g_11_4 ?_
              refine v_s mt_122 rfl rfl rfl ?_
              refine v_s mt_122 rfl rfl rfl ?_
              refine v_s mt_122 rfl rfl rfl ?_
              obtain ⟨c2, J1, z7, h⟩ := h
              refine v_call (d1 := 2) mt_122 rfl rfl mt_48 rfl rfl (m_callj (As := [.ref (vA sw), .ref (lA sw), iv x1, iv x2, iv x3]) (rest := []) rfl rfl c_41 rfl (Nat.le_of_ble_eq_true rfl) (Nat.le_of_ble_eq_true rfl)) z7 (by clear h; omega) ?_
              exact v_ret mt_122 rfl rfl rfl h
            · replace h := h.2 (Int.not_lt.mp c)
              refine v_s mt_153 rfl rfl rfl ?_
              refine v_inx (L1 := [some (.ref 0)]) mt_153 rfl rfl mt_149 rfl rfl (m_callj (As := []) (rest := []) rfl rfl c_0 rfl (Nat.le_of_ble_eq_true rfl) (Nat.le_of_ble_eq_true rfl)) rfl (by clear h; omega) rfl rfl ?_
              refine v_s mt_149 rfl rfl rfl ?_
              refine v_s mt_149 rfl rfl rfl ?_
              refine j_gi (w := J 0 17) 17 mt_149 rfl rfl c_0 (by decide) rfl ?_
              refine v_ic (v := Int32.ofInt 1) mt_149 rfl rfl ?_
              refine j_add (e := (J 0 17) + 1) mt_149 rfl rfl ?_
              refine j_pi 17 mt_149 rfl rfl c_0 (by decide) ?_
              exact v_thr mt_149 rfl rfl (Nat.le_of_ble_eq_true rfl) h
        · replace h := h.2 (Int.not_lt.mp c)
          refine v_s mt_151 rfl rfl rfl ?_
          refine v_inx (L1 := [some (.ref 0)]) mt_151 rfl rfl mt_149 rfl rfl (m_callj (As := []) (rest := []) rfl rfl c_0 rfl (Nat.le_of_ble_eq_true rfl) (Nat.le_of_ble_eq_true rfl)) rfl (by clear h; omega) rfl rfl ?_
          refine v_s mt_149 rfl rfl rfl ?_
          refine v_s mt_149 rfl rfl rfl ?_
          refine j_gi (w := J 0 17) 17 mt_149 rfl rfl c_0 (by decide) rfl ?_
          refine v_ic (v := Int32.ofInt 1) mt_149 rfl rfl ?_
          refine j_add (e := (J 0 17) + 1) mt_149 rfl rfl ?_
          refine j_pi 17 mt_149 rfl rfl c_0 (by decide) ?_
          exact v_thr mt_149 rfl rfl (Nat.le_of_ble_eq_true rfl) h
    · replace h := h.2 (Int.not_lt.mp c)
      refine v_s mt_152 rfl rfl rfl ?_
      refine v_inx (L1 := [some (.ref 0)]) mt_152 rfl rfl mt_149 rfl rfl (m_callj (As := []) (rest := []) rfl rfl c_0 rfl (Nat.le_of_ble_eq_true rfl) (Nat.le_of_ble_eq_true rfl)) rfl (by clear h; omega) rfl rfl ?_
      refine v_s mt_149 rfl rfl rfl ?_
      refine v_s mt_149 rfl rfl rfl ?_
      refine j_gi (w := J 0 17) 17 mt_149 rfl rfl c_0 (by decide) rfl ?_
      refine v_ic (v := Int32.ofInt 1) mt_149 rfl rfl ?_
      refine j_add (e := (J 0 17) + 1) mt_149 rfl rfl ?_
      refine j_pi 17 mt_149 rfl rfl c_0 (by decide) ?_
      exact v_thr mt_149 rfl rfl (Nat.le_of_ble_eq_true rfl) h
set_option maxHeartbeats 600000 in
theorem b_123_0 {X : Nat × (Nat → Int32)} {d : Nat} {J : Nat → Nat → Int} {sw : Bool × Bool × Bool} {lg : Nat → Nat → Int64} {x : Nat} {K : (Option Value ⊕ Nat) → mM → Prop} {x1 x2 x3 x4 x5 x6 x7 x8 : Int} (hd : 2 ≤ d)
    (h : InR x1 ∧ (x1 < 0 → K (.inr 2) (mj (m_up J 0 18 ((J 0 18) + 1)) sw lg (x + 1))) ∧ (0 ≤ x1 → ((x1 ≤ 20 → (InR x2 ∧ (x2 < 0 → K (.inr 2) (mj (m_up J 0 18 ((J 0 18) + 1)) sw lg (x + 1))) ∧ (0 ≤ x2 → ((x2 ≤ 9 → (InR x3 ∧ (x3 < 0 → K (.inr 2) (mj (m_up J 0 18 ((J 0 18) + 1)) sw lg (x + 1))) ∧ (0 ≤ x3 → ((x3 ≤ 99 → (InR x4 ∧ (x4 < 0 → K (.inr 2) (mj (m_up J 0 18 ((J 0 18) + 1)) sw lg (x + 1))) ∧ (0 ≤ x4 → ((x4 ≤ 99 → (InR x5 ∧ (x5 < 0 → K (.inr 2) (mj (m_up J 0 18 ((J 0 18) + 1)) sw lg (x + 1))) ∧ (0 ≤ x5 → ((x5 ≤ 99 → (InR x6 ∧ (x6 < 0 → K (.inr 2) (mj (m_up J 0 18 ((J 0 18) + 1)) sw lg (x + 1))) ∧ (0 ≤ x6 → ((x6 ≤ 20 → (InR x7 ∧ (x7 < 0 → K (.inr 2) (mj (m_up J 0 18 ((J 0 18) + 1)) sw lg (x + 1))) ∧ (0 ≤ x7 → ((x7 ≤ 600 → (InR x8 ∧ (x8 < 0 → K (.inr 2) (mj (m_up J 0 18 ((J 0 18) + 1)) sw lg (x + 1))) ∧ (0 ≤ x8 → ((x8 ≤ 5 → (∃ (c2 : Int) (J1 : Nat → Nat → Int), EE X 1 32 [.ref (lA sw)] (mj (m_up (m_up (m_up (m_up (m_up (m_up (m_up (m_up J ((lA sw) + 2) 0 x1) ((lA sw) + 2) 5 x6) ((lA sw) + 2) 1 x2) ((lA sw) + 2) 7 x8) ((lA sw) + 2) 2 x3) ((lA sw) + 2) 3 x4) ((lA sw) + 2) 4 x5) ((lA sw) + 2) 6 x7) sw lg x) (.inl (some (iv c2))) (mj J1 sw lg x) ∧ K (.inl (some (iv c2))) (mj J1 sw lg x))) ∧ (5 < x8 → K (.inr 2) (mj (m_up J 0 18 ((J 0 18) + 1)) sw lg (x + 1))))))) ∧ (600 < x7 → K (.inr 2) (mj (m_up J 0 18 ((J 0 18) + 1)) sw lg (x + 1))))))) ∧ (20 < x6 → K (.inr 2) (mj (m_up J 0 18 ((J 0 18) + 1)) sw lg (x + 1))))))) ∧ (99 < x5 → K (.inr 2) (mj (m_up J 0 18 ((J 0 18) + 1)) sw lg (x + 1))))))) ∧ (99 < x4 → K (.inr 2) (mj (m_up J 0 18 ((J 0 18) + 1)) sw lg (x + 1))))))) ∧ (99 < x3 → K (.inr 2) (mj (m_up J 0 18 ((J 0 18) + 1)) sw lg (x + 1))))))) ∧ (9 < x2 → K (.inr 2) (mj (m_up J 0 18 ((J 0 18) + 1)) sw lg (x + 1))))))) ∧ (20 < x1 → K (.inr 2) (mj (m_up J 0 18 ((J 0 18) + 1)) sw lg (x + 1)))))) : VV X d 123 (0, [some (.ref 0), some (iv x1), some (iv x2), some (iv x3), some (iv x4), some (iv x5), some (iv x6), some (iv x7), some (iv x8)], [], mj J sw lg x) K := by
  refine v_s mt_123 rfl rfl rfl ?_
  refine v_s mt_123 rfl rfl rfl ?_
  refine v_ic (v := Int32.ofInt 0) mt_123 rfl rfl ?_
  refine v_bp (v := Int32.ofInt 20) mt_123 rfl rfl ?_
  refine v_inx (L1 := [some (.ref 0), some (iv x1), some (iv 0), some (iv 20)]) mt_123 rfl rfl mt_154 rfl rfl (m_callj (As := [iv x1, iv 0, iv 20]) (rest := []) rfl rfl c_0 rfl (Nat.le_of_ble_eq_true rfl) (Nat.le_of_ble_eq_true rfl)) rfl (by clear h; omega) rfl rfl ?_
  refine v_s mt_154 rfl rfl rfl ?_
  refine v_s mt_154 rfl rfl rfl ?_
  obtain ⟨z1, h⟩ := h
  refine j_if2 mt_154 rfl rfl z1 ⟨by decide, by decide⟩ (fun c => ?_) (fun c => ?_)
  · replace h := h.1 c
    refine v_s mt_154 rfl rfl rfl ?_
    refine v_inx (L1 := [some (.ref 0)]) mt_154 rfl rfl mt_150 rfl rfl (m_callj (As := []) (rest := []) rfl rfl c_0 rfl (Nat.le_of_ble_eq_true rfl) (Nat.le_of_ble_eq_true rfl)) rfl (by clear h; omega) rfl rfl ?_
    refine v_s mt_150 rfl rfl rfl ?_
    refine v_s mt_150 rfl rfl rfl ?_
    refine j_gi (w := J 0 18) 18 mt_150 rfl rfl c_0 (by decide) rfl ?_
    refine v_ic (v := Int32.ofInt 1) mt_150 rfl rfl ?_
    refine j_add (e := (J 0 18) + 1) mt_150 rfl rfl ?_
    refine j_pi 18 mt_150 rfl rfl c_0 (by decide) ?_
    exact v_thr mt_150 rfl rfl (Nat.le_of_ble_eq_true rfl) h
  · replace h := h.2 (Int.not_lt.mp c)
    refine v_s mt_154 rfl rfl rfl ?_
    refine v_s mt_154 rfl rfl rfl ?_
    refine j_if2 mt_154 rfl rfl z1 ⟨by decide, by decide⟩ (fun c => ?_) (fun c => ?_)
    · replace h := h.1 c
      refine v_ret mt_154 rfl rfl rfl ?_
      refine v_s mt_123 rfl rfl rfl ?_
      refine v_s mt_123 rfl rfl rfl ?_
      refine v_ic (v := Int32.ofInt 0) mt_123 rfl rfl ?_
      refine v_bp (v := Int32.ofInt 9) mt_123 rfl rfl ?_
      refine v_inx (L1 := [some (.ref 0), some (iv x2), some (iv 0), some (iv 9)]) mt_123 rfl rfl mt_154 rfl rfl (m_callj (As := [iv x2, iv 0, iv 9]) (rest := []) rfl rfl c_0 rfl (Nat.le_of_ble_eq_true rfl) (Nat.le_of_ble_eq_true rfl)) rfl (by clear h; omega) rfl rfl ?_
      refine v_s mt_154 rfl rfl rfl ?_
      refine v_s mt_154 rfl rfl rfl ?_
      obtain ⟨z2, h⟩ := h
      refine j_if2 mt_154 rfl rfl z2 ⟨by decide, by decide⟩ (fun c => ?_) (fun c => ?_)
      · replace h := h.1 c
        refine v_s mt_154 rfl rfl rfl ?_
        refine v_inx (L1 := [some (.ref 0)]) mt_154 rfl rfl mt_150 rfl rfl (m_callj (As := []) (rest := []) rfl rfl c_0 rfl (Nat.le_of_ble_eq_true rfl) (Nat.le_of_ble_eq_true rfl)) rfl (by clear h; omega) rfl rfl ?_
        refine v_s mt_150 rfl rfl rfl ?_
        refine v_s mt_150 rfl rfl rfl ?_
        refine j_gi (w := J 0 18) 18 mt_150 rfl rfl c_0 (by decide) rfl ?_
        refine v_ic (v := Int32.ofInt 1) mt_150 rfl rfl ?_
        refine j_add (e := (J 0 18) + 1) mt_150 rfl rfl ?_
        refine j_pi 18 mt_150 rfl rfl c_0 (by decide) ?_
        exact v_thr mt_150 rfl rfl (Nat.le_of_ble_eq_true rfl) h
      · replace h := h.2 (Int.not_lt.mp c)
        refine v_s mt_154 rfl rfl rfl ?_
        refine v_s mt_154 rfl rfl rfl ?_
        refine j_if2 mt_154 rfl rfl z2 ⟨by decide, by decide⟩ (fun c => ?_) (fun c => ?_)
        · replace h := h.1 c
          refine v_ret mt_154 rfl rfl rfl ?_
          refine v_s mt_123 rfl rfl rfl ?_
          refine v_s mt_123 rfl rfl rfl ?_
          refine v_ic (v := Int32.ofInt 0) mt_123 rfl rfl ?_
          refine v_bp (v := Int32.ofInt 99) mt_123 rfl rfl ?_
          refine v_inx (L1 := [some (.ref 0), some (iv x3), some (iv 0), some (iv 99)]) mt_123 rfl rfl mt_154 rfl rfl (m_callj (As := [iv x3, iv 0, iv 99]) (rest := []) rfl rfl c_0 rfl (Nat.le_of_ble_eq_true rfl) (Nat.le_of_ble_eq_true rfl)) rfl (by clear h; omega) rfl rfl ?_
          refine v_s mt_154 rfl rfl rfl ?_
          refine v_s mt_154 rfl rfl rfl ?_
          obtain ⟨z3, h⟩ := h
          refine j_if2 mt_154 rfl rfl z3 ⟨by decide, by decide⟩ (fun c => ?_) (fun c => ?_)
          · replace h := h.1 c
            refine v_s mt_154 rfl rfl rfl ?_
            refine v_inx (L1 := [some (.ref 0)]) mt_154 rfl rfl mt_150 rfl rfl (m_callj (As := []) (rest := []) rfl rfl c_0 rfl (Nat.le_of_ble_eq_true rfl) (Nat.le_of_ble_eq_true rfl)) rfl (by clear h; omega) rfl rfl ?_
            refine v_s mt_150 rfl rfl rfl ?_
            refine v_s mt_150 rfl rfl rfl ?_
            refine j_gi (w := J 0 18) 18 mt_150 rfl rfl c_0 (by decide) rfl ?_
            refine v_ic (v := Int32.ofInt 1) mt_150 rfl rfl ?_
            refine j_add (e := (J 0 18) + 1) mt_150 rfl rfl ?_
            refine j_pi 18 mt_150 rfl rfl c_0 (by decide) ?_
            exact v_thr mt_150 rfl rfl (Nat.le_of_ble_eq_true rfl) h
          · replace h := h.2 (Int.not_lt.mp c)
            refine v_s mt_154 rfl rfl rfl ?_
            refine v_s mt_154 rfl rfl rfl ?_
            refine j_if2 mt_154 rfl rfl z3 ⟨by decide, by decide⟩ (fun c => ?_) (fun c => ?_)
            · replace h := h.1 c
              refine v_ret mt_154 rfl rfl rfl ?_
              refine v_s mt_123 rfl rfl rfl ?_
              refine v_s mt_123 rfl rfl rfl ?_
              refine v_ic (v := Int32.ofInt 0) mt_123 rfl rfl ?_
              refine v_bp (v := Int32.ofInt 99) mt_123 rfl rfl ?_
              refine v_inx (L1 := [some (.ref 0), some (iv x4), some (iv 0), some (iv 99)]) mt_123 rfl rfl mt_154 rfl rfl (m_callj (As := [iv x4, iv 0, iv 99]) (rest := []) rfl rfl c_0 rfl (Nat.le_of_ble_eq_true rfl) (Nat.le_of_ble_eq_true rfl)) rfl (by clear h; omega) rfl rfl ?_
              refine v_s mt_154 rfl rfl rfl ?_
              refine v_s mt_154 rfl rfl rfl ?_
              obtain ⟨z4, h⟩ := h
              refine j_if2 mt_154 rfl rfl z4 ⟨by decide, by decide⟩ (fun c => ?_) (fun c => ?_)
              · replace h := h.1 c
                refine v_s mt_154 rfl rfl rfl ?_
                refine v_inx (L1 := [some (.ref 0)]) mt_154 rfl rfl mt_150 rfl rfl (m_callj (As := []) (rest := []) rfl rfl c_0 rfl (Nat.le_of_ble_eq_true rfl) (Nat.le_of_ble_eq_true rfl)) rfl (by clear h; omega) rfl rfl ?_
                refine v_s mt_150 rfl rfl rfl ?_
                refine v_s mt_150 rfl rfl rfl ?_
                refine j_gi (w := J 0 18) 18 mt_150 rfl rfl c_0 (by decide) rfl ?_
                refine v_ic (v := Int32.ofInt 1) mt_150 rfl rfl ?_
                refine j_add (e := (J 0 18) + 1) mt_150 rfl rfl ?_
                refine j_pi 18 mt_150 rfl rfl c_0 (by decide) ?_
                exact v_thr mt_150 rfl rfl (Nat.le_of_ble_eq_true rfl) h
              · replace h := h.2 (Int.not_lt.mp c)
                refine v_s mt_154 rfl rfl rfl ?_
                refine v_s mt_154 rfl rfl rfl ?_
                refine j_if2 mt_154 rfl rfl z4 ⟨by decide, by decide⟩ (fun c => ?_) (fun c => ?_)
                · replace h := h.1 c
                  refine v_ret mt_154 rfl rfl rfl ?_
                  refine v_s mt_123 rfl rfl rfl ?_
                  refine v_s mt_123 rfl rfl rfl ?_
                  refine v_ic (v := Int32.ofInt 0) mt_123 rfl rfl ?_
                  refine v_bp (v := Int32.ofInt 99) mt_123 rfl rfl ?_
                  refine v_inx (L1 := [some (.ref 0), some (iv x5), some (iv 0), some (iv 99)]) mt_123 rfl rfl mt_154 rfl rfl (m_callj (As := [iv x5, iv 0, iv 99]) (rest := []) rfl rfl c_0 rfl (Nat.le_of_ble_eq_true rfl) (Nat.le_of_ble_eq_true rfl)) rfl (by clear h; omega) rfl rfl ?_
                  refine v_s mt_154 rfl rfl rfl ?_
                  refine v_s mt_154 rfl rfl rfl ?_
                  obtain ⟨z5, h⟩ := h
                  refine j_if2 mt_154 rfl rfl z5 ⟨by decide, by decide⟩ (fun c => ?_) (fun c => ?_)
                  · replace h := h.1 c
                    refine v_s mt_154 rfl rfl rfl ?_
                    refine v_inx (L1 := [some (.ref 0)]) mt_154 rfl rfl mt_150 rfl rfl (m_callj (As := []) (rest := []) rfl rfl c_0 rfl (Nat.le_of_ble_eq_true rfl) (Nat.le_of_ble_eq_true rfl)) rfl (by clear h; omega) rfl rfl ?_
                    refine v_s mt_150 rfl rfl rfl ?_
                    refine v_s mt_150 rfl rfl rfl ?_
                    refine j_gi (w := J 0 18) 18 mt_150 rfl rfl c_0 (by decide) rfl ?_
                    refine v_ic (v := Int32.ofInt 1) mt_150 rfl rfl ?_
                    refine j_add (e := (J 0 18) + 1) mt_150 rfl rfl ?_
                    refine j_pi 18 mt_150 rfl rfl c_0 (by decide) ?_
                    exact v_thr mt_150 rfl rfl (Nat.le_of_ble_eq_true rfl) h
                  · replace h := h.2 (Int.not_lt.mp c)
                    refine v_s mt_154 rfl rfl rfl ?_
                    refine v_s mt_154 rfl rfl rfl ?_
                    refine j_if2 mt_154 rfl rfl z5 ⟨by decide, by decide⟩ (fun c => ?_) (fun c => ?_)
                    · replace h := h.1 c
                      refine v_ret mt_154 rfl rfl rfl ?_
                      refine v_s mt_123 rfl rfl rfl ?_
                      refine v_s mt_123 rfl rfl rfl ?_
                      refine v_ic (v := Int32.ofInt 0) mt_123 rfl rfl ?_
                      refine v_bp (v := Int32.ofInt 20) mt_123 rfl rfl ?_
                      refine v_inx (L1 := [some (.ref 0), some (iv x6), some (iv 0), some (iv 20)]) mt_123 rfl rfl mt_154 rfl rfl (m_callj (As := [iv x6, iv 0, iv 20]) (rest := []) rfl rfl c_0 rfl (Nat.le_of_ble_eq_true rfl) (Nat.le_of_ble_eq_true rfl)) rfl (by clear h; omega) rfl rfl ?_
                      refine v_s mt_154 rfl rfl rfl ?_
                      refine v_s mt_154 rfl rfl rfl ?_
                      obtain ⟨z6, h⟩ := h
                      refine j_if2 mt_154 rfl rfl z6 ⟨by decide, by decide⟩ (fun c => ?_) (fun c => ?_)
                      · replace h := h.1 c
                        refine v_s mt_154 rfl rfl rfl ?_
                        refine v_inx (L1 := [some (.ref 0)]) mt_154 rfl rfl mt_150 rfl rfl (m_callj (As := []) (rest := []) rfl rfl c_0 rfl (Nat.le_of_ble_eq_true rfl) (Nat.le_of_ble_eq_true rfl)) rfl (by clear h; omega) rfl rfl ?_
                        refine v_s mt_150 rfl rfl rfl ?_
                        refine v_s mt_150 rfl rfl rfl ?_
                        refine j_gi (w := J 0 18) 18 mt_150 rfl rfl c_0 (by decide) rfl ?_
                        refine v_ic (v := Int32.ofInt 1) mt_150 rfl rfl ?_
                        refine j_add (e := (J 0 18) + 1) mt_150 rfl rfl ?_
                        refine j_pi 18 mt_150 rfl rfl c_0 (by decide) ?_
                        exact v_thr mt_150 rfl rfl (Nat.le_of_ble_eq_true rfl) h
                      · replace h := h.2 (Int.not_lt.mp c)
                        refine v_s mt_154 rfl rfl rfl ?_
                        refine v_s mt_154 rfl rfl rfl ?_
                        refine j_if2 mt_154 rfl rfl z6 ⟨by decide, by decide⟩ (fun c => ?_) (fun c => ?_)
                        · replace h := h.1 c
                          refine v_ret mt_154 rfl rfl rfl ?_
                          refine v_s mt_123 rfl rfl rfl ?_
                          refine v_s mt_123 rfl rfl rfl ?_
                          refine v_ic (v := Int32.ofInt 0) mt_123 rfl rfl ?_
                          refine v_sp (v := Int32.ofInt 600) mt_123 rfl rfl ?_
                          refine v_inx (L1 := [some (.ref 0), some (iv x7), some (iv 0), some (iv 600)]) mt_123 rfl rfl mt_154 rfl rfl (m_callj (As := [iv x7, iv 0, iv 600]) (rest := []) rfl rfl c_0 rfl (Nat.le_of_ble_eq_true rfl) (Nat.le_of_ble_eq_true rfl)) rfl (by clear h; omega) rfl rfl ?_
                          refine v_s mt_154 rfl rfl rfl ?_
                          refine v_s mt_154 rfl rfl rfl ?_
                          obtain ⟨z7, h⟩ := h
                          refine j_if2 mt_154 rfl rfl z7 ⟨by decide, by decide⟩ (fun c => ?_) (fun c => ?_)
                          · replace h := h.1 c
                            refine v_s mt_154 rfl rfl rfl ?_
                            refine v_inx (L1 := [some (.ref 0)]) mt_154 rfl rfl mt_150 rfl rfl (m_callj (As := []) (rest := []) rfl rfl c_0 rfl (Nat.le_of_ble_eq_true rfl) (Nat.le_of_ble_eq_true rfl)) rfl (by clear h; omega) rfl rfl ?_
                            refine v_s mt_150 rfl rfl rfl ?_
                            refine v_s mt_150 rfl rfl rfl ?_
                            refine j_gi (w := J 0 18) 18 mt_150 rfl rfl c_0 (by decide) rfl ?_
                            refine v_ic (v := Int32.ofInt 1) mt_150 rfl rfl ?_
                            refine j_add (e := (J 0 18) + 1) mt_150 rfl rfl ?_
                            refine j_pi 18 mt_150 rfl rfl c_0 (by decide) ?_
                            exact v_thr mt_150 rfl rfl (Nat.le_of_ble_eq_true rfl) h
                          · replace h := h.2 (Int.not_lt.mp c)
                            refine v_s mt_154 rfl rfl rfl ?_
                            refine v_s mt_154 rfl rfl rfl ?_
                            refine j_if2 mt_154 rfl rfl z7 ⟨by decide, by decide⟩ (fun c => ?_) (fun c => ?_)
                            · replace h := h.1 c
                              refine v_ret mt_154 rfl rfl rfl ?_
                              refine v_s mt_123 rfl rfl rfl ?_
                              refine v_s mt_123 rfl rfl rfl ?_
                              refine v_ic (v := Int32.ofInt 0) mt_123 rfl rfl ?_
                              refine v_ic (v := Int32.ofInt 5) mt_123 rfl rfl ?_
                              refine v_inx (L1 := [some (.ref 0), some (iv x8), some (iv 0), some (iv 5)]) mt_123 rfl rfl mt_154 rfl rfl (m_callj (As := [iv x8, iv 0, iv 5]) (rest := []) rfl rfl c_0 rfl (Nat.le_of_ble_eq_true rfl) (Nat.le_of_ble_eq_true rfl)) rfl (by clear h; omega) rfl rfl ?_
                              refine v_s mt_154 rfl rfl rfl ?_
                              refine v_s mt_154 rfl rfl rfl ?_
                              obtain ⟨z8, h⟩ := h
                              refine j_if2 mt_154 rfl rfl z8 ⟨by decide, by decide⟩ (fun c => ?_) (fun c => ?_)
                              · replace h := h.1 c
                                refine v_s mt_154 rfl rfl rfl ?_
                                refine v_inx (L1 := [some (.ref 0)]) mt_154 rfl rfl mt_150 rfl rfl (m_callj (As := []) (rest := []) rfl rfl c_0 rfl (Nat.le_of_ble_eq_true rfl) (Nat.le_of_ble_eq_true rfl)) rfl (by clear h; omega) rfl rfl ?_
                                refine v_s mt_150 rfl rfl rfl ?_
                                refine v_s mt_150 rfl rfl rfl ?_
                                refine j_gi (w := J 0 18) 18 mt_150 rfl rfl c_0 (by decide) rfl ?_
                                refine v_ic (v := Int32.ofInt 1) mt_150 rfl rfl ?_
                                refine j_add (e := (J 0 18) + 1) mt_150 rfl rfl ?_
                                refine j_pi 18 mt_150 rfl rfl c_0 (by decide) ?_
                                exact v_thr mt_150 rfl rfl (Nat.le_of_ble_eq_true rfl) h
                              · replace h := h.2 (Int.not_lt.mp c)
                                refine v_s mt_154 rfl rfl rfl ?_
                                refine v_s mt_154 rfl rfl rfl ?_
                                refine j_if2 mt_154 rfl rfl z8 ⟨by decide, by decide⟩ (fun c => ?_) (fun c => ?_)
                                · replace h := h.1 c
                                  refine v_ret mt_154 rfl rfl rfl ?_
                                  refine v_s mt_123 rfl rfl rfl ?_
                                  refine v_gr (w := (lA sw)) 4 mt_123 rfl rfl c_0 (by decide) g_11_4 ?_
                                  refine v_s mt_123 rfl rfl rfl ?_
                                  refine v_s mt_123 rfl rfl rfl ?_
                                  refine v_s mt_123 rfl rfl rfl ?_
                                  refine v_s mt_123 rfl rfl rfl ?_
                                  refine v_inl (L1 := [some (.ref (lA sw)), some (iv x1), some (iv x6), some (iv x2), some (iv x8)]) mt_123 rfl rfl mt_30 rfl rfl (m_callj (As := [iv x1, iv x6, iv x2, iv x8]) (rest := []) rfl rfl (clA sw) rfl (Nat.le_of_ble_eq_true rfl) (Nat.le_of_ble_eq_true rfl)) rfl (by clear h; omega) ?_
                                  refine v_s mt_30 rfl rfl rfl ?_
                                  refine v_gr (w := ((lA sw) + 2)) 2 mt_30 rfl rfl (clA sw) (by decide) (g_3_2 (clA sw)) ?_
                                  refine v_ic (v := Int32.ofInt 0) mt_30 rfl rfl ?_
                                  refine v_s mt_30 rfl rfl rfl ?_
                                  refine j_as mt_30 rfl (shL (lA sw) (SH_lt (clA sw)) (clA sw)).2.1 ⟨by decide, by decide⟩ (by decide) ?_
                                  refine v_s mt_30 rfl rfl rfl ?_
                                  refine v_gr (w := ((lA sw) + 2)) 2 mt_30 rfl rfl (clA sw) (by decide) (g_3_2 (clA sw)) ?_
                                  refine v_ic (v := Int32.ofInt 5) mt_30 rfl rfl ?_
                                  refine v_s mt_30 rfl rfl rfl ?_
                                  refine j_as mt_30 rfl (shL (lA sw) (SH_lt (clA sw)) (clA sw)).2.1 ⟨by decide, by decide⟩ (by decide) ?_
                                  refine v_s mt_30 rfl rfl rfl ?_
                                  refine v_gr (w := ((lA sw) + 2)) 2 mt_30 rfl rfl (clA sw) (by decide) (g_3_2 (clA sw)) ?_
                                  refine v_ic (v := Int32.ofInt 1) mt_30 rfl rfl ?_
                                  refine v_s mt_30 rfl rfl rfl ?_
                                  refine j_as mt_30 rfl (shL (lA sw) (SH_lt (clA sw)) (clA sw)).2.1 ⟨by decide, by decide⟩ (by decide) ?_
                                  refine v_s mt_30 rfl rfl rfl ?_
                                  refine v_gr (w := ((lA sw) + 2)) 2 mt_30 rfl rfl (clA sw) (by decide) (g_3_2 (clA sw)) ?_
                                  refine v_bp (v := Int32.ofInt 7) mt_30 rfl rfl ?_
                                  refine v_s mt_30 rfl rfl rfl ?_
                                  refine j_as mt_30 rfl (shL (lA sw) (SH_lt (clA sw)) (clA sw)).2.1 ⟨by decide, by decide⟩ (by decide) ?_
                                  refine v_ret mt_30 rfl rfl rfl ?_
                                  refine v_s mt_123 rfl rfl rfl ?_
                                  refine v_gr (w := (lA sw)) 4 mt_123 rfl rfl c_0 (by decide) g_11_4 ?_
                                  refine v_s mt_123 rfl rfl rfl ?_
                                  refine v_s mt_123 rfl rfl rfl ?_
                                  refine v_s mt_123 rfl rfl rfl ?_
                                  refine v_s mt_123 rfl rfl rfl ?_
                                  refine v_inl (L1 := [some (.ref (lA sw)), some (iv x3), some (iv x4), some (iv x5), some (iv x7)]) mt_123 rfl rfl mt_31 rfl rfl (m_callj (As := [iv x3, iv x4, iv x5, iv x7]) (rest := []) rfl rfl (clA sw) rfl (Nat.le_of_ble_eq_true rfl) (Nat.le_of_ble_eq_true rfl)) rfl (by clear h; omega) ?_
                                  refine v_s mt_31 rfl rfl rfl ?_
                                  refine v_gr (w := ((lA sw) + 2)) 2 mt_31 rfl rfl (clA sw) (by decide) (g_3_2 (clA sw)) ?_
                                  refine v_ic (v := Int32.ofInt 2) mt_31 rfl rfl ?_
                                  refine v_s mt_31 rfl rfl rfl ?_
                                  refine j_as mt_31 rfl (shL (lA sw) (SH_lt (clA sw)) (clA sw)).2.1 ⟨by decide, by decide⟩ (by decide) ?_
                                  refine v_s mt_31 rfl rfl rfl ?_
                                  refine v_gr (w := ((lA sw) + 2)) 2 mt_31 rfl rfl (clA sw) (by decide) (g_3_2 (clA sw)) ?_
                                  refine v_ic (v := Int32.ofInt 3) mt_31 rfl rfl ?_
                                  refine v_s mt_31 rfl rfl rfl ?_
                                  refine j_as mt_31 rfl (shL (lA sw) (SH_lt (clA sw)) (clA sw)).2.1 ⟨by decide, by decide⟩ (by decide) ?_
                                  refine v_s mt_31 rfl rfl rfl ?_
                                  refine v_gr (w := ((lA sw) + 2)) 2 mt_31 rfl rfl (clA sw) (by decide) (g_3_2 (clA sw)) ?_
                                  refine v_ic (v := Int32.ofInt 4) mt_31 rfl rfl ?_
                                  refine v_s mt_31 rfl rfl rfl ?_
                                  refine j_as mt_31 rfl (shL (lA sw) (SH_lt (clA sw)) (clA sw)).2.1 ⟨by decide, by decide⟩ (by decide) ?_
                                  refine v_s mt_31 rfl rfl rfl ?_
                                  refine v_gr (w := ((lA sw) + 2)) 2 mt_31 rfl rfl (clA sw) (by decide) (g_3_2 (clA sw)) ?_
                                  refine v_bp (v := Int32.ofInt 6) mt_31 rfl rfl ?_
                                  refine v_s mt_31 rfl rfl rfl ?_
                                  refine j_as mt_31 rfl (shL (lA sw) (SH_lt (clA sw)) (clA sw)).2.1 ⟨by decide, by decide⟩ (by decide) ?_
                                  refine v_ret mt_31 rfl rfl rfl ?_
                                  refine v_s mt_123 rfl rfl rfl ?_
                                  refine v_gr (w := (lA sw)) 4 mt_123 rfl rfl c_0 (by decide) g_11_4 ?_
                                  obtain ⟨c2, J1, z9, h⟩ := h
                                  refine v_call (d1 := 1) mt_123 rfl rfl mt_32 rfl rfl (m_callj (As := []) (rest := []) rfl rfl (clA sw) rfl (Nat.le_of_ble_eq_true rfl) (Nat.le_of_ble_eq_true rfl)) z9 (by clear h; omega) ?_
                                  exact v_ret mt_123 rfl rfl rfl h
                                · replace h := h.2 (Int.not_le.mp c)
                                  refine v_s mt_154 rfl rfl rfl ?_
                                  refine v_inx (L1 := [some (.ref 0)]) mt_154 rfl rfl mt_150 rfl rfl (m_callj (As := []) (rest := []) rfl rfl c_0 rfl (Nat.le_of_ble_eq_true rfl) (Nat.le_of_ble_eq_true rfl)) rfl (by clear h; omega) rfl rfl ?_
                                  refine v_s mt_150 rfl rfl rfl ?_
                                  refine v_s mt_150 rfl rfl rfl ?_
                                  refine j_gi (w := J 0 18) 18 mt_150 rfl rfl c_0 (by decide) rfl ?_
                                  refine v_ic (v := Int32.ofInt 1) mt_150 rfl rfl ?_
                                  refine j_add (e := (J 0 18) + 1) mt_150 rfl rfl ?_
                                  refine j_pi 18 mt_150 rfl rfl c_0 (by decide) ?_
                                  exact v_thr mt_150 rfl rfl (Nat.le_of_ble_eq_true rfl) h
                            · replace h := h.2 (Int.not_le.mp c)
                              refine v_s mt_154 rfl rfl rfl ?_
                              refine v_inx (L1 := [some (.ref 0)]) mt_154 rfl rfl mt_150 rfl rfl (m_callj (As := []) (rest := []) rfl rfl c_0 rfl (Nat.le_of_ble_eq_true rfl) (Nat.le_of_ble_eq_true rfl)) rfl (by clear h; omega) rfl rfl ?_
                              refine v_s mt_150 rfl rfl rfl ?_
                              refine v_s mt_150 rfl rfl rfl ?_
                              refine j_gi (w := J 0 18) 18 mt_150 rfl rfl c_0 (by decide) rfl ?_
                              refine v_ic (v := Int32.ofInt 1) mt_150 rfl rfl ?_
                              refine j_add (e := (J 0 18) + 1) mt_150 rfl rfl ?_
                              refine j_pi 18 mt_150 rfl rfl c_0 (by decide) ?_
                              exact v_thr mt_150 rfl rfl (Nat.le_of_ble_eq_true rfl) h
                        · replace h := h.2 (Int.not_le.mp c)
                          refine v_s mt_154 rfl rfl rfl ?_
                          refine v_inx (L1 := [some (.ref 0)]) mt_154 rfl rfl mt_150 rfl rfl (m_callj (As := []) (rest := []) rfl rfl c_0 rfl (Nat.le_of_ble_eq_true rfl) (Nat.le_of_ble_eq_true rfl)) rfl (by clear h; omega) rfl rfl ?_
                          refine v_s mt_150 rfl rfl rfl ?_
                          refine v_s mt_150 rfl rfl rfl ?_
                          refine j_gi (w := J 0 18) 18 mt_150 rfl rfl c_0 (by decide) rfl ?_
                          refine v_ic (v := Int32.ofInt 1) mt_150 rfl rfl ?_
                          refine j_add (e := (J 0 18) + 1) mt_150 rfl rfl ?_
                          refine j_pi 18 mt_150 rfl rfl c_0 (by decide) ?_
                          exact v_thr mt_150 rfl rfl (Nat.le_of_ble_eq_true rfl) h
                    · replace h := h.2 (Int.not_le.mp c)
                      refine v_s mt_154 rfl rfl rfl ?_
                      refine v_inx (L1 := [some (.ref 0)]) mt_154 rfl rfl mt_150 rfl rfl (m_callj (As := []) (rest := []) rfl rfl c_0 rfl (Nat.le_of_ble_eq_true rfl) (Nat.le_of_ble_eq_true rfl)) rfl (by clear h; omega) rfl rfl ?_
                      refine v_s mt_150 rfl rfl rfl ?_
                      refine v_s mt_150 rfl rfl rfl ?_
                      refine j_gi (w := J 0 18) 18 mt_150 rfl rfl c_0 (by decide) rfl ?_
                      refine v_ic (v := Int32.ofInt 1) mt_150 rfl rfl ?_
                      refine j_add (e := (J 0 18) + 1) mt_150 rfl rfl ?_
                      refine j_pi 18 mt_150 rfl rfl c_0 (by decide) ?_
                      exact v_thr mt_150 rfl rfl (Nat.le_of_ble_eq_true rfl) h
                · replace h := h.2 (Int.not_le.mp c)
                  refine v_s mt_154 rfl rfl rfl ?_
                  refine v_inx (L1 := [some (.ref 0)]) mt_154 rfl rfl mt_150 rfl rfl (m_callj (As := []) (rest := []) rfl rfl c_0 rfl (Nat.le_of_ble_eq_true rfl) (Nat.le_of_ble_eq_true rfl)) rfl (by clear h; omega) rfl rfl ?_
                  refine v_s mt_150 rfl rfl rfl ?_
                  refine v_s mt_150 rfl rfl rfl ?_
                  refine j_gi (w := J 0 18) 18 mt_150 rfl rfl c_0 (by decide) rfl ?_
                  refine v_ic (v := Int32.ofInt 1) mt_150 rfl rfl ?_
                  refine j_add (e := (J 0 18) + 1) mt_150 rfl rfl ?_
                  refine j_pi 18 mt_150 rfl rfl c_0 (by decide) ?_
                  exact v_thr mt_150 rfl rfl (Nat.le_of_ble_eq_true rfl) h
            · replace h := h.2 (Int.not_le.mp c)
              refine v_s mt_154 rfl rfl rfl ?_
              refine v_inx (L1 := [some (.ref 0)]) mt_154 rfl rfl mt_150 rfl rfl (m_callj (As := []) (rest := []) rfl rfl c_0 rfl (Nat.le_of_ble_eq_true rfl) (Nat.le_of_ble_eq_true rfl)) rfl (by clear h; omega) rfl rfl ?_
              refine v_s mt_150 rfl rfl rfl ?_
              refine v_s mt_150 rfl rfl rfl ?_
              refine j_gi (w := J 0 18) 18 mt_150 rfl rfl c_0 (by decide) rfl ?_
              refine v_ic (v := Int32.ofInt 1) mt_150 rfl rfl ?_
              refine j_add (e := (J 0 18) + 1) mt_150 rfl rfl ?_
              refine j_pi 18 mt_150 rfl rfl c_0 (by decide) ?_
              exact v_thr mt_150 rfl rfl (Nat.le_of_ble_eq_true rfl) h
        · replace h := h.2 (Int.not_le.mp c)
          refine v_s mt_154 rfl rfl rfl ?_
          refine v_inx (L1 := [some (.ref 0)]) mt_154 rfl rfl mt_150 rfl rfl (m_callj (As := []) (rest := []) rfl rfl c_0 rfl (Nat.le_of_ble_eq_true rfl) (Nat.le_of_ble_eq_true rfl)) rfl (by clear h; omega) rfl rfl ?_
          refine v_s mt_150 rfl rfl rfl ?_
          refine v_s mt_150 rfl rfl rfl ?_
          refine j_gi (w := J 0 18) 18 mt_150 rfl rfl c_0 (by decide) rfl ?_
          refine v_ic (v := Int32.ofInt 1) mt_150 rfl rfl ?_
          refine j_add (e := (J 0 18) + 1) mt_150 rfl rfl ?_
          refine j_pi 18 mt_150 rfl rfl c_0 (by decide) ?_
          exact v_thr mt_150 rfl rfl (Nat.le_of_ble_eq_true rfl) h
    · replace h := h.2 (Int.not_le.mp c)
      refine v_s mt_154 rfl rfl rfl ?_
      refine v_inx (L1 := [some (.ref 0)]) mt_154 rfl rfl mt_150 rfl rfl (m_callj (As := []) (rest := []) rfl rfl c_0 rfl (Nat.le_of_ble_eq_true rfl) (Nat.le_of_ble_eq_true rfl)) rfl (by clear h; omega) rfl rfl ?_
      refine v_s mt_150 rfl rfl rfl ?_
      refine v_s mt_150 rfl rfl rfl ?_
      refine j_gi (w := J 0 18) 18 mt_150 rfl rfl c_0 (by decide) rfl ?_
      refine v_ic (v := Int32.ofInt 1) mt_150 rfl rfl ?_
      refine j_add (e := (J 0 18) + 1) mt_150 rfl rfl ?_
      refine j_pi 18 mt_150 rfl rfl c_0 (by decide) ?_
      exact v_thr mt_150 rfl rfl (Nat.le_of_ble_eq_true rfl) h
set_option maxHeartbeats 600000 in
theorem b_124_0 {X : Nat × (Nat → Int32)} {d : Nat} {J : Nat → Nat → Int} {sw : Bool × Bool × Bool} {lg : Nat → Nat → Int64} {x : Nat} {K : (Option Value ⊕ Nat) → mM → Prop} {x1 x2 x3 : Int} (hd : 2 ≤ d)
    (h : InR x1 ∧ (x1 < 0 → K (.inr 1) (mj (m_up J 0 17 ((J 0 17) + 1)) sw lg (x + 1))) ∧ (0 ≤ x1 → (InR (J (vA sw) 1) ∧ (x1 < J (vA sw) 1 → (InR x2 ∧ (x2 < 0 → K (.inr 1) (mj (m_up J 0 17 ((J 0 17) + 1)) sw lg (x + 1))) ∧ (0 ≤ x2 → (InR (J (vA sw) 0) ∧ (x2 < J (vA sw) 0 → (InR x3 ∧ (x3 < 0 → K (.inr 1) (mj (m_up J 0 17 ((J 0 17) + 1)) sw lg (x + 1))) ∧ (0 ≤ x3 → (InR (J (vA sw) 2) ∧ (x3 < J (vA sw) 2 → (InR (J 41 8) ∧ (J 41 8 ≤ 0 → K (.inl (some (iv 0))) (mj J sw lg x)) ∧ (0 < J 41 8 → ((0 ≤ x2 ∧ x2 < 6) ∧ InR (J 42 x2.toNat) ∧ InR (J ((vA sw) + 1) x2.toNat) ∧ (J 42 x2.toNat < J ((vA sw) + 1) x2.toNat → ((bAnd (bShr (J 41 6) x1) 1 = 0 → ((0 ≤ x3 ∧ x3 < 9) ∧ InR (J 46 x3.toNat) ∧ (J 46 x3.toNat ≤ 0 → K (.inl (some (iv 0))) (mj J sw lg x)) ∧ (0 < J 46 x3.toNat → K (.inl (some (iv 1))) (mj J sw lg x)))) ∧ (¬ bAnd (bShr (J 41 6) x1) 1 = 0 → K (.inl (some (iv 0))) (mj J sw lg x)))) ∧ (J ((vA sw) + 1) x2.toNat ≤ J 42 x2.toNat → K (.inl (some (iv 0))) (mj J sw lg x)))))) ∧ (J (vA sw) 2 ≤ x3 → K (.inr 1) (mj (m_up J 0 17 ((J 0 17) + 1)) sw lg (x + 1))))))) ∧ (J (vA sw) 0 ≤ x2 → K (.inr 1) (mj (m_up J 0 17 ((J 0 17) + 1)) sw lg (x + 1))))))) ∧ (J (vA sw) 1 ≤ x1 → K (.inr 1) (mj (m_up J 0 17 ((J 0 17) + 1)) sw lg (x + 1)))))) : VV X d 124 (0, [some (.ref 0), some (iv x1), some (iv x2), some (iv x3)], [], mj J sw lg x) K := by
  refine v_s mt_124 rfl rfl rfl ?_
  refine v_s mt_124 rfl rfl rfl ?_
  refine v_inx (L1 := [some (.ref 0), some (iv x1)]) mt_124 rfl rfl mt_152 rfl rfl (m_callj (As := [iv x1]) (rest := []) rfl rfl c_0 rfl (Nat.le_of_ble_eq_true rfl) (Nat.le_of_ble_eq_true rfl)) rfl (by clear h; omega) rfl rfl ?_
  refine v_s mt_152 rfl rfl rfl ?_
  obtain ⟨z1, h⟩ := h
  refine j_if1 mt_152 rfl rfl z1 (fun c => ?_) (fun c => ?_)
  · replace h := h.1 c
    refine v_s mt_152 rfl rfl rfl ?_
    refine v_inx (L1 := [some (.ref 0)]) mt_152 rfl rfl mt_149 rfl rfl (m_callj (As := []) (rest := []) rfl rfl c_0 rfl (Nat.le_of_ble_eq_true rfl) (Nat.le_of_ble_eq_true rfl)) rfl (by clear h; omega) rfl rfl ?_
    refine v_s mt_149 rfl rfl rfl ?_
    refine v_s mt_149 rfl rfl rfl ?_
    refine j_gi (w := J 0 17) 17 mt_149 rfl rfl c_0 (by decide) rfl ?_
    refine v_ic (v := Int32.ofInt 1) mt_149 rfl rfl ?_
    refine j_add (e := (J 0 17) + 1) mt_149 rfl rfl ?_
    refine j_pi 17 mt_149 rfl rfl c_0 (by decide) ?_
    exact v_thr mt_149 rfl rfl (Nat.le_of_ble_eq_true rfl) h
  · replace h := h.2 (Int.not_lt.mp c)
    refine v_s mt_152 rfl rfl rfl ?_
    refine v_s mt_152 rfl rfl rfl ?_
    refine v_gr (w := (vA sw)) 2 mt_152 rfl rfl c_0 (by decide) g_11_2 ?_
    refine j_gi (w := J (vA sw) 1) 1 mt_152 rfl rfl (cvA sw) (by decide) rfl ?_
    obtain ⟨z2, h⟩ := h
    refine j_if2 mt_152 rfl rfl z1 z2 (fun c => ?_) (fun c => ?_)
    · replace h := h.1 c
      refine v_ret mt_152 rfl rfl rfl ?_
      refine v_s mt_124 rfl rfl rfl ?_
      refine v_s mt_124 rfl rfl rfl ?_
      refine v_inx (L1 := [some (.ref 0), some (iv x2)]) mt_124 rfl rfl mt_151 rfl rfl (m_callj (As := [iv x2]) (rest := []) rfl rfl c_0 rfl (Nat.le_of_ble_eq_true rfl) (Nat.le_of_ble_eq_true rfl)) rfl (by clear h; omega) rfl rfl ?_
      refine v_s mt_151 rfl rfl rfl ?_
      obtain ⟨z3, h⟩ := h
      refine j_if1 mt_151 rfl rfl z3 (fun c => ?_) (fun c => ?_)
      · replace h := h.1 c
        refine v_s mt_151 rfl rfl rfl ?_
        refine v_inx (L1 := [some (.ref 0)]) mt_151 rfl rfl mt_149 rfl rfl (m_callj (As := []) (rest := []) rfl rfl c_0 rfl (Nat.le_of_ble_eq_true rfl) (Nat.le_of_ble_eq_true rfl)) rfl (by clear h; omega) rfl rfl ?_
        refine v_s mt_149 rfl rfl rfl ?_
        refine v_s mt_149 rfl rfl rfl ?_
        refine j_gi (w := J 0 17) 17 mt_149 rfl rfl c_0 (by decide) rfl ?_
        refine v_ic (v := Int32.ofInt 1) mt_149 rfl rfl ?_
        refine j_add (e := (J 0 17) + 1) mt_149 rfl rfl ?_
        refine j_pi 17 mt_149 rfl rfl c_0 (by decide) ?_
        exact v_thr mt_149 rfl rfl (Nat.le_of_ble_eq_true rfl) h
      · replace h := h.2 (Int.not_lt.mp c)
        refine v_s mt_151 rfl rfl rfl ?_
        refine v_s mt_151 rfl rfl rfl ?_
        refine v_gr (w := (vA sw)) 2 mt_151 rfl rfl c_0 (by decide) g_11_2 ?_
        refine j_gi (w := J (vA sw) 0) 0 mt_151 rfl rfl (cvA sw) (by decide) rfl ?_
        obtain ⟨z4, h⟩ := h
        refine j_if2 mt_151 rfl rfl z3 z4 (fun c => ?_) (fun c => ?_)
        · replace h := h.1 c
          refine v_ret mt_151 rfl rfl rfl ?_
          refine v_s mt_124 rfl rfl rfl ?_
          refine v_s mt_124 rfl rfl rfl ?_
          refine v_inx (L1 := [some (.ref 0), some (iv x3)]) mt_124 rfl rfl mt_153 rfl rfl (m_callj (As := [iv x3]) (rest := []) rfl rfl c_0 rfl (Nat.le_of_ble_eq_true rfl) (Nat.le_of_ble_eq_true rfl)) rfl (by clear h; omega) rfl rfl ?_
          refine v_s mt_153 rfl rfl rfl ?_
          obtain ⟨z5, h⟩ := h
          refine j_if1 mt_153 rfl rfl z5 (fun c => ?_) (fun c => ?_)
          · replace h := h.1 c
            refine v_s mt_153 rfl rfl rfl ?_
            refine v_inx (L1 := [some (.ref 0)]) mt_153 rfl rfl mt_149 rfl rfl (m_callj (As := []) (rest := []) rfl rfl c_0 rfl (Nat.le_of_ble_eq_true rfl) (Nat.le_of_ble_eq_true rfl)) rfl (by clear h; omega) rfl rfl ?_
            refine v_s mt_149 rfl rfl rfl ?_
            refine v_s mt_149 rfl rfl rfl ?_
            refine j_gi (w := J 0 17) 17 mt_149 rfl rfl c_0 (by decide) rfl ?_
            refine v_ic (v := Int32.ofInt 1) mt_149 rfl rfl ?_
            refine j_add (e := (J 0 17) + 1) mt_149 rfl rfl ?_
            refine j_pi 17 mt_149 rfl rfl c_0 (by decide) ?_
            exact v_thr mt_149 rfl rfl (Nat.le_of_ble_eq_true rfl) h
          · replace h := h.2 (Int.not_lt.mp c)
            refine v_s mt_153 rfl rfl rfl ?_
            refine v_s mt_153 rfl rfl rfl ?_
            refine v_gr (w := (vA sw)) 2 mt_153 rfl rfl c_0 (by decide) g_11_2 ?_
            refine j_gi (w := J (vA sw) 2) 2 mt_153 rfl rfl (cvA sw) (by decide) rfl ?_
            obtain ⟨z6, h⟩ := h
            refine j_if2 mt_153 rfl rfl z5 z6 (fun c => ?_) (fun c => ?_)
            · replace h := h.1 c
              refine v_ret mt_153 rfl rfl rfl ?_
              refine v_s mt_124 rfl rfl rfl ?_
              refine v_gr (w := 41) 9 mt_124 rfl rfl c_0 (by decide) g_11_9 ?_
              refine v_s mt_124 rfl rfl rfl ?_
              refine v_gr (w := (vA sw)) 2 mt_124 rfl rfl c_0 (by decide) g_11_2 ?_
              refine v_s mt_124 rfl rfl rfl ?_
              refine v_s mt_124 rfl rfl rfl ?_
              refine v_s mt_124 rfl rfl rfl ?_
              refine v_inl (L1 := [some (.ref 41), some (.ref (vA sw)), some (iv x1), some (iv x2), some (iv x3)]) mt_124 rfl rfl mt_50 rfl rfl (m_callj (As := [.ref (vA sw), iv x1, iv x2, iv x3]) (rest := []) rfl rfl c_41 rfl (Nat.le_of_ble_eq_true rfl) (Nat.le_of_ble_eq_true rfl)) rfl (by clear h; omega) ?_
              refine v_s mt_50 rfl rfl rfl ?_
              refine j_gi (w := J 41 8) 8 mt_50 rfl rfl c_41 (by decide) rfl ?_
              obtain ⟨z7, h⟩ := h
              refine j_if1 mt_50 rfl rfl z7 (fun c => ?_) (fun c => ?_)
              · replace h := h.1 c
                refine v_ic (v := Int32.ofInt 0) mt_50 rfl rfl ?_
                refine j_retb mt_50 rfl rfl (by decide) ?_
                exact j_retb mt_124 rfl rfl (by decide) h
              · replace h := h.2 (Int.not_le.mp c)
                refine v_s mt_50 rfl rfl rfl ?_
                refine v_s mt_50 rfl rfl rfl ?_
                refine v_s mt_50 rfl rfl rfl ?_
                refine v_inl (L1 := [some (.ref 41), some (.ref (vA sw)), some (iv x2)]) mt_50 rfl rfl mt_45 rfl rfl (m_callj (As := [.ref (vA sw), iv x2]) (rest := []) rfl rfl c_41 rfl (Nat.le_of_ble_eq_true rfl) (Nat.le_of_ble_eq_true rfl)) rfl (by clear h; omega) ?_
                refine v_s mt_45 rfl rfl rfl ?_
                refine v_gr (w := 42) 0 mt_45 rfl rfl c_41 (by decide) (g_6_0 c_41) ?_
                refine v_s mt_45 rfl rfl rfl ?_
                obtain ⟨z8, h⟩ := h
                refine j_al (w := J 42 x2.toNat) mt_45 rfl c_42 z8 (by decide) rfl ?_
                refine v_s mt_45 rfl rfl rfl ?_
                refine v_gr (w := ((vA sw) + 1)) 6 mt_45 rfl rfl (cvA sw) (by decide) (g_9_6 (cvA sw)) ?_
                refine v_s mt_45 rfl rfl rfl ?_
                refine j_al (w := J ((vA sw) + 1) x2.toNat) mt_45 rfl (shV (vA sw) (SH_lt (cvA sw)) (cvA sw)).1 z8 (by decide) rfl ?_
                obtain ⟨z9, h⟩ := h
                obtain ⟨z10, h⟩ := h
                refine j_if2 mt_45 rfl rfl z9 z10 (fun c => ?_) (fun c => ?_)
                · replace h := h.1 c
                  refine v_ic (v := Int32.ofInt 0) mt_45 rfl rfl ?_
                  refine j_retb mt_45 rfl rfl (by decide) ?_
                  refine j_if1 mt_50 rfl rfl ⟨by decide, by decide⟩ (fun c => absurd (show ¬ (0 : Int) = 0 from c) (by decide)) (fun _ => ?_)
                  refine v_s mt_50 rfl rfl rfl ?_
                  refine v_s mt_50 rfl rfl rfl ?_
                  refine v_inl (L1 := [some (.ref 41), some (iv x1)]) mt_50 rfl rfl mt_47 rfl rfl (m_callj (As := [iv x1]) (rest := []) rfl rfl c_41 rfl (Nat.le_of_ble_eq_true rfl) (Nat.le_of_ble_eq_true rfl)) rfl (by clear h; omega) ?_
                  refine v_s mt_47 rfl rfl rfl ?_
                  refine j_gi (w := J 41 6) 6 mt_47 rfl rfl c_41 (by decide) rfl ?_
                  refine v_s mt_47 rfl rfl rfl ?_
                  refine j_shr (e := bShr (J 41 6) x1) mt_47 rfl rfl ?_
                  refine v_ic (v := Int32.ofInt 1) mt_47 rfl rfl ?_
                  refine j_and (e := bAnd (bShr (J 41 6) x1) 1) mt_47 rfl rfl ?_
                  refine j_if1 mt_47 rfl rfl (inT _) (fun c => ?_) (fun c => ?_)
                  · replace h := h.1 c
                    refine v_ic (v := Int32.ofInt 0) mt_47 rfl rfl ?_
                    refine j_retb mt_47 rfl rfl (by decide) ?_
                    refine j_if1 mt_50 rfl rfl ⟨by decide, by decide⟩ (fun c => absurd (show ¬ (0 : Int) = 0 from c) (by decide)) (fun _ => ?_)
                    refine v_s mt_50 rfl rfl rfl ?_
                    refine v_gr (w := 46) 4 mt_50 rfl rfl c_41 (by decide) (g_6_4 c_41) ?_
                    refine v_s mt_50 rfl rfl rfl ?_
                    obtain ⟨z11, h⟩ := h
                    refine j_al (w := J 46 x3.toNat) mt_50 rfl c_46 z11 (by decide) rfl ?_
                    obtain ⟨z12, h⟩ := h
                    refine j_if1 mt_50 rfl rfl z12 (fun c => ?_) (fun c => ?_)
                    · replace h := h.1 c
                      refine v_ic (v := Int32.ofInt 0) mt_50 rfl rfl ?_
                      refine j_retb mt_50 rfl rfl (by decide) ?_
                      exact j_retb mt_124 rfl rfl (by decide) h
                    · replace h := h.2 (Int.not_le.mp c)
                      refine v_ic (v := Int32.ofInt 1) mt_50 rfl rfl ?_
                      refine v_go mt_50 rfl rfl ?_
                      refine j_retb mt_50 rfl rfl (by decide) ?_
                      exact j_retb mt_124 rfl rfl (by decide) h
                  · replace h := h.2 c
                    refine v_ic (v := Int32.ofInt 1) mt_47 rfl rfl ?_
                    refine v_go mt_47 rfl rfl ?_
                    refine j_retb mt_47 rfl rfl (by decide) ?_
                    refine j_if1 mt_50 rfl rfl ⟨by decide, by decide⟩ (fun _ => ?_) (fun c => (c (show ¬ (1 : Int) = 0 by decide)).elim)
                    refine v_ic (v := Int32.ofInt 0) mt_50 rfl rfl ?_
                    refine j_retb mt_50 rfl rfl (by decide) ?_
                    exact j_retb mt_124 rfl rfl (by decide) h
                · replace h := h.2 (Int.not_lt.mp c)
                  refine v_ic (v := Int32.ofInt 1) mt_45 rfl rfl ?_
                  refine v_go mt_45 rfl rfl ?_
                  refine j_retb mt_45 rfl rfl (by decide) ?_
                  refine j_if1 mt_50 rfl rfl ⟨by decide, by decide⟩ (fun _ => ?_) (fun c => (c (show ¬ (1 : Int) = 0 by decide)).elim)
                  refine v_ic (v := Int32.ofInt 0) mt_50 rfl rfl ?_
                  refine j_retb mt_50 rfl rfl (by decide) ?_
                  exact j_retb mt_124 rfl rfl (by decide) h
            · replace h := h.2 (Int.not_lt.mp c)
              refine v_s mt_153 rfl rfl rfl ?_
              refine v_inx (L1 := [some (.ref 0)]) mt_153 rfl rfl mt_149 rfl rfl (m_callj (As := []) (rest := []) rfl rfl c_0 rfl (Nat.le_of_ble_eq_true rfl) (Nat.le_of_ble_eq_true rfl)) rfl (by clear h; omega) rfl rfl ?_
              refine v_s mt_149 rfl rfl rfl ?_
              refine v_s mt_149 rfl rfl rfl ?_
              refine j_gi (w := J 0 17) 17 mt_149 rfl rfl c_0 (by decide) rfl ?_
              refine v_ic (v := Int32.ofInt 1) mt_149 rfl rfl ?_
              refine j_add (e := (J 0 17) + 1) mt_149 rfl rfl ?_
              refine j_pi 17 mt_149 rfl rfl c_0 (by decide) ?_
              exact v_thr mt_149 rfl rfl (Nat.le_of_ble_eq_true rfl) h
        · replace h := h.2 (Int.not_lt.mp c)
          refine v_s mt_151 rfl rfl rfl ?_
          refine v_inx (L1 := [some (.ref 0)]) mt_151 rfl rfl mt_149 rfl rfl (m_callj (As := []) (rest := []) rfl rfl c_0 rfl (Nat.le_of_ble_eq_true rfl) (Nat.le_of_ble_eq_true rfl)) rfl (by clear h; omega) rfl rfl ?_
          refine v_s mt_149 rfl rfl rfl ?_
          refine v_s mt_149 rfl rfl rfl ?_
          refine j_gi (w := J 0 17) 17 mt_149 rfl rfl c_0 (by decide) rfl ?_
          refine v_ic (v := Int32.ofInt 1) mt_149 rfl rfl ?_
          refine j_add (e := (J 0 17) + 1) mt_149 rfl rfl ?_
          refine j_pi 17 mt_149 rfl rfl c_0 (by decide) ?_
          exact v_thr mt_149 rfl rfl (Nat.le_of_ble_eq_true rfl) h
    · replace h := h.2 (Int.not_lt.mp c)
      refine v_s mt_152 rfl rfl rfl ?_
      refine v_inx (L1 := [some (.ref 0)]) mt_152 rfl rfl mt_149 rfl rfl (m_callj (As := []) (rest := []) rfl rfl c_0 rfl (Nat.le_of_ble_eq_true rfl) (Nat.le_of_ble_eq_true rfl)) rfl (by clear h; omega) rfl rfl ?_
      refine v_s mt_149 rfl rfl rfl ?_
      refine v_s mt_149 rfl rfl rfl ?_
      refine j_gi (w := J 0 17) 17 mt_149 rfl rfl c_0 (by decide) rfl ?_
      refine v_ic (v := Int32.ofInt 1) mt_149 rfl rfl ?_
      refine j_add (e := (J 0 17) + 1) mt_149 rfl rfl ?_
      refine j_pi 17 mt_149 rfl rfl c_0 (by decide) ?_
      exact v_thr mt_149 rfl rfl (Nat.le_of_ble_eq_true rfl) h
set_option maxHeartbeats 600000 in
theorem b_145_0 {X : Nat × (Nat → Int32)} {d : Nat} {J : Nat → Nat → Int} {sw : Bool × Bool × Bool} {lg : Nat → Nat → Int64} {x : Nat} {K : (Option Value ⊕ Nat) → mM → Prop} {x1 : Int}
    (h : InR x1 ∧ (¬ x1 = 0 → ((¬ x1 = 1 → K (.inl (some (iv (-1)))) (mj J sw lg x)) ∧ (x1 = 1 → K (.inl (some (iv (J 0 18)))) (mj J sw lg x)))) ∧ (x1 = 0 → K (.inl (some (iv (J 0 17)))) (mj J sw lg x))) : VV X d 145 (0, [some (.ref 0), some (iv x1)], [], mj J sw lg x) K := by
  refine v_s mt_145 rfl rfl rfl ?_
  obtain ⟨z1, h⟩ := h
  refine j_if1 mt_145 rfl rfl z1 (fun c => ?_) (fun c => ?_)
  · replace h := h.1 c
    refine v_s mt_145 rfl rfl rfl ?_
    refine v_ic (v := Int32.ofInt 1) mt_145 rfl rfl ?_
    refine j_if2 mt_145 rfl rfl z1 ⟨by decide, by decide⟩ (fun c => ?_) (fun c => ?_)
    · replace h := h.1 c
      refine v_ic (v := Int32.ofInt (-1)) mt_145 rfl rfl ?_
      exact v_ret mt_145 rfl rfl rfl h
    · replace h := h.2 (Decidable.not_not.mp c)
      refine v_s mt_145 rfl rfl rfl ?_
      refine j_gi (w := J 0 18) 18 mt_145 rfl rfl c_0 (by decide) rfl ?_
      refine v_go mt_145 rfl rfl ?_
      exact v_ret mt_145 rfl rfl rfl h
  · replace h := h.2 (Decidable.not_not.mp c)
    refine v_s mt_145 rfl rfl rfl ?_
    refine j_gi (w := J 0 17) 17 mt_145 rfl rfl c_0 (by decide) rfl ?_
    exact v_ret mt_145 rfl rfl rfl h
set_option maxHeartbeats 600000 in
theorem b_146_0 {X : Nat × (Nat → Int32)} {d : Nat} {J : Nat → Nat → Int} {sw : Bool × Bool × Bool} {lg : Nat → Nat → Int64} {x : Nat} {K : (Option Value ⊕ Nat) → mM → Prop} {x1 : Int}
    (h : InR x1 ∧ (x1 = 0 → K (.inl (some (iv (J 170 2)))) (mj J sw lg x)) ∧ (x1 = 1 → K (.inl (some (iv (J 1 1)))) (mj J sw lg x)) ∧ (x1 = 2 → K (.inl (some (iv (J 56 1)))) (mj J sw lg x)) ∧ (x1 < 0 ∨ 2 < x1 → K (.inl (some (iv (-1)))) (mj J sw lg x))) : VV X d 146 (0, [some (.ref 0), some (iv x1)], [], mj J sw lg x) K := by
  refine v_s mt_146 rfl rfl rfl ?_
  obtain ⟨z1, h⟩ := h
  by_cases c : x1 = 0
  · replace h := h.1 c
    refine j_si 0 mt_146 rfl ⟨by decide, by decide⟩ c (by decide) rfl rfl ?_
    refine v_s mt_146 rfl rfl rfl ?_
    refine v_gr (w := 170) 13 mt_146 rfl rfl c_0 (by decide) g_11_13 ?_
    refine j_gi (w := J 170 2) 2 mt_146 rfl rfl c_170 (by decide) rfl ?_
    exact v_ret mt_146 rfl rfl rfl h
  have c0 := c
  replace h := h.2
  by_cases c : x1 = 1
  · replace h := h.1 c
    refine j_si 1 mt_146 rfl ⟨by decide, by decide⟩ c (by decide) rfl rfl ?_
    refine v_s mt_146 rfl rfl rfl ?_
    refine v_gr (w := 1) 0 mt_146 rfl rfl c_0 (by decide) g_11_0 ?_
    refine j_gi (w := J 1 1) 1 mt_146 rfl rfl c_1 (by decide) rfl ?_
    exact v_ret mt_146 rfl rfl rfl h
  have c1 := c
  replace h := h.2
  by_cases c : x1 = 2
  · replace h := h.1 c
    refine j_si 2 mt_146 rfl ⟨by decide, by decide⟩ c (by decide) rfl rfl ?_
    refine v_s mt_146 rfl rfl rfl ?_
    refine v_gr (w := 56) 12 mt_146 rfl rfl c_0 (by decide) g_11_12 ?_
    refine j_gi (w := J 56 1) 1 mt_146 rfl rfl c_56 (by decide) rfl ?_
    exact v_ret mt_146 rfl rfl rfl h
  have c2 := c
  replace h := h.2
  have hz : x1 < 0 ∨ 2 < x1 := sw_0_2 c0 c1 c2
  replace h := h hz
  refine j_sd mt_146 rfl z1 hz rfl ?_
  refine v_ic (v := Int32.ofInt (-1)) mt_146 rfl rfl ?_
  exact v_ret mt_146 rfl rfl rfl h
set_option maxHeartbeats 600000 in
theorem b_178_0 {X : Nat × (Nat → Int32)} {d : Nat} {J : Nat → Nat → Int} {sw : Bool × Bool × Bool} {lg : Nat → Nat → Int64} {x : Nat} {K : (Option Value ⊕ Nat) → mM → Prop}
    (h : K (.inl (some (iv (J 542 8)))) (mj (m_up J 542 0 0) sw lg x)) : VV X d 178 (0, [some (.ref 542)], [], mj J sw lg x) K := by
  refine v_s mt_178 rfl rfl rfl ?_
  refine v_ic (v := Int32.ofInt 0) mt_178 rfl rfl ?_
  refine j_pi 0 mt_178 rfl rfl c_542 (by decide) ?_
  refine v_s mt_178 rfl rfl rfl ?_
  refine j_gi (w := J 542 8) 8 mt_178 rfl rfl c_542 (by decide) ((up_nk (by decide)).trans rfl) ?_
  exact v_ret mt_178 rfl rfl rfl h
set_option maxHeartbeats 600000 in
theorem b_224_0 {X : Nat × (Nat → Int32)} {d : Nat} {J : Nat → Nat → Int} {sw : Bool × Bool × Bool} {lg : Nat → Nat → Int64} {x : Nat} {K : (Option Value ⊕ Nat) → mM → Prop} {x1 : Int} (hd : 2 ≤ d)
    (h : InR x1 ∧ (x1 < 0 → K (.inl (some (iv 0))) (mj (m_up (m_up (m_up J 542 0 0) 542 0 1) 543 1 ((J 543 1) + 1)) sw lg x)) ∧ (0 ≤ x1 → ((11 < x1 → K (.inl (some (iv 0))) (mj (m_up (m_up (m_up J 542 0 0) 542 0 1) 543 1 ((J 543 1) + 1)) sw lg x)) ∧ (x1 ≤ 11 → (∃ (J1 : Nat → Nat → Int), EE X 1 204 [.ref 542] (mj (m_up J 542 0 0) sw lg x) (.inl none) (mj J1 sw lg x) ∧ (4 ≤ x1 → ((8 ≤ x1 → ((¬ x1 = 8 → ((¬ x1 = 9 → ((¬ x1 = 10 → K (.inl (some (iv (J1 542 41)))) (mj J1 sw lg x)) ∧ (x1 = 10 → K (.inl (some (iv (J1 542 50)))) (mj J1 sw lg x)))) ∧ (x1 = 9 → (∃ (c3 : Int) (J2 : Nat → Nat → Int), EE X 0 220 [.ref 542, iv 30] (mj J1 sw lg x) (.inl (some (iv c3))) (mj J2 sw lg x) ∧ K (.inl (some (iv c3))) (mj J2 sw lg x))))) ∧ (x1 = 8 → (∃ (c5 : Int) (J4 : Nat → Nat → Int), EE X 0 223 [.ref 542] (mj J1 sw lg x) (.inl (some (iv c5))) (mj J4 sw lg x) ∧ K (.inl (some (iv c5))) (mj J4 sw lg x))))) ∧ (x1 < 8 → ((¬ x1 = 4 → ((¬ x1 = 5 → ((¬ x1 = 6 → (∃ (c7 : Int) (J6 : Nat → Nat → Int), EE X 0 222 [.ref 542, iv (-1)] (mj J1 sw lg x) (.inl (some (iv c7))) (mj J6 sw lg x) ∧ K (.inl (some (iv c7))) (mj J6 sw lg x))) ∧ (x1 = 6 → (∃ (c9 : Int) (J8 : Nat → Nat → Int), EE X 1 221 [.ref 542] (mj J1 sw lg x) (.inl (some (iv c9))) (mj J8 sw lg x) ∧ K (.inl (some (iv c9))) (mj J8 sw lg x))))) ∧ (x1 = 5 → K (.inl (some (iv (J1 562 48)))) (mj J1 sw lg x)))) ∧ (x1 = 4 → K (.inl (some (iv (J1 562 49)))) (mj J1 sw lg x)))))) ∧ (x1 < 4 → ((¬ x1 = 0 → ((¬ x1 = 1 → ((¬ x1 = 2 → K (.inl (some (iv (J1 542 27)))) (mj J1 sw lg x)) ∧ (x1 = 2 → K (.inl (some (iv (J1 542 26)))) (mj J1 sw lg x)))) ∧ (x1 = 1 → K (.inl (some (iv (J1 542 25)))) (mj J1 sw lg x)))) ∧ (x1 = 0 → K (.inl (some (iv (J1 542 24)))) (mj J1 sw lg x))))))))) : VV X d 224 (0, [some (.ref 542), some (iv x1)], [], mj J sw lg x) K := by
  refine v_s mt_224 rfl rfl rfl ?_
  refine v_ic (v := Int32.ofInt 0) mt_224 rfl rfl ?_
  refine j_pi 0 mt_224 rfl rfl c_542 (by decide) ?_
  refine v_s mt_224 rfl rfl rfl ?_
  refine v_s mt_224 rfl rfl rfl ?_
  refine v_ic (v := Int32.ofInt 0) mt_224 rfl rfl ?_
  refine v_bp (v := Int32.ofInt 11) mt_224 rfl rfl ?_
  refine v_inl (L1 := [some (iv x1), some (iv 0), some (iv 11)]) mt_224 rfl rfl mt_162 rfl rfl rfl rfl (by clear h; omega) ?_
  refine v_s mt_162 rfl rfl rfl ?_
  refine v_s mt_162 rfl rfl rfl ?_
  obtain ⟨z1, h⟩ := h
  refine j_if2 mt_162 rfl rfl z1 ⟨by decide, by decide⟩ (fun c => ?_) (fun c => ?_)
  · replace h := h.1 c
    refine v_ic (v := Int32.ofInt 0) mt_162 rfl rfl ?_
    refine j_retb mt_162 rfl rfl (by decide) ?_
    refine v_ic (v := Int32.ofInt 1) mt_224 rfl rfl ?_
    refine v_ic (v := Int32.ofInt 1) mt_224 rfl rfl ?_
    refine v_inl (L1 := [some (.ref 542), some (iv 0), some (iv 1), some (iv 1)]) mt_224 rfl rfl mt_161 rfl rfl (m_callj (As := [iv 0, iv 1, iv 1]) (rest := []) rfl rfl c_542 rfl (Nat.le_of_ble_eq_true rfl) (Nat.le_of_ble_eq_true rfl)) rfl (by clear h; omega) ?_
    refine v_s mt_161 rfl rfl rfl ?_
    refine j_if1 mt_161 rfl rfl ⟨by decide, by decide⟩ (fun c => absurd (show ¬ (0 : Int) = 0 from c) (by decide)) (fun _ => ?_)
    refine v_s mt_161 rfl rfl rfl ?_
    refine j_gi (w := 0) 0 mt_161 rfl rfl c_542 (by decide) (up_eq _ _ _ _) ?_
    refine j_if1 mt_161 rfl rfl ⟨by decide, by decide⟩ (fun c => absurd (show ¬ (0 : Int) = 0 from c) (by decide)) (fun _ => ?_)
    refine v_s mt_161 rfl rfl rfl ?_
    refine v_s mt_161 rfl rfl rfl ?_
    refine j_pi 0 mt_161 rfl rfl c_542 (by decide) ?_
    refine v_s mt_161 rfl rfl rfl ?_
    refine v_gr (w := 543) 1 mt_161 rfl rfl c_542 (by decide) (g_12_1 c_542) ?_
    refine v_s mt_161 rfl rfl rfl ?_
    refine v_s mt_161 rfl rfl rfl ?_
    refine j_al (w := J 543 1) mt_161 rfl c_543 ⟨by decide, by decide⟩ (by decide) ((up_na (by decide)).trans ((up_na (by decide)).trans rfl)) ?_
    refine v_ic (v := Int32.ofInt 1) mt_161 rfl rfl ?_
    refine j_add (e := (J 543 1) + 1) mt_161 rfl rfl ?_
    refine j_as mt_161 rfl c_543 ⟨by decide, by decide⟩ (by decide) ?_
    refine v_s mt_161 rfl rfl rfl ?_
    refine j_gi (w := 1) 0 mt_161 rfl rfl c_542 (by decide) ((up_na (by decide)).trans (up_eq _ _ _ _)) ?_
    refine j_if1 mt_161 rfl rfl ⟨by decide, by decide⟩ (fun _ => ?_) (fun c => (c (show ¬ (1 : Int) = 0 by decide)).elim)
    refine v_ic (v := Int32.ofInt 0) mt_161 rfl rfl ?_
    refine j_retb mt_161 rfl rfl (by decide) ?_
    refine j_if1 mt_224 rfl rfl ⟨by decide, by decide⟩ (fun c => absurd (show ¬ (0 : Int) = 0 from c) (by decide)) (fun _ => ?_)
    refine v_ic (v := Int32.ofInt 0) mt_224 rfl rfl ?_
    exact v_ret mt_224 rfl rfl rfl h
  · replace h := h.2 (Int.not_lt.mp c)
    refine v_s mt_162 rfl rfl rfl ?_
    refine v_s mt_162 rfl rfl rfl ?_
    refine j_if2 mt_162 rfl rfl z1 ⟨by decide, by decide⟩ (fun c => ?_) (fun c => ?_)
    · replace h := h.1 c
      refine v_ic (v := Int32.ofInt 0) mt_162 rfl rfl ?_
      refine j_retb mt_162 rfl rfl (by decide) ?_
      refine v_ic (v := Int32.ofInt 1) mt_224 rfl rfl ?_
      refine v_ic (v := Int32.ofInt 1) mt_224 rfl rfl ?_
      refine v_inl (L1 := [some (.ref 542), some (iv 0), some (iv 1), some (iv 1)]) mt_224 rfl rfl mt_161 rfl rfl (m_callj (As := [iv 0, iv 1, iv 1]) (rest := []) rfl rfl c_542 rfl (Nat.le_of_ble_eq_true rfl) (Nat.le_of_ble_eq_true rfl)) rfl (by clear h; omega) ?_
      refine v_s mt_161 rfl rfl rfl ?_
      refine j_if1 mt_161 rfl rfl ⟨by decide, by decide⟩ (fun c => absurd (show ¬ (0 : Int) = 0 from c) (by decide)) (fun _ => ?_)
      refine v_s mt_161 rfl rfl rfl ?_
      refine j_gi (w := 0) 0 mt_161 rfl rfl c_542 (by decide) (up_eq _ _ _ _) ?_
      refine j_if1 mt_161 rfl rfl ⟨by decide, by decide⟩ (fun c => absurd (show ¬ (0 : Int) = 0 from c) (by decide)) (fun _ => ?_)
      refine v_s mt_161 rfl rfl rfl ?_
      refine v_s mt_161 rfl rfl rfl ?_
      refine j_pi 0 mt_161 rfl rfl c_542 (by decide) ?_
      refine v_s mt_161 rfl rfl rfl ?_
      refine v_gr (w := 543) 1 mt_161 rfl rfl c_542 (by decide) (g_12_1 c_542) ?_
      refine v_s mt_161 rfl rfl rfl ?_
      refine v_s mt_161 rfl rfl rfl ?_
      refine j_al (w := J 543 1) mt_161 rfl c_543 ⟨by decide, by decide⟩ (by decide) ((up_na (by decide)).trans ((up_na (by decide)).trans rfl)) ?_
      refine v_ic (v := Int32.ofInt 1) mt_161 rfl rfl ?_
      refine j_add (e := (J 543 1) + 1) mt_161 rfl rfl ?_
      refine j_as mt_161 rfl c_543 ⟨by decide, by decide⟩ (by decide) ?_
      refine v_s mt_161 rfl rfl rfl ?_
      refine j_gi (w := 1) 0 mt_161 rfl rfl c_542 (by decide) ((up_na (by decide)).trans (up_eq _ _ _ _)) ?_
      refine j_if1 mt_161 rfl rfl ⟨by decide, by decide⟩ (fun _ => ?_) (fun c => (c (show ¬ (1 : Int) = 0 by decide)).elim)
      refine v_ic (v := Int32.ofInt 0) mt_161 rfl rfl ?_
      refine j_retb mt_161 rfl rfl (by decide) ?_
      refine j_if1 mt_224 rfl rfl ⟨by decide, by decide⟩ (fun c => absurd (show ¬ (0 : Int) = 0 from c) (by decide)) (fun _ => ?_)
      refine v_ic (v := Int32.ofInt 0) mt_224 rfl rfl ?_
      exact v_ret mt_224 rfl rfl rfl h
    · replace h := h.2 (Int.not_lt.mp c)
      refine v_ic (v := Int32.ofInt 1) mt_162 rfl rfl ?_
      refine v_go mt_162 rfl rfl ?_
      refine j_retb mt_162 rfl rfl (by decide) ?_
      refine v_ic (v := Int32.ofInt 1) mt_224 rfl rfl ?_
      refine v_ic (v := Int32.ofInt 1) mt_224 rfl rfl ?_
      refine v_inl (L1 := [some (.ref 542), some (iv 1), some (iv 1), some (iv 1)]) mt_224 rfl rfl mt_161 rfl rfl (m_callj (As := [iv 1, iv 1, iv 1]) (rest := []) rfl rfl c_542 rfl (Nat.le_of_ble_eq_true rfl) (Nat.le_of_ble_eq_true rfl)) rfl (by clear h; omega) ?_
      refine v_s mt_161 rfl rfl rfl ?_
      refine j_if1 mt_161 rfl rfl ⟨by decide, by decide⟩ (fun _ => ?_) (fun c => (c (show ¬ (1 : Int) = 0 by decide)).elim)
      refine v_s mt_161 rfl rfl rfl ?_
      refine j_gi (w := 0) 0 mt_161 rfl rfl c_542 (by decide) (up_eq _ _ _ _) ?_
      refine j_if1 mt_161 rfl rfl ⟨by decide, by decide⟩ (fun c => absurd (show ¬ (0 : Int) = 0 from c) (by decide)) (fun _ => ?_)
      refine v_ic (v := Int32.ofInt 1) mt_161 rfl rfl ?_
      refine v_go mt_161 rfl rfl ?_
      refine j_retb mt_161 rfl rfl (by decide) ?_
      refine j_if1 mt_224 rfl rfl ⟨by decide, by decide⟩ (fun _ => ?_) (fun c => (c (show ¬ (1 : Int) = 0 by decide)).elim)
      refine v_s mt_224 rfl rfl rfl ?_
      obtain ⟨J1, z2, h⟩ := h
      refine v_call (d1 := 1) mt_224 rfl rfl mt_204 rfl rfl (m_callj (As := []) (rest := []) rfl rfl c_542 rfl (Nat.le_of_ble_eq_true rfl) (Nat.le_of_ble_eq_true rfl)) z2 (by clear h; omega) ?_
      refine v_s mt_224 rfl rfl rfl ?_
      refine v_ic (v := Int32.ofInt 4) mt_224 rfl rfl ?_
      refine j_if2 mt_224 rfl rfl z1 ⟨by decide, by decide⟩ (fun c => ?_) (fun c => ?_)
      · replace h := h.1 c
        refine v_s mt_224 rfl rfl rfl ?_
        refine v_bp (v := Int32.ofInt 8) mt_224 rfl rfl ?_
        refine j_if2 mt_224 rfl rfl z1 ⟨by decide, by decide⟩ (fun c => ?_) (fun c => ?_)
        · replace h := h.1 c
          refine v_s mt_224 rfl rfl rfl ?_
          refine v_bp (v := Int32.ofInt 8) mt_224 rfl rfl ?_
          refine j_if2 mt_224 rfl rfl z1 ⟨by decide, by decide⟩ (fun c => ?_) (fun c => ?_)
          · replace h := h.1 c
            refine v_s mt_224 rfl rfl rfl ?_
            refine v_bp (v := Int32.ofInt 9) mt_224 rfl rfl ?_
            refine j_if2 mt_224 rfl rfl z1 ⟨by decide, by decide⟩ (fun c => ?_) (fun c => ?_)
            · replace h := h.1 c
              refine v_s mt_224 rfl rfl rfl ?_
              refine v_bp (v := Int32.ofInt 10) mt_224 rfl rfl ?_
              refine j_if2 mt_224 rfl rfl z1 ⟨by decide, by decide⟩ (fun c => ?_) (fun c => ?_)
              · replace h := h.1 c
                refine v_s mt_224 rfl rfl rfl ?_
                refine j_gi (w := J1 542 41) 41 mt_224 rfl rfl c_542 (by decide) rfl ?_
                exact v_ret mt_224 rfl rfl rfl h
              · replace h := h.2 (Decidable.not_not.mp c)
                refine v_s mt_224 rfl rfl rfl ?_
                refine j_gi (w := J1 542 50) 50 mt_224 rfl rfl c_542 (by decide) rfl ?_
                refine v_go mt_224 rfl rfl ?_
                exact v_ret mt_224 rfl rfl rfl h
            · replace h := h.2 (Decidable.not_not.mp c)
              refine v_s mt_224 rfl rfl rfl ?_
              refine v_bp (v := Int32.ofInt 30) mt_224 rfl rfl ?_
              obtain ⟨c3, J2, z3, h⟩ := h
              refine v_call (d1 := 0) mt_224 rfl rfl mt_220 rfl rfl (m_callj (As := [iv 30]) (rest := []) rfl rfl c_542 rfl (Nat.le_of_ble_eq_true rfl) (Nat.le_of_ble_eq_true rfl)) z3 (by clear h; omega) ?_
              refine v_go mt_224 rfl rfl ?_
              exact v_ret mt_224 rfl rfl rfl h
          · replace h := h.2 (Decidable.not_not.mp c)
            refine v_s mt_224 rfl rfl rfl ?_
            obtain ⟨c5, J4, z4, h⟩ := h
            refine v_call (d1 := 0) mt_224 rfl rfl mt_223 rfl rfl (m_callj (As := []) (rest := []) rfl rfl c_542 rfl (Nat.le_of_ble_eq_true rfl) (Nat.le_of_ble_eq_true rfl)) z4 (by clear h; omega) ?_
            refine v_go mt_224 rfl rfl ?_
            exact v_ret mt_224 rfl rfl rfl h
        · replace h := h.2 (Int.not_le.mp c)
          refine v_s mt_224 rfl rfl rfl ?_
          refine v_ic (v := Int32.ofInt 4) mt_224 rfl rfl ?_
          refine j_if2 mt_224 rfl rfl z1 ⟨by decide, by decide⟩ (fun c => ?_) (fun c => ?_)
          · replace h := h.1 c
            refine v_s mt_224 rfl rfl rfl ?_
            refine v_ic (v := Int32.ofInt 5) mt_224 rfl rfl ?_
            refine j_if2 mt_224 rfl rfl z1 ⟨by decide, by decide⟩ (fun c => ?_) (fun c => ?_)
            · replace h := h.1 c
              refine v_s mt_224 rfl rfl rfl ?_
              refine v_bp (v := Int32.ofInt 6) mt_224 rfl rfl ?_
              refine j_if2 mt_224 rfl rfl z1 ⟨by decide, by decide⟩ (fun c => ?_) (fun c => ?_)
              · replace h := h.1 c
                refine v_s mt_224 rfl rfl rfl ?_
                refine v_ic (v := Int32.ofInt (-1)) mt_224 rfl rfl ?_
                obtain ⟨c7, J6, z5, h⟩ := h
                refine v_call (d1 := 0) mt_224 rfl rfl mt_222 rfl rfl (m_callj (As := [iv (-1)]) (rest := []) rfl rfl c_542 rfl (Nat.le_of_ble_eq_true rfl) (Nat.le_of_ble_eq_true rfl)) z5 (by clear h; omega) ?_
                exact v_ret mt_224 rfl rfl rfl h
              · replace h := h.2 (Decidable.not_not.mp c)
                refine v_s mt_224 rfl rfl rfl ?_
                obtain ⟨c9, J8, z6, h⟩ := h
                refine v_call (d1 := 1) mt_224 rfl rfl mt_221 rfl rfl (m_callj (As := []) (rest := []) rfl rfl c_542 rfl (Nat.le_of_ble_eq_true rfl) (Nat.le_of_ble_eq_true rfl)) z6 (by clear h; omega) ?_
                refine v_go mt_224 rfl rfl ?_
                exact v_ret mt_224 rfl rfl rfl h
            · replace h := h.2 (Decidable.not_not.mp c)
              refine v_s mt_224 rfl rfl rfl ?_
              refine v_gr (w := 562) 46 mt_224 rfl rfl c_542 (by decide) (g_12_46 c_542) ?_
              refine v_bp (v := Int32.ofInt 48) mt_224 rfl rfl ?_
              refine j_al (w := J1 562 48) mt_224 rfl c_562 ⟨by decide, by decide⟩ (by decide) rfl ?_
              refine v_go mt_224 rfl rfl ?_
              exact v_ret mt_224 rfl rfl rfl h
          · replace h := h.2 (Decidable.not_not.mp c)
            refine v_s mt_224 rfl rfl rfl ?_
            refine v_gr (w := 562) 46 mt_224 rfl rfl c_542 (by decide) (g_12_46 c_542) ?_
            refine v_bp (v := Int32.ofInt 49) mt_224 rfl rfl ?_
            refine j_al (w := J1 562 49) mt_224 rfl c_562 ⟨by decide, by decide⟩ (by decide) rfl ?_
            refine v_go mt_224 rfl rfl ?_
            exact v_ret mt_224 rfl rfl rfl h
      · replace h := h.2 (Int.not_le.mp c)
        refine v_s mt_224 rfl rfl rfl ?_
        refine j_if1 mt_224 rfl rfl z1 (fun c => ?_) (fun c => ?_)
        · replace h := h.1 c
          refine v_s mt_224 rfl rfl rfl ?_
          refine v_ic (v := Int32.ofInt 1) mt_224 rfl rfl ?_
          refine j_if2 mt_224 rfl rfl z1 ⟨by decide, by decide⟩ (fun c => ?_) (fun c => ?_)
          · replace h := h.1 c
            refine v_s mt_224 rfl rfl rfl ?_
            refine v_ic (v := Int32.ofInt 2) mt_224 rfl rfl ?_
            refine j_if2 mt_224 rfl rfl z1 ⟨by decide, by decide⟩ (fun c => ?_) (fun c => ?_)
            · replace h := h.1 c
              refine v_s mt_224 rfl rfl rfl ?_
              refine j_gi (w := J1 542 27) 27 mt_224 rfl rfl c_542 (by decide) rfl ?_
              exact v_ret mt_224 rfl rfl rfl h
            · replace h := h.2 (Decidable.not_not.mp c)
              refine v_s mt_224 rfl rfl rfl ?_
              refine j_gi (w := J1 542 26) 26 mt_224 rfl rfl c_542 (by decide) rfl ?_
              refine v_go mt_224 rfl rfl ?_
              exact v_ret mt_224 rfl rfl rfl h
          · replace h := h.2 (Decidable.not_not.mp c)
            refine v_s mt_224 rfl rfl rfl ?_
            refine j_gi (w := J1 542 25) 25 mt_224 rfl rfl c_542 (by decide) rfl ?_
            refine v_go mt_224 rfl rfl ?_
            exact v_ret mt_224 rfl rfl rfl h
        · replace h := h.2 (Decidable.not_not.mp c)
          refine v_s mt_224 rfl rfl rfl ?_
          refine j_gi (w := J1 542 24) 24 mt_224 rfl rfl c_542 (by decide) rfl ?_
          refine v_go mt_224 rfl rfl ?_
          exact v_ret mt_224 rfl rfl rfl h
set_option maxHeartbeats 600000 in
theorem b_228_0 {X : Nat × (Nat → Int32)} {d : Nat} {J : Nat → Nat → Int} {sw : Bool × Bool × Bool} {lg : Nat → Nat → Int64} {x : Nat} {K : (Option Value ⊕ Nat) → mM → Prop} {x1 x2 : Int} (hd : 2 ≤ d)
    (h : InR x1 ∧ (x1 < 0 → K (.inl (some (iv 0))) (mj (m_up (m_up (m_up J 542 0 0) 542 0 1) 543 0 ((J 543 0) + 1)) sw lg x)) ∧ (0 ≤ x1 → (InR ((J 542 24) - 1) ∧ ((J 542 24) - 1 < x1 → K (.inl (some (iv 0))) (mj (m_up (m_up (m_up J 542 0 0) 542 0 1) 543 0 ((J 543 0) + 1)) sw lg x)) ∧ (x1 ≤ (J 542 24) - 1 → (InR x2 ∧ (x2 < 0 → K (.inl (some (iv 0))) (mj (m_up (m_up (m_up J 542 0 0) 542 0 2) 543 1 ((J 543 1) + 1)) sw lg x)) ∧ (0 ≤ x2 → ((5 < x2 → K (.inl (some (iv 0))) (mj (m_up (m_up (m_up J 542 0 0) 542 0 2) 543 1 ((J 543 1) + 1)) sw lg x)) ∧ (x2 ≤ 5 → (∃ (J1 : Nat → Nat → Int), EE X 1 204 [.ref 542] (mj (m_up J 542 0 0) sw lg x) (.inl none) (mj J1 sw lg x) ∧ (4 ≤ x2 → ((¬ x2 = 4 → ((0 ≤ x1 ∧ x1 < 50) ∧ (0 ≤ x1 ∧ x1 < 6) ∧ InR (J1 562 x1.toNat) ∧ InR (J1 549 x1.toNat) ∧ (J1 562 x1.toNat < J1 549 x1.toNat → K (.inl (some (iv ((J1 549 x1.toNat) - (J1 562 x1.toNat))))) (mj J1 sw lg x)) ∧ (J1 549 x1.toNat ≤ J1 562 x1.toNat → K (.inl (some (iv 0))) (mj J1 sw lg x)))) ∧ (x2 = 4 → ((0 ≤ 6 + x1 ∧ 6 + x1 < 50) ∧ (0 ≤ x1 ∧ x1 < 50) ∧ InR (2 * (J1 562 ((6 + x1).toNat))) ∧ InR (J1 562 x1.toNat) ∧ (2 * (J1 562 ((6 + x1).toNat)) ≤ J1 562 x1.toNat → K (.inl (some (iv 0))) (mj J1 sw lg x)) ∧ (J1 562 x1.toNat < 2 * (J1 562 ((6 + x1).toNat)) → K (.inl (some (iv 1))) (mj J1 sw lg x)))))) ∧ (x2 < 4 → ((¬ x2 = 0 → ((¬ x2 = 1 → ((¬ x2 = 2 → ((0 ≤ 12 + x1 ∧ 12 + x1 < 50) ∧ K (.inl (some (iv (J1 562 ((12 + x1).toNat))))) (mj J1 sw lg x))) ∧ (x2 = 2 → ((0 ≤ 6 + x1 ∧ 6 + x1 < 50) ∧ K (.inl (some (iv (J1 562 ((6 + x1).toNat))))) (mj J1 sw lg x))))) ∧ (x2 = 1 → ((0 ≤ x1 ∧ x1 < 50) ∧ K (.inl (some (iv (J1 562 x1.toNat)))) (mj J1 sw lg x))))) ∧ (x2 = 0 → ((0 ≤ x1 ∧ x1 < 6) ∧ K (.inl (some (iv (J1 549 x1.toNat)))) (mj J1 sw lg x)))))))))))))) : VV X d 228 (0, [some (.ref 542), some (iv x1), some (iv x2)], [], mj J sw lg x) K := by
  refine v_s mt_228 rfl rfl rfl ?_
  refine v_ic (v := Int32.ofInt 0) mt_228 rfl rfl ?_
  refine j_pi 0 mt_228 rfl rfl c_542 (by decide) ?_
  refine v_s mt_228 rfl rfl rfl ?_
  refine v_s mt_228 rfl rfl rfl ?_
  refine v_ic (v := Int32.ofInt 1) mt_228 rfl rfl ?_
  refine v_inl (L1 := [some (.ref 542), some (iv x1), some (iv 1)]) mt_228 rfl rfl mt_225 rfl rfl (m_callj (As := [iv x1, iv 1]) (rest := []) rfl rfl c_542 rfl (Nat.le_of_ble_eq_true rfl) (Nat.le_of_ble_eq_true rfl)) rfl (by clear h; omega) ?_
  refine v_s mt_225 rfl rfl rfl ?_
  refine v_s mt_225 rfl rfl rfl ?_
  refine v_ic (v := Int32.ofInt 0) mt_225 rfl rfl ?_
  refine v_s mt_225 rfl rfl rfl ?_
  refine j_gi (w := J 542 24) 24 mt_225 rfl rfl c_542 (by decide) ((up_nk (by decide)).trans rfl) ?_
  refine v_ic (v := Int32.ofInt 1) mt_225 rfl rfl ?_
  refine j_sub (e := (J 542 24) - 1) mt_225 rfl rfl ?_
  refine v_inl (L1 := [some (iv x1), some (iv 0), some (iv ((J 542 24) - 1))]) mt_225 rfl rfl mt_162 rfl rfl rfl rfl (by clear h; omega) ?_
  refine v_s mt_162 rfl rfl rfl ?_
  refine v_s mt_162 rfl rfl rfl ?_
  obtain ⟨z1, h⟩ := h
  refine j_if2 mt_162 rfl rfl z1 ⟨by decide, by decide⟩ (fun c => ?_) (fun c => ?_)
  · replace h := h.1 c
    refine v_ic (v := Int32.ofInt 0) mt_162 rfl rfl ?_
    refine j_retb mt_162 rfl rfl (by decide) ?_
    refine v_s mt_225 rfl rfl rfl ?_
    refine v_ic (v := Int32.ofInt 0) mt_225 rfl rfl ?_
    refine v_inl (L1 := [some (.ref 542), some (iv 0), some (iv 1), some (iv 0)]) mt_225 rfl rfl mt_161 rfl rfl (m_callj (As := [iv 0, iv 1, iv 0]) (rest := []) rfl rfl c_542 rfl (Nat.le_of_ble_eq_true rfl) (Nat.le_of_ble_eq_true rfl)) rfl (by clear h; omega) ?_
    refine v_s mt_161 rfl rfl rfl ?_
    refine j_if1 mt_161 rfl rfl ⟨by decide, by decide⟩ (fun c => absurd (show ¬ (0 : Int) = 0 from c) (by decide)) (fun _ => ?_)
    refine v_s mt_161 rfl rfl rfl ?_
    refine j_gi (w := 0) 0 mt_161 rfl rfl c_542 (by decide) (up_eq _ _ _ _) ?_
    refine j_if1 mt_161 rfl rfl ⟨by decide, by decide⟩ (fun c => absurd (show ¬ (0 : Int) = 0 from c) (by decide)) (fun _ => ?_)
    refine v_s mt_161 rfl rfl rfl ?_
    refine v_s mt_161 rfl rfl rfl ?_
    refine j_pi 0 mt_161 rfl rfl c_542 (by decide) ?_
    refine v_s mt_161 rfl rfl rfl ?_
    refine v_gr (w := 543) 1 mt_161 rfl rfl c_542 (by decide) (g_12_1 c_542) ?_
    refine v_s mt_161 rfl rfl rfl ?_
    refine v_s mt_161 rfl rfl rfl ?_
    refine j_al (w := J 543 0) mt_161 rfl c_543 ⟨by decide, by decide⟩ (by decide) ((up_na (by decide)).trans ((up_na (by decide)).trans rfl)) ?_
    refine v_ic (v := Int32.ofInt 1) mt_161 rfl rfl ?_
    refine j_add (e := (J 543 0) + 1) mt_161 rfl rfl ?_
    refine j_as mt_161 rfl c_543 ⟨by decide, by decide⟩ (by decide) ?_
    refine v_s mt_161 rfl rfl rfl ?_
    refine j_gi (w := 1) 0 mt_161 rfl rfl c_542 (by decide) ((up_na (by decide)).trans (up_eq _ _ _ _)) ?_
    refine j_if1 mt_161 rfl rfl ⟨by decide, by decide⟩ (fun _ => ?_) (fun c => (c (show ¬ (1 : Int) = 0 by decide)).elim)
    refine v_ic (v := Int32.ofInt 0) mt_161 rfl rfl ?_
    refine j_retb mt_161 rfl rfl (by decide) ?_
    refine j_retb mt_225 rfl rfl (by decide) ?_
    refine j_if1 mt_228 rfl rfl ⟨by decide, by decide⟩ (fun _ => ?_) (fun c => (c (show (0 : Int) = 0 by decide)).elim)
    refine v_ic (v := Int32.ofInt 0) mt_228 rfl rfl ?_
    exact v_ret mt_228 rfl rfl rfl h
  · replace h := h.2 (Int.not_lt.mp c)
    refine v_s mt_162 rfl rfl rfl ?_
    refine v_s mt_162 rfl rfl rfl ?_
    obtain ⟨z2, h⟩ := h
    refine j_if2 mt_162 rfl rfl z1 z2 (fun c => ?_) (fun c => ?_)
    · replace h := h.1 c
      refine v_ic (v := Int32.ofInt 0) mt_162 rfl rfl ?_
      refine j_retb mt_162 rfl rfl (by decide) ?_
      refine v_s mt_225 rfl rfl rfl ?_
      refine v_ic (v := Int32.ofInt 0) mt_225 rfl rfl ?_
      refine v_inl (L1 := [some (.ref 542), some (iv 0), some (iv 1), some (iv 0)]) mt_225 rfl rfl mt_161 rfl rfl (m_callj (As := [iv 0, iv 1, iv 0]) (rest := []) rfl rfl c_542 rfl (Nat.le_of_ble_eq_true rfl) (Nat.le_of_ble_eq_true rfl)) rfl (by clear h; omega) ?_
      refine v_s mt_161 rfl rfl rfl ?_
      refine j_if1 mt_161 rfl rfl ⟨by decide, by decide⟩ (fun c => absurd (show ¬ (0 : Int) = 0 from c) (by decide)) (fun _ => ?_)
      refine v_s mt_161 rfl rfl rfl ?_
      refine j_gi (w := 0) 0 mt_161 rfl rfl c_542 (by decide) (up_eq _ _ _ _) ?_
      refine j_if1 mt_161 rfl rfl ⟨by decide, by decide⟩ (fun c => absurd (show ¬ (0 : Int) = 0 from c) (by decide)) (fun _ => ?_)
      refine v_s mt_161 rfl rfl rfl ?_
      refine v_s mt_161 rfl rfl rfl ?_
      refine j_pi 0 mt_161 rfl rfl c_542 (by decide) ?_
      refine v_s mt_161 rfl rfl rfl ?_
      refine v_gr (w := 543) 1 mt_161 rfl rfl c_542 (by decide) (g_12_1 c_542) ?_
      refine v_s mt_161 rfl rfl rfl ?_
      refine v_s mt_161 rfl rfl rfl ?_
      refine j_al (w := J 543 0) mt_161 rfl c_543 ⟨by decide, by decide⟩ (by decide) ((up_na (by decide)).trans ((up_na (by decide)).trans rfl)) ?_
      refine v_ic (v := Int32.ofInt 1) mt_161 rfl rfl ?_
      refine j_add (e := (J 543 0) + 1) mt_161 rfl rfl ?_
      refine j_as mt_161 rfl c_543 ⟨by decide, by decide⟩ (by decide) ?_
      refine v_s mt_161 rfl rfl rfl ?_
      refine j_gi (w := 1) 0 mt_161 rfl rfl c_542 (by decide) ((up_na (by decide)).trans (up_eq _ _ _ _)) ?_
      refine j_if1 mt_161 rfl rfl ⟨by decide, by decide⟩ (fun _ => ?_) (fun c => (c (show ¬ (1 : Int) = 0 by decide)).elim)
      refine v_ic (v := Int32.ofInt 0) mt_161 rfl rfl ?_
      refine j_retb mt_161 rfl rfl (by decide) ?_
      refine j_retb mt_225 rfl rfl (by decide) ?_
      refine j_if1 mt_228 rfl rfl ⟨by decide, by decide⟩ (fun _ => ?_) (fun c => (c (show (0 : Int) = 0 by decide)).elim)
      refine v_ic (v := Int32.ofInt 0) mt_228 rfl rfl ?_
      exact v_ret mt_228 rfl rfl rfl h
    · replace h := h.2 (Int.not_lt.mp c)
      refine v_ic (v := Int32.ofInt 1) mt_162 rfl rfl ?_
      refine v_go mt_162 rfl rfl ?_
      refine j_retb mt_162 rfl rfl (by decide) ?_
      refine v_s mt_225 rfl rfl rfl ?_
      refine v_ic (v := Int32.ofInt 0) mt_225 rfl rfl ?_
      refine v_inl (L1 := [some (.ref 542), some (iv 1), some (iv 1), some (iv 0)]) mt_225 rfl rfl mt_161 rfl rfl (m_callj (As := [iv 1, iv 1, iv 0]) (rest := []) rfl rfl c_542 rfl (Nat.le_of_ble_eq_true rfl) (Nat.le_of_ble_eq_true rfl)) rfl (by clear h; omega) ?_
      refine v_s mt_161 rfl rfl rfl ?_
      refine j_if1 mt_161 rfl rfl ⟨by decide, by decide⟩ (fun _ => ?_) (fun c => (c (show ¬ (1 : Int) = 0 by decide)).elim)
      refine v_s mt_161 rfl rfl rfl ?_
      refine j_gi (w := 0) 0 mt_161 rfl rfl c_542 (by decide) (up_eq _ _ _ _) ?_
      refine j_if1 mt_161 rfl rfl ⟨by decide, by decide⟩ (fun c => absurd (show ¬ (0 : Int) = 0 from c) (by decide)) (fun _ => ?_)
      refine v_ic (v := Int32.ofInt 1) mt_161 rfl rfl ?_
      refine v_go mt_161 rfl rfl ?_
      refine j_retb mt_161 rfl rfl (by decide) ?_
      refine j_retb mt_225 rfl rfl (by decide) ?_
      refine j_if1 mt_228 rfl rfl ⟨by decide, by decide⟩ (fun c => absurd (show (1 : Int) = 0 from c) (by decide)) (fun _ => ?_)
      refine v_s mt_228 rfl rfl rfl ?_
      refine v_s mt_228 rfl rfl rfl ?_
      refine v_ic (v := Int32.ofInt 0) mt_228 rfl rfl ?_
      refine v_ic (v := Int32.ofInt 5) mt_228 rfl rfl ?_
      refine v_inl (L1 := [some (iv x2), some (iv 0), some (iv 5)]) mt_228 rfl rfl mt_162 rfl rfl rfl rfl (by clear h; omega) ?_
      refine v_s mt_162 rfl rfl rfl ?_
      refine v_s mt_162 rfl rfl rfl ?_
      obtain ⟨z3, h⟩ := h
      refine j_if2 mt_162 rfl rfl z3 ⟨by decide, by decide⟩ (fun c => ?_) (fun c => ?_)
      · replace h := h.1 c
        refine v_ic (v := Int32.ofInt 0) mt_162 rfl rfl ?_
        refine j_retb mt_162 rfl rfl (by decide) ?_
        refine v_ic (v := Int32.ofInt 2) mt_228 rfl rfl ?_
        refine v_ic (v := Int32.ofInt 1) mt_228 rfl rfl ?_
        refine v_inl (L1 := [some (.ref 542), some (iv 0), some (iv 2), some (iv 1)]) mt_228 rfl rfl mt_161 rfl rfl (m_callj (As := [iv 0, iv 2, iv 1]) (rest := []) rfl rfl c_542 rfl (Nat.le_of_ble_eq_true rfl) (Nat.le_of_ble_eq_true rfl)) rfl (by clear h; omega) ?_
        refine v_s mt_161 rfl rfl rfl ?_
        refine j_if1 mt_161 rfl rfl ⟨by decide, by decide⟩ (fun c => absurd (show ¬ (0 : Int) = 0 from c) (by decide)) (fun _ => ?_)
        refine v_s mt_161 rfl rfl rfl ?_
        refine j_gi (w := 0) 0 mt_161 rfl rfl c_542 (by decide) (up_eq _ _ _ _) ?_
        refine j_if1 mt_161 rfl rfl ⟨by decide, by decide⟩ (fun c => absurd (show ¬ (0 : Int) = 0 from c) (by decide)) (fun _ => ?_)
        refine v_s mt_161 rfl rfl rfl ?_
        refine v_s mt_161 rfl rfl rfl ?_
        refine j_pi 0 mt_161 rfl rfl c_542 (by decide) ?_
        refine v_s mt_161 rfl rfl rfl ?_
        refine v_gr (w := 543) 1 mt_161 rfl rfl c_542 (by decide) (g_12_1 c_542) ?_
        refine v_s mt_161 rfl rfl rfl ?_
        refine v_s mt_161 rfl rfl rfl ?_
        refine j_al (w := J 543 1) mt_161 rfl c_543 ⟨by decide, by decide⟩ (by decide) ((up_na (by decide)).trans ((up_na (by decide)).trans rfl)) ?_
        refine v_ic (v := Int32.ofInt 1) mt_161 rfl rfl ?_
        refine j_add (e := (J 543 1) + 1) mt_161 rfl rfl ?_
        refine j_as mt_161 rfl c_543 ⟨by decide, by decide⟩ (by decide) ?_
        refine v_s mt_161 rfl rfl rfl ?_
        refine j_gi (w := 2) 0 mt_161 rfl rfl c_542 (by decide) ((up_na (by decide)).trans (up_eq _ _ _ _)) ?_
        refine j_if1 mt_161 rfl rfl ⟨by decide, by decide⟩ (fun _ => ?_) (fun c => (c (show ¬ (2 : Int) = 0 by decide)).elim)
        refine v_ic (v := Int32.ofInt 0) mt_161 rfl rfl ?_
        refine j_retb mt_161 rfl rfl (by decide) ?_
        refine j_if1 mt_228 rfl rfl ⟨by decide, by decide⟩ (fun c => absurd (show ¬ (0 : Int) = 0 from c) (by decide)) (fun _ => ?_)
        refine v_ic (v := Int32.ofInt 0) mt_228 rfl rfl ?_
        exact v_ret mt_228 rfl rfl rfl h
      · replace h := h.2 (Int.not_lt.mp c)
        refine v_s mt_162 rfl rfl rfl ?_
        refine v_s mt_162 rfl rfl rfl ?_
        refine j_if2 mt_162 rfl rfl z3 ⟨by decide, by decide⟩ (fun c => ?_) (fun c => ?_)
        · replace h := h.1 c
          refine v_ic (v := Int32.ofInt 0) mt_162 rfl rfl ?_
          refine j_retb mt_162 rfl rfl (by decide) ?_
          refine v_ic (v := Int32.ofInt 2) mt_228 rfl rfl ?_
          refine v_ic (v := Int32.ofInt 1) mt_228 rfl rfl ?_
          refine v_inl (L1 := [some (.ref 542), some (iv 0), some (iv 2), some (iv 1)]) mt_228 rfl rfl mt_161 rfl rfl (m_callj (As := [iv 0, iv 2, iv 1]) (rest := []) rfl rfl c_542 rfl (Nat.le_of_ble_eq_true rfl) (Nat.le_of_ble_eq_true rfl)) rfl (by clear h; omega) ?_
          refine v_s mt_161 rfl rfl rfl ?_
          refine j_if1 mt_161 rfl rfl ⟨by decide, by decide⟩ (fun c => absurd (show ¬ (0 : Int) = 0 from c) (by decide)) (fun _ => ?_)
          refine v_s mt_161 rfl rfl rfl ?_
          refine j_gi (w := 0) 0 mt_161 rfl rfl c_542 (by decide) (up_eq _ _ _ _) ?_
          refine j_if1 mt_161 rfl rfl ⟨by decide, by decide⟩ (fun c => absurd (show ¬ (0 : Int) = 0 from c) (by decide)) (fun _ => ?_)
          refine v_s mt_161 rfl rfl rfl ?_
          refine v_s mt_161 rfl rfl rfl ?_
          refine j_pi 0 mt_161 rfl rfl c_542 (by decide) ?_
          refine v_s mt_161 rfl rfl rfl ?_
          refine v_gr (w := 543) 1 mt_161 rfl rfl c_542 (by decide) (g_12_1 c_542) ?_
          refine v_s mt_161 rfl rfl rfl ?_
          refine v_s mt_161 rfl rfl rfl ?_
          refine j_al (w := J 543 1) mt_161 rfl c_543 ⟨by decide, by decide⟩ (by decide) ((up_na (by decide)).trans ((up_na (by decide)).trans rfl)) ?_
          refine v_ic (v := Int32.ofInt 1) mt_161 rfl rfl ?_
          refine j_add (e := (J 543 1) + 1) mt_161 rfl rfl ?_
          refine j_as mt_161 rfl c_543 ⟨by decide, by decide⟩ (by decide) ?_
          refine v_s mt_161 rfl rfl rfl ?_
          refine j_gi (w := 2) 0 mt_161 rfl rfl c_542 (by decide) ((up_na (by decide)).trans (up_eq _ _ _ _)) ?_
          refine j_if1 mt_161 rfl rfl ⟨by decide, by decide⟩ (fun _ => ?_) (fun c => (c (show ¬ (2 : Int) = 0 by decide)).elim)
          refine v_ic (v := Int32.ofInt 0) mt_161 rfl rfl ?_
          refine j_retb mt_161 rfl rfl (by decide) ?_
          refine j_if1 mt_228 rfl rfl ⟨by decide, by decide⟩ (fun c => absurd (show ¬ (0 : Int) = 0 from c) (by decide)) (fun _ => ?_)
          refine v_ic (v := Int32.ofInt 0) mt_228 rfl rfl ?_
          exact v_ret mt_228 rfl rfl rfl h
        · replace h := h.2 (Int.not_lt.mp c)
          refine v_ic (v := Int32.ofInt 1) mt_162 rfl rfl ?_
          refine v_go mt_162 rfl rfl ?_
          refine j_retb mt_162 rfl rfl (by decide) ?_
          refine v_ic (v := Int32.ofInt 2) mt_228 rfl rfl ?_
          refine v_ic (v := Int32.ofInt 1) mt_228 rfl rfl ?_
          refine v_inl (L1 := [some (.ref 542), some (iv 1), some (iv 2), some (iv 1)]) mt_228 rfl rfl mt_161 rfl rfl (m_callj (As := [iv 1, iv 2, iv 1]) (rest := []) rfl rfl c_542 rfl (Nat.le_of_ble_eq_true rfl) (Nat.le_of_ble_eq_true rfl)) rfl (by clear h; omega) ?_
          refine v_s mt_161 rfl rfl rfl ?_
          refine j_if1 mt_161 rfl rfl ⟨by decide, by decide⟩ (fun _ => ?_) (fun c => (c (show ¬ (1 : Int) = 0 by decide)).elim)
          refine v_s mt_161 rfl rfl rfl ?_
          refine j_gi (w := 0) 0 mt_161 rfl rfl c_542 (by decide) (up_eq _ _ _ _) ?_
          refine j_if1 mt_161 rfl rfl ⟨by decide, by decide⟩ (fun c => absurd (show ¬ (0 : Int) = 0 from c) (by decide)) (fun _ => ?_)
          refine v_ic (v := Int32.ofInt 1) mt_161 rfl rfl ?_
          refine v_go mt_161 rfl rfl ?_
          refine j_retb mt_161 rfl rfl (by decide) ?_
          refine j_if1 mt_228 rfl rfl ⟨by decide, by decide⟩ (fun _ => ?_) (fun c => (c (show ¬ (1 : Int) = 0 by decide)).elim)
          refine v_s mt_228 rfl rfl rfl ?_
          obtain ⟨J1, z4, h⟩ := h
          refine v_call (d1 := 1) mt_228 rfl rfl mt_204 rfl rfl (m_callj (As := []) (rest := []) rfl rfl c_542 rfl (Nat.le_of_ble_eq_true rfl) (Nat.le_of_ble_eq_true rfl)) z4 (by clear h; omega) ?_
          refine v_s mt_228 rfl rfl rfl ?_
          refine v_ic (v := Int32.ofInt 4) mt_228 rfl rfl ?_
          refine j_if2 mt_228 rfl rfl z3 ⟨by decide, by decide⟩ (fun c => ?_) (fun c => ?_)
          · replace h := h.1 c
            refine v_s mt_228 rfl rfl rfl ?_
            refine v_ic (v := Int32.ofInt 4) mt_228 rfl rfl ?_
            refine j_if2 mt_228 rfl rfl z3 ⟨by decide, by decide⟩ (fun c => ?_) (fun c => ?_)
            · replace h := h.1 c
              refine v_s mt_228 rfl rfl rfl ?_
              refine v_s mt_228 rfl rfl rfl ?_
              refine v_inl (L1 := [some (.ref 542), some (iv x1)]) mt_228 rfl rfl mt_208 rfl rfl (m_callj (As := [iv x1]) (rest := []) rfl rfl c_542 rfl (Nat.le_of_ble_eq_true rfl) (Nat.le_of_ble_eq_true rfl)) rfl (by clear h; omega) ?_
              refine v_s mt_208 rfl rfl rfl ?_
              refine v_gr (w := 562) 46 mt_208 rfl rfl c_542 (by decide) (g_12_46 c_542) ?_
              refine v_ic (v := Int32.ofInt 0) mt_208 rfl rfl ?_
              refine v_s mt_208 rfl rfl rfl ?_
              refine j_add (e := x1) mt_208 rfl (Int.zero_add _) ?_
              obtain ⟨z5, h⟩ := h
              refine j_al (w := J1 562 x1.toNat) mt_208 rfl c_562 z5 (by decide) rfl ?_
              refine v_s mt_208 rfl rfl rfl ?_
              refine v_gr (w := 549) 14 mt_208 rfl rfl c_542 (by decide) (g_12_14 c_542) ?_
              refine v_s mt_208 rfl rfl rfl ?_
              obtain ⟨z6, h⟩ := h
              refine j_al (w := J1 549 x1.toNat) mt_208 rfl c_549 z6 (by decide) rfl ?_
              obtain ⟨z7, h⟩ := h
              obtain ⟨z8, h⟩ := h
              refine j_if2 mt_208 rfl rfl z7 z8 (fun c => ?_) (fun c => ?_)
              · replace h := h.1 c
                refine v_ic (v := Int32.ofInt 0) mt_208 rfl rfl ?_
                refine j_retb mt_208 rfl rfl (by decide) ?_
                refine j_if1 mt_228 rfl rfl ⟨by decide, by decide⟩ (fun _ => ?_) (fun c => (c (show (0 : Int) = 0 by decide)).elim)
                refine v_s mt_228 rfl rfl rfl ?_
                refine v_gr (w := 549) 14 mt_228 rfl rfl c_542 (by decide) (g_12_14 c_542) ?_
                refine v_s mt_228 rfl rfl rfl ?_
                refine j_al (w := J1 549 x1.toNat) mt_228 rfl c_549 z6 (by decide) rfl ?_
                refine v_s mt_228 rfl rfl rfl ?_
                refine v_gr (w := 562) 46 mt_228 rfl rfl c_542 (by decide) (g_12_46 c_542) ?_
                refine v_ic (v := Int32.ofInt 0) mt_228 rfl rfl ?_
                refine v_s mt_228 rfl rfl rfl ?_
                refine j_add (e := x1) mt_228 rfl (Int.zero_add _) ?_
                refine j_al (w := J1 562 x1.toNat) mt_228 rfl c_562 z5 (by decide) rfl ?_
                refine j_sub (e := (J1 549 x1.toNat) - (J1 562 x1.toNat)) mt_228 rfl rfl ?_
                exact v_ret mt_228 rfl rfl rfl h
              · replace h := h.2 (Int.not_lt.mp c)
                refine v_ic (v := Int32.ofInt 1) mt_208 rfl rfl ?_
                refine v_go mt_208 rfl rfl ?_
                refine j_retb mt_208 rfl rfl (by decide) ?_
                refine j_if1 mt_228 rfl rfl ⟨by decide, by decide⟩ (fun c => absurd (show (1 : Int) = 0 from c) (by decide)) (fun _ => ?_)
                refine v_ic (v := Int32.ofInt 0) mt_228 rfl rfl ?_
                refine v_go mt_228 rfl rfl ?_
                exact v_ret mt_228 rfl rfl rfl h
            · replace h := h.2 (Decidable.not_not.mp c)
              refine v_s mt_228 rfl rfl rfl ?_
              refine v_s mt_228 rfl rfl rfl ?_
              refine v_inl (L1 := [some (.ref 542), some (iv x1)]) mt_228 rfl rfl mt_209 rfl rfl (m_callj (As := [iv x1]) (rest := []) rfl rfl c_542 rfl (Nat.le_of_ble_eq_true rfl) (Nat.le_of_ble_eq_true rfl)) rfl (by clear h; omega) ?_
              refine v_ic (v := Int32.ofInt 2) mt_209 rfl rfl ?_
              refine v_s mt_209 rfl rfl rfl ?_
              refine v_gr (w := 562) 46 mt_209 rfl rfl c_542 (by decide) (g_12_46 c_542) ?_
              refine v_bp (v := Int32.ofInt 6) mt_209 rfl rfl ?_
              refine v_s mt_209 rfl rfl rfl ?_
              refine j_add (e := 6 + x1) mt_209 rfl rfl ?_
              obtain ⟨z9, h⟩ := h
              refine j_al (w := J1 562 ((6 + x1).toNat)) mt_209 rfl c_562 z9 (by decide) rfl ?_
              refine j_mul (e := 2 * (J1 562 ((6 + x1).toNat))) mt_209 rfl rfl ?_
              refine v_s mt_209 rfl rfl rfl ?_
              refine v_gr (w := 562) 46 mt_209 rfl rfl c_542 (by decide) (g_12_46 c_542) ?_
              refine v_ic (v := Int32.ofInt 0) mt_209 rfl rfl ?_
              refine v_s mt_209 rfl rfl rfl ?_
              refine j_add (e := x1) mt_209 rfl (Int.zero_add _) ?_
              obtain ⟨z10, h⟩ := h
              refine j_al (w := J1 562 x1.toNat) mt_209 rfl c_562 z10 (by decide) rfl ?_
              obtain ⟨z11, h⟩ := h
              obtain ⟨z12, h⟩ := h
              refine j_if2 mt_209 rfl rfl z11 z12 (fun c => ?_) (fun c => ?_)
              · replace h := h.1 c
                refine v_ic (v := Int32.ofInt 0) mt_209 rfl rfl ?_
                refine j_retb mt_209 rfl rfl (by decide) ?_
                refine j_if1 mt_228 rfl rfl ⟨by decide, by decide⟩ (fun _ => ?_) (fun c => (c (show (0 : Int) = 0 by decide)).elim)
                refine v_ic (v := Int32.ofInt 0) mt_228 rfl rfl ?_
                refine v_go mt_228 rfl rfl ?_
                exact v_ret mt_228 rfl rfl rfl h
              · replace h := h.2 (Int.not_le.mp c)
                refine v_ic (v := Int32.ofInt 1) mt_209 rfl rfl ?_
                refine v_go mt_209 rfl rfl ?_
                refine j_retb mt_209 rfl rfl (by decide) ?_
                refine j_if1 mt_228 rfl rfl ⟨by decide, by decide⟩ (fun c => absurd (show (1 : Int) = 0 from c) (by decide)) (fun _ => ?_)
                refine v_ic (v := Int32.ofInt 1) mt_228 rfl rfl ?_
                refine v_go mt_228 rfl rfl ?_
                exact v_ret mt_228 rfl rfl rfl h
          · replace h := h.2 (Int.not_le.mp c)
            refine v_s mt_228 rfl rfl rfl ?_
            refine j_if1 mt_228 rfl rfl z3 (fun c => ?_) (fun c => ?_)
            · replace h := h.1 c
              refine v_s mt_228 rfl rfl rfl ?_
              refine v_gr (w := 562) 46 mt_228 rfl rfl c_542 (by decide) (g_12_46 c_542) ?_
              refine v_s mt_228 rfl rfl rfl ?_
              refine v_ic (v := Int32.ofInt 1) mt_228 rfl rfl ?_
              refine j_if2 mt_228 rfl rfl z3 ⟨by decide, by decide⟩ (fun c => ?_) (fun c => ?_)
              · replace h := h.1 c
                refine v_s mt_228 rfl rfl rfl ?_
                refine v_ic (v := Int32.ofInt 2) mt_228 rfl rfl ?_
                refine j_if2 mt_228 rfl rfl z3 ⟨by decide, by decide⟩ (fun c => ?_) (fun c => ?_)
                · replace h := h.1 c
                  refine v_bp (v := Int32.ofInt 12) mt_228 rfl rfl ?_
                  refine v_s mt_228 rfl rfl rfl ?_
                  refine j_add (e := 12 + x1) mt_228 rfl rfl ?_
                  obtain ⟨z13, h⟩ := h
                  refine j_al (w := J1 562 ((12 + x1).toNat)) mt_228 rfl c_562 z13 (by decide) rfl ?_
                  exact v_ret mt_228 rfl rfl rfl h
                · replace h := h.2 (Decidable.not_not.mp c)
                  refine v_bp (v := Int32.ofInt 6) mt_228 rfl rfl ?_
                  refine v_go mt_228 rfl rfl ?_
                  refine v_s mt_228 rfl rfl rfl ?_
                  refine j_add (e := 6 + x1) mt_228 rfl rfl ?_
                  obtain ⟨z14, h⟩ := h
                  refine j_al (w := J1 562 ((6 + x1).toNat)) mt_228 rfl c_562 z14 (by decide) rfl ?_
                  exact v_ret mt_228 rfl rfl rfl h
              · replace h := h.2 (Decidable.not_not.mp c)
                refine v_ic (v := Int32.ofInt 0) mt_228 rfl rfl ?_
                refine v_go mt_228 rfl rfl ?_
                refine v_s mt_228 rfl rfl rfl ?_
                refine j_add (e := x1) mt_228 rfl (Int.zero_add _) ?_
                obtain ⟨z15, h⟩ := h
                refine j_al (w := J1 562 x1.toNat) mt_228 rfl c_562 z15 (by decide) rfl ?_
                exact v_ret mt_228 rfl rfl rfl h
            · replace h := h.2 (Decidable.not_not.mp c)
              refine v_s mt_228 rfl rfl rfl ?_
              refine v_gr (w := 549) 14 mt_228 rfl rfl c_542 (by decide) (g_12_14 c_542) ?_
              refine v_s mt_228 rfl rfl rfl ?_
              obtain ⟨z16, h⟩ := h
              refine j_al (w := J1 549 x1.toNat) mt_228 rfl c_549 z16 (by decide) rfl ?_
              refine v_go mt_228 rfl rfl ?_
              exact v_ret mt_228 rfl rfl rfl h
set_option maxHeartbeats 600000 in
theorem b_229_0 {X : Nat × (Nat → Int32)} {d : Nat} {J : Nat → Nat → Int} {sw : Bool × Bool × Bool} {lg : Nat → Nat → Int64} {x : Nat} {K : (Option Value ⊕ Nat) → mM → Prop} {x1 x2 : Int} (hd : 2 ≤ d)
    (h : InR x1 ∧ (x1 < 0 → K (.inl (some (iv 0))) (mj (m_up (m_up (m_up J 542 0 0) 542 0 1) 543 0 ((J 543 0) + 1)) sw lg x)) ∧ (0 ≤ x1 → (InR ((J 542 25) - 1) ∧ ((J 542 25) - 1 < x1 → K (.inl (some (iv 0))) (mj (m_up (m_up (m_up J 542 0 0) 542 0 1) 543 0 ((J 543 0) + 1)) sw lg x)) ∧ (x1 ≤ (J 542 25) - 1 → (InR x2 ∧ (x2 < 0 → K (.inl (some (iv 0))) (mj (m_up (m_up (m_up J 542 0 0) 542 0 2) 543 1 ((J 543 1) + 1)) sw lg x)) ∧ (0 ≤ x2 → ((2 < x2 → K (.inl (some (iv 0))) (mj (m_up (m_up (m_up J 542 0 0) 542 0 2) 543 1 ((J 543 1) + 1)) sw lg x)) ∧ (x2 ≤ 2 → ((¬ x2 = 0 → ((¬ x2 = 1 → ((0 ≤ 24 + x1 ∧ 24 + x1 < 50) ∧ K (.inl (some (iv (J 561 ((24 + x1).toNat))))) (mj (m_up J 542 0 0) sw lg x))) ∧ (x2 = 1 → ((0 ≤ 18 + x1 ∧ 18 + x1 < 50) ∧ K (.inl (some (iv (J 561 ((18 + x1).toNat))))) (mj (m_up J 542 0 0) sw lg x))))) ∧ (x2 = 0 → ((0 ≤ x1 ∧ x1 < 6) ∧ K (.inl (some (iv (J 550 x1.toNat)))) (mj (m_up J 542 0 0) sw lg x)))))))))))) : VV X d 229 (0, [some (.ref 542), some (iv x1), some (iv x2)], [], mj J sw lg x) K := by
  refine v_s mt_229 rfl rfl rfl ?_
  refine v_ic (v := Int32.ofInt 0) mt_229 rfl rfl ?_
  refine j_pi 0 mt_229 rfl rfl c_542 (by decide) ?_
  refine v_s mt_229 rfl rfl rfl ?_
  refine v_s mt_229 rfl rfl rfl ?_
  refine v_ic (v := Int32.ofInt 1) mt_229 rfl rfl ?_
  refine v_inl (L1 := [some (.ref 542), some (iv x1), some (iv 1)]) mt_229 rfl rfl mt_226 rfl rfl (m_callj (As := [iv x1, iv 1]) (rest := []) rfl rfl c_542 rfl (Nat.le_of_ble_eq_true rfl) (Nat.le_of_ble_eq_true rfl)) rfl (by clear h; omega) ?_
  refine v_s mt_226 rfl rfl rfl ?_
  refine v_s mt_226 rfl rfl rfl ?_
  refine v_ic (v := Int32.ofInt 0) mt_226 rfl rfl ?_
  refine v_s mt_226 rfl rfl rfl ?_
  refine j_gi (w := J 542 25) 25 mt_226 rfl rfl c_542 (by decide) ((up_nk (by decide)).trans rfl) ?_
  refine v_ic (v := Int32.ofInt 1) mt_226 rfl rfl ?_
  refine j_sub (e := (J 542 25) - 1) mt_226 rfl rfl ?_
  refine v_inl (L1 := [some (iv x1), some (iv 0), some (iv ((J 542 25) - 1))]) mt_226 rfl rfl mt_162 rfl rfl rfl rfl (by clear h; omega) ?_
  refine v_s mt_162 rfl rfl rfl ?_
  refine v_s mt_162 rfl rfl rfl ?_
  obtain ⟨z1, h⟩ := h
  refine j_if2 mt_162 rfl rfl z1 ⟨by decide, by decide⟩ (fun c => ?_) (fun c => ?_)
  · replace h := h.1 c
    refine v_ic (v := Int32.ofInt 0) mt_162 rfl rfl ?_
    refine j_retb mt_162 rfl rfl (by decide) ?_
    refine v_s mt_226 rfl rfl rfl ?_
    refine v_ic (v := Int32.ofInt 0) mt_226 rfl rfl ?_
    refine v_inl (L1 := [some (.ref 542), some (iv 0), some (iv 1), some (iv 0)]) mt_226 rfl rfl mt_161 rfl rfl (m_callj (As := [iv 0, iv 1, iv 0]) (rest := []) rfl rfl c_542 rfl (Nat.le_of_ble_eq_true rfl) (Nat.le_of_ble_eq_true rfl)) rfl (by clear h; omega) ?_
    refine v_s mt_161 rfl rfl rfl ?_
    refine j_if1 mt_161 rfl rfl ⟨by decide, by decide⟩ (fun c => absurd (show ¬ (0 : Int) = 0 from c) (by decide)) (fun _ => ?_)
    refine v_s mt_161 rfl rfl rfl ?_
    refine j_gi (w := 0) 0 mt_161 rfl rfl c_542 (by decide) (up_eq _ _ _ _) ?_
    refine j_if1 mt_161 rfl rfl ⟨by decide, by decide⟩ (fun c => absurd (show ¬ (0 : Int) = 0 from c) (by decide)) (fun _ => ?_)
    refine v_s mt_161 rfl rfl rfl ?_
    refine v_s mt_161 rfl rfl rfl ?_
    refine j_pi 0 mt_161 rfl rfl c_542 (by decide) ?_
    refine v_s mt_161 rfl rfl rfl ?_
    refine v_gr (w := 543) 1 mt_161 rfl rfl c_542 (by decide) (g_12_1 c_542) ?_
    refine v_s mt_161 rfl rfl rfl ?_
    refine v_s mt_161 rfl rfl rfl ?_
    refine j_al (w := J 543 0) mt_161 rfl c_543 ⟨by decide, by decide⟩ (by decide) ((up_na (by decide)).trans ((up_na (by decide)).trans rfl)) ?_
    refine v_ic (v := Int32.ofInt 1) mt_161 rfl rfl ?_
    refine j_add (e := (J 543 0) + 1) mt_161 rfl rfl ?_
    refine j_as mt_161 rfl c_543 ⟨by decide, by decide⟩ (by decide) ?_
    refine v_s mt_161 rfl rfl rfl ?_
    refine j_gi (w := 1) 0 mt_161 rfl rfl c_542 (by decide) ((up_na (by decide)).trans (up_eq _ _ _ _)) ?_
    refine j_if1 mt_161 rfl rfl ⟨by decide, by decide⟩ (fun _ => ?_) (fun c => (c (show ¬ (1 : Int) = 0 by decide)).elim)
    refine v_ic (v := Int32.ofInt 0) mt_161 rfl rfl ?_
    refine j_retb mt_161 rfl rfl (by decide) ?_
    refine j_retb mt_226 rfl rfl (by decide) ?_
    refine j_if1 mt_229 rfl rfl ⟨by decide, by decide⟩ (fun _ => ?_) (fun c => (c (show (0 : Int) = 0 by decide)).elim)
    refine v_ic (v := Int32.ofInt 0) mt_229 rfl rfl ?_
    exact v_ret mt_229 rfl rfl rfl h
  · replace h := h.2 (Int.not_lt.mp c)
    refine v_s mt_162 rfl rfl rfl ?_
    refine v_s mt_162 rfl rfl rfl ?_
    obtain ⟨z2, h⟩ := h
    refine j_if2 mt_162 rfl rfl z1 z2 (fun c => ?_) (fun c => ?_)
    · replace h := h.1 c
      refine v_ic (v := Int32.ofInt 0) mt_162 rfl rfl ?_
      refine j_retb mt_162 rfl rfl (by decide) ?_
      refine v_s mt_226 rfl rfl rfl ?_
      refine v_ic (v := Int32.ofInt 0) mt_226 rfl rfl ?_
      refine v_inl (L1 := [some (.ref 542), some (iv 0), some (iv 1), some (iv 0)]) mt_226 rfl rfl mt_161 rfl rfl (m_callj (As := [iv 0, iv 1, iv 0]) (rest := []) rfl rfl c_542 rfl (Nat.le_of_ble_eq_true rfl) (Nat.le_of_ble_eq_true rfl)) rfl (by clear h; omega) ?_
      refine v_s mt_161 rfl rfl rfl ?_
      refine j_if1 mt_161 rfl rfl ⟨by decide, by decide⟩ (fun c => absurd (show ¬ (0 : Int) = 0 from c) (by decide)) (fun _ => ?_)
      refine v_s mt_161 rfl rfl rfl ?_
      refine j_gi (w := 0) 0 mt_161 rfl rfl c_542 (by decide) (up_eq _ _ _ _) ?_
      refine j_if1 mt_161 rfl rfl ⟨by decide, by decide⟩ (fun c => absurd (show ¬ (0 : Int) = 0 from c) (by decide)) (fun _ => ?_)
      refine v_s mt_161 rfl rfl rfl ?_
      refine v_s mt_161 rfl rfl rfl ?_
      refine j_pi 0 mt_161 rfl rfl c_542 (by decide) ?_
      refine v_s mt_161 rfl rfl rfl ?_
      refine v_gr (w := 543) 1 mt_161 rfl rfl c_542 (by decide) (g_12_1 c_542) ?_
      refine v_s mt_161 rfl rfl rfl ?_
      refine v_s mt_161 rfl rfl rfl ?_
      refine j_al (w := J 543 0) mt_161 rfl c_543 ⟨by decide, by decide⟩ (by decide) ((up_na (by decide)).trans ((up_na (by decide)).trans rfl)) ?_
      refine v_ic (v := Int32.ofInt 1) mt_161 rfl rfl ?_
      refine j_add (e := (J 543 0) + 1) mt_161 rfl rfl ?_
      refine j_as mt_161 rfl c_543 ⟨by decide, by decide⟩ (by decide) ?_
      refine v_s mt_161 rfl rfl rfl ?_
      refine j_gi (w := 1) 0 mt_161 rfl rfl c_542 (by decide) ((up_na (by decide)).trans (up_eq _ _ _ _)) ?_
      refine j_if1 mt_161 rfl rfl ⟨by decide, by decide⟩ (fun _ => ?_) (fun c => (c (show ¬ (1 : Int) = 0 by decide)).elim)
      refine v_ic (v := Int32.ofInt 0) mt_161 rfl rfl ?_
      refine j_retb mt_161 rfl rfl (by decide) ?_
      refine j_retb mt_226 rfl rfl (by decide) ?_
      refine j_if1 mt_229 rfl rfl ⟨by decide, by decide⟩ (fun _ => ?_) (fun c => (c (show (0 : Int) = 0 by decide)).elim)
      refine v_ic (v := Int32.ofInt 0) mt_229 rfl rfl ?_
      exact v_ret mt_229 rfl rfl rfl h
    · replace h := h.2 (Int.not_lt.mp c)
      refine v_ic (v := Int32.ofInt 1) mt_162 rfl rfl ?_
      refine v_go mt_162 rfl rfl ?_
      refine j_retb mt_162 rfl rfl (by decide) ?_
      refine v_s mt_226 rfl rfl rfl ?_
      refine v_ic (v := Int32.ofInt 0) mt_226 rfl rfl ?_
      refine v_inl (L1 := [some (.ref 542), some (iv 1), some (iv 1), some (iv 0)]) mt_226 rfl rfl mt_161 rfl rfl (m_callj (As := [iv 1, iv 1, iv 0]) (rest := []) rfl rfl c_542 rfl (Nat.le_of_ble_eq_true rfl) (Nat.le_of_ble_eq_true rfl)) rfl (by clear h; omega) ?_
      refine v_s mt_161 rfl rfl rfl ?_
      refine j_if1 mt_161 rfl rfl ⟨by decide, by decide⟩ (fun _ => ?_) (fun c => (c (show ¬ (1 : Int) = 0 by decide)).elim)
      refine v_s mt_161 rfl rfl rfl ?_
      refine j_gi (w := 0) 0 mt_161 rfl rfl c_542 (by decide) (up_eq _ _ _ _) ?_
      refine j_if1 mt_161 rfl rfl ⟨by decide, by decide⟩ (fun c => absurd (show ¬ (0 : Int) = 0 from c) (by decide)) (fun _ => ?_)
      refine v_ic (v := Int32.ofInt 1) mt_161 rfl rfl ?_
      refine v_go mt_161 rfl rfl ?_
      refine j_retb mt_161 rfl rfl (by decide) ?_
      refine j_retb mt_226 rfl rfl (by decide) ?_
      refine j_if1 mt_229 rfl rfl ⟨by decide, by decide⟩ (fun c => absurd (show (1 : Int) = 0 from c) (by decide)) (fun _ => ?_)
      refine v_s mt_229 rfl rfl rfl ?_
      refine v_s mt_229 rfl rfl rfl ?_
      refine v_ic (v := Int32.ofInt 0) mt_229 rfl rfl ?_
      refine v_ic (v := Int32.ofInt 2) mt_229 rfl rfl ?_
      refine v_inl (L1 := [some (iv x2), some (iv 0), some (iv 2)]) mt_229 rfl rfl mt_162 rfl rfl rfl rfl (by clear h; omega) ?_
      refine v_s mt_162 rfl rfl rfl ?_
      refine v_s mt_162 rfl rfl rfl ?_
      obtain ⟨z3, h⟩ := h
      refine j_if2 mt_162 rfl rfl z3 ⟨by decide, by decide⟩ (fun c => ?_) (fun c => ?_)
      · replace h := h.1 c
        refine v_ic (v := Int32.ofInt 0) mt_162 rfl rfl ?_
        refine j_retb mt_162 rfl rfl (by decide) ?_
        refine v_ic (v := Int32.ofInt 2) mt_229 rfl rfl ?_
        refine v_ic (v := Int32.ofInt 1) mt_229 rfl rfl ?_
        refine v_inl (L1 := [some (.ref 542), some (iv 0), some (iv 2), some (iv 1)]) mt_229 rfl rfl mt_161 rfl rfl (m_callj (As := [iv 0, iv 2, iv 1]) (rest := []) rfl rfl c_542 rfl (Nat.le_of_ble_eq_true rfl) (Nat.le_of_ble_eq_true rfl)) rfl (by clear h; omega) ?_
        refine v_s mt_161 rfl rfl rfl ?_
        refine j_if1 mt_161 rfl rfl ⟨by decide, by decide⟩ (fun c => absurd (show ¬ (0 : Int) = 0 from c) (by decide)) (fun _ => ?_)
        refine v_s mt_161 rfl rfl rfl ?_
        refine j_gi (w := 0) 0 mt_161 rfl rfl c_542 (by decide) (up_eq _ _ _ _) ?_
        refine j_if1 mt_161 rfl rfl ⟨by decide, by decide⟩ (fun c => absurd (show ¬ (0 : Int) = 0 from c) (by decide)) (fun _ => ?_)
        refine v_s mt_161 rfl rfl rfl ?_
        refine v_s mt_161 rfl rfl rfl ?_
        refine j_pi 0 mt_161 rfl rfl c_542 (by decide) ?_
        refine v_s mt_161 rfl rfl rfl ?_
        refine v_gr (w := 543) 1 mt_161 rfl rfl c_542 (by decide) (g_12_1 c_542) ?_
        refine v_s mt_161 rfl rfl rfl ?_
        refine v_s mt_161 rfl rfl rfl ?_
        refine j_al (w := J 543 1) mt_161 rfl c_543 ⟨by decide, by decide⟩ (by decide) ((up_na (by decide)).trans ((up_na (by decide)).trans rfl)) ?_
        refine v_ic (v := Int32.ofInt 1) mt_161 rfl rfl ?_
        refine j_add (e := (J 543 1) + 1) mt_161 rfl rfl ?_
        refine j_as mt_161 rfl c_543 ⟨by decide, by decide⟩ (by decide) ?_
        refine v_s mt_161 rfl rfl rfl ?_
        refine j_gi (w := 2) 0 mt_161 rfl rfl c_542 (by decide) ((up_na (by decide)).trans (up_eq _ _ _ _)) ?_
        refine j_if1 mt_161 rfl rfl ⟨by decide, by decide⟩ (fun _ => ?_) (fun c => (c (show ¬ (2 : Int) = 0 by decide)).elim)
        refine v_ic (v := Int32.ofInt 0) mt_161 rfl rfl ?_
        refine j_retb mt_161 rfl rfl (by decide) ?_
        refine j_if1 mt_229 rfl rfl ⟨by decide, by decide⟩ (fun c => absurd (show ¬ (0 : Int) = 0 from c) (by decide)) (fun _ => ?_)
        refine v_ic (v := Int32.ofInt 0) mt_229 rfl rfl ?_
        exact v_ret mt_229 rfl rfl rfl h
      · replace h := h.2 (Int.not_lt.mp c)
        refine v_s mt_162 rfl rfl rfl ?_
        refine v_s mt_162 rfl rfl rfl ?_
        refine j_if2 mt_162 rfl rfl z3 ⟨by decide, by decide⟩ (fun c => ?_) (fun c => ?_)
        · replace h := h.1 c
          refine v_ic (v := Int32.ofInt 0) mt_162 rfl rfl ?_
          refine j_retb mt_162 rfl rfl (by decide) ?_
          refine v_ic (v := Int32.ofInt 2) mt_229 rfl rfl ?_
          refine v_ic (v := Int32.ofInt 1) mt_229 rfl rfl ?_
          refine v_inl (L1 := [some (.ref 542), some (iv 0), some (iv 2), some (iv 1)]) mt_229 rfl rfl mt_161 rfl rfl (m_callj (As := [iv 0, iv 2, iv 1]) (rest := []) rfl rfl c_542 rfl (Nat.le_of_ble_eq_true rfl) (Nat.le_of_ble_eq_true rfl)) rfl (by clear h; omega) ?_
          refine v_s mt_161 rfl rfl rfl ?_
          refine j_if1 mt_161 rfl rfl ⟨by decide, by decide⟩ (fun c => absurd (show ¬ (0 : Int) = 0 from c) (by decide)) (fun _ => ?_)
          refine v_s mt_161 rfl rfl rfl ?_
          refine j_gi (w := 0) 0 mt_161 rfl rfl c_542 (by decide) (up_eq _ _ _ _) ?_
          refine j_if1 mt_161 rfl rfl ⟨by decide, by decide⟩ (fun c => absurd (show ¬ (0 : Int) = 0 from c) (by decide)) (fun _ => ?_)
          refine v_s mt_161 rfl rfl rfl ?_
          refine v_s mt_161 rfl rfl rfl ?_
          refine j_pi 0 mt_161 rfl rfl c_542 (by decide) ?_
          refine v_s mt_161 rfl rfl rfl ?_
          refine v_gr (w := 543) 1 mt_161 rfl rfl c_542 (by decide) (g_12_1 c_542) ?_
          refine v_s mt_161 rfl rfl rfl ?_
          refine v_s mt_161 rfl rfl rfl ?_
          refine j_al (w := J 543 1) mt_161 rfl c_543 ⟨by decide, by decide⟩ (by decide) ((up_na (by decide)).trans ((up_na (by decide)).trans rfl)) ?_
          refine v_ic (v := Int32.ofInt 1) mt_161 rfl rfl ?_
          refine j_add (e := (J 543 1) + 1) mt_161 rfl rfl ?_
          refine j_as mt_161 rfl c_543 ⟨by decide, by decide⟩ (by decide) ?_
          refine v_s mt_161 rfl rfl rfl ?_
          refine j_gi (w := 2) 0 mt_161 rfl rfl c_542 (by decide) ((up_na (by decide)).trans (up_eq _ _ _ _)) ?_
          refine j_if1 mt_161 rfl rfl ⟨by decide, by decide⟩ (fun _ => ?_) (fun c => (c (show ¬ (2 : Int) = 0 by decide)).elim)
          refine v_ic (v := Int32.ofInt 0) mt_161 rfl rfl ?_
          refine j_retb mt_161 rfl rfl (by decide) ?_
          refine j_if1 mt_229 rfl rfl ⟨by decide, by decide⟩ (fun c => absurd (show ¬ (0 : Int) = 0 from c) (by decide)) (fun _ => ?_)
          refine v_ic (v := Int32.ofInt 0) mt_229 rfl rfl ?_
          exact v_ret mt_229 rfl rfl rfl h
        · replace h := h.2 (Int.not_lt.mp c)
          refine v_ic (v := Int32.ofInt 1) mt_162 rfl rfl ?_
          refine v_go mt_162 rfl rfl ?_
          refine j_retb mt_162 rfl rfl (by decide) ?_
          refine v_ic (v := Int32.ofInt 2) mt_229 rfl rfl ?_
          refine v_ic (v := Int32.ofInt 1) mt_229 rfl rfl ?_
          refine v_inl (L1 := [some (.ref 542), some (iv 1), some (iv 2), some (iv 1)]) mt_229 rfl rfl mt_161 rfl rfl (m_callj (As := [iv 1, iv 2, iv 1]) (rest := []) rfl rfl c_542 rfl (Nat.le_of_ble_eq_true rfl) (Nat.le_of_ble_eq_true rfl)) rfl (by clear h; omega) ?_
          refine v_s mt_161 rfl rfl rfl ?_
          refine j_if1 mt_161 rfl rfl ⟨by decide, by decide⟩ (fun _ => ?_) (fun c => (c (show ¬ (1 : Int) = 0 by decide)).elim)
          refine v_s mt_161 rfl rfl rfl ?_
          refine j_gi (w := 0) 0 mt_161 rfl rfl c_542 (by decide) (up_eq _ _ _ _) ?_
          refine j_if1 mt_161 rfl rfl ⟨by decide, by decide⟩ (fun c => absurd (show ¬ (0 : Int) = 0 from c) (by decide)) (fun _ => ?_)
          refine v_ic (v := Int32.ofInt 1) mt_161 rfl rfl ?_
          refine v_go mt_161 rfl rfl ?_
          refine j_retb mt_161 rfl rfl (by decide) ?_
          refine j_if1 mt_229 rfl rfl ⟨by decide, by decide⟩ (fun _ => ?_) (fun c => (c (show ¬ (1 : Int) = 0 by decide)).elim)
          refine v_s mt_229 rfl rfl rfl ?_
          refine j_if1 mt_229 rfl rfl z3 (fun c => ?_) (fun c => ?_)
          · replace h := h.1 c
            refine v_s mt_229 rfl rfl rfl ?_
            refine v_gr (w := 561) 45 mt_229 rfl rfl c_542 (by decide) (g_12_45 c_542) ?_
            refine v_s mt_229 rfl rfl rfl ?_
            refine v_ic (v := Int32.ofInt 1) mt_229 rfl rfl ?_
            refine j_if2 mt_229 rfl rfl z3 ⟨by decide, by decide⟩ (fun c => ?_) (fun c => ?_)
            · replace h := h.1 c
              refine v_bp (v := Int32.ofInt 24) mt_229 rfl rfl ?_
              refine v_s mt_229 rfl rfl rfl ?_
              refine j_add (e := 24 + x1) mt_229 rfl rfl ?_
              obtain ⟨z4, h⟩ := h
              refine j_al (w := J 561 ((24 + x1).toNat)) mt_229 rfl c_561 z4 (by decide) ((up_na (by decide)).trans rfl) ?_
              exact v_ret mt_229 rfl rfl rfl h
            · replace h := h.2 (Decidable.not_not.mp c)
              refine v_bp (v := Int32.ofInt 18) mt_229 rfl rfl ?_
              refine v_go mt_229 rfl rfl ?_
              refine v_s mt_229 rfl rfl rfl ?_
              refine j_add (e := 18 + x1) mt_229 rfl rfl ?_
              obtain ⟨z5, h⟩ := h
              refine j_al (w := J 561 ((18 + x1).toNat)) mt_229 rfl c_561 z5 (by decide) ((up_na (by decide)).trans rfl) ?_
              exact v_ret mt_229 rfl rfl rfl h
          · replace h := h.2 (Decidable.not_not.mp c)
            refine v_s mt_229 rfl rfl rfl ?_
            refine v_gr (w := 550) 15 mt_229 rfl rfl c_542 (by decide) (g_12_15 c_542) ?_
            refine v_s mt_229 rfl rfl rfl ?_
            obtain ⟨z6, h⟩ := h
            refine j_al (w := J 550 x1.toNat) mt_229 rfl c_550 z6 (by decide) ((up_na (by decide)).trans rfl) ?_
            refine v_go mt_229 rfl rfl ?_
            exact v_ret mt_229 rfl rfl rfl h
set_option maxHeartbeats 600000 in
theorem b_230_0 {X : Nat × (Nat → Int32)} {d : Nat} {J : Nat → Nat → Int} {sw : Bool × Bool × Bool} {lg : Nat → Nat → Int64} {x : Nat} {K : (Option Value ⊕ Nat) → mM → Prop} {x1 x2 : Int} (hd : 2 ≤ d)
    (h : InR x1 ∧ (x1 < 0 → K (.inl (some (iv 0))) (mj (m_up (m_up (m_up J 542 0 0) 542 0 1) 543 0 ((J 543 0) + 1)) sw lg x)) ∧ (0 ≤ x1 → (InR ((J 542 26) - 1) ∧ ((J 542 26) - 1 < x1 → K (.inl (some (iv 0))) (mj (m_up (m_up (m_up J 542 0 0) 542 0 1) 543 0 ((J 543 0) + 1)) sw lg x)) ∧ (x1 ≤ (J 542 26) - 1 → (InR x2 ∧ (x2 < 0 → K (.inl (some (iv 0))) (mj (m_up (m_up (m_up J 542 0 0) 542 0 2) 543 1 ((J 543 1) + 1)) sw lg x)) ∧ (0 ≤ x2 → ((4 < x2 → K (.inl (some (iv 0))) (mj (m_up (m_up (m_up J 542 0 0) 542 0 2) 543 1 ((J 543 1) + 1)) sw lg x)) ∧ (x2 ≤ 4 → (∃ (J1 : Nat → Nat → Int), EE X 1 204 [.ref 542] (mj (m_up J 542 0 0) sw lg x) (.inl none) (mj J1 sw lg x) ∧ (¬ x2 = 0 → ((¬ x2 = 1 → ((¬ x2 = 2 → ((¬ x2 = 3 → (∃ (c3 : Int) (J2 : Nat → Nat → Int), EE X 0 222 [.ref 542, iv x1] (mj J1 sw lg x) (.inl (some (iv c3))) (mj J2 sw lg x) ∧ K (.inl (some (iv c3))) (mj J2 sw lg x))) ∧ (x2 = 3 → (∃ (c5 : Int) (J4 : Nat → Nat → Int), EE X 0 205 [.ref 542, iv x1] (mj J1 sw lg x) (.inl (some (iv c5))) (mj J4 sw lg x) ∧ K (.inl (some (iv c5))) (mj J4 sw lg x))))) ∧ (x2 = 2 → ((0 ≤ x1 ∧ x1 < 9) ∧ K (.inl (some (iv (J1 551 x1.toNat)))) (mj J1 sw lg x))))) ∧ (x2 = 1 → ((0 ≤ 39 + x1 ∧ 39 + x1 < 50) ∧ K (.inl (some (iv (J1 562 ((39 + x1).toNat))))) (mj J1 sw lg x))))) ∧ (x2 = 0 → ((0 ≤ 30 + x1 ∧ 30 + x1 < 50) ∧ K (.inl (some (iv (J1 562 ((30 + x1).toNat))))) (mj J1 sw lg x)))))))))))) : VV X d 230 (0, [some (.ref 542), some (iv x1), some (iv x2)], [], mj J sw lg x) K := by
  refine v_s mt_230 rfl rfl rfl ?_
  refine v_ic (v := Int32.ofInt 0) mt_230 rfl rfl ?_
  refine j_pi 0 mt_230 rfl rfl c_542 (by decide) ?_
  refine v_s mt_230 rfl rfl rfl ?_
  refine v_s mt_230 rfl rfl rfl ?_
  refine v_ic (v := Int32.ofInt 1) mt_230 rfl rfl ?_
  refine v_inl (L1 := [some (.ref 542), some (iv x1), some (iv 1)]) mt_230 rfl rfl mt_227 rfl rfl (m_callj (As := [iv x1, iv 1]) (rest := []) rfl rfl c_542 rfl (Nat.le_of_ble_eq_true rfl) (Nat.le_of_ble_eq_true rfl)) rfl (by clear h; omega) ?_
  refine v_s mt_227 rfl rfl rfl ?_
  refine v_s mt_227 rfl rfl rfl ?_
  refine v_ic (v := Int32.ofInt 0) mt_227 rfl rfl ?_
  refine v_s mt_227 rfl rfl rfl ?_
  refine j_gi (w := J 542 26) 26 mt_227 rfl rfl c_542 (by decide) ((up_nk (by decide)).trans rfl) ?_
  refine v_ic (v := Int32.ofInt 1) mt_227 rfl rfl ?_
  refine j_sub (e := (J 542 26) - 1) mt_227 rfl rfl ?_
  refine v_inl (L1 := [some (iv x1), some (iv 0), some (iv ((J 542 26) - 1))]) mt_227 rfl rfl mt_162 rfl rfl rfl rfl (by clear h; omega) ?_
  refine v_s mt_162 rfl rfl rfl ?_
  refine v_s mt_162 rfl rfl rfl ?_
  obtain ⟨z1, h⟩ := h
  refine j_if2 mt_162 rfl rfl z1 ⟨by decide, by decide⟩ (fun c => ?_) (fun c => ?_)
  · replace h := h.1 c
    refine v_ic (v := Int32.ofInt 0) mt_162 rfl rfl ?_
    refine j_retb mt_162 rfl rfl (by decide) ?_
    refine v_s mt_227 rfl rfl rfl ?_
    refine v_ic (v := Int32.ofInt 0) mt_227 rfl rfl ?_
    refine v_inl (L1 := [some (.ref 542), some (iv 0), some (iv 1), some (iv 0)]) mt_227 rfl rfl mt_161 rfl rfl (m_callj (As := [iv 0, iv 1, iv 0]) (rest := []) rfl rfl c_542 rfl (Nat.le_of_ble_eq_true rfl) (Nat.le_of_ble_eq_true rfl)) rfl (by clear h; omega) ?_
    refine v_s mt_161 rfl rfl rfl ?_
    refine j_if1 mt_161 rfl rfl ⟨by decide, by decide⟩ (fun c => absurd (show ¬ (0 : Int) = 0 from c) (by decide)) (fun _ => ?_)
    refine v_s mt_161 rfl rfl rfl ?_
    refine j_gi (w := 0) 0 mt_161 rfl rfl c_542 (by decide) (up_eq _ _ _ _) ?_
    refine j_if1 mt_161 rfl rfl ⟨by decide, by decide⟩ (fun c => absurd (show ¬ (0 : Int) = 0 from c) (by decide)) (fun _ => ?_)
    refine v_s mt_161 rfl rfl rfl ?_
    refine v_s mt_161 rfl rfl rfl ?_
    refine j_pi 0 mt_161 rfl rfl c_542 (by decide) ?_
    refine v_s mt_161 rfl rfl rfl ?_
    refine v_gr (w := 543) 1 mt_161 rfl rfl c_542 (by decide) (g_12_1 c_542) ?_
    refine v_s mt_161 rfl rfl rfl ?_
    refine v_s mt_161 rfl rfl rfl ?_
    refine j_al (w := J 543 0) mt_161 rfl c_543 ⟨by decide, by decide⟩ (by decide) ((up_na (by decide)).trans ((up_na (by decide)).trans rfl)) ?_
    refine v_ic (v := Int32.ofInt 1) mt_161 rfl rfl ?_
    refine j_add (e := (J 543 0) + 1) mt_161 rfl rfl ?_
    refine j_as mt_161 rfl c_543 ⟨by decide, by decide⟩ (by decide) ?_
    refine v_s mt_161 rfl rfl rfl ?_
    refine j_gi (w := 1) 0 mt_161 rfl rfl c_542 (by decide) ((up_na (by decide)).trans (up_eq _ _ _ _)) ?_
    refine j_if1 mt_161 rfl rfl ⟨by decide, by decide⟩ (fun _ => ?_) (fun c => (c (show ¬ (1 : Int) = 0 by decide)).elim)
    refine v_ic (v := Int32.ofInt 0) mt_161 rfl rfl ?_
    refine j_retb mt_161 rfl rfl (by decide) ?_
    refine j_retb mt_227 rfl rfl (by decide) ?_
    refine j_if1 mt_230 rfl rfl ⟨by decide, by decide⟩ (fun _ => ?_) (fun c => (c (show (0 : Int) = 0 by decide)).elim)
    refine v_ic (v := Int32.ofInt 0) mt_230 rfl rfl ?_
    exact v_ret mt_230 rfl rfl rfl h
  · replace h := h.2 (Int.not_lt.mp c)
    refine v_s mt_162 rfl rfl rfl ?_
    refine v_s mt_162 rfl rfl rfl ?_
    obtain ⟨z2, h⟩ := h
    refine j_if2 mt_162 rfl rfl z1 z2 (fun c => ?_) (fun c => ?_)
    · replace h := h.1 c
      refine v_ic (v := Int32.ofInt 0) mt_162 rfl rfl ?_
      refine j_retb mt_162 rfl rfl (by decide) ?_
      refine v_s mt_227 rfl rfl rfl ?_
      refine v_ic (v := Int32.ofInt 0) mt_227 rfl rfl ?_
      refine v_inl (L1 := [some (.ref 542), some (iv 0), some (iv 1), some (iv 0)]) mt_227 rfl rfl mt_161 rfl rfl (m_callj (As := [iv 0, iv 1, iv 0]) (rest := []) rfl rfl c_542 rfl (Nat.le_of_ble_eq_true rfl) (Nat.le_of_ble_eq_true rfl)) rfl (by clear h; omega) ?_
      refine v_s mt_161 rfl rfl rfl ?_
      refine j_if1 mt_161 rfl rfl ⟨by decide, by decide⟩ (fun c => absurd (show ¬ (0 : Int) = 0 from c) (by decide)) (fun _ => ?_)
      refine v_s mt_161 rfl rfl rfl ?_
      refine j_gi (w := 0) 0 mt_161 rfl rfl c_542 (by decide) (up_eq _ _ _ _) ?_
      refine j_if1 mt_161 rfl rfl ⟨by decide, by decide⟩ (fun c => absurd (show ¬ (0 : Int) = 0 from c) (by decide)) (fun _ => ?_)
      refine v_s mt_161 rfl rfl rfl ?_
      refine v_s mt_161 rfl rfl rfl ?_
      refine j_pi 0 mt_161 rfl rfl c_542 (by decide) ?_
      refine v_s mt_161 rfl rfl rfl ?_
      refine v_gr (w := 543) 1 mt_161 rfl rfl c_542 (by decide) (g_12_1 c_542) ?_
      refine v_s mt_161 rfl rfl rfl ?_
      refine v_s mt_161 rfl rfl rfl ?_
      refine j_al (w := J 543 0) mt_161 rfl c_543 ⟨by decide, by decide⟩ (by decide) ((up_na (by decide)).trans ((up_na (by decide)).trans rfl)) ?_
      refine v_ic (v := Int32.ofInt 1) mt_161 rfl rfl ?_
      refine j_add (e := (J 543 0) + 1) mt_161 rfl rfl ?_
      refine j_as mt_161 rfl c_543 ⟨by decide, by decide⟩ (by decide) ?_
      refine v_s mt_161 rfl rfl rfl ?_
      refine j_gi (w := 1) 0 mt_161 rfl rfl c_542 (by decide) ((up_na (by decide)).trans (up_eq _ _ _ _)) ?_
      refine j_if1 mt_161 rfl rfl ⟨by decide, by decide⟩ (fun _ => ?_) (fun c => (c (show ¬ (1 : Int) = 0 by decide)).elim)
      refine v_ic (v := Int32.ofInt 0) mt_161 rfl rfl ?_
      refine j_retb mt_161 rfl rfl (by decide) ?_
      refine j_retb mt_227 rfl rfl (by decide) ?_
      refine j_if1 mt_230 rfl rfl ⟨by decide, by decide⟩ (fun _ => ?_) (fun c => (c (show (0 : Int) = 0 by decide)).elim)
      refine v_ic (v := Int32.ofInt 0) mt_230 rfl rfl ?_
      exact v_ret mt_230 rfl rfl rfl h
    · replace h := h.2 (Int.not_lt.mp c)
      refine v_ic (v := Int32.ofInt 1) mt_162 rfl rfl ?_
      refine v_go mt_162 rfl rfl ?_
      refine j_retb mt_162 rfl rfl (by decide) ?_
      refine v_s mt_227 rfl rfl rfl ?_
      refine v_ic (v := Int32.ofInt 0) mt_227 rfl rfl ?_
      refine v_inl (L1 := [some (.ref 542), some (iv 1), some (iv 1), some (iv 0)]) mt_227 rfl rfl mt_161 rfl rfl (m_callj (As := [iv 1, iv 1, iv 0]) (rest := []) rfl rfl c_542 rfl (Nat.le_of_ble_eq_true rfl) (Nat.le_of_ble_eq_true rfl)) rfl (by clear h; omega) ?_
      refine v_s mt_161 rfl rfl rfl ?_
      refine j_if1 mt_161 rfl rfl ⟨by decide, by decide⟩ (fun _ => ?_) (fun c => (c (show ¬ (1 : Int) = 0 by decide)).elim)
      refine v_s mt_161 rfl rfl rfl ?_
      refine j_gi (w := 0) 0 mt_161 rfl rfl c_542 (by decide) (up_eq _ _ _ _) ?_
      refine j_if1 mt_161 rfl rfl ⟨by decide, by decide⟩ (fun c => absurd (show ¬ (0 : Int) = 0 from c) (by decide)) (fun _ => ?_)
      refine v_ic (v := Int32.ofInt 1) mt_161 rfl rfl ?_
      refine v_go mt_161 rfl rfl ?_
      refine j_retb mt_161 rfl rfl (by decide) ?_
      refine j_retb mt_227 rfl rfl (by decide) ?_
      refine j_if1 mt_230 rfl rfl ⟨by decide, by decide⟩ (fun c => absurd (show (1 : Int) = 0 from c) (by decide)) (fun _ => ?_)
      refine v_s mt_230 rfl rfl rfl ?_
      refine v_s mt_230 rfl rfl rfl ?_
      refine v_ic (v := Int32.ofInt 0) mt_230 rfl rfl ?_
      refine v_ic (v := Int32.ofInt 4) mt_230 rfl rfl ?_
      refine v_inl (L1 := [some (iv x2), some (iv 0), some (iv 4)]) mt_230 rfl rfl mt_162 rfl rfl rfl rfl (by clear h; omega) ?_
      refine v_s mt_162 rfl rfl rfl ?_
      refine v_s mt_162 rfl rfl rfl ?_
      obtain ⟨z3, h⟩ := h
      refine j_if2 mt_162 rfl rfl z3 ⟨by decide, by decide⟩ (fun c => ?_) (fun c => ?_)
      · replace h := h.1 c
        refine v_ic (v := Int32.ofInt 0) mt_162 rfl rfl ?_
        refine j_retb mt_162 rfl rfl (by decide) ?_
        refine v_ic (v := Int32.ofInt 2) mt_230 rfl rfl ?_
        refine v_ic (v := Int32.ofInt 1) mt_230 rfl rfl ?_
        refine v_inl (L1 := [some (.ref 542), some (iv 0), some (iv 2), some (iv 1)]) mt_230 rfl rfl mt_161 rfl rfl (m_callj (As := [iv 0, iv 2, iv 1]) (rest := []) rfl rfl c_542 rfl (Nat.le_of_ble_eq_true rfl) (Nat.le_of_ble_eq_true rfl)) rfl (by clear h; omega) ?_
        refine v_s mt_161 rfl rfl rfl ?_
        refine j_if1 mt_161 rfl rfl ⟨by decide, by decide⟩ (fun c => absurd (show ¬ (0 : Int) = 0 from c) (by decide)) (fun _ => ?_)
        refine v_s mt_161 rfl rfl rfl ?_
        refine j_gi (w := 0) 0 mt_161 rfl rfl c_542 (by decide) (up_eq _ _ _ _) ?_
        refine j_if1 mt_161 rfl rfl ⟨by decide, by decide⟩ (fun c => absurd (show ¬ (0 : Int) = 0 from c) (by decide)) (fun _ => ?_)
        refine v_s mt_161 rfl rfl rfl ?_
        refine v_s mt_161 rfl rfl rfl ?_
        refine j_pi 0 mt_161 rfl rfl c_542 (by decide) ?_
        refine v_s mt_161 rfl rfl rfl ?_
        refine v_gr (w := 543) 1 mt_161 rfl rfl c_542 (by decide) (g_12_1 c_542) ?_
        refine v_s mt_161 rfl rfl rfl ?_
        refine v_s mt_161 rfl rfl rfl ?_
        refine j_al (w := J 543 1) mt_161 rfl c_543 ⟨by decide, by decide⟩ (by decide) ((up_na (by decide)).trans ((up_na (by decide)).trans rfl)) ?_
        refine v_ic (v := Int32.ofInt 1) mt_161 rfl rfl ?_
        refine j_add (e := (J 543 1) + 1) mt_161 rfl rfl ?_
        refine j_as mt_161 rfl c_543 ⟨by decide, by decide⟩ (by decide) ?_
        refine v_s mt_161 rfl rfl rfl ?_
        refine j_gi (w := 2) 0 mt_161 rfl rfl c_542 (by decide) ((up_na (by decide)).trans (up_eq _ _ _ _)) ?_
        refine j_if1 mt_161 rfl rfl ⟨by decide, by decide⟩ (fun _ => ?_) (fun c => (c (show ¬ (2 : Int) = 0 by decide)).elim)
        refine v_ic (v := Int32.ofInt 0) mt_161 rfl rfl ?_
        refine j_retb mt_161 rfl rfl (by decide) ?_
        refine j_if1 mt_230 rfl rfl ⟨by decide, by decide⟩ (fun c => absurd (show ¬ (0 : Int) = 0 from c) (by decide)) (fun _ => ?_)
        refine v_ic (v := Int32.ofInt 0) mt_230 rfl rfl ?_
        exact v_ret mt_230 rfl rfl rfl h
      · replace h := h.2 (Int.not_lt.mp c)
        refine v_s mt_162 rfl rfl rfl ?_
        refine v_s mt_162 rfl rfl rfl ?_
        refine j_if2 mt_162 rfl rfl z3 ⟨by decide, by decide⟩ (fun c => ?_) (fun c => ?_)
        · replace h := h.1 c
          refine v_ic (v := Int32.ofInt 0) mt_162 rfl rfl ?_
          refine j_retb mt_162 rfl rfl (by decide) ?_
          refine v_ic (v := Int32.ofInt 2) mt_230 rfl rfl ?_
          refine v_ic (v := Int32.ofInt 1) mt_230 rfl rfl ?_
          refine v_inl (L1 := [some (.ref 542), some (iv 0), some (iv 2), some (iv 1)]) mt_230 rfl rfl mt_161 rfl rfl (m_callj (As := [iv 0, iv 2, iv 1]) (rest := []) rfl rfl c_542 rfl (Nat.le_of_ble_eq_true rfl) (Nat.le_of_ble_eq_true rfl)) rfl (by clear h; omega) ?_
          refine v_s mt_161 rfl rfl rfl ?_
          refine j_if1 mt_161 rfl rfl ⟨by decide, by decide⟩ (fun c => absurd (show ¬ (0 : Int) = 0 from c) (by decide)) (fun _ => ?_)
          refine v_s mt_161 rfl rfl rfl ?_
          refine j_gi (w := 0) 0 mt_161 rfl rfl c_542 (by decide) (up_eq _ _ _ _) ?_
          refine j_if1 mt_161 rfl rfl ⟨by decide, by decide⟩ (fun c => absurd (show ¬ (0 : Int) = 0 from c) (by decide)) (fun _ => ?_)
          refine v_s mt_161 rfl rfl rfl ?_
          refine v_s mt_161 rfl rfl rfl ?_
          refine j_pi 0 mt_161 rfl rfl c_542 (by decide) ?_
          refine v_s mt_161 rfl rfl rfl ?_
          refine v_gr (w := 543) 1 mt_161 rfl rfl c_542 (by decide) (g_12_1 c_542) ?_
          refine v_s mt_161 rfl rfl rfl ?_
          refine v_s mt_161 rfl rfl rfl ?_
          refine j_al (w := J 543 1) mt_161 rfl c_543 ⟨by decide, by decide⟩ (by decide) ((up_na (by decide)).trans ((up_na (by decide)).trans rfl)) ?_
          refine v_ic (v := Int32.ofInt 1) mt_161 rfl rfl ?_
          refine j_add (e := (J 543 1) + 1) mt_161 rfl rfl ?_
          refine j_as mt_161 rfl c_543 ⟨by decide, by decide⟩ (by decide) ?_
          refine v_s mt_161 rfl rfl rfl ?_
          refine j_gi (w := 2) 0 mt_161 rfl rfl c_542 (by decide) ((up_na (by decide)).trans (up_eq _ _ _ _)) ?_
          refine j_if1 mt_161 rfl rfl ⟨by decide, by decide⟩ (fun _ => ?_) (fun c => (c (show ¬ (2 : Int) = 0 by decide)).elim)
          refine v_ic (v := Int32.ofInt 0) mt_161 rfl rfl ?_
          refine j_retb mt_161 rfl rfl (by decide) ?_
          refine j_if1 mt_230 rfl rfl ⟨by decide, by decide⟩ (fun c => absurd (show ¬ (0 : Int) = 0 from c) (by decide)) (fun _ => ?_)
          refine v_ic (v := Int32.ofInt 0) mt_230 rfl rfl ?_
          exact v_ret mt_230 rfl rfl rfl h
        · replace h := h.2 (Int.not_lt.mp c)
          refine v_ic (v := Int32.ofInt 1) mt_162 rfl rfl ?_
          refine v_go mt_162 rfl rfl ?_
          refine j_retb mt_162 rfl rfl (by decide) ?_
          refine v_ic (v := Int32.ofInt 2) mt_230 rfl rfl ?_
          refine v_ic (v := Int32.ofInt 1) mt_230 rfl rfl ?_
          refine v_inl (L1 := [some (.ref 542), some (iv 1), some (iv 2), some (iv 1)]) mt_230 rfl rfl mt_161 rfl rfl (m_callj (As := [iv 1, iv 2, iv 1]) (rest := []) rfl rfl c_542 rfl (Nat.le_of_ble_eq_true rfl) (Nat.le_of_ble_eq_true rfl)) rfl (by clear h; omega) ?_
          refine v_s mt_161 rfl rfl rfl ?_
          refine j_if1 mt_161 rfl rfl ⟨by decide, by decide⟩ (fun _ => ?_) (fun c => (c (show ¬ (1 : Int) = 0 by decide)).elim)
          refine v_s mt_161 rfl rfl rfl ?_
          refine j_gi (w := 0) 0 mt_161 rfl rfl c_542 (by decide) (up_eq _ _ _ _) ?_
          refine j_if1 mt_161 rfl rfl ⟨by decide, by decide⟩ (fun c => absurd (show ¬ (0 : Int) = 0 from c) (by decide)) (fun _ => ?_)
          refine v_ic (v := Int32.ofInt 1) mt_161 rfl rfl ?_
          refine v_go mt_161 rfl rfl ?_
          refine j_retb mt_161 rfl rfl (by decide) ?_
          refine j_if1 mt_230 rfl rfl ⟨by decide, by decide⟩ (fun _ => ?_) (fun c => (c (show ¬ (1 : Int) = 0 by decide)).elim)
          refine v_s mt_230 rfl rfl rfl ?_
          obtain ⟨J1, z4, h⟩ := h
          refine v_call (d1 := 1) mt_230 rfl rfl mt_204 rfl rfl (m_callj (As := []) (rest := []) rfl rfl c_542 rfl (Nat.le_of_ble_eq_true rfl) (Nat.le_of_ble_eq_true rfl)) z4 (by clear h; omega) ?_
          refine v_s mt_230 rfl rfl rfl ?_
          refine j_if1 mt_230 rfl rfl z3 (fun c => ?_) (fun c => ?_)
          · replace h := h.1 c
            refine v_s mt_230 rfl rfl rfl ?_
            refine v_ic (v := Int32.ofInt 1) mt_230 rfl rfl ?_
            refine j_if2 mt_230 rfl rfl z3 ⟨by decide, by decide⟩ (fun c => ?_) (fun c => ?_)
            · replace h := h.1 c
              refine v_s mt_230 rfl rfl rfl ?_
              refine v_ic (v := Int32.ofInt 2) mt_230 rfl rfl ?_
              refine j_if2 mt_230 rfl rfl z3 ⟨by decide, by decide⟩ (fun c => ?_) (fun c => ?_)
              · replace h := h.1 c
                refine v_s mt_230 rfl rfl rfl ?_
                refine v_ic (v := Int32.ofInt 3) mt_230 rfl rfl ?_
                refine j_if2 mt_230 rfl rfl z3 ⟨by decide, by decide⟩ (fun c => ?_) (fun c => ?_)
                · replace h := h.1 c
                  refine v_s mt_230 rfl rfl rfl ?_
                  refine v_s mt_230 rfl rfl rfl ?_
                  obtain ⟨c3, J2, z5, h⟩ := h
                  refine v_call (d1 := 0) mt_230 rfl rfl mt_222 rfl rfl (m_callj (As := [iv x1]) (rest := []) rfl rfl c_542 rfl (Nat.le_of_ble_eq_true rfl) (Nat.le_of_ble_eq_true rfl)) z5 (by clear h; omega) ?_
                  exact v_ret mt_230 rfl rfl rfl h
                · replace h := h.2 (Decidable.not_not.mp c)
                  refine v_s mt_230 rfl rfl rfl ?_
                  refine v_s mt_230 rfl rfl rfl ?_
                  obtain ⟨c5, J4, z6, h⟩ := h
                  refine v_call (d1 := 0) mt_230 rfl rfl mt_205 rfl rfl (m_callj (As := [iv x1]) (rest := []) rfl rfl c_542 rfl (Nat.le_of_ble_eq_true rfl) (Nat.le_of_ble_eq_true rfl)) z6 (by clear h; omega) ?_
                  refine v_go mt_230 rfl rfl ?_
                  exact v_ret mt_230 rfl rfl rfl h
              · replace h := h.2 (Decidable.not_not.mp c)
                refine v_s mt_230 rfl rfl rfl ?_
                refine v_gr (w := 551) 16 mt_230 rfl rfl c_542 (by decide) (g_12_16 c_542) ?_
                refine v_s mt_230 rfl rfl rfl ?_
                obtain ⟨z7, h⟩ := h
                refine j_al (w := J1 551 x1.toNat) mt_230 rfl c_551 z7 (by decide) rfl ?_
                refine v_go mt_230 rfl rfl ?_
                exact v_ret mt_230 rfl rfl rfl h
            · replace h := h.2 (Decidable.not_not.mp c)
              refine v_s mt_230 rfl rfl rfl ?_
              refine v_gr (w := 562) 46 mt_230 rfl rfl c_542 (by decide) (g_12_46 c_542) ?_
              refine v_bp (v := Int32.ofInt 39) mt_230 rfl rfl ?_
              refine v_s mt_230 rfl rfl rfl ?_
              refine j_add (e := 39 + x1) mt_230 rfl rfl ?_
              obtain ⟨z8, h⟩ := h
              refine j_al (w := J1 562 ((39 + x1).toNat)) mt_230 rfl c_562 z8 (by decide) rfl ?_
              refine v_go mt_230 rfl rfl ?_
              exact v_ret mt_230 rfl rfl rfl h
          · replace h := h.2 (Decidable.not_not.mp c)
            refine v_s mt_230 rfl rfl rfl ?_
            refine v_gr (w := 562) 46 mt_230 rfl rfl c_542 (by decide) (g_12_46 c_542) ?_
            refine v_bp (v := Int32.ofInt 30) mt_230 rfl rfl ?_
            refine v_s mt_230 rfl rfl rfl ?_
            refine j_add (e := 30 + x1) mt_230 rfl rfl ?_
            obtain ⟨z9, h⟩ := h
            refine j_al (w := J1 562 ((30 + x1).toNat)) mt_230 rfl c_562 z9 (by decide) rfl ?_
            refine v_go mt_230 rfl rfl ?_
            exact v_ret mt_230 rfl rfl rfl h
set_option maxHeartbeats 600000 in
theorem b_231_0 {X : Nat × (Nat → Int32)} {d : Nat} {J : Nat → Nat → Int} {sw : Bool × Bool × Bool} {lg : Nat → Nat → Int64} {x : Nat} {K : (Option Value ⊕ Nat) → mM → Prop} {x1 x2 : Int} (hd : 1 ≤ d)
    (h : InR x1 ∧ (x1 < 0 → K (.inl (some (iv 0))) (mj (m_up (m_up (m_up J 542 0 0) 542 0 1) 543 0 ((J 543 0) + 1)) sw lg x)) ∧ (0 ≤ x1 → (InR ((J 542 27) - 1) ∧ ((J 542 27) - 1 < x1 → K (.inl (some (iv 0))) (mj (m_up (m_up (m_up J 542 0 0) 542 0 1) 543 0 ((J 543 0) + 1)) sw lg x)) ∧ (x1 ≤ (J 542 27) - 1 → (InR x2 ∧ (x2 < 0 → K (.inl (some (iv 0))) (mj (m_up (m_up (m_up J 542 0 0) 542 0 2) 543 1 ((J 543 1) + 1)) sw lg x)) ∧ (0 ≤ x2 → ((1 < x2 → K (.inl (some (iv 0))) (mj (m_up (m_up (m_up J 542 0 0) 542 0 2) 543 1 ((J 543 1) + 1)) sw lg x)) ∧ (x2 ≤ 1 → ((0 ≤ (2 * x1) + x2 ∧ (2 * x1) + x2 < 28) ∧ K (.inl (some (iv (J 552 (((2 * x1) + x2).toNat))))) (mj (m_up J 542 0 0) sw lg x)))))))))) : VV X d 231 (0, [some (.ref 542), some (iv x1), some (iv x2)], [], mj J sw lg x) K := by
  refine v_s mt_231 rfl rfl rfl ?_
  refine v_ic (v := Int32.ofInt 0) mt_231 rfl rfl ?_
  refine j_pi 0 mt_231 rfl rfl c_542 (by decide) ?_
  refine v_s mt_231 rfl rfl rfl ?_
  refine v_s mt_231 rfl rfl rfl ?_
  refine v_ic (v := Int32.ofInt 0) mt_231 rfl rfl ?_
  refine v_s mt_231 rfl rfl rfl ?_
  refine j_gi (w := J 542 27) 27 mt_231 rfl rfl c_542 (by decide) ((up_nk (by decide)).trans rfl) ?_
  refine v_ic (v := Int32.ofInt 1) mt_231 rfl rfl ?_
  refine j_sub (e := (J 542 27) - 1) mt_231 rfl rfl ?_
  refine v_inl (L1 := [some (iv x1), some (iv 0), some (iv ((J 542 27) - 1))]) mt_231 rfl rfl mt_162 rfl rfl rfl rfl (by clear h; omega) ?_
  refine v_s mt_162 rfl rfl rfl ?_
  refine v_s mt_162 rfl rfl rfl ?_
  obtain ⟨z1, h⟩ := h
  refine j_if2 mt_162 rfl rfl z1 ⟨by decide, by decide⟩ (fun c => ?_) (fun c => ?_)
  · replace h := h.1 c
    refine v_ic (v := Int32.ofInt 0) mt_162 rfl rfl ?_
    refine j_retb mt_162 rfl rfl (by decide) ?_
    refine v_ic (v := Int32.ofInt 1) mt_231 rfl rfl ?_
    refine v_ic (v := Int32.ofInt 0) mt_231 rfl rfl ?_
    refine v_inl (L1 := [some (.ref 542), some (iv 0), some (iv 1), some (iv 0)]) mt_231 rfl rfl mt_161 rfl rfl (m_callj (As := [iv 0, iv 1, iv 0]) (rest := []) rfl rfl c_542 rfl (Nat.le_of_ble_eq_true rfl) (Nat.le_of_ble_eq_true rfl)) rfl (by clear h; omega) ?_
    refine v_s mt_161 rfl rfl rfl ?_
    refine j_if1 mt_161 rfl rfl ⟨by decide, by decide⟩ (fun c => absurd (show ¬ (0 : Int) = 0 from c) (by decide)) (fun _ => ?_)
    refine v_s mt_161 rfl rfl rfl ?_
    refine j_gi (w := 0) 0 mt_161 rfl rfl c_542 (by decide) (up_eq _ _ _ _) ?_
    refine j_if1 mt_161 rfl rfl ⟨by decide, by decide⟩ (fun c => absurd (show ¬ (0 : Int) = 0 from c) (by decide)) (fun _ => ?_)
    refine v_s mt_161 rfl rfl rfl ?_
    refine v_s mt_161 rfl rfl rfl ?_
    refine j_pi 0 mt_161 rfl rfl c_542 (by decide) ?_
    refine v_s mt_161 rfl rfl rfl ?_
    refine v_gr (w := 543) 1 mt_161 rfl rfl c_542 (by decide) (g_12_1 c_542) ?_
    refine v_s mt_161 rfl rfl rfl ?_
    refine v_s mt_161 rfl rfl rfl ?_
    refine j_al (w := J 543 0) mt_161 rfl c_543 ⟨by decide, by decide⟩ (by decide) ((up_na (by decide)).trans ((up_na (by decide)).trans rfl)) ?_
    refine v_ic (v := Int32.ofInt 1) mt_161 rfl rfl ?_
    refine j_add (e := (J 543 0) + 1) mt_161 rfl rfl ?_
    refine j_as mt_161 rfl c_543 ⟨by decide, by decide⟩ (by decide) ?_
    refine v_s mt_161 rfl rfl rfl ?_
    refine j_gi (w := 1) 0 mt_161 rfl rfl c_542 (by decide) ((up_na (by decide)).trans (up_eq _ _ _ _)) ?_
    refine j_if1 mt_161 rfl rfl ⟨by decide, by decide⟩ (fun _ => ?_) (fun c => (c (show ¬ (1 : Int) = 0 by decide)).elim)
    refine v_ic (v := Int32.ofInt 0) mt_161 rfl rfl ?_
    refine j_retb mt_161 rfl rfl (by decide) ?_
    refine j_if1 mt_231 rfl rfl ⟨by decide, by decide⟩ (fun _ => ?_) (fun c => (c (show (0 : Int) = 0 by decide)).elim)
    refine v_ic (v := Int32.ofInt 0) mt_231 rfl rfl ?_
    exact v_ret mt_231 rfl rfl rfl h
  · replace h := h.2 (Int.not_lt.mp c)
    refine v_s mt_162 rfl rfl rfl ?_
    refine v_s mt_162 rfl rfl rfl ?_
    obtain ⟨z2, h⟩ := h
    refine j_if2 mt_162 rfl rfl z1 z2 (fun c => ?_) (fun c => ?_)
    · replace h := h.1 c
      refine v_ic (v := Int32.ofInt 0) mt_162 rfl rfl ?_
      refine j_retb mt_162 rfl rfl (by decide) ?_
      refine v_ic (v := Int32.ofInt 1) mt_231 rfl rfl ?_
      refine v_ic (v := Int32.ofInt 0) mt_231 rfl rfl ?_
      refine v_inl (L1 := [some (.ref 542), some (iv 0), some (iv 1), some (iv 0)]) mt_231 rfl rfl mt_161 rfl rfl (m_callj (As := [iv 0, iv 1, iv 0]) (rest := []) rfl rfl c_542 rfl (Nat.le_of_ble_eq_true rfl) (Nat.le_of_ble_eq_true rfl)) rfl (by clear h; omega) ?_
      refine v_s mt_161 rfl rfl rfl ?_
      refine j_if1 mt_161 rfl rfl ⟨by decide, by decide⟩ (fun c => absurd (show ¬ (0 : Int) = 0 from c) (by decide)) (fun _ => ?_)
      refine v_s mt_161 rfl rfl rfl ?_
      refine j_gi (w := 0) 0 mt_161 rfl rfl c_542 (by decide) (up_eq _ _ _ _) ?_
      refine j_if1 mt_161 rfl rfl ⟨by decide, by decide⟩ (fun c => absurd (show ¬ (0 : Int) = 0 from c) (by decide)) (fun _ => ?_)
      refine v_s mt_161 rfl rfl rfl ?_
      refine v_s mt_161 rfl rfl rfl ?_
      refine j_pi 0 mt_161 rfl rfl c_542 (by decide) ?_
      refine v_s mt_161 rfl rfl rfl ?_
      refine v_gr (w := 543) 1 mt_161 rfl rfl c_542 (by decide) (g_12_1 c_542) ?_
      refine v_s mt_161 rfl rfl rfl ?_
      refine v_s mt_161 rfl rfl rfl ?_
      refine j_al (w := J 543 0) mt_161 rfl c_543 ⟨by decide, by decide⟩ (by decide) ((up_na (by decide)).trans ((up_na (by decide)).trans rfl)) ?_
      refine v_ic (v := Int32.ofInt 1) mt_161 rfl rfl ?_
      refine j_add (e := (J 543 0) + 1) mt_161 rfl rfl ?_
      refine j_as mt_161 rfl c_543 ⟨by decide, by decide⟩ (by decide) ?_
      refine v_s mt_161 rfl rfl rfl ?_
      refine j_gi (w := 1) 0 mt_161 rfl rfl c_542 (by decide) ((up_na (by decide)).trans (up_eq _ _ _ _)) ?_
      refine j_if1 mt_161 rfl rfl ⟨by decide, by decide⟩ (fun _ => ?_) (fun c => (c (show ¬ (1 : Int) = 0 by decide)).elim)
      refine v_ic (v := Int32.ofInt 0) mt_161 rfl rfl ?_
      refine j_retb mt_161 rfl rfl (by decide) ?_
      refine j_if1 mt_231 rfl rfl ⟨by decide, by decide⟩ (fun _ => ?_) (fun c => (c (show (0 : Int) = 0 by decide)).elim)
      refine v_ic (v := Int32.ofInt 0) mt_231 rfl rfl ?_
      exact v_ret mt_231 rfl rfl rfl h
    · replace h := h.2 (Int.not_lt.mp c)
      refine v_ic (v := Int32.ofInt 1) mt_162 rfl rfl ?_
      refine v_go mt_162 rfl rfl ?_
      refine j_retb mt_162 rfl rfl (by decide) ?_
      refine v_ic (v := Int32.ofInt 1) mt_231 rfl rfl ?_
      refine v_ic (v := Int32.ofInt 0) mt_231 rfl rfl ?_
      refine v_inl (L1 := [some (.ref 542), some (iv 1), some (iv 1), some (iv 0)]) mt_231 rfl rfl mt_161 rfl rfl (m_callj (As := [iv 1, iv 1, iv 0]) (rest := []) rfl rfl c_542 rfl (Nat.le_of_ble_eq_true rfl) (Nat.le_of_ble_eq_true rfl)) rfl (by clear h; omega) ?_
      refine v_s mt_161 rfl rfl rfl ?_
      refine j_if1 mt_161 rfl rfl ⟨by decide, by decide⟩ (fun _ => ?_) (fun c => (c (show ¬ (1 : Int) = 0 by decide)).elim)
      refine v_s mt_161 rfl rfl rfl ?_
      refine j_gi (w := 0) 0 mt_161 rfl rfl c_542 (by decide) (up_eq _ _ _ _) ?_
      refine j_if1 mt_161 rfl rfl ⟨by decide, by decide⟩ (fun c => absurd (show ¬ (0 : Int) = 0 from c) (by decide)) (fun _ => ?_)
      refine v_ic (v := Int32.ofInt 1) mt_161 rfl rfl ?_
      refine v_go mt_161 rfl rfl ?_
      refine j_retb mt_161 rfl rfl (by decide) ?_
      refine j_if1 mt_231 rfl rfl ⟨by decide, by decide⟩ (fun c => absurd (show (1 : Int) = 0 from c) (by decide)) (fun _ => ?_)
      refine v_s mt_231 rfl rfl rfl ?_
      refine v_s mt_231 rfl rfl rfl ?_
      refine v_ic (v := Int32.ofInt 0) mt_231 rfl rfl ?_
      refine v_ic (v := Int32.ofInt 1) mt_231 rfl rfl ?_
      refine v_inl (L1 := [some (iv x2), some (iv 0), some (iv 1)]) mt_231 rfl rfl mt_162 rfl rfl rfl rfl (by clear h; omega) ?_
      refine v_s mt_162 rfl rfl rfl ?_
      refine v_s mt_162 rfl rfl rfl ?_
      obtain ⟨z3, h⟩ := h
      refine j_if2 mt_162 rfl rfl z3 ⟨by decide, by decide⟩ (fun c => ?_) (fun c => ?_)
      · replace h := h.1 c
        refine v_ic (v := Int32.ofInt 0) mt_162 rfl rfl ?_
        refine j_retb mt_162 rfl rfl (by decide) ?_
        refine v_ic (v := Int32.ofInt 2) mt_231 rfl rfl ?_
        refine v_ic (v := Int32.ofInt 1) mt_231 rfl rfl ?_
        refine v_inl (L1 := [some (.ref 542), some (iv 0), some (iv 2), some (iv 1)]) mt_231 rfl rfl mt_161 rfl rfl (m_callj (As := [iv 0, iv 2, iv 1]) (rest := []) rfl rfl c_542 rfl (Nat.le_of_ble_eq_true rfl) (Nat.le_of_ble_eq_true rfl)) rfl (by clear h; omega) ?_
        refine v_s mt_161 rfl rfl rfl ?_
        refine j_if1 mt_161 rfl rfl ⟨by decide, by decide⟩ (fun c => absurd (show ¬ (0 : Int) = 0 from c) (by decide)) (fun _ => ?_)
        refine v_s mt_161 rfl rfl rfl ?_
        refine j_gi (w := 0) 0 mt_161 rfl rfl c_542 (by decide) (up_eq _ _ _ _) ?_
        refine j_if1 mt_161 rfl rfl ⟨by decide, by decide⟩ (fun c => absurd (show ¬ (0 : Int) = 0 from c) (by decide)) (fun _ => ?_)
        refine v_s mt_161 rfl rfl rfl ?_
        refine v_s mt_161 rfl rfl rfl ?_
        refine j_pi 0 mt_161 rfl rfl c_542 (by decide) ?_
        refine v_s mt_161 rfl rfl rfl ?_
        refine v_gr (w := 543) 1 mt_161 rfl rfl c_542 (by decide) (g_12_1 c_542) ?_
        refine v_s mt_161 rfl rfl rfl ?_
        refine v_s mt_161 rfl rfl rfl ?_
        refine j_al (w := J 543 1) mt_161 rfl c_543 ⟨by decide, by decide⟩ (by decide) ((up_na (by decide)).trans ((up_na (by decide)).trans rfl)) ?_
        refine v_ic (v := Int32.ofInt 1) mt_161 rfl rfl ?_
        refine j_add (e := (J 543 1) + 1) mt_161 rfl rfl ?_
        refine j_as mt_161 rfl c_543 ⟨by decide, by decide⟩ (by decide) ?_
        refine v_s mt_161 rfl rfl rfl ?_
        refine j_gi (w := 2) 0 mt_161 rfl rfl c_542 (by decide) ((up_na (by decide)).trans (up_eq _ _ _ _)) ?_
        refine j_if1 mt_161 rfl rfl ⟨by decide, by decide⟩ (fun _ => ?_) (fun c => (c (show ¬ (2 : Int) = 0 by decide)).elim)
        refine v_ic (v := Int32.ofInt 0) mt_161 rfl rfl ?_
        refine j_retb mt_161 rfl rfl (by decide) ?_
        refine j_if1 mt_231 rfl rfl ⟨by decide, by decide⟩ (fun c => absurd (show ¬ (0 : Int) = 0 from c) (by decide)) (fun _ => ?_)
        refine v_ic (v := Int32.ofInt 0) mt_231 rfl rfl ?_
        exact v_ret mt_231 rfl rfl rfl h
      · replace h := h.2 (Int.not_lt.mp c)
        refine v_s mt_162 rfl rfl rfl ?_
        refine v_s mt_162 rfl rfl rfl ?_
        refine j_if2 mt_162 rfl rfl z3 ⟨by decide, by decide⟩ (fun c => ?_) (fun c => ?_)
        · replace h := h.1 c
          refine v_ic (v := Int32.ofInt 0) mt_162 rfl rfl ?_
          refine j_retb mt_162 rfl rfl (by decide) ?_
          refine v_ic (v := Int32.ofInt 2) mt_231 rfl rfl ?_
          refine v_ic (v := Int32.ofInt 1) mt_231 rfl rfl ?_
          refine v_inl (L1 := [some (.ref 542), some (iv 0), some (iv 2), some (iv 1)]) mt_231 rfl rfl mt_161 rfl rfl (m_callj (As := [iv 0, iv 2, iv 1]) (rest := []) rfl rfl c_542 rfl (Nat.le_of_ble_eq_true rfl) (Nat.le_of_ble_eq_true rfl)) rfl (by clear h; omega) ?_
          refine v_s mt_161 rfl rfl rfl ?_
          refine j_if1 mt_161 rfl rfl ⟨by decide, by decide⟩ (fun c => absurd (show ¬ (0 : Int) = 0 from c) (by decide)) (fun _ => ?_)
          refine v_s mt_161 rfl rfl rfl ?_
          refine j_gi (w := 0) 0 mt_161 rfl rfl c_542 (by decide) (up_eq _ _ _ _) ?_
          refine j_if1 mt_161 rfl rfl ⟨by decide, by decide⟩ (fun c => absurd (show ¬ (0 : Int) = 0 from c) (by decide)) (fun _ => ?_)
          refine v_s mt_161 rfl rfl rfl ?_
          refine v_s mt_161 rfl rfl rfl ?_
          refine j_pi 0 mt_161 rfl rfl c_542 (by decide) ?_
          refine v_s mt_161 rfl rfl rfl ?_
          refine v_gr (w := 543) 1 mt_161 rfl rfl c_542 (by decide) (g_12_1 c_542) ?_
          refine v_s mt_161 rfl rfl rfl ?_
          refine v_s mt_161 rfl rfl rfl ?_
          refine j_al (w := J 543 1) mt_161 rfl c_543 ⟨by decide, by decide⟩ (by decide) ((up_na (by decide)).trans ((up_na (by decide)).trans rfl)) ?_
          refine v_ic (v := Int32.ofInt 1) mt_161 rfl rfl ?_
          refine j_add (e := (J 543 1) + 1) mt_161 rfl rfl ?_
          refine j_as mt_161 rfl c_543 ⟨by decide, by decide⟩ (by decide) ?_
          refine v_s mt_161 rfl rfl rfl ?_
          refine j_gi (w := 2) 0 mt_161 rfl rfl c_542 (by decide) ((up_na (by decide)).trans (up_eq _ _ _ _)) ?_
          refine j_if1 mt_161 rfl rfl ⟨by decide, by decide⟩ (fun _ => ?_) (fun c => (c (show ¬ (2 : Int) = 0 by decide)).elim)
          refine v_ic (v := Int32.ofInt 0) mt_161 rfl rfl ?_
          refine j_retb mt_161 rfl rfl (by decide) ?_
          refine j_if1 mt_231 rfl rfl ⟨by decide, by decide⟩ (fun c => absurd (show ¬ (0 : Int) = 0 from c) (by decide)) (fun _ => ?_)
          refine v_ic (v := Int32.ofInt 0) mt_231 rfl rfl ?_
          exact v_ret mt_231 rfl rfl rfl h
        · replace h := h.2 (Int.not_lt.mp c)
          refine v_ic (v := Int32.ofInt 1) mt_162 rfl rfl ?_
          refine v_go mt_162 rfl rfl ?_
          refine j_retb mt_162 rfl rfl (by decide) ?_
          refine v_ic (v := Int32.ofInt 2) mt_231 rfl rfl ?_
          refine v_ic (v := Int32.ofInt 1) mt_231 rfl rfl ?_
          refine v_inl (L1 := [some (.ref 542), some (iv 1), some (iv 2), some (iv 1)]) mt_231 rfl rfl mt_161 rfl rfl (m_callj (As := [iv 1, iv 2, iv 1]) (rest := []) rfl rfl c_542 rfl (Nat.le_of_ble_eq_true rfl) (Nat.le_of_ble_eq_true rfl)) rfl (by clear h; omega) ?_
          refine v_s mt_161 rfl rfl rfl ?_
          refine j_if1 mt_161 rfl rfl ⟨by decide, by decide⟩ (fun _ => ?_) (fun c => (c (show ¬ (1 : Int) = 0 by decide)).elim)
          refine v_s mt_161 rfl rfl rfl ?_
          refine j_gi (w := 0) 0 mt_161 rfl rfl c_542 (by decide) (up_eq _ _ _ _) ?_
          refine j_if1 mt_161 rfl rfl ⟨by decide, by decide⟩ (fun c => absurd (show ¬ (0 : Int) = 0 from c) (by decide)) (fun _ => ?_)
          refine v_ic (v := Int32.ofInt 1) mt_161 rfl rfl ?_
          refine v_go mt_161 rfl rfl ?_
          refine j_retb mt_161 rfl rfl (by decide) ?_
          refine j_if1 mt_231 rfl rfl ⟨by decide, by decide⟩ (fun _ => ?_) (fun c => (c (show ¬ (1 : Int) = 0 by decide)).elim)
          refine v_s mt_231 rfl rfl rfl ?_
          refine v_gr (w := 552) 17 mt_231 rfl rfl c_542 (by decide) (g_12_17 c_542) ?_
          refine v_ic (v := Int32.ofInt 2) mt_231 rfl rfl ?_
          refine v_s mt_231 rfl rfl rfl ?_
          refine j_mul (e := 2 * x1) mt_231 rfl rfl ?_
          refine v_s mt_231 rfl rfl rfl ?_
          refine j_add (e := (2 * x1) + x2) mt_231 rfl rfl ?_
          obtain ⟨z4, h⟩ := h
          refine j_al (w := J 552 (((2 * x1) + x2).toNat)) mt_231 rfl c_552 z4 (by decide) ((up_na (by decide)).trans rfl) ?_
          exact v_ret mt_231 rfl rfl rfl h
set_option maxHeartbeats 600000 in
theorem b_232_0 {X : Nat × (Nat → Int32)} {d : Nat} {J : Nat → Nat → Int} {sw : Bool × Bool × Bool} {lg : Nat → Nat → Int64} {x : Nat} {K : (Option Value ⊕ Nat) → mM → Prop} {x1 x2 x3 : Int} (hd : 5 ≤ d)
    (h : InR x1 ∧ (x1 < 0 → K (.inl (some (iv 0))) (mj (m_up (m_up (m_up J 542 0 0) 542 0 1) 543 0 ((J 543 0) + 1)) sw lg x)) ∧ (0 ≤ x1 → (InR ((J 542 25) - 1) ∧ ((J 542 25) - 1 < x1 → K (.inl (some (iv 0))) (mj (m_up (m_up (m_up J 542 0 0) 542 0 1) 543 0 ((J 543 0) + 1)) sw lg x)) ∧ (x1 ≤ (J 542 25) - 1 → (InR x2 ∧ (x2 < 0 → K (.inl (some (iv 0))) (mj (m_up (m_up (m_up J 542 0 0) 542 0 1) 543 0 ((J 543 0) + 1)) sw lg x)) ∧ (0 ≤ x2 → (InR ((J 542 24) - 1) ∧ ((J 542 24) - 1 < x2 → K (.inl (some (iv 0))) (mj (m_up (m_up (m_up J 542 0 0) 542 0 1) 543 0 ((J 543 0) + 1)) sw lg x)) ∧ (x2 ≤ (J 542 24) - 1 → (InR x3 ∧ (x3 < 0 → K (.inl (some (iv 0))) (mj (m_up (m_up (m_up J 542 0 0) 542 0 1) 543 0 ((J 543 0) + 1)) sw lg x)) ∧ (0 ≤ x3 → (InR ((J 542 26) - 1) ∧ ((J 542 26) - 1 < x3 → K (.inl (some (iv 0))) (mj (m_up (m_up (m_up J 542 0 0) 542 0 1) 543 0 ((J 543 0) + 1)) sw lg x)) ∧ (x3 ≤ (J 542 26) - 1 → (∃ (J1 : Nat → Nat → Int), EE X 1 204 [.ref 542] (mj (m_up J 542 0 0) sw lg x) (.inl none) (mj J1 sw lg x) ∧ ∃ (c3 : Int) (J2 : Nat → Nat → Int), EE X 4 207 [.ref 542, iv x1, iv x2, iv x3] (mj J1 sw lg x) (.inl (some (iv c3))) (mj J2 sw lg x) ∧ K (.inl (some (iv c3))) (mj J2 sw lg x)))))))))))))) : VV X d 232 (0, [some (.ref 542), some (iv x1), some (iv x2), some (iv x3)], [], mj J sw lg x) K := by
  refine v_s mt_232 rfl rfl rfl ?_
  refine v_ic (v := Int32.ofInt 0) mt_232 rfl rfl ?_
  refine j_pi 0 mt_232 rfl rfl c_542 (by decide) ?_
  refine v_s mt_232 rfl rfl rfl ?_
  refine v_s mt_232 rfl rfl rfl ?_
  refine v_ic (v := Int32.ofInt 1) mt_232 rfl rfl ?_
  refine v_inl (L1 := [some (.ref 542), some (iv x1), some (iv 1)]) mt_232 rfl rfl mt_226 rfl rfl (m_callj (As := [iv x1, iv 1]) (rest := []) rfl rfl c_542 rfl (Nat.le_of_ble_eq_true rfl) (Nat.le_of_ble_eq_true rfl)) rfl (by clear h; omega) ?_
  refine v_s mt_226 rfl rfl rfl ?_
  refine v_s mt_226 rfl rfl rfl ?_
  refine v_ic (v := Int32.ofInt 0) mt_226 rfl rfl ?_
  refine v_s mt_226 rfl rfl rfl ?_
  refine j_gi (w := J 542 25) 25 mt_226 rfl rfl c_542 (by decide) ((up_nk (by decide)).trans rfl) ?_
  refine v_ic (v := Int32.ofInt 1) mt_226 rfl rfl ?_
  refine j_sub (e := (J 542 25) - 1) mt_226 rfl rfl ?_
  refine v_inl (L1 := [some (iv x1), some (iv 0), some (iv ((J 542 25) - 1))]) mt_226 rfl rfl mt_162 rfl rfl rfl rfl (by clear h; omega) ?_
  refine v_s mt_162 rfl rfl rfl ?_
  refine v_s mt_162 rfl rfl rfl ?_
  obtain ⟨z1, h⟩ := h
  refine j_if2 mt_162 rfl rfl z1 ⟨by decide, by decide⟩ (fun c => ?_) (fun c => ?_)
  · replace h := h.1 c
    refine v_ic (v := Int32.ofInt 0) mt_162 rfl rfl ?_
    refine j_retb mt_162 rfl rfl (by decide) ?_
    refine v_s mt_226 rfl rfl rfl ?_
    refine v_ic (v := Int32.ofInt 0) mt_226 rfl rfl ?_
    refine v_inl (L1 := [some (.ref 542), some (iv 0), some (iv 1), some (iv 0)]) mt_226 rfl rfl mt_161 rfl rfl (m_callj (As := [iv 0, iv 1, iv 0]) (rest := []) rfl rfl c_542 rfl (Nat.le_of_ble_eq_true rfl) (Nat.le_of_ble_eq_true rfl)) rfl (by clear h; omega) ?_
    refine v_s mt_161 rfl rfl rfl ?_
    refine j_if1 mt_161 rfl rfl ⟨by decide, by decide⟩ (fun c => absurd (show ¬ (0 : Int) = 0 from c) (by decide)) (fun _ => ?_)
    refine v_s mt_161 rfl rfl rfl ?_
    refine j_gi (w := 0) 0 mt_161 rfl rfl c_542 (by decide) (up_eq _ _ _ _) ?_
    refine j_if1 mt_161 rfl rfl ⟨by decide, by decide⟩ (fun c => absurd (show ¬ (0 : Int) = 0 from c) (by decide)) (fun _ => ?_)
    refine v_s mt_161 rfl rfl rfl ?_
    refine v_s mt_161 rfl rfl rfl ?_
    refine j_pi 0 mt_161 rfl rfl c_542 (by decide) ?_
    refine v_s mt_161 rfl rfl rfl ?_
    refine v_gr (w := 543) 1 mt_161 rfl rfl c_542 (by decide) (g_12_1 c_542) ?_
    refine v_s mt_161 rfl rfl rfl ?_
    refine v_s mt_161 rfl rfl rfl ?_
    refine j_al (w := J 543 0) mt_161 rfl c_543 ⟨by decide, by decide⟩ (by decide) ((up_na (by decide)).trans ((up_na (by decide)).trans rfl)) ?_
    refine v_ic (v := Int32.ofInt 1) mt_161 rfl rfl ?_
    refine j_add (e := (J 543 0) + 1) mt_161 rfl rfl ?_
    refine j_as mt_161 rfl c_543 ⟨by decide, by decide⟩ (by decide) ?_
    refine v_s mt_161 rfl rfl rfl ?_
    refine j_gi (w := 1) 0 mt_161 rfl rfl c_542 (by decide) ((up_na (by decide)).trans (up_eq _ _ _ _)) ?_
    refine j_if1 mt_161 rfl rfl ⟨by decide, by decide⟩ (fun _ => ?_) (fun c => (c (show ¬ (1 : Int) = 0 by decide)).elim)
    refine v_ic (v := Int32.ofInt 0) mt_161 rfl rfl ?_
    refine j_retb mt_161 rfl rfl (by decide) ?_
    refine j_retb mt_226 rfl rfl (by decide) ?_
    refine j_if1 mt_232 rfl rfl ⟨by decide, by decide⟩ (fun _ => ?_) (fun c => (c (show (0 : Int) = 0 by decide)).elim)
    refine v_ic (v := Int32.ofInt 0) mt_232 rfl rfl ?_
    exact v_ret mt_232 rfl rfl rfl h
  · replace h := h.2 (Int.not_lt.mp c)
    refine v_s mt_162 rfl rfl rfl ?_
    refine v_s mt_162 rfl rfl rfl ?_
    obtain ⟨z2, h⟩ := h
    refine j_if2 mt_162 rfl rfl z1 z2 (fun c => ?_) (fun c => ?_)
    · replace h := h.1 c
      refine v_ic (v := Int32.ofInt 0) mt_162 rfl rfl ?_
      refine j_retb mt_162 rfl rfl (by decide) ?_
      refine v_s mt_226 rfl rfl rfl ?_
      refine v_ic (v := Int32.ofInt 0) mt_226 rfl rfl ?_
      refine v_inl (L1 := [some (.ref 542), some (iv 0), some (iv 1), some (iv 0)]) mt_226 rfl rfl mt_161 rfl rfl (m_callj (As := [iv 0, iv 1, iv 0]) (rest := []) rfl rfl c_542 rfl (Nat.le_of_ble_eq_true rfl) (Nat.le_of_ble_eq_true rfl)) rfl (by clear h; omega) ?_
      refine v_s mt_161 rfl rfl rfl ?_
      refine j_if1 mt_161 rfl rfl ⟨by decide, by decide⟩ (fun c => absurd (show ¬ (0 : Int) = 0 from c) (by decide)) (fun _ => ?_)
      refine v_s mt_161 rfl rfl rfl ?_
      refine j_gi (w := 0) 0 mt_161 rfl rfl c_542 (by decide) (up_eq _ _ _ _) ?_
      refine j_if1 mt_161 rfl rfl ⟨by decide, by decide⟩ (fun c => absurd (show ¬ (0 : Int) = 0 from c) (by decide)) (fun _ => ?_)
      refine v_s mt_161 rfl rfl rfl ?_
      refine v_s mt_161 rfl rfl rfl ?_
      refine j_pi 0 mt_161 rfl rfl c_542 (by decide) ?_
      refine v_s mt_161 rfl rfl rfl ?_
      refine v_gr (w := 543) 1 mt_161 rfl rfl c_542 (by decide) (g_12_1 c_542) ?_
      refine v_s mt_161 rfl rfl rfl ?_
      refine v_s mt_161 rfl rfl rfl ?_
      refine j_al (w := J 543 0) mt_161 rfl c_543 ⟨by decide, by decide⟩ (by decide) ((up_na (by decide)).trans ((up_na (by decide)).trans rfl)) ?_
      refine v_ic (v := Int32.ofInt 1) mt_161 rfl rfl ?_
      refine j_add (e := (J 543 0) + 1) mt_161 rfl rfl ?_
      refine j_as mt_161 rfl c_543 ⟨by decide, by decide⟩ (by decide) ?_
      refine v_s mt_161 rfl rfl rfl ?_
      refine j_gi (w := 1) 0 mt_161 rfl rfl c_542 (by decide) ((up_na (by decide)).trans (up_eq _ _ _ _)) ?_
      refine j_if1 mt_161 rfl rfl ⟨by decide, by decide⟩ (fun _ => ?_) (fun c => (c (show ¬ (1 : Int) = 0 by decide)).elim)
      refine v_ic (v := Int32.ofInt 0) mt_161 rfl rfl ?_
      refine j_retb mt_161 rfl rfl (by decide) ?_
      refine j_retb mt_226 rfl rfl (by decide) ?_
      refine j_if1 mt_232 rfl rfl ⟨by decide, by decide⟩ (fun _ => ?_) (fun c => (c (show (0 : Int) = 0 by decide)).elim)
      refine v_ic (v := Int32.ofInt 0) mt_232 rfl rfl ?_
      exact v_ret mt_232 rfl rfl rfl h
    · replace h := h.2 (Int.not_lt.mp c)
      refine v_ic (v := Int32.ofInt 1) mt_162 rfl rfl ?_
      refine v_go mt_162 rfl rfl ?_
      refine j_retb mt_162 rfl rfl (by decide) ?_
      refine v_s mt_226 rfl rfl rfl ?_
      refine v_ic (v := Int32.ofInt 0) mt_226 rfl rfl ?_
      refine v_inl (L1 := [some (.ref 542), some (iv 1), some (iv 1), some (iv 0)]) mt_226 rfl rfl mt_161 rfl rfl (m_callj (As := [iv 1, iv 1, iv 0]) (rest := []) rfl rfl c_542 rfl (Nat.le_of_ble_eq_true rfl) (Nat.le_of_ble_eq_true rfl)) rfl (by clear h; omega) ?_
      refine v_s mt_161 rfl rfl rfl ?_
      refine j_if1 mt_161 rfl rfl ⟨by decide, by decide⟩ (fun _ => ?_) (fun c => (c (show ¬ (1 : Int) = 0 by decide)).elim)
      refine v_s mt_161 rfl rfl rfl ?_
      refine j_gi (w := 0) 0 mt_161 rfl rfl c_542 (by decide) (up_eq _ _ _ _) ?_
      refine j_if1 mt_161 rfl rfl ⟨by decide, by decide⟩ (fun c => absurd (show ¬ (0 : Int) = 0 from c) (by decide)) (fun _ => ?_)
      refine v_ic (v := Int32.ofInt 1) mt_161 rfl rfl ?_
      refine v_go mt_161 rfl rfl ?_
      refine j_retb mt_161 rfl rfl (by decide) ?_
      refine j_retb mt_226 rfl rfl (by decide) ?_
      refine j_if1 mt_232 rfl rfl ⟨by decide, by decide⟩ (fun c => absurd (show (1 : Int) = 0 from c) (by decide)) (fun _ => ?_)
      refine v_s mt_232 rfl rfl rfl ?_
      refine v_s mt_232 rfl rfl rfl ?_
      refine v_ic (v := Int32.ofInt 1) mt_232 rfl rfl ?_
      refine v_inl (L1 := [some (.ref 542), some (iv x2), some (iv 1)]) mt_232 rfl rfl mt_225 rfl rfl (m_callj (As := [iv x2, iv 1]) (rest := []) rfl rfl c_542 rfl (Nat.le_of_ble_eq_true rfl) (Nat.le_of_ble_eq_true rfl)) rfl (by clear h; omega) ?_
      refine v_s mt_225 rfl rfl rfl ?_
      refine v_s mt_225 rfl rfl rfl ?_
      refine v_ic (v := Int32.ofInt 0) mt_225 rfl rfl ?_
      refine v_s mt_225 rfl rfl rfl ?_
      refine j_gi (w := J 542 24) 24 mt_225 rfl rfl c_542 (by decide) ((up_nk (by decide)).trans rfl) ?_
      refine v_ic (v := Int32.ofInt 1) mt_225 rfl rfl ?_
      refine j_sub (e := (J 542 24) - 1) mt_225 rfl rfl ?_
      refine v_inl (L1 := [some (iv x2), some (iv 0), some (iv ((J 542 24) - 1))]) mt_225 rfl rfl mt_162 rfl rfl rfl rfl (by clear h; omega) ?_
      refine v_s mt_162 rfl rfl rfl ?_
      refine v_s mt_162 rfl rfl rfl ?_
      obtain ⟨z3, h⟩ := h
      refine j_if2 mt_162 rfl rfl z3 ⟨by decide, by decide⟩ (fun c => ?_) (fun c => ?_)
      · replace h := h.1 c
        refine v_ic (v := Int32.ofInt 0) mt_162 rfl rfl ?_
        refine j_retb mt_162 rfl rfl (by decide) ?_
        refine v_s mt_225 rfl rfl rfl ?_
        refine v_ic (v := Int32.ofInt 0) mt_225 rfl rfl ?_
        refine v_inl (L1 := [some (.ref 542), some (iv 0), some (iv 1), some (iv 0)]) mt_225 rfl rfl mt_161 rfl rfl (m_callj (As := [iv 0, iv 1, iv 0]) (rest := []) rfl rfl c_542 rfl (Nat.le_of_ble_eq_true rfl) (Nat.le_of_ble_eq_true rfl)) rfl (by clear h; omega) ?_
        refine v_s mt_161 rfl rfl rfl ?_
        refine j_if1 mt_161 rfl rfl ⟨by decide, by decide⟩ (fun c => absurd (show ¬ (0 : Int) = 0 from c) (by decide)) (fun _ => ?_)
        refine v_s mt_161 rfl rfl rfl ?_
        refine j_gi (w := 0) 0 mt_161 rfl rfl c_542 (by decide) (up_eq _ _ _ _) ?_
        refine j_if1 mt_161 rfl rfl ⟨by decide, by decide⟩ (fun c => absurd (show ¬ (0 : Int) = 0 from c) (by decide)) (fun _ => ?_)
        refine v_s mt_161 rfl rfl rfl ?_
        refine v_s mt_161 rfl rfl rfl ?_
        refine j_pi 0 mt_161 rfl rfl c_542 (by decide) ?_
        refine v_s mt_161 rfl rfl rfl ?_
        refine v_gr (w := 543) 1 mt_161 rfl rfl c_542 (by decide) (g_12_1 c_542) ?_
        refine v_s mt_161 rfl rfl rfl ?_
        refine v_s mt_161 rfl rfl rfl ?_
        refine j_al (w := J 543 0) mt_161 rfl c_543 ⟨by decide, by decide⟩ (by decide) ((up_na (by decide)).trans ((up_na (by decide)).trans rfl)) ?_
        refine v_ic (v := Int32.ofInt 1) mt_161 rfl rfl ?_
        refine j_add (e := (J 543 0) + 1) mt_161 rfl rfl ?_
        refine j_as mt_161 rfl c_543 ⟨by decide, by decide⟩ (by decide) ?_
        refine v_s mt_161 rfl rfl rfl ?_
        refine j_gi (w := 1) 0 mt_161 rfl rfl c_542 (by decide) ((up_na (by decide)).trans (up_eq _ _ _ _)) ?_
        refine j_if1 mt_161 rfl rfl ⟨by decide, by decide⟩ (fun _ => ?_) (fun c => (c (show ¬ (1 : Int) = 0 by decide)).elim)
        refine v_ic (v := Int32.ofInt 0) mt_161 rfl rfl ?_
        refine j_retb mt_161 rfl rfl (by decide) ?_
        refine j_retb mt_225 rfl rfl (by decide) ?_
        refine j_if1 mt_232 rfl rfl ⟨by decide, by decide⟩ (fun _ => ?_) (fun c => (c (show (0 : Int) = 0 by decide)).elim)
        refine v_ic (v := Int32.ofInt 0) mt_232 rfl rfl ?_
        exact v_ret mt_232 rfl rfl rfl h
      · replace h := h.2 (Int.not_lt.mp c)
        refine v_s mt_162 rfl rfl rfl ?_
        refine v_s mt_162 rfl rfl rfl ?_
        obtain ⟨z4, h⟩ := h
        refine j_if2 mt_162 rfl rfl z3 z4 (fun c => ?_) (fun c => ?_)
        · replace h := h.1 c
          refine v_ic (v := Int32.ofInt 0) mt_162 rfl rfl ?_
          refine j_retb mt_162 rfl rfl (by decide) ?_
          refine v_s mt_225 rfl rfl rfl ?_
          refine v_ic (v := Int32.ofInt 0) mt_225 rfl rfl ?_
          refine v_inl (L1 := [some (.ref 542), some (iv 0), some (iv 1), some (iv 0)]) mt_225 rfl rfl mt_161 rfl rfl (m_callj (As := [iv 0, iv 1, iv 0]) (rest := []) rfl rfl c_542 rfl (Nat.le_of_ble_eq_true rfl) (Nat.le_of_ble_eq_true rfl)) rfl (by clear h; omega) ?_
          refine v_s mt_161 rfl rfl rfl ?_
          refine j_if1 mt_161 rfl rfl ⟨by decide, by decide⟩ (fun c => absurd (show ¬ (0 : Int) = 0 from c) (by decide)) (fun _ => ?_)
          refine v_s mt_161 rfl rfl rfl ?_
          refine j_gi (w := 0) 0 mt_161 rfl rfl c_542 (by decide) (up_eq _ _ _ _) ?_
          refine j_if1 mt_161 rfl rfl ⟨by decide, by decide⟩ (fun c => absurd (show ¬ (0 : Int) = 0 from c) (by decide)) (fun _ => ?_)
          refine v_s mt_161 rfl rfl rfl ?_
          refine v_s mt_161 rfl rfl rfl ?_
          refine j_pi 0 mt_161 rfl rfl c_542 (by decide) ?_
          refine v_s mt_161 rfl rfl rfl ?_
          refine v_gr (w := 543) 1 mt_161 rfl rfl c_542 (by decide) (g_12_1 c_542) ?_
          refine v_s mt_161 rfl rfl rfl ?_
          refine v_s mt_161 rfl rfl rfl ?_
          refine j_al (w := J 543 0) mt_161 rfl c_543 ⟨by decide, by decide⟩ (by decide) ((up_na (by decide)).trans ((up_na (by decide)).trans rfl)) ?_
          refine v_ic (v := Int32.ofInt 1) mt_161 rfl rfl ?_
          refine j_add (e := (J 543 0) + 1) mt_161 rfl rfl ?_
          refine j_as mt_161 rfl c_543 ⟨by decide, by decide⟩ (by decide) ?_
          refine v_s mt_161 rfl rfl rfl ?_
          refine j_gi (w := 1) 0 mt_161 rfl rfl c_542 (by decide) ((up_na (by decide)).trans (up_eq _ _ _ _)) ?_
          refine j_if1 mt_161 rfl rfl ⟨by decide, by decide⟩ (fun _ => ?_) (fun c => (c (show ¬ (1 : Int) = 0 by decide)).elim)
          refine v_ic (v := Int32.ofInt 0) mt_161 rfl rfl ?_
          refine j_retb mt_161 rfl rfl (by decide) ?_
          refine j_retb mt_225 rfl rfl (by decide) ?_
          refine j_if1 mt_232 rfl rfl ⟨by decide, by decide⟩ (fun _ => ?_) (fun c => (c (show (0 : Int) = 0 by decide)).elim)
          refine v_ic (v := Int32.ofInt 0) mt_232 rfl rfl ?_
          exact v_ret mt_232 rfl rfl rfl h
        · replace h := h.2 (Int.not_lt.mp c)
          refine v_ic (v := Int32.ofInt 1) mt_162 rfl rfl ?_
          refine v_go mt_162 rfl rfl ?_
          refine j_retb mt_162 rfl rfl (by decide) ?_
          refine v_s mt_225 rfl rfl rfl ?_
          refine v_ic (v := Int32.ofInt 0) mt_225 rfl rfl ?_
          refine v_inl (L1 := [some (.ref 542), some (iv 1), some (iv 1), some (iv 0)]) mt_225 rfl rfl mt_161 rfl rfl (m_callj (As := [iv 1, iv 1, iv 0]) (rest := []) rfl rfl c_542 rfl (Nat.le_of_ble_eq_true rfl) (Nat.le_of_ble_eq_true rfl)) rfl (by clear h; omega) ?_
          refine v_s mt_161 rfl rfl rfl ?_
          refine j_if1 mt_161 rfl rfl ⟨by decide, by decide⟩ (fun _ => ?_) (fun c => (c (show ¬ (1 : Int) = 0 by decide)).elim)
          refine v_s mt_161 rfl rfl rfl ?_
          refine j_gi (w := 0) 0 mt_161 rfl rfl c_542 (by decide) (up_eq _ _ _ _) ?_
          refine j_if1 mt_161 rfl rfl ⟨by decide, by decide⟩ (fun c => absurd (show ¬ (0 : Int) = 0 from c) (by decide)) (fun _ => ?_)
          refine v_ic (v := Int32.ofInt 1) mt_161 rfl rfl ?_
          refine v_go mt_161 rfl rfl ?_
          refine j_retb mt_161 rfl rfl (by decide) ?_
          refine j_retb mt_225 rfl rfl (by decide) ?_
          refine j_if1 mt_232 rfl rfl ⟨by decide, by decide⟩ (fun c => absurd (show (1 : Int) = 0 from c) (by decide)) (fun _ => ?_)
          refine v_s mt_232 rfl rfl rfl ?_
          refine v_s mt_232 rfl rfl rfl ?_
          refine v_ic (v := Int32.ofInt 1) mt_232 rfl rfl ?_
          refine v_inl (L1 := [some (.ref 542), some (iv x3), some (iv 1)]) mt_232 rfl rfl mt_227 rfl rfl (m_callj (As := [iv x3, iv 1]) (rest := []) rfl rfl c_542 rfl (Nat.le_of_ble_eq_true rfl) (Nat.le_of_ble_eq_true rfl)) rfl (by clear h; omega) ?_
          refine v_s mt_227 rfl rfl rfl ?_
          refine v_s mt_227 rfl rfl rfl ?_
          refine v_ic (v := Int32.ofInt 0) mt_227 rfl rfl ?_
          refine v_s mt_227 rfl rfl rfl ?_
          refine j_gi (w := J 542 26) 26 mt_227 rfl rfl c_542 (by decide) ((up_nk (by decide)).trans rfl) ?_
          refine v_ic (v := Int32.ofInt 1) mt_227 rfl rfl ?_
          refine j_sub (e := (J 542 26) - 1) mt_227 rfl rfl ?_
          refine v_inl (L1 := [some (iv x3), some (iv 0), some (iv ((J 542 26) - 1))]) mt_227 rfl rfl mt_162 rfl rfl rfl rfl (by clear h; omega) ?_
          refine v_s mt_162 rfl rfl rfl ?_
          refine v_s mt_162 rfl rfl rfl ?_
          obtain ⟨z5, h⟩ := h
          refine j_if2 mt_162 rfl rfl z5 ⟨by decide, by decide⟩ (fun c => ?_) (fun c => ?_)
          · replace h := h.1 c
            refine v_ic (v := Int32.ofInt 0) mt_162 rfl rfl ?_
            refine j_retb mt_162 rfl rfl (by decide) ?_
            refine v_s mt_227 rfl rfl rfl ?_
            refine v_ic (v := Int32.ofInt 0) mt_227 rfl rfl ?_
            refine v_inl (L1 := [some (.ref 542), some (iv 0), some (iv 1), some (iv 0)]) mt_227 rfl rfl mt_161 rfl rfl (m_callj (As := [iv 0, iv 1, iv 0]) (rest := []) rfl rfl c_542 rfl (Nat.le_of_ble_eq_true rfl) (Nat.le_of_ble_eq_true rfl)) rfl (by clear h; omega) ?_
            refine v_s mt_161 rfl rfl rfl ?_
            refine j_if1 mt_161 rfl rfl ⟨by decide, by decide⟩ (fun c => absurd (show ¬ (0 : Int) = 0 from c) (by decide)) (fun _ => ?_)
            refine v_s mt_161 rfl rfl rfl ?_
            refine j_gi (w := 0) 0 mt_161 rfl rfl c_542 (by decide) (up_eq _ _ _ _) ?_
            refine j_if1 mt_161 rfl rfl ⟨by decide, by decide⟩ (fun c => absurd (show ¬ (0 : Int) = 0 from c) (by decide)) (fun _ => ?_)
            refine v_s mt_161 rfl rfl rfl ?_
            refine v_s mt_161 rfl rfl rfl ?_
            refine j_pi 0 mt_161 rfl rfl c_542 (by decide) ?_
            refine v_s mt_161 rfl rfl rfl ?_
            refine v_gr (w := 543) 1 mt_161 rfl rfl c_542 (by decide) (g_12_1 c_542) ?_
            refine v_s mt_161 rfl rfl rfl ?_
            refine v_s mt_161 rfl rfl rfl ?_
            refine j_al (w := J 543 0) mt_161 rfl c_543 ⟨by decide, by decide⟩ (by decide) ((up_na (by decide)).trans ((up_na (by decide)).trans rfl)) ?_
            refine v_ic (v := Int32.ofInt 1) mt_161 rfl rfl ?_
            refine j_add (e := (J 543 0) + 1) mt_161 rfl rfl ?_
            refine j_as mt_161 rfl c_543 ⟨by decide, by decide⟩ (by decide) ?_
            refine v_s mt_161 rfl rfl rfl ?_
            refine j_gi (w := 1) 0 mt_161 rfl rfl c_542 (by decide) ((up_na (by decide)).trans (up_eq _ _ _ _)) ?_
            refine j_if1 mt_161 rfl rfl ⟨by decide, by decide⟩ (fun _ => ?_) (fun c => (c (show ¬ (1 : Int) = 0 by decide)).elim)
            refine v_ic (v := Int32.ofInt 0) mt_161 rfl rfl ?_
            refine j_retb mt_161 rfl rfl (by decide) ?_
            refine j_retb mt_227 rfl rfl (by decide) ?_
            refine j_if1 mt_232 rfl rfl ⟨by decide, by decide⟩ (fun c => absurd (show ¬ (0 : Int) = 0 from c) (by decide)) (fun _ => ?_)
            refine v_ic (v := Int32.ofInt 0) mt_232 rfl rfl ?_
            exact v_ret mt_232 rfl rfl rfl h
          · replace h := h.2 (Int.not_lt.mp c)
            refine v_s mt_162 rfl rfl rfl ?_
            refine v_s mt_162 rfl rfl rfl ?_
            obtain ⟨z6, h⟩ := h
            refine j_if2 mt_162 rfl rfl z5 z6 (fun c => ?_) (fun c => ?_)
            · replace h := h.1 c
              refine v_ic (v := Int32.ofInt 0) mt_162 rfl rfl ?_
              refine j_retb mt_162 rfl rfl (by decide) ?_
              refine v_s mt_227 rfl rfl rfl ?_
              refine v_ic (v := Int32.ofInt 0) mt_227 rfl rfl ?_
              refine v_inl (L1 := [some (.ref 542), some (iv 0), some (iv 1), some (iv 0)]) mt_227 rfl rfl mt_161 rfl rfl (m_callj (As := [iv 0, iv 1, iv 0]) (rest := []) rfl rfl c_542 rfl (Nat.le_of_ble_eq_true rfl) (Nat.le_of_ble_eq_true rfl)) rfl (by clear h; omega) ?_
              refine v_s mt_161 rfl rfl rfl ?_
              refine j_if1 mt_161 rfl rfl ⟨by decide, by decide⟩ (fun c => absurd (show ¬ (0 : Int) = 0 from c) (by decide)) (fun _ => ?_)
              refine v_s mt_161 rfl rfl rfl ?_
              refine j_gi (w := 0) 0 mt_161 rfl rfl c_542 (by decide) (up_eq _ _ _ _) ?_
              refine j_if1 mt_161 rfl rfl ⟨by decide, by decide⟩ (fun c => absurd (show ¬ (0 : Int) = 0 from c) (by decide)) (fun _ => ?_)
              refine v_s mt_161 rfl rfl rfl ?_
              refine v_s mt_161 rfl rfl rfl ?_
              refine j_pi 0 mt_161 rfl rfl c_542 (by decide) ?_
              refine v_s mt_161 rfl rfl rfl ?_
              refine v_gr (w := 543) 1 mt_161 rfl rfl c_542 (by decide) (g_12_1 c_542) ?_
              refine v_s mt_161 rfl rfl rfl ?_
              refine v_s mt_161 rfl rfl rfl ?_
              refine j_al (w := J 543 0) mt_161 rfl c_543 ⟨by decide, by decide⟩ (by decide) ((up_na (by decide)).trans ((up_na (by decide)).trans rfl)) ?_
              refine v_ic (v := Int32.ofInt 1) mt_161 rfl rfl ?_
              refine j_add (e := (J 543 0) + 1) mt_161 rfl rfl ?_
              refine j_as mt_161 rfl c_543 ⟨by decide, by decide⟩ (by decide) ?_
              refine v_s mt_161 rfl rfl rfl ?_
              refine j_gi (w := 1) 0 mt_161 rfl rfl c_542 (by decide) ((up_na (by decide)).trans (up_eq _ _ _ _)) ?_
              refine j_if1 mt_161 rfl rfl ⟨by decide, by decide⟩ (fun _ => ?_) (fun c => (c (show ¬ (1 : Int) = 0 by decide)).elim)
              refine v_ic (v := Int32.ofInt 0) mt_161 rfl rfl ?_
              refine j_retb mt_161 rfl rfl (by decide) ?_
              refine j_retb mt_227 rfl rfl (by decide) ?_
              refine j_if1 mt_232 rfl rfl ⟨by decide, by decide⟩ (fun c => absurd (show ¬ (0 : Int) = 0 from c) (by decide)) (fun _ => ?_)
              refine v_ic (v := Int32.ofInt 0) mt_232 rfl rfl ?_
              exact v_ret mt_232 rfl rfl rfl h
            · replace h := h.2 (Int.not_lt.mp c)
              refine v_ic (v := Int32.ofInt 1) mt_162 rfl rfl ?_
              refine v_go mt_162 rfl rfl ?_
              refine j_retb mt_162 rfl rfl (by decide) ?_
              refine v_s mt_227 rfl rfl rfl ?_
              refine v_ic (v := Int32.ofInt 0) mt_227 rfl rfl ?_
              refine v_inl (L1 := [some (.ref 542), some (iv 1), some (iv 1), some (iv 0)]) mt_227 rfl rfl mt_161 rfl rfl (m_callj (As := [iv 1, iv 1, iv 0]) (rest := []) rfl rfl c_542 rfl (Nat.le_of_ble_eq_true rfl) (Nat.le_of_ble_eq_true rfl)) rfl (by clear h; omega) ?_
              refine v_s mt_161 rfl rfl rfl ?_
              refine j_if1 mt_161 rfl rfl ⟨by decide, by decide⟩ (fun _ => ?_) (fun c => (c (show ¬ (1 : Int) = 0 by decide)).elim)
              refine v_s mt_161 rfl rfl rfl ?_
              refine j_gi (w := 0) 0 mt_161 rfl rfl c_542 (by decide) (up_eq _ _ _ _) ?_
              refine j_if1 mt_161 rfl rfl ⟨by decide, by decide⟩ (fun c => absurd (show ¬ (0 : Int) = 0 from c) (by decide)) (fun _ => ?_)
              refine v_ic (v := Int32.ofInt 1) mt_161 rfl rfl ?_
              refine v_go mt_161 rfl rfl ?_
              refine j_retb mt_161 rfl rfl (by decide) ?_
              refine j_retb mt_227 rfl rfl (by decide) ?_
              refine j_if1 mt_232 rfl rfl ⟨by decide, by decide⟩ (fun _ => ?_) (fun c => (c (show ¬ (1 : Int) = 0 by decide)).elim)
              refine v_s mt_232 rfl rfl rfl ?_
              obtain ⟨J1, z7, h⟩ := h
              refine v_call (d1 := 1) mt_232 rfl rfl mt_204 rfl rfl (m_callj (As := []) (rest := []) rfl rfl c_542 rfl (Nat.le_of_ble_eq_true rfl) (Nat.le_of_ble_eq_true rfl)) z7 (by clear h; omega) ?_
              refine v_s mt_232 rfl rfl rfl ?_
              refine v_s mt_232 rfl rfl rfl ?_
              refine v_s mt_232 rfl rfl rfl ?_
              refine v_s mt_232 rfl rfl rfl ?_
              obtain ⟨c3, J2, z8, h⟩ := h
              refine v_call (d1 := 4) mt_232 rfl rfl mt_207 rfl rfl (m_callj (As := [iv x1, iv x2, iv x3]) (rest := []) rfl rfl c_542 rfl (Nat.le_of_ble_eq_true rfl) (Nat.le_of_ble_eq_true rfl)) z8 (by clear h; omega) ?_
              exact v_ret mt_232 rfl rfl rfl h
set_option maxHeartbeats 600000 in
theorem b_233_0 {X : Nat × (Nat → Int32)} {d : Nat} {J : Nat → Nat → Int} {sw : Bool × Bool × Bool} {lg : Nat → Nat → Int64} {x : Nat} {K : (Option Value ⊕ Nat) → mM → Prop} {x1 x2 x3 x4 x5 x6 x7 x8 : Int} (hd : 4 ≤ d)
    (h : InR x1 ∧ (x1 < 0 → K (.inl (some (iv 0))) (mj (m_up (m_up (m_up J 542 0 0) 542 0 1) 543 1 ((J 543 1) + 1)) sw lg x)) ∧ (0 ≤ x1 → ((20 < x1 → K (.inl (some (iv 0))) (mj (m_up (m_up (m_up J 542 0 0) 542 0 1) 543 1 ((J 543 1) + 1)) sw lg x)) ∧ (x1 ≤ 20 → (InR x2 ∧ (x2 < 0 → K (.inl (some (iv 0))) (mj (m_up (m_up (m_up J 542 0 0) 542 0 1) 543 1 ((J 543 1) + 1)) sw lg x)) ∧ (0 ≤ x2 → ((9 < x2 → K (.inl (some (iv 0))) (mj (m_up (m_up (m_up J 542 0 0) 542 0 1) 543 1 ((J 543 1) + 1)) sw lg x)) ∧ (x2 ≤ 9 → (InR x3 ∧ (x3 < 0 → K (.inl (some (iv 0))) (mj (m_up (m_up (m_up J 542 0 0) 542 0 1) 543 1 ((J 543 1) + 1)) sw lg x)) ∧ (0 ≤ x3 → ((99 < x3 → K (.inl (some (iv 0))) (mj (m_up (m_up (m_up J 542 0 0) 542 0 1) 543 1 ((J 543 1) + 1)) sw lg x)) ∧ (x3 ≤ 99 → (InR x4 ∧ (x4 < 0 → K (.inl (some (iv 0))) (mj (m_up (m_up (m_up J 542 0 0) 542 0 1) 543 1 ((J 543 1) + 1)) sw lg x)) ∧ (0 ≤ x4 → ((99 < x4 → K (.inl (some (iv 0))) (mj (m_up (m_up (m_up J 542 0 0) 542 0 1) 543 1 ((J 543 1) + 1)) sw lg x)) ∧ (x4 ≤ 99 → (InR x5 ∧ (x5 < 0 → K (.inl (some (iv 0))) (mj (m_up (m_up (m_up J 542 0 0) 542 0 1) 543 1 ((J 543 1) + 1)) sw lg x)) ∧ (0 ≤ x5 → ((99 < x5 → K (.inl (some (iv 0))) (mj (m_up (m_up (m_up J 542 0 0) 542 0 1) 543 1 ((J 543 1) + 1)) sw lg x)) ∧ (x5 ≤ 99 → (InR x6 ∧ (x6 < 0 → K (.inl (some (iv 0))) (mj (m_up (m_up (m_up J 542 0 0) 542 0 1) 543 1 ((J 543 1) + 1)) sw lg x)) ∧ (0 ≤ x6 → ((20 < x6 → K (.inl (some (iv 0))) (mj (m_up (m_up (m_up J 542 0 0) 542 0 1) 543 1 ((J 543 1) + 1)) sw lg x)) ∧ (x6 ≤ 20 → (InR x7 ∧ (x7 < 0 → K (.inl (some (iv 0))) (mj (m_up (m_up (m_up J 542 0 0) 542 0 1) 543 1 ((J 543 1) + 1)) sw lg x)) ∧ (0 ≤ x7 → ((600 < x7 → K (.inl (some (iv 0))) (mj (m_up (m_up (m_up J 542 0 0) 542 0 1) 543 1 ((J 543 1) + 1)) sw lg x)) ∧ (x7 ≤ 600 → (InR x8 ∧ (x8 < 0 → K (.inl (some (iv 0))) (mj (m_up (m_up (m_up J 542 0 0) 542 0 1) 543 1 ((J 543 1) + 1)) sw lg x)) ∧ (0 ≤ x8 → ((5 < x8 → K (.inl (some (iv 0))) (mj (m_up (m_up (m_up J 542 0 0) 542 0 1) 543 1 ((J 543 1) + 1)) sw lg x)) ∧ (x8 ≤ 5 → (∃ (c2 : Int) (J1 : Nat → Nat → Int), EE X 3 206 [.ref 542, iv x1, iv x2, iv x3, iv x4, iv x5, iv x6, iv x7, iv x8] (mj (m_up J 542 0 0) sw lg x) (.inl (some (iv c2))) (mj J1 sw lg x) ∧ K (.inl (some (iv c2))) (mj J1 sw lg x)))))))))))))))))))))))))))))))))) : VV X d 233 (0, [some (.ref 542), some (iv x1), some (iv x2), some (iv x3), some (iv x4), some (iv x5), some (iv x6), some (iv x7), some (iv x8)], [], mj J sw lg x) K := by
  refine v_s mt_233 rfl rfl rfl ?_
  refine v_ic (v := Int32.ofInt 0) mt_233 rfl rfl ?_
  refine j_pi 0 mt_233 rfl rfl c_542 (by decide) ?_
  refine v_s mt_233 rfl rfl rfl ?_
  refine v_s mt_233 rfl rfl rfl ?_
  refine v_ic (v := Int32.ofInt 0) mt_233 rfl rfl ?_
  refine v_bp (v := Int32.ofInt 20) mt_233 rfl rfl ?_
  refine v_inl (L1 := [some (iv x1), some (iv 0), some (iv 20)]) mt_233 rfl rfl mt_162 rfl rfl rfl rfl (by clear h; omega) ?_
  refine v_s mt_162 rfl rfl rfl ?_
  refine v_s mt_162 rfl rfl rfl ?_
  obtain ⟨z1, h⟩ := h
  refine j_if2 mt_162 rfl rfl z1 ⟨by decide, by decide⟩ (fun c => ?_) (fun c => ?_)
  · replace h := h.1 c
    refine v_ic (v := Int32.ofInt 0) mt_162 rfl rfl ?_
    refine j_retb mt_162 rfl rfl (by decide) ?_
    refine j_if1 mt_233 rfl rfl ⟨by decide, by decide⟩ (fun _ => ?_) (fun c => (c (show (0 : Int) = 0 by decide)).elim)
    refine v_ic (v := Int32.ofInt 0) mt_233 rfl rfl ?_
    refine v_ic (v := Int32.ofInt 1) mt_233 rfl rfl ?_
    refine v_ic (v := Int32.ofInt 1) mt_233 rfl rfl ?_
    refine v_inl (L1 := [some (.ref 542), some (iv 0), some (iv 1), some (iv 1)]) mt_233 rfl rfl mt_161 rfl rfl (m_callj (As := [iv 0, iv 1, iv 1]) (rest := []) rfl rfl c_542 rfl (Nat.le_of_ble_eq_true rfl) (Nat.le_of_ble_eq_true rfl)) rfl (by clear h; omega) ?_
    refine v_s mt_161 rfl rfl rfl ?_
    refine j_if1 mt_161 rfl rfl ⟨by decide, by decide⟩ (fun c => absurd (show ¬ (0 : Int) = 0 from c) (by decide)) (fun _ => ?_)
    refine v_s mt_161 rfl rfl rfl ?_
    refine j_gi (w := 0) 0 mt_161 rfl rfl c_542 (by decide) (up_eq _ _ _ _) ?_
    refine j_if1 mt_161 rfl rfl ⟨by decide, by decide⟩ (fun c => absurd (show ¬ (0 : Int) = 0 from c) (by decide)) (fun _ => ?_)
    refine v_s mt_161 rfl rfl rfl ?_
    refine v_s mt_161 rfl rfl rfl ?_
    refine j_pi 0 mt_161 rfl rfl c_542 (by decide) ?_
    refine v_s mt_161 rfl rfl rfl ?_
    refine v_gr (w := 543) 1 mt_161 rfl rfl c_542 (by decide) (g_12_1 c_542) ?_
    refine v_s mt_161 rfl rfl rfl ?_
    refine v_s mt_161 rfl rfl rfl ?_
    refine j_al (w := J 543 1) mt_161 rfl c_543 ⟨by decide, by decide⟩ (by decide) ((up_na (by decide)).trans ((up_na (by decide)).trans rfl)) ?_
    refine v_ic (v := Int32.ofInt 1) mt_161 rfl rfl ?_
    refine j_add (e := (J 543 1) + 1) mt_161 rfl rfl ?_
    refine j_as mt_161 rfl c_543 ⟨by decide, by decide⟩ (by decide) ?_
    refine v_s mt_161 rfl rfl rfl ?_
    refine j_gi (w := 1) 0 mt_161 rfl rfl c_542 (by decide) ((up_na (by decide)).trans (up_eq _ _ _ _)) ?_
    refine j_if1 mt_161 rfl rfl ⟨by decide, by decide⟩ (fun _ => ?_) (fun c => (c (show ¬ (1 : Int) = 0 by decide)).elim)
    refine v_ic (v := Int32.ofInt 0) mt_161 rfl rfl ?_
    refine j_retb mt_161 rfl rfl (by decide) ?_
    refine j_if1 mt_233 rfl rfl ⟨by decide, by decide⟩ (fun c => absurd (show ¬ (0 : Int) = 0 from c) (by decide)) (fun _ => ?_)
    refine v_ic (v := Int32.ofInt 0) mt_233 rfl rfl ?_
    exact v_ret mt_233 rfl rfl rfl h
  · replace h := h.2 (Int.not_lt.mp c)
    refine v_s mt_162 rfl rfl rfl ?_
    refine v_s mt_162 rfl rfl rfl ?_
    refine j_if2 mt_162 rfl rfl z1 ⟨by decide, by decide⟩ (fun c => ?_) (fun c => ?_)
    · replace h := h.1 c
      refine v_ic (v := Int32.ofInt 0) mt_162 rfl rfl ?_
      refine j_retb mt_162 rfl rfl (by decide) ?_
      refine j_if1 mt_233 rfl rfl ⟨by decide, by decide⟩ (fun _ => ?_) (fun c => (c (show (0 : Int) = 0 by decide)).elim)
      refine v_ic (v := Int32.ofInt 0) mt_233 rfl rfl ?_
      refine v_ic (v := Int32.ofInt 1) mt_233 rfl rfl ?_
      refine v_ic (v := Int32.ofInt 1) mt_233 rfl rfl ?_
      refine v_inl (L1 := [some (.ref 542), some (iv 0), some (iv 1), some (iv 1)]) mt_233 rfl rfl mt_161 rfl rfl (m_callj (As := [iv 0, iv 1, iv 1]) (rest := []) rfl rfl c_542 rfl (Nat.le_of_ble_eq_true rfl) (Nat.le_of_ble_eq_true rfl)) rfl (by clear h; omega) ?_
      refine v_s mt_161 rfl rfl rfl ?_
      refine j_if1 mt_161 rfl rfl ⟨by decide, by decide⟩ (fun c => absurd (show ¬ (0 : Int) = 0 from c) (by decide)) (fun _ => ?_)
      refine v_s mt_161 rfl rfl rfl ?_
      refine j_gi (w := 0) 0 mt_161 rfl rfl c_542 (by decide) (up_eq _ _ _ _) ?_
      refine j_if1 mt_161 rfl rfl ⟨by decide, by decide⟩ (fun c => absurd (show ¬ (0 : Int) = 0 from c) (by decide)) (fun _ => ?_)
      refine v_s mt_161 rfl rfl rfl ?_
      refine v_s mt_161 rfl rfl rfl ?_
      refine j_pi 0 mt_161 rfl rfl c_542 (by decide) ?_
      refine v_s mt_161 rfl rfl rfl ?_
      refine v_gr (w := 543) 1 mt_161 rfl rfl c_542 (by decide) (g_12_1 c_542) ?_
      refine v_s mt_161 rfl rfl rfl ?_
      refine v_s mt_161 rfl rfl rfl ?_
      refine j_al (w := J 543 1) mt_161 rfl c_543 ⟨by decide, by decide⟩ (by decide) ((up_na (by decide)).trans ((up_na (by decide)).trans rfl)) ?_
      refine v_ic (v := Int32.ofInt 1) mt_161 rfl rfl ?_
      refine j_add (e := (J 543 1) + 1) mt_161 rfl rfl ?_
      refine j_as mt_161 rfl c_543 ⟨by decide, by decide⟩ (by decide) ?_
      refine v_s mt_161 rfl rfl rfl ?_
      refine j_gi (w := 1) 0 mt_161 rfl rfl c_542 (by decide) ((up_na (by decide)).trans (up_eq _ _ _ _)) ?_
      refine j_if1 mt_161 rfl rfl ⟨by decide, by decide⟩ (fun _ => ?_) (fun c => (c (show ¬ (1 : Int) = 0 by decide)).elim)
      refine v_ic (v := Int32.ofInt 0) mt_161 rfl rfl ?_
      refine j_retb mt_161 rfl rfl (by decide) ?_
      refine j_if1 mt_233 rfl rfl ⟨by decide, by decide⟩ (fun c => absurd (show ¬ (0 : Int) = 0 from c) (by decide)) (fun _ => ?_)
      refine v_ic (v := Int32.ofInt 0) mt_233 rfl rfl ?_
      exact v_ret mt_233 rfl rfl rfl h
    · replace h := h.2 (Int.not_lt.mp c)
      refine v_ic (v := Int32.ofInt 1) mt_162 rfl rfl ?_
      refine v_go mt_162 rfl rfl ?_
      refine j_retb mt_162 rfl rfl (by decide) ?_
      refine j_if1 mt_233 rfl rfl ⟨by decide, by decide⟩ (fun c => absurd (show (1 : Int) = 0 from c) (by decide)) (fun _ => ?_)
      refine v_s mt_233 rfl rfl rfl ?_
      refine v_ic (v := Int32.ofInt 0) mt_233 rfl rfl ?_
      refine v_bp (v := Int32.ofInt 9) mt_233 rfl rfl ?_
      refine v_inl (L1 := [some (iv x2), some (iv 0), some (iv 9)]) mt_233 rfl rfl mt_162 rfl rfl rfl rfl (by clear h; omega) ?_
      refine v_s mt_162 rfl rfl rfl ?_
      refine v_s mt_162 rfl rfl rfl ?_
      obtain ⟨z2, h⟩ := h
      refine j_if2 mt_162 rfl rfl z2 ⟨by decide, by decide⟩ (fun c => ?_) (fun c => ?_)
      · replace h := h.1 c
        refine v_ic (v := Int32.ofInt 0) mt_162 rfl rfl ?_
        refine j_retb mt_162 rfl rfl (by decide) ?_
        refine j_if1 mt_233 rfl rfl ⟨by decide, by decide⟩ (fun _ => ?_) (fun c => (c (show (0 : Int) = 0 by decide)).elim)
        refine v_ic (v := Int32.ofInt 0) mt_233 rfl rfl ?_
        refine v_ic (v := Int32.ofInt 1) mt_233 rfl rfl ?_
        refine v_ic (v := Int32.ofInt 1) mt_233 rfl rfl ?_
        refine v_inl (L1 := [some (.ref 542), some (iv 0), some (iv 1), some (iv 1)]) mt_233 rfl rfl mt_161 rfl rfl (m_callj (As := [iv 0, iv 1, iv 1]) (rest := []) rfl rfl c_542 rfl (Nat.le_of_ble_eq_true rfl) (Nat.le_of_ble_eq_true rfl)) rfl (by clear h; omega) ?_
        refine v_s mt_161 rfl rfl rfl ?_
        refine j_if1 mt_161 rfl rfl ⟨by decide, by decide⟩ (fun c => absurd (show ¬ (0 : Int) = 0 from c) (by decide)) (fun _ => ?_)
        refine v_s mt_161 rfl rfl rfl ?_
        refine j_gi (w := 0) 0 mt_161 rfl rfl c_542 (by decide) (up_eq _ _ _ _) ?_
        refine j_if1 mt_161 rfl rfl ⟨by decide, by decide⟩ (fun c => absurd (show ¬ (0 : Int) = 0 from c) (by decide)) (fun _ => ?_)
        refine v_s mt_161 rfl rfl rfl ?_
        refine v_s mt_161 rfl rfl rfl ?_
        refine j_pi 0 mt_161 rfl rfl c_542 (by decide) ?_
        refine v_s mt_161 rfl rfl rfl ?_
        refine v_gr (w := 543) 1 mt_161 rfl rfl c_542 (by decide) (g_12_1 c_542) ?_
        refine v_s mt_161 rfl rfl rfl ?_
        refine v_s mt_161 rfl rfl rfl ?_
        refine j_al (w := J 543 1) mt_161 rfl c_543 ⟨by decide, by decide⟩ (by decide) ((up_na (by decide)).trans ((up_na (by decide)).trans rfl)) ?_
        refine v_ic (v := Int32.ofInt 1) mt_161 rfl rfl ?_
        refine j_add (e := (J 543 1) + 1) mt_161 rfl rfl ?_
        refine j_as mt_161 rfl c_543 ⟨by decide, by decide⟩ (by decide) ?_
        refine v_s mt_161 rfl rfl rfl ?_
        refine j_gi (w := 1) 0 mt_161 rfl rfl c_542 (by decide) ((up_na (by decide)).trans (up_eq _ _ _ _)) ?_
        refine j_if1 mt_161 rfl rfl ⟨by decide, by decide⟩ (fun _ => ?_) (fun c => (c (show ¬ (1 : Int) = 0 by decide)).elim)
        refine v_ic (v := Int32.ofInt 0) mt_161 rfl rfl ?_
        refine j_retb mt_161 rfl rfl (by decide) ?_
        refine j_if1 mt_233 rfl rfl ⟨by decide, by decide⟩ (fun c => absurd (show ¬ (0 : Int) = 0 from c) (by decide)) (fun _ => ?_)
        refine v_ic (v := Int32.ofInt 0) mt_233 rfl rfl ?_
        exact v_ret mt_233 rfl rfl rfl h
      · replace h := h.2 (Int.not_lt.mp c)
        refine v_s mt_162 rfl rfl rfl ?_
        refine v_s mt_162 rfl rfl rfl ?_
        refine j_if2 mt_162 rfl rfl z2 ⟨by decide, by decide⟩ (fun c => ?_) (fun c => ?_)
        · replace h := h.1 c
          refine v_ic (v := Int32.ofInt 0) mt_162 rfl rfl ?_
          refine j_retb mt_162 rfl rfl (by decide) ?_
          refine j_if1 mt_233 rfl rfl ⟨by decide, by decide⟩ (fun _ => ?_) (fun c => (c (show (0 : Int) = 0 by decide)).elim)
          refine v_ic (v := Int32.ofInt 0) mt_233 rfl rfl ?_
          refine v_ic (v := Int32.ofInt 1) mt_233 rfl rfl ?_
          refine v_ic (v := Int32.ofInt 1) mt_233 rfl rfl ?_
          refine v_inl (L1 := [some (.ref 542), some (iv 0), some (iv 1), some (iv 1)]) mt_233 rfl rfl mt_161 rfl rfl (m_callj (As := [iv 0, iv 1, iv 1]) (rest := []) rfl rfl c_542 rfl (Nat.le_of_ble_eq_true rfl) (Nat.le_of_ble_eq_true rfl)) rfl (by clear h; omega) ?_
          refine v_s mt_161 rfl rfl rfl ?_
          refine j_if1 mt_161 rfl rfl ⟨by decide, by decide⟩ (fun c => absurd (show ¬ (0 : Int) = 0 from c) (by decide)) (fun _ => ?_)
          refine v_s mt_161 rfl rfl rfl ?_
          refine j_gi (w := 0) 0 mt_161 rfl rfl c_542 (by decide) (up_eq _ _ _ _) ?_
          refine j_if1 mt_161 rfl rfl ⟨by decide, by decide⟩ (fun c => absurd (show ¬ (0 : Int) = 0 from c) (by decide)) (fun _ => ?_)
          refine v_s mt_161 rfl rfl rfl ?_
          refine v_s mt_161 rfl rfl rfl ?_
          refine j_pi 0 mt_161 rfl rfl c_542 (by decide) ?_
          refine v_s mt_161 rfl rfl rfl ?_
          refine v_gr (w := 543) 1 mt_161 rfl rfl c_542 (by decide) (g_12_1 c_542) ?_
          refine v_s mt_161 rfl rfl rfl ?_
          refine v_s mt_161 rfl rfl rfl ?_
          refine j_al (w := J 543 1) mt_161 rfl c_543 ⟨by decide, by decide⟩ (by decide) ((up_na (by decide)).trans ((up_na (by decide)).trans rfl)) ?_
          refine v_ic (v := Int32.ofInt 1) mt_161 rfl rfl ?_
          refine j_add (e := (J 543 1) + 1) mt_161 rfl rfl ?_
          refine j_as mt_161 rfl c_543 ⟨by decide, by decide⟩ (by decide) ?_
          refine v_s mt_161 rfl rfl rfl ?_
          refine j_gi (w := 1) 0 mt_161 rfl rfl c_542 (by decide) ((up_na (by decide)).trans (up_eq _ _ _ _)) ?_
          refine j_if1 mt_161 rfl rfl ⟨by decide, by decide⟩ (fun _ => ?_) (fun c => (c (show ¬ (1 : Int) = 0 by decide)).elim)
          refine v_ic (v := Int32.ofInt 0) mt_161 rfl rfl ?_
          refine j_retb mt_161 rfl rfl (by decide) ?_
          refine j_if1 mt_233 rfl rfl ⟨by decide, by decide⟩ (fun c => absurd (show ¬ (0 : Int) = 0 from c) (by decide)) (fun _ => ?_)
          refine v_ic (v := Int32.ofInt 0) mt_233 rfl rfl ?_
          exact v_ret mt_233 rfl rfl rfl h
        · replace h := h.2 (Int.not_lt.mp c)
          refine v_ic (v := Int32.ofInt 1) mt_162 rfl rfl ?_
          refine v_go mt_162 rfl rfl ?_
          refine j_retb mt_162 rfl rfl (by decide) ?_
          refine j_if1 mt_233 rfl rfl ⟨by decide, by decide⟩ (fun c => absurd (show (1 : Int) = 0 from c) (by decide)) (fun _ => ?_)
          refine v_s mt_233 rfl rfl rfl ?_
          refine v_ic (v := Int32.ofInt 0) mt_233 rfl rfl ?_
          refine v_bp (v := Int32.ofInt 99) mt_233 rfl rfl ?_
          refine v_inl (L1 := [some (iv x3), some (iv 0), some (iv 99)]) mt_233 rfl rfl mt_162 rfl rfl rfl rfl (by clear h; omega) ?_
          refine v_s mt_162 rfl rfl rfl ?_
          refine v_s mt_162 rfl rfl rfl ?_
          obtain ⟨z3, h⟩ := h
          refine j_if2 mt_162 rfl rfl z3 ⟨by decide, by decide⟩ (fun c => ?_) (fun c => ?_)
          · replace h := h.1 c
            refine v_ic (v := Int32.ofInt 0) mt_162 rfl rfl ?_
            refine j_retb mt_162 rfl rfl (by decide) ?_
            refine j_if1 mt_233 rfl rfl ⟨by decide, by decide⟩ (fun _ => ?_) (fun c => (c (show (0 : Int) = 0 by decide)).elim)
            refine v_ic (v := Int32.ofInt 0) mt_233 rfl rfl ?_
            refine v_ic (v := Int32.ofInt 1) mt_233 rfl rfl ?_
            refine v_ic (v := Int32.ofInt 1) mt_233 rfl rfl ?_
            refine v_inl (L1 := [some (.ref 542), some (iv 0), some (iv 1), some (iv 1)]) mt_233 rfl rfl mt_161 rfl rfl (m_callj (As := [iv 0, iv 1, iv 1]) (rest := []) rfl rfl c_542 rfl (Nat.le_of_ble_eq_true rfl) (Nat.le_of_ble_eq_true rfl)) rfl (by clear h; omega) ?_
            refine v_s mt_161 rfl rfl rfl ?_
            refine j_if1 mt_161 rfl rfl ⟨by decide, by decide⟩ (fun c => absurd (show ¬ (0 : Int) = 0 from c) (by decide)) (fun _ => ?_)
            refine v_s mt_161 rfl rfl rfl ?_
            refine j_gi (w := 0) 0 mt_161 rfl rfl c_542 (by decide) (up_eq _ _ _ _) ?_
            refine j_if1 mt_161 rfl rfl ⟨by decide, by decide⟩ (fun c => absurd (show ¬ (0 : Int) = 0 from c) (by decide)) (fun _ => ?_)
            refine v_s mt_161 rfl rfl rfl ?_
            refine v_s mt_161 rfl rfl rfl ?_
            refine j_pi 0 mt_161 rfl rfl c_542 (by decide) ?_
            refine v_s mt_161 rfl rfl rfl ?_
            refine v_gr (w := 543) 1 mt_161 rfl rfl c_542 (by decide) (g_12_1 c_542) ?_
            refine v_s mt_161 rfl rfl rfl ?_
            refine v_s mt_161 rfl rfl rfl ?_
            refine j_al (w := J 543 1) mt_161 rfl c_543 ⟨by decide, by decide⟩ (by decide) ((up_na (by decide)).trans ((up_na (by decide)).trans rfl)) ?_
            refine v_ic (v := Int32.ofInt 1) mt_161 rfl rfl ?_
            refine j_add (e := (J 543 1) + 1) mt_161 rfl rfl ?_
            refine j_as mt_161 rfl c_543 ⟨by decide, by decide⟩ (by decide) ?_
            refine v_s mt_161 rfl rfl rfl ?_
            refine j_gi (w := 1) 0 mt_161 rfl rfl c_542 (by decide) ((up_na (by decide)).trans (up_eq _ _ _ _)) ?_
            refine j_if1 mt_161 rfl rfl ⟨by decide, by decide⟩ (fun _ => ?_) (fun c => (c (show ¬ (1 : Int) = 0 by decide)).elim)
            refine v_ic (v := Int32.ofInt 0) mt_161 rfl rfl ?_
            refine j_retb mt_161 rfl rfl (by decide) ?_
            refine j_if1 mt_233 rfl rfl ⟨by decide, by decide⟩ (fun c => absurd (show ¬ (0 : Int) = 0 from c) (by decide)) (fun _ => ?_)
            refine v_ic (v := Int32.ofInt 0) mt_233 rfl rfl ?_
            exact v_ret mt_233 rfl rfl rfl h
          · replace h := h.2 (Int.not_lt.mp c)
            refine v_s mt_162 rfl rfl rfl ?_
            refine v_s mt_162 rfl rfl rfl ?_
            refine j_if2 mt_162 rfl rfl z3 ⟨by decide, by decide⟩ (fun c => ?_) (fun c => ?_)
            · replace h := h.1 c
              refine v_ic (v := Int32.ofInt 0) mt_162 rfl rfl ?_
              refine j_retb mt_162 rfl rfl (by decide) ?_
              refine j_if1 mt_233 rfl rfl ⟨by decide, by decide⟩ (fun _ => ?_) (fun c => (c (show (0 : Int) = 0 by decide)).elim)
              refine v_ic (v := Int32.ofInt 0) mt_233 rfl rfl ?_
              refine v_ic (v := Int32.ofInt 1) mt_233 rfl rfl ?_
              refine v_ic (v := Int32.ofInt 1) mt_233 rfl rfl ?_
              refine v_inl (L1 := [some (.ref 542), some (iv 0), some (iv 1), some (iv 1)]) mt_233 rfl rfl mt_161 rfl rfl (m_callj (As := [iv 0, iv 1, iv 1]) (rest := []) rfl rfl c_542 rfl (Nat.le_of_ble_eq_true rfl) (Nat.le_of_ble_eq_true rfl)) rfl (by clear h; omega) ?_
              refine v_s mt_161 rfl rfl rfl ?_
              refine j_if1 mt_161 rfl rfl ⟨by decide, by decide⟩ (fun c => absurd (show ¬ (0 : Int) = 0 from c) (by decide)) (fun _ => ?_)
              refine v_s mt_161 rfl rfl rfl ?_
              refine j_gi (w := 0) 0 mt_161 rfl rfl c_542 (by decide) (up_eq _ _ _ _) ?_
              refine j_if1 mt_161 rfl rfl ⟨by decide, by decide⟩ (fun c => absurd (show ¬ (0 : Int) = 0 from c) (by decide)) (fun _ => ?_)
              refine v_s mt_161 rfl rfl rfl ?_
              refine v_s mt_161 rfl rfl rfl ?_
              refine j_pi 0 mt_161 rfl rfl c_542 (by decide) ?_
              refine v_s mt_161 rfl rfl rfl ?_
              refine v_gr (w := 543) 1 mt_161 rfl rfl c_542 (by decide) (g_12_1 c_542) ?_
              refine v_s mt_161 rfl rfl rfl ?_
              refine v_s mt_161 rfl rfl rfl ?_
              refine j_al (w := J 543 1) mt_161 rfl c_543 ⟨by decide, by decide⟩ (by decide) ((up_na (by decide)).trans ((up_na (by decide)).trans rfl)) ?_
              refine v_ic (v := Int32.ofInt 1) mt_161 rfl rfl ?_
              refine j_add (e := (J 543 1) + 1) mt_161 rfl rfl ?_
              refine j_as mt_161 rfl c_543 ⟨by decide, by decide⟩ (by decide) ?_
              refine v_s mt_161 rfl rfl rfl ?_
              refine j_gi (w := 1) 0 mt_161 rfl rfl c_542 (by decide) ((up_na (by decide)).trans (up_eq _ _ _ _)) ?_
              refine j_if1 mt_161 rfl rfl ⟨by decide, by decide⟩ (fun _ => ?_) (fun c => (c (show ¬ (1 : Int) = 0 by decide)).elim)
              refine v_ic (v := Int32.ofInt 0) mt_161 rfl rfl ?_
              refine j_retb mt_161 rfl rfl (by decide) ?_
              refine j_if1 mt_233 rfl rfl ⟨by decide, by decide⟩ (fun c => absurd (show ¬ (0 : Int) = 0 from c) (by decide)) (fun _ => ?_)
              refine v_ic (v := Int32.ofInt 0) mt_233 rfl rfl ?_
              exact v_ret mt_233 rfl rfl rfl h
            · replace h := h.2 (Int.not_lt.mp c)
              refine v_ic (v := Int32.ofInt 1) mt_162 rfl rfl ?_
              refine v_go mt_162 rfl rfl ?_
              refine j_retb mt_162 rfl rfl (by decide) ?_
              refine j_if1 mt_233 rfl rfl ⟨by decide, by decide⟩ (fun c => absurd (show (1 : Int) = 0 from c) (by decide)) (fun _ => ?_)
              refine v_s mt_233 rfl rfl rfl ?_
              refine v_ic (v := Int32.ofInt 0) mt_233 rfl rfl ?_
              refine v_bp (v := Int32.ofInt 99) mt_233 rfl rfl ?_
              refine v_inl (L1 := [some (iv x4), some (iv 0), some (iv 99)]) mt_233 rfl rfl mt_162 rfl rfl rfl rfl (by clear h; omega) ?_
              refine v_s mt_162 rfl rfl rfl ?_
              refine v_s mt_162 rfl rfl rfl ?_
              obtain ⟨z4, h⟩ := h
              refine j_if2 mt_162 rfl rfl z4 ⟨by decide, by decide⟩ (fun c => ?_) (fun c => ?_)
              · replace h := h.1 c
                refine v_ic (v := Int32.ofInt 0) mt_162 rfl rfl ?_
                refine j_retb mt_162 rfl rfl (by decide) ?_
                refine j_if1 mt_233 rfl rfl ⟨by decide, by decide⟩ (fun _ => ?_) (fun c => (c (show (0 : Int) = 0 by decide)).elim)
                refine v_ic (v := Int32.ofInt 0) mt_233 rfl rfl ?_
                refine v_ic (v := Int32.ofInt 1) mt_233 rfl rfl ?_
                refine v_ic (v := Int32.ofInt 1) mt_233 rfl rfl ?_
                refine v_inl (L1 := [some (.ref 542), some (iv 0), some (iv 1), some (iv 1)]) mt_233 rfl rfl mt_161 rfl rfl (m_callj (As := [iv 0, iv 1, iv 1]) (rest := []) rfl rfl c_542 rfl (Nat.le_of_ble_eq_true rfl) (Nat.le_of_ble_eq_true rfl)) rfl (by clear h; omega) ?_
                refine v_s mt_161 rfl rfl rfl ?_
                refine j_if1 mt_161 rfl rfl ⟨by decide, by decide⟩ (fun c => absurd (show ¬ (0 : Int) = 0 from c) (by decide)) (fun _ => ?_)
                refine v_s mt_161 rfl rfl rfl ?_
                refine j_gi (w := 0) 0 mt_161 rfl rfl c_542 (by decide) (up_eq _ _ _ _) ?_
                refine j_if1 mt_161 rfl rfl ⟨by decide, by decide⟩ (fun c => absurd (show ¬ (0 : Int) = 0 from c) (by decide)) (fun _ => ?_)
                refine v_s mt_161 rfl rfl rfl ?_
                refine v_s mt_161 rfl rfl rfl ?_
                refine j_pi 0 mt_161 rfl rfl c_542 (by decide) ?_
                refine v_s mt_161 rfl rfl rfl ?_
                refine v_gr (w := 543) 1 mt_161 rfl rfl c_542 (by decide) (g_12_1 c_542) ?_
                refine v_s mt_161 rfl rfl rfl ?_
                refine v_s mt_161 rfl rfl rfl ?_
                refine j_al (w := J 543 1) mt_161 rfl c_543 ⟨by decide, by decide⟩ (by decide) ((up_na (by decide)).trans ((up_na (by decide)).trans rfl)) ?_
                refine v_ic (v := Int32.ofInt 1) mt_161 rfl rfl ?_
                refine j_add (e := (J 543 1) + 1) mt_161 rfl rfl ?_
                refine j_as mt_161 rfl c_543 ⟨by decide, by decide⟩ (by decide) ?_
                refine v_s mt_161 rfl rfl rfl ?_
                refine j_gi (w := 1) 0 mt_161 rfl rfl c_542 (by decide) ((up_na (by decide)).trans (up_eq _ _ _ _)) ?_
                refine j_if1 mt_161 rfl rfl ⟨by decide, by decide⟩ (fun _ => ?_) (fun c => (c (show ¬ (1 : Int) = 0 by decide)).elim)
                refine v_ic (v := Int32.ofInt 0) mt_161 rfl rfl ?_
                refine j_retb mt_161 rfl rfl (by decide) ?_
                refine j_if1 mt_233 rfl rfl ⟨by decide, by decide⟩ (fun c => absurd (show ¬ (0 : Int) = 0 from c) (by decide)) (fun _ => ?_)
                refine v_ic (v := Int32.ofInt 0) mt_233 rfl rfl ?_
                exact v_ret mt_233 rfl rfl rfl h
              · replace h := h.2 (Int.not_lt.mp c)
                refine v_s mt_162 rfl rfl rfl ?_
                refine v_s mt_162 rfl rfl rfl ?_
                refine j_if2 mt_162 rfl rfl z4 ⟨by decide, by decide⟩ (fun c => ?_) (fun c => ?_)
                · replace h := h.1 c
                  refine v_ic (v := Int32.ofInt 0) mt_162 rfl rfl ?_
                  refine j_retb mt_162 rfl rfl (by decide) ?_
                  refine j_if1 mt_233 rfl rfl ⟨by decide, by decide⟩ (fun _ => ?_) (fun c => (c (show (0 : Int) = 0 by decide)).elim)
                  refine v_ic (v := Int32.ofInt 0) mt_233 rfl rfl ?_
                  refine v_ic (v := Int32.ofInt 1) mt_233 rfl rfl ?_
                  refine v_ic (v := Int32.ofInt 1) mt_233 rfl rfl ?_
                  refine v_inl (L1 := [some (.ref 542), some (iv 0), some (iv 1), some (iv 1)]) mt_233 rfl rfl mt_161 rfl rfl (m_callj (As := [iv 0, iv 1, iv 1]) (rest := []) rfl rfl c_542 rfl (Nat.le_of_ble_eq_true rfl) (Nat.le_of_ble_eq_true rfl)) rfl (by clear h; omega) ?_
                  refine v_s mt_161 rfl rfl rfl ?_
                  refine j_if1 mt_161 rfl rfl ⟨by decide, by decide⟩ (fun c => absurd (show ¬ (0 : Int) = 0 from c) (by decide)) (fun _ => ?_)
                  refine v_s mt_161 rfl rfl rfl ?_
                  refine j_gi (w := 0) 0 mt_161 rfl rfl c_542 (by decide) (up_eq _ _ _ _) ?_
                  refine j_if1 mt_161 rfl rfl ⟨by decide, by decide⟩ (fun c => absurd (show ¬ (0 : Int) = 0 from c) (by decide)) (fun _ => ?_)
                  refine v_s mt_161 rfl rfl rfl ?_
                  refine v_s mt_161 rfl rfl rfl ?_
                  refine j_pi 0 mt_161 rfl rfl c_542 (by decide) ?_
                  refine v_s mt_161 rfl rfl rfl ?_
                  refine v_gr (w := 543) 1 mt_161 rfl rfl c_542 (by decide) (g_12_1 c_542) ?_
                  refine v_s mt_161 rfl rfl rfl ?_
                  refine v_s mt_161 rfl rfl rfl ?_
                  refine j_al (w := J 543 1) mt_161 rfl c_543 ⟨by decide, by decide⟩ (by decide) ((up_na (by decide)).trans ((up_na (by decide)).trans rfl)) ?_
                  refine v_ic (v := Int32.ofInt 1) mt_161 rfl rfl ?_
                  refine j_add (e := (J 543 1) + 1) mt_161 rfl rfl ?_
                  refine j_as mt_161 rfl c_543 ⟨by decide, by decide⟩ (by decide) ?_
                  refine v_s mt_161 rfl rfl rfl ?_
                  refine j_gi (w := 1) 0 mt_161 rfl rfl c_542 (by decide) ((up_na (by decide)).trans (up_eq _ _ _ _)) ?_
                  refine j_if1 mt_161 rfl rfl ⟨by decide, by decide⟩ (fun _ => ?_) (fun c => (c (show ¬ (1 : Int) = 0 by decide)).elim)
                  refine v_ic (v := Int32.ofInt 0) mt_161 rfl rfl ?_
                  refine j_retb mt_161 rfl rfl (by decide) ?_
                  refine j_if1 mt_233 rfl rfl ⟨by decide, by decide⟩ (fun c => absurd (show ¬ (0 : Int) = 0 from c) (by decide)) (fun _ => ?_)
                  refine v_ic (v := Int32.ofInt 0) mt_233 rfl rfl ?_
                  exact v_ret mt_233 rfl rfl rfl h
                · replace h := h.2 (Int.not_lt.mp c)
                  refine v_ic (v := Int32.ofInt 1) mt_162 rfl rfl ?_
                  refine v_go mt_162 rfl rfl ?_
                  refine j_retb mt_162 rfl rfl (by decide) ?_
                  refine j_if1 mt_233 rfl rfl ⟨by decide, by decide⟩ (fun c => absurd (show (1 : Int) = 0 from c) (by decide)) (fun _ => ?_)
                  refine v_s mt_233 rfl rfl rfl ?_
                  refine v_ic (v := Int32.ofInt 0) mt_233 rfl rfl ?_
                  refine v_bp (v := Int32.ofInt 99) mt_233 rfl rfl ?_
                  refine v_inl (L1 := [some (iv x5), some (iv 0), some (iv 99)]) mt_233 rfl rfl mt_162 rfl rfl rfl rfl (by clear h; omega) ?_
                  refine v_s mt_162 rfl rfl rfl ?_
                  refine v_s mt_162 rfl rfl rfl ?_
                  obtain ⟨z5, h⟩ := h
                  refine j_if2 mt_162 rfl rfl z5 ⟨by decide, by decide⟩ (fun c => ?_) (fun c => ?_)
                  · replace h := h.1 c
                    refine v_ic (v := Int32.ofInt 0) mt_162 rfl rfl ?_
                    refine j_retb mt_162 rfl rfl (by decide) ?_
                    refine j_if1 mt_233 rfl rfl ⟨by decide, by decide⟩ (fun _ => ?_) (fun c => (c (show (0 : Int) = 0 by decide)).elim)
                    refine v_ic (v := Int32.ofInt 0) mt_233 rfl rfl ?_
                    refine v_ic (v := Int32.ofInt 1) mt_233 rfl rfl ?_
                    refine v_ic (v := Int32.ofInt 1) mt_233 rfl rfl ?_
                    refine v_inl (L1 := [some (.ref 542), some (iv 0), some (iv 1), some (iv 1)]) mt_233 rfl rfl mt_161 rfl rfl (m_callj (As := [iv 0, iv 1, iv 1]) (rest := []) rfl rfl c_542 rfl (Nat.le_of_ble_eq_true rfl) (Nat.le_of_ble_eq_true rfl)) rfl (by clear h; omega) ?_
                    refine v_s mt_161 rfl rfl rfl ?_
                    refine j_if1 mt_161 rfl rfl ⟨by decide, by decide⟩ (fun c => absurd (show ¬ (0 : Int) = 0 from c) (by decide)) (fun _ => ?_)
                    refine v_s mt_161 rfl rfl rfl ?_
                    refine j_gi (w := 0) 0 mt_161 rfl rfl c_542 (by decide) (up_eq _ _ _ _) ?_
                    refine j_if1 mt_161 rfl rfl ⟨by decide, by decide⟩ (fun c => absurd (show ¬ (0 : Int) = 0 from c) (by decide)) (fun _ => ?_)
                    refine v_s mt_161 rfl rfl rfl ?_
                    refine v_s mt_161 rfl rfl rfl ?_
                    refine j_pi 0 mt_161 rfl rfl c_542 (by decide) ?_
                    refine v_s mt_161 rfl rfl rfl ?_
                    refine v_gr (w := 543) 1 mt_161 rfl rfl c_542 (by decide) (g_12_1 c_542) ?_
                    refine v_s mt_161 rfl rfl rfl ?_
                    refine v_s mt_161 rfl rfl rfl ?_
                    refine j_al (w := J 543 1) mt_161 rfl c_543 ⟨by decide, by decide⟩ (by decide) ((up_na (by decide)).trans ((up_na (by decide)).trans rfl)) ?_
                    refine v_ic (v := Int32.ofInt 1) mt_161 rfl rfl ?_
                    refine j_add (e := (J 543 1) + 1) mt_161 rfl rfl ?_
                    refine j_as mt_161 rfl c_543 ⟨by decide, by decide⟩ (by decide) ?_
                    refine v_s mt_161 rfl rfl rfl ?_
                    refine j_gi (w := 1) 0 mt_161 rfl rfl c_542 (by decide) ((up_na (by decide)).trans (up_eq _ _ _ _)) ?_
                    refine j_if1 mt_161 rfl rfl ⟨by decide, by decide⟩ (fun _ => ?_) (fun c => (c (show ¬ (1 : Int) = 0 by decide)).elim)
                    refine v_ic (v := Int32.ofInt 0) mt_161 rfl rfl ?_
                    refine j_retb mt_161 rfl rfl (by decide) ?_
                    refine j_if1 mt_233 rfl rfl ⟨by decide, by decide⟩ (fun c => absurd (show ¬ (0 : Int) = 0 from c) (by decide)) (fun _ => ?_)
                    refine v_ic (v := Int32.ofInt 0) mt_233 rfl rfl ?_
                    exact v_ret mt_233 rfl rfl rfl h
                  · replace h := h.2 (Int.not_lt.mp c)
                    refine v_s mt_162 rfl rfl rfl ?_
                    refine v_s mt_162 rfl rfl rfl ?_
                    refine j_if2 mt_162 rfl rfl z5 ⟨by decide, by decide⟩ (fun c => ?_) (fun c => ?_)
                    · replace h := h.1 c
                      refine v_ic (v := Int32.ofInt 0) mt_162 rfl rfl ?_
                      refine j_retb mt_162 rfl rfl (by decide) ?_
                      refine j_if1 mt_233 rfl rfl ⟨by decide, by decide⟩ (fun _ => ?_) (fun c => (c (show (0 : Int) = 0 by decide)).elim)
                      refine v_ic (v := Int32.ofInt 0) mt_233 rfl rfl ?_
                      refine v_ic (v := Int32.ofInt 1) mt_233 rfl rfl ?_
                      refine v_ic (v := Int32.ofInt 1) mt_233 rfl rfl ?_
                      refine v_inl (L1 := [some (.ref 542), some (iv 0), some (iv 1), some (iv 1)]) mt_233 rfl rfl mt_161 rfl rfl (m_callj (As := [iv 0, iv 1, iv 1]) (rest := []) rfl rfl c_542 rfl (Nat.le_of_ble_eq_true rfl) (Nat.le_of_ble_eq_true rfl)) rfl (by clear h; omega) ?_
                      refine v_s mt_161 rfl rfl rfl ?_
                      refine j_if1 mt_161 rfl rfl ⟨by decide, by decide⟩ (fun c => absurd (show ¬ (0 : Int) = 0 from c) (by decide)) (fun _ => ?_)
                      refine v_s mt_161 rfl rfl rfl ?_
                      refine j_gi (w := 0) 0 mt_161 rfl rfl c_542 (by decide) (up_eq _ _ _ _) ?_
                      refine j_if1 mt_161 rfl rfl ⟨by decide, by decide⟩ (fun c => absurd (show ¬ (0 : Int) = 0 from c) (by decide)) (fun _ => ?_)
                      refine v_s mt_161 rfl rfl rfl ?_
                      refine v_s mt_161 rfl rfl rfl ?_
                      refine j_pi 0 mt_161 rfl rfl c_542 (by decide) ?_
                      refine v_s mt_161 rfl rfl rfl ?_
                      refine v_gr (w := 543) 1 mt_161 rfl rfl c_542 (by decide) (g_12_1 c_542) ?_
                      refine v_s mt_161 rfl rfl rfl ?_
                      refine v_s mt_161 rfl rfl rfl ?_
                      refine j_al (w := J 543 1) mt_161 rfl c_543 ⟨by decide, by decide⟩ (by decide) ((up_na (by decide)).trans ((up_na (by decide)).trans rfl)) ?_
                      refine v_ic (v := Int32.ofInt 1) mt_161 rfl rfl ?_
                      refine j_add (e := (J 543 1) + 1) mt_161 rfl rfl ?_
                      refine j_as mt_161 rfl c_543 ⟨by decide, by decide⟩ (by decide) ?_
                      refine v_s mt_161 rfl rfl rfl ?_
                      refine j_gi (w := 1) 0 mt_161 rfl rfl c_542 (by decide) ((up_na (by decide)).trans (up_eq _ _ _ _)) ?_
                      refine j_if1 mt_161 rfl rfl ⟨by decide, by decide⟩ (fun _ => ?_) (fun c => (c (show ¬ (1 : Int) = 0 by decide)).elim)
                      refine v_ic (v := Int32.ofInt 0) mt_161 rfl rfl ?_
                      refine j_retb mt_161 rfl rfl (by decide) ?_
                      refine j_if1 mt_233 rfl rfl ⟨by decide, by decide⟩ (fun c => absurd (show ¬ (0 : Int) = 0 from c) (by decide)) (fun _ => ?_)
                      refine v_ic (v := Int32.ofInt 0) mt_233 rfl rfl ?_
                      exact v_ret mt_233 rfl rfl rfl h
                    · replace h := h.2 (Int.not_lt.mp c)
                      refine v_ic (v := Int32.ofInt 1) mt_162 rfl rfl ?_
                      refine v_go mt_162 rfl rfl ?_
                      refine j_retb mt_162 rfl rfl (by decide) ?_
                      refine j_if1 mt_233 rfl rfl ⟨by decide, by decide⟩ (fun c => absurd (show (1 : Int) = 0 from c) (by decide)) (fun _ => ?_)
                      refine v_s mt_233 rfl rfl rfl ?_
                      refine v_ic (v := Int32.ofInt 0) mt_233 rfl rfl ?_
                      refine v_bp (v := Int32.ofInt 20) mt_233 rfl rfl ?_
                      refine v_inl (L1 := [some (iv x6), some (iv 0), some (iv 20)]) mt_233 rfl rfl mt_162 rfl rfl rfl rfl (by clear h; omega) ?_
                      refine v_s mt_162 rfl rfl rfl ?_
                      refine v_s mt_162 rfl rfl rfl ?_
                      obtain ⟨z6, h⟩ := h
                      refine j_if2 mt_162 rfl rfl z6 ⟨by decide, by decide⟩ (fun c => ?_) (fun c => ?_)
                      · replace h := h.1 c
                        refine v_ic (v := Int32.ofInt 0) mt_162 rfl rfl ?_
                        refine j_retb mt_162 rfl rfl (by decide) ?_
                        refine j_if1 mt_233 rfl rfl ⟨by decide, by decide⟩ (fun _ => ?_) (fun c => (c (show (0 : Int) = 0 by decide)).elim)
                        refine v_ic (v := Int32.ofInt 0) mt_233 rfl rfl ?_
                        refine v_ic (v := Int32.ofInt 1) mt_233 rfl rfl ?_
                        refine v_ic (v := Int32.ofInt 1) mt_233 rfl rfl ?_
                        refine v_inl (L1 := [some (.ref 542), some (iv 0), some (iv 1), some (iv 1)]) mt_233 rfl rfl mt_161 rfl rfl (m_callj (As := [iv 0, iv 1, iv 1]) (rest := []) rfl rfl c_542 rfl (Nat.le_of_ble_eq_true rfl) (Nat.le_of_ble_eq_true rfl)) rfl (by clear h; omega) ?_
                        refine v_s mt_161 rfl rfl rfl ?_
                        refine j_if1 mt_161 rfl rfl ⟨by decide, by decide⟩ (fun c => absurd (show ¬ (0 : Int) = 0 from c) (by decide)) (fun _ => ?_)
                        refine v_s mt_161 rfl rfl rfl ?_
                        refine j_gi (w := 0) 0 mt_161 rfl rfl c_542 (by decide) (up_eq _ _ _ _) ?_
                        refine j_if1 mt_161 rfl rfl ⟨by decide, by decide⟩ (fun c => absurd (show ¬ (0 : Int) = 0 from c) (by decide)) (fun _ => ?_)
                        refine v_s mt_161 rfl rfl rfl ?_
                        refine v_s mt_161 rfl rfl rfl ?_
                        refine j_pi 0 mt_161 rfl rfl c_542 (by decide) ?_
                        refine v_s mt_161 rfl rfl rfl ?_
                        refine v_gr (w := 543) 1 mt_161 rfl rfl c_542 (by decide) (g_12_1 c_542) ?_
                        refine v_s mt_161 rfl rfl rfl ?_
                        refine v_s mt_161 rfl rfl rfl ?_
                        refine j_al (w := J 543 1) mt_161 rfl c_543 ⟨by decide, by decide⟩ (by decide) ((up_na (by decide)).trans ((up_na (by decide)).trans rfl)) ?_
                        refine v_ic (v := Int32.ofInt 1) mt_161 rfl rfl ?_
                        refine j_add (e := (J 543 1) + 1) mt_161 rfl rfl ?_
                        refine j_as mt_161 rfl c_543 ⟨by decide, by decide⟩ (by decide) ?_
                        refine v_s mt_161 rfl rfl rfl ?_
                        refine j_gi (w := 1) 0 mt_161 rfl rfl c_542 (by decide) ((up_na (by decide)).trans (up_eq _ _ _ _)) ?_
                        refine j_if1 mt_161 rfl rfl ⟨by decide, by decide⟩ (fun _ => ?_) (fun c => (c (show ¬ (1 : Int) = 0 by decide)).elim)
                        refine v_ic (v := Int32.ofInt 0) mt_161 rfl rfl ?_
                        refine j_retb mt_161 rfl rfl (by decide) ?_
                        refine j_if1 mt_233 rfl rfl ⟨by decide, by decide⟩ (fun c => absurd (show ¬ (0 : Int) = 0 from c) (by decide)) (fun _ => ?_)
                        refine v_ic (v := Int32.ofInt 0) mt_233 rfl rfl ?_
                        exact v_ret mt_233 rfl rfl rfl h
                      · replace h := h.2 (Int.not_lt.mp c)
                        refine v_s mt_162 rfl rfl rfl ?_
                        refine v_s mt_162 rfl rfl rfl ?_
                        refine j_if2 mt_162 rfl rfl z6 ⟨by decide, by decide⟩ (fun c => ?_) (fun c => ?_)
                        · replace h := h.1 c
                          refine v_ic (v := Int32.ofInt 0) mt_162 rfl rfl ?_
                          refine j_retb mt_162 rfl rfl (by decide) ?_
                          refine j_if1 mt_233 rfl rfl ⟨by decide, by decide⟩ (fun _ => ?_) (fun c => (c (show (0 : Int) = 0 by decide)).elim)
                          refine v_ic (v := Int32.ofInt 0) mt_233 rfl rfl ?_
                          refine v_ic (v := Int32.ofInt 1) mt_233 rfl rfl ?_
                          refine v_ic (v := Int32.ofInt 1) mt_233 rfl rfl ?_
                          refine v_inl (L1 := [some (.ref 542), some (iv 0), some (iv 1), some (iv 1)]) mt_233 rfl rfl mt_161 rfl rfl (m_callj (As := [iv 0, iv 1, iv 1]) (rest := []) rfl rfl c_542 rfl (Nat.le_of_ble_eq_true rfl) (Nat.le_of_ble_eq_true rfl)) rfl (by clear h; omega) ?_
                          refine v_s mt_161 rfl rfl rfl ?_
                          refine j_if1 mt_161 rfl rfl ⟨by decide, by decide⟩ (fun c => absurd (show ¬ (0 : Int) = 0 from c) (by decide)) (fun _ => ?_)
                          refine v_s mt_161 rfl rfl rfl ?_
                          refine j_gi (w := 0) 0 mt_161 rfl rfl c_542 (by decide) (up_eq _ _ _ _) ?_
                          refine j_if1 mt_161 rfl rfl ⟨by decide, by decide⟩ (fun c => absurd (show ¬ (0 : Int) = 0 from c) (by decide)) (fun _ => ?_)
                          refine v_s mt_161 rfl rfl rfl ?_
                          refine v_s mt_161 rfl rfl rfl ?_
                          refine j_pi 0 mt_161 rfl rfl c_542 (by decide) ?_
                          refine v_s mt_161 rfl rfl rfl ?_
                          refine v_gr (w := 543) 1 mt_161 rfl rfl c_542 (by decide) (g_12_1 c_542) ?_
                          refine v_s mt_161 rfl rfl rfl ?_
                          refine v_s mt_161 rfl rfl rfl ?_
                          refine j_al (w := J 543 1) mt_161 rfl c_543 ⟨by decide, by decide⟩ (by decide) ((up_na (by decide)).trans ((up_na (by decide)).trans rfl)) ?_
                          refine v_ic (v := Int32.ofInt 1) mt_161 rfl rfl ?_
                          refine j_add (e := (J 543 1) + 1) mt_161 rfl rfl ?_
                          refine j_as mt_161 rfl c_543 ⟨by decide, by decide⟩ (by decide) ?_
                          refine v_s mt_161 rfl rfl rfl ?_
                          refine j_gi (w := 1) 0 mt_161 rfl rfl c_542 (by decide) ((up_na (by decide)).trans (up_eq _ _ _ _)) ?_
                          refine j_if1 mt_161 rfl rfl ⟨by decide, by decide⟩ (fun _ => ?_) (fun c => (c (show ¬ (1 : Int) = 0 by decide)).elim)
                          refine v_ic (v := Int32.ofInt 0) mt_161 rfl rfl ?_
                          refine j_retb mt_161 rfl rfl (by decide) ?_
                          refine j_if1 mt_233 rfl rfl ⟨by decide, by decide⟩ (fun c => absurd (show ¬ (0 : Int) = 0 from c) (by decide)) (fun _ => ?_)
                          refine v_ic (v := Int32.ofInt 0) mt_233 rfl rfl ?_
                          exact v_ret mt_233 rfl rfl rfl h
                        · replace h := h.2 (Int.not_lt.mp c)
                          refine v_ic (v := Int32.ofInt 1) mt_162 rfl rfl ?_
                          refine v_go mt_162 rfl rfl ?_
                          refine j_retb mt_162 rfl rfl (by decide) ?_
                          refine j_if1 mt_233 rfl rfl ⟨by decide, by decide⟩ (fun c => absurd (show (1 : Int) = 0 from c) (by decide)) (fun _ => ?_)
                          refine v_s mt_233 rfl rfl rfl ?_
                          refine v_ic (v := Int32.ofInt 0) mt_233 rfl rfl ?_
                          refine v_sp (v := Int32.ofInt 600) mt_233 rfl rfl ?_
                          refine v_inl (L1 := [some (iv x7), some (iv 0), some (iv 600)]) mt_233 rfl rfl mt_162 rfl rfl rfl rfl (by clear h; omega) ?_
                          refine v_s mt_162 rfl rfl rfl ?_
                          refine v_s mt_162 rfl rfl rfl ?_
                          obtain ⟨z7, h⟩ := h
                          refine j_if2 mt_162 rfl rfl z7 ⟨by decide, by decide⟩ (fun c => ?_) (fun c => ?_)
                          · replace h := h.1 c
                            refine v_ic (v := Int32.ofInt 0) mt_162 rfl rfl ?_
                            refine j_retb mt_162 rfl rfl (by decide) ?_
                            refine j_if1 mt_233 rfl rfl ⟨by decide, by decide⟩ (fun _ => ?_) (fun c => (c (show (0 : Int) = 0 by decide)).elim)
                            refine v_ic (v := Int32.ofInt 0) mt_233 rfl rfl ?_
                            refine v_ic (v := Int32.ofInt 1) mt_233 rfl rfl ?_
                            refine v_ic (v := Int32.ofInt 1) mt_233 rfl rfl ?_
                            refine v_inl (L1 := [some (.ref 542), some (iv 0), some (iv 1), some (iv 1)]) mt_233 rfl rfl mt_161 rfl rfl (m_callj (As := [iv 0, iv 1, iv 1]) (rest := []) rfl rfl c_542 rfl (Nat.le_of_ble_eq_true rfl) (Nat.le_of_ble_eq_true rfl)) rfl (by clear h; omega) ?_
                            refine v_s mt_161 rfl rfl rfl ?_
                            refine j_if1 mt_161 rfl rfl ⟨by decide, by decide⟩ (fun c => absurd (show ¬ (0 : Int) = 0 from c) (by decide)) (fun _ => ?_)
                            refine v_s mt_161 rfl rfl rfl ?_
                            refine j_gi (w := 0) 0 mt_161 rfl rfl c_542 (by decide) (up_eq _ _ _ _) ?_
                            refine j_if1 mt_161 rfl rfl ⟨by decide, by decide⟩ (fun c => absurd (show ¬ (0 : Int) = 0 from c) (by decide)) (fun _ => ?_)
                            refine v_s mt_161 rfl rfl rfl ?_
                            refine v_s mt_161 rfl rfl rfl ?_
                            refine j_pi 0 mt_161 rfl rfl c_542 (by decide) ?_
                            refine v_s mt_161 rfl rfl rfl ?_
                            refine v_gr (w := 543) 1 mt_161 rfl rfl c_542 (by decide) (g_12_1 c_542) ?_
                            refine v_s mt_161 rfl rfl rfl ?_
                            refine v_s mt_161 rfl rfl rfl ?_
                            refine j_al (w := J 543 1) mt_161 rfl c_543 ⟨by decide, by decide⟩ (by decide) ((up_na (by decide)).trans ((up_na (by decide)).trans rfl)) ?_
                            refine v_ic (v := Int32.ofInt 1) mt_161 rfl rfl ?_
                            refine j_add (e := (J 543 1) + 1) mt_161 rfl rfl ?_
                            refine j_as mt_161 rfl c_543 ⟨by decide, by decide⟩ (by decide) ?_
                            refine v_s mt_161 rfl rfl rfl ?_
                            refine j_gi (w := 1) 0 mt_161 rfl rfl c_542 (by decide) ((up_na (by decide)).trans (up_eq _ _ _ _)) ?_
                            refine j_if1 mt_161 rfl rfl ⟨by decide, by decide⟩ (fun _ => ?_) (fun c => (c (show ¬ (1 : Int) = 0 by decide)).elim)
                            refine v_ic (v := Int32.ofInt 0) mt_161 rfl rfl ?_
                            refine j_retb mt_161 rfl rfl (by decide) ?_
                            refine j_if1 mt_233 rfl rfl ⟨by decide, by decide⟩ (fun c => absurd (show ¬ (0 : Int) = 0 from c) (by decide)) (fun _ => ?_)
                            refine v_ic (v := Int32.ofInt 0) mt_233 rfl rfl ?_
                            exact v_ret mt_233 rfl rfl rfl h
                          · replace h := h.2 (Int.not_lt.mp c)
                            refine v_s mt_162 rfl rfl rfl ?_
                            refine v_s mt_162 rfl rfl rfl ?_
                            refine j_if2 mt_162 rfl rfl z7 ⟨by decide, by decide⟩ (fun c => ?_) (fun c => ?_)
                            · replace h := h.1 c
                              refine v_ic (v := Int32.ofInt 0) mt_162 rfl rfl ?_
                              refine j_retb mt_162 rfl rfl (by decide) ?_
                              refine j_if1 mt_233 rfl rfl ⟨by decide, by decide⟩ (fun _ => ?_) (fun c => (c (show (0 : Int) = 0 by decide)).elim)
                              refine v_ic (v := Int32.ofInt 0) mt_233 rfl rfl ?_
                              refine v_ic (v := Int32.ofInt 1) mt_233 rfl rfl ?_
                              refine v_ic (v := Int32.ofInt 1) mt_233 rfl rfl ?_
                              refine v_inl (L1 := [some (.ref 542), some (iv 0), some (iv 1), some (iv 1)]) mt_233 rfl rfl mt_161 rfl rfl (m_callj (As := [iv 0, iv 1, iv 1]) (rest := []) rfl rfl c_542 rfl (Nat.le_of_ble_eq_true rfl) (Nat.le_of_ble_eq_true rfl)) rfl (by clear h; omega) ?_
                              refine v_s mt_161 rfl rfl rfl ?_
                              refine j_if1 mt_161 rfl rfl ⟨by decide, by decide⟩ (fun c => absurd (show ¬ (0 : Int) = 0 from c) (by decide)) (fun _ => ?_)
                              refine v_s mt_161 rfl rfl rfl ?_
                              refine j_gi (w := 0) 0 mt_161 rfl rfl c_542 (by decide) (up_eq _ _ _ _) ?_
                              refine j_if1 mt_161 rfl rfl ⟨by decide, by decide⟩ (fun c => absurd (show ¬ (0 : Int) = 0 from c) (by decide)) (fun _ => ?_)
                              refine v_s mt_161 rfl rfl rfl ?_
                              refine v_s mt_161 rfl rfl rfl ?_
                              refine j_pi 0 mt_161 rfl rfl c_542 (by decide) ?_
                              refine v_s mt_161 rfl rfl rfl ?_
                              refine v_gr (w := 543) 1 mt_161 rfl rfl c_542 (by decide) (g_12_1 c_542) ?_
                              refine v_s mt_161 rfl rfl rfl ?_
                              refine v_s mt_161 rfl rfl rfl ?_
                              refine j_al (w := J 543 1) mt_161 rfl c_543 ⟨by decide, by decide⟩ (by decide) ((up_na (by decide)).trans ((up_na (by decide)).trans rfl)) ?_
                              refine v_ic (v := Int32.ofInt 1) mt_161 rfl rfl ?_
                              refine j_add (e := (J 543 1) + 1) mt_161 rfl rfl ?_
                              refine j_as mt_161 rfl c_543 ⟨by decide, by decide⟩ (by decide) ?_
                              refine v_s mt_161 rfl rfl rfl ?_
                              refine j_gi (w := 1) 0 mt_161 rfl rfl c_542 (by decide) ((up_na (by decide)).trans (up_eq _ _ _ _)) ?_
                              refine j_if1 mt_161 rfl rfl ⟨by decide, by decide⟩ (fun _ => ?_) (fun c => (c (show ¬ (1 : Int) = 0 by decide)).elim)
                              refine v_ic (v := Int32.ofInt 0) mt_161 rfl rfl ?_
                              refine j_retb mt_161 rfl rfl (by decide) ?_
                              refine j_if1 mt_233 rfl rfl ⟨by decide, by decide⟩ (fun c => absurd (show ¬ (0 : Int) = 0 from c) (by decide)) (fun _ => ?_)
                              refine v_ic (v := Int32.ofInt 0) mt_233 rfl rfl ?_
                              exact v_ret mt_233 rfl rfl rfl h
                            · replace h := h.2 (Int.not_lt.mp c)
                              refine v_ic (v := Int32.ofInt 1) mt_162 rfl rfl ?_
                              refine v_go mt_162 rfl rfl ?_
                              refine j_retb mt_162 rfl rfl (by decide) ?_
                              refine j_if1 mt_233 rfl rfl ⟨by decide, by decide⟩ (fun c => absurd (show (1 : Int) = 0 from c) (by decide)) (fun _ => ?_)
                              refine v_s mt_233 rfl rfl rfl ?_
                              refine v_ic (v := Int32.ofInt 0) mt_233 rfl rfl ?_
                              refine v_ic (v := Int32.ofInt 5) mt_233 rfl rfl ?_
                              refine v_inl (L1 := [some (iv x8), some (iv 0), some (iv 5)]) mt_233 rfl rfl mt_162 rfl rfl rfl rfl (by clear h; omega) ?_
                              refine v_s mt_162 rfl rfl rfl ?_
                              refine v_s mt_162 rfl rfl rfl ?_
                              obtain ⟨z8, h⟩ := h
                              refine j_if2 mt_162 rfl rfl z8 ⟨by decide, by decide⟩ (fun c => ?_) (fun c => ?_)
                              · replace h := h.1 c
                                refine v_ic (v := Int32.ofInt 0) mt_162 rfl rfl ?_
                                refine j_retb mt_162 rfl rfl (by decide) ?_
                                refine j_if1 mt_233 rfl rfl ⟨by decide, by decide⟩ (fun _ => ?_) (fun c => (c (show (0 : Int) = 0 by decide)).elim)
                                refine v_ic (v := Int32.ofInt 0) mt_233 rfl rfl ?_
                                refine v_ic (v := Int32.ofInt 1) mt_233 rfl rfl ?_
                                refine v_ic (v := Int32.ofInt 1) mt_233 rfl rfl ?_
                                refine v_inl (L1 := [some (.ref 542), some (iv 0), some (iv 1), some (iv 1)]) mt_233 rfl rfl mt_161 rfl rfl (m_callj (As := [iv 0, iv 1, iv 1]) (rest := []) rfl rfl c_542 rfl (Nat.le_of_ble_eq_true rfl) (Nat.le_of_ble_eq_true rfl)) rfl (by clear h; omega) ?_
                                refine v_s mt_161 rfl rfl rfl ?_
                                refine j_if1 mt_161 rfl rfl ⟨by decide, by decide⟩ (fun c => absurd (show ¬ (0 : Int) = 0 from c) (by decide)) (fun _ => ?_)
                                refine v_s mt_161 rfl rfl rfl ?_
                                refine j_gi (w := 0) 0 mt_161 rfl rfl c_542 (by decide) (up_eq _ _ _ _) ?_
                                refine j_if1 mt_161 rfl rfl ⟨by decide, by decide⟩ (fun c => absurd (show ¬ (0 : Int) = 0 from c) (by decide)) (fun _ => ?_)
                                refine v_s mt_161 rfl rfl rfl ?_
                                refine v_s mt_161 rfl rfl rfl ?_
                                refine j_pi 0 mt_161 rfl rfl c_542 (by decide) ?_
                                refine v_s mt_161 rfl rfl rfl ?_
                                refine v_gr (w := 543) 1 mt_161 rfl rfl c_542 (by decide) (g_12_1 c_542) ?_
                                refine v_s mt_161 rfl rfl rfl ?_
                                refine v_s mt_161 rfl rfl rfl ?_
                                refine j_al (w := J 543 1) mt_161 rfl c_543 ⟨by decide, by decide⟩ (by decide) ((up_na (by decide)).trans ((up_na (by decide)).trans rfl)) ?_
                                refine v_ic (v := Int32.ofInt 1) mt_161 rfl rfl ?_
                                refine j_add (e := (J 543 1) + 1) mt_161 rfl rfl ?_
                                refine j_as mt_161 rfl c_543 ⟨by decide, by decide⟩ (by decide) ?_
                                refine v_s mt_161 rfl rfl rfl ?_
                                refine j_gi (w := 1) 0 mt_161 rfl rfl c_542 (by decide) ((up_na (by decide)).trans (up_eq _ _ _ _)) ?_
                                refine j_if1 mt_161 rfl rfl ⟨by decide, by decide⟩ (fun _ => ?_) (fun c => (c (show ¬ (1 : Int) = 0 by decide)).elim)
                                refine v_ic (v := Int32.ofInt 0) mt_161 rfl rfl ?_
                                refine j_retb mt_161 rfl rfl (by decide) ?_
                                refine j_if1 mt_233 rfl rfl ⟨by decide, by decide⟩ (fun c => absurd (show ¬ (0 : Int) = 0 from c) (by decide)) (fun _ => ?_)
                                refine v_ic (v := Int32.ofInt 0) mt_233 rfl rfl ?_
                                exact v_ret mt_233 rfl rfl rfl h
                              · replace h := h.2 (Int.not_lt.mp c)
                                refine v_s mt_162 rfl rfl rfl ?_
                                refine v_s mt_162 rfl rfl rfl ?_
                                refine j_if2 mt_162 rfl rfl z8 ⟨by decide, by decide⟩ (fun c => ?_) (fun c => ?_)
                                · replace h := h.1 c
                                  refine v_ic (v := Int32.ofInt 0) mt_162 rfl rfl ?_
                                  refine j_retb mt_162 rfl rfl (by decide) ?_
                                  refine j_if1 mt_233 rfl rfl ⟨by decide, by decide⟩ (fun _ => ?_) (fun c => (c (show (0 : Int) = 0 by decide)).elim)
                                  refine v_ic (v := Int32.ofInt 0) mt_233 rfl rfl ?_
                                  refine v_ic (v := Int32.ofInt 1) mt_233 rfl rfl ?_
                                  refine v_ic (v := Int32.ofInt 1) mt_233 rfl rfl ?_
                                  refine v_inl (L1 := [some (.ref 542), some (iv 0), some (iv 1), some (iv 1)]) mt_233 rfl rfl mt_161 rfl rfl (m_callj (As := [iv 0, iv 1, iv 1]) (rest := []) rfl rfl c_542 rfl (Nat.le_of_ble_eq_true rfl) (Nat.le_of_ble_eq_true rfl)) rfl (by clear h; omega) ?_
                                  refine v_s mt_161 rfl rfl rfl ?_
                                  refine j_if1 mt_161 rfl rfl ⟨by decide, by decide⟩ (fun c => absurd (show ¬ (0 : Int) = 0 from c) (by decide)) (fun _ => ?_)
                                  refine v_s mt_161 rfl rfl rfl ?_
                                  refine j_gi (w := 0) 0 mt_161 rfl rfl c_542 (by decide) (up_eq _ _ _ _) ?_
                                  refine j_if1 mt_161 rfl rfl ⟨by decide, by decide⟩ (fun c => absurd (show ¬ (0 : Int) = 0 from c) (by decide)) (fun _ => ?_)
                                  refine v_s mt_161 rfl rfl rfl ?_
                                  refine v_s mt_161 rfl rfl rfl ?_
                                  refine j_pi 0 mt_161 rfl rfl c_542 (by decide) ?_
                                  refine v_s mt_161 rfl rfl rfl ?_
                                  refine v_gr (w := 543) 1 mt_161 rfl rfl c_542 (by decide) (g_12_1 c_542) ?_
                                  refine v_s mt_161 rfl rfl rfl ?_
                                  refine v_s mt_161 rfl rfl rfl ?_
                                  refine j_al (w := J 543 1) mt_161 rfl c_543 ⟨by decide, by decide⟩ (by decide) ((up_na (by decide)).trans ((up_na (by decide)).trans rfl)) ?_
                                  refine v_ic (v := Int32.ofInt 1) mt_161 rfl rfl ?_
                                  refine j_add (e := (J 543 1) + 1) mt_161 rfl rfl ?_
                                  refine j_as mt_161 rfl c_543 ⟨by decide, by decide⟩ (by decide) ?_
                                  refine v_s mt_161 rfl rfl rfl ?_
                                  refine j_gi (w := 1) 0 mt_161 rfl rfl c_542 (by decide) ((up_na (by decide)).trans (up_eq _ _ _ _)) ?_
                                  refine j_if1 mt_161 rfl rfl ⟨by decide, by decide⟩ (fun _ => ?_) (fun c => (c (show ¬ (1 : Int) = 0 by decide)).elim)
                                  refine v_ic (v := Int32.ofInt 0) mt_161 rfl rfl ?_
                                  refine j_retb mt_161 rfl rfl (by decide) ?_
                                  refine j_if1 mt_233 rfl rfl ⟨by decide, by decide⟩ (fun c => absurd (show ¬ (0 : Int) = 0 from c) (by decide)) (fun _ => ?_)
                                  refine v_ic (v := Int32.ofInt 0) mt_233 rfl rfl ?_
                                  exact v_ret mt_233 rfl rfl rfl h
                                · replace h := h.2 (Int.not_lt.mp c)
                                  refine v_ic (v := Int32.ofInt 1) mt_162 rfl rfl ?_
                                  refine v_go mt_162 rfl rfl ?_
                                  refine j_retb mt_162 rfl rfl (by decide) ?_
                                  refine j_if1 mt_233 rfl rfl ⟨by decide, by decide⟩ (fun c => absurd (show (1 : Int) = 0 from c) (by decide)) (fun _ => ?_)
                                  refine v_ic (v := Int32.ofInt 1) mt_233 rfl rfl ?_
                                  refine v_go mt_233 rfl rfl ?_
                                  refine v_ic (v := Int32.ofInt 1) mt_233 rfl rfl ?_
                                  refine v_ic (v := Int32.ofInt 1) mt_233 rfl rfl ?_
                                  refine v_inl (L1 := [some (.ref 542), some (iv 1), some (iv 1), some (iv 1)]) mt_233 rfl rfl mt_161 rfl rfl (m_callj (As := [iv 1, iv 1, iv 1]) (rest := []) rfl rfl c_542 rfl (Nat.le_of_ble_eq_true rfl) (Nat.le_of_ble_eq_true rfl)) rfl (by clear h; omega) ?_
                                  refine v_s mt_161 rfl rfl rfl ?_
                                  refine j_if1 mt_161 rfl rfl ⟨by decide, by decide⟩ (fun _ => ?_) (fun c => (c (show ¬ (1 : Int) = 0 by decide)).elim)
                                  refine v_s mt_161 rfl rfl rfl ?_
                                  refine j_gi (w := 0) 0 mt_161 rfl rfl c_542 (by decide) (up_eq _ _ _ _) ?_
                                  refine j_if1 mt_161 rfl rfl ⟨by decide, by decide⟩ (fun c => absurd (show ¬ (0 : Int) = 0 from c) (by decide)) (fun _ => ?_)
                                  refine v_ic (v := Int32.ofInt 1) mt_161 rfl rfl ?_
                                  refine v_go mt_161 rfl rfl ?_
                                  refine j_retb mt_161 rfl rfl (by decide) ?_
                                  refine j_if1 mt_233 rfl rfl ⟨by decide, by decide⟩ (fun _ => ?_) (fun c => (c (show ¬ (1 : Int) = 0 by decide)).elim)
                                  refine v_s mt_233 rfl rfl rfl ?_
                                  refine v_s mt_233 rfl rfl rfl ?_
                                  refine v_s mt_233 rfl rfl rfl ?_
                                  refine v_s mt_233 rfl rfl rfl ?_
                                  refine v_s mt_233 rfl rfl rfl ?_
                                  refine v_s mt_233 rfl rfl rfl ?_
                                  refine v_s mt_233 rfl rfl rfl ?_
                                  refine v_s mt_233 rfl rfl rfl ?_
                                  refine v_s mt_233 rfl rfl rfl ?_
                                  obtain ⟨c2, J1, z9, h⟩ := h
                                  refine v_call (d1 := 3) mt_233 rfl rfl mt_206 rfl rfl (m_callj (As := [iv x1, iv x2, iv x3, iv x4, iv x5, iv x6, iv x7, iv x8]) (rest := []) rfl rfl c_542 rfl (Nat.le_of_ble_eq_true rfl) (Nat.le_of_ble_eq_true rfl)) z9 (by clear h; omega) ?_
                                  exact v_ret mt_233 rfl rfl rfl h
set_option maxHeartbeats 600000 in
theorem b_234_0 {X : Nat × (Nat → Int32)} {d : Nat} {J : Nat → Nat → Int} {sw : Bool × Bool × Bool} {lg : Nat → Nat → Int64} {x : Nat} {K : (Option Value ⊕ Nat) → mM → Prop} {x1 x2 x3 : Int} (hd : 2 ≤ d)
    (h : InR x1 ∧ (x1 < 0 → K (.inl (some (iv 0))) (mj (m_up (m_up (m_up J 542 0 0) 542 0 1) 543 0 ((J 543 0) + 1)) sw lg x)) ∧ (0 ≤ x1 → (InR ((J 542 25) - 1) ∧ ((J 542 25) - 1 < x1 → K (.inl (some (iv 0))) (mj (m_up (m_up (m_up J 542 0 0) 542 0 1) 543 0 ((J 543 0) + 1)) sw lg x)) ∧ (x1 ≤ (J 542 25) - 1 → (InR x2 ∧ (x2 < 0 → K (.inl (some (iv 0))) (mj (m_up (m_up (m_up J 542 0 0) 542 0 1) 543 0 ((J 543 0) + 1)) sw lg x)) ∧ (0 ≤ x2 → (InR ((J 542 24) - 1) ∧ ((J 542 24) - 1 < x2 → K (.inl (some (iv 0))) (mj (m_up (m_up (m_up J 542 0 0) 542 0 1) 543 0 ((J 543 0) + 1)) sw lg x)) ∧ (x2 ≤ (J 542 24) - 1 → (InR x3 ∧ (x3 < 0 → K (.inl (some (iv 0))) (mj (m_up (m_up (m_up J 542 0 0) 542 0 1) 543 0 ((J 543 0) + 1)) sw lg x)) ∧ (0 ≤ x3 → (InR ((J 542 26) - 1) ∧ ((J 542 26) - 1 < x3 → K (.inl (some (iv 0))) (mj (m_up (m_up (m_up J 542 0 0) 542 0 1) 543 0 ((J 543 0) + 1)) sw lg x)) ∧ (x3 ≤ (J 542 26) - 1 → (∃ (J1 : Nat → Nat → Int), EE X 1 204 [.ref 542] (mj (m_up J 542 0 0) sw lg x) (.inl none) (mj J1 sw lg x) ∧ InR (J1 562 48) ∧ (J1 562 48 ≤ 0 → K (.inl (some (iv 0))) (mj J1 sw lg x)) ∧ (0 < J1 562 48 → ((0 ≤ x2 ∧ x2 < 50) ∧ (0 ≤ x2 ∧ x2 < 6) ∧ InR (J1 562 x2.toNat) ∧ InR (J1 549 x2.toNat) ∧ (J1 562 x2.toNat < J1 549 x2.toNat → ((0 ≤ 18 + x1 ∧ 18 + x1 < 50) ∧ InR (J1 562 ((18 + x1).toNat)) ∧ (¬ J1 562 ((18 + x1).toNat) = 0 → K (.inl (some (iv 0))) (mj J1 sw lg x)) ∧ (J1 562 ((18 + x1).toNat) = 0 → ((0 ≤ 30 + x3 ∧ 30 + x3 < 50) ∧ InR (J1 562 ((30 + x3).toNat)) ∧ (J1 562 ((30 + x3).toNat) ≤ 0 → K (.inl (some (iv 0))) (mj J1 sw lg x)) ∧ (0 < J1 562 ((30 + x3).toNat) → K (.inl (some (iv 1))) (mj J1 sw lg x)))))) ∧ (J1 549 x2.toNat ≤ J1 562 x2.toNat → K (.inl (some (iv 0))) (mj J1 sw lg x))))))))))))))))) : VV X d 234 (0, [some (.ref 542), some (iv x1), some (iv x2), some (iv x3)], [], mj J sw lg x) K := by
  refine v_s mt_234 rfl rfl rfl ?_
  refine v_ic (v := Int32.ofInt 0) mt_234 rfl rfl ?_
  refine j_pi 0 mt_234 rfl rfl c_542 (by decide) ?_
  refine v_s mt_234 rfl rfl rfl ?_
  refine v_s mt_234 rfl rfl rfl ?_
  refine v_ic (v := Int32.ofInt 1) mt_234 rfl rfl ?_
  refine v_inl (L1 := [some (.ref 542), some (iv x1), some (iv 1)]) mt_234 rfl rfl mt_226 rfl rfl (m_callj (As := [iv x1, iv 1]) (rest := []) rfl rfl c_542 rfl (Nat.le_of_ble_eq_true rfl) (Nat.le_of_ble_eq_true rfl)) rfl (by clear h; omega) ?_
  refine v_s mt_226 rfl rfl rfl ?_
  refine v_s mt_226 rfl rfl rfl ?_
  refine v_ic (v := Int32.ofInt 0) mt_226 rfl rfl ?_
  refine v_s mt_226 rfl rfl rfl ?_
  refine j_gi (w := J 542 25) 25 mt_226 rfl rfl c_542 (by decide) ((up_nk (by decide)).trans rfl) ?_
  refine v_ic (v := Int32.ofInt 1) mt_226 rfl rfl ?_
  refine j_sub (e := (J 542 25) - 1) mt_226 rfl rfl ?_
  refine v_inl (L1 := [some (iv x1), some (iv 0), some (iv ((J 542 25) - 1))]) mt_226 rfl rfl mt_162 rfl rfl rfl rfl (by clear h; omega) ?_
  refine v_s mt_162 rfl rfl rfl ?_
  refine v_s mt_162 rfl rfl rfl ?_
  obtain ⟨z1, h⟩ := h
  refine j_if2 mt_162 rfl rfl z1 ⟨by decide, by decide⟩ (fun c => ?_) (fun c => ?_)
  · replace h := h.1 c
    refine v_ic (v := Int32.ofInt 0) mt_162 rfl rfl ?_
    refine j_retb mt_162 rfl rfl (by decide) ?_
    refine v_s mt_226 rfl rfl rfl ?_
    refine v_ic (v := Int32.ofInt 0) mt_226 rfl rfl ?_
    refine v_inl (L1 := [some (.ref 542), some (iv 0), some (iv 1), some (iv 0)]) mt_226 rfl rfl mt_161 rfl rfl (m_callj (As := [iv 0, iv 1, iv 0]) (rest := []) rfl rfl c_542 rfl (Nat.le_of_ble_eq_true rfl) (Nat.le_of_ble_eq_true rfl)) rfl (by clear h; omega) ?_
    refine v_s mt_161 rfl rfl rfl ?_
    refine j_if1 mt_161 rfl rfl ⟨by decide, by decide⟩ (fun c => absurd (show ¬ (0 : Int) = 0 from c) (by decide)) (fun _ => ?_)
    refine v_s mt_161 rfl rfl rfl ?_
    refine j_gi (w := 0) 0 mt_161 rfl rfl c_542 (by decide) (up_eq _ _ _ _) ?_
    refine j_if1 mt_161 rfl rfl ⟨by decide, by decide⟩ (fun c => absurd (show ¬ (0 : Int) = 0 from c) (by decide)) (fun _ => ?_)
    refine v_s mt_161 rfl rfl rfl ?_
    refine v_s mt_161 rfl rfl rfl ?_
    refine j_pi 0 mt_161 rfl rfl c_542 (by decide) ?_
    refine v_s mt_161 rfl rfl rfl ?_
    refine v_gr (w := 543) 1 mt_161 rfl rfl c_542 (by decide) (g_12_1 c_542) ?_
    refine v_s mt_161 rfl rfl rfl ?_
    refine v_s mt_161 rfl rfl rfl ?_
    refine j_al (w := J 543 0) mt_161 rfl c_543 ⟨by decide, by decide⟩ (by decide) ((up_na (by decide)).trans ((up_na (by decide)).trans rfl)) ?_
    refine v_ic (v := Int32.ofInt 1) mt_161 rfl rfl ?_
    refine j_add (e := (J 543 0) + 1) mt_161 rfl rfl ?_
    refine j_as mt_161 rfl c_543 ⟨by decide, by decide⟩ (by decide) ?_
    refine v_s mt_161 rfl rfl rfl ?_
    refine j_gi (w := 1) 0 mt_161 rfl rfl c_542 (by decide) ((up_na (by decide)).trans (up_eq _ _ _ _)) ?_
    refine j_if1 mt_161 rfl rfl ⟨by decide, by decide⟩ (fun _ => ?_) (fun c => (c (show ¬ (1 : Int) = 0 by decide)).elim)
    refine v_ic (v := Int32.ofInt 0) mt_161 rfl rfl ?_
    refine j_retb mt_161 rfl rfl (by decide) ?_
    refine j_retb mt_226 rfl rfl (by decide) ?_
    refine j_if1 mt_234 rfl rfl ⟨by decide, by decide⟩ (fun _ => ?_) (fun c => (c (show (0 : Int) = 0 by decide)).elim)
    refine v_ic (v := Int32.ofInt 0) mt_234 rfl rfl ?_
    exact j_retb mt_234 rfl rfl (by decide) h
  · replace h := h.2 (Int.not_lt.mp c)
    refine v_s mt_162 rfl rfl rfl ?_
    refine v_s mt_162 rfl rfl rfl ?_
    obtain ⟨z2, h⟩ := h
    refine j_if2 mt_162 rfl rfl z1 z2 (fun c => ?_) (fun c => ?_)
    · replace h := h.1 c
      refine v_ic (v := Int32.ofInt 0) mt_162 rfl rfl ?_
      refine j_retb mt_162 rfl rfl (by decide) ?_
      refine v_s mt_226 rfl rfl rfl ?_
      refine v_ic (v := Int32.ofInt 0) mt_226 rfl rfl ?_
      refine v_inl (L1 := [some (.ref 542), some (iv 0), some (iv 1), some (iv 0)]) mt_226 rfl rfl mt_161 rfl rfl (m_callj (As := [iv 0, iv 1, iv 0]) (rest := []) rfl rfl c_542 rfl (Nat.le_of_ble_eq_true rfl) (Nat.le_of_ble_eq_true rfl)) rfl (by clear h; omega) ?_
      refine v_s mt_161 rfl rfl rfl ?_
      refine j_if1 mt_161 rfl rfl ⟨by decide, by decide⟩ (fun c => absurd (show ¬ (0 : Int) = 0 from c) (by decide)) (fun _ => ?_)
      refine v_s mt_161 rfl rfl rfl ?_
      refine j_gi (w := 0) 0 mt_161 rfl rfl c_542 (by decide) (up_eq _ _ _ _) ?_
      refine j_if1 mt_161 rfl rfl ⟨by decide, by decide⟩ (fun c => absurd (show ¬ (0 : Int) = 0 from c) (by decide)) (fun _ => ?_)
      refine v_s mt_161 rfl rfl rfl ?_
      refine v_s mt_161 rfl rfl rfl ?_
      refine j_pi 0 mt_161 rfl rfl c_542 (by decide) ?_
      refine v_s mt_161 rfl rfl rfl ?_
      refine v_gr (w := 543) 1 mt_161 rfl rfl c_542 (by decide) (g_12_1 c_542) ?_
      refine v_s mt_161 rfl rfl rfl ?_
      refine v_s mt_161 rfl rfl rfl ?_
      refine j_al (w := J 543 0) mt_161 rfl c_543 ⟨by decide, by decide⟩ (by decide) ((up_na (by decide)).trans ((up_na (by decide)).trans rfl)) ?_
      refine v_ic (v := Int32.ofInt 1) mt_161 rfl rfl ?_
      refine j_add (e := (J 543 0) + 1) mt_161 rfl rfl ?_
      refine j_as mt_161 rfl c_543 ⟨by decide, by decide⟩ (by decide) ?_
      refine v_s mt_161 rfl rfl rfl ?_
      refine j_gi (w := 1) 0 mt_161 rfl rfl c_542 (by decide) ((up_na (by decide)).trans (up_eq _ _ _ _)) ?_
      refine j_if1 mt_161 rfl rfl ⟨by decide, by decide⟩ (fun _ => ?_) (fun c => (c (show ¬ (1 : Int) = 0 by decide)).elim)
      refine v_ic (v := Int32.ofInt 0) mt_161 rfl rfl ?_
      refine j_retb mt_161 rfl rfl (by decide) ?_
      refine j_retb mt_226 rfl rfl (by decide) ?_
      refine j_if1 mt_234 rfl rfl ⟨by decide, by decide⟩ (fun _ => ?_) (fun c => (c (show (0 : Int) = 0 by decide)).elim)
      refine v_ic (v := Int32.ofInt 0) mt_234 rfl rfl ?_
      exact j_retb mt_234 rfl rfl (by decide) h
    · replace h := h.2 (Int.not_lt.mp c)
      refine v_ic (v := Int32.ofInt 1) mt_162 rfl rfl ?_
      refine v_go mt_162 rfl rfl ?_
      refine j_retb mt_162 rfl rfl (by decide) ?_
      refine v_s mt_226 rfl rfl rfl ?_
      refine v_ic (v := Int32.ofInt 0) mt_226 rfl rfl ?_
      refine v_inl (L1 := [some (.ref 542), some (iv 1), some (iv 1), some (iv 0)]) mt_226 rfl rfl mt_161 rfl rfl (m_callj (As := [iv 1, iv 1, iv 0]) (rest := []) rfl rfl c_542 rfl (Nat.le_of_ble_eq_true rfl) (Nat.le_of_ble_eq_true rfl)) rfl (by clear h; omega) ?_
      refine v_s mt_161 rfl rfl rfl ?_
      refine j_if1 mt_161 rfl rfl ⟨by decide, by decide⟩ (fun _ => ?_) (fun c => (c (show ¬ (1 : Int) = 0 by decide)).elim)
      refine v_s mt_161 rfl rfl rfl ?_
      refine j_gi (w := 0) 0 mt_161 rfl rfl c_542 (by decide) (up_eq _ _ _ _) ?_
      refine j_if1 mt_161 rfl rfl ⟨by decide, by decide⟩ (fun c => absurd (show ¬ (0 : Int) = 0 from c) (by decide)) (fun _ => ?_)
      refine v_ic (v := Int32.ofInt 1) mt_161 rfl rfl ?_
      refine v_go mt_161 rfl rfl ?_
      refine j_retb mt_161 rfl rfl (by decide) ?_
      refine j_retb mt_226 rfl rfl (by decide) ?_
      refine j_if1 mt_234 rfl rfl ⟨by decide, by decide⟩ (fun c => absurd (show (1 : Int) = 0 from c) (by decide)) (fun _ => ?_)
      refine v_s mt_234 rfl rfl rfl ?_
      refine v_s mt_234 rfl rfl rfl ?_
      refine v_ic (v := Int32.ofInt 1) mt_234 rfl rfl ?_
      refine v_inl (L1 := [some (.ref 542), some (iv x2), some (iv 1)]) mt_234 rfl rfl mt_225 rfl rfl (m_callj (As := [iv x2, iv 1]) (rest := []) rfl rfl c_542 rfl (Nat.le_of_ble_eq_true rfl) (Nat.le_of_ble_eq_true rfl)) rfl (by clear h; omega) ?_
      refine v_s mt_225 rfl rfl rfl ?_
      refine v_s mt_225 rfl rfl rfl ?_
      refine v_ic (v := Int32.ofInt 0) mt_225 rfl rfl ?_
      refine v_s mt_225 rfl rfl rfl ?_
      refine j_gi (w := J 542 24) 24 mt_225 rfl rfl c_542 (by decide) ((up_nk (by decide)).trans rfl) ?_
      refine v_ic (v := Int32.ofInt 1) mt_225 rfl rfl ?_
      refine j_sub (e := (J 542 24) - 1) mt_225 rfl rfl ?_
      refine v_inl (L1 := [some (iv x2), some (iv 0), some (iv ((J 542 24) - 1))]) mt_225 rfl rfl mt_162 rfl rfl rfl rfl (by clear h; omega) ?_
      refine v_s mt_162 rfl rfl rfl ?_
      refine v_s mt_162 rfl rfl rfl ?_
      obtain ⟨z3, h⟩ := h
      refine j_if2 mt_162 rfl rfl z3 ⟨by decide, by decide⟩ (fun c => ?_) (fun c => ?_)
      · replace h := h.1 c
        refine v_ic (v := Int32.ofInt 0) mt_162 rfl rfl ?_
        refine j_retb mt_162 rfl rfl (by decide) ?_
        refine v_s mt_225 rfl rfl rfl ?_
        refine v_ic (v := Int32.ofInt 0) mt_225 rfl rfl ?_
        refine v_inl (L1 := [some (.ref 542), some (iv 0), some (iv 1), some (iv 0)]) mt_225 rfl rfl mt_161 rfl rfl (m_callj (As := [iv 0, iv 1, iv 0]) (rest := []) rfl rfl c_542 rfl (Nat.le_of_ble_eq_true rfl) (Nat.le_of_ble_eq_true rfl)) rfl (by clear h; omega) ?_
        refine v_s mt_161 rfl rfl rfl ?_
        refine j_if1 mt_161 rfl rfl ⟨by decide, by decide⟩ (fun c => absurd (show ¬ (0 : Int) = 0 from c) (by decide)) (fun _ => ?_)
        refine v_s mt_161 rfl rfl rfl ?_
        refine j_gi (w := 0) 0 mt_161 rfl rfl c_542 (by decide) (up_eq _ _ _ _) ?_
        refine j_if1 mt_161 rfl rfl ⟨by decide, by decide⟩ (fun c => absurd (show ¬ (0 : Int) = 0 from c) (by decide)) (fun _ => ?_)
        refine v_s mt_161 rfl rfl rfl ?_
        refine v_s mt_161 rfl rfl rfl ?_
        refine j_pi 0 mt_161 rfl rfl c_542 (by decide) ?_
        refine v_s mt_161 rfl rfl rfl ?_
        refine v_gr (w := 543) 1 mt_161 rfl rfl c_542 (by decide) (g_12_1 c_542) ?_
        refine v_s mt_161 rfl rfl rfl ?_
        refine v_s mt_161 rfl rfl rfl ?_
        refine j_al (w := J 543 0) mt_161 rfl c_543 ⟨by decide, by decide⟩ (by decide) ((up_na (by decide)).trans ((up_na (by decide)).trans rfl)) ?_
        refine v_ic (v := Int32.ofInt 1) mt_161 rfl rfl ?_
        refine j_add (e := (J 543 0) + 1) mt_161 rfl rfl ?_
        refine j_as mt_161 rfl c_543 ⟨by decide, by decide⟩ (by decide) ?_
        refine v_s mt_161 rfl rfl rfl ?_
        refine j_gi (w := 1) 0 mt_161 rfl rfl c_542 (by decide) ((up_na (by decide)).trans (up_eq _ _ _ _)) ?_
        refine j_if1 mt_161 rfl rfl ⟨by decide, by decide⟩ (fun _ => ?_) (fun c => (c (show ¬ (1 : Int) = 0 by decide)).elim)
        refine v_ic (v := Int32.ofInt 0) mt_161 rfl rfl ?_
        refine j_retb mt_161 rfl rfl (by decide) ?_
        refine j_retb mt_225 rfl rfl (by decide) ?_
        refine j_if1 mt_234 rfl rfl ⟨by decide, by decide⟩ (fun _ => ?_) (fun c => (c (show (0 : Int) = 0 by decide)).elim)
        refine v_ic (v := Int32.ofInt 0) mt_234 rfl rfl ?_
        exact j_retb mt_234 rfl rfl (by decide) h
      · replace h := h.2 (Int.not_lt.mp c)
        refine v_s mt_162 rfl rfl rfl ?_
        refine v_s mt_162 rfl rfl rfl ?_
        obtain ⟨z4, h⟩ := h
        refine j_if2 mt_162 rfl rfl z3 z4 (fun c => ?_) (fun c => ?_)
        · replace h := h.1 c
          refine v_ic (v := Int32.ofInt 0) mt_162 rfl rfl ?_
          refine j_retb mt_162 rfl rfl (by decide) ?_
          refine v_s mt_225 rfl rfl rfl ?_
          refine v_ic (v := Int32.ofInt 0) mt_225 rfl rfl ?_
          refine v_inl (L1 := [some (.ref 542), some (iv 0), some (iv 1), some (iv 0)]) mt_225 rfl rfl mt_161 rfl rfl (m_callj (As := [iv 0, iv 1, iv 0]) (rest := []) rfl rfl c_542 rfl (Nat.le_of_ble_eq_true rfl) (Nat.le_of_ble_eq_true rfl)) rfl (by clear h; omega) ?_
          refine v_s mt_161 rfl rfl rfl ?_
          refine j_if1 mt_161 rfl rfl ⟨by decide, by decide⟩ (fun c => absurd (show ¬ (0 : Int) = 0 from c) (by decide)) (fun _ => ?_)
          refine v_s mt_161 rfl rfl rfl ?_
          refine j_gi (w := 0) 0 mt_161 rfl rfl c_542 (by decide) (up_eq _ _ _ _) ?_
          refine j_if1 mt_161 rfl rfl ⟨by decide, by decide⟩ (fun c => absurd (show ¬ (0 : Int) = 0 from c) (by decide)) (fun _ => ?_)
          refine v_s mt_161 rfl rfl rfl ?_
          refine v_s mt_161 rfl rfl rfl ?_
          refine j_pi 0 mt_161 rfl rfl c_542 (by decide) ?_
          refine v_s mt_161 rfl rfl rfl ?_
          refine v_gr (w := 543) 1 mt_161 rfl rfl c_542 (by decide) (g_12_1 c_542) ?_
          refine v_s mt_161 rfl rfl rfl ?_
          refine v_s mt_161 rfl rfl rfl ?_
          refine j_al (w := J 543 0) mt_161 rfl c_543 ⟨by decide, by decide⟩ (by decide) ((up_na (by decide)).trans ((up_na (by decide)).trans rfl)) ?_
          refine v_ic (v := Int32.ofInt 1) mt_161 rfl rfl ?_
          refine j_add (e := (J 543 0) + 1) mt_161 rfl rfl ?_
          refine j_as mt_161 rfl c_543 ⟨by decide, by decide⟩ (by decide) ?_
          refine v_s mt_161 rfl rfl rfl ?_
          refine j_gi (w := 1) 0 mt_161 rfl rfl c_542 (by decide) ((up_na (by decide)).trans (up_eq _ _ _ _)) ?_
          refine j_if1 mt_161 rfl rfl ⟨by decide, by decide⟩ (fun _ => ?_) (fun c => (c (show ¬ (1 : Int) = 0 by decide)).elim)
          refine v_ic (v := Int32.ofInt 0) mt_161 rfl rfl ?_
          refine j_retb mt_161 rfl rfl (by decide) ?_
          refine j_retb mt_225 rfl rfl (by decide) ?_
          refine j_if1 mt_234 rfl rfl ⟨by decide, by decide⟩ (fun _ => ?_) (fun c => (c (show (0 : Int) = 0 by decide)).elim)
          refine v_ic (v := Int32.ofInt 0) mt_234 rfl rfl ?_
          exact j_retb mt_234 rfl rfl (by decide) h
        · replace h := h.2 (Int.not_lt.mp c)
          refine v_ic (v := Int32.ofInt 1) mt_162 rfl rfl ?_
          refine v_go mt_162 rfl rfl ?_
          refine j_retb mt_162 rfl rfl (by decide) ?_
          refine v_s mt_225 rfl rfl rfl ?_
          refine v_ic (v := Int32.ofInt 0) mt_225 rfl rfl ?_
          refine v_inl (L1 := [some (.ref 542), some (iv 1), some (iv 1), some (iv 0)]) mt_225 rfl rfl mt_161 rfl rfl (m_callj (As := [iv 1, iv 1, iv 0]) (rest := []) rfl rfl c_542 rfl (Nat.le_of_ble_eq_true rfl) (Nat.le_of_ble_eq_true rfl)) rfl (by clear h; omega) ?_
          refine v_s mt_161 rfl rfl rfl ?_
          refine j_if1 mt_161 rfl rfl ⟨by decide, by decide⟩ (fun _ => ?_) (fun c => (c (show ¬ (1 : Int) = 0 by decide)).elim)
          refine v_s mt_161 rfl rfl rfl ?_
          refine j_gi (w := 0) 0 mt_161 rfl rfl c_542 (by decide) (up_eq _ _ _ _) ?_
          refine j_if1 mt_161 rfl rfl ⟨by decide, by decide⟩ (fun c => absurd (show ¬ (0 : Int) = 0 from c) (by decide)) (fun _ => ?_)
          refine v_ic (v := Int32.ofInt 1) mt_161 rfl rfl ?_
          refine v_go mt_161 rfl rfl ?_
          refine j_retb mt_161 rfl rfl (by decide) ?_
          refine j_retb mt_225 rfl rfl (by decide) ?_
          refine j_if1 mt_234 rfl rfl ⟨by decide, by decide⟩ (fun c => absurd (show (1 : Int) = 0 from c) (by decide)) (fun _ => ?_)
          refine v_s mt_234 rfl rfl rfl ?_
          refine v_s mt_234 rfl rfl rfl ?_
          refine v_ic (v := Int32.ofInt 1) mt_234 rfl rfl ?_
          refine v_inl (L1 := [some (.ref 542), some (iv x3), some (iv 1)]) mt_234 rfl rfl mt_227 rfl rfl (m_callj (As := [iv x3, iv 1]) (rest := []) rfl rfl c_542 rfl (Nat.le_of_ble_eq_true rfl) (Nat.le_of_ble_eq_true rfl)) rfl (by clear h; omega) ?_
          refine v_s mt_227 rfl rfl rfl ?_
          refine v_s mt_227 rfl rfl rfl ?_
          refine v_ic (v := Int32.ofInt 0) mt_227 rfl rfl ?_
          refine v_s mt_227 rfl rfl rfl ?_
          refine j_gi (w := J 542 26) 26 mt_227 rfl rfl c_542 (by decide) ((up_nk (by decide)).trans rfl) ?_
          refine v_ic (v := Int32.ofInt 1) mt_227 rfl rfl ?_
          refine j_sub (e := (J 542 26) - 1) mt_227 rfl rfl ?_
          refine v_inl (L1 := [some (iv x3), some (iv 0), some (iv ((J 542 26) - 1))]) mt_227 rfl rfl mt_162 rfl rfl rfl rfl (by clear h; omega) ?_
          refine v_s mt_162 rfl rfl rfl ?_
          refine v_s mt_162 rfl rfl rfl ?_
          obtain ⟨z5, h⟩ := h
          refine j_if2 mt_162 rfl rfl z5 ⟨by decide, by decide⟩ (fun c => ?_) (fun c => ?_)
          · replace h := h.1 c
            refine v_ic (v := Int32.ofInt 0) mt_162 rfl rfl ?_
            refine j_retb mt_162 rfl rfl (by decide) ?_
            refine v_s mt_227 rfl rfl rfl ?_
            refine v_ic (v := Int32.ofInt 0) mt_227 rfl rfl ?_
            refine v_inl (L1 := [some (.ref 542), some (iv 0), some (iv 1), some (iv 0)]) mt_227 rfl rfl mt_161 rfl rfl (m_callj (As := [iv 0, iv 1, iv 0]) (rest := []) rfl rfl c_542 rfl (Nat.le_of_ble_eq_true rfl) (Nat.le_of_ble_eq_true rfl)) rfl (by clear h; omega) ?_
            refine v_s mt_161 rfl rfl rfl ?_
            refine j_if1 mt_161 rfl rfl ⟨by decide, by decide⟩ (fun c => absurd (show ¬ (0 : Int) = 0 from c) (by decide)) (fun _ => ?_)
            refine v_s mt_161 rfl rfl rfl ?_
            refine j_gi (w := 0) 0 mt_161 rfl rfl c_542 (by decide) (up_eq _ _ _ _) ?_
            refine j_if1 mt_161 rfl rfl ⟨by decide, by decide⟩ (fun c => absurd (show ¬ (0 : Int) = 0 from c) (by decide)) (fun _ => ?_)
            refine v_s mt_161 rfl rfl rfl ?_
            refine v_s mt_161 rfl rfl rfl ?_
            refine j_pi 0 mt_161 rfl rfl c_542 (by decide) ?_
            refine v_s mt_161 rfl rfl rfl ?_
            refine v_gr (w := 543) 1 mt_161 rfl rfl c_542 (by decide) (g_12_1 c_542) ?_
            refine v_s mt_161 rfl rfl rfl ?_
            refine v_s mt_161 rfl rfl rfl ?_
            refine j_al (w := J 543 0) mt_161 rfl c_543 ⟨by decide, by decide⟩ (by decide) ((up_na (by decide)).trans ((up_na (by decide)).trans rfl)) ?_
            refine v_ic (v := Int32.ofInt 1) mt_161 rfl rfl ?_
            refine j_add (e := (J 543 0) + 1) mt_161 rfl rfl ?_
            refine j_as mt_161 rfl c_543 ⟨by decide, by decide⟩ (by decide) ?_
            refine v_s mt_161 rfl rfl rfl ?_
            refine j_gi (w := 1) 0 mt_161 rfl rfl c_542 (by decide) ((up_na (by decide)).trans (up_eq _ _ _ _)) ?_
            refine j_if1 mt_161 rfl rfl ⟨by decide, by decide⟩ (fun _ => ?_) (fun c => (c (show ¬ (1 : Int) = 0 by decide)).elim)
            refine v_ic (v := Int32.ofInt 0) mt_161 rfl rfl ?_
            refine j_retb mt_161 rfl rfl (by decide) ?_
            refine j_retb mt_227 rfl rfl (by decide) ?_
            refine j_if1 mt_234 rfl rfl ⟨by decide, by decide⟩ (fun c => absurd (show ¬ (0 : Int) = 0 from c) (by decide)) (fun _ => ?_)
            refine v_ic (v := Int32.ofInt 0) mt_234 rfl rfl ?_
            exact j_retb mt_234 rfl rfl (by decide) h
          · replace h := h.2 (Int.not_lt.mp c)
            refine v_s mt_162 rfl rfl rfl ?_
            refine v_s mt_162 rfl rfl rfl ?_
            obtain ⟨z6, h⟩ := h
            refine j_if2 mt_162 rfl rfl z5 z6 (fun c => ?_) (fun c => ?_)
            · replace h := h.1 c
              refine v_ic (v := Int32.ofInt 0) mt_162 rfl rfl ?_
              refine j_retb mt_162 rfl rfl (by decide) ?_
              refine v_s mt_227 rfl rfl rfl ?_
              refine v_ic (v := Int32.ofInt 0) mt_227 rfl rfl ?_
              refine v_inl (L1 := [some (.ref 542), some (iv 0), some (iv 1), some (iv 0)]) mt_227 rfl rfl mt_161 rfl rfl (m_callj (As := [iv 0, iv 1, iv 0]) (rest := []) rfl rfl c_542 rfl (Nat.le_of_ble_eq_true rfl) (Nat.le_of_ble_eq_true rfl)) rfl (by clear h; omega) ?_
              refine v_s mt_161 rfl rfl rfl ?_
              refine j_if1 mt_161 rfl rfl ⟨by decide, by decide⟩ (fun c => absurd (show ¬ (0 : Int) = 0 from c) (by decide)) (fun _ => ?_)
              refine v_s mt_161 rfl rfl rfl ?_
              refine j_gi (w := 0) 0 mt_161 rfl rfl c_542 (by decide) (up_eq _ _ _ _) ?_
              refine j_if1 mt_161 rfl rfl ⟨by decide, by decide⟩ (fun c => absurd (show ¬ (0 : Int) = 0 from c) (by decide)) (fun _ => ?_)
              refine v_s mt_161 rfl rfl rfl ?_
              refine v_s mt_161 rfl rfl rfl ?_
              refine j_pi 0 mt_161 rfl rfl c_542 (by decide) ?_
              refine v_s mt_161 rfl rfl rfl ?_
              refine v_gr (w := 543) 1 mt_161 rfl rfl c_542 (by decide) (g_12_1 c_542) ?_
              refine v_s mt_161 rfl rfl rfl ?_
              refine v_s mt_161 rfl rfl rfl ?_
              refine j_al (w := J 543 0) mt_161 rfl c_543 ⟨by decide, by decide⟩ (by decide) ((up_na (by decide)).trans ((up_na (by decide)).trans rfl)) ?_
              refine v_ic (v := Int32.ofInt 1) mt_161 rfl rfl ?_
              refine j_add (e := (J 543 0) + 1) mt_161 rfl rfl ?_
              refine j_as mt_161 rfl c_543 ⟨by decide, by decide⟩ (by decide) ?_
              refine v_s mt_161 rfl rfl rfl ?_
              refine j_gi (w := 1) 0 mt_161 rfl rfl c_542 (by decide) ((up_na (by decide)).trans (up_eq _ _ _ _)) ?_
              refine j_if1 mt_161 rfl rfl ⟨by decide, by decide⟩ (fun _ => ?_) (fun c => (c (show ¬ (1 : Int) = 0 by decide)).elim)
              refine v_ic (v := Int32.ofInt 0) mt_161 rfl rfl ?_
              refine j_retb mt_161 rfl rfl (by decide) ?_
              refine j_retb mt_227 rfl rfl (by decide) ?_
              refine j_if1 mt_234 rfl rfl ⟨by decide, by decide⟩ (fun c => absurd (show ¬ (0 : Int) = 0 from c) (by decide)) (fun _ => ?_)
              refine v_ic (v := Int32.ofInt 0) mt_234 rfl rfl ?_
              exact j_retb mt_234 rfl rfl (by decide) h
            · replace h := h.2 (Int.not_lt.mp c)
              refine v_ic (v := Int32.ofInt 1) mt_162 rfl rfl ?_
              refine v_go mt_162 rfl rfl ?_
              refine j_retb mt_162 rfl rfl (by decide) ?_
              refine v_s mt_227 rfl rfl rfl ?_
              refine v_ic (v := Int32.ofInt 0) mt_227 rfl rfl ?_
              refine v_inl (L1 := [some (.ref 542), some (iv 1), some (iv 1), some (iv 0)]) mt_227 rfl rfl mt_161 rfl rfl (m_callj (As := [iv 1, iv 1, iv 0]) (rest := []) rfl rfl c_542 rfl (Nat.le_of_ble_eq_true rfl) (Nat.le_of_ble_eq_true rfl)) rfl (by clear h; omega) ?_
              refine v_s mt_161 rfl rfl rfl ?_
              refine j_if1 mt_161 rfl rfl ⟨by decide, by decide⟩ (fun _ => ?_) (fun c => (c (show ¬ (1 : Int) = 0 by decide)).elim)
              refine v_s mt_161 rfl rfl rfl ?_
              refine j_gi (w := 0) 0 mt_161 rfl rfl c_542 (by decide) (up_eq _ _ _ _) ?_
              refine j_if1 mt_161 rfl rfl ⟨by decide, by decide⟩ (fun c => absurd (show ¬ (0 : Int) = 0 from c) (by decide)) (fun _ => ?_)
              refine v_ic (v := Int32.ofInt 1) mt_161 rfl rfl ?_
              refine v_go mt_161 rfl rfl ?_
              refine j_retb mt_161 rfl rfl (by decide) ?_
              refine j_retb mt_227 rfl rfl (by decide) ?_
              refine j_if1 mt_234 rfl rfl ⟨by decide, by decide⟩ (fun _ => ?_) (fun c => (c (show ¬ (1 : Int) = 0 by decide)).elim)
              refine v_s mt_234 rfl rfl rfl ?_
              obtain ⟨J1, z7, h⟩ := h
              refine v_call (d1 := 1) mt_234 rfl rfl mt_204 rfl rfl (m_callj (As := []) (rest := []) rfl rfl c_542 rfl (Nat.le_of_ble_eq_true rfl) (Nat.le_of_ble_eq_true rfl)) z7 (by clear h; omega) ?_
              refine v_s mt_234 rfl rfl rfl ?_
              refine v_s mt_234 rfl rfl rfl ?_
              refine v_s mt_234 rfl rfl rfl ?_
              refine v_s mt_234 rfl rfl rfl ?_
              refine v_inl (L1 := [some (.ref 542), some (iv x1), some (iv x2), some (iv x3)]) mt_234 rfl rfl mt_211 rfl rfl (m_callj (As := [iv x1, iv x2, iv x3]) (rest := []) rfl rfl c_542 rfl (Nat.le_of_ble_eq_true rfl) (Nat.le_of_ble_eq_true rfl)) rfl (by clear h; omega) ?_
              refine v_s mt_211 rfl rfl rfl ?_
              refine v_gr (w := 562) 46 mt_211 rfl rfl c_542 (by decide) (g_12_46 c_542) ?_
              refine v_bp (v := Int32.ofInt 48) mt_211 rfl rfl ?_
              refine j_al (w := J1 562 48) mt_211 rfl c_562 ⟨by decide, by decide⟩ (by decide) rfl ?_
              obtain ⟨z8, h⟩ := h
              refine j_if1 mt_211 rfl rfl z8 (fun c => ?_) (fun c => ?_)
              · replace h := h.1 c
                refine v_ic (v := Int32.ofInt 0) mt_211 rfl rfl ?_
                refine j_retb mt_211 rfl rfl (by decide) ?_
                exact j_retb mt_234 rfl rfl (by decide) h
              · replace h := h.2 (Int.not_le.mp c)
                refine v_s mt_211 rfl rfl rfl ?_
                refine v_s mt_211 rfl rfl rfl ?_
                refine v_inl (L1 := [some (.ref 542), some (iv x2)]) mt_211 rfl rfl mt_208 rfl rfl (m_callj (As := [iv x2]) (rest := []) rfl rfl c_542 rfl (Nat.le_of_ble_eq_true rfl) (Nat.le_of_ble_eq_true rfl)) rfl (by clear h; omega) ?_
                refine v_s mt_208 rfl rfl rfl ?_
                refine v_gr (w := 562) 46 mt_208 rfl rfl c_542 (by decide) (g_12_46 c_542) ?_
                refine v_ic (v := Int32.ofInt 0) mt_208 rfl rfl ?_
                refine v_s mt_208 rfl rfl rfl ?_
                refine j_add (e := x2) mt_208 rfl (Int.zero_add _) ?_
                obtain ⟨z9, h⟩ := h
                refine j_al (w := J1 562 x2.toNat) mt_208 rfl c_562 z9 (by decide) rfl ?_
                refine v_s mt_208 rfl rfl rfl ?_
                refine v_gr (w := 549) 14 mt_208 rfl rfl c_542 (by decide) (g_12_14 c_542) ?_
                refine v_s mt_208 rfl rfl rfl ?_
                obtain ⟨z10, h⟩ := h
                refine j_al (w := J1 549 x2.toNat) mt_208 rfl c_549 z10 (by decide) rfl ?_
                obtain ⟨z11, h⟩ := h
                obtain ⟨z12, h⟩ := h
                refine j_if2 mt_208 rfl rfl z11 z12 (fun c => ?_) (fun c => ?_)
                · replace h := h.1 c
                  refine v_ic (v := Int32.ofInt 0) mt_208 rfl rfl ?_
                  refine j_retb mt_208 rfl rfl (by decide) ?_
                  refine j_if1 mt_211 rfl rfl ⟨by decide, by decide⟩ (fun c => absurd (show ¬ (0 : Int) = 0 from c) (by decide)) (fun _ => ?_)
                  refine v_s mt_211 rfl rfl rfl ?_
                  refine v_gr (w := 562) 46 mt_211 rfl rfl c_542 (by decide) (g_12_46 c_542) ?_
                  refine v_bp (v := Int32.ofInt 18) mt_211 rfl rfl ?_
                  refine v_s mt_211 rfl rfl rfl ?_
                  refine j_add (e := 18 + x1) mt_211 rfl rfl ?_
                  obtain ⟨z13, h⟩ := h
                  refine j_al (w := J1 562 ((18 + x1).toNat)) mt_211 rfl c_562 z13 (by decide) rfl ?_
                  obtain ⟨z14, h⟩ := h
                  refine j_if1 mt_211 rfl rfl z14 (fun c => ?_) (fun c => ?_)
                  · replace h := h.1 c
                    refine v_ic (v := Int32.ofInt 0) mt_211 rfl rfl ?_
                    refine j_retb mt_211 rfl rfl (by decide) ?_
                    exact j_retb mt_234 rfl rfl (by decide) h
                  · replace h := h.2 (Decidable.not_not.mp c)
                    refine v_s mt_211 rfl rfl rfl ?_
                    refine v_gr (w := 562) 46 mt_211 rfl rfl c_542 (by decide) (g_12_46 c_542) ?_
                    refine v_bp (v := Int32.ofInt 30) mt_211 rfl rfl ?_
                    refine v_s mt_211 rfl rfl rfl ?_
                    refine j_add (e := 30 + x3) mt_211 rfl rfl ?_
                    obtain ⟨z15, h⟩ := h
                    refine j_al (w := J1 562 ((30 + x3).toNat)) mt_211 rfl c_562 z15 (by decide) rfl ?_
                    obtain ⟨z16, h⟩ := h
                    refine j_if1 mt_211 rfl rfl z16 (fun c => ?_) (fun c => ?_)
                    · replace h := h.1 c
                      refine v_ic (v := Int32.ofInt 0) mt_211 rfl rfl ?_
                      refine j_retb mt_211 rfl rfl (by decide) ?_
                      exact j_retb mt_234 rfl rfl (by decide) h
                    · replace h := h.2 (Int.not_le.mp c)
                      refine v_ic (v := Int32.ofInt 1) mt_211 rfl rfl ?_
                      refine v_go mt_211 rfl rfl ?_
                      refine j_retb mt_211 rfl rfl (by decide) ?_
                      exact j_retb mt_234 rfl rfl (by decide) h
                · replace h := h.2 (Int.not_lt.mp c)
                  refine v_ic (v := Int32.ofInt 1) mt_208 rfl rfl ?_
                  refine v_go mt_208 rfl rfl ?_
                  refine j_retb mt_208 rfl rfl (by decide) ?_
                  refine j_if1 mt_211 rfl rfl ⟨by decide, by decide⟩ (fun _ => ?_) (fun c => (c (show ¬ (1 : Int) = 0 by decide)).elim)
                  refine v_ic (v := Int32.ofInt 0) mt_211 rfl rfl ?_
                  refine j_retb mt_211 rfl rfl (by decide) ?_
                  exact j_retb mt_234 rfl rfl (by decide) h
set_option maxHeartbeats 600000 in
theorem b_274_0 {X : Nat × (Nat → Int32)} {d : Nat} {J : Nat → Nat → Int} {sw : Bool × Bool × Bool} {lg : Nat → Nat → Int64} {x : Nat} {K : (Option Value ⊕ Nat) → mM → Prop} {x1 : Int} (hd : 1 ≤ d)
    (h : InR x1 ∧ (x1 < 0 → K (.inl (some (iv (-1)))) (mj (m_up J 542 0 0) sw lg x)) ∧ (0 ≤ x1 → ((1 < x1 → K (.inl (some (iv (-1)))) (mj (m_up J 542 0 0) sw lg x)) ∧ (x1 ≤ 1 → ((0 ≤ x1 ∧ x1 < 2) ∧ K (.inl (some (iv (J 543 x1.toNat)))) (mj (m_up J 542 0 0) sw lg x)))))) : VV X d 274 (0, [some (.ref 542), some (iv x1)], [], mj J sw lg x) K := by
  refine v_s mt_274 rfl rfl rfl ?_
  refine v_ic (v := Int32.ofInt 0) mt_274 rfl rfl ?_
  refine j_pi 0 mt_274 rfl rfl c_542 (by decide) ?_
  refine v_s mt_274 rfl rfl rfl ?_
  refine v_ic (v := Int32.ofInt 0) mt_274 rfl rfl ?_
  refine v_ic (v := Int32.ofInt 1) mt_274 rfl rfl ?_
  refine v_inl (L1 := [some (iv x1), some (iv 0), some (iv 1)]) mt_274 rfl rfl mt_162 rfl rfl rfl rfl (by clear h; omega) ?_
  refine v_s mt_162 rfl rfl rfl ?_
  refine v_s mt_162 rfl rfl rfl ?_
  obtain ⟨z1, h⟩ := h
  refine j_if2 mt_162 rfl rfl z1 ⟨by decide, by decide⟩ (fun c => ?_) (fun c => ?_)
  · replace h := h.1 c
    refine v_ic (v := Int32.ofInt 0) mt_162 rfl rfl ?_
    refine j_retb mt_162 rfl rfl (by decide) ?_
    refine j_if1 mt_274 rfl rfl ⟨by decide, by decide⟩ (fun _ => ?_) (fun c => (c (show (0 : Int) = 0 by decide)).elim)
    refine v_ic (v := Int32.ofInt (-1)) mt_274 rfl rfl ?_
    exact v_ret mt_274 rfl rfl rfl h
  · replace h := h.2 (Int.not_lt.mp c)
    refine v_s mt_162 rfl rfl rfl ?_
    refine v_s mt_162 rfl rfl rfl ?_
    refine j_if2 mt_162 rfl rfl z1 ⟨by decide, by decide⟩ (fun c => ?_) (fun c => ?_)
    · replace h := h.1 c
      refine v_ic (v := Int32.ofInt 0) mt_162 rfl rfl ?_
      refine j_retb mt_162 rfl rfl (by decide) ?_
      refine j_if1 mt_274 rfl rfl ⟨by decide, by decide⟩ (fun _ => ?_) (fun c => (c (show (0 : Int) = 0 by decide)).elim)
      refine v_ic (v := Int32.ofInt (-1)) mt_274 rfl rfl ?_
      exact v_ret mt_274 rfl rfl rfl h
    · replace h := h.2 (Int.not_lt.mp c)
      refine v_ic (v := Int32.ofInt 1) mt_162 rfl rfl ?_
      refine v_go mt_162 rfl rfl ?_
      refine j_retb mt_162 rfl rfl (by decide) ?_
      refine j_if1 mt_274 rfl rfl ⟨by decide, by decide⟩ (fun c => absurd (show (1 : Int) = 0 from c) (by decide)) (fun _ => ?_)
      refine v_s mt_274 rfl rfl rfl ?_
      refine v_gr (w := 543) 1 mt_274 rfl rfl c_542 (by decide) (g_12_1 c_542) ?_
      refine v_s mt_274 rfl rfl rfl ?_
      obtain ⟨z2, h⟩ := h
      refine j_al (w := J 543 x1.toNat) mt_274 rfl c_543 z2 (by decide) ((up_na (by decide)).trans rfl) ?_
      refine v_go mt_274 rfl rfl ?_
      exact v_ret mt_274 rfl rfl rfl h
set_option maxHeartbeats 600000 in
theorem b_275_0 {X : Nat × (Nat → Int32)} {d : Nat} {J : Nat → Nat → Int} {sw : Bool × Bool × Bool} {lg : Nat → Nat → Int64} {x : Nat} {K : (Option Value ⊕ Nat) → mM → Prop} {x1 : Int}
    (h : InR x1 ∧ (¬ x1 = 0 → ((¬ x1 = 1 → ((¬ x1 = 2 → K (.inl (some (iv (-1)))) (mj (m_up J 542 0 0) sw lg x)) ∧ (x1 = 2 → K (.inl (some (iv (J 542 40)))) (mj (m_up J 542 0 0) sw lg x)))) ∧ (x1 = 1 → K (.inl (some (iv (J 542 2)))) (mj (m_up J 542 0 0) sw lg x)))) ∧ (x1 = 0 → K (.inl (some (iv (J 542 59)))) (mj (m_up J 542 0 0) sw lg x))) : VV X d 275 (0, [some (.ref 542), some (iv x1)], [], mj J sw lg x) K := by
  refine v_s mt_275 rfl rfl rfl ?_
  refine v_ic (v := Int32.ofInt 0) mt_275 rfl rfl ?_
  refine j_pi 0 mt_275 rfl rfl c_542 (by decide) ?_
  refine v_s mt_275 rfl rfl rfl ?_
  obtain ⟨z1, h⟩ := h
  refine j_if1 mt_275 rfl rfl z1 (fun c => ?_) (fun c => ?_)
  · replace h := h.1 c
    refine v_s mt_275 rfl rfl rfl ?_
    refine v_ic (v := Int32.ofInt 1) mt_275 rfl rfl ?_
    refine j_if2 mt_275 rfl rfl z1 ⟨by decide, by decide⟩ (fun c => ?_) (fun c => ?_)
    · replace h := h.1 c
      refine v_s mt_275 rfl rfl rfl ?_
      refine v_ic (v := Int32.ofInt 2) mt_275 rfl rfl ?_
      refine j_if2 mt_275 rfl rfl z1 ⟨by decide, by decide⟩ (fun c => ?_) (fun c => ?_)
      · replace h := h.1 c
        refine v_ic (v := Int32.ofInt (-1)) mt_275 rfl rfl ?_
        exact v_ret mt_275 rfl rfl rfl h
      · replace h := h.2 (Decidable.not_not.mp c)
        refine v_s mt_275 rfl rfl rfl ?_
        refine j_gi (w := J 542 40) 40 mt_275 rfl rfl c_542 (by decide) ((up_nk (by decide)).trans rfl) ?_
        refine v_go mt_275 rfl rfl ?_
        exact v_ret mt_275 rfl rfl rfl h
    · replace h := h.2 (Decidable.not_not.mp c)
      refine v_s mt_275 rfl rfl rfl ?_
      refine j_gi (w := J 542 2) 2 mt_275 rfl rfl c_542 (by decide) ((up_nk (by decide)).trans rfl) ?_
      refine v_go mt_275 rfl rfl ?_
      exact v_ret mt_275 rfl rfl rfl h
  · replace h := h.2 (Decidable.not_not.mp c)
    refine v_s mt_275 rfl rfl rfl ?_
    refine j_gi (w := J 542 59) 59 mt_275 rfl rfl c_542 (by decide) ((up_nk (by decide)).trans rfl) ?_
    refine v_go mt_275 rfl rfl ?_
    exact v_ret mt_275 rfl rfl rfl h
