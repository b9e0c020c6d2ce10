set_option maxHeartbeats 600000 in
theorem b_59_0 {X : Nat × (Nat → Int32)} {d : Nat} {J : Nat → Nat → Int} {sw : Bool × Bool × Bool} {lg : Nat → Nat → Int64} {x : Nat} {K : (Option Value ⊕ Nat) → mM → Prop} {r0 r1 : Nat} {x2 : Int} {o3 o4 o5 : Option Value} (h0 : SH[r0]? = some (11, 9)) (h1 : SH[r1]? = some (14, 12))
    (h : VV X d 59 (8, [some (.ref r0), some (.ref r1), some (iv x2), some (iv (-1)), some (iv 0), some (iv 0)], [], mj J sw lg x) K) : VV X d 59 (0, [some (.ref r0), some (.ref r1), some (iv x2), o3, o4, o5], [], mj J sw lg x) K := by
  refine v_ic (v := Int32.ofInt (-1)) mt_59 rfl rfl ?_
  refine v_isn (L' := [some (.ref r0), some (.ref r1), some (iv x2), some (iv (-1)), o4, o5]) mt_59 rfl (Nat.le_of_ble_eq_true rfl) rfl ?_
  refine v_ic (v := Int32.ofInt 0) mt_59 rfl rfl ?_
  refine v_is (L' := [some (.ref r0), some (.ref r1), some (iv x2), some (iv (-1)), some (iv 0), o5]) mt_59 rfl (Nat.le_of_ble_eq_true rfl) rfl ?_
  refine v_ic (v := Int32.ofInt 0) mt_59 rfl rfl ?_
  refine v_is (L' := [some (.ref r0), some (.ref r1), some (iv x2), some (iv (-1)), some (iv 0), some (iv 0)]) mt_59 rfl (Nat.le_of_ble_eq_true rfl) rfl ?_
  exact h
set_option maxHeartbeats 600000 in
theorem b_59_8 {X : Nat × (Nat → Int32)} {d : Nat} {J : Nat → Nat → Int} {sw : Bool × Bool × Bool} {lg : Nat → Nat → Int64} {x : Nat} {K : (Option Value ⊕ Nat) → mM → Prop} {r0 r1 : Nat} {x2 x3 x4 x5 : Int} (h0 : SH[r0]? = some (11, 9)) (h1 : SH[r1]? = some (14, 12))
    (h : InR x5 ∧ InR (J r1 2) ∧ (J r1 2 ≤ x5 → K (.inl (some (iv x3))) (mj J sw lg x)) ∧ (x5 < J r1 2 → ((bAnd (bShr x2 x5) 1 = 0 → VV X d 59 (8, [some (.ref r0), some (.ref r1), some (iv x2), some (iv x3), some (iv x4), some (iv (x5 + 1))], [], mj J sw lg x) K) ∧ (¬ bAnd (bShr x2 x5) 1 = 0 → ((0 ≤ x5 ∧ x5 < 9) ∧ InR (J (r0 + 5) x5.toNat) ∧ InR x4 ∧ (J (r0 + 5) x5.toNat ≤ x4 → VV X d 59 (8, [some (.ref r0), some (.ref r1), some (iv x2), some (iv x3), some (iv x4), some (iv (x5 + 1))], [], mj J sw lg x) K) ∧ (x4 < J (r0 + 5) x5.toNat → VV X d 59 (8, [some (.ref r0), some (.ref r1), some (iv x2), some (iv x5), some (iv (J (r0 + 5) x5.toNat)), some (iv (x5 + 1))], [], mj J sw lg x) K)))))) : VV X d 59 (8, [some (.ref r0), some (.ref r1), some (iv x2), some (iv x3), some (iv x4), some (iv x5)], [], mj J sw lg x) K := by
  refine v_s mt_59 rfl rfl rfl ?_
  refine v_s mt_59 rfl rfl rfl ?_
  refine j_gi (w := J r1 2) 2 mt_59 rfl rfl h1 (by decide) rfl ?_
  obtain ⟨z1, h⟩ := h
  obtain ⟨z2, h⟩ := h
  refine j_if2 mt_59 rfl rfl z1 z2 (fun c => ?_) (fun c => ?_)
  · replace h := h.1 c
    refine v_s mt_59 rfl rfl rfl ?_
    exact v_ret mt_59 rfl rfl rfl h
  · replace h := h.2 (Int.not_le.mp c)
    refine v_s mt_59 rfl rfl rfl ?_
    refine v_s mt_59 rfl rfl rfl ?_
    refine j_shr (e := bShr x2 x5) mt_59 rfl rfl ?_
    refine v_ic (v := Int32.ofInt 1) mt_59 rfl rfl ?_
    refine j_and (e := bAnd (bShr x2 x5) 1) mt_59 rfl rfl ?_
    refine j_if1 mt_59 rfl rfl (inT _) (fun c => ?_) (fun c => ?_)
    · replace h := h.1 c
      refine j_inc (e := x5 + 1) (L' := [some (.ref r0), some (.ref r1), some (iv x2), some (iv x3), some (iv x4), some (iv (x5 + 1))]) mt_59 rfl rfl (Nat.le_of_ble_eq_true rfl) rfl rfl ?_
      refine v_go mt_59 rfl rfl ?_
      exact h
    · replace h := h.2 c
      refine v_s mt_59 rfl rfl rfl ?_
      refine v_gr (w := (r0 + 5)) 4 mt_59 rfl rfl h0 (by decide) (g_6_4 h0) ?_
      refine v_s mt_59 rfl rfl rfl ?_
      obtain ⟨z3, h⟩ := h
      refine j_al (w := J (r0 + 5) x5.toNat) mt_59 rfl (shS r0 (SH_lt h0) h0).2.2.2.2.1 z3 (by decide) rfl ?_
      refine v_s mt_59 rfl rfl rfl ?_
      obtain ⟨z4, h⟩ := h
      obtain ⟨z5, h⟩ := h
      refine j_if2 mt_59 rfl rfl z4 z5 (fun c => ?_) (fun c => ?_)
      · replace h := h.1 c
        refine j_inc (e := x5 + 1) (L' := [some (.ref r0), some (.ref r1), some (iv x2), some (iv x3), some (iv x4), some (iv (x5 + 1))]) mt_59 rfl rfl (Nat.le_of_ble_eq_true rfl) rfl rfl ?_
        refine v_go mt_59 rfl rfl ?_
        exact h
      · replace h := h.2 (Int.not_le.mp c)
        refine v_s mt_59 rfl rfl rfl ?_
        refine v_isn (L' := [some (.ref r0), some (.ref r1), some (iv x2), some (iv x5), some (iv x4), some (iv x5)]) mt_59 rfl (Nat.le_of_ble_eq_true rfl) rfl ?_
        refine v_s mt_59 rfl rfl rfl ?_
        refine v_gr (w := (r0 + 5)) 4 mt_59 rfl rfl h0 (by decide) (g_6_4 h0) ?_
        refine v_s mt_59 rfl rfl rfl ?_
        refine j_al (w := J (r0 + 5) x5.toNat) mt_59 rfl (shS r0 (SH_lt h0) h0).2.2.2.2.1 z3 (by decide) rfl ?_
        refine v_is (L' := [some (.ref r0), some (.ref r1), some (iv x2), some (iv x5), some (iv (J (r0 + 5) x5.toNat)), some (iv x5)]) mt_59 rfl (Nat.le_of_ble_eq_true rfl) rfl ?_
        refine j_inc (e := x5 + 1) (L' := [some (.ref r0), some (.ref r1), some (iv x2), some (iv x5), some (iv (J (r0 + 5) x5.toNat)), some (iv (x5 + 1))]) mt_59 rfl rfl (Nat.le_of_ble_eq_true rfl) rfl rfl ?_
        refine v_go mt_59 rfl rfl ?_
        exact h
set_option maxHeartbeats 600000 in
theorem b_60_0 {X : Nat × (Nat → Int32)} {d : Nat} {J : Nat → Nat → Int} {sw : Bool × Bool × Bool} {lg : Nat → Nat → Int64} {x : Nat} {K : (Option Value ⊕ Nat) → mM → Prop} {r0 r1 : Nat} {o2 o3 o4 : Option Value} (h0 : SH[r0]? = some (11, 9)) (h1 : SH[r1]? = some (14, 12))
    (h : VV X d 60 (7, [some (.ref r0), some (.ref r1), some (iv (-1)), some (iv 0), some (iv 0)], [], mj J sw lg x) K) : VV X d 60 (0, [some (.ref r0), some (.ref r1), o2, o3, o4], [], mj J sw lg x) K := by
  refine v_ic (v := Int32.ofInt (-1)) mt_60 rfl rfl ?_
  refine v_isn (L' := [some (.ref r0), some (.ref r1), some (iv (-1)), o3, o4]) mt_60 rfl (Nat.le_of_ble_eq_true rfl) rfl ?_
  refine v_ic (v := Int32.ofInt 0) mt_60 rfl rfl ?_
  refine v_isn (L' := [some (.ref r0), some (.ref r1), some (iv (-1)), some (iv 0), o4]) mt_60 rfl (Nat.le_of_ble_eq_true rfl) rfl ?_
  refine v_ic (v := Int32.ofInt 0) mt_60 rfl rfl ?_
  refine v_is (L' := [some (.ref r0), some (.ref r1), some (iv (-1)), some (iv 0), some (iv 0)]) mt_60 rfl (Nat.le_of_ble_eq_true rfl) rfl ?_
  exact h
set_option maxHeartbeats 600000 in
theorem b_60_7 {X : Nat × (Nat → Int32)} {d : Nat} {J : Nat → Nat → Int} {sw : Bool × Bool × Bool} {lg : Nat → Nat → Int64} {x : Nat} {K : (Option Value ⊕ Nat) → mM → Prop} {r0 r1 : Nat} {x2 x3 x4 : Int} (h0 : SH[r0]? = some (11, 9)) (h1 : SH[r1]? = some (14, 12))
    (h : InR x4 ∧ InR (J r1 2) ∧ (J r1 2 ≤ x4 → K (.inl (some (iv x2))) (mj J sw lg x)) ∧ (x4 < J r1 2 → ((0 ≤ x4 ∧ x4 < 9) ∧ InR (J (r0 + 6) x4.toNat) ∧ InR x3 ∧ (J (r0 + 6) x4.toNat ≤ x3 → VV X d 60 (7, [some (.ref r0), some (.ref r1), some (iv x2), some (iv x3), some (iv (x4 + 1))], [], mj J sw lg x) K) ∧ (x3 < J (r0 + 6) x4.toNat → VV X d 60 (7, [some (.ref r0), some (.ref r1), some (iv x4), some (iv (J (r0 + 6) x4.toNat)), some (iv (x4 + 1))], [], mj J sw lg x) K)))) : VV X d 60 (7, [some (.ref r0), some (.ref r1), some (iv x2), some (iv x3), some (iv x4)], [], mj J sw lg x) K := by
  refine v_s mt_60 rfl rfl rfl ?_
  refine v_s mt_60 rfl rfl rfl ?_
  refine j_gi (w := J r1 2) 2 mt_60 rfl rfl h1 (by decide) rfl ?_
  obtain ⟨z1, h⟩ := h
  obtain ⟨z2, h⟩ := h
  refine j_if2 mt_60 rfl rfl z1 z2 (fun c => ?_) (fun c => ?_)
  · replace h := h.1 c
    refine v_s mt_60 rfl rfl rfl ?_
    exact v_ret mt_60 rfl rfl rfl h
  · replace h := h.2 (Int.not_le.mp c)
    refine v_s mt_60 rfl rfl rfl ?_
    refine v_gr (w := (r0 + 6)) 5 mt_60 rfl rfl h0 (by decide) (g_6_5 h0) ?_
    refine v_s mt_60 rfl rfl rfl ?_
    obtain ⟨z3, h⟩ := h
    refine j_al (w := J (r0 + 6) x4.toNat) mt_60 rfl (shS r0 (SH_lt h0) h0).2.2.2.2.2 z3 (by decide) rfl ?_
    refine v_s mt_60 rfl rfl rfl ?_
    obtain ⟨z4, h⟩ := h
    obtain ⟨z5, h⟩ := h
    refine j_if2 mt_60 rfl rfl z4 z5 (fun c => ?_) (fun c => ?_)
    · replace h := h.1 c
      refine j_inc (e := x4 + 1) (L' := [some (.ref r0), some (.ref r1), some (iv x2), some (iv x3), some (iv (x4 + 1))]) mt_60 rfl rfl (Nat.le_of_ble_eq_true rfl) rfl rfl ?_
      refine v_go mt_60 rfl rfl ?_
      exact h
    · replace h := h.2 (Int.not_le.mp c)
      refine v_s mt_60 rfl rfl rfl ?_
      refine v_isn (L' := [some (.ref r0), some (.ref r1), some (iv x4), some (iv x3), some (iv x4)]) mt_60 rfl (Nat.le_of_ble_eq_true rfl) rfl ?_
      refine v_s mt_60 rfl rfl rfl ?_
      refine v_gr (w := (r0 + 6)) 5 mt_60 rfl rfl h0 (by decide) (g_6_5 h0) ?_
      refine v_s mt_60 rfl rfl rfl ?_
      refine j_al (w := J (r0 + 6) x4.toNat) mt_60 rfl (shS r0 (SH_lt h0) h0).2.2.2.2.2 z3 (by decide) rfl ?_
      refine v_isn (L' := [some (.ref r0), some (.ref r1), some (iv x4), some (iv (J (r0 + 6) x4.toNat)), some (iv x4)]) mt_60 rfl (Nat.le_of_ble_eq_true rfl) rfl ?_
      refine j_inc (e := x4 + 1) (L' := [some (.ref r0), some (.ref r1), some (iv x4), some (iv (J (r0 + 6) x4.toNat)), some (iv (x4 + 1))]) mt_60 rfl rfl (Nat.le_of_ble_eq_true rfl) rfl rfl ?_
      refine v_go mt_60 rfl rfl ?_
      exact h
set_option maxHeartbeats 600000 in
theorem b_61_0 {X : Nat × (Nat → Int32)} {d : Nat} {J : Nat → Nat → Int} {sw : Bool × Bool × Bool} {lg : Nat → Nat → Int64} {x : Nat} {K : (Option Value ⊕ Nat) → mM → Prop} {r0 r1 : Nat} {o2 o3 : Option Value} (h0 : SH[r0]? = some (11, 9)) (h1 : SH[r1]? = some (14, 12))
    (h : VV X d 61 (4, [some (.ref r0), some (.ref r1), some (iv 0), some (iv 0)], [], mj J sw lg x) K) : VV X d 61 (0, [some (.ref r0), some (.ref r1), o2, o3], [], mj J sw lg x) K := by
  refine v_ic (v := Int32.ofInt 0) mt_61 rfl rfl ?_
  refine v_isn (L' := [some (.ref r0), some (.ref r1), some (iv 0), o3]) mt_61 rfl (Nat.le_of_ble_eq_true rfl) rfl ?_
  refine v_ic (v := Int32.ofInt 0) mt_61 rfl rfl ?_
  refine v_isn (L' := [some (.ref r0), some (.ref r1), some (iv 0), some (iv 0)]) mt_61 rfl (Nat.le_of_ble_eq_true rfl) rfl ?_
  exact h
set_option maxHeartbeats 600000 in
theorem b_61_4 {X : Nat × (Nat → Int32)} {d : Nat} {J : Nat → Nat → Int} {sw : Bool × Bool × Bool} {lg : Nat → Nat → Int64} {x : Nat} {K : (Option Value ⊕ Nat) → mM → Prop} {r0 r1 : Nat} {x2 x3 : Int} (h0 : SH[r0]? = some (11, 9)) (h1 : SH[r1]? = some (14, 12))
    (h : InR x3 ∧ InR (J r1 2) ∧ (J r1 2 ≤ x3 → K (.inl (some (iv x2))) (mj J sw lg x)) ∧ (x3 < J r1 2 → ((0 ≤ x3 ∧ x3 < 9) ∧ VV X d 61 (4, [some (.ref r0), some (.ref r1), some (iv (x2 + (J (r0 + 5) x3.toNat))), some (iv (x3 + 1))], [], mj J sw lg x) K))) : VV X d 61 (4, [some (.ref r0), some (.ref r1), some (iv x2), some (iv x3)], [], mj J sw lg x) K := by
  refine v_s mt_61 rfl rfl rfl ?_
  refine v_s mt_61 rfl rfl rfl ?_
  refine j_gi (w := J r1 2) 2 mt_61 rfl rfl h1 (by decide) rfl ?_
  obtain ⟨z1, h⟩ := h
  obtain ⟨z2, h⟩ := h
  refine j_if2 mt_61 rfl rfl z1 z2 (fun c => ?_) (fun c => ?_)
  · replace h := h.1 c
    refine v_s mt_61 rfl rfl rfl ?_
    exact v_ret mt_61 rfl rfl rfl h
  · replace h := h.2 (Int.not_le.mp c)
    refine v_s mt_61 rfl rfl rfl ?_
    refine v_s mt_61 rfl rfl rfl ?_
    refine v_gr (w := (r0 + 5)) 4 mt_61 rfl rfl h0 (by decide) (g_6_4 h0) ?_
    refine v_s mt_61 rfl rfl rfl ?_
    obtain ⟨z3, h⟩ := h
    refine j_al (w := J (r0 + 5) x3.toNat) mt_61 rfl (shS r0 (SH_lt h0) h0).2.2.2.2.1 z3 (by decide) rfl ?_
    refine j_add (e := x2 + (J (r0 + 5) x3.toNat)) mt_61 rfl rfl ?_
    refine v_isn (L' := [some (.ref r0), some (.ref r1), some (iv (x2 + (J (r0 + 5) x3.toNat))), some (iv x3)]) mt_61 rfl (Nat.le_of_ble_eq_true rfl) rfl ?_
    refine j_inc (e := x3 + 1) (L' := [some (.ref r0), some (.ref r1), some (iv (x2 + (J (r0 + 5) x3.toNat))), some (iv (x3 + 1))]) mt_61 rfl rfl (Nat.le_of_ble_eq_true rfl) rfl rfl ?_
    refine v_go mt_61 rfl rfl ?_
    exact h
set_option maxHeartbeats 600000 in
theorem b_62_0 {X : Nat × (Nat → Int32)} {d : Nat} {J : Nat → Nat → Int} {sw : Bool × Bool × Bool} {lg : Nat → Nat → Int64} {x : Nat} {K : (Option Value ⊕ Nat) → mM → Prop} {r0 r1 : Nat} {o2 o3 : Option Value} (h0 : SH[r0]? = some (11, 9)) (h1 : SH[r1]? = some (14, 12))
    (h : VV X d 62 (4, [some (.ref r0), some (.ref r1), some (iv 0), some (iv 0)], [], mj J sw lg x) K) : VV X d 62 (0, [some (.ref r0), some (.ref r1), o2, o3], [], mj J sw lg x) K := by
  refine v_ic (v := Int32.ofInt 0) mt_62 rfl rfl ?_
  refine v_isn (L' := [some (.ref r0), some (.ref r1), some (iv 0), o3]) mt_62 rfl (Nat.le_of_ble_eq_true rfl) rfl ?_
  refine v_ic (v := Int32.ofInt 0) mt_62 rfl rfl ?_
  refine v_isn (L' := [some (.ref r0), some (.ref r1), some (iv 0), some (iv 0)]) mt_62 rfl (Nat.le_of_ble_eq_true rfl) rfl ?_
  exact h
set_option maxHeartbeats 600000 in
theorem b_62_4 {X : Nat × (Nat → Int32)} {d : Nat} {J : Nat → Nat → Int} {sw : Bool × Bool × Bool} {lg : Nat → Nat → Int64} {x : Nat} {K : (Option Value ⊕ Nat) → mM → Prop} {r0 r1 : Nat} {x2 x3 : Int} (h0 : SH[r0]? = some (11, 9)) (h1 : SH[r1]? = some (14, 12))
    (h : InR x3 ∧ InR (J r1 2) ∧ (J r1 2 ≤ x3 → K (.inl (some (iv x2))) (mj J sw lg x)) ∧ (x3 < J r1 2 → ((0 ≤ x3 ∧ x3 < 9) ∧ VV X d 62 (4, [some (.ref r0), some (.ref r1), some (iv (x2 + (J (r0 + 6) x3.toNat))), some (iv (x3 + 1))], [], mj J sw lg x) K))) : VV X d 62 (4, [some (.ref r0), some (.ref r1), some (iv x2), some (iv x3)], [], mj J sw lg x) K := by
  refine v_s mt_62 rfl rfl rfl ?_
  refine v_s mt_62 rfl rfl rfl ?_
  refine j_gi (w := J r1 2) 2 mt_62 rfl rfl h1 (by decide) rfl ?_
  obtain ⟨z1, h⟩ := h
  obtain ⟨z2, h⟩ := h
  refine j_if2 mt_62 rfl rfl z1 z2 (fun c => ?_) (fun c => ?_)
  · replace h := h.1 c
    refine v_s mt_62 rfl rfl rfl ?_
    exact v_ret mt_62 rfl rfl rfl h
  · replace h := h.2 (Int.not_le.mp c)
    refine v_s mt_62 rfl rfl rfl ?_
    refine v_s mt_62 rfl rfl rfl ?_
    refine v_gr (w := (r0 + 6)) 5 mt_62 rfl rfl h0 (by decide) (g_6_5 h0) ?_
    refine v_s mt_62 rfl rfl rfl ?_
    obtain ⟨z3, h⟩ := h
    refine j_al (w := J (r0 + 6) x3.toNat) mt_62 rfl (shS r0 (SH_lt h0) h0).2.2.2.2.2 z3 (by decide) rfl ?_
    refine j_add (e := x2 + (J (r0 + 6) x3.toNat)) mt_62 rfl rfl ?_
    refine v_isn (L' := [some (.ref r0), some (.ref r1), some (iv (x2 + (J (r0 + 6) x3.toNat))), some (iv x3)]) mt_62 rfl (Nat.le_of_ble_eq_true rfl) rfl ?_
    refine j_inc (e := x3 + 1) (L' := [some (.ref r0), some (.ref r1), some (iv (x2 + (J (r0 + 6) x3.toNat))), some (iv (x3 + 1))]) mt_62 rfl rfl (Nat.le_of_ble_eq_true rfl) rfl rfl ?_
    refine v_go mt_62 rfl rfl ?_
    exact h
set_option maxHeartbeats 600000 in
theorem b_63_0 {X : Nat × (Nat → Int32)} {d : Nat} {J : Nat → Nat → Int} {sw : Bool × Bool × Bool} {lg : Nat → Nat → Int64} {x : Nat} {K : (Option Value ⊕ Nat) → mM → Prop} {r0 r1 : Nat} {o2 o3 : Option Value} (h0 : SH[r0]? = some (11, 9)) (h1 : SH[r1]? = some (14, 12))
    (h : VV X d 63 (4, [some (.ref r0), some (.ref r1), some (iv 0), some (iv 0)], [], mj J sw lg x) K) : VV X d 63 (0, [some (.ref r0), some (.ref r1), o2, o3], [], mj J sw lg x) K := by
  refine v_ic (v := Int32.ofInt 0) mt_63 rfl rfl ?_
  refine v_isn (L' := [some (.ref r0), some (.ref r1), some (iv 0), o3]) mt_63 rfl (Nat.le_of_ble_eq_true rfl) rfl ?_
  refine v_ic (v := Int32.ofInt 0) mt_63 rfl rfl ?_
  refine v_isn (L' := [some (.ref r0), some (.ref r1), some (iv 0), some (iv 0)]) mt_63 rfl (Nat.le_of_ble_eq_true rfl) rfl ?_
  exact h
set_option maxHeartbeats 600000 in
theorem b_63_4 {X : Nat × (Nat → Int32)} {d : Nat} {J : Nat → Nat → Int} {sw : Bool × Bool × Bool} {lg : Nat → Nat → Int64} {x : Nat} {K : (Option Value ⊕ Nat) → mM → Prop} {r0 r1 : Nat} {x2 x3 : Int} (h0 : SH[r0]? = some (11, 9)) (h1 : SH[r1]? = some (14, 12))
    (h : InR x3 ∧ InR (J r1 2) ∧ (J r1 2 ≤ x3 → K (.inl (some (iv x2))) (mj J sw lg x)) ∧ (x3 < J r1 2 → ((0 ≤ x3 ∧ x3 < 9) ∧ InR (J (r0 + 5) x3.toNat) ∧ (J (r0 + 5) x3.toNat ≤ 0 → VV X d 63 (4, [some (.ref r0), some (.ref r1), some (iv x2), some (iv (x3 + 1))], [], mj J sw lg x) K) ∧ (0 < J (r0 + 5) x3.toNat → VV X d 63 (4, [some (.ref r0), some (.ref r1), some (iv (bOr x2 (bShl 1 x3))), some (iv (x3 + 1))], [], mj J sw lg x) K)))) : VV X d 63 (4, [some (.ref r0), some (.ref r1), some (iv x2), some (iv x3)], [], mj J sw lg x) K := by
  refine v_s mt_63 rfl rfl rfl ?_
  refine v_s mt_63 rfl rfl rfl ?_
  refine j_gi (w := J r1 2) 2 mt_63 rfl rfl h1 (by decide) rfl ?_
  obtain ⟨z1, h⟩ := h
  obtain ⟨z2, h⟩ := h
  refine j_if2 mt_63 rfl rfl z1 z2 (fun c => ?_) (fun c => ?_)
  · replace h := h.1 c
    refine v_s mt_63 rfl rfl rfl ?_
    exact v_ret mt_63 rfl rfl rfl h
  · replace h := h.2 (Int.not_le.mp c)
    refine v_s mt_63 rfl rfl rfl ?_
    refine v_gr (w := (r0 + 5)) 4 mt_63 rfl rfl h0 (by decide) (g_6_4 h0) ?_
    refine v_s mt_63 rfl rfl rfl ?_
    obtain ⟨z3, h⟩ := h
    refine j_al (w := J (r0 + 5) x3.toNat) mt_63 rfl (shS r0 (SH_lt h0) h0).2.2.2.2.1 z3 (by decide) rfl ?_
    obtain ⟨z4, h⟩ := h
    refine j_if1 mt_63 rfl rfl z4 (fun c => ?_) (fun c => ?_)
    · replace h := h.1 c
      refine j_inc (e := x3 + 1) (L' := [some (.ref r0), some (.ref r1), some (iv x2), some (iv (x3 + 1))]) mt_63 rfl rfl (Nat.le_of_ble_eq_true rfl) rfl rfl ?_
      refine v_go mt_63 rfl rfl ?_
      exact h
    · replace h := h.2 (Int.not_le.mp c)
      refine v_s mt_63 rfl rfl rfl ?_
      refine v_ic (v := Int32.ofInt 1) mt_63 rfl rfl ?_
      refine v_s mt_63 rfl rfl rfl ?_
      refine j_shl (e := bShl 1 x3) mt_63 rfl rfl ?_
      refine j_or (e := bOr x2 (bShl 1 x3)) mt_63 rfl rfl ?_
      refine v_isn (L' := [some (.ref r0), some (.ref r1), some (iv (bOr x2 (bShl 1 x3))), some (iv x3)]) mt_63 rfl (Nat.le_of_ble_eq_true rfl) rfl ?_
      refine j_inc (e := x3 + 1) (L' := [some (.ref r0), some (.ref r1), some (iv (bOr x2 (bShl 1 x3))), some (iv (x3 + 1))]) mt_63 rfl rfl (Nat.le_of_ble_eq_true rfl) rfl rfl ?_
      refine v_go mt_63 rfl rfl ?_
      exact h
set_option maxHeartbeats 600000 in
theorem b_65_0 {X : Nat × (Nat → Int32)} {d : Nat} {J : Nat → Nat → Int} {sw : Bool × Bool × Bool} {lg : Nat → Nat → Int64} {x : Nat} {K : (Option Value ⊕ Nat) → mM → Prop} {r0 r1 : Nat} {o2 o3 : Option Value} (h0 : SH[r0]? = some (11, 9)) (h1 : SH[r1]? = some (14, 12)) (hd : 1 ≤ d)
    (h : VV X d 65 (4, [some (.ref r0), some (.ref r1), some (iv 0), some (iv 0)], [], mj J sw lg x) K) : VV X d 65 (0, [some (.ref r0), some (.ref r1), o2, o3], [], mj J sw lg x) K := by
  refine v_ic (v := Int32.ofInt 0) mt_65 rfl rfl ?_
  refine v_isn (L' := [some (.ref r0), some (.ref r1), some (iv 0), o3]) mt_65 rfl (Nat.le_of_ble_eq_true rfl) rfl ?_
  refine v_ic (v := Int32.ofInt 0) mt_65 rfl rfl ?_
  refine v_isn (L' := [some (.ref r0), some (.ref r1), some (iv 0), some (iv 0)]) mt_65 rfl (Nat.le_of_ble_eq_true rfl) rfl ?_
  exact h
set_option maxHeartbeats 600000 in
theorem b_65_4 {X : Nat × (Nat → Int32)} {d : Nat} {J : Nat → Nat → Int} {sw : Bool × Bool × Bool} {lg : Nat → Nat → Int64} {x : Nat} {K : (Option Value ⊕ Nat) → mM → Prop} {r0 r1 : Nat} {x2 x3 : Int} (h0 : SH[r0]? = some (11, 9)) (h1 : SH[r1]? = some (14, 12)) (hd : 1 ≤ d)
    (h : InR x3 ∧ InR (J r1 0) ∧ (J r1 0 ≤ x3 → K (.inl (some (iv x2))) (mj J sw lg x)) ∧ (x3 < J r1 0 → ((0 ≤ x3 ∧ x3 < 6) ∧ InR (J (r0 + 1) x3.toNat) ∧ InR (J (r1 + 1) x3.toNat) ∧ (J (r0 + 1) x3.toNat < J (r1 + 1) x3.toNat → VV X d 65 (4, [some (.ref r0), some (.ref r1), some (iv x2), some (iv (x3 + 1))], [], mj J sw lg x) K) ∧ (J (r1 + 1) x3.toNat ≤ J (r0 + 1) x3.toNat → VV X d 65 (4, [some (.ref r0), some (.ref r1), some (iv (bOr x2 (bShl 1 x3))), some (iv (x3 + 1))], [], mj J sw lg x) K)))) : VV X d 65 (4, [some (.ref r0), some (.ref r1), some (iv x2), some (iv x3)], [], mj J sw lg x) K := by
  refine v_s mt_65 rfl rfl rfl ?_
  refine v_s mt_65 rfl rfl rfl ?_
  refine j_gi (w := J r1 0) 0 mt_65 rfl rfl h1 (by decide) rfl ?_
  obtain ⟨z1, h⟩ := h
  obtain ⟨z2, h⟩ := h
  refine j_if2 mt_65 rfl rfl z1 z2 (fun c => ?_) (fun c => ?_)
  · replace h := h.1 c
    refine v_s mt_65 rfl rfl rfl ?_
    exact v_ret mt_65 rfl rfl rfl h
  · replace h := h.2 (Int.not_le.mp c)
    refine v_s mt_65 rfl rfl rfl ?_
    refine v_s mt_65 rfl rfl rfl ?_
    refine v_s mt_65 rfl rfl rfl ?_
    refine v_inl (L1 := [some (.ref r0), some (.ref r1), some (iv x3)]) mt_65 rfl rfl mt_45 rfl rfl (m_callj (As := [.ref r1, iv x3]) (rest := []) rfl rfl h0 rfl (Nat.le_of_ble_eq_true rfl) (Nat.le_of_ble_eq_true rfl)) rfl (by clear h; omega) ?_
    refine v_s mt_45 rfl rfl rfl ?_
    refine v_gr (w := (r0 + 1)) 0 mt_45 rfl rfl h0 (by decide) (g_6_0 h0) ?_
    refine v_s mt_45 rfl rfl rfl ?_
    obtain ⟨z3, h⟩ := h
    refine j_al (w := J (r0 + 1) x3.toNat) mt_45 rfl (shS r0 (SH_lt h0) h0).1 z3 (by decide) rfl ?_
    refine v_s mt_45 rfl rfl rfl ?_
    refine v_gr (w := (r1 + 1)) 6 mt_45 rfl rfl h1 (by decide) (g_9_6 h1) ?_
    refine v_s mt_45 rfl rfl rfl ?_
    refine j_al (w := J (r1 + 1) x3.toNat) mt_45 rfl (shV r1 (SH_lt h1) h1).1 z3 (by decide) rfl ?_
    obtain ⟨z4, h⟩ := h
    obtain ⟨z5, h⟩ := h
    refine j_if2 mt_45 rfl rfl z4 z5 (fun c => ?_) (fun c => ?_)
    · replace h := h.1 c
      refine v_ic (v := Int32.ofInt 0) mt_45 rfl rfl ?_
      refine j_retb mt_45 rfl rfl (by decide) ?_
      refine j_if1 mt_65 rfl rfl ⟨by decide, by decide⟩ (fun _ => ?_) (fun c => (c (show (0 : Int) = 0 by decide)).elim)
      refine j_inc (e := x3 + 1) (L' := [some (.ref r0), some (.ref r1), some (iv x2), some (iv (x3 + 1))]) mt_65 rfl rfl (Nat.le_of_ble_eq_true rfl) rfl rfl ?_
      refine v_go mt_65 rfl rfl ?_
      exact h
    · replace h := h.2 (Int.not_lt.mp c)
      refine v_ic (v := Int32.ofInt 1) mt_45 rfl rfl ?_
      refine v_go mt_45 rfl rfl ?_
      refine j_retb mt_45 rfl rfl (by decide) ?_
      refine j_if1 mt_65 rfl rfl ⟨by decide, by decide⟩ (fun c => absurd (show (1 : Int) = 0 from c) (by decide)) (fun _ => ?_)
      refine v_s mt_65 rfl rfl rfl ?_
      refine v_ic (v := Int32.ofInt 1) mt_65 rfl rfl ?_
      refine v_s mt_65 rfl rfl rfl ?_
      refine j_shl (e := bShl 1 x3) mt_65 rfl rfl ?_
      refine j_or (e := bOr x2 (bShl 1 x3)) mt_65 rfl rfl ?_
      refine v_isn (L' := [some (.ref r0), some (.ref r1), some (iv (bOr x2 (bShl 1 x3))), some (iv x3)]) mt_65 rfl (Nat.le_of_ble_eq_true rfl) rfl ?_
      refine j_inc (e := x3 + 1) (L' := [some (.ref r0), some (.ref r1), some (iv (bOr x2 (bShl 1 x3))), some (iv (x3 + 1))]) mt_65 rfl rfl (Nat.le_of_ble_eq_true rfl) rfl rfl ?_
      refine v_go mt_65 rfl rfl ?_
      exact h
set_option maxHeartbeats 600000 in
theorem b_66_0 {X : Nat × (Nat → Int32)} {d : Nat} {J : Nat → Nat → Int} {sw : Bool × Bool × Bool} {lg : Nat → Nat → Int64} {x : Nat} {K : (Option Value ⊕ Nat) → mM → Prop} {r0 r1 : Nat} {o2 o3 : Option Value} (h0 : SH[r0]? = some (11, 9)) (h1 : SH[r1]? = some (14, 12))
    (h : VV X d 66 (4, [some (.ref r0), some (.ref r1), some (iv 0), some (iv 0)], [], mj J sw lg x) K) : VV X d 66 (0, [some (.ref r0), some (.ref r1), o2, o3], [], mj J sw lg x) K := by
  refine v_ic (v := Int32.ofInt 0) mt_66 rfl rfl ?_
  refine v_isn (L' := [some (.ref r0), some (.ref r1), some (iv 0), o3]) mt_66 rfl (Nat.le_of_ble_eq_true rfl) rfl ?_
  refine v_ic (v := Int32.ofInt 0) mt_66 rfl rfl ?_
  refine v_isn (L' := [some (.ref r0), some (.ref r1), some (iv 0), some (iv 0)]) mt_66 rfl (Nat.le_of_ble_eq_true rfl) rfl ?_
  exact h
set_option maxHeartbeats 600000 in
theorem b_66_4 {X : Nat × (Nat → Int32)} {d : Nat} {J : Nat → Nat → Int} {sw : Bool × Bool × Bool} {lg : Nat → Nat → Int64} {x : Nat} {K : (Option Value ⊕ Nat) → mM → Prop} {r0 r1 : Nat} {x2 x3 : Int} (h0 : SH[r0]? = some (11, 9)) (h1 : SH[r1]? = some (14, 12))
    (h : InR x3 ∧ InR (J r1 0) ∧ (J r1 0 ≤ x3 → K (.inl (some (iv x2))) (mj J sw lg x)) ∧ (x3 < J r1 0 → ((0 ≤ x3 ∧ x3 < 6) ∧ InR (J (r0 + 3) x3.toNat) ∧ (J (r0 + 3) x3.toNat = (-1) → VV X d 66 (4, [some (.ref r0), some (.ref r1), some (iv x2), some (iv (x3 + 1))], [], mj J sw lg x) K) ∧ (¬ J (r0 + 3) x3.toNat = (-1) → VV X d 66 (4, [some (.ref r0), some (.ref r1), some (iv (bOr x2 (bShl 1 x3))), some (iv (x3 + 1))], [], mj J sw lg x) K)))) : VV X d 66 (4, [some (.ref r0), some (.ref r1), some (iv x2), some (iv x3)], [], mj J sw lg x) K := by
  refine v_s mt_66 rfl rfl rfl ?_
  refine v_s mt_66 rfl rfl rfl ?_
  refine j_gi (w := J r1 0) 0 mt_66 rfl rfl h1 (by decide) rfl ?_
  obtain ⟨z1, h⟩ := h
  obtain ⟨z2, h⟩ := h
  refine j_if2 mt_66 rfl rfl z1 z2 (fun c => ?_) (fun c => ?_)
  · replace h := h.1 c
    refine v_s mt_66 rfl rfl rfl ?_
    exact v_ret mt_66 rfl rfl rfl h
  · replace h := h.2 (Int.not_le.mp c)
    refine v_s mt_66 rfl rfl rfl ?_
    refine v_gr (w := (r0 + 3)) 2 mt_66 rfl rfl h0 (by decide) (g_6_2 h0) ?_
    refine v_s mt_66 rfl rfl rfl ?_
    obtain ⟨z3, h⟩ := h
    refine j_al (w := J (r0 + 3) x3.toNat) mt_66 rfl (shS r0 (SH_lt h0) h0).2.2.1 z3 (by decide) rfl ?_
    refine v_ic (v := Int32.ofInt (-1)) mt_66 rfl rfl ?_
    obtain ⟨z4, h⟩ := h
    refine j_if2 mt_66 rfl rfl z4 ⟨by decide, by decide⟩ (fun c => ?_) (fun c => ?_)
    · replace h := h.1 c
      refine j_inc (e := x3 + 1) (L' := [some (.ref r0), some (.ref r1), some (iv x2), some (iv (x3 + 1))]) mt_66 rfl rfl (Nat.le_of_ble_eq_true rfl) rfl rfl ?_
      refine v_go mt_66 rfl rfl ?_
      exact h
    · replace h := h.2 c
      refine v_s mt_66 rfl rfl rfl ?_
      refine v_ic (v := Int32.ofInt 1) mt_66 rfl rfl ?_
      refine v_s mt_66 rfl rfl rfl ?_
      refine j_shl (e := bShl 1 x3) mt_66 rfl rfl ?_
      refine j_or (e := bOr x2 (bShl 1 x3)) mt_66 rfl rfl ?_
      refine v_isn (L' := [some (.ref r0), some (.ref r1), some (iv (bOr x2 (bShl 1 x3))), some (iv x3)]) mt_66 rfl (Nat.le_of_ble_eq_true rfl) rfl ?_
      refine j_inc (e := x3 + 1) (L' := [some (.ref r0), some (.ref r1), some (iv (bOr x2 (bShl 1 x3))), some (iv (x3 + 1))]) mt_66 rfl rfl (Nat.le_of_ble_eq_true rfl) rfl rfl ?_
      refine v_go mt_66 rfl rfl ?_
      exact h
set_option maxHeartbeats 600000 in
theorem b_67_0 {X : Nat × (Nat → Int32)} {d : Nat} {J : Nat → Nat → Int} {sw : Bool × Bool × Bool} {lg : Nat → Nat → Int64} {x : Nat} {K : (Option Value ⊕ Nat) → mM → Prop} {r0 r1 : Nat} {x2 : Int} {o3 o4 : Option Value} (h0 : SH[r0]? = some (11, 9)) (h1 : SH[r1]? = some (14, 12))
    (h : VV X d 67 (5, [some (.ref r0), some (.ref r1), some (iv x2), some (iv 0), some (iv 0)], [], mj J sw lg x) K) : VV X d 67 (0, [some (.ref r0), some (.ref r1), some (iv x2), o3, o4], [], mj J sw lg x) K := by
  refine v_ic (v := Int32.ofInt 0) mt_67 rfl rfl ?_
  refine v_isn (L' := [some (.ref r0), some (.ref r1), some (iv x2), some (iv 0), o4]) mt_67 rfl (Nat.le_of_ble_eq_true rfl) rfl ?_
  refine v_ic (v := Int32.ofInt 0) mt_67 rfl rfl ?_
  refine v_is (L' := [some (.ref r0), some (.ref r1), some (iv x2), some (iv 0), some (iv 0)]) mt_67 rfl (Nat.le_of_ble_eq_true rfl) rfl ?_
  exact h
set_option maxHeartbeats 600000 in
theorem b_67_5 {X : Nat × (Nat → Int32)} {d : Nat} {J : Nat → Nat → Int} {sw : Bool × Bool × Bool} {lg : Nat → Nat → Int64} {x : Nat} {K : (Option Value ⊕ Nat) → mM → Prop} {r0 r1 : Nat} {x2 x3 x4 : Int} (h0 : SH[r0]? = some (11, 9)) (h1 : SH[r1]? = some (14, 12))
    (h : InR x4 ∧ InR (J r1 0) ∧ (J r1 0 ≤ x4 → K (.inl (some (iv x3))) (mj J sw lg x)) ∧ (x4 < J r1 0 → ((0 ≤ x4 ∧ x4 < 6) ∧ InR (J (r0 + 3) x4.toNat) ∧ InR x2 ∧ (¬ J (r0 + 3) x4.toNat = x2 → VV X d 67 (5, [some (.ref r0), some (.ref r1), some (iv x2), some (iv x3), some (iv (x4 + 1))], [], mj J sw lg x) K) ∧ (J (r0 + 3) x4.toNat = x2 → VV X d 67 (5, [some (.ref r0), some (.ref r1), some (iv x2), some (iv (bOr x3 (bShl 1 x4))), some (iv (x4 + 1))], [], mj J sw lg x) K)))) : VV X d 67 (5, [some (.ref r0), some (.ref r1), some (iv x2), some (iv x3), some (iv x4)], [], mj J sw lg x) K := by
  refine v_s mt_67 rfl rfl rfl ?_
  refine v_s mt_67 rfl rfl rfl ?_
  refine j_gi (w := J r1 0) 0 mt_67 rfl rfl h1 (by decide) rfl ?_
  obtain ⟨z1, h⟩ := h
  obtain ⟨z2, h⟩ := h
  refine j_if2 mt_67 rfl rfl z1 z2 (fun c => ?_) (fun c => ?_)
  · replace h := h.1 c
    refine v_s mt_67 rfl rfl rfl ?_
    exact v_ret mt_67 rfl rfl rfl h
  · replace h := h.2 (Int.not_le.mp c)
    refine v_s mt_67 rfl rfl rfl ?_
    refine v_gr (w := (r0 + 3)) 2 mt_67 rfl rfl h0 (by decide) (g_6_2 h0) ?_
    refine v_s mt_67 rfl rfl rfl ?_
    obtain ⟨z3, h⟩ := h
    refine j_al (w := J (r0 + 3) x4.toNat) mt_67 rfl (shS r0 (SH_lt h0) h0).2.2.1 z3 (by decide) rfl ?_
    refine v_s mt_67 rfl rfl rfl ?_
    obtain ⟨z4, h⟩ := h
    obtain ⟨z5, h⟩ := h
    refine j_if2 mt_67 rfl rfl z4 z5 (fun c => ?_) (fun c => ?_)
    · replace h := h.1 c
      refine j_inc (e := x4 + 1) (L' := [some (.ref r0), some (.ref r1), some (iv x2), some (iv x3), some (iv (x4 + 1))]) mt_67 rfl rfl (Nat.le_of_ble_eq_true rfl) rfl rfl ?_
      refine v_go mt_67 rfl rfl ?_
      exact h
    · replace h := h.2 (Decidable.not_not.mp c)
      refine v_s mt_67 rfl rfl rfl ?_
      refine v_ic (v := Int32.ofInt 1) mt_67 rfl rfl ?_
      refine v_s mt_67 rfl rfl rfl ?_
      refine j_shl (e := bShl 1 x4) mt_67 rfl rfl ?_
      refine j_or (e := bOr x3 (bShl 1 x4)) mt_67 rfl rfl ?_
      refine v_isn (L' := [some (.ref r0), some (.ref r1), some (iv x2), some (iv (bOr x3 (bShl 1 x4))), some (iv x4)]) mt_67 rfl (Nat.le_of_ble_eq_true rfl) rfl ?_
      refine j_inc (e := x4 + 1) (L' := [some (.ref r0), some (.ref r1), some (iv x2), some (iv (bOr x3 (bShl 1 x4))), some (iv (x4 + 1))]) mt_67 rfl rfl (Nat.le_of_ble_eq_true rfl) rfl rfl ?_
      refine v_go mt_67 rfl rfl ?_
      exact h
set_option maxHeartbeats 600000 in
theorem b_220_0 {X : Nat × (Nat → Int32)} {d : Nat} {J : Nat → Nat → Int} {sw : Bool × Bool × Bool} {lg : Nat → Nat → Int64} {x : Nat} {K : (Option Value ⊕ Nat) → mM → Prop} {x1 : Int} {o2 o3 : Option Value}
    (h : VV X d 220 (4, [some (.ref 542), some (iv x1), some (iv 0), some (iv 0)], [], mj J sw lg x) K) : VV X d 220 (0, [some (.ref 542), some (iv x1), o2, o3], [], mj J sw lg x) K := by
  refine v_ic (v := Int32.ofInt 0) mt_220 rfl rfl ?_
  refine v_isn (L' := [some (.ref 542), some (iv x1), some (iv 0), o3]) mt_220 rfl (Nat.le_of_ble_eq_true rfl) rfl ?_
  refine v_ic (v := Int32.ofInt 0) mt_220 rfl rfl ?_
  refine v_isn (L' := [some (.ref 542), some (iv x1), some (iv 0), some (iv 0)]) mt_220 rfl (Nat.le_of_ble_eq_true rfl) rfl ?_
  exact h
set_option maxHeartbeats 600000 in
theorem b_220_4 {X : Nat × (Nat → Int32)} {d : Nat} {J : Nat → Nat → Int} {sw : Bool × Bool × Bool} {lg : Nat → Nat → Int64} {x : Nat} {K : (Option Value ⊕ Nat) → mM → Prop} {x1 x2 x3 : Int}
    (h : InR x3 ∧ InR (J 542 26) ∧ (J 542 26 ≤ x3 → K (.inl (some (iv x2))) (mj J sw lg x)) ∧ (x3 < J 542 26 → ((0 ≤ x1 + x3 ∧ x1 + x3 < 50) ∧ VV X d 220 (4, [some (.ref 542), some (iv x1), some (iv (x2 + (J 562 ((x1 + x3).toNat)))), some (iv (x3 + 1))], [], mj J sw lg x) K))) : VV X d 220 (4, [some (.ref 542), some (iv x1), some (iv x2), some (iv x3)], [], mj J sw lg x) K := by
  refine v_s mt_220 rfl rfl rfl ?_
  refine v_s mt_220 rfl rfl rfl ?_
  refine j_gi (w := J 542 26) 26 mt_220 rfl rfl c_542 (by decide) rfl ?_
  obtain ⟨z1, h⟩ := h
  obtain ⟨z2, h⟩ := h
  refine j_if2 mt_220 rfl rfl z1 z2 (fun c => ?_) (fun c => ?_)
  · replace h := h.1 c
    refine v_s mt_220 rfl rfl rfl ?_
    exact v_ret mt_220 rfl rfl rfl h
  · replace h := h.2 (Int.not_le.mp c)
    refine v_s mt_220 rfl rfl rfl ?_
    refine v_s mt_220 rfl rfl rfl ?_
    refine v_gr (w := 562) 46 mt_220 rfl rfl c_542 (by decide) (g_12_46 c_542) ?_
    refine v_s mt_220 rfl rfl rfl ?_
    refine v_s mt_220 rfl rfl rfl ?_
    refine j_add (e := x1 + x3) mt_220 rfl rfl ?_
    obtain ⟨z3, h⟩ := h
    refine j_al (w := J 562 ((x1 + x3).toNat)) mt_220 rfl c_562 z3 (by decide) rfl ?_
    refine j_add (e := x2 + (J 562 ((x1 + x3).toNat))) mt_220 rfl rfl ?_
    refine v_isn (L' := [some (.ref 542), some (iv x1), some (iv (x2 + (J 562 ((x1 + x3).toNat)))), some (iv x3)]) mt_220 rfl (Nat.le_of_ble_eq_true rfl) rfl ?_
    refine j_inc (e := x3 + 1) (L' := [some (.ref 542), some (iv x1), some (iv (x2 + (J 562 ((x1 + x3).toNat)))), some (iv (x3 + 1))]) mt_220 rfl rfl (Nat.le_of_ble_eq_true rfl) rfl rfl ?_
    refine v_go mt_220 rfl rfl ?_
    exact h
set_option maxHeartbeats 600000 in
theorem b_221_0 {X : Nat × (Nat → Int32)} {d : Nat} {J : Nat → Nat → Int} {sw : Bool × Bool × Bool} {lg : Nat → Nat → Int64} {x : Nat} {K : (Option Value ⊕ Nat) → mM → Prop} {o1 o2 : Option Value} (hd : 1 ≤ d)
    (h : VV X d 221 (4, [some (.ref 542), some (iv 0), some (iv 0)], [], mj J sw lg x) K) : VV X d 221 (0, [some (.ref 542), o1, o2], [], mj J sw lg x) K := by
  refine v_ic (v := Int32.ofInt 0) mt_221 rfl rfl ?_
  refine v_isn (L' := [some (.ref 542), some (iv 0), o2]) mt_221 rfl (Nat.le_of_ble_eq_true rfl) rfl ?_
  refine v_ic (v := Int32.ofInt 0) mt_221 rfl rfl ?_
  refine v_isn (L' := [some (.ref 542), some (iv 0), some (iv 0)]) mt_221 rfl (Nat.le_of_ble_eq_true rfl) rfl ?_
  exact h
set_option maxHeartbeats 600000 in
theorem b_221_4 {X : Nat × (Nat → Int32)} {d : Nat} {J : Nat → Nat → Int} {sw : Bool × Bool × Bool} {lg : Nat → Nat → Int64} {x : Nat} {K : (Option Value ⊕ Nat) → mM → Prop} {x1 x2 : Int} (hd : 1 ≤ d)
    (h : InR x2 ∧ InR (J 542 24) ∧ (J 542 24 ≤ x2 → K (.inl (some (iv x1))) (mj J sw lg x)) ∧ (x2 < J 542 24 → ((0 ≤ x2 ∧ x2 < 50) ∧ (0 ≤ x2 ∧ x2 < 6) ∧ InR (J 562 x2.toNat) ∧ InR (J 549 x2.toNat) ∧ (J 562 x2.toNat < J 549 x2.toNat → VV X d 221 (4, [some (.ref 542), some (iv (bOr x1 0)), some (iv (x2 + 1))], [], mj J sw lg x) K) ∧ (J 549 x2.toNat ≤ J 562 x2.toNat → VV X d 221 (4, [some (.ref 542), some (iv (bOr x1 (bShl 1 x2))), some (iv (x2 + 1))], [], mj J sw lg x) K)))) : VV X d 221 (4, [some (.ref 542), some (iv x1), some (iv x2)], [], mj J sw lg x) K := by
  refine v_s mt_221 rfl rfl rfl ?_
  refine v_s mt_221 rfl rfl rfl ?_
  refine j_gi (w := J 542 24) 24 mt_221 rfl rfl c_542 (by decide) rfl ?_
  obtain ⟨z1, h⟩ := h
  obtain ⟨z2, h⟩ := h
  refine j_if2 mt_221 rfl rfl z1 z2 (fun c => ?_) (fun c => ?_)
  · replace h := h.1 c
    refine v_s mt_221 rfl rfl rfl ?_
    exact v_ret mt_221 rfl rfl rfl h
  · replace h := h.2 (Int.not_le.mp c)
    refine v_s mt_221 rfl rfl rfl ?_
    refine v_s mt_221 rfl rfl rfl ?_
    refine v_s mt_221 rfl rfl rfl ?_
    refine v_inl (L1 := [some (.ref 542), some (iv x2)]) mt_221 rfl rfl mt_208 rfl rfl (m_callj (As := [iv x2]) (rest := [iv x1]) rfl rfl c_542 rfl (Nat.le_of_ble_eq_true rfl) (Nat.le_of_ble_eq_true rfl)) rfl (by clear h; omega) ?_
    refine v_s mt_208 rfl rfl rfl ?_
    refine v_gr (w := 562) 46 mt_208 rfl rfl c_542 (by decide) (g_12_46 c_542) ?_
    refine v_ic (v := Int32.ofInt 0) mt_208 rfl rfl ?_
    refine v_s mt_208 rfl rfl rfl ?_
    refine j_add (e := x2) mt_208 rfl (Int.zero_add _) ?_
    obtain ⟨z3, h⟩ := h
    refine j_al (w := J 562 x2.toNat) mt_208 rfl c_562 z3 (by decide) rfl ?_
    refine v_s mt_208 rfl rfl rfl ?_
    refine v_gr (w := 549) 14 mt_208 rfl rfl c_542 (by decide) (g_12_14 c_542) ?_
    refine v_s mt_208 rfl rfl rfl ?_
    obtain ⟨z4, h⟩ := h
    refine j_al (w := J 549 x2.toNat) mt_208 rfl c_549 z4 (by decide) rfl ?_
    obtain ⟨z5, h⟩ := h
    obtain ⟨z6, h⟩ := h
    refine j_if2 mt_208 rfl rfl z5 z6 (fun c => ?_) (fun c => ?_)
    · replace h := h.1 c
      refine v_ic (v := Int32.ofInt 0) mt_208 rfl rfl ?_
      refine j_retb mt_208 rfl rfl (by decide) ?_
      refine j_if1 mt_221 rfl rfl ⟨by decide, by decide⟩ (fun _ => ?_) (fun c => (c (show (0 : Int) = 0 by decide)).elim)
      refine v_ic (v := Int32.ofInt 0) mt_221 rfl rfl ?_
      refine j_or (e := bOr x1 0) mt_221 rfl rfl ?_
      refine v_isn (L' := [some (.ref 542), some (iv (bOr x1 0)), some (iv x2)]) mt_221 rfl (Nat.le_of_ble_eq_true rfl) rfl ?_
      refine j_inc (e := x2 + 1) (L' := [some (.ref 542), some (iv (bOr x1 0)), some (iv (x2 + 1))]) mt_221 rfl rfl (Nat.le_of_ble_eq_true rfl) rfl rfl ?_
      refine v_go mt_221 rfl rfl ?_
      exact h
    · replace h := h.2 (Int.not_lt.mp c)
      refine v_ic (v := Int32.ofInt 1) mt_208 rfl rfl ?_
      refine v_go mt_208 rfl rfl ?_
      refine j_retb mt_208 rfl rfl (by decide) ?_
      refine j_if1 mt_221 rfl rfl ⟨by decide, by decide⟩ (fun c => absurd (show (1 : Int) = 0 from c) (by decide)) (fun _ => ?_)
      refine v_ic (v := Int32.ofInt 1) mt_221 rfl rfl ?_
      refine v_s mt_221 rfl rfl rfl ?_
      refine j_shl (e := bShl 1 x2) mt_221 rfl rfl ?_
      refine v_go mt_221 rfl rfl ?_
      refine j_or (e := bOr x1 (bShl 1 x2)) mt_221 rfl rfl ?_
      refine v_isn (L' := [some (.ref 542), some (iv (bOr x1 (bShl 1 x2))), some (iv x2)]) mt_221 rfl (Nat.le_of_ble_eq_true rfl) rfl ?_
      refine j_inc (e := x2 + 1) (L' := [some (.ref 542), some (iv (bOr x1 (bShl 1 x2))), some (iv (x2 + 1))]) mt_221 rfl rfl (Nat.le_of_ble_eq_true rfl) rfl rfl ?_
      refine v_go mt_221 rfl rfl ?_
      exact h
set_option maxHeartbeats 600000 in
theorem b_222_0 {X : Nat × (Nat → Int32)} {d : Nat} {J : Nat → Nat → Int} {sw : Bool × Bool × Bool} {lg : Nat → Nat → Int64} {x : Nat} {K : (Option Value ⊕ Nat) → mM → Prop} {x1 : Int} {o2 o3 : Option Value}
    (h : VV X d 222 (4, [some (.ref 542), some (iv x1), some (iv 0), some (iv 0)], [], mj J sw lg x) K) : VV X d 222 (0, [some (.ref 542), some (iv x1), o2, o3], [], mj J sw lg x) K := by
  refine v_ic (v := Int32.ofInt 0) mt_222 rfl rfl ?_
  refine v_isn (L' := [some (.ref 542), some (iv x1), some (iv 0), o3]) mt_222 rfl (Nat.le_of_ble_eq_true rfl) rfl ?_
  refine v_ic (v := Int32.ofInt 0) mt_222 rfl rfl ?_
  refine v_isn (L' := [some (.ref 542), some (iv x1), some (iv 0), some (iv 0)]) mt_222 rfl (Nat.le_of_ble_eq_true rfl) rfl ?_
  exact h
set_option maxHeartbeats 600000 in
theorem b_222_4 {X : Nat × (Nat → Int32)} {d : Nat} {J : Nat → Nat → Int} {sw : Bool × Bool × Bool} {lg : Nat → Nat → Int64} {x : Nat} {K : (Option Value ⊕ Nat) → mM → Prop} {x1 x2 x3 : Int}
    (h : InR x3 ∧ InR (J 542 24) ∧ (J 542 24 ≤ x3 → K (.inl (some (iv x2))) (mj J sw lg x)) ∧ (x3 < J 542 24 → ((0 ≤ 12 + x3 ∧ 12 + x3 < 50) ∧ InR (J 562 ((12 + x3).toNat)) ∧ (J 562 ((12 + x3).toNat) = (-1) → VV X d 222 (4, [some (.ref 542), some (iv x1), some (iv (bOr x2 0)), some (iv (x3 + 1))], [], mj J sw lg x) K) ∧ (¬ J 562 ((12 + x3).toNat) = (-1) → (InR x1 ∧ (x1 = (-1) → VV X d 222 (4, [some (.ref 542), some (iv x1), some (iv (bOr x2 (bShl 1 x3))), some (iv (x3 + 1))], [], mj J sw lg x) K) ∧ (¬ x1 = (-1) → ((¬ J 562 ((12 + x3).toNat) = x1 → VV X d 222 (4, [some (.ref 542), some (iv x1), some (iv (bOr x2 0)), some (iv (x3 + 1))], [], mj J sw lg x) K) ∧ (J 562 ((12 + x3).toNat) = x1 → VV X d 222 (4, [some (.ref 542), some (iv x1), some (iv (bOr x2 (bShl 1 x3))), some (iv (x3 + 1))], [], mj J sw lg x) K)))))))) : VV X d 222 (4, [some (.ref 542), some (iv x1), some (iv x2), some (iv x3)], [], mj J sw lg x) K := by
  refine v_s mt_222 rfl rfl rfl ?_
  refine v_s mt_222 rfl rfl rfl ?_
  refine j_gi (w := J 542 24) 24 mt_222 rfl rfl c_542 (by decide) rfl ?_
  obtain ⟨z1, h⟩ := h
  obtain ⟨z2, h⟩ := h
  refine j_if2 mt_222 rfl rfl z1 z2 (fun c => ?_) (fun c => ?_)
  · replace h := h.1 c
    refine v_s mt_222 rfl rfl rfl ?_
    exact v_ret mt_222 rfl rfl rfl h
  · replace h := h.2 (Int.not_le.mp c)
    refine v_s mt_222 rfl rfl rfl ?_
    refine v_s mt_222 rfl rfl rfl ?_
    refine v_gr (w := 562) 46 mt_222 rfl rfl c_542 (by decide) (g_12_46 c_542) ?_
    refine v_bp (v := Int32.ofInt 12) mt_222 rfl rfl ?_
    refine v_s mt_222 rfl rfl rfl ?_
    refine j_add (e := 12 + x3) mt_222 rfl rfl ?_
    obtain ⟨z3, h⟩ := h
    refine j_al (w := J 562 ((12 + x3).toNat)) mt_222 rfl c_562 z3 (by decide) rfl ?_
    refine v_ic (v := Int32.ofInt (-1)) mt_222 rfl rfl ?_
    obtain ⟨z4, h⟩ := h
    refine j_if2 mt_222 rfl rfl z4 ⟨by decide, by decide⟩ (fun c => ?_) (fun c => ?_)
    · replace h := h.1 c
      refine v_ic (v := Int32.ofInt 0) mt_222 rfl rfl ?_
      refine j_or (e := bOr x2 0) mt_222 rfl rfl ?_
      refine v_isn (L' := [some (.ref 542), some (iv x1), some (iv (bOr x2 0)), some (iv x3)]) mt_222 rfl (Nat.le_of_ble_eq_true rfl) rfl ?_
      refine j_inc (e := x3 + 1) (L' := [some (.ref 542), some (iv x1), some (iv (bOr x2 0)), some (iv (x3 + 1))]) mt_222 rfl rfl (Nat.le_of_ble_eq_true rfl) rfl rfl ?_
      refine v_go mt_222 rfl rfl ?_
      exact h
    · replace h := h.2 c
      refine v_s mt_222 rfl rfl rfl ?_
      refine v_ic (v := Int32.ofInt (-1)) mt_222 rfl rfl ?_
      obtain ⟨z5, h⟩ := h
      refine j_if2 mt_222 rfl rfl z5 ⟨by decide, by decide⟩ (fun c => ?_) (fun c => ?_)
      · replace h := h.1 c
        refine v_ic (v := Int32.ofInt 1) mt_222 rfl rfl ?_
        refine v_s mt_222 rfl rfl rfl ?_
        refine j_shl (e := bShl 1 x3) mt_222 rfl rfl ?_
        refine v_go mt_222 rfl rfl ?_
        refine j_or (e := bOr x2 (bShl 1 x3)) mt_222 rfl rfl ?_
        refine v_isn (L' := [some (.ref 542), some (iv x1), some (iv (bOr x2 (bShl 1 x3))), some (iv x3)]) mt_222 rfl (Nat.le_of_ble_eq_true rfl) rfl ?_
        refine j_inc (e := x3 + 1) (L' := [some (.ref 542), some (iv x1), some (iv (bOr x2 (bShl 1 x3))), some (iv (x3 + 1))]) mt_222 rfl rfl (Nat.le_of_ble_eq_true rfl) rfl rfl ?_
        refine v_go mt_222 rfl rfl ?_
        exact h
      · replace h := h.2 c
        refine v_s mt_222 rfl rfl rfl ?_
        refine v_gr (w := 562) 46 mt_222 rfl rfl c_542 (by decide) (g_12_46 c_542) ?_
        refine v_bp (v := Int32.ofInt 12) mt_222 rfl rfl ?_
        refine v_s mt_222 rfl rfl rfl ?_
        refine j_add (e := 12 + x3) mt_222 rfl rfl ?_
        refine j_al (w := J 562 ((12 + x3).toNat)) mt_222 rfl c_562 z3 (by decide) rfl ?_
        refine v_s mt_222 rfl rfl rfl ?_
        refine j_if2 mt_222 rfl rfl z4 z5 (fun c => ?_) (fun c => ?_)
        · replace h := h.1 c
          refine v_ic (v := Int32.ofInt 0) mt_222 rfl rfl ?_
          refine j_or (e := bOr x2 0) mt_222 rfl rfl ?_
          refine v_isn (L' := [some (.ref 542), some (iv x1), some (iv (bOr x2 0)), some (iv x3)]) mt_222 rfl (Nat.le_of_ble_eq_true rfl) rfl ?_
          refine j_inc (e := x3 + 1) (L' := [some (.ref 542), some (iv x1), some (iv (bOr x2 0)), some (iv (x3 + 1))]) mt_222 rfl rfl (Nat.le_of_ble_eq_true rfl) rfl rfl ?_
          refine v_go mt_222 rfl rfl ?_
          exact h
        · replace h := h.2 (Decidable.not_not.mp c)
          refine v_ic (v := Int32.ofInt 1) mt_222 rfl rfl ?_
          refine v_s mt_222 rfl rfl rfl ?_
          refine j_shl (e := bShl 1 x3) mt_222 rfl rfl ?_
          refine v_go mt_222 rfl rfl ?_
          refine j_or (e := bOr x2 (bShl 1 x3)) mt_222 rfl rfl ?_
          refine v_isn (L' := [some (.ref 542), some (iv x1), some (iv (bOr x2 (bShl 1 x3))), some (iv x3)]) mt_222 rfl (Nat.le_of_ble_eq_true rfl) rfl ?_
          refine j_inc (e := x3 + 1) (L' := [some (.ref 542), some (iv x1), some (iv (bOr x2 (bShl 1 x3))), some (iv (x3 + 1))]) mt_222 rfl rfl (Nat.le_of_ble_eq_true rfl) rfl rfl ?_
          refine v_go mt_222 rfl rfl ?_
          exact h
set_option maxHeartbeats 600000 in
theorem b_223_0 {X : Nat × (Nat → Int32)} {d : Nat} {J : Nat → Nat → Int} {sw : Bool × Bool × Bool} {lg : Nat → Nat → Int64} {x : Nat} {K : (Option Value ⊕ Nat) → mM → Prop} {o1 o2 : Option Value}
    (h : VV X d 223 (4, [some (.ref 542), some (iv 0), some (iv 0)], [], mj J sw lg x) K) : VV X d 223 (0, [some (.ref 542), o1, o2], [], mj J sw lg x) K := by
  refine v_ic (v := Int32.ofInt 0) mt_223 rfl rfl ?_
  refine v_isn (L' := [some (.ref 542), some (iv 0), o2]) mt_223 rfl (Nat.le_of_ble_eq_true rfl) rfl ?_
  refine v_ic (v := Int32.ofInt 0) mt_223 rfl rfl ?_
  refine v_isn (L' := [some (.ref 542), some (iv 0), some (iv 0)]) mt_223 rfl (Nat.le_of_ble_eq_true rfl) rfl ?_
  exact h
set_option maxHeartbeats 600000 in
theorem b_223_4 {X : Nat × (Nat → Int32)} {d : Nat} {J : Nat → Nat → Int} {sw : Bool × Bool × Bool} {lg : Nat → Nat → Int64} {x : Nat} {K : (Option Value ⊕ Nat) → mM → Prop} {x1 x2 : Int}
    (h : InR x2 ∧ InR (J 542 25) ∧ (J 542 25 ≤ x2 → K (.inl (some (iv x1))) (mj J sw lg x)) ∧ (x2 < J 542 25 → ((0 ≤ 18 + x2 ∧ 18 + x2 < 50) ∧ VV X d 223 (4, [some (.ref 542), some (iv (bOr x1 (bShl (J 562 ((18 + x2).toNat)) x2))), some (iv (x2 + 1))], [], mj J sw lg x) K))) : VV X d 223 (4, [some (.ref 542), some (iv x1), some (iv x2)], [], mj J sw lg x) K := by
  refine v_s mt_223 rfl rfl rfl ?_
  refine v_s mt_223 rfl rfl rfl ?_
  refine j_gi (w := J 542 25) 25 mt_223 rfl rfl c_542 (by decide) rfl ?_
  obtain ⟨z1, h⟩ := h
  obtain ⟨z2, h⟩ := h
  refine j_if2 mt_223 rfl rfl z1 z2 (fun c => ?_) (fun c => ?_)
  · replace h := h.1 c
    refine v_s mt_223 rfl rfl rfl ?_
    exact v_ret mt_223 rfl rfl rfl h
  · replace h := h.2 (Int.not_le.mp c)
    refine v_s mt_223 rfl rfl rfl ?_
    refine v_s mt_223 rfl rfl rfl ?_
    refine v_gr (w := 562) 46 mt_223 rfl rfl c_542 (by decide) (g_12_46 c_542) ?_
    refine v_bp (v := Int32.ofInt 18) mt_223 rfl rfl ?_
    refine v_s mt_223 rfl rfl rfl ?_
    refine j_add (e := 18 + x2) mt_223 rfl rfl ?_
    obtain ⟨z3, h⟩ := h
    refine j_al (w := J 562 ((18 + x2).toNat)) mt_223 rfl c_562 z3 (by decide) rfl ?_
    refine v_s mt_223 rfl rfl rfl ?_
    refine j_shl (e := bShl (J 562 ((18 + x2).toNat)) x2) mt_223 rfl rfl ?_
    refine j_or (e := bOr x1 (bShl (J 562 ((18 + x2).toNat)) x2)) mt_223 rfl rfl ?_
    refine v_isn (L' := [some (.ref 542), some (iv (bOr x1 (bShl (J 562 ((18 + x2).toNat)) x2))), some (iv x2)]) mt_223 rfl (Nat.le_of_ble_eq_true rfl) rfl ?_
    refine j_inc (e := x2 + 1) (L' := [some (.ref 542), some (iv (bOr x1 (bShl (J 562 ((18 + x2).toNat)) x2))), some (iv (x2 + 1))]) mt_223 rfl rfl (Nat.le_of_ble_eq_true rfl) rfl rfl ?_
    refine v_go mt_223 rfl rfl ?_
    exact h
set_option maxHeartbeats 600000 in
theorem b_235_0 {X : Nat × (Nat → Int32)} {d : Nat} {J : Nat → Nat → Int} {sw : Bool × Bool × Bool} {lg : Nat → Nat → Int64} {x : Nat} {K : (Option Value ⊕ Nat) → mM → Prop} {o1 o2 : Option Value}
    (h : VV X d 235 (4, [some (.ref 542), some (iv 0), some (iv 0)], [], mj J sw lg x) K) : VV X d 235 (0, [some (.ref 542), o1, o2], [], mj J sw lg x) K := by
  refine v_ic (v := Int32.ofInt 0) mt_235 rfl rfl ?_
  refine v_isn (L' := [some (.ref 542), some (iv 0), o2]) mt_235 rfl (Nat.le_of_ble_eq_true rfl) rfl ?_
  refine v_ic (v := Int32.ofInt 0) mt_235 rfl rfl ?_
  refine v_isn (L' := [some (.ref 542), some (iv 0), some (iv 0)]) mt_235 rfl (Nat.le_of_ble_eq_true rfl) rfl ?_
  exact h
set_option maxHeartbeats 600000 in
theorem b_235_4 {X : Nat × (Nat → Int32)} {d : Nat} {J : Nat → Nat → Int} {sw : Bool × Bool × Bool} {lg : Nat → Nat → Int64} {x : Nat} {K : (Option Value ⊕ Nat) → mM → Prop} {x1 x2 : Int}
    (h : InR x2 ∧ InR (J 542 26) ∧ (J 542 26 ≤ x2 → K (.inl (some (iv x1))) (mj J sw lg x)) ∧ (x2 < J 542 26 → ((0 ≤ 30 + x2 ∧ 30 + x2 < 50) ∧ InR (J 562 ((30 + x2).toNat)) ∧ (¬ J 562 ((30 + x2).toNat) = 0 → VV X d 235 (4, [some (.ref 542), some (iv (bOr x1 0)), some (iv (x2 + 1))], [], mj J sw lg x) K) ∧ (J 562 ((30 + x2).toNat) = 0 → VV X d 235 (4, [some (.ref 542), some (iv (bOr x1 (bShl 1 x2))), some (iv (x2 + 1))], [], mj J sw lg x) K)))) : VV X d 235 (4, [some (.ref 542), some (iv x1), some (iv x2)], [], mj J sw lg x) K := by
  refine v_s mt_235 rfl rfl rfl ?_
  refine v_s mt_235 rfl rfl rfl ?_
  refine j_gi (w := J 542 26) 26 mt_235 rfl rfl c_542 (by decide) rfl ?_
  obtain ⟨z1, h⟩ := h
  obtain ⟨z2, h⟩ := h
  refine j_if2 mt_235 rfl rfl z1 z2 (fun c => ?_) (fun c => ?_)
  · replace h := h.1 c
    refine v_s mt_235 rfl rfl rfl ?_
    exact v_ret mt_235 rfl rfl rfl h
  · replace h := h.2 (Int.not_le.mp c)
    refine v_s mt_235 rfl rfl rfl ?_
    refine v_s mt_235 rfl rfl rfl ?_
    refine v_gr (w := 562) 46 mt_235 rfl rfl c_542 (by decide) (g_12_46 c_542) ?_
    refine v_bp (v := Int32.ofInt 30) mt_235 rfl rfl ?_
    refine v_s mt_235 rfl rfl rfl ?_
    refine j_add (e := 30 + x2) mt_235 rfl rfl ?_
    obtain ⟨z3, h⟩ := h
    refine j_al (w := J 562 ((30 + x2).toNat)) mt_235 rfl c_562 z3 (by decide) rfl ?_
    obtain ⟨z4, h⟩ := h
    refine j_if1 mt_235 rfl rfl z4 (fun c => ?_) (fun c => ?_)
    · replace h := h.1 c
      refine v_ic (v := Int32.ofInt 0) mt_235 rfl rfl ?_
      refine j_or (e := bOr x1 0) mt_235 rfl rfl ?_
      refine v_isn (L' := [some (.ref 542), some (iv (bOr x1 0)), some (iv x2)]) mt_235 rfl (Nat.le_of_ble_eq_true rfl) rfl ?_
      refine j_inc (e := x2 + 1) (L' := [some (.ref 542), some (iv (bOr x1 0)), some (iv (x2 + 1))]) mt_235 rfl rfl (Nat.le_of_ble_eq_true rfl) rfl rfl ?_
      refine v_go mt_235 rfl rfl ?_
      exact h
    · replace h := h.2 (Decidable.not_not.mp c)
      refine v_ic (v := Int32.ofInt 1) mt_235 rfl rfl ?_
      refine v_s mt_235 rfl rfl rfl ?_
      refine j_shl (e := bShl 1 x2) mt_235 rfl rfl ?_
      refine v_go mt_235 rfl rfl ?_
      refine j_or (e := bOr x1 (bShl 1 x2)) mt_235 rfl rfl ?_
      refine v_isn (L' := [some (.ref 542), some (iv (bOr x1 (bShl 1 x2))), some (iv x2)]) mt_235 rfl (Nat.le_of_ble_eq_true rfl) rfl ?_
      refine j_inc (e := x2 + 1) (L' := [some (.ref 542), some (iv (bOr x1 (bShl 1 x2))), some (iv (x2 + 1))]) mt_235 rfl rfl (Nat.le_of_ble_eq_true rfl) rfl rfl ?_
      refine v_go mt_235 rfl rfl ?_
      exact h
set_option maxHeartbeats 600000 in
theorem b_244_0 {X : Nat × (Nat → Int32)} {d : Nat} {J : Nat → Nat → Int} {sw : Bool × Bool × Bool} {lg : Nat → Nat → Int64} {x : Nat} {K : (Option Value ⊕ Nat) → mM → Prop} {o1 o2 : Option Value}
    (h : VV X d 244 (4, [some (.ref 542), some (iv 0), some (iv 0)], [], mj J sw lg x) K) : VV X d 244 (0, [some (.ref 542), o1, o2], [], mj J sw lg x) K := by
  refine v_ic (v := Int32.ofInt 0) mt_244 rfl rfl ?_
  refine v_isn (L' := [some (.ref 542), some (iv 0), o2]) mt_244 rfl (Nat.le_of_ble_eq_true rfl) rfl ?_
  refine v_ic (v := Int32.ofInt 0) mt_244 rfl rfl ?_
  refine v_isn (L' := [some (.ref 542), some (iv 0), some (iv 0)]) mt_244 rfl (Nat.le_of_ble_eq_true rfl) rfl ?_
  exact h
set_option maxHeartbeats 600000 in
theorem b_244_4 {X : Nat × (Nat → Int32)} {d : Nat} {J : Nat → Nat → Int} {sw : Bool × Bool × Bool} {lg : Nat → Nat → Int64} {x : Nat} {K : (Option Value ⊕ Nat) → mM → Prop} {x1 x2 : Int}
    (h : InR x2 ∧ InR (J 542 26) ∧ (J 542 26 ≤ x2 → K (.inl (some (iv x1))) (mj J sw lg x)) ∧ (x2 < J 542 26 → ((0 ≤ 30 + x2 ∧ 30 + x2 < 50) ∧ InR (J 561 ((30 + x2).toNat)) ∧ (J 561 ((30 + x2).toNat) ≤ 0 → VV X d 244 (4, [some (.ref 542), some (iv (bOr x1 0)), some (iv (x2 + 1))], [], mj J sw lg x) K) ∧ (0 < J 561 ((30 + x2).toNat) → VV X d 244 (4, [some (.ref 542), some (iv (bOr x1 (bShl 1 x2))), some (iv (x2 + 1))], [], mj J sw lg x) K)))) : VV X d 244 (4, [some (.ref 542), some (iv x1), some (iv x2)], [], mj J sw lg x) K := by
  refine v_s mt_244 rfl rfl rfl ?_
  refine v_s mt_244 rfl rfl rfl ?_
  refine j_gi (w := J 542 26) 26 mt_244 rfl rfl c_542 (by decide) rfl ?_
  obtain ⟨z1, h⟩ := h
  obtain ⟨z2, h⟩ := h
  refine j_if2 mt_244 rfl rfl z1 z2 (fun c => ?_) (fun c => ?_)
  · replace h := h.1 c
    refine v_s mt_244 rfl rfl rfl ?_
    exact v_ret mt_244 rfl rfl rfl h
  · replace h := h.2 (Int.not_le.mp c)
    refine v_s mt_244 rfl rfl rfl ?_
    refine v_s mt_244 rfl rfl rfl ?_
    refine v_gr (w := 561) 45 mt_244 rfl rfl c_542 (by decide) (g_12_45 c_542) ?_
    refine v_bp (v := Int32.ofInt 30) mt_244 rfl rfl ?_
    refine v_s mt_244 rfl rfl rfl ?_
    refine j_add (e := 30 + x2) mt_244 rfl rfl ?_
    obtain ⟨z3, h⟩ := h
    refine j_al (w := J 561 ((30 + x2).toNat)) mt_244 rfl c_561 z3 (by decide) rfl ?_
    obtain ⟨z4, h⟩ := h
    refine j_if1 mt_244 rfl rfl z4 (fun c => ?_) (fun c => ?_)
    · replace h := h.1 c
      refine v_ic (v := Int32.ofInt 0) mt_244 rfl rfl ?_
      refine j_or (e := bOr x1 0) mt_244 rfl rfl ?_
      refine v_isn (L' := [some (.ref 542), some (iv (bOr x1 0)), some (iv x2)]) mt_244 rfl (Nat.le_of_ble_eq_true rfl) rfl ?_
      refine j_inc (e := x2 + 1) (L' := [some (.ref 542), some (iv (bOr x1 0)), some (iv (x2 + 1))]) mt_244 rfl rfl (Nat.le_of_ble_eq_true rfl) rfl rfl ?_
      refine v_go mt_244 rfl rfl ?_
      exact h
    · replace h := h.2 (Int.not_le.mp c)
      refine v_ic (v := Int32.ofInt 1) mt_244 rfl rfl ?_
      refine v_s mt_244 rfl rfl rfl ?_
      refine j_shl (e := bShl 1 x2) mt_244 rfl rfl ?_
      refine v_go mt_244 rfl rfl ?_
      refine j_or (e := bOr x1 (bShl 1 x2)) mt_244 rfl rfl ?_
      refine v_isn (L' := [some (.ref 542), some (iv (bOr x1 (bShl 1 x2))), some (iv x2)]) mt_244 rfl (Nat.le_of_ble_eq_true rfl) rfl ?_
      refine j_inc (e := x2 + 1) (L' := [some (.ref 542), some (iv (bOr x1 (bShl 1 x2))), some (iv (x2 + 1))]) mt_244 rfl rfl (Nat.le_of_ble_eq_true rfl) rfl rfl ?_
      refine v_go mt_244 rfl rfl ?_
      exact h
set_option maxHeartbeats 600000 in
theorem b_262_0 {X : Nat × (Nat → Int32)} {d : Nat} {J : Nat → Nat → Int} {sw : Bool × Bool × Bool} {lg : Nat → Nat → Int64} {x : Nat} {K : (Option Value ⊕ Nat) → mM → Prop} {x1 : Int} {o2 o3 o4 : Option Value}
    (h : VV X d 262 (7, [some (.ref 542), some (iv x1), some (iv (-1)), some (iv 0), some (iv 0)], [], mj J sw lg x) K) : VV X d 262 (0, [some (.ref 542), some (iv x1), o2, o3, o4], [], mj J sw lg x) K := by
  refine v_ic (v := Int32.ofInt (-1)) mt_262 rfl rfl ?_
  refine v_isn (L' := [some (.ref 542), some (iv x1), some (iv (-1)), o3, o4]) mt_262 rfl (Nat.le_of_ble_eq_true rfl) rfl ?_
  refine v_ic (v := Int32.ofInt 0) mt_262 rfl rfl ?_
  refine v_isn (L' := [some (.ref 542), some (iv x1), some (iv (-1)), some (iv 0), o4]) mt_262 rfl (Nat.le_of_ble_eq_true rfl) rfl ?_
  refine v_ic (v := Int32.ofInt 0) mt_262 rfl rfl ?_
  refine v_is (L' := [some (.ref 542), some (iv x1), some (iv (-1)), some (iv 0), some (iv 0)]) mt_262 rfl (Nat.le_of_ble_eq_true rfl) rfl ?_
  exact h
set_option maxHeartbeats 600000 in
theorem b_262_7 {X : Nat × (Nat → Int32)} {d : Nat} {J : Nat → Nat → Int} {sw : Bool × Bool × Bool} {lg : Nat → Nat → Int64} {x : Nat} {K : (Option Value ⊕ Nat) → mM → Prop} {x1 x2 x3 x4 : Int}
    (h : InR x4 ∧ InR (J 542 26) ∧ (J 542 26 ≤ x4 → K (.inl (some (iv x2))) (mj J sw lg x)) ∧ (x4 < J 542 26 → ((0 ≤ x1 + x4 ∧ x1 + x4 < 50) ∧ InR (J 561 ((x1 + x4).toNat)) ∧ InR x3 ∧ (x3 < J 561 ((x1 + x4).toNat) → VV X d 262 (7, [some (.ref 542), some (iv x1), some (iv x4), some (iv (J 561 ((x1 + x4).toNat))), some (iv (x4 + 1))], [], mj J sw lg x) K) ∧ (J 561 ((x1 + x4).toNat) ≤ x3 → VV X d 262 (7, [some (.ref 542), some (iv x1), some (iv x2), some (iv x3), some (iv (x4 + 1))], [], mj J sw lg x) K)))) : VV X d 262 (7, [some (.ref 542), some (iv x1), some (iv x2), some (iv x3), some (iv x4)], [], mj J sw lg x) K := by
  refine v_s mt_262 rfl rfl rfl ?_
  refine v_s mt_262 rfl rfl rfl ?_
  refine j_gi (w := J 542 26) 26 mt_262 rfl rfl c_542 (by decide) rfl ?_
  obtain ⟨z1, h⟩ := h
  obtain ⟨z2, h⟩ := h
  refine j_if2 mt_262 rfl rfl z1 z2 (fun c => ?_) (fun c => ?_)
  · replace h := h.1 c
    refine v_s mt_262 rfl rfl rfl ?_
    exact v_ret mt_262 rfl rfl rfl h
  · replace h := h.2 (Int.not_le.mp c)
    refine v_s mt_262 rfl rfl rfl ?_
    refine v_gr (w := 561) 45 mt_262 rfl rfl c_542 (by decide) (g_12_45 c_542) ?_
    refine v_s mt_262 rfl rfl rfl ?_
    refine v_s mt_262 rfl rfl rfl ?_
    refine j_add (e := x1 + x4) mt_262 rfl rfl ?_
    obtain ⟨z3, h⟩ := h
    refine j_al (w := J 561 ((x1 + x4).toNat)) mt_262 rfl c_561 z3 (by decide) rfl ?_
    refine v_s mt_262 rfl rfl rfl ?_
    obtain ⟨z4, h⟩ := h
    obtain ⟨z5, h⟩ := h
    refine j_if2 mt_262 rfl rfl z4 z5 (fun c => ?_) (fun c => ?_)
    · replace h := h.1 c
      refine v_s mt_262 rfl rfl rfl ?_
      refine v_isn (L' := [some (.ref 542), some (iv x1), some (iv x4), some (iv x3), some (iv x4)]) mt_262 rfl (Nat.le_of_ble_eq_true rfl) rfl ?_
      refine v_s mt_262 rfl rfl rfl ?_
      refine v_gr (w := 561) 45 mt_262 rfl rfl c_542 (by decide) (g_12_45 c_542) ?_
      refine v_s mt_262 rfl rfl rfl ?_
      refine v_s mt_262 rfl rfl rfl ?_
      refine j_add (e := x1 + x4) mt_262 rfl rfl ?_
      refine j_al (w := J 561 ((x1 + x4).toNat)) mt_262 rfl c_561 z3 (by decide) rfl ?_
      refine v_isn (L' := [some (.ref 542), some (iv x1), some (iv x4), some (iv (J 561 ((x1 + x4).toNat))), some (iv x4)]) mt_262 rfl (Nat.le_of_ble_eq_true rfl) rfl ?_
      refine j_inc (e := x4 + 1) (L' := [some (.ref 542), some (iv x1), some (iv x4), some (iv (J 561 ((x1 + x4).toNat))), some (iv (x4 + 1))]) mt_262 rfl rfl (Nat.le_of_ble_eq_true rfl) rfl rfl ?_
      refine v_go mt_262 rfl rfl ?_
      exact h
    · replace h := h.2 (Int.not_lt.mp c)
      refine v_go mt_262 rfl rfl ?_
      refine j_inc (e := x4 + 1) (L' := [some (.ref 542), some (iv x1), some (iv x2), some (iv x3), some (iv (x4 + 1))]) mt_262 rfl rfl (Nat.le_of_ble_eq_true rfl) rfl rfl ?_
      refine v_go mt_262 rfl rfl ?_
      exact h
set_option maxHeartbeats 600000 in
theorem b_205_0 {X : Nat × (Nat → Int32)} {d : Nat} {J : Nat → Nat → Int} {sw : Bool × Bool × Bool} {lg : Nat → Nat → Int64} {x : Nat} {K : (Option Value ⊕ Nat) → mM → Prop} {x1 : Int} {o2 o3 : Option Value}
    (h : VV X d 205 (4, [some (.ref 542), some (iv x1), some (iv 0), some (iv 0)], [], mj J sw lg x) K) : VV X d 205 (0, [some (.ref 542), some (iv x1), o2, o3], [], mj J sw lg x) K := by
  refine v_ic (v := Int32.ofInt 0) mt_205 rfl rfl ?_
  refine v_isn (L' := [some (.ref 542), some (iv x1), some (iv 0), o3]) mt_205 rfl (Nat.le_of_ble_eq_true rfl) rfl ?_
  refine v_ic (v := Int32.ofInt 0) mt_205 rfl rfl ?_
  refine v_isn (L' := [some (.ref 542), some (iv x1), some (iv 0), some (iv 0)]) mt_205 rfl (Nat.le_of_ble_eq_true rfl) rfl ?_
  exact h
set_option maxHeartbeats 600000 in
theorem b_205_4 {X : Nat × (Nat → Int32)} {d : Nat} {J : Nat → Nat → Int} {sw : Bool × Bool × Bool} {lg : Nat → Nat → Int64} {x : Nat} {K : (Option Value ⊕ Nat) → mM → Prop} {x1 x2 x3 : Int}
    (h : InR x3 ∧ InR (J 542 27) ∧ (J 542 27 ≤ x3 → K (.inl (some (iv x2))) (mj J sw lg x)) ∧ (x3 < J 542 27 → ((0 ≤ 2 * x3 ∧ 2 * x3 < 28) ∧ InR (J 552 ((2 * x3).toNat)) ∧ InR x1 ∧ (¬ J 552 ((2 * x3).toNat) = x1 → ((0 ≤ (2 * x3) + 1 ∧ (2 * x3) + 1 < 28) ∧ InR (J 552 (((2 * x3) + 1).toNat)) ∧ (¬ J 552 (((2 * x3) + 1).toNat) = x1 → VV X d 205 (4, [some (.ref 542), some (iv x1), some (iv x2), some (iv (x3 + 1))], [], mj J sw lg x) K) ∧ (J 552 (((2 * x3) + 1).toNat) = x1 → VV X d 205 (4, [some (.ref 542), some (iv x1), some (iv (bOr x2 (bShl 1 (J 552 ((2 * x3).toNat))))), some (iv (x3 + 1))], [], mj J sw lg x) K))) ∧ (J 552 ((2 * x3).toNat) = x1 → ((0 ≤ (2 * x3) + 1 ∧ (2 * x3) + 1 < 28) ∧ InR (J 552 (((2 * x3) + 1).toNat)) ∧ (¬ J 552 (((2 * x3) + 1).toNat) = x1 → VV X d 205 (4, [some (.ref 542), some (iv x1), some (iv (bOr x2 (bShl 1 (J 552 (((2 * x3) + 1).toNat))))), some (iv (x3 + 1))], [], mj J sw lg x) K) ∧ (J 552 (((2 * x3) + 1).toNat) = x1 → VV X d 205 (4, [some (.ref 542), some (iv x1), some (iv (bOr (bOr x2 (bShl 1 (J 552 (((2 * x3) + 1).toNat)))) (bShl 1 (J 552 ((2 * x3).toNat))))), some (iv (x3 + 1))], [], mj J sw lg x) K)))))) : VV X d 205 (4, [some (.ref 542), some (iv x1), some (iv x2), some (iv x3)], [], mj J sw lg x) K := by
  refine v_s mt_205 rfl rfl rfl ?_
  refine v_s mt_205 rfl rfl rfl ?_
  refine j_gi (w := J 542 27) 27 mt_205 rfl rfl c_542 (by decide) rfl ?_
  obtain ⟨z1, h⟩ := h
  obtain ⟨z2, h⟩ := h
  refine j_if2 mt_205 rfl rfl z1 z2 (fun c => ?_) (fun c => ?_)
  · replace h := h.1 c
    refine v_s mt_205 rfl rfl rfl ?_
    exact v_ret mt_205 rfl rfl rfl h
  · replace h := h.2 (Int.not_le.mp c)
    refine v_s mt_205 rfl rfl rfl ?_
    refine v_gr (w := 552) 17 mt_205 rfl rfl c_542 (by decide) (g_12_17 c_542) ?_
    refine v_ic (v := Int32.ofInt 2) mt_205 rfl rfl ?_
    refine v_s mt_205 rfl rfl rfl ?_
    refine j_mul (e := 2 * x3) mt_205 rfl rfl ?_
    obtain ⟨z3, h⟩ := h
    refine j_al (w := J 552 ((2 * x3).toNat)) mt_205 rfl c_552 z3 (by decide) rfl ?_
    refine v_s mt_205 rfl rfl rfl ?_
    obtain ⟨z4, h⟩ := h
    obtain ⟨z5, h⟩ := h
    refine j_if2 mt_205 rfl rfl z4 z5 (fun c => ?_) (fun c => ?_)
    · replace h := h.1 c
      refine v_s mt_205 rfl rfl rfl ?_
      refine v_gr (w := 552) 17 mt_205 rfl rfl c_542 (by decide) (g_12_17 c_542) ?_
      refine v_ic (v := Int32.ofInt 2) mt_205 rfl rfl ?_
      refine v_s mt_205 rfl rfl rfl ?_
      refine j_mul (e := 2 * x3) mt_205 rfl rfl ?_
      refine v_ic (v := Int32.ofInt 1) mt_205 rfl rfl ?_
      refine j_add (e := (2 * x3) + 1) mt_205 rfl rfl ?_
      obtain ⟨z6, h⟩ := h
      refine j_al (w := J 552 (((2 * x3) + 1).toNat)) mt_205 rfl c_552 z6 (by decide) rfl ?_
      refine v_s mt_205 rfl rfl rfl ?_
      obtain ⟨z7, h⟩ := h
      refine j_if2 mt_205 rfl rfl z7 z5 (fun c => ?_) (fun c => ?_)
      · replace h := h.1 c
        refine j_inc (e := x3 + 1) (L' := [some (.ref 542), some (iv x1), some (iv x2), some (iv (x3 + 1))]) mt_205 rfl rfl (Nat.le_of_ble_eq_true rfl) rfl rfl ?_
        refine v_go mt_205 rfl rfl ?_
        exact h
      · replace h := h.2 (Decidable.not_not.mp c)
        refine v_s mt_205 rfl rfl rfl ?_
        refine v_ic (v := Int32.ofInt 1) mt_205 rfl rfl ?_
        refine v_s mt_205 rfl rfl rfl ?_
        refine v_gr (w := 552) 17 mt_205 rfl rfl c_542 (by decide) (g_12_17 c_542) ?_
        refine v_ic (v := Int32.ofInt 2) mt_205 rfl rfl ?_
        refine v_s mt_205 rfl rfl rfl ?_
        refine j_mul (e := 2 * x3) mt_205 rfl rfl ?_
        refine j_al (w := J 552 ((2 * x3).toNat)) mt_205 rfl c_552 z3 (by decide) rfl ?_
        refine j_shl (e := bShl 1 (J 552 ((2 * x3).toNat))) mt_205 rfl rfl ?_
        refine j_or (e := bOr x2 (bShl 1 (J 552 ((2 * x3).toNat)))) mt_205 rfl rfl ?_
        refine v_isn (L' := [some (.ref 542), some (iv x1), some (iv (bOr x2 (bShl 1 (J 552 ((2 * x3).toNat))))), some (iv x3)]) mt_205 rfl (Nat.le_of_ble_eq_true rfl) rfl ?_
        refine j_inc (e := x3 + 1) (L' := [some (.ref 542), some (iv x1), some (iv (bOr x2 (bShl 1 (J 552 ((2 * x3).toNat))))), some (iv (x3 + 1))]) mt_205 rfl rfl (Nat.le_of_ble_eq_true rfl) rfl rfl ?_
        refine v_go mt_205 rfl rfl ?_
        exact h
    · replace h := h.2 (Decidable.not_not.mp c)
      refine v_s mt_205 rfl rfl rfl ?_
      refine v_ic (v := Int32.ofInt 1) mt_205 rfl rfl ?_
      refine v_s mt_205 rfl rfl rfl ?_
      refine v_gr (w := 552) 17 mt_205 rfl rfl c_542 (by decide) (g_12_17 c_542) ?_
      refine v_ic (v := Int32.ofInt 2) mt_205 rfl rfl ?_
      refine v_s mt_205 rfl rfl rfl ?_
      refine j_mul (e := 2 * x3) mt_205 rfl rfl ?_
      refine v_ic (v := Int32.ofInt 1) mt_205 rfl rfl ?_
      refine j_add (e := (2 * x3) + 1) mt_205 rfl rfl ?_
      obtain ⟨z8, h⟩ := h
      refine j_al (w := J 552 (((2 * x3) + 1).toNat)) mt_205 rfl c_552 z8 (by decide) rfl ?_
      refine j_shl (e := bShl 1 (J 552 (((2 * x3) + 1).toNat))) mt_205 rfl rfl ?_
      refine j_or (e := bOr x2 (bShl 1 (J 552 (((2 * x3) + 1).toNat)))) mt_205 rfl rfl ?_
      refine v_isn (L' := [some (.ref 542), some (iv x1), some (iv (bOr x2 (bShl 1 (J 552 (((2 * x3) + 1).toNat))))), some (iv x3)]) mt_205 rfl (Nat.le_of_ble_eq_true rfl) rfl ?_
      refine v_s mt_205 rfl rfl rfl ?_
      refine v_gr (w := 552) 17 mt_205 rfl rfl c_542 (by decide) (g_12_17 c_542) ?_
      refine v_ic (v := Int32.ofInt 2) mt_205 rfl rfl ?_
      refine v_s mt_205 rfl rfl rfl ?_
      refine j_mul (e := 2 * x3) mt_205 rfl rfl ?_
      refine v_ic (v := Int32.ofInt 1) mt_205 rfl rfl ?_
      refine j_add (e := (2 * x3) + 1) mt_205 rfl rfl ?_
      refine j_al (w := J 552 (((2 * x3) + 1).toNat)) mt_205 rfl c_552 z8 (by decide) rfl ?_
      refine v_s mt_205 rfl rfl rfl ?_
      obtain ⟨z9, h⟩ := h
      refine j_if2 mt_205 rfl rfl z9 z5 (fun c => ?_) (fun c => ?_)
      · replace h := h.1 c
        refine j_inc (e := x3 + 1) (L' := [some (.ref 542), some (iv x1), some (iv (bOr x2 (bShl 1 (J 552 (((2 * x3) + 1).toNat))))), some (iv (x3 + 1))]) mt_205 rfl rfl (Nat.le_of_ble_eq_true rfl) rfl rfl ?_
        refine v_go mt_205 rfl rfl ?_
        exact h
      · replace h := h.2 (Decidable.not_not.mp c)
        refine v_s mt_205 rfl rfl rfl ?_
        refine v_ic (v := Int32.ofInt 1) mt_205 rfl rfl ?_
        refine v_s mt_205 rfl rfl rfl ?_
        refine v_gr (w := 552) 17 mt_205 rfl rfl c_542 (by decide) (g_12_17 c_542) ?_
        refine v_ic (v := Int32.ofInt 2) mt_205 rfl rfl ?_
        refine v_s mt_205 rfl rfl rfl ?_
        refine j_mul (e := 2 * x3) mt_205 rfl rfl ?_
        refine j_al (w := J 552 ((2 * x3).toNat)) mt_205 rfl c_552 z3 (by decide) rfl ?_
        refine j_shl (e := bShl 1 (J 552 ((2 * x3).toNat))) mt_205 rfl rfl ?_
        refine j_or (e := bOr (bOr x2 (bShl 1 (J 552 (((2 * x3) + 1).toNat)))) (bShl 1 (J 552 ((2 * x3).toNat)))) mt_205 rfl rfl ?_
        refine v_isn (L' := [some (.ref 542), some (iv x1), some (iv (bOr (bOr x2 (bShl 1 (J 552 (((2 * x3) + 1).toNat)))) (bShl 1 (J 552 ((2 * x3).toNat))))), some (iv x3)]) mt_205 rfl (Nat.le_of_ble_eq_true rfl) rfl ?_
        refine j_inc (e := x3 + 1) (L' := [some (.ref 542), some (iv x1), some (iv (bOr (bOr x2 (bShl 1 (J 552 (((2 * x3) + 1).toNat)))) (bShl 1 (J 552 ((2 * x3).toNat))))), some (iv (x3 + 1))]) mt_205 rfl rfl (Nat.le_of_ble_eq_true rfl) rfl rfl ?_
        refine v_go mt_205 rfl rfl ?_
        exact h
set_option maxHeartbeats 600000 in
theorem b_106_0 {X : Nat × (Nat → Int32)} {d : Nat} {J : Nat → Nat → Int} {sw : Bool × Bool × Bool} {lg : Nat → Nat → Int64} {x : Nat} {K : (Option Value ⊕ Nat) → mM → Prop} {r0 : Nat} {x1 : Int} {o2 o3 : Option Value} (h0 : SH[r0]? = some (14, 12))
    (h : VV X d 106 (4, [some (.ref r0), some (iv x1), some (iv x1), some (iv 0)], [], mj J sw lg x) K) : VV X d 106 (0, [some (.ref r0), some (iv x1), o2, o3], [], mj J sw lg x) K := by
  refine v_s mt_106 rfl rfl rfl ?_
  refine v_isn (L' := [some (.ref r0), some (iv x1), some (iv x1), o3]) mt_106 rfl (Nat.le_of_ble_eq_true rfl) rfl ?_
  refine v_ic (v := Int32.ofInt 0) mt_106 rfl rfl ?_
  refine v_isn (L' := [some (.ref r0), some (iv x1), some (iv x1), some (iv 0)]) mt_106 rfl (Nat.le_of_ble_eq_true rfl) rfl ?_
  exact h
set_option maxHeartbeats 600000 in
theorem b_106_4 {X : Nat × (Nat → Int32)} {d : Nat} {J : Nat → Nat → Int} {sw : Bool × Bool × Bool} {lg : Nat → Nat → Int64} {x : Nat} {K : (Option Value ⊕ Nat) → mM → Prop} {r0 : Nat} {x1 x2 x3 : Int} (h0 : SH[r0]? = some (14, 12))
    (h : InR x3 ∧ InR (J r0 2) ∧ (J r0 2 ≤ x3 → K (.inl (some (iv x2))) (mj J sw lg x)) ∧ (x3 < J r0 2 → ((bAnd (bShr x1 x3) 1 = 0 → VV X d 106 (4, [some (.ref r0), some (iv x1), some (iv x2), some (iv (x3 + 1))], [], mj J sw lg x) K) ∧ (¬ bAnd (bShr x1 x3) 1 = 0 → ((0 ≤ x3 ∧ x3 < 9) ∧ VV X d 106 (4, [some (.ref r0), some (iv x1), some (iv (bOr x2 (J (r0 + 4) x3.toNat))), some (iv (x3 + 1))], [], mj J sw lg x) K))))) : VV X d 106 (4, [some (.ref r0), some (iv x1), some (iv x2), some (iv x3)], [], mj J sw lg x) K := by
  refine v_s mt_106 rfl rfl rfl ?_
  refine v_s mt_106 rfl rfl rfl ?_
  refine j_gi (w := J r0 2) 2 mt_106 rfl rfl h0 (by decide) rfl ?_
  obtain ⟨z1, h⟩ := h
  obtain ⟨z2, h⟩ := h
  refine j_if2 mt_106 rfl rfl z1 z2 (fun c => ?_) (fun c => ?_)
  · replace h := h.1 c
    refine v_s mt_106 rfl rfl rfl ?_
    exact v_ret mt_106 rfl rfl rfl h
  · replace h := h.2 (Int.not_le.mp c)
    refine v_s mt_106 rfl rfl rfl ?_
    refine v_s mt_106 rfl rfl rfl ?_
    refine j_shr (e := bShr x1 x3) mt_106 rfl rfl ?_
    refine v_ic (v := Int32.ofInt 1) mt_106 rfl rfl ?_
    refine j_and (e := bAnd (bShr x1 x3) 1) mt_106 rfl rfl ?_
    refine j_if1 mt_106 rfl rfl (inT _) (fun c => ?_) (fun c => ?_)
    · replace h := h.1 c
      refine j_inc (e := x3 + 1) (L' := [some (.ref r0), some (iv x1), some (iv x2), some (iv (x3 + 1))]) mt_106 rfl rfl (Nat.le_of_ble_eq_true rfl) rfl rfl ?_
      refine v_go mt_106 rfl rfl ?_
      exact h
    · replace h := h.2 c
      refine v_s mt_106 rfl rfl rfl ?_
      refine v_s mt_106 rfl rfl rfl ?_
      refine v_gr (w := (r0 + 4)) 11 mt_106 rfl rfl h0 (by decide) (g_9_11 h0) ?_
      refine v_s mt_106 rfl rfl rfl ?_
      obtain ⟨z3, h⟩ := h
      refine j_al (w := J (r0 + 4) x3.toNat) mt_106 rfl (shV r0 (SH_lt h0) h0).2.2.2.1 z3 (by decide) rfl ?_
      refine j_or (e := bOr x2 (J (r0 + 4) x3.toNat)) mt_106 rfl rfl ?_
      refine v_isn (L' := [some (.ref r0), some (iv x1), some (iv (bOr x2 (J (r0 + 4) x3.toNat))), some (iv x3)]) mt_106 rfl (Nat.le_of_ble_eq_true rfl) rfl ?_
      refine j_inc (e := x3 + 1) (L' := [some (.ref r0), some (iv x1), some (iv (bOr x2 (J (r0 + 4) x3.toNat))), some (iv (x3 + 1))]) mt_106 rfl rfl (Nat.le_of_ble_eq_true rfl) rfl rfl ?_
      refine v_go mt_106 rfl rfl ?_
      exact h
set_option maxHeartbeats 600000 in
theorem b_247_0 {X : Nat × (Nat → Int32)} {d : Nat} {J : Nat → Nat → Int} {sw : Bool × Bool × Bool} {lg : Nat → Nat → Int64} {x : Nat} {K : (Option Value ⊕ Nat) → mM → Prop} {x1 : Int} {o2 o3 : Option Value} (hd : 1 ≤ d)
    (h : VV X d 247 (4, [some (.ref 542), some (iv x1), some (iv x1), some (iv 0)], [], mj J sw lg x) K) : VV X d 247 (0, [some (.ref 542), some (iv x1), o2, o3], [], mj J sw lg x) K := by
  refine v_s mt_247 rfl rfl rfl ?_
  refine v_isn (L' := [some (.ref 542), some (iv x1), some (iv x1), o3]) mt_247 rfl (Nat.le_of_ble_eq_true rfl) rfl ?_
  refine v_ic (v := Int32.ofInt 0) mt_247 rfl rfl ?_
  refine v_isn (L' := [some (.ref 542), some (iv x1), some (iv x1), some (iv 0)]) mt_247 rfl (Nat.le_of_ble_eq_true rfl) rfl ?_
  exact h
set_option maxHeartbeats 600000 in
theorem b_247_4 {X : Nat × (Nat → Int32)} {d : Nat} {J : Nat → Nat → Int} {sw : Bool × Bool × Bool} {lg : Nat → Nat → Int64} {x : Nat} {K : (Option Value ⊕ Nat) → mM → Prop} {x1 x2 x3 : Int} (hd : 1 ≤ d)
    (h : InR x3 ∧ InR (J 542 26) ∧ (J 542 26 ≤ x3 → K (.inl (some (iv x2))) (mj J sw lg x)) ∧ (x3 < J 542 26 → ((¬ bAnd (bShr x1 x3) 1 = 1 → VV X d 247 (4, [some (.ref 542), some (iv x1), some (iv (bOr x2 0)), some (iv (x3 + 1))], [], mj J sw lg x) K) ∧ (bAnd (bShr x1 x3) 1 = 1 → (∃ (c2 : Int) (J1 : Nat → Nat → Int), EE X 0 205 [.ref 542, iv x3] (mj J sw lg x) (.inl (some (iv c2))) (mj J1 sw lg x) ∧ VV X d 247 (4, [some (.ref 542), some (iv x1), some (iv (bOr x2 c2)), some (iv (x3 + 1))], [], mj J1 sw lg x) K))))) : VV X d 247 (4, [some (.ref 542), some (iv x1), some (iv x2), some (iv x3)], [], mj J sw lg x) K := by
  refine v_s mt_247 rfl rfl rfl ?_
  refine v_s mt_247 rfl rfl rfl ?_
  refine j_gi (w := J 542 26) 26 mt_247 rfl rfl c_542 (by decide) rfl ?_
  obtain ⟨z1, h⟩ := h
  obtain ⟨z2, h⟩ := h
  refine j_if2 mt_247 rfl rfl z1 z2 (fun c => ?_) (fun c => ?_)
  · replace h := h.1 c
    refine v_s mt_247 rfl rfl rfl ?_
    exact v_ret mt_247 rfl rfl rfl h
  · replace h := h.2 (Int.not_le.mp c)
    refine v_s mt_247 rfl rfl rfl ?_
    refine v_s mt_247 rfl rfl rfl ?_
    refine v_s mt_247 rfl rfl rfl ?_
    refine j_shr (e := bShr x1 x3) mt_247 rfl rfl ?_
    refine v_ic (v := Int32.ofInt 1) mt_247 rfl rfl ?_
    refine j_and (e := bAnd (bShr x1 x3) 1) mt_247 rfl rfl ?_
    refine v_ic (v := Int32.ofInt 1) mt_247 rfl rfl ?_
    refine j_if2 mt_247 rfl rfl (inT _) ⟨by decide, by decide⟩ (fun c => ?_) (fun c => ?_)
    · replace h := h.1 c
      refine v_ic (v := Int32.ofInt 0) mt_247 rfl rfl ?_
      refine j_or (e := bOr x2 0) mt_247 rfl rfl ?_
      refine v_isn (L' := [some (.ref 542), some (iv x1), some (iv (bOr x2 0)), some (iv x3)]) mt_247 rfl (Nat.le_of_ble_eq_true rfl) rfl ?_
      refine j_inc (e := x3 + 1) (L' := [some (.ref 542), some (iv x1), some (iv (bOr x2 0)), some (iv (x3 + 1))]) mt_247 rfl rfl (Nat.le_of_ble_eq_true rfl) rfl rfl ?_
      refine v_go mt_247 rfl rfl ?_
      exact h
    · replace h := h.2 (Decidable.not_not.mp c)
      refine v_s mt_247 rfl rfl rfl ?_
      refine v_s mt_247 rfl rfl rfl ?_
      obtain ⟨c2, J1, z3, h⟩ := h
      refine v_call (d1 := 0) mt_247 rfl rfl mt_205 rfl rfl (m_callj (As := [iv x3]) (rest := [iv x2]) rfl rfl c_542 rfl (Nat.le_of_ble_eq_true rfl) (Nat.le_of_ble_eq_true rfl)) z3 (by clear h; omega) ?_
      refine v_go mt_247 rfl rfl ?_
      refine j_or (e := bOr x2 c2) mt_247 rfl rfl ?_
      refine v_isn (L' := [some (.ref 542), some (iv x1), some (iv (bOr x2 c2)), some (iv x3)]) mt_247 rfl (Nat.le_of_ble_eq_true rfl) rfl ?_
      refine j_inc (e := x3 + 1) (L' := [some (.ref 542), some (iv x1), some (iv (bOr x2 c2)), some (iv (x3 + 1))]) mt_247 rfl rfl (Nat.le_of_ble_eq_true rfl) rfl rfl ?_
      refine v_go mt_247 rfl rfl ?_
      exact h
set_option maxHeartbeats 600000 in
theorem b_246_0 {X : Nat × (Nat → Int32)} {d : Nat} {J : Nat → Nat → Int} {sw : Bool × Bool × Bool} {lg : Nat → Nat → Int64} {x : Nat} {K : (Option Value ⊕ Nat) → mM → Prop} {x0 : Int} {o1 o2 : Option Value}
    (h : VV X d 246 (4, [some (iv x0), some (iv 0), some (iv 0)], [], mj J sw lg x) K) : VV X d 246 (0, [some (iv x0), o1, o2], [], mj J sw lg x) K := by
  refine v_ic (v := Int32.ofInt 0) mt_246 rfl rfl ?_
  refine v_isn (L' := [some (iv x0), some (iv 0), o2]) mt_246 rfl (Nat.le_of_ble_eq_true rfl) rfl ?_
  refine v_ic (v := Int32.ofInt 0) mt_246 rfl rfl ?_
  refine v_isn (L' := [some (iv x0), some (iv 0), some (iv 0)]) mt_246 rfl (Nat.le_of_ble_eq_true rfl) rfl ?_
  exact h
set_option maxHeartbeats 600000 in
theorem b_246_4 {X : Nat × (Nat → Int32)} {d : Nat} {J : Nat → Nat → Int} {sw : Bool × Bool × Bool} {lg : Nat → Nat → Int64} {x : Nat} {K : (Option Value ⊕ Nat) → mM → Prop} {x0 x1 x2 : Int}
    (h : InR x2 ∧ (9 ≤ x2 → K (.inl (some (iv x1))) (mj J sw lg x)) ∧ (x2 < 9 → VV X d 246 (4, [some (iv x0), some (iv (x1 + (bAnd (bShr x0 x2) 1))), some (iv (x2 + 1))], [], mj J sw lg x) K)) : VV X d 246 (4, [some (iv x0), some (iv x1), some (iv x2)], [], mj J sw lg x) K := by
  refine v_s mt_246 rfl rfl rfl ?_
  refine v_bp (v := Int32.ofInt 9) mt_246 rfl rfl ?_
  obtain ⟨z1, h⟩ := h
  refine j_if2 mt_246 rfl rfl z1 ⟨by decide, by decide⟩ (fun c => ?_) (fun c => ?_)
  · replace h := h.1 c
    refine v_s mt_246 rfl rfl rfl ?_
    exact v_ret mt_246 rfl rfl rfl h
  · replace h := h.2 (Int.not_le.mp c)
    refine v_s mt_246 rfl rfl rfl ?_
    refine v_s mt_246 rfl rfl rfl ?_
    refine v_s mt_246 rfl rfl rfl ?_
    refine j_shr (e := bShr x0 x2) mt_246 rfl rfl ?_
    refine v_ic (v := Int32.ofInt 1) mt_246 rfl rfl ?_
    refine j_and (e := bAnd (bShr x0 x2) 1) mt_246 rfl rfl ?_
    refine j_add (e := x1 + (bAnd (bShr x0 x2) 1)) mt_246 rfl rfl ?_
    refine v_isn (L' := [some (iv x0), some (iv (x1 + (bAnd (bShr x0 x2) 1))), some (iv x2)]) mt_246 rfl (Nat.le_of_ble_eq_true rfl) rfl ?_
    refine j_inc (e := x2 + 1) (L' := [some (iv x0), some (iv (x1 + (bAnd (bShr x0 x2) 1))), some (iv (x2 + 1))]) mt_246 rfl rfl (Nat.le_of_ble_eq_true rfl) rfl rfl ?_
    refine v_go mt_246 rfl rfl ?_
    exact h
