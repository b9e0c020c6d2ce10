set_option maxHeartbeats 600000 in
theorem b_33_0 {X : Nat × (Nat → Int32)} {d : Nat} {J : Nat → Nat → Int} {sw : Bool × Bool × Bool} {lg : Nat → Nat → Int64} {x : Nat} {K : (Option Value ⊕ Nat) → mM → Prop} {x0 x1 x2 : Int}
    (h : InR x0 ∧ (x0 = 0 → K (.inl (some (iv (x1 + x2)))) (mj J sw lg x)) ∧ (x0 = 1 → K (.inl (some (iv (x1 - x2)))) (mj J sw lg x)) ∧ (x0 = 2 → K (.inl (some (iv (x1 * x2)))) (mj J sw lg x)) ∧ (x0 = 3 → (InR x2 ∧ (¬ x2 = 0 → (¬ x2 = 0 ∧ K (.inl (some (iv (bDiv x1 x2)))) (mj J sw lg x))) ∧ (x2 = 0 → K (.inl (some (iv 0))) (mj J sw lg x)))) ∧ (x0 = 4 → (InR x2 ∧ (¬ x2 = 0 → (¬ x2 = 0 ∧ K (.inl (some (iv (bRem x1 x2)))) (mj J sw lg x))) ∧ (x2 = 0 → K (.inl (some (iv 0))) (mj J sw lg x)))) ∧ (x0 = 5 → (InR x1 ∧ InR x2 ∧ (x2 ≤ x1 → K (.inl (some (iv x2))) (mj J sw lg x)) ∧ (x1 < x2 → K (.inl (some (iv x1))) (mj J sw lg x)))) ∧ (x0 < 0 ∨ 5 < x0 → (InR x1 ∧ InR x2 ∧ (x1 ≤ x2 → K (.inl (some (iv x2))) (mj J sw lg x)) ∧ (x2 < x1 → K (.inl (some (iv x1))) (mj J sw lg x))))) : VV X d 33 (0, [some (iv x0), some (iv x1), some (iv x2)], [], mj J sw lg x) K := by
  refine v_s mt_33 rfl rfl rfl ?_
  obtain ⟨z1, h⟩ := h
  by_cases c : x0 = 0
  · replace h := h.1 c
    refine j_si 0 mt_33 rfl ⟨by decide, by decide⟩ c (by decide) rfl rfl ?_
    refine v_s mt_33 rfl rfl rfl ?_
    refine v_s mt_33 rfl rfl rfl ?_
    refine j_add (e := x1 + x2) mt_33 rfl rfl ?_
    exact v_ret mt_33 rfl rfl rfl h
  have c0 := c
  replace h := h.2
  by_cases c : x0 = 1
  · replace h := h.1 c
    refine j_si 1 mt_33 rfl ⟨by decide, by decide⟩ c (by decide) rfl rfl ?_
    refine v_s mt_33 rfl rfl rfl ?_
    refine v_s mt_33 rfl rfl rfl ?_
    refine j_sub (e := x1 - x2) mt_33 rfl rfl ?_
    exact v_ret mt_33 rfl rfl rfl h
  have c1 := c
  replace h := h.2
  by_cases c : x0 = 2
  · replace h := h.1 c
    refine j_si 2 mt_33 rfl ⟨by decide, by decide⟩ c (by decide) rfl rfl ?_
    refine v_s mt_33 rfl rfl rfl ?_
    refine v_s mt_33 rfl rfl rfl ?_
    refine j_mul (e := x1 * x2) mt_33 rfl rfl ?_
    exact v_ret mt_33 rfl rfl rfl h
  have c2 := c
  replace h := h.2
  by_cases c : x0 = 3
  · replace h := h.1 c
    refine j_si 3 mt_33 rfl ⟨by decide, by decide⟩ c (by decide) rfl rfl ?_
    refine v_s mt_33 rfl rfl rfl ?_
    obtain ⟨z2, h⟩ := h
    refine j_if1 mt_33 rfl rfl z2 (fun c => ?_) (fun c => ?_)
    · replace h := h.1 c
      refine v_s mt_33 rfl rfl rfl ?_
      refine v_s mt_33 rfl rfl rfl ?_
      obtain ⟨z3, h⟩ := h
      refine j_div (e := bDiv x1 x2) mt_33 rfl z2 z3 rfl ?_
      exact v_ret mt_33 rfl rfl rfl h
    · replace h := h.2 (Decidable.not_not.mp c)
      refine v_ic (v := Int32.ofInt 0) mt_33 rfl rfl ?_
      refine v_go mt_33 rfl rfl ?_
      exact v_ret mt_33 rfl rfl rfl h
  have c3 := c
  replace h := h.2
  by_cases c : x0 = 4
  · replace h := h.1 c
    refine j_si 4 mt_33 rfl ⟨by decide, by decide⟩ c (by decide) rfl rfl ?_
    refine v_s mt_33 rfl rfl rfl ?_
    obtain ⟨z4, h⟩ := h
    refine j_if1 mt_33 rfl rfl z4 (fun c => ?_) (fun c => ?_)
    · replace h := h.1 c
      refine v_s mt_33 rfl rfl rfl ?_
      refine v_s mt_33 rfl rfl rfl ?_
      obtain ⟨z5, h⟩ := h
      refine j_rem (e := bRem x1 x2) mt_33 rfl z4 z5 rfl ?_
      exact v_ret mt_33 rfl rfl rfl h
    · replace h := h.2 (Decidable.not_not.mp c)
      refine v_ic (v := Int32.ofInt 0) mt_33 rfl rfl ?_
      refine v_go mt_33 rfl rfl ?_
      exact v_ret mt_33 rfl rfl rfl h
  have c4 := c
  replace h := h.2
  by_cases c : x0 = 5
  · replace h := h.1 c
    refine j_si 5 mt_33 rfl ⟨by decide, by decide⟩ c (by decide) rfl rfl ?_
    refine v_s mt_33 rfl rfl rfl ?_
    refine v_s mt_33 rfl rfl rfl ?_
    obtain ⟨z6, h⟩ := h
    obtain ⟨z7, h⟩ := h
    refine j_if2 mt_33 rfl rfl z6 z7 (fun c => ?_) (fun c => ?_)
    · replace h := h.1 c
      refine v_s mt_33 rfl rfl rfl ?_
      exact v_ret mt_33 rfl rfl rfl h
    · replace h := h.2 (Int.not_le.mp c)
      refine v_s mt_33 rfl rfl rfl ?_
      refine v_go mt_33 rfl rfl ?_
      exact v_ret mt_33 rfl rfl rfl h
  have c5 := c
  replace h := h.2
  have hz : x0 < 0 ∨ 5 < x0 := sw_0_5 c0 c1 c2 c3 c4 c5
  replace h := h hz
  refine j_sd mt_33 rfl z1 hz rfl ?_
  refine v_s mt_33 rfl rfl rfl ?_
  refine v_s mt_33 rfl rfl rfl ?_
  obtain ⟨z8, h⟩ := h
  obtain ⟨z9, h⟩ := h
  refine j_if2 mt_33 rfl rfl z8 z9 (fun c => ?_) (fun c => ?_)
  · replace h := h.1 c
    refine v_s mt_33 rfl rfl rfl ?_
    exact v_ret mt_33 rfl rfl rfl h
  · replace h := h.2 (Int.not_le.mp c)
    refine v_s mt_33 rfl rfl rfl ?_
    refine v_go mt_33 rfl rfl ?_
    exact v_ret mt_33 rfl rfl rfl h
set_option maxHeartbeats 600000 in
theorem b_196_0 {X : Nat × (Nat → Int32)} {d : Nat} {J : Nat → Nat → Int} {sw : Bool × Bool × Bool} {lg : Nat → Nat → Int64} {x : Nat} {K : (Option Value ⊕ Nat) → mM → Prop} {x0 x1 x2 : Int}
    (h : InR x0 ∧ (¬ x0 = 2 → ((¬ x0 = 3 → ((¬ x0 = 4 → ((x0 = 5 → (InR x2 ∧ (¬ x2 = 0 → ((¬ x0 = 5 → (¬ x2 = 0 ∧ K (.inl (some (iv (bRem x1 x2)))) (mj J sw lg x))) ∧ (x0 = 5 → (¬ x2 = 0 ∧ K (.inl (some (iv (bDiv x1 x2)))) (mj J sw lg x))))) ∧ (x2 = 0 → K (.inl (some (iv 0))) (mj J sw lg x)))) ∧ (¬ x0 = 5 → ((¬ x0 = 8 → (InR x1 ∧ InR x2 ∧ (x2 ≤ x1 → ((¬ x0 = 6 → K (.inl (some (iv x1))) (mj J sw lg x)) ∧ (x0 = 6 → K (.inl (some (iv x2))) (mj J sw lg x)))) ∧ (x1 < x2 → ((¬ x0 = 6 → K (.inl (some (iv x2))) (mj J sw lg x)) ∧ (x0 = 6 → K (.inl (some (iv x1))) (mj J sw lg x)))))) ∧ (x0 = 8 → (InR x2 ∧ (¬ x2 = 0 → ((¬ x0 = 5 → (¬ x2 = 0 ∧ K (.inl (some (iv (bRem x1 x2)))) (mj J sw lg x))) ∧ (x0 = 5 → (¬ x2 = 0 ∧ K (.inl (some (iv (bDiv x1 x2)))) (mj J sw lg x))))) ∧ (x2 = 0 → K (.inl (some (iv 0))) (mj J sw lg x)))))))) ∧ (x0 = 4 → K (.inl (some (iv (x1 * x2)))) (mj J sw lg x)))) ∧ (x0 = 3 → K (.inl (some (iv (x1 - x2)))) (mj J sw lg x)))) ∧ (x0 = 2 → K (.inl (some (iv (x1 + x2)))) (mj J sw lg x))) : VV X d 196 (0, [some (iv x0), some (iv x1), some (iv x2)], [], mj J sw lg x) K := by
  refine v_s mt_196 rfl rfl rfl ?_
  refine v_ic (v := Int32.ofInt 2) mt_196 rfl rfl ?_
  obtain ⟨z1, h⟩ := h
  refine j_if2 mt_196 rfl rfl z1 ⟨by decide, by decide⟩ (fun c => ?_) (fun c => ?_)
  · replace h := h.1 c
    refine v_s mt_196 rfl rfl rfl ?_
    refine v_ic (v := Int32.ofInt 3) mt_196 rfl rfl ?_
    refine j_if2 mt_196 rfl rfl z1 ⟨by decide, by decide⟩ (fun c => ?_) (fun c => ?_)
    · replace h := h.1 c
      refine v_s mt_196 rfl rfl rfl ?_
      refine v_ic (v := Int32.ofInt 4) mt_196 rfl rfl ?_
      refine j_if2 mt_196 rfl rfl z1 ⟨by decide, by decide⟩ (fun c => ?_) (fun c => ?_)
      · replace h := h.1 c
        refine v_s mt_196 rfl rfl rfl ?_
        refine v_ic (v := Int32.ofInt 5) mt_196 rfl rfl ?_
        refine j_if2 mt_196 rfl rfl z1 ⟨by decide, by decide⟩ (fun c => ?_) (fun c => ?_)
        · replace h := h.1 c
          refine v_s mt_196 rfl rfl rfl ?_
          obtain ⟨z2, h⟩ := h
          refine j_if1 mt_196 rfl rfl z2 (fun c => ?_) (fun c => ?_)
          · replace h := h.1 c
            refine v_s mt_196 rfl rfl rfl ?_
            refine v_ic (v := Int32.ofInt 5) mt_196 rfl rfl ?_
            refine j_if2 mt_196 rfl rfl z1 ⟨by decide, by decide⟩ (fun c => ?_) (fun c => ?_)
            · replace h := h.1 c
              refine v_s mt_196 rfl rfl rfl ?_
              refine v_s mt_196 rfl rfl rfl ?_
              obtain ⟨z3, h⟩ := h
              refine j_rem (e := bRem x1 x2) mt_196 rfl z2 z3 rfl ?_
              exact v_ret mt_196 rfl rfl rfl h
            · replace h := h.2 (Decidable.not_not.mp c)
              refine v_s mt_196 rfl rfl rfl ?_
              refine v_s mt_196 rfl rfl rfl ?_
              obtain ⟨z4, h⟩ := h
              refine j_div (e := bDiv x1 x2) mt_196 rfl z2 z4 rfl ?_
              refine v_go mt_196 rfl rfl ?_
              exact v_ret mt_196 rfl rfl rfl h
          · replace h := h.2 (Decidable.not_not.mp c)
            refine v_ic (v := Int32.ofInt 0) mt_196 rfl rfl ?_
            refine v_go mt_196 rfl rfl ?_
            exact v_ret mt_196 rfl rfl rfl h
        · replace h := h.2 c
          refine v_s mt_196 rfl rfl rfl ?_
          refine v_bp (v := Int32.ofInt 8) mt_196 rfl rfl ?_
          refine j_if2 mt_196 rfl rfl z1 ⟨by decide, by decide⟩ (fun c => ?_) (fun c => ?_)
          · replace h := h.1 c
            refine v_s mt_196 rfl rfl rfl ?_
            refine v_s mt_196 rfl rfl rfl ?_
            obtain ⟨z5, h⟩ := h
            obtain ⟨z6, h⟩ := h
            refine j_if2 mt_196 rfl rfl z5 z6 (fun c => ?_) (fun c => ?_)
            · replace h := h.1 c
              refine v_ic (v := Int32.ofInt 0) mt_196 rfl rfl ?_
              refine v_s mt_196 rfl rfl rfl ?_
              refine v_bp (v := Int32.ofInt 6) mt_196 rfl rfl ?_
              refine j_if2 mt_196 rfl rfl z1 ⟨by decide, by decide⟩ (fun c => ?_) (fun c => ?_)
              · replace h := h.1 c
                refine v_ic (v := Int32.ofInt 0) mt_196 rfl rfl ?_
                refine j_if2 mt_196 rfl rfl ⟨by decide, by decide⟩ ⟨by decide, by decide⟩ (fun c => absurd (show ¬ (0 : Int) = 0 from c) (by decide)) (fun _ => ?_)
                refine v_s mt_196 rfl rfl rfl ?_
                refine v_go mt_196 rfl rfl ?_
                exact v_ret mt_196 rfl rfl rfl h
              · replace h := h.2 (Decidable.not_not.mp c)
                refine v_ic (v := Int32.ofInt 1) mt_196 rfl rfl ?_
                refine v_go mt_196 rfl rfl ?_
                refine j_if2 mt_196 rfl rfl ⟨by decide, by decide⟩ ⟨by decide, by decide⟩ (fun _ => ?_) (fun c => (c (show ¬ (0 : Int) = 1 by decide)).elim)
                refine v_s mt_196 rfl rfl rfl ?_
                exact v_ret mt_196 rfl rfl rfl h
            · replace h := h.2 (Int.not_le.mp c)
              refine v_ic (v := Int32.ofInt 1) mt_196 rfl rfl ?_
              refine v_go mt_196 rfl rfl ?_
              refine v_s mt_196 rfl rfl rfl ?_
              refine v_bp (v := Int32.ofInt 6) mt_196 rfl rfl ?_
              refine j_if2 mt_196 rfl rfl z1 ⟨by decide, by decide⟩ (fun c => ?_) (fun c => ?_)
              · replace h := h.1 c
                refine v_ic (v := Int32.ofInt 0) mt_196 rfl rfl ?_
                refine j_if2 mt_196 rfl rfl ⟨by decide, by decide⟩ ⟨by decide, by decide⟩ (fun _ => ?_) (fun c => (c (show ¬ (1 : Int) = 0 by decide)).elim)
                refine v_s mt_196 rfl rfl rfl ?_
                exact v_ret mt_196 rfl rfl rfl h
              · replace h := h.2 (Decidable.not_not.mp c)
                refine v_ic (v := Int32.ofInt 1) mt_196 rfl rfl ?_
                refine v_go mt_196 rfl rfl ?_
                refine j_if2 mt_196 rfl rfl ⟨by decide, by decide⟩ ⟨by decide, by decide⟩ (fun c => absurd (show ¬ (1 : Int) = 1 from c) (by decide)) (fun _ => ?_)
                refine v_s mt_196 rfl rfl rfl ?_
                refine v_go mt_196 rfl rfl ?_
                exact v_ret mt_196 rfl rfl rfl h
          · replace h := h.2 (Decidable.not_not.mp c)
            refine v_s mt_196 rfl rfl rfl ?_
            obtain ⟨z7, h⟩ := h
            refine j_if1 mt_196 rfl rfl z7 (fun c => ?_) (fun c => ?_)
            · replace h := h.1 c
              refine v_s mt_196 rfl rfl rfl ?_
              refine v_ic (v := Int32.ofInt 5) mt_196 rfl rfl ?_
              refine j_if2 mt_196 rfl rfl z1 ⟨by decide, by decide⟩ (fun c => ?_) (fun c => ?_)
              · replace h := h.1 c
                refine v_s mt_196 rfl rfl rfl ?_
                refine v_s mt_196 rfl rfl rfl ?_
                obtain ⟨z8, h⟩ := h
                refine j_rem (e := bRem x1 x2) mt_196 rfl z7 z8 rfl ?_
                exact v_ret mt_196 rfl rfl rfl h
              · replace h := h.2 (Decidable.not_not.mp c)
                refine v_s mt_196 rfl rfl rfl ?_
                refine v_s mt_196 rfl rfl rfl ?_
                obtain ⟨z9, h⟩ := h
                refine j_div (e := bDiv x1 x2) mt_196 rfl z7 z9 rfl ?_
                refine v_go mt_196 rfl rfl ?_
                exact v_ret mt_196 rfl rfl rfl h
            · replace h := h.2 (Decidable.not_not.mp c)
              refine v_ic (v := Int32.ofInt 0) mt_196 rfl rfl ?_
              refine v_go mt_196 rfl rfl ?_
              exact v_ret mt_196 rfl rfl rfl h
      · replace h := h.2 (Decidable.not_not.mp c)
        refine v_s mt_196 rfl rfl rfl ?_
        refine v_s mt_196 rfl rfl rfl ?_
        refine j_mul (e := x1 * x2) mt_196 rfl rfl ?_
        exact v_ret mt_196 rfl rfl rfl h
    · replace h := h.2 (Decidable.not_not.mp c)
      refine v_s mt_196 rfl rfl rfl ?_
      refine v_s mt_196 rfl rfl rfl ?_
      refine j_sub (e := x1 - x2) mt_196 rfl rfl ?_
      exact v_ret mt_196 rfl rfl rfl h
  · replace h := h.2 (Decidable.not_not.mp c)
    refine v_s mt_196 rfl rfl rfl ?_
    refine v_s mt_196 rfl rfl rfl ?_
    refine j_add (e := x1 + x2) mt_196 rfl rfl ?_
    exact v_ret mt_196 rfl rfl rfl h
set_option maxHeartbeats 600000 in
theorem b_32_0 {X : Nat × (Nat → Int32)} {d : Nat} {J : Nat → Nat → Int} {sw : Bool × Bool × Bool} {lg : Nat → Nat → Int64} {x : Nat} {K : (Option Value ⊕ Nat) → mM → Prop} {r0 : Nat} {o1 o2 o3 : Option Value} (h0 : SH[r0]? = some (8, 4)) (hd : 1 ≤ d)
    (h : VV X d 32 (29, [some (.ref r0), some (iv 0), some (iv 0), o3], [], mj (m_up J (r0 + 3) 0 ((3 + (bDiv (J (r0 + 2) 0) 2)) - (bDiv (J (r0 + 2) 1) 3))) sw lg x) K) : VV X d 32 (0, [some (.ref r0), o1, o2, o3], [], mj J sw lg x) K := by
  refine v_s mt_32 rfl rfl rfl ?_
  refine v_gr (w := (r0 + 3)) 3 mt_32 rfl rfl h0 (by decide) (g_3_3 h0) ?_
  refine v_ic (v := Int32.ofInt 0) mt_32 rfl rfl ?_
  refine v_ic (v := Int32.ofInt 3) mt_32 rfl rfl ?_
  refine v_s mt_32 rfl rfl rfl ?_
  refine v_gr (w := (r0 + 2)) 2 mt_32 rfl rfl h0 (by decide) (g_3_2 h0) ?_
  refine v_ic (v := Int32.ofInt 0) mt_32 rfl rfl ?_
  refine j_al (w := J (r0 + 2) 0) mt_32 rfl (shL r0 (SH_lt h0) h0).2.1 ⟨by decide, by decide⟩ (by decide) rfl ?_
  refine v_ic (v := Int32.ofInt 2) mt_32 rfl rfl ?_
  refine j_div (e := bDiv (J (r0 + 2) 0) 2) mt_32 rfl ⟨by decide, by decide⟩ (by decide) rfl ?_
  refine j_add (e := 3 + (bDiv (J (r0 + 2) 0) 2)) mt_32 rfl rfl ?_
  refine v_s mt_32 rfl rfl rfl ?_
  refine v_gr (w := (r0 + 2)) 2 mt_32 rfl rfl h0 (by decide) (g_3_2 h0) ?_
  refine v_ic (v := Int32.ofInt 1) mt_32 rfl rfl ?_
  refine j_al (w := J (r0 + 2) 1) mt_32 rfl (shL r0 (SH_lt h0) h0).2.1 ⟨by decide, by decide⟩ (by decide) rfl ?_
  refine v_ic (v := Int32.ofInt 3) mt_32 rfl rfl ?_
  refine j_div (e := bDiv (J (r0 + 2) 1) 3) mt_32 rfl ⟨by decide, by decide⟩ (by decide) rfl ?_
  refine j_sub (e := (3 + (bDiv (J (r0 + 2) 0) 2)) - (bDiv (J (r0 + 2) 1) 3)) mt_32 rfl rfl ?_
  refine j_as mt_32 rfl (shL r0 (SH_lt h0) h0).2.2 ⟨by decide, by decide⟩ (by decide) ?_
  refine v_ic (v := Int32.ofInt 0) mt_32 rfl rfl ?_
  refine v_isn (L' := [some (.ref r0), some (iv 0), o2, o3]) mt_32 rfl (Nat.le_of_ble_eq_true rfl) rfl ?_
  refine v_ic (v := Int32.ofInt 0) mt_32 rfl rfl ?_
  refine v_isn (L' := [some (.ref r0), some (iv 0), some (iv 0), o3]) mt_32 rfl (Nat.le_of_ble_eq_true rfl) rfl ?_
  exact h
set_option maxHeartbeats 600000 in
theorem b_32_29 {X : Nat × (Nat → Int32)} {d : Nat} {J : Nat → Nat → Int} {sw : Bool × Bool × Bool} {lg : Nat → Nat → Int64} {x : Nat} {K : (Option Value ⊕ Nat) → mM → Prop} {r0 : Nat} {x1 x2 : Int} {o3 : Option Value} (h0 : SH[r0]? = some (8, 4)) (hd : 1 ≤ d)
    (h : InR x2 ∧ InR (J r0 1) ∧ (J r0 1 ≤ x2 → (InR (J (r0 + 3) 0) ∧ InR (min 20 (J (r0 + 3) 0)) ∧ K (.inl (some (iv (max 0 (min 20 (J (r0 + 3) 0)))))) (mj J sw lg x))) ∧ (x2 < J r0 1 → ((0 ≤ x2 ∧ x2 < 150) ∧ InR (J (r0 + 1) x2.toNat) ∧ (J (r0 + 1) x2.toNat < 2000 → (InR x1 ∧ (40 ≤ x1 → VV X d 32 (29, [some (.ref r0), some (iv x1), some (iv (x2 + 1)), some (iv (J (r0 + 1) x2.toNat))], [], mj J sw lg x) K) ∧ (x1 < 40 → ((1000 ≤ J (r0 + 1) x2.toNat → ((0 ≤ bAnd ((J (r0 + 1) x2.toNat) - 1000) 7 ∧ bAnd ((J (r0 + 1) x2.toNat) - 1000) 7 < 8) ∧ (0 ≤ x1 ∧ x1 < 40) ∧ VV X d 32 (29, [some (.ref r0), some (iv (x1 + 1)), some (iv (x2 + 1)), some (iv (J (r0 + 1) x2.toNat))], [], mj (m_up J (r0 + 3) x1.toNat (J (r0 + 2) ((bAnd ((J (r0 + 1) x2.toNat) - 1000) 7).toNat))) sw lg x) K)) ∧ (J (r0 + 1) x2.toNat < 1000 → ((0 ≤ x1 ∧ x1 < 40) ∧ VV X d 32 (29, [some (.ref r0), some (iv (x1 + 1)), some (iv (x2 + 1)), some (iv (J (r0 + 1) x2.toNat))], [], mj (m_up J (r0 + 3) x1.toNat (J (r0 + 1) x2.toNat)) sw lg x) K)))))) ∧ (2000 ≤ J (r0 + 1) x2.toNat → (InR x1 ∧ (x1 < 2 → VV X d 32 (29, [some (.ref r0), some (iv x1), some (iv (x2 + 1)), some (iv (J (r0 + 1) x2.toNat))], [], mj J sw lg x) K) ∧ (2 ≤ x1 → ((0 ≤ x1 - 2 ∧ x1 - 2 < 40) ∧ (0 ≤ x1 - 1 ∧ x1 - 1 < 40) ∧ ∃ (c2 : Int) (J1 : Nat → Nat → Int), EE X 0 33 [iv ((J (r0 + 1) x2.toNat) - 2000), iv (J (r0 + 3) ((x1 - 2).toNat)), iv (J (r0 + 3) ((x1 - 1).toNat))] (mj J sw lg x) (.inl (some (iv c2))) (mj J1 sw lg x) ∧ VV X d 32 (29, [some (.ref r0), some (iv (x1 + (-1))), some (iv (x2 + 1)), some (iv (J (r0 + 1) x2.toNat))], [], mj (m_up J1 (r0 + 3) ((x1 - 2).toNat) c2) sw lg x) K))))))) : VV X d 32 (29, [some (.ref r0), some (iv x1), some (iv x2), o3], [], mj J sw lg x) K := by
  refine v_s mt_32 rfl rfl rfl ?_
  refine v_s mt_32 rfl rfl rfl ?_
  refine j_gi (w := J r0 1) 1 mt_32 rfl rfl h0 (by decide) rfl ?_
  obtain ⟨z1, h⟩ := h
  obtain ⟨z2, h⟩ := h
  refine j_if2 mt_32 rfl rfl z1 z2 (fun c => ?_) (fun c => ?_)
  · replace h := h.1 c
    refine v_ic (v := Int32.ofInt 0) mt_32 rfl rfl ?_
    refine v_bp (v := Int32.ofInt 20) mt_32 rfl rfl ?_
    refine v_s mt_32 rfl rfl rfl ?_
    refine v_gr (w := (r0 + 3)) 3 mt_32 rfl rfl h0 (by decide) (g_3_3 h0) ?_
    refine v_ic (v := Int32.ofInt 0) mt_32 rfl rfl ?_
    refine j_al (w := J (r0 + 3) 0) mt_32 rfl (shL r0 (SH_lt h0) h0).2.2 ⟨by decide, by decide⟩ (by decide) rfl ?_
    obtain ⟨z3, h⟩ := h
    refine j_min mt_32 rfl (Nat.le_of_ble_eq_true rfl) ⟨by decide, by decide⟩ z3 ?_
    obtain ⟨z4, h⟩ := h
    refine j_max mt_32 rfl (Nat.le_of_ble_eq_true rfl) ⟨by decide, by decide⟩ z4 ?_
    exact v_ret mt_32 rfl rfl rfl h
  · replace h := h.2 (Int.not_le.mp c)
    refine v_s mt_32 rfl rfl rfl ?_
    refine v_gr (w := (r0 + 1)) 0 mt_32 rfl rfl h0 (by decide) (g_3_0 h0) ?_
    refine v_s mt_32 rfl rfl rfl ?_
    obtain ⟨z5, h⟩ := h
    refine j_al (w := J (r0 + 1) x2.toNat) mt_32 rfl (shL r0 (SH_lt h0) h0).1 z5 (by decide) rfl ?_
    refine v_isn (L' := [some (.ref r0), some (iv x1), some (iv x2), some (iv (J (r0 + 1) x2.toNat))]) mt_32 rfl (Nat.le_of_ble_eq_true rfl) rfl ?_
    refine v_s mt_32 rfl rfl rfl ?_
    refine v_sp (v := Int32.ofInt 2000) mt_32 rfl rfl ?_
    obtain ⟨z6, h⟩ := h
    refine j_if2 mt_32 rfl rfl z6 ⟨by decide, by decide⟩ (fun c => ?_) (fun c => ?_)
    · replace h := h.1 c
      refine v_s mt_32 rfl rfl rfl ?_
      refine v_bp (v := Int32.ofInt 40) mt_32 rfl rfl ?_
      obtain ⟨z7, h⟩ := h
      refine j_if2 mt_32 rfl rfl z7 ⟨by decide, by decide⟩ (fun c => ?_) (fun c => ?_)
      · replace h := h.1 c
        refine j_inc (e := x2 + 1) (L' := [some (.ref r0), some (iv x1), some (iv (x2 + 1)), some (iv (J (r0 + 1) x2.toNat))]) mt_32 rfl rfl (Nat.le_of_ble_eq_true rfl) rfl rfl ?_
        refine v_go mt_32 rfl rfl ?_
        exact h
      · replace h := h.2 (Int.not_le.mp c)
        refine v_s mt_32 rfl rfl rfl ?_
        refine v_gr (w := (r0 + 3)) 3 mt_32 rfl rfl h0 (by decide) (g_3_3 h0) ?_
        refine v_s mt_32 rfl rfl rfl ?_
        refine v_s mt_32 rfl rfl rfl ?_
        refine v_sp (v := Int32.ofInt 1000) mt_32 rfl rfl ?_
        refine j_if2 mt_32 rfl rfl z6 ⟨by decide, by decide⟩ (fun c => ?_) (fun c => ?_)
        · replace h := h.1 c
          refine v_s mt_32 rfl rfl rfl ?_
          refine v_gr (w := (r0 + 2)) 2 mt_32 rfl rfl h0 (by decide) (g_3_2 h0) ?_
          refine v_s mt_32 rfl rfl rfl ?_
          refine v_sp (v := Int32.ofInt 1000) mt_32 rfl rfl ?_
          refine j_sub (e := (J (r0 + 1) x2.toNat) - 1000) mt_32 rfl rfl ?_
          refine v_bp (v := Int32.ofInt 7) mt_32 rfl rfl ?_
          refine j_and (e := bAnd ((J (r0 + 1) x2.toNat) - 1000) 7) mt_32 rfl rfl ?_
          obtain ⟨z8, h⟩ := h
          refine j_al (w := J (r0 + 2) ((bAnd ((J (r0 + 1) x2.toNat) - 1000) 7).toNat)) mt_32 rfl (shL r0 (SH_lt h0) h0).2.1 z8 (by decide) rfl ?_
          obtain ⟨z9, h⟩ := h
          refine j_as mt_32 rfl (shL r0 (SH_lt h0) h0).2.2 z9 (by decide) ?_
          refine j_inc (e := x1 + 1) (L' := [some (.ref r0), some (iv (x1 + 1)), some (iv x2), some (iv (J (r0 + 1) x2.toNat))]) mt_32 rfl rfl (Nat.le_of_ble_eq_true rfl) rfl rfl ?_
          refine j_inc (e := x2 + 1) (L' := [some (.ref r0), some (iv (x1 + 1)), some (iv (x2 + 1)), some (iv (J (r0 + 1) x2.toNat))]) mt_32 rfl rfl (Nat.le_of_ble_eq_true rfl) rfl rfl ?_
          refine v_go mt_32 rfl rfl ?_
          exact h
        · replace h := h.2 (Int.not_le.mp c)
          refine v_s mt_32 rfl rfl rfl ?_
          refine v_go mt_32 rfl rfl ?_
          obtain ⟨z10, h⟩ := h
          refine j_as mt_32 rfl (shL r0 (SH_lt h0) h0).2.2 z10 (by decide) ?_
          refine j_inc (e := x1 + 1) (L' := [some (.ref r0), some (iv (x1 + 1)), some (iv x2), some (iv (J (r0 + 1) x2.toNat))]) mt_32 rfl rfl (Nat.le_of_ble_eq_true rfl) rfl rfl ?_
          refine j_inc (e := x2 + 1) (L' := [some (.ref r0), some (iv (x1 + 1)), some (iv (x2 + 1)), some (iv (J (r0 + 1) x2.toNat))]) mt_32 rfl rfl (Nat.le_of_ble_eq_true rfl) rfl rfl ?_
          refine v_go mt_32 rfl rfl ?_
          exact h
    · replace h := h.2 (Int.not_lt.mp c)
      refine v_s mt_32 rfl rfl rfl ?_
      refine v_ic (v := Int32.ofInt 2) mt_32 rfl rfl ?_
      obtain ⟨z11, h⟩ := h
      refine j_if2 mt_32 rfl rfl z11 ⟨by decide, by decide⟩ (fun c => ?_) (fun c => ?_)
      · replace h := h.1 c
        refine j_inc (e := x2 + 1) (L' := [some (.ref r0), some (iv x1), some (iv (x2 + 1)), some (iv (J (r0 + 1) x2.toNat))]) mt_32 rfl rfl (Nat.le_of_ble_eq_true rfl) rfl rfl ?_
        refine v_go mt_32 rfl rfl ?_
        exact h
      · replace h := h.2 (Int.not_lt.mp c)
        refine v_s mt_32 rfl rfl rfl ?_
        refine v_gr (w := (r0 + 3)) 3 mt_32 rfl rfl h0 (by decide) (g_3_3 h0) ?_
        refine v_s mt_32 rfl rfl rfl ?_
        refine v_ic (v := Int32.ofInt 2) mt_32 rfl rfl ?_
        refine j_sub (e := x1 - 2) mt_32 rfl rfl ?_
        refine v_s mt_32 rfl rfl rfl ?_
        refine v_sp (v := Int32.ofInt 2000) mt_32 rfl rfl ?_
        refine j_sub (e := (J (r0 + 1) x2.toNat) - 2000) mt_32 rfl rfl ?_
        refine v_s mt_32 rfl rfl rfl ?_
        refine v_gr (w := (r0 + 3)) 3 mt_32 rfl rfl h0 (by decide) (g_3_3 h0) ?_
        refine v_s mt_32 rfl rfl rfl ?_
        refine v_ic (v := Int32.ofInt 2) mt_32 rfl rfl ?_
        refine j_sub (e := x1 - 2) mt_32 rfl rfl ?_
        obtain ⟨z12, h⟩ := h
        refine j_al (w := J (r0 + 3) ((x1 - 2).toNat)) mt_32 rfl (shL r0 (SH_lt h0) h0).2.2 z12 (by decide) rfl ?_
        refine v_s mt_32 rfl rfl rfl ?_
        refine v_gr (w := (r0 + 3)) 3 mt_32 rfl rfl h0 (by decide) (g_3_3 h0) ?_
        refine v_s mt_32 rfl rfl rfl ?_
        refine v_ic (v := Int32.ofInt 1) mt_32 rfl rfl ?_
        refine j_sub (e := x1 - 1) mt_32 rfl rfl ?_
        obtain ⟨z13, h⟩ := h
        refine j_al (w := J (r0 + 3) ((x1 - 1).toNat)) mt_32 rfl (shL r0 (SH_lt h0) h0).2.2 z13 (by decide) rfl ?_
        obtain ⟨c2, J1, z14, h⟩ := h
        refine v_call (d1 := 0) mt_32 rfl rfl mt_33 rfl rfl rfl z14 (by clear h; omega) ?_
        refine j_as mt_32 rfl (shL r0 (SH_lt h0) h0).2.2 z12 (by decide) ?_
        refine j_inc (e := x1 + (-1)) (L' := [some (.ref r0), some (iv (x1 + (-1))), some (iv x2), some (iv (J (r0 + 1) x2.toNat))]) mt_32 rfl rfl (Nat.le_of_ble_eq_true rfl) rfl rfl ?_
        refine v_go mt_32 rfl rfl ?_
        refine j_inc (e := x2 + 1) (L' := [some (.ref r0), some (iv (x1 + (-1))), some (iv (x2 + 1)), some (iv (J (r0 + 1) x2.toNat))]) mt_32 rfl rfl (Nat.le_of_ble_eq_true rfl) rfl rfl ?_
        refine v_go mt_32 rfl rfl ?_
        exact h
set_option maxHeartbeats 600000 in
theorem b_195_0 {X : Nat × (Nat → Int32)} {d : Nat} {J : Nat → Nat → Int} {sw : Bool × Bool × Bool} {lg : Nat → Nat → Int64} {x : Nat} {K : (Option Value ⊕ Nat) → mM → Prop} {o1 o2 o3 : Option Value} (hd : 1 ≤ d)
    (h : VV X d 195 (4, [some (.ref 542), some (iv 0), some (iv 0), o3], [], mj J sw lg x) K) : VV X d 195 (0, [some (.ref 542), o1, o2, o3], [], mj J sw lg x) K := by
  refine v_ic (v := Int32.ofInt 0) mt_195 rfl rfl ?_
  refine v_isn (L' := [some (.ref 542), some (iv 0), o2, o3]) mt_195 rfl (Nat.le_of_ble_eq_true rfl) rfl ?_
  refine v_ic (v := Int32.ofInt 0) mt_195 rfl rfl ?_
  refine v_isn (L' := [some (.ref 542), some (iv 0), some (iv 0), o3]) mt_195 rfl (Nat.le_of_ble_eq_true rfl) rfl ?_
  exact h
set_option maxHeartbeats 600000 in
theorem b_195_4 {X : Nat × (Nat → Int32)} {d : Nat} {J : Nat → Nat → Int} {sw : Bool × Bool × Bool} {lg : Nat → Nat → Int64} {x : Nat} {K : (Option Value ⊕ Nat) → mM → Prop} {x1 x2 : Int} {o3 : Option Value} (hd : 1 ≤ d)
    (h : InR x2 ∧ InR (J 542 35) ∧ (J 542 35 ≤ x2 → K (.inl (some (iv (J 557 0)))) (mj J sw lg x)) ∧ (x2 < J 542 35 → ((0 ≤ x2 ∧ x2 < 150) ∧ InR (J 555 x2.toNat) ∧ (1 < J 555 x2.toNat → ((0 ≤ (x1 + (-1)) - 1 ∧ (x1 + (-1)) - 1 < 150) ∧ (0 ≤ x1 + (-1) ∧ x1 + (-1) < 150) ∧ ∃ (c2 : Int) (J1 : Nat → Nat → Int), EE X 0 196 [iv (J 555 x2.toNat), iv (J 557 (((x1 + (-1)) - 1).toNat)), iv (J 557 ((x1 + (-1)).toNat))] (mj J sw lg x) (.inl (some (iv c2))) (mj J1 sw lg x) ∧ VV X d 195 (4, [some (.ref 542), some (iv (x1 + (-1))), some (iv (x2 + 1)), some (iv (J 555 x2.toNat))], [], mj (m_up J1 557 (((x1 + (-1)) - 1).toNat) c2) sw lg x) K)) ∧ (J 555 x2.toNat ≤ 1 → ((¬ J 555 x2.toNat = 0 → ((0 ≤ J 556 x2.toNat ∧ J 556 x2.toNat < 8) ∧ (0 ≤ x1 ∧ x1 < 150) ∧ VV X d 195 (4, [some (.ref 542), some (iv (x1 + 1)), some (iv (x2 + 1)), some (iv (J 555 x2.toNat))], [], mj (m_up J 557 x1.toNat (J 558 ((J 556 x2.toNat).toNat))) sw lg x) K)) ∧ (J 555 x2.toNat = 0 → ((0 ≤ x1 ∧ x1 < 150) ∧ VV X d 195 (4, [some (.ref 542), some (iv (x1 + 1)), some (iv (x2 + 1)), some (iv (J 555 x2.toNat))], [], mj (m_up J 557 x1.toNat (J 556 x2.toNat)) sw lg x) K))))))) : VV X d 195 (4, [some (.ref 542), some (iv x1), some (iv x2), o3], [], mj J sw lg x) K := by
  refine v_s mt_195 rfl rfl rfl ?_
  refine v_s mt_195 rfl rfl rfl ?_
  refine j_gi (w := J 542 35) 35 mt_195 rfl rfl c_542 (by decide) rfl ?_
  obtain ⟨z1, h⟩ := h
  obtain ⟨z2, h⟩ := h
  refine j_if2 mt_195 rfl rfl z1 z2 (fun c => ?_) (fun c => ?_)
  · replace h := h.1 c
    refine v_s mt_195 rfl rfl rfl ?_
    refine v_gr (w := 557) 33 mt_195 rfl rfl c_542 (by decide) (g_12_33 c_542) ?_
    refine v_ic (v := Int32.ofInt 0) mt_195 rfl rfl ?_
    refine j_al (w := J 557 0) mt_195 rfl c_557 ⟨by decide, by decide⟩ (by decide) rfl ?_
    exact v_ret mt_195 rfl rfl rfl h
  · replace h := h.2 (Int.not_le.mp c)
    refine v_s mt_195 rfl rfl rfl ?_
    refine v_gr (w := 555) 31 mt_195 rfl rfl c_542 (by decide) (g_12_31 c_542) ?_
    refine v_s mt_195 rfl rfl rfl ?_
    obtain ⟨z3, h⟩ := h
    refine j_al (w := J 555 x2.toNat) mt_195 rfl c_555 z3 (by decide) rfl ?_
    refine v_isn (L' := [some (.ref 542), some (iv x1), some (iv x2), some (iv (J 555 x2.toNat))]) mt_195 rfl (Nat.le_of_ble_eq_true rfl) rfl ?_
    refine v_s mt_195 rfl rfl rfl ?_
    refine v_ic (v := Int32.ofInt 1) mt_195 rfl rfl ?_
    obtain ⟨z4, h⟩ := h
    refine j_if2 mt_195 rfl rfl z4 ⟨by decide, by decide⟩ (fun c => ?_) (fun c => ?_)
    · replace h := h.1 c
      refine j_inc (e := x1 + (-1)) (L' := [some (.ref 542), some (iv (x1 + (-1))), some (iv x2), some (iv (J 555 x2.toNat))]) mt_195 rfl rfl (Nat.le_of_ble_eq_true rfl) rfl rfl ?_
      refine v_s mt_195 rfl rfl rfl ?_
      refine v_gr (w := 557) 33 mt_195 rfl rfl c_542 (by decide) (g_12_33 c_542) ?_
      refine v_s mt_195 rfl rfl rfl ?_
      refine v_ic (v := Int32.ofInt 1) mt_195 rfl rfl ?_
      refine j_sub (e := (x1 + (-1)) - 1) mt_195 rfl rfl ?_
      refine v_s mt_195 rfl rfl rfl ?_
      refine v_s mt_195 rfl rfl rfl ?_
      refine v_gr (w := 557) 33 mt_195 rfl rfl c_542 (by decide) (g_12_33 c_542) ?_
      refine v_s mt_195 rfl rfl rfl ?_
      refine v_ic (v := Int32.ofInt 1) mt_195 rfl rfl ?_
      refine j_sub (e := (x1 + (-1)) - 1) mt_195 rfl rfl ?_
      obtain ⟨z5, h⟩ := h
      refine j_al (w := J 557 (((x1 + (-1)) - 1).toNat)) mt_195 rfl c_557 z5 (by decide) rfl ?_
      refine v_s mt_195 rfl rfl rfl ?_
      refine v_gr (w := 557) 33 mt_195 rfl rfl c_542 (by decide) (g_12_33 c_542) ?_
      refine v_s mt_195 rfl rfl rfl ?_
      obtain ⟨z6, h⟩ := h
      refine j_al (w := J 557 ((x1 + (-1)).toNat)) mt_195 rfl c_557 z6 (by decide) rfl ?_
      obtain ⟨c2, J1, z7, h⟩ := h
      refine v_call (d1 := 0) mt_195 rfl rfl mt_196 rfl rfl rfl z7 (by clear h; omega) ?_
      refine j_as mt_195 rfl c_557 z5 (by decide) ?_
      refine j_inc (e := x2 + 1) (L' := [some (.ref 542), some (iv (x1 + (-1))), some (iv (x2 + 1)), some (iv (J 555 x2.toNat))]) mt_195 rfl rfl (Nat.le_of_ble_eq_true rfl) rfl rfl ?_
      refine v_go mt_195 rfl rfl ?_
      exact h
    · replace h := h.2 (Int.not_lt.mp c)
      refine v_s mt_195 rfl rfl rfl ?_
      refine v_gr (w := 557) 33 mt_195 rfl rfl c_542 (by decide) (g_12_33 c_542) ?_
      refine v_s mt_195 rfl rfl rfl ?_
      refine v_s mt_195 rfl rfl rfl ?_
      refine j_if1 mt_195 rfl rfl z4 (fun c => ?_) (fun c => ?_)
      · replace h := h.1 c
        refine v_s mt_195 rfl rfl rfl ?_
        refine v_gr (w := 558) 36 mt_195 rfl rfl c_542 (by decide) (g_12_36 c_542) ?_
        refine v_s mt_195 rfl rfl rfl ?_
        refine v_gr (w := 556) 32 mt_195 rfl rfl c_542 (by decide) (g_12_32 c_542) ?_
        refine v_s mt_195 rfl rfl rfl ?_
        refine j_al (w := J 556 x2.toNat) mt_195 rfl c_556 z3 (by decide) rfl ?_
        obtain ⟨z8, h⟩ := h
        refine j_al (w := J 558 ((J 556 x2.toNat).toNat)) mt_195 rfl c_558 z8 (by decide) rfl ?_
        obtain ⟨z9, h⟩ := h
        refine j_as mt_195 rfl c_557 z9 (by decide) ?_
        refine j_inc (e := x1 + 1) (L' := [some (.ref 542), some (iv (x1 + 1)), some (iv x2), some (iv (J 555 x2.toNat))]) mt_195 rfl rfl (Nat.le_of_ble_eq_true rfl) rfl rfl ?_
        refine v_go mt_195 rfl rfl ?_
        refine j_inc (e := x2 + 1) (L' := [some (.ref 542), some (iv (x1 + 1)), some (iv (x2 + 1)), some (iv (J 555 x2.toNat))]) mt_195 rfl rfl (Nat.le_of_ble_eq_true rfl) rfl rfl ?_
        refine v_go mt_195 rfl rfl ?_
        exact h
      · replace h := h.2 (Decidable.not_not.mp c)
        refine v_s mt_195 rfl rfl rfl ?_
        refine v_gr (w := 556) 32 mt_195 rfl rfl c_542 (by decide) (g_12_32 c_542) ?_
        refine v_s mt_195 rfl rfl rfl ?_
        refine j_al (w := J 556 x2.toNat) mt_195 rfl c_556 z3 (by decide) rfl ?_
        refine v_go mt_195 rfl rfl ?_
        obtain ⟨z10, h⟩ := h
        refine j_as mt_195 rfl c_557 z10 (by decide) ?_
        refine j_inc (e := x1 + 1) (L' := [some (.ref 542), some (iv (x1 + 1)), some (iv x2), some (iv (J 555 x2.toNat))]) mt_195 rfl rfl (Nat.le_of_ble_eq_true rfl) rfl rfl ?_
        refine v_go mt_195 rfl rfl ?_
        refine j_inc (e := x2 + 1) (L' := [some (.ref 542), some (iv (x1 + 1)), some (iv (x2 + 1)), some (iv (J 555 x2.toNat))]) mt_195 rfl rfl (Nat.le_of_ble_eq_true rfl) rfl rfl ?_
        refine v_go mt_195 rfl rfl ?_
        exact h
set_option maxHeartbeats 600000 in
theorem b_197_0 {X : Nat × (Nat → Int32)} {d : Nat} {J : Nat → Nat → Int} {sw : Bool × Bool × Bool} {lg : Nat → Nat → Int64} {x : Nat} {K : (Option Value ⊕ Nat) → mM → Prop} {o1 : Option Value} (hd : 2 ≤ d)
    (h : InR (J 542 35) ∧ (¬ J 542 35 = 0 → (∃ (c2 : Int) (J1 : Nat → Nat → Int), EE X 1 195 [.ref 542] (mj J sw lg x) (.inl (some (iv c2))) (mj J1 sw lg x) ∧ InR c2 ∧ (0 ≤ c2 → ((c2 ≤ 20 → K (.inl (some (iv c2))) (mj J1 sw lg x)) ∧ (20 < c2 → K (.inl (some (iv 20))) (mj J1 sw lg x)))) ∧ (c2 < 0 → K (.inl (some (iv 0))) (mj J1 sw lg x)))) ∧ (J 542 35 = 0 → (InR ((3 + (bDiv (J 558 0) 2)) - (bDiv (J 558 1) 3)) ∧ (0 ≤ (3 + (bDiv (J 558 0) 2)) - (bDiv (J 558 1) 3) → (((3 + (bDiv (J 558 0) 2)) - (bDiv (J 558 1) 3) ≤ 20 → K (.inl (some (iv ((3 + (bDiv (J 558 0) 2)) - (bDiv (J 558 1) 3))))) (mj J sw lg x)) ∧ (20 < (3 + (bDiv (J 558 0) 2)) - (bDiv (J 558 1) 3) → K (.inl (some (iv 20))) (mj J sw lg x)))) ∧ ((3 + (bDiv (J 558 0) 2)) - (bDiv (J 558 1) 3) < 0 → K (.inl (some (iv 0))) (mj J sw lg x))))) : VV X d 197 (0, [some (.ref 542), o1], [], mj J sw lg x) K := by
  refine v_s mt_197 rfl rfl rfl ?_
  refine j_gi (w := J 542 35) 35 mt_197 rfl rfl c_542 (by decide) rfl ?_
  obtain ⟨z1, h⟩ := h
  refine j_if1 mt_197 rfl rfl z1 (fun c => ?_) (fun c => ?_)
  · replace h := h.1 c
    refine v_s mt_197 rfl rfl rfl ?_
    obtain ⟨c2, J1, z2, h⟩ := h
    refine v_call (d1 := 1) mt_197 rfl rfl mt_195 rfl rfl (m_callj (As := []) (rest := []) rfl rfl c_542 rfl (Nat.le_of_ble_eq_true rfl) (Nat.le_of_ble_eq_true rfl)) z2 (by clear h; omega) ?_
    refine v_isn (L' := [some (.ref 542), some (iv c2)]) mt_197 rfl (Nat.le_of_ble_eq_true rfl) rfl ?_
    refine v_s mt_197 rfl rfl rfl ?_
    obtain ⟨z3, h⟩ := h
    refine j_if1 mt_197 rfl rfl z3 (fun c => ?_) (fun c => ?_)
    · replace h := h.1 c
      refine v_s mt_197 rfl rfl rfl ?_
      refine v_bp (v := Int32.ofInt 20) mt_197 rfl rfl ?_
      refine j_if2 mt_197 rfl rfl z3 ⟨by decide, by decide⟩ (fun c => ?_) (fun c => ?_)
      · replace h := h.1 c
        refine v_s mt_197 rfl rfl rfl ?_
        exact v_ret mt_197 rfl rfl rfl h
      · replace h := h.2 (Int.not_le.mp c)
        refine v_bp (v := Int32.ofInt 20) mt_197 rfl rfl ?_
        refine v_go mt_197 rfl rfl ?_
        exact v_ret mt_197 rfl rfl rfl h
    · replace h := h.2 (Int.not_le.mp c)
      refine v_ic (v := Int32.ofInt 0) mt_197 rfl rfl ?_
      refine v_go mt_197 rfl rfl ?_
      exact v_ret mt_197 rfl rfl rfl h
  · replace h := h.2 (Decidable.not_not.mp c)
    refine v_ic (v := Int32.ofInt 3) mt_197 rfl rfl ?_
    refine v_s mt_197 rfl rfl rfl ?_
    refine v_gr (w := 558) 36 mt_197 rfl rfl c_542 (by decide) (g_12_36 c_542) ?_
    refine v_ic (v := Int32.ofInt 0) mt_197 rfl rfl ?_
    refine j_al (w := J 558 0) mt_197 rfl c_558 ⟨by decide, by decide⟩ (by decide) rfl ?_
    refine v_ic (v := Int32.ofInt 2) mt_197 rfl rfl ?_
    refine j_div (e := bDiv (J 558 0) 2) mt_197 rfl ⟨by decide, by decide⟩ (by decide) rfl ?_
    refine j_add (e := 3 + (bDiv (J 558 0) 2)) mt_197 rfl rfl ?_
    refine v_s mt_197 rfl rfl rfl ?_
    refine v_gr (w := 558) 36 mt_197 rfl rfl c_542 (by decide) (g_12_36 c_542) ?_
    refine v_ic (v := Int32.ofInt 1) mt_197 rfl rfl ?_
    refine j_al (w := J 558 1) mt_197 rfl c_558 ⟨by decide, by decide⟩ (by decide) rfl ?_
    refine v_ic (v := Int32.ofInt 3) mt_197 rfl rfl ?_
    refine j_div (e := bDiv (J 558 1) 3) mt_197 rfl ⟨by decide, by decide⟩ (by decide) rfl ?_
    refine j_sub (e := (3 + (bDiv (J 558 0) 2)) - (bDiv (J 558 1) 3)) mt_197 rfl rfl ?_
    refine v_go mt_197 rfl rfl ?_
    refine v_isn (L' := [some (.ref 542), some (iv ((3 + (bDiv (J 558 0) 2)) - (bDiv (J 558 1) 3)))]) mt_197 rfl (Nat.le_of_ble_eq_true rfl) rfl ?_
    refine v_s mt_197 rfl rfl rfl ?_
    obtain ⟨z4, h⟩ := h
    refine j_if1 mt_197 rfl rfl z4 (fun c => ?_) (fun c => ?_)
    · replace h := h.1 c
      refine v_s mt_197 rfl rfl rfl ?_
      refine v_bp (v := Int32.ofInt 20) mt_197 rfl rfl ?_
      refine j_if2 mt_197 rfl rfl z4 ⟨by decide, by decide⟩ (fun c => ?_) (fun c => ?_)
      · replace h := h.1 c
        refine v_s mt_197 rfl rfl rfl ?_
        exact v_ret mt_197 rfl rfl rfl h
      · replace h := h.2 (Int.not_le.mp c)
        refine v_bp (v := Int32.ofInt 20) mt_197 rfl rfl ?_
        refine v_go mt_197 rfl rfl ?_
        exact v_ret mt_197 rfl rfl rfl h
    · replace h := h.2 (Int.not_le.mp c)
      refine v_ic (v := Int32.ofInt 0) mt_197 rfl rfl ?_
      refine v_go mt_197 rfl rfl ?_
      exact v_ret mt_197 rfl rfl rfl h
set_option maxHeartbeats 600000 in
theorem b_206_0 {X : Nat × (Nat → Int32)} {d : Nat} {J : Nat → Nat → Int} {sw : Bool × Bool × Bool} {lg : Nat → Nat → Int64} {x : Nat} {K : (Option Value ⊕ Nat) → mM → Prop} {x1 x2 x3 x4 x5 x6 x7 x8 : Int} (hd : 3 ≤ d)
    (h : ∃ (c2 : Int) (J1 : Nat → Nat → Int), EE X 2 197 [.ref 542] (mj (m_up (m_up (m_up (m_up (m_up (m_up (m_up (m_up J 558 0 x1) 558 1 x2) 558 2 x3) 558 3 x4) 558 4 x5) 558 5 x6) 558 6 x7) 558 7 x8) sw lg x) (.inl (some (iv c2))) (mj J1 sw lg x) ∧ K (.inl (some (iv c2))) (mj J1 sw lg x)) : VV X d 206 (0, [some (.ref 542), some (iv x1), some (iv x2), some (iv x3), some (iv x4), some (iv x5), some (iv x6), some (iv x7), some (iv x8)], [], mj J sw lg x) K := by
  refine v_s mt_206 rfl rfl rfl ?_
  refine v_gr (w := 558) 36 mt_206 rfl rfl c_542 (by decide) (g_12_36 c_542) ?_
  refine v_ic (v := Int32.ofInt 0) mt_206 rfl rfl ?_
  refine v_s mt_206 rfl rfl rfl ?_
  refine j_as mt_206 rfl c_558 ⟨by decide, by decide⟩ (by decide) ?_
  refine v_s mt_206 rfl rfl rfl ?_
  refine v_gr (w := 558) 36 mt_206 rfl rfl c_542 (by decide) (g_12_36 c_542) ?_
  refine v_ic (v := Int32.ofInt 1) mt_206 rfl rfl ?_
  refine v_s mt_206 rfl rfl rfl ?_
  refine j_as mt_206 rfl c_558 ⟨by decide, by decide⟩ (by decide) ?_
  refine v_s mt_206 rfl rfl rfl ?_
  refine v_gr (w := 558) 36 mt_206 rfl rfl c_542 (by decide) (g_12_36 c_542) ?_
  refine v_ic (v := Int32.ofInt 2) mt_206 rfl rfl ?_
  refine v_s mt_206 rfl rfl rfl ?_
  refine j_as mt_206 rfl c_558 ⟨by decide, by decide⟩ (by decide) ?_
  refine v_s mt_206 rfl rfl rfl ?_
  refine v_gr (w := 558) 36 mt_206 rfl rfl c_542 (by decide) (g_12_36 c_542) ?_
  refine v_ic (v := Int32.ofInt 3) mt_206 rfl rfl ?_
  refine v_s mt_206 rfl rfl rfl ?_
  refine j_as mt_206 rfl c_558 ⟨by decide, by decide⟩ (by decide) ?_
  refine v_s mt_206 rfl rfl rfl ?_
  refine v_gr (w := 558) 36 mt_206 rfl rfl c_542 (by decide) (g_12_36 c_542) ?_
  refine v_ic (v := Int32.ofInt 4) mt_206 rfl rfl ?_
  refine v_s mt_206 rfl rfl rfl ?_
  refine j_as mt_206 rfl c_558 ⟨by decide, by decide⟩ (by decide) ?_
  refine v_s mt_206 rfl rfl rfl ?_
  refine v_gr (w := 558) 36 mt_206 rfl rfl c_542 (by decide) (g_12_36 c_542) ?_
  refine v_ic (v := Int32.ofInt 5) mt_206 rfl rfl ?_
  refine v_s mt_206 rfl rfl rfl ?_
  refine j_as mt_206 rfl c_558 ⟨by decide, by decide⟩ (by decide) ?_
  refine v_s mt_206 rfl rfl rfl ?_
  refine v_gr (w := 558) 36 mt_206 rfl rfl c_542 (by decide) (g_12_36 c_542) ?_
  refine v_bp (v := Int32.ofInt 6) mt_206 rfl rfl ?_
  refine v_s mt_206 rfl rfl rfl ?_
  refine j_as mt_206 rfl c_558 ⟨by decide, by decide⟩ (by decide) ?_
  refine v_s mt_206 rfl rfl rfl ?_
  refine v_gr (w := 558) 36 mt_206 rfl rfl c_542 (by decide) (g_12_36 c_542) ?_
  refine v_bp (v := Int32.ofInt 7) mt_206 rfl rfl ?_
  refine v_s mt_206 rfl rfl rfl ?_
  refine j_as mt_206 rfl c_558 ⟨by decide, by decide⟩ (by decide) ?_
  refine v_s mt_206 rfl rfl rfl ?_
  obtain ⟨c2, J1, z1, h⟩ := h
  refine v_call (d1 := 2) mt_206 rfl rfl mt_197 rfl rfl (m_callj (As := []) (rest := []) rfl rfl c_542 rfl (Nat.le_of_ble_eq_true rfl) (Nat.le_of_ble_eq_true rfl)) z1 (by clear h; omega) ?_
  exact v_ret mt_206 rfl rfl rfl h
set_option maxHeartbeats 600000 in
theorem b_207_0 {X : Nat × (Nat → Int32)} {d : Nat} {J : Nat → Nat → Int} {sw : Bool × Bool × Bool} {lg : Nat → Nat → Int64} {x : Nat} {K : (Option Value ⊕ Nat) → mM → Prop} {x1 x2 x3 : Int} (hd : 4 ≤ d)
    (h : (0 ≤ x2 ∧ x2 < 50) ∧ (0 ≤ x1 ∧ x1 < 6) ∧ (0 ≤ 30 + x3 ∧ 30 + x3 < 50) ∧ (0 ≤ 39 + x3 ∧ 39 + x3 < 50) ∧ (0 ≤ 6 + x2 ∧ 6 + x2 < 50) ∧ ∃ (c2 : Int) (J1 : Nat → Nat → Int), EE X 3 206 [.ref 542, iv (J 562 x2.toNat), iv (J 550 x1.toNat), iv (J 562 ((30 + x3).toNat)), iv (J 562 ((39 + x3).toNat)), iv (J 562 48), iv (J 562 ((6 + x2).toNat)), iv (J 562 49), iv x1] (mj J sw lg x) (.inl (some (iv c2))) (mj J1 sw lg x) ∧ K (.inl (some (iv c2))) (mj J1 sw lg x)) : VV X d 207 (0, [some (.ref 542), some (iv x1), some (iv x2), some (iv x3)], [], mj J sw lg x) K := by
  refine v_s mt_207 rfl rfl rfl ?_
  refine v_s mt_207 rfl rfl rfl ?_
  refine v_gr (w := 562) 46 mt_207 rfl rfl c_542 (by decide) (g_12_46 c_542) ?_
  refine v_ic (v := Int32.ofInt 0) mt_207 rfl rfl ?_
  refine v_s mt_207 rfl rfl rfl ?_
  refine j_add (e := x2) mt_207 rfl (Int.zero_add _) ?_
  obtain ⟨z1, h⟩ := h
  refine j_al (w := J 562 x2.toNat) mt_207 rfl c_562 z1 (by decide) rfl ?_
  refine v_s mt_207 rfl rfl rfl ?_
  refine v_gr (w := 550) 15 mt_207 rfl rfl c_542 (by decide) (g_12_15 c_542) ?_
  refine v_s mt_207 rfl rfl rfl ?_
  obtain ⟨z2, h⟩ := h
  refine j_al (w := J 550 x1.toNat) mt_207 rfl c_550 z2 (by decide) rfl ?_
  refine v_s mt_207 rfl rfl rfl ?_
  refine v_gr (w := 562) 46 mt_207 rfl rfl c_542 (by decide) (g_12_46 c_542) ?_
  refine v_bp (v := Int32.ofInt 30) mt_207 rfl rfl ?_
  refine v_s mt_207 rfl rfl rfl ?_
  refine j_add (e := 30 + x3) mt_207 rfl rfl ?_
  obtain ⟨z3, h⟩ := h
  refine j_al (w := J 562 ((30 + x3).toNat)) mt_207 rfl c_562 z3 (by decide) rfl ?_
  refine v_s mt_207 rfl rfl rfl ?_
  refine v_gr (w := 562) 46 mt_207 rfl rfl c_542 (by decide) (g_12_46 c_542) ?_
  refine v_bp (v := Int32.ofInt 39) mt_207 rfl rfl ?_
  refine v_s mt_207 rfl rfl rfl ?_
  refine j_add (e := 39 + x3) mt_207 rfl rfl ?_
  obtain ⟨z4, h⟩ := h
  refine j_al (w := J 562 ((39 + x3).toNat)) mt_207 rfl c_562 z4 (by decide) rfl ?_
  refine v_s mt_207 rfl rfl rfl ?_
  refine v_gr (w := 562) 46 mt_207 rfl rfl c_542 (by decide) (g_12_46 c_542) ?_
  refine v_bp (v := Int32.ofInt 48) mt_207 rfl rfl ?_
  refine j_al (w := J 562 48) mt_207 rfl c_562 ⟨by decide, by decide⟩ (by decide) rfl ?_
  refine v_s mt_207 rfl rfl rfl ?_
  refine v_gr (w := 562) 46 mt_207 rfl rfl c_542 (by decide) (g_12_46 c_542) ?_
  refine v_bp (v := Int32.ofInt 6) mt_207 rfl rfl ?_
  refine v_s mt_207 rfl rfl rfl ?_
  refine j_add (e := 6 + x2) mt_207 rfl rfl ?_
  obtain ⟨z5, h⟩ := h
  refine j_al (w := J 562 ((6 + x2).toNat)) mt_207 rfl c_562 z5 (by decide) rfl ?_
  refine v_s mt_207 rfl rfl rfl ?_
  refine v_gr (w := 562) 46 mt_207 rfl rfl c_542 (by decide) (g_12_46 c_542) ?_
  refine v_bp (v := Int32.ofInt 49) mt_207 rfl rfl ?_
  refine j_al (w := J 562 49) mt_207 rfl c_562 ⟨by decide, by decide⟩ (by decide) rfl ?_
  refine v_s mt_207 rfl rfl rfl ?_
  obtain ⟨c2, J1, z6, h⟩ := h
  refine v_call (d1 := 3) mt_207 rfl rfl mt_206 rfl rfl (m_callj (As := [iv (J 562 x2.toNat), iv (J 550 x1.toNat), iv (J 562 ((30 + x3).toNat)), iv (J 562 ((39 + x3).toNat)), iv (J 562 48), iv (J 562 ((6 + x2).toNat)), iv (J 562 49), iv x1]) (rest := []) rfl rfl c_542 rfl (Nat.le_of_ble_eq_true rfl) (Nat.le_of_ble_eq_true rfl)) z6 (by clear h; omega) ?_
  exact v_ret mt_207 rfl rfl rfl h
set_option maxHeartbeats 600000 in
theorem b_48_0 {X : Nat × (Nat → Int32)} {d : Nat} {J : Nat → Nat → Int} {sw : Bool × Bool × Bool} {lg : Nat → Nat → Int64} {x : Nat} {K : (Option Value ⊕ Nat) → mM → Prop} {r0 r1 r2 : Nat} {x3 x4 x5 : Int} (h0 : SH[r0]? = some (11, 9)) (h1 : SH[r1]? = some (14, 12)) (h2 : SH[r2]? = some (8, 4)) (hd : 2 ≤ d)
    (h : (0 ≤ x4 ∧ x4 < 6) ∧ (0 ≤ x3 ∧ x3 < 6) ∧ (0 ≤ x5 ∧ x5 < 9) ∧ ∃ (c2 : Int) (J1 : Nat → Nat → Int), EE X 1 32 [.ref r2] (mj (m_up (m_up (m_up (m_up (m_up (m_up (m_up (m_up J (r2 + 2) 0 (J (r0 + 1) x4.toNat)) (r2 + 2) 5 (J (r0 + 2) x4.toNat)) (r2 + 2) 1 (J (r1 + 2) x3.toNat)) (r2 + 2) 7 x3) (r2 + 2) 2 (J (r0 + 5) x5.toNat)) (r2 + 2) 3 (J (r0 + 6) x5.toNat)) (r2 + 2) 4 (J r0 8)) (r2 + 2) 6 (J r0 7)) sw lg x) (.inl (some (iv c2))) (mj J1 sw lg x) ∧ K (.inl (some (iv c2))) (mj J1 sw lg x)) : VV X d 48 (0, [some (.ref r0), some (.ref r1), some (.ref r2), some (iv x3), some (iv x4), some (iv x5)], [], mj J sw lg x) K := by
  refine v_s mt_48 rfl rfl rfl ?_
  refine v_s mt_48 rfl rfl rfl ?_
  refine v_gr (w := (r0 + 1)) 0 mt_48 rfl rfl h0 (by decide) (g_6_0 h0) ?_
  refine v_s mt_48 rfl rfl rfl ?_
  obtain ⟨z1, h⟩ := h
  refine j_al (w := J (r0 + 1) x4.toNat) mt_48 rfl (shS r0 (SH_lt h0) h0).1 z1 (by decide) rfl ?_
  refine v_s mt_48 rfl rfl rfl ?_
  refine v_gr (w := (r0 + 2)) 1 mt_48 rfl rfl h0 (by decide) (g_6_1 h0) ?_
  refine v_s mt_48 rfl rfl rfl ?_
  refine j_al (w := J (r0 + 2) x4.toNat) mt_48 rfl (shS r0 (SH_lt h0) h0).2.1 z1 (by decide) rfl ?_
  refine v_s mt_48 rfl rfl rfl ?_
  refine v_gr (w := (r1 + 2)) 7 mt_48 rfl rfl h1 (by decide) (g_9_7 h1) ?_
  refine v_s mt_48 rfl rfl rfl ?_
  obtain ⟨z2, h⟩ := h
  refine j_al (w := J (r1 + 2) x3.toNat) mt_48 rfl (shV r1 (SH_lt h1) h1).2.1 z2 (by decide) rfl ?_
  refine v_s mt_48 rfl rfl rfl ?_
  refine v_inl (L1 := [some (.ref r2), some (iv (J (r0 + 1) x4.toNat)), some (iv (J (r0 + 2) x4.toNat)), some (iv (J (r1 + 2) x3.toNat)), some (iv x3)]) mt_48 rfl rfl mt_30 rfl rfl (m_callj (As := [iv (J (r0 + 1) x4.toNat), iv (J (r0 + 2) x4.toNat), iv (J (r1 + 2) x3.toNat), iv x3]) (rest := []) rfl rfl h2 rfl (Nat.le_of_ble_eq_true rfl) (Nat.le_of_ble_eq_true rfl)) rfl (by clear h; omega) ?_
  refine v_s mt_30 rfl rfl rfl ?_
  refine v_gr (w := (r2 + 2)) 2 mt_30 rfl rfl h2 (by decide) (g_3_2 h2) ?_
  refine v_ic (v := Int32.ofInt 0) mt_30 rfl rfl ?_
  refine v_s mt_30 rfl rfl rfl ?_
  refine j_as mt_30 rfl (shL r2 (SH_lt h2) h2).2.1 ⟨by decide, by decide⟩ (by decide) ?_
  refine v_s mt_30 rfl rfl rfl ?_
  refine v_gr (w := (r2 + 2)) 2 mt_30 rfl rfl h2 (by decide) (g_3_2 h2) ?_
  refine v_ic (v := Int32.ofInt 5) mt_30 rfl rfl ?_
  refine v_s mt_30 rfl rfl rfl ?_
  refine j_as mt_30 rfl (shL r2 (SH_lt h2) h2).2.1 ⟨by decide, by decide⟩ (by decide) ?_
  refine v_s mt_30 rfl rfl rfl ?_
  refine v_gr (w := (r2 + 2)) 2 mt_30 rfl rfl h2 (by decide) (g_3_2 h2) ?_
  refine v_ic (v := Int32.ofInt 1) mt_30 rfl rfl ?_
  refine v_s mt_30 rfl rfl rfl ?_
  refine j_as mt_30 rfl (shL r2 (SH_lt h2) h2).2.1 ⟨by decide, by decide⟩ (by decide) ?_
  refine v_s mt_30 rfl rfl rfl ?_
  refine v_gr (w := (r2 + 2)) 2 mt_30 rfl rfl h2 (by decide) (g_3_2 h2) ?_
  refine v_bp (v := Int32.ofInt 7) mt_30 rfl rfl ?_
  refine v_s mt_30 rfl rfl rfl ?_
  refine j_as mt_30 rfl (shL r2 (SH_lt h2) h2).2.1 ⟨by decide, by decide⟩ (by decide) ?_
  refine v_ret mt_30 rfl rfl rfl ?_
  refine v_s mt_48 rfl rfl rfl ?_
  refine v_s mt_48 rfl rfl rfl ?_
  refine v_gr (w := (r0 + 5)) 4 mt_48 rfl rfl h0 (by decide) (g_6_4 h0) ?_
  refine v_s mt_48 rfl rfl rfl ?_
  obtain ⟨z3, h⟩ := h
  refine j_al (w := J (r0 + 5) x5.toNat) mt_48 rfl (shS r0 (SH_lt h0) h0).2.2.2.2.1 z3 (by decide) ((up_na (sh_ne (shS r0 (SH_lt h0) h0).2.2.2.2.1 (shL r2 (SH_lt h2) h2).2.1 (by decide))).trans ((up_na (sh_ne (shS r0 (SH_lt h0) h0).2.2.2.2.1 (shL r2 (SH_lt h2) h2).2.1 (by decide))).trans ((up_na (sh_ne (shS r0 (SH_lt h0) h0).2.2.2.2.1 (shL r2 (SH_lt h2) h2).2.1 (by decide))).trans ((up_na (sh_ne (shS r0 (SH_lt h0) h0).2.2.2.2.1 (shL r2 (SH_lt h2) h2).2.1 (by decide))).trans rfl)))) ?_
  refine v_s mt_48 rfl rfl rfl ?_
  refine v_gr (w := (r0 + 6)) 5 mt_48 rfl rfl h0 (by decide) (g_6_5 h0) ?_
  refine v_s mt_48 rfl rfl rfl ?_
  refine j_al (w := J (r0 + 6) x5.toNat) mt_48 rfl (shS r0 (SH_lt h0) h0).2.2.2.2.2 z3 (by decide) ((up_na (sh_ne (shS r0 (SH_lt h0) h0).2.2.2.2.2 (shL r2 (SH_lt h2) h2).2.1 (by decide))).trans ((up_na (sh_ne (shS r0 (SH_lt h0) h0).2.2.2.2.2 (shL r2 (SH_lt h2) h2).2.1 (by decide))).trans ((up_na (sh_ne (shS r0 (SH_lt h0) h0).2.2.2.2.2 (shL r2 (SH_lt h2) h2).2.1 (by decide))).trans ((up_na (sh_ne (shS r0 (SH_lt h0) h0).2.2.2.2.2 (shL r2 (SH_lt h2) h2).2.1 (by decide))).trans rfl)))) ?_
  refine v_s mt_48 rfl rfl rfl ?_
  refine j_gi (w := J r0 8) 8 mt_48 rfl rfl h0 (by decide) ((up_na (sh_ne h0 (shL r2 (SH_lt h2) h2).2.1 (by decide))).trans ((up_na (sh_ne h0 (shL r2 (SH_lt h2) h2).2.1 (by decide))).trans ((up_na (sh_ne h0 (shL r2 (SH_lt h2) h2).2.1 (by decide))).trans ((up_na (sh_ne h0 (shL r2 (SH_lt h2) h2).2.1 (by decide))).trans rfl)))) ?_
  refine v_s mt_48 rfl rfl rfl ?_
  refine j_gi (w := J r0 7) 7 mt_48 rfl rfl h0 (by decide) ((up_na (sh_ne h0 (shL r2 (SH_lt h2) h2).2.1 (by decide))).trans ((up_na (sh_ne h0 (shL r2 (SH_lt h2) h2).2.1 (by decide))).trans ((up_na (sh_ne h0 (shL r2 (SH_lt h2) h2).2.1 (by decide))).trans ((up_na (sh_ne h0 (shL r2 (SH_lt h2) h2).2.1 (by decide))).trans rfl)))) ?_
  refine v_inl (L1 := [some (.ref r2), some (iv (J (r0 + 5) x5.toNat)), some (iv (J (r0 + 6) x5.toNat)), some (iv (J r0 8)), some (iv (J r0 7))]) mt_48 rfl rfl mt_31 rfl rfl (m_callj (As := [iv (J (r0 + 5) x5.toNat), iv (J (r0 + 6) x5.toNat), iv (J r0 8), iv (J r0 7)]) (rest := []) rfl rfl h2 rfl (Nat.le_of_ble_eq_true rfl) (Nat.le_of_ble_eq_true rfl)) rfl (by clear h; omega) ?_
  refine v_s mt_31 rfl rfl rfl ?_
  refine v_gr (w := (r2 + 2)) 2 mt_31 rfl rfl h2 (by decide) (g_3_2 h2) ?_
  refine v_ic (v := Int32.ofInt 2) mt_31 rfl rfl ?_
  refine v_s mt_31 rfl rfl rfl ?_
  refine j_as mt_31 rfl (shL r2 (SH_lt h2) h2).2.1 ⟨by decide, by decide⟩ (by decide) ?_
  refine v_s mt_31 rfl rfl rfl ?_
  refine v_gr (w := (r2 + 2)) 2 mt_31 rfl rfl h2 (by decide) (g_3_2 h2) ?_
  refine v_ic (v := Int32.ofInt 3) mt_31 rfl rfl ?_
  refine v_s mt_31 rfl rfl rfl ?_
  refine j_as mt_31 rfl (shL r2 (SH_lt h2) h2).2.1 ⟨by decide, by decide⟩ (by decide) ?_
  refine v_s mt_31 rfl rfl rfl ?_
  refine v_gr (w := (r2 + 2)) 2 mt_31 rfl rfl h2 (by decide) (g_3_2 h2) ?_
  refine v_ic (v := Int32.ofInt 4) mt_31 rfl rfl ?_
  refine v_s mt_31 rfl rfl rfl ?_
  refine j_as mt_31 rfl (shL r2 (SH_lt h2) h2).2.1 ⟨by decide, by decide⟩ (by decide) ?_
  refine v_s mt_31 rfl rfl rfl ?_
  refine v_gr (w := (r2 + 2)) 2 mt_31 rfl rfl h2 (by decide) (g_3_2 h2) ?_
  refine v_bp (v := Int32.ofInt 6) mt_31 rfl rfl ?_
  refine v_s mt_31 rfl rfl rfl ?_
  refine j_as mt_31 rfl (shL r2 (SH_lt h2) h2).2.1 ⟨by decide, by decide⟩ (by decide) ?_
  refine v_ret mt_31 rfl rfl rfl ?_
  refine v_s mt_48 rfl rfl rfl ?_
  obtain ⟨c2, J1, z4, h⟩ := h
  refine v_call (d1 := 1) mt_48 rfl rfl mt_32 rfl rfl (m_callj (As := []) (rest := []) rfl rfl h2 rfl (Nat.le_of_ble_eq_true rfl) (Nat.le_of_ble_eq_true rfl)) z4 (by clear h; omega) ?_
  exact v_ret mt_48 rfl rfl rfl h
