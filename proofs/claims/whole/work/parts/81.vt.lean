/-! the class takes a village -/
section Sw
variable {X : Nat × (Nat → Int32)} {d : Nat} {J : Nat → Nat → Int} {sw : Bool × Bool × Bool} {lg : Nat → Nat → Int64} {x : Nat} {K : (Option Value ⊕ Nat) → mM → Prop} {x1 : Int} {o2 : Option Value}
set_option maxRecDepth 100000 in
theorem sh16 : ∀ a, a < 574 → a ≠ 0 → (SH.getD a (0, 0)).1 ≠ 16 := by decide +kernel
theorem GR_ne {sw sw' : Bool × Bool × Bool} {a : Nat} (ha : a ≠ 0) (k : Nat) : GR sw a k = GR sw' a k := by
  unfold GR
  split
  · rename_i n h
    have := sh16 a (SH_lt h) ha
    rw [List.getD_eq_getElem?_getD, h] at this
    exact absurd rfl this
  all_goals rfl
theorem GR_0 {sw sw' : Bool × Bool × Bool} : ∀ {k : Nat}, (sw.1 = sw'.1 ∨ (k ≠ 2 ∧ k ≠ 3)) → (sw.2.1 = sw'.2.1 ∨ (k ≠ 4 ∧ k ≠ 5)) → (sw.2.2 = sw'.2.2 ∨ (k ≠ 6 ∧ k ≠ 7)) → GR sw 0 k = GR sw' 0 k
  | 0, _, _, _ => rfl
  | 1, _, _, _ => rfl
  | 2, h1, h2, h3 => by
    show some (if sw.1 then 10 else 3) = some (if sw'.1 then 10 else 3)
    rw [h1.resolve_right (fun z => z.1 rfl)]
  | 3, h1, h2, h3 => by
    show some (if sw.1 then 3 else 10) = some (if sw'.1 then 3 else 10)
    rw [h1.resolve_right (fun z => z.2 rfl)]
  | 4, h1, h2, h3 => by
    show some (if sw.2.1 then 21 else 17) = some (if sw'.2.1 then 21 else 17)
    rw [h2.resolve_right (fun z => z.1 rfl)]
  | 5, h1, h2, h3 => by
    show some (if sw.2.1 then 17 else 21) = some (if sw'.2.1 then 17 else 21)
    rw [h2.resolve_right (fun z => z.2 rfl)]
  | 6, h1, h2, h3 => by
    show some (if sw.2.2 then 30 else 25) = some (if sw'.2.2 then 30 else 25)
    rw [h3.resolve_right (fun z => z.1 rfl)]
  | 7, h1, h2, h3 => by
    show some (if sw.2.2 then 25 else 30) = some (if sw'.2.2 then 25 else 30)
    rw [h3.resolve_right (fun z => z.2 rfl)]
  | 8, _, _, _ => rfl
  | 9, _, _, _ => rfl
  | 10, _, _, _ => rfl
  | 11, _, _, _ => rfl
  | 12, _, _, _ => rfl
  | 13, _, _, _ => rfl
  | 14, _, _, _ => rfl
  | 15, _, _, _ => rfl
  | k + 16, _, _, _ => rfl
/-- the three swaps -/
def s1 (sw : Bool × Bool × Bool) : Bool × Bool × Bool := (!sw.1, sw.2.1, sw.2.2)
def s2 (sw : Bool × Bool × Bool) : Bool × Bool × Bool := (sw.1, !sw.2.1, sw.2.2)
def s3 (sw : Bool × Bool × Bool) : Bool × Bool × Bool := (sw.1, sw.2.1, !sw.2.2)
theorem GR_s1 (sw : Bool × Bool × Bool) : m_up (m_up (GR sw) 0 2 (some (vB sw))) 0 3 (some (vA sw)) = GR (s1 sw) := by
  obtain ⟨a, b, c⟩ := sw
  funext i k
  by_cases hi : i = 0
  · subst hi
    by_cases h3 : k = 3
    · subst h3; rw [up_eq]; cases a <;> rfl
    · rw [up_nk h3]
      by_cases h2 : k = 2
      · subst h2; rw [up_eq]; cases a <;> rfl
      · rw [up_nk h2]; exact GR_0 (Or.inr ⟨h2, h3⟩) (Or.inl rfl) (Or.inl rfl)
  · rw [up_na hi, up_na hi]; exact GR_ne hi k
theorem GR_s2 (sw : Bool × Bool × Bool) : m_up (m_up (GR sw) 0 4 (some (lB sw))) 0 5 (some (lA sw)) = GR (s2 sw) := by
  obtain ⟨a, b, c⟩ := sw
  funext i k
  by_cases hi : i = 0
  · subst hi
    by_cases h3 : k = 5
    · subst h3; rw [up_eq]; cases b <;> rfl
    · rw [up_nk h3]
      by_cases h2 : k = 4
      · subst h2; rw [up_eq]; cases b <;> rfl
      · rw [up_nk h2]; exact GR_0 (Or.inl rfl) (Or.inr ⟨h2, h3⟩) (Or.inl rfl)
  · rw [up_na hi, up_na hi]; exact GR_ne hi k
theorem GR_s3 (sw : Bool × Bool × Bool) : m_up (m_up (GR sw) 0 6 (some (bB sw))) 0 7 (some (bA sw)) = GR (s3 sw) := by
  obtain ⟨a, b, c⟩ := sw
  funext i k
  by_cases hi : i = 0
  · subst hi
    by_cases h3 : k = 7
    · subst h3; rw [up_eq]; cases c <;> rfl
    · rw [up_nk h3]
      by_cases h2 : k = 6
      · subst h2; rw [up_eq]; cases c <;> rfl
      · rw [up_nk h2]; exact GR_0 (Or.inl rfl) (Or.inl rfl) (Or.inr ⟨h2, h3⟩)
  · rw [up_na hi, up_na hi]; exact GR_ne hi k
theorem v_pr {y pc : Nat} {mm : mMeth} {L : mL} {st : List Value} {I : Nat → Nat → Int32} {Rf : Nat → Nat → Option Nat} {i l ci b a N w : Nat} (k : Nat) (hm : mP[y]? = some mm) (ho : mm.2.2.2.2.2.2.lookup pc = some (.putfield i, l, ci, b)) (hb : b = 2 * k + 1) (hC : SH[a]? = some (ci + 5, N)) (hk : k < N) (hw : w < 1000) (h : VV X d y (pc + 3, L, st, (I, m_up Rf a k (some w), lg, SH, x)) K) : VV X d y (pc, L, .ref w :: .ref a :: st, (I, Rf, lg, SH, x)) K := by
  subst hb
  refine v_s hm ho rfl ?_ h
  simp only [m_step, m_r1, m_obj, hC]
  rw [if_neg (by omega), show (2 * k + 1) / 2 = k by omega, if_pos trivial, if_pos hk, if_pos hw]
theorem vA_lt (sw : Bool × Bool × Bool) : vA sw < 1000 ∧ vB sw < 1000 := by unfold vA vB; split <;> decide
theorem lA_lt (sw : Bool × Bool × Bool) : lA sw < 1000 ∧ lB sw < 1000 := by unfold lA lB; split <;> decide
theorem bA_lt (sw : Bool × Bool × Bool) : bA sw < 1000 ∧ bB sw < 1000 := by unfold bA bB; split <;> decide
theorem b_111_27 (h : VV X d 111 (45, [some (.ref 0), some (iv x1), some (.ref (vA sw))], [], mj J (s1 sw) lg x) K) : VV X d 111 (27, [some (.ref 0), some (iv x1), o2], [], mj J sw lg x) K := by
  refine v_s mt_111 rfl rfl rfl ?_
  refine v_gr (w := vA sw) 2 mt_111 rfl rfl c_0 (by decide) g_11_2 ?_
  refine v_rsn (L' := [some (.ref 0), some (iv x1), some (.ref (vA sw))]) mt_111 rfl (Nat.le_of_ble_eq_true rfl) rfl ?_
  refine v_s mt_111 rfl rfl rfl ?_
  refine v_s mt_111 rfl rfl rfl ?_
  refine v_gr (w := vB sw) 3 mt_111 rfl rfl c_0 (by decide) g_11_3 ?_
  refine v_pr 2 mt_111 rfl rfl c_0 (by decide) (vA_lt sw).2 ?_
  refine v_s mt_111 rfl rfl rfl ?_
  refine v_s mt_111 rfl rfl rfl ?_
  refine v_pr 3 mt_111 rfl rfl c_0 (by decide) (vA_lt sw).1 ?_
  rw [GR_s1]
  exact h
theorem b_112_27 (h : VV X d 112 (45, [some (.ref 0), some (iv x1), some (.ref (lA sw))], [], mj J (s2 sw) lg x) K) : VV X d 112 (27, [some (.ref 0), some (iv x1), o2], [], mj J sw lg x) K := by
  refine v_s mt_112 rfl rfl rfl ?_
  refine v_gr (w := lA sw) 4 mt_112 rfl rfl c_0 (by decide) g_11_4 ?_
  refine v_rsn (L' := [some (.ref 0), some (iv x1), some (.ref (lA sw))]) mt_112 rfl (Nat.le_of_ble_eq_true rfl) rfl ?_
  refine v_s mt_112 rfl rfl rfl ?_
  refine v_s mt_112 rfl rfl rfl ?_
  refine v_gr (w := lB sw) 5 mt_112 rfl rfl c_0 (by decide) g_11_5 ?_
  refine v_pr 4 mt_112 rfl rfl c_0 (by decide) (lA_lt sw).2 ?_
  refine v_s mt_112 rfl rfl rfl ?_
  refine v_s mt_112 rfl rfl rfl ?_
  refine v_pr 5 mt_112 rfl rfl c_0 (by decide) (lA_lt sw).1 ?_
  rw [GR_s2]
  exact h
theorem b_114_33 (h : VV X d 114 (51, [some (.ref 0), some (iv x1), some (.ref (bA sw))], [], mj J (s3 sw) lg x) K) : VV X d 114 (33, [some (.ref 0), some (iv x1), o2], [], mj J sw lg x) K := by
  refine v_s mt_114 rfl rfl rfl ?_
  refine v_gr (w := bA sw) 6 mt_114 rfl rfl c_0 (by decide) g_11_6 ?_
  refine v_rsn (L' := [some (.ref 0), some (iv x1), some (.ref (bA sw))]) mt_114 rfl (Nat.le_of_ble_eq_true rfl) rfl ?_
  refine v_s mt_114 rfl rfl rfl ?_
  refine v_s mt_114 rfl rfl rfl ?_
  refine v_gr (w := bB sw) 7 mt_114 rfl rfl c_0 (by decide) g_11_7 ?_
  refine v_pr 6 mt_114 rfl rfl c_0 (by decide) (bA_lt sw).2 ?_
  refine v_s mt_114 rfl rfl rfl ?_
  refine v_s mt_114 rfl rfl rfl ?_
  refine v_pr 7 mt_114 rfl rfl c_0 (by decide) (bA_lt sw).1 ?_
  rw [GR_s3]
  exact h
end Sw
