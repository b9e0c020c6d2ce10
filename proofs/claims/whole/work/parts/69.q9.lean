/-! the first hook, as fractions -/
def pwF (q : Int) : Nat → Int64 × Int64
  | 0 => ((Int32.ofInt q).toInt64, Int64.ofNat 16)
  | k + 1 => ((pwF q k).1 * (Int32.ofInt (16 - q)).toInt64, (pwF q k).2 * Int64.ofNat 16)
/-- halved as long as both can be -/
def hvF (a b : Int64) : Nat → Int64 × Int64
  | 0 => (a, b)
  | r + 1 => if ¬ lcI (a - a / Int64.ofNat 2 * Int64.ofNat 2) (Int64.ofNat 0) = 0 then (a, b) else if lcI b (Int64.ofNat 1) ≤ 0 then (a, b) else hvF (a / Int64.ofNat 2) (b / Int64.ofNat 2) r
/-- the greatest that divides both, in r rounds -/
def gcF (a b : Int64) : Nat → Option Int64
  | 0 => none
  | r + 1 => if lcI b (Int64.ofNat 0) = 0 then (if a = 0 then none else some a) else if b = 0 then none else gcF b (a - a / b * b) r
def okF (q n : Nat) : Bool := match gcF (pwF (q : Int) n).1 (pwF (q : Int) n).2 60 with
  | some g => decide ((pwF (q : Int) n).1 / g = (hvF (pwF (q : Int) n).1 (pwF (q : Int) n).2 (4 * (n + 1))).1 ∧ (pwF (q : Int) n).2 / g = (hvF (pwF (q : Int) n).1 (pwF (q : Int) n).2 (4 * (n + 1))).2)
  | none => false
set_option maxRecDepth 100000 in
theorem okF_all : ∀ n, n < 12 → ∀ q, q < 17 → okF q n = true := by decide +kernel
def firstL (x1 x2 x3 : Int) : Int64 := if x3 = 0 then (hvF (pwF x2 (x1.toNat - 1)).1 (pwF x2 (x1.toNat - 1)).2 (4 * x1.toNat)).1 else (hvF (pwF x2 (x1.toNat - 1)).1 (pwF x2 (x1.toNat - 1)).2 (4 * x1.toNat)).2
def firstR (x1 x2 x3 : Int) : Nat := if (x1 < 1 ∨ 12 < x1) ∨ (x2 < 0 ∨ 16 < x2) ∨ x3 < 0 ∨ 1 < x3 then 2 else 0
section Q9
variable {X : Nat × (Nat → Int32)} {J : Nat → Nat → Int} {sw : Bool × Bool × Bool} {lg : Nat → Nat → Int64} {x : Nat} {A : AT} {x1 x2 x3 : Int}
/-- the class's answer, a long -/
def AKL (X : Nat × (Nat → Int32)) (d y : Nat) (As : List Value) (J : Nat → Nat → Int) (sw : Bool × Bool × Bool) (lg : Nat → Nat → Int64) (x : Nat) (A : AT) (q : Nat × Int64) : Prop := ∃ z, EE X d y (.ref 0 :: As) (mj J sw lg x) (if q.1 = 0 then .inl (some (.long q.2)) else .inr q.1) (mj z sw lg (if q.1 = 0 then x else x + 1)) ∧ GK z sw (af A q.1) ∧ ∀ c, 542 ≤ c → z c = J c
def AML (X : Nat × (Nat → Int32)) (d y : Nat) (As : List Value) (J : Nat → Nat → Int) (sw : Bool × Bool × Bool) (lg : Nat → Nat → Int64) (x : Nat) (A : AT) (q : Nat × Int64) (cd : Nat → Int) : Prop := ∃ z : (Nat → Nat → Int) × Int64, EE X d y (.ref 542 :: As) (mj J sw lg x) (.inl (some (.long z.2))) (mj z.1 sw lg x) ∧ (q.1 = 0 → z.2 = q.2) ∧ z.1 542 0 = cd q.1 ∧ GM z.1 (af A q.1) ∧ ∀ c, c < 542 ∨ 573 ≤ c → z.1 c = J c
theorem kq_first (hG : GK J sw A) (bA' : ABd A) (h1 : InR x1) (h2 : InR x2) (h3 : InR x3) : AKL X 2 134 [iv x1, iv x2, iv x3] J sw lg x A (firstR x1 x2 x3, firstL x1 x2 x3) := by
  have no : firstR x1 x2 x3 = 2 → (∃ z, (.inr 2 : Option Value ⊕ Nat) = (if (firstR x1 x2 x3, firstL x1 x2 x3).1 = 0 then .inl (some (.long (firstR x1 x2 x3, firstL x1 x2 x3).2)) else .inr (firstR x1 x2 x3, firstL x1 x2 x3).1) ∧ mj (m_up J 0 18 (J 0 18 + 1)) sw lg (x + 1) = mj z sw lg (if (firstR x1 x2 x3, firstL x1 x2 x3).1 = 0 then x else x + 1) ∧ GK z sw (af A (firstR x1 x2 x3, firstL x1 x2 x3).1) ∧ ∀ c, 542 ≤ c → z c = J c) := by
    intro hr
    refine ⟨m_up J 0 18 (J 0 18 + 1), ?_, ?_, ?_, fun c hc => up_r (show c ≠ 0 by omega)⟩
    · show _ = if firstR x1 x2 x3 = 0 then _ else _
      rw [hr]; rfl
    · show _ = mj _ sw lg (if firstR x1 x2 x3 = 0 then x else x + 1)
      rw [hr]; rfl
    · show GK _ sw (af A (firstR x1 x2 x3))
      rw [hr]; exact hG.r2 bA'
  refine EE.ex (O := fun _ => if (firstR x1 x2 x3, firstL x1 x2 x3).1 = 0 then .inl (some (.long (firstR x1 x2 x3, firstL x1 x2 x3).2)) else .inr (firstR x1 x2 x3, firstL x1 x2 x3).1) (F := fun z => mj z sw lg (if (firstR x1 x2 x3, firstL x1 x2 x3).1 = 0 then x else x + 1)) mt_134 (b_134_0 (by omega) ⟨h1, fun c => no (if_pos (by omega)), fun c1 => ⟨fun c2 => ⟨h2, fun c => no (if_pos (by omega)), fun c3 => ⟨fun c4 => ⟨h3, fun c => no (if_pos (by omega)), fun c5 => ⟨fun c6 => ?_, fun c => no (if_pos (by omega))⟩⟩, fun c => no (if_pos (by omega))⟩⟩, fun c => no (if_pos (by omega))⟩⟩)
  have hr : firstR x1 x2 x3 = 0 := if_neg (by omega)
  have yes : ∀ l : Int64, l = firstL x1 x2 x3 → (∃ z, (.inl (some (.long l)) : Option Value ⊕ Nat) = (if (firstR x1 x2 x3, firstL x1 x2 x3).1 = 0 then .inl (some (.long (firstR x1 x2 x3, firstL x1 x2 x3).2)) else .inr (firstR x1 x2 x3, firstL x1 x2 x3).1) ∧ mj J sw lg x = mj z sw lg (if (firstR x1 x2 x3, firstL x1 x2 x3).1 = 0 then x else x + 1) ∧ GK z sw (af A (firstR x1 x2 x3, firstL x1 x2 x3).1) ∧ ∀ c, 542 ≤ c → z c = J c) := by
    intro l hl
    refine ⟨J, ?_, ?_, ?_, fun c hc => rfl⟩
    · show _ = if firstR x1 x2 x3 = 0 then _ else _
      rw [hr, hl]; rfl
    · show _ = mj _ sw lg (if firstR x1 x2 x3 = 0 then x else x + 1)
      rw [hr]; rfl
    · show GK _ sw (af A (firstR x1 x2 x3))
      rw [hr]; exact hG
  obtain ⟨n, hn⟩ : ∃ n : Nat, x1 = ((n + 1 : Nat) : Int) := ⟨(x1 - 1).toNat, by omega⟩
  have key1 := lp (P := fun k => VV X 2 134 (35, [some (.ref 0), some (iv x1), some (iv x2), some (iv x3), some (.long (pwF x2 k).1), none, some (.long (pwF x2 k).2), none, some (iv ((k + 1 : Nat) : Int))], [], mj J sw lg x) (fun o M => ∃ z, o = (if (firstR x1 x2 x3, firstL x1 x2 x3).1 = 0 then .inl (some (.long (firstR x1 x2 x3, firstL x1 x2 x3).2)) else .inr (firstR x1 x2 x3, firstL x1 x2 x3).1) ∧ M = mj z sw lg (if (firstR x1 x2 x3, firstL x1 x2 x3).1 = 0 then x else x + 1) ∧ GK z sw (af A (firstR x1 x2 x3, firstL x1 x2 x3).1) ∧ ∀ c, 542 ≤ c → z c = J c)) n ?_ ?_ 0 (Nat.zero_le _)
  · exact key1
  · refine b_134_35 (by omega) ⟨by omega, h1, fun _ => ?_, fun c => by omega⟩
    have fl : firstL x1 x2 x3 = if x3 = 0 then (hvF (pwF x2 n).1 (pwF x2 n).2 (4 * (n + 1))).1 else (hvF (pwF x2 n).1 (pwF x2 n).2 (4 * (n + 1))).2 := by
      unfold firstL
      rw [hn, Int.toNat_natCast, Nat.add_sub_cancel]
    have key2 := lp (P := fun k => ∀ l4 l6 : Int64, hvF (pwF x2 n).1 (pwF x2 n).2 (4 * (n + 1)) = hvF l4 l6 (4 * (n + 1) - k) → VV X 2 134 (68, [some (.ref 0), some (iv x1), some (iv x2), some (iv x3), some (.long l4), none, some (.long l6), none, some (iv k)], [], mj J sw lg x) (fun o M => ∃ z, o = (if (firstR x1 x2 x3, firstL x1 x2 x3).1 = 0 then .inl (some (.long (firstR x1 x2 x3, firstL x1 x2 x3).2)) else .inr (firstR x1 x2 x3, firstL x1 x2 x3).1) ∧ M = mj z sw lg (if (firstR x1 x2 x3, firstL x1 x2 x3).1 = 0 then x else x + 1) ∧ GK z sw (af A (firstR x1 x2 x3, firstL x1 x2 x3).1) ∧ ∀ c, 542 ≤ c → z c = J c)) (4 * (n + 1)) ?_ ?_ 0 (Nat.zero_le _)
    · exact key2 _ _ rfl
    · intro l4 l6 he
      rw [Nat.sub_self] at he
      have he : hvF (pwF x2 n).1 (pwF x2 n).2 (4 * (n + 1)) = (l4, l6) := he
      refine b_134_68 (by omega) ⟨by omega, by omega, fun _ => ⟨h3, fun c => yes _ ?_, fun c => yes _ ?_⟩, fun c => by omega⟩
      · rw [fl, if_neg c, he]
      · rw [fl, if_pos c, he]
    · intro k hk ih l4 l6 he
      obtain ⟨r, hr2⟩ : ∃ r, 4 * (n + 1) - k = r + 1 := ⟨4 * (n + 1) - k - 1, by omega⟩
      rw [hr2] at he
      refine b_134_68 (by omega) ⟨by omega, by omega, fun c => by omega, fun _ => ⟨fun c => ⟨h3, fun c' => yes _ ?_, fun c' => yes _ ?_⟩, fun c => ⟨fun c2 => ⟨h3, fun c' => yes _ ?_, fun c' => yes _ ?_⟩, fun c2 => ?_⟩⟩⟩
      · rw [fl, if_neg c', he, hvF, if_pos c]
      · rw [fl, if_pos c', he, hvF, if_pos c]
      · rw [fl, if_neg c', he, hvF, if_neg (by intro z; exact z c), if_pos c2]
      · rw [fl, if_pos c', he, hvF, if_neg (by intro z; exact z c), if_pos c2]
      · refine ih _ _ ?_
        rw [he, hvF, if_neg (by intro z; exact z c), if_neg (by omega), show 4 * (n + 1) - (k + 1) = r by omega]
  · intro k hk ih
    refine b_134_35 (by omega) ⟨by omega, h1, fun c => by omega, fun _ => ?_⟩
    exact ih
theorem e_256 {a b g : Int64} (h3 : InR x3) : ∀ (r : Nat) (l5 l7 : Int64) (o9 o10 : Option Value), gcF l5 l7 r = some g → VV X 0 256 (6, [some (.long a), none, some (.long b), none, some (iv x3), some (.long l5), none, some (.long l7), none, o9, o10], [], mj J sw lg x) (fun o1 M1 => o1 = .inl (some (.long (if x3 = 0 then a / g else b / g))) ∧ M1 = mj J sw lg x)
  | 0, l5, l7, o9, o10, h => by cases h
  | r + 1, l5, l7, o9, o10, h => by
    unfold gcF at h
    refine b_256_6 ⟨fun c => ?_, fun c => ?_⟩
    · rw [if_pos c] at h
      split at h
      · cases h
      · rename_i hz
        cases h
        exact ⟨h3, fun c' => ⟨hz, by rw [if_neg c'], rfl⟩, fun c' => ⟨hz, by rw [if_pos c'], rfl⟩⟩
    · rw [if_neg c] at h
      split at h
      · cases h
      · rename_i hz
        exact ⟨hz, e_256 h3 r _ _ _ _ h⟩
theorem rq_first (hG : GM J A) (h1 : InR x1) (h2 : InR x2) (h3 : InR x3) : AML X 1 257 [iv x1, iv x2, iv x3] J sw lg x A (firstR x1 x2 x3, firstL x1 x2 x3) cdS := by
  have no : firstR x1 x2 x3 = 2 → (∃ z : (Nat → Nat → Int) × Int64, (.inl (some (.long (Int64.ofNat 0))) : Option Value ⊕ Nat) = .inl (some (.long z.2)) ∧ mj (m_up (m_up (m_up J 542 0 0) 542 0 1) 543 1 (J 543 1 + 1)) sw lg x = mj z.1 sw lg x ∧ (firstR x1 x2 x3 = 0 → z.2 = firstL x1 x2 x3) ∧ z.1 542 0 = cdS (firstR x1 x2 x3) ∧ GM z.1 (af A (firstR x1 x2 x3)) ∧ ∀ c, c < 542 ∨ 573 ≤ c → z.1 c = J c) := by
    intro hr
    refine ⟨(_, _), rfl, rfl, fun z => by omega, ?_, ?_, fun c hc => ?_⟩
    · show m_up (m_up (m_up J 542 0 0) 542 0 1) 543 1 (J 543 1 + 1) 542 0 = _
      rw [hr, up_na (by decide), up_eq]; rfl
    · rw [hr]; exact hG.rfs (k := 1) (by decide)
    · show m_up (m_up (m_up J 542 0 0) 542 0 1) 543 1 (J 543 1 + 1) c = J c
      rw [up_r (by omega), up_r (by omega), up_r (by omega)]
  refine EE.ex (O := fun z : (Nat → Nat → Int) × Int64 => .inl (some (.long z.2))) (F := fun z => mj z.1 sw lg x) mt_257 (b_257_0 (by omega) ⟨h1, fun c => no (if_pos (by omega)), fun c1 => ⟨fun c => no (if_pos (by omega)), fun c2 => ⟨h2, fun c => no (if_pos (by omega)), fun c3 => ⟨fun c => no (if_pos (by omega)), fun c4 => ⟨h3, fun c => no (if_pos (by omega)), fun c5 => ⟨fun c => no (if_pos (by omega)), fun c6 => ?_⟩⟩⟩⟩⟩⟩)
  have hr : firstR x1 x2 x3 = 0 := if_neg (by omega)
  obtain ⟨n, hn⟩ : ∃ n : Nat, x1 = ((n + 1 : Nat) : Int) := ⟨(x1 - 1).toNat, by omega⟩
  obtain ⟨q, hq⟩ : ∃ q : Nat, x2 = (q : Int) := ⟨x2.toNat, by omega⟩
  refine lp (P := fun k => VV X 1 257 (62, [some (.ref 542), some (iv x1), some (iv x2), some (iv x3), some (.long (pwF x2 k).1), none, some (.long (pwF x2 k).2), none, some (iv ((k + 1 : Nat) : Int))], [], mj (m_up J 542 0 0) sw lg x) (fun o M => ∃ z : (Nat → Nat → Int) × Int64, o = .inl (some (.long z.2)) ∧ M = mj z.1 sw lg x ∧ (firstR x1 x2 x3 = 0 → z.2 = firstL x1 x2 x3) ∧ z.1 542 0 = cdS (firstR x1 x2 x3) ∧ GM z.1 (af A (firstR x1 x2 x3)) ∧ ∀ c, c < 542 ∨ 573 ≤ c → z.1 c = J c)) n ?_ ?_ 0 (Nat.zero_le _)
  · have fl : firstL x1 x2 x3 = if x3 = 0 then (hvF (pwF x2 n).1 (pwF x2 n).2 (4 * (n + 1))).1 else (hvF (pwF x2 n).1 (pwF x2 n).2 (4 * (n + 1))).2 := by
      unfold firstL
      rw [hn, Int.toNat_natCast, Nat.add_sub_cancel]
    have hk := okF_all n (by omega) q (by omega)
    unfold okF at hk
    rw [← hq] at hk
    split at hk
    · rename_i g hg
      rw [decide_eq_true_eq] at hk
      refine b_257_62 (by omega) ⟨by omega, h1, fun _ => ⟨_, _, EE.of mt_256 (b_256_0 (e_256 h3 60 _ _ _ _ hg)), ?_⟩, fun c => by omega⟩
      refine ⟨(m_up J 542 0 0, if x3 = 0 then (pwF x2 n).1 / g else (pwF x2 n).2 / g), rfl, rfl, fun _ => ?_, ?_, ?_, fun c hc => ?_⟩
      · rw [fl]
        show (if x3 = 0 then (pwF x2 n).1 / g else (pwF x2 n).2 / g) = _
        rw [hk.1, hk.2]
      · rw [hr]; show m_up J 542 0 0 542 0 = 0; exact up_eq _ _ _ _
      · rw [hr]; exact hG.fq FQ.up0
      · show m_up J 542 0 0 c = J c
        exact up_r (by omega)
    · cases hk
  · intro k hk ih
    refine b_257_62 (by omega) ⟨by omega, h1, fun c => by omega, fun _ => ?_⟩
    exact ih
end Q9
