/-! the law: a row of deeds, and how it is reckoned -/
def wr (z : Int) : Int := (Int32.ofInt z).toInt
theorem iv_wr (z : Int) : iv (wr z) = iv z := by simp only [iv, wr, Int32.ofInt_toInt]
def opR (k a b : Int) : Int := if k = 2 then a + b else if k = 3 then a - b else if k = 4 then a * b else if k = 5 then (if b = 0 then 0 else bDiv a b) else if k = 8 then (if b = 0 then 0 else bRem a b) else if k = 6 then min a b else max a b
def opF (k a b : Int) : Int := wr (opR k a b)
theorem iv_op (k a b : Int) : iv (opF k a b) = iv (opR k a b) := iv_wr _
def deed (w : Int) : Int := if w = 8 then 4 else if w = 6 then 5 else if w = 7 then 6 else w - 2
def enL (w o : Int) : Int := if w = 0 then o else if w = 1 then 1000 + o else 2000 + deed w
abbrev LT : Type := Nat × (Nat → Int) × (Nat → Int)
def dpL (T : LT) : Nat → Nat
  | 0 => 0
  | k + 1 => if T.2.1 k ≤ 1 then dpL T k + 1 else dpL T k - 1
def runL (T : LT) (f : Nat → Int) : Nat → Nat → Int
  | 0 => fun _ => 0
  | k + 1 => if T.2.1 k = 0 then up1 (runL T f k) (dpL T k) (T.2.2 k) else if T.2.1 k = 1 then up1 (runL T f k) (dpL T k) (f (T.2.2 k).toNat) else up1 (runL T f k) (dpL T k - 2) (opF (T.2.1 k) (runL T f k (dpL T k - 2)) (runL T f k (dpL T k - 1)))
def LWF (T : LT) : Prop := T.1 ≤ 150 ∧ (∀ k, k < T.1 → (T.2.1 k = 0 ∧ (0 ≤ T.2.2 k ∧ T.2.2 k ≤ 999) ∧ dpL T k < 40) ∨ (T.2.1 k = 1 ∧ (0 ≤ T.2.2 k ∧ T.2.2 k < 8) ∧ dpL T k < 40) ∨ ((2 ≤ T.2.1 k ∧ T.2.1 k ≤ 8) ∧ 2 ≤ dpL T k)) ∧ (0 < T.1 → 1 ≤ dpL T T.1)
def clamp (v : Int) : Int := max 0 (min 20 v)
def mendL (T : LT) (f : Nat → Int) : Int := clamp (if T.1 = 0 then 3 + bDiv (f 0) 2 - bDiv (f 1) 3 else runL T f T.1 0)
def LK (J : Nat → Nat → Int) (l : Nat) (T : LT) : Prop := J l 1 = T.1 ∧ ∀ k, k < T.1 → J (l + 1) k = enL (T.2.1 k) (T.2.2 k)
def LM (J : Nat → Nat → Int) (T : LT) : Prop := J 542 35 = T.1 ∧ ∀ k, k < T.1 → J 555 k = T.2.1 k ∧ J 556 k = T.2.2 k
theorem clamp_b (v : Int) : 0 ≤ clamp v ∧ clamp v ≤ 20 := by unfold clamp; omega
theorem mendL_b (T : LT) (f : Nat → Int) : 0 ≤ mendL T f ∧ mendL T f ≤ 20 := clamp_b _
theorem dpL_le (T : LT) (h : LWF T) : ∀ k, k ≤ T.1 → dpL T k ≤ 40 := by
  intro k
  induction k with
  | zero => intro _; exact Nat.zero_le _
  | succ k ih =>
    intro hk
    have h1 := ih (by omega)
    have h2 := h.2.1 k (by omega)
    unfold dpL
    split <;> omega
theorem runL_b (T : LT) (h : LWF T) (f : Nat → Int) (hf : ∀ i, i < 8 → 0 ≤ f i ∧ f i ≤ 2000) : ∀ k, k ≤ T.1 → ∀ i, InR (runL T f k i) := by
  intro k
  induction k with
  | zero => intro _ i; exact ⟨show -2147483648 ≤ (0 : Int) by decide, show (0 : Int) < 2147483648 by decide⟩
  | succ k ih =>
    intro hk i
    have h1 := ih (by omega)
    have h2 := h.2.1 k (by omega)
    unfold runL
    split
    · by_cases q : i = dpL T k
      · subst q; rw [up1_eq]; omega
      · rw [up1_ne q]; exact h1 i
    · split
      · by_cases q : i = dpL T k
        · subst q; rw [up1_eq]; have := hf (T.2.2 k).toNat (by omega); omega
        · rw [up1_ne q]; exact h1 i
      · by_cases q : i = dpL T k - 2
        · subst q; rw [up1_eq]; exact inT _
        · rw [up1_ne q]; exact h1 i
section LW
variable {X : Nat × (Nat → Int32)} {J : Nat → Nat → Int} {sw : Bool × Bool × Bool} {lg : Nat → Nat → Int64} {x l : Nat} {T : LT} {f : Nat → Int}
theorem e_33 {k a b : Int} (hk : 2 ≤ k ∧ k ≤ 8) (ha : InR a) (hb : InR b) : EE X 0 33 [iv (deed k), iv a, iv b] (mj J sw lg x) (.inl (some (iv (opF k a b)))) (mj J sw lg x) := by
  refine EE.of mt_33 (b_33_0 ?_)
  rw [iv_op]
  have hd : deed k = if k = 8 then 4 else if k = 6 then 5 else if k = 7 then 6 else k - 2 := rfl
  have h7 : k = 2 ∨ k = 3 ∨ k = 4 ∨ k = 5 ∨ k = 6 ∨ k = 7 ∨ k = 8 := by omega
  rcases h7 with rfl | rfl | rfl | rfl | rfl | rfl | rfl
  · rw [show deed 2 = 0 from rfl]
    refine ⟨by decide, fun _ => ⟨by simp [opR], rfl⟩, fun c => absurd c (by decide), fun c => absurd c (by decide), fun c => absurd c (by decide), fun c => absurd c (by decide), fun c => absurd c (by decide), fun c => absurd c (by decide)⟩
  · rw [show deed 3 = 1 from rfl]
    refine ⟨by decide, fun c => absurd c (by decide), fun _ => ⟨by simp [opR], rfl⟩, fun c => absurd c (by decide), fun c => absurd c (by decide), fun c => absurd c (by decide), fun c => absurd c (by decide), fun c => absurd c (by decide)⟩
  · rw [show deed 4 = 2 from rfl]
    refine ⟨by decide, fun c => absurd c (by decide), fun c => absurd c (by decide), fun _ => ⟨by simp [opR], rfl⟩, fun c => absurd c (by decide), fun c => absurd c (by decide), fun c => absurd c (by decide), fun c => absurd c (by decide)⟩
  · rw [show deed 5 = 3 from rfl]
    refine ⟨by decide, fun c => absurd c (by decide), fun c => absurd c (by decide), fun c => absurd c (by decide), fun _ => ⟨hb, fun q => ⟨q, ⟨by simp [opR, q], rfl⟩⟩, fun q => ⟨by simp [opR, q], rfl⟩⟩, fun c => absurd c (by decide), fun c => absurd c (by decide), fun c => absurd c (by decide)⟩
  · rw [show deed 6 = 5 from rfl]
    refine ⟨by decide, fun c => absurd c (by decide), fun c => absurd c (by decide), fun c => absurd c (by decide), fun c => absurd c (by decide), fun c => absurd c (by decide), fun _ => ⟨ha, hb, fun q => ⟨?_, rfl⟩, fun q => ⟨?_, rfl⟩⟩, fun c => absurd c (by decide)⟩
    · rw [show opR 6 a b = b by simp [opR]; omega]
    · rw [show opR 6 a b = a by simp [opR]; omega]
  · rw [show deed 7 = 6 from rfl]
    refine ⟨by decide, fun c => absurd c (by decide), fun c => absurd c (by decide), fun c => absurd c (by decide), fun c => absurd c (by decide), fun c => absurd c (by decide), fun c => absurd c (by decide), fun _ => ⟨ha, hb, fun q => ⟨?_, rfl⟩, fun q => ⟨?_, rfl⟩⟩⟩
    · rw [show opR 7 a b = b by simp [opR]; omega]
    · rw [show opR 7 a b = a by simp [opR]; omega]
  · rw [show deed 8 = 4 from rfl]
    refine ⟨by decide, fun c => absurd c (by decide), fun c => absurd c (by decide), fun c => absurd c (by decide), fun c => absurd c (by decide), fun _ => ⟨hb, fun q => ⟨q, ⟨by simp [opR, q], rfl⟩⟩, fun q => ⟨by simp [opR, q], rfl⟩⟩, fun c => absurd c (by decide), fun c => absurd c (by decide)⟩
theorem e_196 {k a b : Int} (hk : 2 ≤ k ∧ k ≤ 8) (ha : InR a) (hb : InR b) : EE X 0 196 [iv k, iv a, iv b] (mj J sw lg x) (.inl (some (iv (opF k a b)))) (mj J sw lg x) := by
  refine EE.of mt_196 (b_196_0 ?_)
  rw [iv_op]
  refine ⟨by omega, fun c2 => ⟨fun c3 => ⟨fun c4 => ⟨fun c5 => ⟨hb, fun q => ⟨fun z => absurd c5 z, fun _ => ⟨q, ⟨by simp [opR, c2, c3, c4, c5, q], rfl⟩⟩⟩, fun q => ⟨by simp [opR, c2, c3, c4, c5, q], rfl⟩⟩, fun c5 => ⟨fun c8 => ?_, fun c8 => ⟨hb, fun q => ⟨fun _ => ⟨q, ⟨by simp [opR, c2, c3, c4, c5, c8, q], rfl⟩⟩, fun z => absurd z c5⟩, fun q => ⟨by simp [opR, c2, c3, c4, c5, c8, q], rfl⟩⟩⟩⟩, fun c4 => ⟨by simp [opR, c2, c3, c4], rfl⟩⟩, fun c3 => ⟨by simp [opR, c2, c3], rfl⟩⟩, fun c2 => ⟨by simp [opR, c2], rfl⟩⟩
  refine ⟨ha, hb, fun q => ⟨fun c6 => ⟨?_, rfl⟩, fun c6 => ⟨?_, rfl⟩⟩, fun q => ⟨fun c6 => ⟨?_, rfl⟩, fun c6 => ⟨?_, rfl⟩⟩⟩
  · rw [show opR k a b = a by simp [opR, c2, c3, c4, c5, c8, c6]; omega]
  · rw [show opR k a b = b by simp [opR, c2, c3, c4, c5, c8, c6]; omega]
  · rw [show opR k a b = b by simp [opR, c2, c3, c4, c5, c8, c6]; omega]
  · rw [show opR k a b = a by simp [opR, c2, c3, c4, c5, c8, c6]; omega]
end LW
