/-! questions that only look: sums, sets, the greatest -/
section QA
variable {X : Nat × (Nat → Int32)} {J : Nat → Nat → Int} {sw : Bool × Bool × Bool} {lg : Nat → Nat → Int64} {x r0 r1 n : Nat} {f g : Nat → Int}
theorem e_61 (h0 : SH[r0]? = some (11, 9)) (h1 : SH[r1]? = some (14, 12)) (hn : J r1 2 = (n : Int)) (h9 : n ≤ 9) (hf : ∀ p, p < n → J (r0 + 5) p = f p) : EE X 0 61 [.ref r0, .ref r1] (mj J sw lg x) (.inl (some (iv (sumF f n)))) (mj J sw lg x) := by
  refine EE.of mt_61 (b_61_0 h0 h1 ?_)
  refine lp (P := fun k => VV X 0 61 (4, [some (.ref r0), some (.ref r1), some (iv (sumF f k)), some (iv k)], [], mj J sw lg x) _) n ?_ ?_ 0 (Nat.zero_le _)
  · exact b_61_4 h0 h1 ⟨by omega, by omega, fun _ => ⟨rfl, rfl⟩, fun c => by omega⟩
  · intro k hk ih
    refine b_61_4 h0 h1 ⟨by omega, by omega, fun c => by omega, fun c => ⟨by omega, ?_⟩⟩
    have e : J (r0 + 5) (k : Int).toNat = f k := hf k hk
    rw [e]; exact ih
theorem e_62 (h0 : SH[r0]? = some (11, 9)) (h1 : SH[r1]? = some (14, 12)) (hn : J r1 2 = (n : Int)) (h9 : n ≤ 9) (hf : ∀ p, p < n → J (r0 + 6) p = f p) : EE X 0 62 [.ref r0, .ref r1] (mj J sw lg x) (.inl (some (iv (sumF f n)))) (mj J sw lg x) := by
  refine EE.of mt_62 (b_62_0 h0 h1 ?_)
  refine lp (P := fun k => VV X 0 62 (4, [some (.ref r0), some (.ref r1), some (iv (sumF f k)), some (iv k)], [], mj J sw lg x) _) n ?_ ?_ 0 (Nat.zero_le _)
  · exact b_62_4 h0 h1 ⟨by omega, by omega, fun _ => ⟨rfl, rfl⟩, fun c => by omega⟩
  · intro k hk ih
    refine b_62_4 h0 h1 ⟨by omega, by omega, fun c => by omega, fun c => ⟨by omega, ?_⟩⟩
    have e : J (r0 + 6) (k : Int).toNat = f k := hf k hk
    rw [e]; exact ih
theorem e_220 {o : Nat} (hn : J 542 26 = (n : Int)) (h9 : n ≤ 9) (ho : o ≤ 41) (hf : ∀ p, p < n → J 562 (o + p) = f p) : EE X 0 220 [.ref 542, iv (o : Int)] (mj J sw lg x) (.inl (some (iv (sumF f n)))) (mj J sw lg x) := by
  refine EE.of mt_220 (b_220_0 ?_)
  refine lp (P := fun k => VV X 0 220 (4, [some (.ref 542), some (iv (o : Int)), some (iv (sumF f k)), some (iv k)], [], mj J sw lg x) _) n ?_ ?_ 0 (Nat.zero_le _)
  · exact b_220_4 ⟨by omega, by omega, fun _ => ⟨rfl, rfl⟩, fun c => by omega⟩
  · intro k hk ih
    refine b_220_4 ⟨by omega, by omega, fun c => by omega, fun c => ⟨by omega, ?_⟩⟩
    have e : J 562 ((o : Int) + (k : Int)).toNat = f k := hf k hk
    rw [e]; exact ih
theorem e_63 (h0 : SH[r0]? = some (11, 9)) (h1 : SH[r1]? = some (14, 12)) (hn : J r1 2 = (n : Int)) (h9 : n ≤ 9) (hf : ∀ p, p < n → J (r0 + 5) p = f p) (hr : ∀ p, p < n → InR (f p)) : EE X 0 63 [.ref r0, .ref r1] (mj J sw lg x) (.inl (some (iv (bitF (fun p => decide (0 < f p)) n)))) (mj J sw lg x) := by
  refine EE.of mt_63 (b_63_0 h0 h1 ?_)
  refine lp (P := fun k => VV X 0 63 (4, [some (.ref r0), some (.ref r1), some (iv (bitF (fun p => decide (0 < f p)) k)), some (iv k)], [], mj J sw lg x) _) n ?_ ?_ 0 (Nat.zero_le _)
  · exact b_63_4 h0 h1 ⟨by omega, by omega, fun _ => ⟨rfl, rfl⟩, fun c => by omega⟩
  · intro k hk ih
    have e : J (r0 + 5) (k : Int).toNat = f k := hf k hk
    have e2 := hr k hk
    refine b_63_4 h0 h1 ⟨by omega, by omega, fun c => by omega, fun c => ⟨by omega, ?_⟩⟩
    rw [e]
    refine ⟨e2, fun q => ?_, fun q => ?_⟩
    · rw [bitF_n (by simp; omega)] at ih; exact ih
    · rw [bitF_y (by omega) (by simpa using q)]; exact ih
theorem e_244 (hn : J 542 26 = (n : Int)) (h9 : n ≤ 9) (hf : ∀ p, p < n → J 561 (30 + p) = f p) (hr : ∀ p, p < n → InR (f p)) : EE X 0 244 [.ref 542] (mj J sw lg x) (.inl (some (iv (bitF (fun p => decide (0 < f p)) n)))) (mj J sw lg x) := by
  refine EE.of mt_244 (b_244_0 ?_)
  refine lp (P := fun k => VV X 0 244 (4, [some (.ref 542), some (iv (bitF (fun p => decide (0 < f p)) k)), some (iv k)], [], mj J sw lg x) _) n ?_ ?_ 0 (Nat.zero_le _)
  · exact b_244_4 ⟨by omega, by omega, fun _ => ⟨rfl, rfl⟩, fun c => by omega⟩
  · intro k hk ih
    have e : J 561 (30 + (k : Int)).toNat = f k := hf k hk
    have e2 := hr k hk
    refine b_244_4 ⟨by omega, by omega, fun c => by omega, fun c => ⟨by omega, ?_⟩⟩
    rw [e]
    refine ⟨e2, fun q => ?_, fun q => ?_⟩
    · rw [bitF_z (by omega) (by simp; omega)]; exact ih
    · rw [bitF_y (by omega) (by simpa using q)]; exact ih
theorem e_235 (hn : J 542 26 = (n : Int)) (h9 : n ≤ 9) (hf : ∀ p, p < n → J 562 (30 + p) = f p) (hr : ∀ p, p < n → InR (f p)) : EE X 0 235 [.ref 542] (mj J sw lg x) (.inl (some (iv (bitF (fun p => decide (f p = 0)) n)))) (mj J sw lg x) := by
  refine EE.of mt_235 (b_235_0 ?_)
  refine lp (P := fun k => VV X 0 235 (4, [some (.ref 542), some (iv (bitF (fun p => decide (f p = 0)) k)), some (iv k)], [], mj J sw lg x) _) n ?_ ?_ 0 (Nat.zero_le _)
  · exact b_235_4 ⟨by omega, by omega, fun _ => ⟨rfl, rfl⟩, fun c => by omega⟩
  · intro k hk ih
    have e : J 562 (30 + (k : Int)).toNat = f k := hf k hk
    have e2 := hr k hk
    refine b_235_4 ⟨by omega, by omega, fun c => by omega, fun c => ⟨by omega, ?_⟩⟩
    rw [e]
    refine ⟨e2, fun q => ?_, fun q => ?_⟩
    · rw [bitF_z (by omega) (by simpa using q)]; exact ih
    · rw [bitF_y (by omega) (by simpa using q)]; exact ih
theorem e_65 (h0 : SH[r0]? = some (11, 9)) (h1 : SH[r1]? = some (14, 12)) (hn : J r1 0 = (n : Int)) (h9 : n ≤ 6) (hf : ∀ p, p < n → J (r0 + 1) p = f p) (hg : ∀ p, p < n → J (r1 + 1) p = g p) (hr : ∀ p, p < n → InR (f p) ∧ InR (g p)) : EE X 1 65 [.ref r0, .ref r1] (mj J sw lg x) (.inl (some (iv (bitF (fun p => decide (g p ≤ f p)) n)))) (mj J sw lg x) := by
  refine EE.of mt_65 (b_65_0 h0 h1 (by omega) ?_)
  refine lp (P := fun k => VV X 1 65 (4, [some (.ref r0), some (.ref r1), some (iv (bitF (fun p => decide (g p ≤ f p)) k)), some (iv k)], [], mj J sw lg x) _) n ?_ ?_ 0 (Nat.zero_le _)
  · exact b_65_4 h0 h1 (by omega) ⟨by omega, by omega, fun _ => ⟨rfl, rfl⟩, fun c => by omega⟩
  · intro k hk ih
    have e : J (r0 + 1) (k : Int).toNat = f k := hf k hk
    have e1 : J (r1 + 1) (k : Int).toNat = g k := hg k hk
    have e2 := hr k hk
    refine b_65_4 h0 h1 (by omega) ⟨by omega, by omega, fun c => by omega, fun c => ⟨by omega, ?_⟩⟩
    rw [e, e1]
    refine ⟨e2.1, e2.2, fun q => ?_, fun q => ?_⟩
    · rw [bitF_n (by simp; omega)] at ih; exact ih
    · rw [bitF_y (by omega) (by simpa using q)]; exact ih
theorem e_221 (hn : J 542 24 = (n : Int)) (h9 : n ≤ 6) (hf : ∀ p, p < n → J 562 p = f p) (hg : ∀ p, p < n → J 549 p = g p) (hr : ∀ p, p < n → InR (f p) ∧ InR (g p)) : EE X 1 221 [.ref 542] (mj J sw lg x) (.inl (some (iv (bitF (fun p => decide (g p ≤ f p)) n)))) (mj J sw lg x) := by
  refine EE.of mt_221 (b_221_0 (by omega) ?_)
  refine lp (P := fun k => VV X 1 221 (4, [some (.ref 542), some (iv (bitF (fun p => decide (g p ≤ f p)) k)), some (iv k)], [], mj J sw lg x) _) n ?_ ?_ 0 (Nat.zero_le _)
  · exact b_221_4 (by omega) ⟨by omega, by omega, fun _ => ⟨rfl, rfl⟩, fun c => by omega⟩
  · intro k hk ih
    have e : J 562 (k : Int).toNat = f k := hf k hk
    have e1 : J 549 (k : Int).toNat = g k := hg k hk
    have e2 := hr k hk
    refine b_221_4 (by omega) ⟨by omega, by omega, fun c => by omega, fun c => ⟨by omega, by omega, ?_⟩⟩
    rw [e, e1]
    refine ⟨e2.1, e2.2, fun q => ?_, fun q => ?_⟩
    · rw [bitF_z (by omega) (by simp; omega)]; exact ih
    · rw [bitF_y (by omega) (by simpa using q)]; exact ih
theorem e_66 (h0 : SH[r0]? = some (11, 9)) (h1 : SH[r1]? = some (14, 12)) (hn : J r1 0 = (n : Int)) (h9 : n ≤ 6) (hf : ∀ p, p < n → J (r0 + 3) p = f p) (hr : ∀ p, p < n → InR (f p)) : EE X 0 66 [.ref r0, .ref r1] (mj J sw lg x) (.inl (some (iv (bitF (fun p => decide (¬ f p = -1)) n)))) (mj J sw lg x) := by
  refine EE.of mt_66 (b_66_0 h0 h1 ?_)
  refine lp (P := fun k => VV X 0 66 (4, [some (.ref r0), some (.ref r1), some (iv (bitF (fun p => decide (¬ f p = -1)) k)), some (iv k)], [], mj J sw lg x) _) n ?_ ?_ 0 (Nat.zero_le _)
  · exact b_66_4 h0 h1 ⟨by omega, by omega, fun _ => ⟨rfl, rfl⟩, fun c => by omega⟩
  · intro k hk ih
    have e : J (r0 + 3) (k : Int).toNat = f k := hf k hk
    have e2 := hr k hk
    refine b_66_4 h0 h1 ⟨by omega, by omega, fun c => by omega, fun c => ⟨by omega, ?_⟩⟩
    rw [e]
    refine ⟨e2, fun q => ?_, fun q => ?_⟩
    · rw [bitF_n (by simpa using q)] at ih; exact ih
    · rw [bitF_y (by omega) (by simpa using q)]; exact ih
theorem e_67 {t : Int} (h0 : SH[r0]? = some (11, 9)) (h1 : SH[r1]? = some (14, 12)) (ht : InR t) (hn : J r1 0 = (n : Int)) (h9 : n ≤ 6) (hf : ∀ p, p < n → J (r0 + 3) p = f p) (hr : ∀ p, p < n → InR (f p)) : EE X 0 67 [.ref r0, .ref r1, iv t] (mj J sw lg x) (.inl (some (iv (bitF (fun p => decide (f p = t)) n)))) (mj J sw lg x) := by
  refine EE.of mt_67 (b_67_0 h0 h1 ?_)
  refine lp (P := fun k => VV X 0 67 (5, [some (.ref r0), some (.ref r1), some (iv t), some (iv (bitF (fun p => decide (f p = t)) k)), some (iv k)], [], mj J sw lg x) _) n ?_ ?_ 0 (Nat.zero_le _)
  · exact b_67_5 h0 h1 ⟨by omega, by omega, fun _ => ⟨rfl, rfl⟩, fun c => by omega⟩
  · intro k hk ih
    have e : J (r0 + 3) (k : Int).toNat = f k := hf k hk
    have e2 := hr k hk
    refine b_67_5 h0 h1 ⟨by omega, by omega, fun c => by omega, fun c => ⟨by omega, ?_⟩⟩
    rw [e]
    refine ⟨e2, ht, fun q => ?_, fun q => ?_⟩
    · rw [bitF_n (by simpa using q)] at ih; exact ih
    · rw [bitF_y (by omega) (by simpa using q)]; exact ih
theorem e_222 {t : Int} (ht : InR t) (hn : J 542 24 = (n : Int)) (h9 : n ≤ 6) (hf : ∀ p, p < n → J 562 (12 + p) = f p) (hr : ∀ p, p < n → InR (f p)) : EE X 0 222 [.ref 542, iv t] (mj J sw lg x) (.inl (some (iv (bitF (fun p => decide (¬ f p = -1 ∧ (t = -1 ∨ f p = t))) n)))) (mj J sw lg x) := by
  refine EE.of mt_222 (b_222_0 ?_)
  refine lp (P := fun k => VV X 0 222 (4, [some (.ref 542), some (iv t), some (iv (bitF (fun p => decide (¬ f p = -1 ∧ (t = -1 ∨ f p = t))) k)), some (iv k)], [], mj J sw lg x) _) n ?_ ?_ 0 (Nat.zero_le _)
  · exact b_222_4 ⟨by omega, by omega, fun _ => ⟨rfl, rfl⟩, fun c => by omega⟩
  · intro k hk ih
    have e : J 562 (12 + (k : Int)).toNat = f k := hf k hk
    have e2 := hr k hk
    refine b_222_4 ⟨by omega, by omega, fun c => by omega, fun c => ⟨by omega, ?_⟩⟩
    rw [e]
    refine ⟨e2, fun q => ?_, fun q => ⟨ht, fun q2 => ?_, fun q2 => ⟨fun q3 => ?_, fun q3 => ?_⟩⟩⟩
    · rw [bitF_z (by omega) (by simp; intro z; omega)]; exact ih
    · rw [bitF_y (by omega) (by simp; omega)]; exact ih
    · rw [bitF_z (by omega) (by simp; intro z; omega)]; exact ih
    · rw [bitF_y (by omega) (by simp; omega)]; exact ih
theorem e_60 (h0 : SH[r0]? = some (11, 9)) (h1 : SH[r1]? = some (14, 12)) (hn : J r1 2 = (n : Int)) (h9 : n ≤ 9) (hf : ∀ p, p < n → J (r0 + 6) p = f p) (hr : ∀ p, p < n → 0 ≤ f p ∧ f p ≤ 99) : EE X 0 60 [.ref r0, .ref r1] (mj J sw lg x) (.inl (some (iv (mostF (fun _ => true) f n).1))) (mj J sw lg x) := by
  refine EE.of mt_60 (b_60_0 h0 h1 ?_)
  have hb : ∀ k, k ≤ n → InR (mostF (fun _ => true) f k).2 := by
    intro k
    induction k with
    | zero => intro _; show InR 0; exact ⟨by decide, by decide⟩
    | succ k ih => intro hk; unfold mostF; have := ih (by omega); have := hr k (by omega); split <;> omega
  refine lp (P := fun k => VV X 0 60 (7, [some (.ref r0), some (.ref r1), some (iv (mostF (fun _ => true) f k).1), some (iv (mostF (fun _ => true) f k).2), some (iv k)], [], mj J sw lg x) _) n ?_ ?_ 0 (Nat.zero_le _)
  · exact b_60_7 h0 h1 ⟨by omega, by omega, fun _ => ⟨rfl, rfl⟩, fun c => by omega⟩
  · intro k hk ih
    have e : J (r0 + 6) (k : Int).toNat = f k := hf k hk
    have e2 := hr k hk
    refine b_60_7 h0 h1 ⟨by omega, by omega, fun c => by omega, fun c => ⟨by omega, ?_⟩⟩
    rw [e]
    refine ⟨by omega, hb k (by omega), fun q => ?_, fun q => ?_⟩
    · rw [mostF, if_neg (by omega)] at ih; exact ih
    · rw [mostF, if_pos ⟨rfl, q⟩] at ih; exact ih
theorem e_262 {o : Nat} (ho : o ≤ 41) (hn : J 542 26 = (n : Int)) (h9 : n ≤ 9) (hf : ∀ p, p < n → J 561 (o + p) = f p) (hr : ∀ p, p < n → 0 ≤ f p ∧ f p ≤ 99) : EE X 0 262 [.ref 542, iv (o : Int)] (mj J sw lg x) (.inl (some (iv (mostF (fun _ => true) f n).1))) (mj J sw lg x) := by
  refine EE.of mt_262 (b_262_0 ?_)
  have hb : ∀ k, k ≤ n → InR (mostF (fun _ => true) f k).2 := by
    intro k
    induction k with
    | zero => intro _; show InR 0; exact ⟨by decide, by decide⟩
    | succ k ih => intro hk; unfold mostF; have := ih (by omega); have := hr k (by omega); split <;> omega
  refine lp (P := fun k => VV X 0 262 (7, [some (.ref 542), some (iv (o : Int)), some (iv (mostF (fun _ => true) f k).1), some (iv (mostF (fun _ => true) f k).2), some (iv k)], [], mj J sw lg x) _) n ?_ ?_ 0 (Nat.zero_le _)
  · exact b_262_7 ⟨by omega, by omega, fun _ => ⟨rfl, rfl⟩, fun c => by omega⟩
  · intro k hk ih
    have e : J 561 ((o : Int) + (k : Int)).toNat = f k := hf k hk
    have e2 := hr k hk
    refine b_262_7 ⟨by omega, by omega, fun c => by omega, fun c => ⟨by omega, ?_⟩⟩
    rw [e]
    refine ⟨by omega, hb k (by omega), fun q => ?_, fun q => ?_⟩
    · rw [mostF, if_pos ⟨rfl, q⟩] at ih; exact ih
    · rw [mostF, if_neg (by omega)] at ih; exact ih
theorem e_59 {t : Nat} (h0 : SH[r0]? = some (11, 9)) (h1 : SH[r1]? = some (14, 12)) (ht : t < 2147483648) (hn : J r1 2 = (n : Int)) (h9 : n ≤ 9) (hf : ∀ p, p < n → J (r0 + 5) p = f p) (hr : ∀ p, p < n → 0 ≤ f p ∧ f p ≤ 99) : EE X 0 59 [.ref r0, .ref r1, iv (t : Int)] (mj J sw lg x) (.inl (some (iv (mostF t.testBit f n).1))) (mj J sw lg x) := by
  refine EE.of mt_59 (b_59_0 h0 h1 ?_)
  have hb : ∀ k, k ≤ n → InR (mostF t.testBit f k).2 := by
    intro k
    induction k with
    | zero => intro _; show InR 0; exact ⟨by decide, by decide⟩
    | succ k ih => intro hk; unfold mostF; have := ih (by omega); have := hr k (by omega); split <;> omega
  refine lp (P := fun k => VV X 0 59 (8, [some (.ref r0), some (.ref r1), some (iv (t : Int)), some (iv (mostF t.testBit f k).1), some (iv (mostF t.testBit f k).2), some (iv k)], [], mj J sw lg x) _) n ?_ ?_ 0 (Nat.zero_le _)
  · exact b_59_8 h0 h1 ⟨by omega, by omega, fun _ => ⟨rfl, rfl⟩, fun c => by omega⟩
  · intro k hk ih
    have e : J (r0 + 5) (k : Int).toNat = f k := hf k hk
    have e2 := hr k hk
    refine b_59_8 h0 h1 ⟨by omega, by omega, fun c => by omega, fun c => ?_⟩
    rw [q_bit ht (by omega), e]
    refine ⟨fun q => ?_, fun q => ⟨by omega, by omega, hb k (by omega), fun q2 => ?_, fun q2 => ?_⟩⟩
    · rw [mostF, if_neg (by intro z; rw [if_pos z.1] at q; omega)] at ih; exact ih
    · rw [mostF, if_neg (by omega)] at ih; exact ih
    · rw [mostF, if_pos ⟨by
        cases z : t.testBit k
        · rw [z] at q; exact absurd rfl q
        · rfl, q2⟩] at ih; exact ih
/-- the holes that hang with hole p, out of the rows of paths -/
def nearF (g : Nat → Int) (p : Int) : Nat → Nat
  | 0 => 0
  | k + 1 => (nearF g p k ||| (if g (2 * k) = p then 2 ^ (g (2 * k + 1)).toNat else 0)) ||| (if g (2 * k + 1) = p then 2 ^ (g (2 * k)).toNat else 0)
theorem nearF_lt {g : Nat → Int} {p : Int} {h : Nat} : ∀ {k : Nat}, (∀ i, i < k → 0 ≤ g (2 * i) ∧ g (2 * i) < h ∧ 0 ≤ g (2 * i + 1) ∧ g (2 * i + 1) < h) → nearF g p k < 2 ^ h
  | 0, _ => Nat.two_pow_pos h
  | k + 1, H => by
    have ih := nearF_lt (p := p) (fun i hi => H i (by omega) : ∀ i, i < k → _)
    have hk := H k (by omega)
    unfold nearF
    have a1 : (2 : Nat) ^ (g (2 * k + 1)).toNat < 2 ^ h := Nat.pow_lt_pow_right (by decide) (by omega)
    have a2 : (2 : Nat) ^ (g (2 * k)).toNat < 2 ^ h := Nat.pow_lt_pow_right (by decide) (by omega)
    have a3 : 0 < 2 ^ h := Nat.two_pow_pos h
    refine or_lt (or_lt ih ?_) ?_ <;> split <;> assumption
theorem e_205 {p : Int} {h : Nat} (hp : InR p) (hh : h ≤ 9) (hn : J 542 27 = (n : Int)) (h9 : n ≤ 14) (hg : ∀ i, i < 28 → J 552 i = g i) (hr : ∀ i, i < n → 0 ≤ g (2 * i) ∧ g (2 * i) < h ∧ 0 ≤ g (2 * i + 1) ∧ g (2 * i + 1) < h) : EE X 0 205 [.ref 542, iv p] (mj J sw lg x) (.inl (some (iv (nearF g p n)))) (mj J sw lg x) := by
  refine EE.of mt_205 (b_205_0 ?_)
  refine lp (P := fun k => VV X 0 205 (4, [some (.ref 542), some (iv p), some (iv (nearF g p k)), some (iv k)], [], mj J sw lg x) _) n ?_ ?_ 0 (Nat.zero_le _)
  · exact b_205_4 ⟨by omega, by omega, fun _ => ⟨rfl, rfl⟩, fun c => by omega⟩
  · intro k hk ih
    have e : J 552 (2 * (k : Int)).toNat = g (2 * k) := hg (2 * k) (by omega)
    have e1 : J 552 (2 * (k : Int) + 1).toNat = g (2 * k + 1) := hg (2 * k + 1) (by omega)
    have e2 := hr k hk
    have b0 : nearF g p k < 2 ^ h := nearF_lt (fun i hi => hr i (by omega))
    have b1 : (2 : Nat) ^ (g (2 * k + 1)).toNat < 2 ^ h := Nat.pow_lt_pow_right (by decide) (by omega)
    have b2 : (2 : Nat) ^ (g (2 * k)).toNat < 2 ^ h := Nat.pow_lt_pow_right (by decide) (by omega)
    have b3 : 2 ^ h ≤ 2147483648 := show 2 ^ h ≤ 2 ^ 31 from Nat.pow_le_pow_right (by decide) (by omega)
    have s1 : bShl 1 (g (2 * k + 1)) = ((2 ^ (g (2 * k + 1)).toNat : Nat) : Int) := by
      have := q_shl (g (2 * k + 1)).toNat (by omega)
      rw [Int.toNat_of_nonneg (by omega)] at this; exact this
    have s2 : bShl 1 (g (2 * k)) = ((2 ^ (g (2 * k)).toNat : Nat) : Int) := by
      have := q_shl (g (2 * k)).toNat (by omega)
      rw [Int.toNat_of_nonneg (by omega)] at this; exact this
    refine b_205_4 ⟨by omega, by omega, fun c => by omega, fun c => ⟨by omega, ?_⟩⟩
    rw [e, e1, s1, s2]
    refine ⟨by omega, hp, fun q => ⟨by omega, by omega, fun q2 => ?_, fun q2 => ?_⟩, fun q => ⟨by omega, by omega, fun q2 => ?_, fun q2 => ?_⟩⟩
    · rw [nearF, if_neg q, if_neg q2, Nat.or_zero, Nat.or_zero] at ih; exact ih
    · rw [nearF, if_neg q, if_pos q2, Nat.or_zero] at ih; rw [q_or (by omega) (by omega)]; exact ih
    · rw [nearF, if_pos q, if_neg q2, Nat.or_zero] at ih; rw [q_or (by omega) (by omega)]; exact ih
    · rw [nearF, if_pos q, if_pos q2] at ih; rw [q_or (by omega) (by omega), q_or (show _ ||| _ < 2 ^ 31 from or_lt (by omega) (by omega)) (by omega)]; exact ih
end QA
