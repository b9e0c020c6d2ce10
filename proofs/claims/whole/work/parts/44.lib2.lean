/-! rows copied, rows of objects, long quotients; more about bits -/
theorem row_na {α : Type} {f : Nat → Nat → α} {a a' k : Nat} {g : Nat → α} (h : a' ≠ a) : m_row f a g a' k = f a' k := by simp [m_row, h]
theorem row_r {α : Type} {f : Nat → Nat → α} {a a' : Nat} {g : Nat → α} (h : a' ≠ a) : m_row f a g a' = f a' := funext fun _ => row_na h
theorem row_e {α : Type} {f : Nat → Nat → α} {a k : Nat} {g : Nat → α} : m_row f a g a k = g k := by simp [m_row]
theorem cp_at {α : Type} {f g : Nat → α} {n k : Nat} (h : k < n) : va_cpy f g 0 0 n k = f k := by
  unfold va_cpy
  rw [if_pos (by omega), show 0 + (k - 0) = k by omega]
theorem toNat16 {e : Int} (h : 0 ≤ e ∧ e < 16) : e.toNat < 16 := by omega
theorem gP {sw : Bool × Bool × Bool} {a : Nat} {e : Int} (h : SH[a]? = some (9, 2)) (hi : 0 ≤ e ∧ e < 16) : GR sw (a + 1) e.toNat = some (a + 1 + (1 + 7 * e.toNat)) := by
  have h1 := (shP a (SH_lt h) h).1
  have h2 : ¬ a + 1 = 171 := by
    intro q
    have q2 : a = 170 := by omega
    rw [q2, c_170] at h
    cases h
  unfold GR
  rw [h1]
  show (if e.toNat < 16 then some (if a + 1 = 171 then 173 + 121 * e.toNat else a + 1 + (1 + 7 * e.toNat)) else none) = _
  rw [if_pos (by omega), if_neg h2]
theorem gI {sw : Bool × Bool × Bool} {e : Int} (hi : 0 ≤ e ∧ e < 3) : GR sw 171 e.toNat = some (173 + 121 * e.toNat) ∧ GR sw 172 e.toNat = some (180 + 121 * e.toNat) := by
  constructor
  · unfold GR
    rw [c_171]
    show (if e.toNat < 3 then some (if 171 = 171 then 173 + 121 * e.toNat else 171 + (1 + 7 * e.toNat)) else none) = _
    rw [if_pos (by omega), if_pos rfl]
  · unfold GR
    rw [c_172]
    show (if e.toNat < 3 then some (180 + 121 * e.toNat) else none) = _
    rw [if_pos (by omega)]
set_option maxRecDepth 100000 in
theorem shI0 : ∀ n, n < 3 → SH[173 + 121 * n]? = some (11, 9) ∧ SH[180 + 121 * n]? = some (9, 2) := by decide +kernel
theorem shI {e : Int} (hi : 0 ≤ e ∧ e < 3) : SH[173 + 121 * e.toNat]? = some (11, 9) ∧ SH[180 + 121 * e.toNat]? = some (9, 2) := shI0 _ (by omega)
section L2
variable {X : Nat × (Nat → Int32)} {d y pc : Nat} {L : mL} {st : List Value} {K : (Option Value ⊕ Nat) → mM → Prop} {mm : mMeth} {J : Nat → Nat → Int} {sw : Bool × Bool × Bool} {lg : Nat → Nat → Int64} {x l a0 b0 a n : Nat} {e w : Int} {M : mM}
theorem j_aal {kd w : Nat} (hm : mP[y]? = some mm) (ho : mm.2.2.2.2.2.2.lookup pc = some (.aaload, l, kd, b0)) (hkd : kd = 3 ∨ kd = 4) (hA : SH[a]? = some (kd, n)) (hi : 0 ≤ e ∧ e < (n : Int)) (hn : n ≤ 2147483648) (hG : GR sw a e.toNat = some w) (h : VV X d y (pc + 1, L, .ref w :: st, mj J sw lg x) K) : VV X d y (pc, L, iv e :: .ref a :: st, mj J sw lg x) K :=
  v_aal hm ho hkd hA (inC hi hn).1 (by rw [(inC hi hn).2]; exact hG) h
theorem j_ldv {p q : Int64} (hm : mP[y]? = some mm) (ho : mm.2.2.2.2.2.2.lookup pc = some (.ldiv, l, a0, b0)) (hq : ¬ q = 0) (h : VV X d y (pc + 1, L, .long (p / q) :: st, M) K) : VV X d y (pc, L, .long q :: .long p :: st, M) K := by
  refine v_s hm ho rfl ?_ h
  simp only [m_step, m_l2]
  rw [if_neg hq]
theorem j_lrm {p q : Int64} (hm : mP[y]? = some mm) (ho : mm.2.2.2.2.2.2.lookup pc = some (.lrem, l, a0, b0)) (hq : ¬ q = 0) (h : VV X d y (pc + 1, L, .long (p - p / q * q) :: st, M) K) : VV X d y (pc, L, .long q :: .long p :: st, M) K := by
  refine v_s hm ho rfl ?_ h
  simp only [m_step, m_l2]
  rw [if_neg hq]
end L2
/-- two states lie apart -/
theorem sh_apart {a b : Nat} (h0 : SH[a]? = some (11, 9)) (h1 : SH[b]? = some (11, 9)) (hne : a ≠ b) : a + 6 < b ∨ b + 6 < a := by
  have key : ∀ a b : Nat, SH[a]? = some (11, 9) → SH[b]? = some (11, 9) → a < b → a + 6 < b := by
    intro a b h0 h1 hl
    have hs := shS a (SH_lt h0) h0
    rcases Nat.lt_or_ge (a + 6) b with q | q
    · exact q
    · exfalso
      have : b = a + 1 ∨ b = a + 2 ∨ b = a + 3 ∨ b = a + 4 ∨ b = a + 5 ∨ b = a + 6 := by omega
      rcases this with rfl | rfl | rfl | rfl | rfl | rfl
      · rw [hs.1] at h1; cases h1
      · rw [hs.2.1] at h1; cases h1
      · rw [hs.2.2.1] at h1; cases h1
      · rw [hs.2.2.2.1] at h1; cases h1
      · rw [hs.2.2.2.2.1] at h1; cases h1
      · rw [hs.2.2.2.2.2] at h1; cases h1
  rcases Nat.lt_or_ge a b with q | q
  · exact Or.inl (key a b h0 h1 q)
  · exact Or.inr (key b a h1 h0 (by omega))
/-- numbers brought into range -/
def nrm (J : Nat → Nat → Int) : Nat → Nat → Int := fun a k => wr (J a k)
theorem nrm_mj (J : Nat → Nat → Int) (sw : Bool × Bool × Bool) (lg : Nat → Nat → Int64) (x : Nat) : mj (nrm J) sw lg x = mj J sw lg x := by
  show mk (JJ (nrm J)) sw lg x = mk (JJ J) sw lg x
  have : JJ (nrm J) = JJ J := by
    funext a k
    simp only [JJ, nrm, wr, Int32.ofInt_toInt]
  rw [this]
theorem wr_in (e : Int) : InR (wr e) := inT _
theorem wr_id {e : Int} (h : InR e) : wr e = e := toI_ofI h
