/-! the small machine never takes back what it made -/
theorem m_step_mono {tx : List (List Int32)} {X : Nat × (Nat → Int32)} {op : mOp} {pc : Nat} {L : mL} {st : List Value} {M : mM} {c' : mC} (h : m_step tx X op pc L st M = some c') : c'.2.2.2.2.2.2 = M.2.2.2 ∨ ∃ kd n, c'.2.2.2.2.2.2 = (m_mk M kd n).2.2.2 := by
  obtain ⟨i, len, a, b⟩ := op
  cases i <;> simp only [m_step, reduceCtorEq] at h <;> (try simp only [m_i1, m_i2, m_l1, m_l2, m_r1, m_v1, m_jmp, m_br, m_arr, m_obj, m_len, m_new] at h) <;> (repeat' split at h) <;> first
    | (cases h; exact Or.inl rfl)
    | (cases h; exact Or.inr ⟨_, _, rfl⟩)
    | cases h
theorem m_run_s {P : List mMeth} {tx : List (List Int32)} {X : Nat × (Nat → Int32)} {n d y : Nat} {c : mC} {r : mR} (h : m_run P tx X (n + 1) d y c = some r) : ∃ m op, P[y]? = some m ∧ m.2.2.2.2.2.2.lookup c.1 = some op ∧
    ((m_ck op = 0 ∧ ∃ c1, m_step tx X op c.1 c.2.1 c.2.2.1 c.2.2.2 = some c1 ∧ m_run P tx X n d y c1 = some r) ∨
     (m_ck op = 1 ∧ ∃ v, m_ret m op c.2.2.1 = some v ∧ r = (.inl v, c.2.2.2)) ∨
     (m_ck op = 2 ∧ ∃ d1 m1 res, d = d1 + 1 ∧ P[op.2.2.1]? = some m1 ∧ m_call op m1 c.2.2.1 c.2.2.2 = true ∧ m_run P tx X n d1 op.2.2.1 (0, m_ent m1.2.2.1 (c.2.2.1.take op.2.2.2).reverse, [], c.2.2.2) = some res ∧
       ((∃ v, res.1 = .inl v ∧ m_run P tx X n (d1 + 1) y (c.1 + 3, c.2.1, v.toList ++ c.2.2.1.drop op.2.2.2, res.2) = some r) ∨
        (∃ k, res.1 = .inr k ∧ m_fixed op m1 = false ∧ m.2.2.2.2.2.1 = [] ∧ r = (.inr k, res.2)) ∨
        (∃ k t, res.1 = .inr k ∧ m_fixed op m1 = false ∧ m_hand m.2.2.2.2.2.1 c.1 k = some t ∧ m_run P tx X n (d1 + 1) y (t, List.replicate c.2.1.length none, [], res.2) = some r))) ∨
     (3 ≤ m_ck op ∧ c.2.2.1.length ≤ 8 ∧ r = (.inr (op.2.2.1 - 2000), m_thr c.2.2.2))) := by
  unfold m_run at h
  split at h
  · cases h
  · rename_i m hm
    split at h
    · cases h
    · rename_i op hop
      refine ⟨m, op, hm, hop, ?_⟩
      split at h
      · rename_i hk
        split at h
        · rename_i c1 hc1
          exact Or.inl ⟨hk, c1, hc1, h⟩
        · cases h
      · rename_i hk
        split at h
        · rename_i v hv
          cases h
          exact Or.inr (Or.inl ⟨hk, v, hv, rfl⟩)
        · cases h
      · rename_i hk
        split at h
        · cases h
        · rename_i d1
          split at h
          · cases h
          · rename_i m1 hm1
            split at h
            · rename_i hcall
              refine Or.inr (Or.inr (Or.inl ⟨hk, d1, m1, ?_⟩))
              split at h
              · rename_i v M1 hres
                exact ⟨_, rfl, hm1, hcall, hres, Or.inl ⟨v, rfl, h⟩⟩
              · rename_i k M1 hres
                split at h
                · cases h
                · rename_i hfx
                  have hfx : m_fixed op m1 = false := by simpa using hfx
                  split at h
                  · rename_i hh
                    cases h
                    exact ⟨_, rfl, hm1, hcall, hres, Or.inr (Or.inl ⟨k, rfl, hfx, hh, rfl⟩)⟩
                  · rename_i h1 hh1 hh
                    split at h
                    · rename_i t ht
                      exact ⟨_, rfl, hm1, hcall, hres, Or.inr (Or.inr ⟨k, t, rfl, hfx, by rw [hh]; exact ht, h⟩)⟩
                    · cases h
              · cases h
            · cases h
      · rename_i h0 h1 h2
        have a1 : ¬ m_ck op = 0 := h0
        have a2 : ¬ m_ck op = 1 := h1
        have a3 : ¬ m_ck op = 2 := h2
        split at h
        · rename_i hlen
          cases h
          exact Or.inr (Or.inr (Or.inr ⟨by omega, hlen, rfl⟩))
        · cases h
theorem m_run_mono {P : List mMeth} {tx : List (List Int32)} {X : Nat × (Nat → Int32)} : ∀ (n d y : Nat) (c : mC) (r : mR), m_run P tx X n d y c = some r → m_ncell c.2.2.2 ≤ m_ncell r.2 ∧ m_nslot c.2.2.2 ≤ m_nslot r.2 ∧ c.2.2.2.2.2.2.2 ≤ r.2.2.2.2.2 := by
  intro n
  induction n with
  | zero => intro d y c r h; simp [m_run] at h
  | succ n ih =>
    intro d y c r h
    obtain ⟨m, op, -, -, h | h | h | h⟩ := m_run_s h
    · obtain ⟨-, c1, h1, h2⟩ := h
      have := ih _ _ _ _ h2
      rcases m_step_mono h1 with e | ⟨kd, k, e⟩
      · unfold m_ncell m_nslot at this ⊢
        rw [e] at this
        exact this
      · have e1 : m_ncell c1.2.2.2 = m_ncell c.2.2.2 + 1 := by rw [← m_ncell_mk (M := c.2.2.2) (kd := kd) (n := k)]; unfold m_ncell; rw [e]
        have e2 : m_nslot c1.2.2.2 = m_nslot c.2.2.2 + k := by rw [← m_nslot_mk (M := c.2.2.2) (kd := kd) (n := k)]; unfold m_nslot; rw [e]
        have e3 : c1.2.2.2.2.2.2.2 = c.2.2.2.2.2.2.2 := by rw [e]; rfl
        omega
    · obtain ⟨-, v, -, rfl⟩ := h
      exact ⟨Nat.le_refl _, Nat.le_refl _, Nat.le_refl _⟩
    · obtain ⟨-, d1, m1, res, -, -, -, h1, h | h | h⟩ := h
      · obtain ⟨v, -, h2⟩ := h
        have a1 := ih _ _ _ _ h1
        have a2 := ih _ _ _ _ h2
        exact ⟨Nat.le_trans a1.1 a2.1, Nat.le_trans a1.2.1 a2.2.1, Nat.le_trans a1.2.2 a2.2.2⟩
      · obtain ⟨k, -, -, -, rfl⟩ := h
        have a1 := ih _ _ _ _ h1
        exact a1
      · obtain ⟨k, t, -, -, -, h2⟩ := h
        have a1 := ih _ _ _ _ h1
        have a2 := ih _ _ _ _ h2
        exact ⟨Nat.le_trans a1.1 a2.1, Nat.le_trans a1.2.1 a2.2.1, Nat.le_trans a1.2.2 a2.2.2⟩
    · obtain ⟨-, -, rfl⟩ := h
      unfold m_ncell m_nslot m_thr
      dsimp only
      omega
