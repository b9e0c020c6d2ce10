/-! constants, stores into locals, calls of an object's methods; where the cells of a class lie -/
section Vr
variable {X : Nat × (Nat → Int32)} {d y pc : Nat} {L L' : mL} {st : List Value} {M : mM} {K : (Option Value ⊕ Nat) → mM → Prop} {mm : mMeth} {l a0 b0 : Nat}
theorem v_ic {n : Int} {v : Int32} (hm : mP[y]? = some mm) (ho : mm.2.2.2.2.2.2.lookup pc = some (.iconst n, l, a0, b0)) (hv : Int32.ofInt n = v) (h : VV X d y (pc + 1, L, .int v :: st, M) K) : VV X d y (pc, L, st, M) K := by subst hv; exact v_s hm ho rfl rfl h
theorem v_bp {n : Int} {v : Int32} (hm : mP[y]? = some mm) (ho : mm.2.2.2.2.2.2.lookup pc = some (.bipush n, l, a0, b0)) (hv : (Int8.ofInt n).toInt32 = v) (h : VV X d y (pc + 2, L, .int v :: st, M) K) : VV X d y (pc, L, st, M) K := by subst hv; exact v_s hm ho rfl rfl h
theorem v_sp {n : Int} {v : Int32} (hm : mP[y]? = some mm) (ho : mm.2.2.2.2.2.2.lookup pc = some (.sipush n, l, a0, b0)) (hv : (Int16.ofInt n).toInt32 = v) (h : VV X d y (pc + 3, L, .int v :: st, M) K) : VV X d y (pc, L, st, M) K := by subst hv; exact v_s hm ho rfl rfl h
theorem v_is {i : Nat} {v : Int32} (hm : mP[y]? = some mm) (ho : mm.2.2.2.2.2.2.lookup pc = some (.istore i, l, a0, b0)) (hi : i < L.length) (hL : m_set L i (.int v) = L') (h : VV X d y (pc + 2, L', st, M) K) : VV X d y (pc, L, .int v :: st, M) K := by
  subst hL
  refine v_s hm ho rfl ?_ h
  simp only [m_step, m_i1, if_pos hi]
theorem v_isn {i : Fin 4} {v : Int32} (hm : mP[y]? = some mm) (ho : mm.2.2.2.2.2.2.lookup pc = some (.istore_n i, l, a0, b0)) (hi : (i : Nat) < L.length) (hL : m_set L i (.int v) = L') (h : VV X d y (pc + 1, L', st, M) K) : VV X d y (pc, L, .int v :: st, M) K := by
  subst hL
  refine v_s hm ho rfl ?_ h
  simp only [m_step, m_i1, if_pos hi]
theorem v_rs {i a : Nat} (hm : mP[y]? = some mm) (ho : mm.2.2.2.2.2.2.lookup pc = some (.astore i, l, a0, b0)) (hi : i < L.length) (hL : m_set L i (.ref a) = L') (h : VV X d y (pc + 2, L', st, M) K) : VV X d y (pc, L, .ref a :: st, M) K := by
  subst hL
  refine v_s hm ho rfl ?_ h
  simp only [m_step, m_r1, if_pos hi]
theorem v_rsn {i : Fin 4} {a : Nat} (hm : mP[y]? = some mm) (ho : mm.2.2.2.2.2.2.lookup pc = some (.astore_n i, l, a0, b0)) (hi : (i : Nat) < L.length) (hL : m_set L i (.ref a) = L') (h : VV X d y (pc + 1, L', st, M) K) : VV X d y (pc, L, .ref a :: st, M) K := by
  subst hL
  refine v_s hm ho rfl ?_ h
  simp only [m_step, m_r1, if_pos hi]
theorem v_lst {i : Nat} {v : Int64} (hm : mP[y]? = some mm) (ho : mm.2.2.2.2.2.2.lookup pc = some (.lstore i, l, a0, b0)) (hi : i + 1 < L.length) (hL : m_setL L i (.long v) = L') (h : VV X d y (pc + 2, L', st, M) K) : VV X d y (pc, L, .long v :: st, M) K := by
  subst hL
  refine v_s hm ho rfl ?_ h
  simp only [m_step, m_l1, if_pos hi]
theorem v_inc {i : Nat} {n : Int} {u v : Int32} (hm : mP[y]? = some mm) (ho : mm.2.2.2.2.2.2.lookup pc = some (.iinc i n, l, a0, b0)) (hg : m_get L i = some (.int u)) (hi : i < L.length) (hv : u + Int32.ofInt n = v) (hL : m_set L i (.int v) = L') (h : VV X d y (pc + 3, L', st, M) K) : VV X d y (pc, L, st, M) K := by
  subst hL
  subst hv
  refine v_s hm ho rfl ?_ h
  simp only [m_step, hg, if_pos hi]
theorem v_go {off : Int} {t : Nat} (hm : mP[y]? = some mm) (ho : mm.2.2.2.2.2.2.lookup pc = some (.goto off, l, a0, b0)) (ht : (pc : Int) + off = .ofNat t) (h : VV X d y (t, L, st, M) K) : VV X d y (pc, L, st, M) K := by
  refine v_s hm ho rfl ?_ h
  simp only [m_step, m_jmp, ht]
/-- a call of an object's method: the receiver's class -/
theorem m_callv {i a b lw : Nat} {m1 : mMeth} {As rest : List Value} {N : Nat} (hst : st = As.reverse ++ .ref a :: rest) (hb : As.length + 1 = b) (hC : M.2.2.2.1[a]? = some (m1.2.2.2.2.1 + 5, N)) (hr : rest.length ≤ 4) (hs : (m_slots (.ref a :: As)).length ≤ m1.2.2.1) {z : Nat} : m_call (.invokevirtual i, lw, z, b) m1 st M = true := by
  have h1 : (st.take b).reverse = .ref a :: As := by
    rw [hst, ← hb, show As.length + 1 = As.reverse.length + 1 by simp]
    rw [List.take_append, List.take_of_length_le (by simp)]
    simp
  have h2 : st.drop b = rest := by
    rw [hst, ← hb, show As.length + 1 = As.reverse.length + 1 by simp]
    simp [List.drop_append]
  simp only [m_call, h1, h2, m_rcv, hC, Bool.and_eq_true, decide_eq_true_eq]
  refine ⟨⟨?_, hr, hs⟩, trivial⟩
  rw [hst]
  simp
  omega
end Vr
set_option maxRecDepth 100000 in
theorem shV0 : ∀ a, a < 574 → SH[a]? = some (14, 12) → [SH[a + 1]?, SH[a + 2]?, SH[a + 3]?, SH[a + 4]?, SH[a + 5]?, SH[a + 6]?] = [some (0, 6), some (0, 6), some (0, 9), some (0, 9), some (0, 14), some (0, 14)] := by decide +kernel
theorem shV : ∀ a, a < 574 → SH[a]? = some (14, 12) → SH[a + 1]? = some (0, 6) ∧ SH[a + 2]? = some (0, 6) ∧ SH[a + 3]? = some (0, 9) ∧ SH[a + 4]? = some (0, 9) ∧ SH[a + 5]? = some (0, 14) ∧ SH[a + 6]? = some (0, 14) := by
  intro a h1 h2
  have h := shV0 a h1 h2
  simp only [List.cons.injEq, and_true] at h
  exact h
set_option maxRecDepth 100000 in
theorem shL0 : ∀ a, a < 574 → SH[a]? = some (8, 4) → [SH[a + 1]?, SH[a + 2]?, SH[a + 3]?] = [some (0, 150), some (0, 8), some (0, 40)] := by decide +kernel
theorem shL : ∀ a, a < 574 → SH[a]? = some (8, 4) → SH[a + 1]? = some (0, 150) ∧ SH[a + 2]? = some (0, 8) ∧ SH[a + 3]? = some (0, 40) := by
  intro a h1 h2
  have h := shL0 a h1 h2
  simp only [List.cons.injEq, and_true] at h
  exact h
set_option maxRecDepth 100000 in
theorem shB0 : ∀ a, a < 574 → SH[a]? = some (5, 9) → [SH[a + 1]?, SH[a + 2]?, SH[a + 3]?, SH[a + 4]?] = [some (0, 8), some (0, 8), some (1, 36), some (0, 100)] := by decide +kernel
theorem shB : ∀ a, a < 574 → SH[a]? = some (5, 9) → SH[a + 1]? = some (0, 8) ∧ SH[a + 2]? = some (0, 8) ∧ SH[a + 3]? = some (1, 36) ∧ SH[a + 4]? = some (0, 100) := by
  intro a h1 h2
  have h := shB0 a h1 h2
  simp only [List.cons.injEq, and_true] at h
  exact h
set_option maxRecDepth 100000 in
theorem shS0 : ∀ a, a < 574 → SH[a]? = some (11, 9) → [SH[a + 1]?, SH[a + 2]?, SH[a + 3]?, SH[a + 4]?, SH[a + 5]?, SH[a + 6]?] = [some (0, 6), some (0, 6), some (0, 6), some (0, 6), some (0, 9), some (0, 9)] := by decide +kernel
theorem shS : ∀ a, a < 574 → SH[a]? = some (11, 9) → SH[a + 1]? = some (0, 6) ∧ SH[a + 2]? = some (0, 6) ∧ SH[a + 3]? = some (0, 6) ∧ SH[a + 4]? = some (0, 6) ∧ SH[a + 5]? = some (0, 9) ∧ SH[a + 6]? = some (0, 9) := by
  intro a h1 h2
  have h := shS0 a h1 h2
  simp only [List.cons.injEq, and_true] at h
  exact h
set_option maxRecDepth 100000 in
theorem shP : ∀ a, a < 574 → SH[a]? = some (9, 2) → SH[a + 1]? = some (3, 16) ∧ ∀ i, i < 16 → SH[a + 1 + (1 + 7 * i)]? = some (11, 9) := by decide +kernel
