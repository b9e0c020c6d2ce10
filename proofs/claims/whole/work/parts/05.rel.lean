/-! how the small machine's states stand in the machine's -/
def m_rho (f : Nat → Nat) : Value → Value
  | .ref a => .ref (f a)
  | v => v
theorem m_rho_cat (f : Nat → Nat) (v : Value) : (m_rho f v).category = v.category := by cases v <;> rfl
theorem m_rho_rf (f : Nat → Nat) (r : Option Nat) : m_rho f (va_rf r) = va_rf (r.map f) := by cases r <;> rfl
def m_lv (f : Nat → Nat) (L : mL) : List (Nat × Value) := L.zipIdx.filterMap (fun q => q.1.map (fun v => (q.2, m_rho f v)))
theorem m_lv_mem {f : Nat → Nat} {L : mL} {j : Nat} {w : Value} : (j, w) ∈ m_lv f L ↔ ∃ v, L[j]? = some (some v) ∧ w = m_rho f v := by
  unfold m_lv
  rw [List.mem_filterMap]
  constructor
  · rintro ⟨⟨o, i⟩, h1, h2⟩
    rw [List.mem_zipIdx_iff_getElem?] at h1
    cases o with
    | none => cases h2
    | some v =>
      simp only [Option.map_some, Option.some.injEq, Prod.mk.injEq] at h2
      obtain ⟨rfl, rfl⟩ := h2
      exact ⟨v, h1, rfl⟩
  · rintro ⟨v, h1, rfl⟩
    exact ⟨(some v, j), by rw [List.mem_zipIdx_iff_getElem?]; exact h1, rfl⟩
def m_Lv (f : Nat → Nat) (n : Nat) (ls : Array Slot) (L : mL) : Prop := L.length = n ∧ lv_has ls n (m_lv f L)
theorem m_Lv.at {f : Nat → Nat} {n : Nat} {ls : Array Slot} {L : mL} (h : m_Lv f n ls L) {i : Nat} {v : Value} (hi : m_get L i = some v) : ls[i]? = some (.val (m_rho f v)) := by
  refine h.2.2.2 (i, m_rho f v) (m_lv_mem.mpr ⟨v, ?_, rfl⟩)
  unfold m_get at hi
  split at hi
  · cases hi; assumption
  · cases hi
theorem m_kill_len (L : mL) (i : Nat) : (m_kill L i).length = L.length := by
  unfold m_kill
  split
  · rfl
  · split
    · split <;> simp
    · rfl
theorem m_kill_at {L : mL} {i j : Nat} {w : Value} (h : (m_kill L i)[j]? = some (some w)) : L[j]? = some (some w) ∧ ¬ (j + 1 = i ∧ w.category = 2) := by
  unfold m_kill at h
  split at h
  · exact ⟨h, fun q => by omega⟩
  · rename_i i k
    split at h
    · rename_i u hu
      split at h
      · rw [List.getElem?_set] at h
        split at h
        · split at h <;> cases h
        · exact ⟨h, fun q => by omega⟩
      · rename_i hc
        refine ⟨h, fun q => ?_⟩
        have : j = k := by omega
        subst this
        rw [hu] at h
        cases h
        exact hc q.2
    · rename_i hn
      refine ⟨h, fun q => ?_⟩
      have : j = k := by omega
      subst this
      exact hn w h
theorem m_set_at {L : mL} {i j : Nat} {v w : Value} (h : (m_set L i v)[j]? = some (some w)) : (j = i ∧ w = v) ∨ (j ≠ i ∧ L[j]? = some (some w) ∧ ¬ (j + 1 = i ∧ w.category = 2)) := by
  unfold m_set at h
  rw [List.getElem?_set] at h
  split at h
  · rename_i e
    split at h
    · cases h; exact Or.inl ⟨e.symm, rfl⟩
    · cases h
  · rename_i e
    have := m_kill_at h
    exact Or.inr ⟨fun q => e q.symm, this.1, this.2⟩
theorem m_Lv.set {f : Nat → Nat} {n : Nat} {ls ls' : Array Slot} {L : mL} (h : m_Lv f n ls L) {i : Nat} {v : Value}
    (h' : lv_has ls' n ((i, m_rho f v) :: (m_lv f L).filter (fun q => !(q.1 == i) && !(q.1 + 1 == i && q.2.category == 2)))) : m_Lv f n ls' (m_set L i v) := by
  refine ⟨by unfold m_set; rw [List.length_set, m_kill_len]; exact h.1, h'.1, h'.2.1, ?_⟩
  rintro ⟨j, w⟩ hq
  obtain ⟨u, hu, rfl⟩ := m_lv_mem.mp hq
  rcases m_set_at hu with ⟨rfl, rfl⟩ | ⟨hne, hL, hc⟩
  · exact h'.2.2 _ List.mem_cons_self
  · refine h'.2.2 (j, m_rho f u) (List.mem_cons_of_mem _ (List.mem_filter.mpr ⟨m_lv_mem.mpr ⟨u, hL, rfl⟩, ?_⟩))
    rw [m_rho_cat]
    simp only [Bool.and_eq_true, Bool.not_eq_true', beq_eq_false_iff_ne, Bool.and_eq_false_iff, ne_eq]
    refine ⟨hne, ?_⟩
    by_cases h1 : j + 1 = i
    · exact Or.inr (fun h2 => hc ⟨h1, h2⟩)
    · exact Or.inl h1
theorem m_Lv.setL {f : Nat → Nat} {n : Nat} {ls ls' : Array Slot} {L : mL} (h : m_Lv f n ls L) {i : Nat} {v : Value}
    (h' : lv_has ls' n ((i, m_rho f v) :: (m_lv f L).filter (fun q => !(q.1 == i) && (!(q.1 == i + 1) && !(q.1 + 1 == i && q.2.category == 2))))) : m_Lv f n ls' (m_setL L i v) := by
  refine ⟨by unfold m_setL m_set; rw [List.length_set, List.length_set, m_kill_len]; exact h.1, h'.1, h'.2.1, ?_⟩
  rintro ⟨j, w⟩ hq
  obtain ⟨u, hu, rfl⟩ := m_lv_mem.mp hq
  unfold m_setL at hu
  rw [List.getElem?_set] at hu
  split at hu
  · split at hu <;> cases hu
  · rename_i hji
    rcases m_set_at hu with ⟨rfl, rfl⟩ | ⟨hne, hL, hc⟩
    · exact h'.2.2 _ List.mem_cons_self
    · refine h'.2.2 (j, m_rho f u) (List.mem_cons_of_mem _ (List.mem_filter.mpr ⟨m_lv_mem.mpr ⟨u, hL, rfl⟩, ?_⟩))
      rw [m_rho_cat]
      simp only [Bool.and_eq_true, Bool.not_eq_true', beq_eq_false_iff_ne, Bool.and_eq_false_iff, ne_eq]
      refine ⟨hne, fun q => hji q.symm, ?_⟩
      by_cases h1 : j + 1 = i
      · exact Or.inr (fun h2 => hc ⟨h1, h2⟩)
      · exact Or.inl h1
/-! the helpers of m_step, taken apart -/
theorem m_i1_s {α : Type} {st : List Value} {k : Int32 → List Value → Option α} {c : α} (h : m_i1 st k = some c) : ∃ x r, st = .int x :: r ∧ k x r = some c := by
  unfold m_i1 at h
  split at h
  · exact ⟨_, _, rfl, h⟩
  · cases h
theorem m_i2_s {α : Type} {st : List Value} {k : Int32 → Int32 → List Value → Option α} {c : α} (h : m_i2 st k = some c) : ∃ x y r, st = .int y :: .int x :: r ∧ k x y r = some c := by
  unfold m_i2 at h
  split at h
  · exact ⟨_, _, _, rfl, h⟩
  · cases h
theorem m_l1_s {α : Type} {st : List Value} {k : Int64 → List Value → Option α} {c : α} (h : m_l1 st k = some c) : ∃ x r, st = .long x :: r ∧ k x r = some c := by
  unfold m_l1 at h
  split at h
  · exact ⟨_, _, rfl, h⟩
  · cases h
theorem m_l2_s {α : Type} {st : List Value} {k : Int64 → Int64 → List Value → Option α} {c : α} (h : m_l2 st k = some c) : ∃ x y r, st = .long y :: .long x :: r ∧ k x y r = some c := by
  unfold m_l2 at h
  split at h
  · exact ⟨_, _, _, rfl, h⟩
  · cases h
theorem m_r1_s {α : Type} {st : List Value} {k : Nat → List Value → Option α} {c : α} (h : m_r1 st k = some c) : ∃ a r, st = .ref a :: r ∧ k a r = some c := by
  unfold m_r1 at h
  split at h
  · exact ⟨_, _, rfl, h⟩
  · cases h
theorem m_v1_s {α : Type} {st : List Value} {k : Value → List Value → Option α} {c : α} (h : m_v1 st k = some c) : ∃ v r, st = v :: r ∧ v.category = 1 ∧ k v r = some c := by
  unfold m_v1 at h
  split at h
  · split at h
    · exact ⟨_, _, rfl, by assumption, h⟩
    · cases h
  · cases h
theorem m_jmp_s {pc : Nat} {off : Int} {L : mL} {st : List Value} {M : mM} {c : mC} (h : m_jmp pc off L st M = some c) : ∃ t : Nat, (pc : Int) + off = (t : Int) ∧ c = (t, L, st, M) := by
  unfold m_jmp at h
  split at h
  · rename_i t e
    cases h
    exact ⟨t, e, rfl⟩
  · cases h
theorem m_arr_s {M : mM} {kd a : Nat} {i : Int32} {k : Nat → Option mC} {c : mC} (h : m_arr M kd a i k = some c) : ∃ n, M.2.2.2.1[a]? = some (kd, n) ∧ vp_in i n ∧ k i.toNatClampNeg = some c := by
  unfold m_arr at h
  split at h
  · rename_i kd' n e
    split at h
    · split at h
      · cases h
      · rename_i hk hi
        subst hk
        exact ⟨n, e, hi, h⟩
    · cases h
  · cases h
theorem m_obj_s {M : mM} {ci j a : Nat} {k : Option mC} {c : mC} (h : m_obj M ci j a k = some c) : ∃ n, M.2.2.2.1[a]? = some (ci + 5, n) ∧ j < n ∧ k = some c := by
  unfold m_obj at h
  split at h
  · rename_i kd n e
    split at h
    · rename_i hk
      subst hk
      split at h
      · exact ⟨n, e, by assumption, h⟩
      · cases h
    · cases h
  · cases h
theorem m_br_s {cn : Bool} {pc : Nat} {off : Int} {L : mL} {st : List Value} {M : mM} {c : mC} (h : m_br cn pc off L st M = some c) : ∃ t : Nat, (pc : Int) + off = (t : Int) ∧ ((cn = true ∧ c = (t, L, st, M)) ∨ (¬ cn = true ∧ c = (pc + 3, L, st, M))) := by
  unfold m_br at h
  split at h
  · rename_i t e
    split at h
    · rename_i hc
      cases h
      exact ⟨t, e, Or.inl ⟨hc, rfl⟩⟩
    · rename_i hc
      cases h
      exact ⟨t, e, Or.inr ⟨hc, rfl⟩⟩
  · cases h
