/-! what stands about a method while it runs -/
def m_exc (k : Nat) : String := if k = 1 then "java/util/NoSuchElementException" else "java/lang/IllegalArgumentException"
/-- the texts, as they lie in the heap -/
def m_Str1 (f : Nat → Nat) (base : Nat) (tx : List (List Int32)) (adV : Nat → Nat) (s : State) : Prop :=
  (∀ i t, tx[i]? = some t → va_O "java/lang/String" (f (m_scr + 1 + i)) (fun q => base ≤ q) s s.heap ∧ va_OF "java/lang/String" "coder" "B" (.int 0) (f (m_scr + 1 + i)) (fun q => base ≤ q) s s.heap ∧ va_OF "java/lang/String" "value" "[B" (.ref (adV i)) (f (m_scr + 1 + i)) (fun q => base ≤ q) s s.heap ∧ va_T .byte (adV i) t.length (fun j => .int (t.getD j 0)) (fun q => base ≤ q) s s.heap) ∧
  va_Z "java/lang/String" "COMPACT_STRINGS" "Z" (.int 1) (fun q => base ≤ q) s s.heap ∧ va_Zq "jdk/internal/util/Preconditions" "SIOOBE_FORMATTER" "Ljava/util/function/BiFunction;" (fun q => base ≤ q) s s.heap ∧ ∀ (i : Nat) (t : List Int32), tx[i]? = some t → t.length < 2 ^ 31 ∧ ∀ b ∈ t, b.toInt8.toInt32 = b ∧ b &&& 255 = b
def m_Str (f : Nat → Nat) (base : Nat) (tx : List (List Int32)) (s : State) : Prop := ∃ adV : Nat → Nat, m_Str1 f base tx adV s
theorem m_Str1.go {f : Nat → Nat} {base : Nat} {tx : List (List Int32)} {adV : Nat → Nat} {s U : State} (h : m_Str1 f base tx adV s) (hq : ∀ a : Nat, a < s.heap.size → ¬ base ≤ a → U.heap[a]? = s.heap[a]?) (al : s.vm.Alike U.vm) : m_Str1 f base tx adV U := by
  obtain ⟨h9, h10, h11, h12⟩ := h
  refine ⟨fun i t ht => ?_, (h10.kept hq).moved al, (h11.kept hq).moved al, h12⟩
  obtain ⟨a1, a2, a3, a4⟩ := h9 i t ht
  exact ⟨(a1.kept hq).moved al, (a2.kept hq).moved al, (a3.kept hq).moved al, (a4.kept hq).moved al⟩
/-- what holds at a method's start and is kept -/
def m_Amb (D : va_G) (f : Nat → Nat) (tc : Nat → ClassId) (base : Nat) (X : Nat × (Nat → Int32)) (sx : List (String × Nat × String)) (tx : List (List Int32)) (s : State) : Prop :=
  va_K D vwCl (m_tys tc) s ∧ base ≤ s.heap.size ∧ (f m_scr < base ∧ va_X (f m_scr) X.1 X.2 s s.heap) ∧ (∀ j q, sx[j]? = some q → vk_R q.1 q.2.1 q.2.2 (f (m_scr + 1 + j)) s) ∧ (∀ w ∈ xw, va_Nw w s) ∧
  (vx_Zq Bundle.tN "UNASSIGNED_STACK" Bundle.steD (fun q => base ≤ q) s s.heap ∧ vx_Zq Bundle.tN "SUPPRESSED_SENTINEL" Bundle.listD (fun q => base ≤ q) s s.heap) ∧ m_Str f base tx s ∧ va_Nc (m_exc 2) (m_exc 1) s ∧ ∀ a, a < m_scr → f a = base + a
theorem xw_use {w : Cond} (h : w ∈ xw) {a : Array Value} {s : State} (hs : va_Nw w s) : w.before a s = true := by
  have h1 := (List.mem_filter.mp h).2
  cases w <;> simp only [m_ex, Bool.false_eq_true] at h1
  case castable => exact va_Nw.use rfl hs
  case declares => exact va_Nw.use rfl hs
  case methodLinkNest => exact va_Nw.use rfl hs
  case arrayOver t =>
    cases t <;> simp only [Bool.false_eq_true] at h1
    exact va_AO.use (va_AO.of hs)
theorem xw_warm {w : Cond} (h : w ∈ xw) {s U : State} (hW : s.WarmedH U.vm) (hs : va_Nw w s) : va_Nw w U := by
  have h1 := (List.mem_filter.mp h).2
  cases w <;> simp only [m_ex, Bool.false_eq_true] at h1
  case castable => exact va_Nw.warmC hW hs
  case declares => exact va_Nw.warmD hW hs
  case methodLinkNest => exact va_Nw.warmM hW hs
  case arrayOver t =>
    cases t <;> simp only [Bool.false_eq_true] at h1
    exact va_AO.moved hW.alike hs
theorem m_Amb.go {D : va_G} {f : Nat → Nat} {tc : Nat → ClassId} {base : Nat} {X : Nat × (Nat → Int32)} {sx : List (String × Nat × String)} {tx : List (List Int32)} {s U : State} {H : Heap} {locs : List Loc} (h : m_Amb D f tc base X sx tx s) (hU : U.heap = H) (hS : va_S (fun q => base ≤ q) s.heap H locs) (hW : s.WarmedH U.vm) : m_Amb D f tc base X sx tx U := by
  obtain ⟨h1, h2, ⟨h3, h4⟩, h5, h6, ⟨h7, h8⟩, ⟨adV, h9⟩, h12, h13⟩ := h
  have hq : ∀ a : Nat, a < s.heap.size → ¬ base ≤ a → U.heap[a]? = s.heap[a]? := by rw [hU]; exact hS.2.1
  have al := hW.alike
  refine ⟨va_K.moved al h1, by rw [hU]; exact Nat.le_trans h2 hS.1, ⟨h3, va_X.moved al (h4.kept (hq _ (by omega) (by omega)))⟩, fun j q hj => (h5 j q hj).warm hW, fun w hw => xw_warm hw hW (h6 w hw), ⟨(h7.kept hq).moved al, (h8.kept hq).moved al⟩, ⟨adV, h9.go hq al⟩, va_Nc.moved al h12, h13⟩
def m_raw (mm : mMeth) : List (Nat × Nat × Nat × Nat) := mm.2.2.2.2.2.1.map fun h => (h.1, h.2.1, h.2.2.2.2.1, h.2.2.2.2.2)
def m_Ctx (p : Program) (s : State) (m : MethodId) (args : Array Value) (meth : Method) (c : Code) (mm : mMeth) : Prop :=
  p.tables.exec = Jvm.exec ∧ c.code = mm.2.1 ∧ c.maxLocals = mm.2.2.1 ∧ s.vm.findClass mm.1.cls = some m.cls ∧ (∀ w ∈ gw, w.before args s = true) ∧ meth.name = mm.1.name ∧ meth.sig.returnType = mm.2.2.2.1 ∧ meth.locks = false ∧ c.exceptionTable.toList = tableOf (m_raw mm)
/-- the end that a run has -/
def m_Qc (D : va_G) (f : Nat → Nat) (tc : Nat → ClassId) (base : Nat) (r : mR) : Array Value → State → Outcome → State → Prop := fun _ st o t => (∃ v, r.1 = .inl v ∧ o = .returned (v.map (m_rho f)) ∧ m_Pic D f tc base r.2 t.heap) ∧ va_F (fun q => base ≤ q) st t
def m_XC (D : va_G) (f : Nat → Nat) (tc : Nat → ClassId) (base : Nat) (r : mR) : String → State → State → Prop := fun E st t => ∃ k, r.1 = .inr k ∧ E = m_exc k ∧ m_Pic D f tc base r.2 t.heap ∧ va_F (fun q => base ≤ q) st t
/-- the locals at a method's start -/
theorem m_slots_lv {f : Nat → Nat} : ∀ (vs : List Value) (i j : Nat) (v : Value), (m_slots vs)[j]? = some (some v) → (i + j, m_rho f v) ∈ lv_args i (vs.map (m_rho f)) := by
  intro vs
  induction vs with
  | nil => intro i j v h; simp [m_slots] at h
  | cons w vs ih =>
    intro i j v h
    rw [show m_slots (w :: vs) = (if w.category = 2 then [some w, none] else [some w]) ++ m_slots vs from rfl] at h
    simp only [List.map_cons, lv_args, m_rho_cat]
    by_cases hc : w.category = 2
    · rw [if_pos hc] at h ⊢
      match j, h with
      | 0, h => cases h; exact List.mem_cons_self
      | 1, h => cases h
      | j + 2, h =>
        refine List.mem_cons_of_mem _ ?_
        have := ih (i + 2) j v h
        rw [show i + (j + 2) = i + 2 + j by omega]
        exact this
    · rw [if_neg hc] at h ⊢
      match j, h with
      | 0, h => cases h; exact List.mem_cons_self
      | j + 1, h =>
        refine List.mem_cons_of_mem _ ?_
        have := ih (i + 1) j v h
        rw [show i + (j + 1) = i + 1 + j by omega]
        exact this
theorem m_slots_len {f : Nat → Nat} : ∀ (vs : List Value), (lg_sl (vs.map (m_rho f))).length = (m_slots vs).length := by
  intro vs
  induction vs with
  | nil => rfl
  | cons w vs ih =>
    rw [show m_slots (w :: vs) = (if w.category = 2 then [some w, none] else [some w]) ++ m_slots vs from rfl]
    rw [show lg_sl ((w :: vs).map (m_rho f)) = (if (m_rho f w).category = 2 then [.val (m_rho f w), .second] else [.val (m_rho f w)]) ++ lg_sl (vs.map (m_rho f)) from rfl]
    rw [List.length_append, List.length_append, ih, m_rho_cat]
    by_cases hc : w.category = 2
    · rw [if_pos hc, if_pos hc]; rfl
    · rw [if_neg hc, if_neg hc]; rfl
theorem m_Lv_ent {f : Nat → Nat} {n : Nat} {vs : List Value} (h : (m_slots vs).length ≤ n) : m_Lv f n ((lg_sl (vs.map (m_rho f)) ++ List.replicate (n - (lg_sl (vs.map (m_rho f))).length) Slot.unset).toArray) (m_ent n vs) := by
  have hl := lv_entry (vs.map (m_rho f)) (n := n) (by rw [m_slots_len]; exact h)
  refine ⟨by unfold m_ent; rw [List.length_append, List.length_replicate]; omega, hl.1, hl.2.1, ?_⟩
  rintro ⟨j, w⟩ hq
  obtain ⟨v, hv, rfl⟩ := m_lv_mem.mp hq
  refine hl.2.2 _ ?_
  unfold m_ent at hv
  rw [List.getElem?_append] at hv
  split at hv
  · have := m_slots_lv (f := f) vs 0 j v hv
    rw [Nat.zero_add] at this
    exact this
  · rw [List.getElem?_replicate] at hv
    split at hv <;> cases hv
theorem m_lookup_mem {α : Type} : ∀ (l : List (Nat × α)) (k : Nat) (v : α), l.lookup k = some v → (k, v) ∈ l := by
  intro l
  induction l with
  | nil => intro k v h; cases h
  | cons q l ih =>
    intro k v h
    obtain ⟨j, w⟩ := q
    rw [List.lookup_cons] at h
    by_cases hj : (k == j) = true
    · rw [hj] at h
      cases h
      rw [beq_iff_eq] at hj
      rw [hj]
      exact List.mem_cons_self
    · have hj : (k == j) = false := by simpa using hj
      rw [hj] at h
      exact List.mem_cons_of_mem _ (ih k v h)
