/-! the small machine's memory as a world of the kit -/
def m_isI (ci k : Nat) : Bool := match vwCl[ci]? with
  | some q => decide ((q.2.1 k).2.2.1 = "I")
  | none => false
def m_fv (f : Nat → Nat) (M : mM) (ci a k : Nat) : Value := if m_isI ci k = true then .int (M.1 a k) else va_rf ((M.2.1 a k).map f)
def m_cell (f : Nat → Nat) (tc : Nat → ClassId) (M : mM) (a : Nat) (sh : Nat × Nat) : va_E := match sh.1 with
  | 0 => .inl (tc 0, sh.2, .inl (M.1 a))
  | 1 => .inl (tc 1, sh.2, .inl (M.1 a))
  | 2 => .inl (tc 2, sh.2, .inr (.inl (M.2.2.1 a)))
  | 3 => .inl (tc 3, sh.2, .inr (.inr (.inr (.inr (fun k => (M.2.1 a k).map f)))))
  | 4 => .inl (tc 4, sh.2, .inr (.inr (.inr (.inr (fun k => (M.2.1 a k).map f)))))
  | ci + 5 => .inr (ci, (List.range sh.2).map (m_fv f M ci a))
def m_ws (f : Nat → Nat) (tc : Nat → ClassId) (M : mM) : va_W := M.2.2.2.1.mapIdx (fun a sh => (f a, m_cell f tc M a sh))
theorem m_ws_at {f : Nat → Nat} {tc : Nat → ClassId} {M : mM} {a : Nat} {sh : Nat × Nat} (h : M.2.2.2.1[a]? = some sh) : (m_ws f tc M)[a]? = some (f a, m_cell f tc M a sh) := by
  unfold m_ws
  rw [List.getElem?_mapIdx, h]
  rfl
theorem m_cell_congr {f : Nat → Nat} {tc : Nat → ClassId} {M M' : mM} {a : Nat} {sh : Nat × Nat} (h1 : M'.1 a = M.1 a) (h2 : M'.2.1 a = M.2.1 a) (h3 : M'.2.2.1 a = M.2.2.1 a) : m_cell f tc M' a sh = m_cell f tc M a sh := by
  unfold m_cell
  split <;> first | rw [h1] | rw [h3] | rw [h2] | skip
  congr 2
  apply List.map_congr_left
  intro k _
  unfold m_fv
  rw [h1, h2]
theorem m_ws_set {f : Nat → Nat} {tc : Nat → ClassId} {M M' : mM} {a : Nat} {sh : Nat × Nat} (hs : M'.2.2.2.1 = M.2.2.2.1) (ha : M.2.2.2.1[a]? = some sh)
    (ho : ∀ b, b ≠ a → M'.1 b = M.1 b ∧ M'.2.1 b = M.2.1 b ∧ M'.2.2.1 b = M.2.2.1 b) : m_ws f tc M' = (m_ws f tc M).set a (f a, m_cell f tc M' a sh) := by
  apply List.ext_getElem?
  intro i
  rw [List.getElem?_set]
  have hlen : (m_ws f tc M).length = M.2.2.2.1.length := by unfold m_ws; rw [List.length_mapIdx]
  have hal : a < M.2.2.2.1.length := (List.getElem?_eq_some_iff.mp ha).1
  by_cases hi : a = i
  · subst hi
    rw [if_pos rfl, hlen, if_pos hal]
    exact m_ws_at (by rw [hs]; exact ha)
  · rw [if_neg hi]
    unfold m_ws
    rw [List.getElem?_mapIdx, List.getElem?_mapIdx, hs]
    cases hq : M.2.2.2.1[i]? with
    | none => rfl
    | some sh' =>
      obtain ⟨h1, h2, h3⟩ := ho i (fun q => hi q.symm)
      simp only [Option.map_some]
      rw [m_cell_congr h1 h2 h3]
theorem m_row_ne {α : Type} {g : Nat → Nat → α} {a b : Nat} {r : Nat → α} (h : b ≠ a) : m_row g a r b = g b := by funext k; unfold m_row; rw [if_neg h]
theorem m_row_eq {α : Type} {g : Nat → Nat → α} {a : Nat} {r : Nat → α} : m_row g a r a = r := by funext k; unfold m_row; rw [if_pos rfl]
theorem m_up_ne {α : Type} {g : Nat → Nat → α} {a b k : Nat} {v : α} (h : b ≠ a) : m_up g a k v b = g b := by funext j; unfold m_up; rw [if_neg h]
theorem m_up_eq {α : Type} {g : Nat → Nat → α} {a k : Nat} {v : α} : m_up g a k v a = fun j => if j = k then v else g a j := by funext j; unfold m_up; rw [if_pos rfl]
theorem m_ws_new {f : Nat → Nat} {tc : Nat → ClassId} {M : mM} {kd n : Nat} : m_ws f tc (m_mk M kd n) = m_ws f tc M ++ [(f M.2.2.2.1.length, m_cell f tc (m_mk M kd n) M.2.2.2.1.length (kd, n))] := by
  unfold m_ws
  rw [show (m_mk M kd n).2.2.2.1 = M.2.2.2.1 ++ [(kd, n)] from rfl, List.mapIdx_append]
  congr 1
  · apply List.ext_getElem?
    intro i
    rw [List.getElem?_mapIdx, List.getElem?_mapIdx]
    cases hq : M.2.2.2.1[i]? with
    | none => rfl
    | some sh =>
      have hil : i < M.2.2.2.1.length := (List.getElem?_eq_some_iff.mp hq).1
      simp only [Option.map_some]
      rw [m_cell_congr (M := M) (M' := m_mk M kd n) (m_row_ne (by omega)) (m_row_ne (by omega)) (m_row_ne (by omega))]
  · simp [List.mapIdx_cons]
/-- the words that are kept by whatever the machine does meanwhile -/
def gw : List Cond := lw_tbl.filter goodWord
theorem gw_in {w : Cond} (h : w ∈ lw_tbl) (hg : goodWord w = true) : w ∈ gw := List.mem_filter.mpr ⟨h, hg⟩
def m_tys (tc : Nat → ClassId) : List (ClassId × FieldType) := [(tc 0, .int), (tc 1, .boolean), (tc 2, .long), (tc 3, .object "DarnEggs$State"), (tc 4, .object "DarnEggs$Past")]
def m_Pic (D : va_G) (f : Nat → Nat) (tc : Nat → ClassId) (base : Nat) (M : mM) (H : Heap) : Prop :=
  va_P D vwCl (m_ws f tc M) H ∧ va_D (fun q => base ≤ q) (m_ws f tc M)
