/-! arrays, fields, constants -/
def m_isB (i : Instr) : Bool := match i with
  | .arraylength | .iaload | .baload | .laload | .aaload | .iastore | .bastore | .lastore | .aastore => true
  | _ => false
section SimB
variable {p : Program} {l : Launch} {e : Env} {R : Room} {s : State} {m : MethodId} {args : Array Value} {below : List Frame} {meth : Method} {c : Code} {H : Heap} {locs : List Loc} {cells slots : Nat} {Q : State → Prop}
variable {D : va_G} {f : Nat → Nat} {tc : Nat → ClassId} {base nL c0 s0 : Nat} {cc : ByteArray} {tx : List (List Int32)} {X : Nat × (Nat → Int32)} {pc : Nat} {L : mL} {st : List Value} {M : mM} {ls : Array Slot} {c' : mC}
theorem m_Pic.upI {a k : Nat} {x : Int32} {H1 : Heap} {sh : Nat × Nat} (ha : M.2.2.2.1[a]? = some sh) (hP : va_P D vwCl ((m_ws f tc M).set a (f a, m_cell f tc (m_up M.1 a k x, M.2) a sh)) H1) (hD : va_D (fun q => base ≤ q) ((m_ws f tc M).set a (f a, m_cell f tc (m_up M.1 a k x, M.2) a sh))) : m_Pic D f tc base (m_up M.1 a k x, M.2) H1 := by
  have h := m_ws_set (f := f) (tc := tc) (M := M) (M' := (m_up M.1 a k x, M.2)) rfl ha (fun b hb => ⟨m_up_ne hb, rfl, rfl⟩)
  exact ⟨by rw [h]; exact hP, by rw [h]; exact hD⟩
theorem m_Pic.upR {a k : Nat} {x : Option Nat} {H1 : Heap} {sh : Nat × Nat} (ha : M.2.2.2.1[a]? = some sh) (hP : va_P D vwCl ((m_ws f tc M).set a (f a, m_cell f tc (M.1, m_up M.2.1 a k x, M.2.2) a sh)) H1) (hD : va_D (fun q => base ≤ q) ((m_ws f tc M).set a (f a, m_cell f tc (M.1, m_up M.2.1 a k x, M.2.2) a sh))) : m_Pic D f tc base (M.1, m_up M.2.1 a k x, M.2.2) H1 := by
  have h := m_ws_set (f := f) (tc := tc) (M := M) (M' := (M.1, m_up M.2.1 a k x, M.2.2)) rfl ha (fun b hb => ⟨rfl, m_up_ne hb, rfl⟩)
  exact ⟨by rw [h]; exact hP, by rw [h]; exact hD⟩
theorem m_Pic.upL {a k : Nat} {x : Int64} {H1 : Heap} {sh : Nat × Nat} (ha : M.2.2.2.1[a]? = some sh) (hP : va_P D vwCl ((m_ws f tc M).set a (f a, m_cell f tc (M.1, M.2.1, m_up M.2.2.1 a k x, M.2.2.2) a sh)) H1) (hD : va_D (fun q => base ≤ q) ((m_ws f tc M).set a (f a, m_cell f tc (M.1, M.2.1, m_up M.2.2.1 a k x, M.2.2.2) a sh))) : m_Pic D f tc base (M.1, M.2.1, m_up M.2.2.1 a k x, M.2.2.2) H1 := by
  have h := m_ws_set (f := f) (tc := tc) (M := M) (M' := (M.1, M.2.1, m_up M.2.2.1 a k x, M.2.2.2)) rfl ha (fun b hb => ⟨rfl, rfl, m_up_ne hb⟩)
  exact ⟨by rw [h]; exact hP, by rw [h]; exact hD⟩
set_option maxHeartbeats 4000000 in
theorem m_simB {i : Instr} {len a b : Nat} (hx : p.tables.exec = Jvm.exec) (hb : c.code = cc) (hd : decode cc pc = .ok (i, m_ilen (i, len, a, b))) (h : m_step tx X (i, len, a, b) pc L st M = some c')
    (hK : va_K D vwCl (m_tys tc) s) (hX : va_X (f m_scr) X.1 X.2 s s.heap) (hX2 : f m_scr < s.heap.size) (hX3 : ¬ base ≤ f m_scr)
    (hA : m_At D f tc base nL c0 s0 s.heap L M ls H locs cells slots) (kk : m_K p l e R s m args below meth c Q D f tc base nL c0 s0 s.heap c')
    (hi : m_isB i = true) : W p l e R s m args below meth c H locs cells slots Q (F0 m pc ls (st.map (m_rho f))) := by
  obtain ⟨hl, hP, hS, hc0, hs0, hz⟩ := hA
  cases i <;> try (simp [m_isB] at hi; done)
  case arraylength =>
    simp only [m_step] at h
    obtain ⟨a, r, e9, h9⟩ := m_r1_s h
    clear h
    subst e9
    unfold m_len at h9
    split at h9
    · rename_i hq
      cases h9
      subst hq
      exact va_slen hx hb hX hX2 hX3 hS hd (kk _ _ _ _ _ ⟨hl, hP, hS, hc0, hs0, hz⟩)
    · split at h9
      · rename_i kd n hsh
        split at h9
        · rename_i hkd
          cases h9
          have hw := m_ws_at (f := f) (tc := tc) hsh
          have K := kk _ _ _ _ _ ⟨hl, hP, hS, hc0, hs0, hz⟩
          match kd, hkd, hw with
          | 0, _, hw => exact va_alen hx hb hK hP.1 a 0 hw rfl rfl hd K
          | 1, _, hw => exact va_alen hx hb hK hP.1 a 1 hw rfl rfl hd K
          | 2, _, hw => exact va_alen hx hb hK hP.1 a 2 hw rfl rfl hd K
          | 3, _, hw => exact va_alen hx hb hK hP.1 a 3 hw rfl rfl hd K
          | 4, _, hw => exact va_alen hx hb hK hP.1 a 4 hw rfl rfl hd K
        · cases h9
      · cases h9
  case iaload =>
    simp only [m_step] at h
    obtain ⟨i, r, e9, h9⟩ := m_i1_s h
    clear h
    subst e9
    obtain ⟨a, q, e9, h8⟩ := m_r1_s h9
    clear h9
    subst e9
    split at h8
    · rename_i hq
      split at h8
      · cases h8
      · rename_i hin
        cases h8
        subst hq
        exact va_sld hx hb hX hX2 hX3 hS hin hd (kk _ _ _ _ _ ⟨hl, hP, hS, hc0, hs0, hz⟩)
    · obtain ⟨n, hsh, hin, h7⟩ := m_arr_s h8
      cases h7
      exact va_iald hx hb hK hP.1 a 0 (m_ws_at hsh) rfl hin hd (kk _ _ _ _ _ ⟨hl, hP, hS, hc0, hs0, hz⟩)
  case baload =>
    simp only [m_step] at h
    obtain ⟨i, r, e9, h9⟩ := m_i1_s h
    clear h
    subst e9
    obtain ⟨a, q, e9, h8⟩ := m_r1_s h9
    clear h9
    subst e9
    obtain ⟨n, hsh, hin, h7⟩ := m_arr_s h8
    cases h7
    exact va_zald hx hb hK hP.1 a 1 (m_ws_at hsh) rfl hin hd (kk _ _ _ _ _ ⟨hl, hP, hS, hc0, hs0, hz⟩)
  case laload =>
    simp only [m_step] at h
    obtain ⟨i, r, e9, h9⟩ := m_i1_s h
    clear h
    subst e9
    obtain ⟨a, q, e9, h8⟩ := m_r1_s h9
    clear h9
    subst e9
    obtain ⟨n, hsh, hin, h7⟩ := m_arr_s h8
    cases h7
    exact va_lald hx hb hK hP.1 a 2 (m_ws_at hsh) rfl hin hd (kk _ _ _ _ _ ⟨hl, hP, hS, hc0, hs0, hz⟩)
  case aaload =>
    simp only [m_step] at h
    obtain ⟨i, r, e9, h9⟩ := m_i1_s h
    clear h
    subst e9
    obtain ⟨ad, q, e9, h8⟩ := m_r1_s h9
    clear h9
    subst e9
    obtain ⟨n, hsh, hin, h7⟩ := m_arr_s h8
    split at h7
    · rename_i ho
      cases h7
      have hw := m_ws_at (f := f) (tc := tc) hsh
      have K := kk _ _ _ _ _ ⟨hl, hP, hS, hc0, hs0, hz⟩
      dsimp only [List.map] at K
      rw [m_rho_rf] at K
      rcases ho with rfl | rfl
      · exact va_aldq hx hb hK hP.1 ad 3 hw rfl hin hd K
      · exact va_aldq hx hb hK hP.1 ad 4 hw rfl hin hd K
    · cases h7
  case iastore =>
    simp only [m_step] at h
    obtain ⟨i, x, r, e9, h9⟩ := m_i2_s h
    clear h
    subst e9
    obtain ⟨a, q, e9, h8⟩ := m_r1_s h9
    clear h9
    subst e9
    obtain ⟨n, hsh, hin, h7⟩ := m_arr_s h8
    cases h7
    refine va_iast hx hb hK hP.1 hP.2 hS a 0 (m_ws_at hsh) rfl hin hd (fun H1 locs1 hP1 hD1 hS1 => kk _ _ _ _ _ ⟨hl, m_Pic.upI hsh ?_ ?_, hS1, hc0, hs0, hz⟩)
    · show va_P D vwCl ((m_ws f tc M).set a (f a, .inl (tc 0, n, .inl (m_up M.1 a i.toNatClampNeg x a)))) H1
      rw [m_up_eq]; exact hP1
    · show va_D _ ((m_ws f tc M).set a (f a, .inl (tc 0, n, .inl (m_up M.1 a i.toNatClampNeg x a))))
      rw [m_up_eq]; exact hD1
  case bastore =>
    simp only [m_step] at h
    obtain ⟨i, x, r, e9, h9⟩ := m_i2_s h
    clear h
    subst e9
    obtain ⟨a, q, e9, h8⟩ := m_r1_s h9
    clear h9
    subst e9
    obtain ⟨n, hsh, hin, h7⟩ := m_arr_s h8
    cases h7
    refine va_zast hx hb hK hP.1 hP.2 hS a 1 (m_ws_at hsh) rfl hin hd (fun H1 locs1 hP1 hD1 hS1 => kk _ _ _ _ _ ⟨hl, m_Pic.upI hsh ?_ ?_, hS1, hc0, hs0, hz⟩)
    · show va_P D vwCl ((m_ws f tc M).set a (f a, .inl (tc 1, n, .inl (m_up M.1 a i.toNatClampNeg (vp_nar .boolean x) a)))) H1
      rw [m_up_eq]; exact hP1
    · show va_D _ ((m_ws f tc M).set a (f a, .inl (tc 1, n, .inl (m_up M.1 a i.toNatClampNeg (vp_nar .boolean x) a))))
      rw [m_up_eq]; exact hD1
  case lastore =>
    simp only [m_step] at h
    obtain ⟨x, r, e9, h9⟩ := m_l1_s h
    clear h
    subst e9
    obtain ⟨i, r2, e9, h8⟩ := m_i1_s h9
    clear h9
    subst e9
    obtain ⟨a, q, e9, h7⟩ := m_r1_s h8
    clear h8
    subst e9
    obtain ⟨n, hsh, hin, h6⟩ := m_arr_s h7
    cases h6
    refine va_last hx hb hK hP.1 hP.2 hS a 2 (m_ws_at hsh) rfl hin hd (fun H1 locs1 hP1 hD1 hS1 => kk _ _ _ _ _ ⟨hl, m_Pic.upL hsh ?_ ?_, hS1, hc0, hs0, hz⟩)
    · show va_P D vwCl ((m_ws f tc M).set a (f a, .inl (tc 2, n, .inr (.inl (m_up M.2.2.1 a i.toNatClampNeg x a))))) H1
      rw [m_up_eq]; exact hP1
    · show va_D _ ((m_ws f tc M).set a (f a, .inl (tc 2, n, .inr (.inl (m_up M.2.2.1 a i.toNatClampNeg x a)))))
      rw [m_up_eq]; exact hD1
  case aastore =>
    simp only [m_step] at h
    obtain ⟨v, r, e9, h9⟩ := m_r1_s h
    clear h
    subst e9
    obtain ⟨i, r2, e9, h8⟩ := m_i1_s h9
    clear h9
    subst e9
    obtain ⟨ad, q, e9, h7⟩ := m_r1_s h8
    clear h8
    subst e9
    obtain ⟨n, hsh, hin, h6⟩ := m_arr_s h7
    obtain ⟨n2, hsv, -, h5⟩ := m_obj_s h6
    split at h5
    · rename_i ho
      cases h5
      have hw := m_ws_at (f := f) (tc := tc) hsh
      have hv := m_ws_at (f := f) (tc := tc) hsv
      have eq : (fun j => (m_up M.2.1 ad i.toNatClampNeg (some v) ad j).map f) = va_up (fun j => (M.2.1 ad j).map f) i.toNatClampNeg (some (f v)) := by
        funext j
        rw [m_up_eq]
        unfold va_up
        by_cases hj : j = i.toNatClampNeg
        · simp [hj]
        · simp [hj]
      rcases ho with ⟨rfl, rfl⟩ | ⟨rfl, rfl⟩
      · refine va_astq (r := (RX6, TX6, 9)) hx hb hK hP.1 hP.2 hS ad 3 v 6 hw rfl hv rfl hin hd (fun H1 locs1 hP1 hD1 hS1 => kk _ _ _ _ _ ⟨hl, m_Pic.upR hsh ?_ ?_, hS1, hc0, hs0, hz⟩)
        · show va_P D vwCl ((m_ws f tc M).set ad (f ad, .inl (tc 3, n, .inr (.inr (.inr (.inr (fun j => (m_up M.2.1 ad i.toNatClampNeg (some v) ad j).map f))))))) H1
          rw [eq]; exact hP1
        · show va_D _ ((m_ws f tc M).set ad (f ad, .inl (tc 3, n, .inr (.inr (.inr (.inr (fun j => (m_up M.2.1 ad i.toNatClampNeg (some v) ad j).map f)))))))
          rw [eq]; exact hD1
      · refine va_astq (r := (RX4, TX4, 2)) hx hb hK hP.1 hP.2 hS ad 4 v 4 hw rfl hv rfl hin hd (fun H1 locs1 hP1 hD1 hS1 => kk _ _ _ _ _ ⟨hl, m_Pic.upR hsh ?_ ?_, hS1, hc0, hs0, hz⟩)
        · show va_P D vwCl ((m_ws f tc M).set ad (f ad, .inl (tc 4, n, .inr (.inr (.inr (.inr (fun j => (m_up M.2.1 ad i.toNatClampNeg (some v) ad j).map f))))))) H1
          rw [eq]; exact hP1
        · show va_D _ ((m_ws f tc M).set ad (f ad, .inl (tc 4, n, .inr (.inr (.inr (.inr (fun j => (m_up M.2.1 ad i.toNatClampNeg (some v) ad j).map f)))))))
          rw [eq]; exact hD1
    · cases h5
end SimB
