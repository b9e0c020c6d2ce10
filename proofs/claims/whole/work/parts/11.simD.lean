/-! constants, Math, arraycopy, Object's constructor, the texts' members -/
def m_isD (i : Instr) : Bool := match i with
  | .ldc _ | .ldc_w _ | .invokestatic _ | .invokespecial _ | .invokevirtual _ => true
  | _ => false
/-- the text constants: class, entry, text -/
def m_okD (sx : List (String × Nat × String)) (own : String) (op : mOp) : Bool := match op.1 with
  | .ldc i => if op.2.2.2 = 0 then mwi op.2.1 (.constant own i (Int32.ofNat op.2.2.1)) else decide ((sx[op.2.2.1]?).map (fun q => (q.1, q.2.1)) = some (own, i))
  | .ldc_w i => if op.2.2.2 = 0 then mwi op.2.1 (.constant own i (Int32.ofNat op.2.2.1)) else decide ((sx[op.2.2.1]?).map (fun q => (q.1, q.2.1)) = some (own, i))
  | .invokestatic i => if op.2.2.1 = 1000 then mwi op.2.1 (.methodLink own i Lib.Math.max.name) else if op.2.2.1 = 1001 then mwi op.2.1 (.methodLink own i Lib.Math.min.name) else if op.2.2.1 = 1002 then mwi op.2.1 (.methodLink own i arraycopyName) else false
  | .invokespecial i => if op.2.2.1 = 1005 then mwi op.2.1 (.methodLink own i Lib.objectInit) else false
  | .invokevirtual i => if op.2.2.1 = 1003 then mwi op.2.1 (.methodLink own i yJ0_length_8abf5) else if op.2.2.1 = 1004 then mwi op.2.1 (.methodLink own i yJ0_charAt_5068e) else false
  | _ => false
set_option maxRecDepth 100000 in
theorem kd_1 : mw (.static Lib.Math.max.name) = true ∧ mw (.static Lib.Math.min.name) = true ∧ mw (.initialized "java/lang/Math") = true ∧ mw (.code Lib.Math.max.name Lib.Math.max.code 2 (some .int)) = true ∧ mw (.code Lib.Math.min.name Lib.Math.min.code 2 (some .int)) = true := by decide +kernel
set_option maxRecDepth 100000 in
theorem kd_2 : mw (.native arraycopyName) = true ∧ mw (.static arraycopyName) = true ∧ mw (.initialized "java/lang/System") = true := by decide +kernel
set_option maxRecDepth 100000 in
theorem kd_3 : mw (.instanceMethod Lib.objectInit) = true ∧ mw (.code Lib.objectInit ⟨#[0xb1]⟩ 1 none) = true := by decide +kernel
theorem m_cat2 (v : Value) : v.category ≤ 2 := by cases v <;> simp [Value.category]
theorem m_catsum (f : Nat → Nat) (r : List Value) (n : Nat) (h : r.length ≤ n) : ((r.map (m_rho f)).map fun v => v.category).sum ≤ 2 * n := by
  have : ∀ r : List Value, ((r.map (m_rho f)).map fun v => v.category).sum ≤ 2 * r.length := by
    intro r
    induction r with
    | nil => exact Nat.le_refl _
    | cons v r ih =>
      simp only [List.map_cons, List.sum_cons, List.length_cons]
      have := m_cat2 (m_rho f v)
      omega
  have := this r
  omega
section SimD
variable {p : Program} {l : Launch} {e : Env} {R : Room} {s : State} {m : MethodId} {args : Array Value} {below : List Frame} {meth : Method} {c : Code} {H : Heap} {locs : List Loc} {cells slots : Nat} {Q : State → Prop}
variable {D : va_G} {f : Nat → Nat} {tc : Nat → ClassId} {base nL c0 s0 : Nat} {cc : ByteArray} {tx : List (List Int32)} {X : Nat × (Nat → Int32)} {pc : Nat} {L : mL} {st : List Value} {M : mM} {ls : Array Slot} {c' : mC}
theorem va_ldcwS {rest : List Value} (hexec : p.tables.exec = Jvm.exec) (hb : c.code = cc) {own tx : String} {index q : Nat} (hown : s.vm.findClass own = some m.cls) (hZ : vk_R own index tx q s) (hdg : decode cc pc = .ok (.ldc_w index, 3))
    (k : W p l e R s m args below meth c H locs cells slots Q (F0 m (pc + 3) ls (.ref q :: rest))) : W p l e R s m args below meth c H locs cells slots Q (F0 m pc ls rest) := by
  intro T hT X
  obtain ⟨t, a1, b1⟩ := k T hT X
  exact ⟨t, X.ldcStringW hexec hown (text := tx) (a := q) hZ.1 hZ.2 (g := F0 m pc ls rest) rfl (by rw [hb]; exact hdg) t a1, b1⟩
/-- what the texts' members do -/
def m_TX (p : Program) (l : Launch) (e : Env) (R : Room) (s : State) (m : MethodId) (args : Array Value) (below : List Frame) (meth : Method) (c : Code) (cc : ByteArray) (own : String) (f : Nat → Nat) (base nL : Nat) (tx : List (List Int32)) : Prop :=
  ∀ (H : Heap) (locs : List Loc) (cells slots : Nat) (Q : State → Prop) (pc index i : Nat) (ls : Array Slot) (rest : List Value) (t : List Int32), tx[i]? = some t → va_S (fun q => base ≤ q) s.heap H locs → ls.size = nL → (rest.map fun v => v.category).sum ≤ 8 → cells ≤ R.cells → slots ≤ R.slots → decode cc pc = .ok (.invokevirtual index, 3) →
    (.methodLink own index yJ0_length_8abf5 ∈ gw → W p l e R s m args below meth c H locs cells slots Q (F0 m (pc + 3) ls (.int (nI t.length) :: rest)) → W p l e R s m args below meth c H locs cells slots Q (F0 m pc ls (.ref (f (m_scr + 1 + i)) :: rest))) ∧
    (.methodLink own index yJ0_charAt_5068e ∈ gw → ∀ (j : Int32) (x : Int32), ¬ j < 0 → t[j.toNatClampNeg]? = some x → W p l e R s m args below meth c H locs cells slots Q (F0 m (pc + 3) ls (.int x :: rest)) → W p l e R s m args below meth c H locs cells slots Q (F0 m pc ls (.int j :: .ref (f (m_scr + 1 + i)) :: rest)))
set_option maxHeartbeats 4000000 in
theorem m_simD {i : Instr} {len a b : Nat} {own : String} {sx : List (String × Nat × String)} (hx : p.tables.exec = Jvm.exec) (hb : c.code = cc) (hml : c.maxLocals = nL) (hd : decode cc pc = .ok (i, m_ilen (i, len, a, b))) (h : m_step tx X (i, len, a, b) pc L st M = some c')
    (hts : ∀ w ∈ gw, w.before args s = true) (hown : s.vm.findClass own = some m.cls) (hok : m_okD sx own (i, len, a, b) = true) (hK : va_K D vwCl (m_tys tc) s)
    (hsx : ∀ j q, sx[j]? = some q → vk_R q.1 q.2.1 q.2.2 (f (m_scr + 1 + j)) s) (hT : m_TX p l e R s m args below meth c cc own f base nL tx)
    (hr : m_ncell c'.2.2.2 ≤ R.cells + c0 ∧ m_nslot c'.2.2.2 ≤ R.slots + s0) (hR : 20 ≤ R.frames ∧ 300 ≤ R.locals)
    (hA : m_At D f tc base nL c0 s0 s.heap L M ls H locs cells slots) (kk : m_K p l e R s m args below meth c Q D f tc base nL c0 s0 s.heap c')
    (hi : m_isD i = true) : W p l e R s m args below meth c H locs cells slots Q (F0 m pc ls (st.map (m_rho f))) := by
  obtain ⟨hl, hP, hS, hc0, hs0, hz⟩ := hA
  have hsz : c.maxLocals = ls.size := by rw [hml]; exact hl.2.1.symm
  cases i <;> try (simp [m_isD] at hi; done)
  case ldc i =>
    simp only [m_step] at h
    simp only [m_okD] at hok
    split at h
    · rename_i hb2
      cases h
      rw [if_pos hb2] at hok
      exact lv_ldc hx hb hown (hts _ (mwi_in hok)) hd (kk _ _ _ _ _ ⟨hl, hP, hS, hc0, hs0, hz⟩)
    · rename_i hb2
      cases h
      rw [if_neg hb2] at hok
      simp only [decide_eq_true_eq, Option.map_eq_some_iff, Prod.mk.injEq] at hok
      obtain ⟨q, hq, rfl, rfl⟩ := hok
      exact va_ldcS hx hb hown (hsx _ _ hq) hd (kk _ _ _ _ _ ⟨hl, hP, hS, hc0, hs0, hz⟩)
  case ldc_w i =>
    simp only [m_step] at h
    simp only [m_okD] at hok
    split at h
    · rename_i hb2
      cases h
      rw [if_pos hb2] at hok
      exact lv_ldcw hx hb hown (hts _ (mwi_in hok)) hd (kk _ _ _ _ _ ⟨hl, hP, hS, hc0, hs0, hz⟩)
    · rename_i hb2
      cases h
      rw [if_neg hb2] at hok
      simp only [decide_eq_true_eq, Option.map_eq_some_iff, Prod.mk.injEq] at hok
      obtain ⟨q, hq, rfl, rfl⟩ := hok
      exact va_ldcwS hx hb hown (hsx _ _ hq) hd (kk _ _ _ _ _ ⟨hl, hP, hS, hc0, hs0, hz⟩)
  case invokestatic i =>
    simp only [m_step] at h
    simp only [m_okD] at hok
    split at h
    · rename_i ha
      rw [if_pos ha] at hok
      obtain ⟨x, y, r, e9, h9⟩ := m_i2_s h
      clear h
      subst e9
      split at h9
      · cases h9
      · rename_i hrl
        cases h9
        have hcs := m_catsum f r 8 (by omega)
        exact va_mmax hx hb hsz hown (hts _ (mwi_in hok)) (hts _ (mw_in kd_1.1)) (hts _ (mw_in kd_1.2.2.1)) (hts _ (mw_in kd_1.2.2.2.1)) (by omega) (by omega) (by have := hr.1; dsimp only at this; omega) (by have := hr.2; dsimp only at this; omega) hd (kk _ _ _ _ _ ⟨hl, hP, hS, hc0, hs0, hz⟩)
    · rename_i ha
      rw [if_neg ha] at hok
      split at h
      · rename_i ha
        rw [if_pos ha] at hok
        obtain ⟨x, y, r, e9, h9⟩ := m_i2_s h
        clear h
        subst e9
        split at h9
        · cases h9
        · rename_i hrl
          cases h9
          have hcs := m_catsum f r 8 (by omega)
          exact va_mmin hx hb hsz hown (hts _ (mwi_in hok)) (hts _ (mw_in kd_1.2.1)) (hts _ (mw_in kd_1.2.2.1)) (hts _ (mw_in kd_1.2.2.2.2)) (by omega) (by omega) (by have := hr.1; dsimp only at this; omega) (by have := hr.2; dsimp only at this; omega) hd (kk _ _ _ _ _ ⟨hl, hP, hS, hc0, hs0, hz⟩)
      · rename_i ha
        rw [if_neg ha] at hok
        split at h
        · rename_i ha
          rw [if_pos ha] at hok
          obtain ⟨dp, n, r, e9, h9⟩ := m_i2_s h
          clear h
          subst e9
          obtain ⟨a1, r2, e9, h8⟩ := m_r1_s h9
          clear h9
          subst e9
          obtain ⟨sp, r3, e9, h7⟩ := m_i1_s h8
          clear h8
          subst e9
          obtain ⟨a0, q, e9, h6⟩ := m_r1_s h7
          clear h7
          subst e9
          split at h6
          · rename_i n0 n1 hs0' hs1'
            split at h6
            · cases h6
            · rename_i hc
              cases h6
              simp only [not_or] at hc
              obtain ⟨hq8, h1, h2, h3, h4, h5⟩ := hc
              have hcs := m_catsum f q 8 (by omega)
              have hset : m_ws f tc (m_row M.1 a1 (va_cpy (M.1 a0) (M.1 a1) sp.toNatClampNeg dp.toNatClampNeg n.toNatClampNeg), M.2) = (m_ws f tc M).set a1 (f a1, .inl (tc 0, n1, .inl (va_cpy (M.1 a0) (M.1 a1) sp.toNatClampNeg dp.toNatClampNeg n.toNatClampNeg))) := by
                rw [m_ws_set (M := M) (M' := (m_row M.1 a1 (va_cpy (M.1 a0) (M.1 a1) sp.toNatClampNeg dp.toNatClampNeg n.toNatClampNeg), M.2)) rfl hs1' (fun b hb => ⟨m_row_ne hb, rfl, rfl⟩)]
                show _ = (m_ws f tc M).set a1 _
                unfold m_cell
                dsimp only
                rw [m_row_eq]
              refine va_copyi hx hb hsz hown (hts _ (mwi_in hok)) (hts _ (mw_in kd_2.1)) (hts _ (mw_in kd_2.2.1)) (hts _ (mw_in kd_2.2.2)) hK hP.1 hP.2 hS a0 a1 0 0 (m_ws_at hs0') (m_ws_at hs1') rfl rfl rfl h1 h2 h3 (by omega) (by omega) (fun _ _ => rfl) (by omega) ?_ hd (fun H1 locs1 hP1 hD1 hS1 => kk _ _ _ _ _ ⟨hl, ⟨by rw [hset]; exact hP1, by rw [hset]; exact hD1⟩, hS1, hc0, hs0, hz⟩)
              have : nativeFrameWords "java/lang/System" "arraycopy" 5 = 7 := by decide
              rw [this]
              omega
          · cases h6
        · cases h
  case invokespecial i =>
    simp only [m_step] at h
    simp only [m_okD] at hok
    split at h
    · rename_i ha
      rw [if_pos ha] at hok
      obtain ⟨ad, r, e9, h9⟩ := m_r1_s h
      clear h
      subst e9
      split at h9
      · cases h9
      · rename_i hrl
        cases h9
        have hcs := m_catsum f r 8 (by omega)
        refine W.objInit hx hb hown (hts _ (mwi_in hok)) (hts _ (mw_in kd_3.1)) (hts _ (mw_in kd_3.2)) rfl hsz.symm (rest := r.map (m_rho f)) rfl hd (by omega) ?_ (kk _ _ _ _ _ ⟨hl, hP, hS, hc0, hs0, hz⟩)
        show 2 * 0 + _ + 12 ≤ _
        omega
    · cases h
  case invokevirtual i =>
    simp only [m_step] at h
    simp only [m_okD] at hok
    split at h
    · rename_i ha
      rw [if_pos ha] at hok
      obtain ⟨ad, r, e9, h9⟩ := m_r1_s h
      clear h
      subst e9
      split at h9
      · rename_i t ht
        split at h9
        · cases h9
        · rename_i hrl
          cases h9
          unfold m_nstr at ht
          split at ht
          · cases ht
          · rename_i hgt
            have hcs := m_catsum f r 4 (by omega)
            have := (hT H locs cells slots Q pc i (ad - m_scr - 1) ls (r.map (m_rho f)) t ht hS hl.2.1 (by omega) (by have := hr.1; dsimp only at this; omega) (by have := hr.2; dsimp only at this; omega) hd).1 (mwi_in hok) (kk _ _ _ _ _ ⟨hl, hP, hS, hc0, hs0, hz⟩)
            rw [show m_scr + 1 + (ad - m_scr - 1) = ad by omega] at this
            exact this
      · cases h9
    · rename_i ha
      rw [if_neg ha] at hok
      split at h
      · rename_i ha
        rw [if_pos ha] at hok
        obtain ⟨j, r, e9, h9⟩ := m_i1_s h
        clear h
        subst e9
        obtain ⟨ad, q, e9, h8⟩ := m_r1_s h9
        clear h9
        subst e9
        split at h8
        · rename_i t ht
          split at h8
          · cases h8
          · rename_i hc
            simp only [not_or] at hc
            split at h8
            · rename_i x hx9
              cases h8
              unfold m_nstr at ht
              split at ht
              · cases ht
              · rename_i hgt
                have hcs := m_catsum f q 4 (by omega)
                have := (hT H locs cells slots Q pc i (ad - m_scr - 1) ls (q.map (m_rho f)) t ht hS hl.2.1 (by omega) (by have := hr.1; dsimp only at this; omega) (by have := hr.2; dsimp only at this; omega) hd).2 (mwi_in hok) j x hc.2 hx9 (kk _ _ _ _ _ ⟨hl, hP, hS, hc0, hs0, hz⟩)
                rw [show m_scr + 1 + (ad - m_scr - 1) = ad by omega] at this
                exact this
            · cases h8
        · cases h8
      · cases h
end SimD
