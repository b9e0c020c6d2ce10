/-! fields, new cells, constants, the JDK's small members -/
def m_isC (i : Instr) : Bool := match i with
  | .getfield _ | .putfield _ | .new _ | .newarray _ | .anewarray _ | .ldc2_w _ => true
  | _ => false
/-- what must stand in the tables for an instruction (own: the method's class, nm: its name) -/
def m_okC (own nm : String) (op : mOp) : Bool := match op.1 with
  | .getfield i => match vwCl[op.2.2.1]? with
    | some q => decide (op.2.2.2 / 2 < q.2.2) && mwi op.2.1 (.fieldLink own i q.1 (q.2.1 (op.2.2.2 / 2)).2.1 (q.2.1 (op.2.2.2 / 2)).2.2.1) && decide ((q.2.1 (op.2.2.2 / 2)).1 = q.1) && decide (m_isI op.2.2.1 (op.2.2.2 / 2) = decide (op.2.2.2 % 2 = 0))
    | none => false
  | .putfield i => match vwCl[op.2.2.1]? with
    | some q => decide (op.2.2.2 / 2 < q.2.2) && mwi op.2.1 (.fieldLink own i q.1 (q.2.1 (op.2.2.2 / 2)).2.1 (q.2.1 (op.2.2.2 / 2)).2.2.1) && decide ((q.2.1 (op.2.2.2 / 2)).1 = q.1) && decide (m_isI op.2.2.1 (op.2.2.2 / 2) = decide (op.2.2.2 % 2 = 0)) && (!(q.2.1 (op.2.2.2 / 2)).2.2.2 || decide (nm = "<init>" ∧ own = q.1))
    | none => false
  | .new i => match vwCl[op.2.2.1]? with
    | some q => decide (op.2.2.2 = q.2.2) && mwi op.2.1 (.classLink own i q.1)
    | none => false
  | .newarray t => mwi op.2.1 (.arrayClass (newarray.typeOf t))
  | .anewarray i => if op.2.2.1 = 3 then mw (.classLink own i "DarnEggs$State") && mx (.arrayOver (.object "DarnEggs$State")) else if op.2.2.1 = 4 then mw (.classLink own i "DarnEggs$Past") && mx (.arrayOver (.object "DarnEggs$Past")) else false
  | .ldc2_w i => mwi op.2.1 (.constantLong own i (Int64.ofNat op.2.2.1))
  | _ => false
theorem m_fs_set {f : Nat → Nat} {M M' : mM} {ci n a k : Nat} {v : Value} (hk : k < n) (h1 : m_fv f M' ci a k = v) (h2 : ∀ j, j ≠ k → m_fv f M' ci a j = m_fv f M ci a j) : (List.range n).map (m_fv f M' ci a) = ((List.range n).map (m_fv f M ci a)).set k v := by
  apply List.ext_getElem?
  intro j
  rw [List.getElem?_set]
  by_cases hj : k = j
  · subst hj
    simp [hk, h1]
  · rw [if_neg hj]
    by_cases hl : j < n
    · simp [hl, h2 j (fun q => hj q.symm)]
    · simp [hl]
section SimC
variable {p : Program} {l : Launch} {e : Env} {R : Room} {s : State} {m : MethodId} {args : Array Value} {below : List Frame} {meth : Method} {c : Code} {H : Heap} {locs : List Loc} {cells slots : Nat} {Q : State → Prop}
variable {D : va_G} {f : Nat → Nat} {tc : Nat → ClassId} {base nL c0 s0 : Nat} {cc : ByteArray} {tx : List (List Int32)} {X : Nat × (Nat → Int32)} {pc : Nat} {L : mL} {st : List Value} {M : mM} {ls : Array Slot} {c' : mC}
theorem W.sized {g : JFrame} (k : H.size ≤ s.heap.size + cells → W p l e R s m args below meth c H locs cells slots Q g) : W p l e R s m args below meth c H locs cells slots Q g := fun T hT X => k (by rw [← hT]; exact X.heapSize) T hT X
/-- where the next cell will lie -/
theorem m_size (hP : m_Pic D f tc base M H) (hS : va_S (fun q => base ≤ q) s.heap H locs) (hc0 : cells + c0 = m_ncell M) (hz : M.2.2.2.2 = 0 → s.heap.size ≤ base + c0) (hx0 : M.2.2.2.2 = 0) (hl : M.2.2.2.1.length < 1000) (hbs : base ≤ s.heap.size) (hf : ∀ a, a < m_scr → f a = base + a) (hu : H.size ≤ s.heap.size + cells) : H.size = base + M.2.2.2.1.length := by
  have h1 := hz hx0
  have h2 := hS.1
  unfold m_ncell at hc0
  rw [hx0] at hc0
  rcases Nat.eq_zero_or_pos M.2.2.2.1.length with h0 | h0
  · omega
  · obtain ⟨sh, hsh⟩ : ∃ sh, M.2.2.2.1[M.2.2.2.1.length - 1]? = some sh := ⟨_, List.getElem?_eq_getElem (by omega)⟩
    have h3 : f (M.2.2.2.1.length - 1) < H.size := (hP.1 _ _ (m_ws_at hsh)).lt
    rw [hf _ (by unfold m_scr; omega)] at h3
    omega
theorem m_nslot_mk {kd n : Nat} : m_nslot (m_mk M kd n) = m_nslot M + n := by
  unfold m_nslot m_mk
  simp only [List.map_append, List.sum_append, List.map_cons, List.map_nil, List.sum_cons, List.sum_nil]
  omega
theorem m_ncell_mk {kd n : Nat} : m_ncell (m_mk M kd n) = m_ncell M + 1 := by
  unfold m_ncell m_mk
  simp only [List.length_append, List.length_cons, List.length_nil]
  omega
/-- behind a new cell -/
theorem m_Pic.mk {kd n h : Nat} {H1 : Heap} (hP : m_Pic D f tc base M H) (hh : H.size = h) (hb : base ≤ h) (hfl : f M.2.2.2.1.length = h) (ho : ∀ q, q < h → H1[q]? = H[q]?) (hn : va_at D vwCl (h, m_cell f tc (m_mk M kd n) M.2.2.2.1.length (kd, n)) H1) : m_Pic D f tc base (m_mk M kd n) H1 := by
  unfold m_Pic
  rw [m_ws_new, hfl]
  refine ⟨(hP.1.kept (fun k q hk => ho _ (by rw [← hh]; exact (hP.1 k q hk).lt))).app (fun k q hk => ?_), hP.2.push hP.1 hh.symm hb⟩
  have hz : k < 1 := (List.getElem?_eq_some_iff.mp hk).1
  rw [show k = 0 by omega] at hk
  cases hk
  exact hn
set_option maxHeartbeats 4000000 in
theorem m_simC {i : Instr} {len a b : Nat} {own : String} (hx : p.tables.exec = Jvm.exec) (hb : c.code = cc) (hd : decode cc pc = .ok (i, m_ilen (i, len, a, b))) (h : m_step tx X (i, len, a, b) pc L st M = some c')
    (hts : ∀ w ∈ gw, w.before args s = true) (hxs : ∀ w ∈ xw, w.before args s = true) (hown : s.vm.findClass own = some m.cls) (hok : m_okC own meth.name (i, len, a, b) = true) (hK : va_K D vwCl (m_tys tc) s) (hf : ∀ a, a < m_scr → f a = base + a) (hbs : base ≤ s.heap.size)
    (hr : m_ncell c'.2.2.2 ≤ R.cells + c0 ∧ m_nslot c'.2.2.2 ≤ R.slots + s0)
    (hA : m_At D f tc base nL c0 s0 s.heap L M ls H locs cells slots) (kk : m_K p l e R s m args below meth c Q D f tc base nL c0 s0 s.heap c')
    (hi : m_isC i = true) : W p l e R s m args below meth c H locs cells slots Q (F0 m pc ls (st.map (m_rho f))) := by
  obtain ⟨hl, hP, hS, hc0, hs0, hz⟩ := hA
  cases i <;> try (simp [m_isC] at hi; done)
  case ldc2_w i =>
    cases h
    exact lv_ldc2 hx hb hown (hts _ (mwi_in hok)) hd (kk _ _ _ _ _ ⟨hl, hP, hS, hc0, hs0, hz⟩)
  case getfield i =>
    simp only [m_step] at h
    obtain ⟨ad, r, e9, h9⟩ := m_r1_s h
    clear h
    subst e9
    obtain ⟨n, hsh, hkn, h8⟩ := m_obj_s h9
    simp only [m_okC] at hok
    split at hok
    · rename_i q hq
      simp only [Bool.and_eq_true, decide_eq_true_eq] at hok
      obtain ⟨⟨⟨hk, hlk⟩, hdc⟩, hI⟩ := hok
      obtain ⟨C, T, N⟩ := q
      have hw : (m_ws f tc M)[ad]? = some (f ad, .inr (a, (List.range n).map (m_fv f M a ad))) := m_ws_at hsh
      have hv : ((List.range n).map (m_fv f M a ad))[b / 2]? = some (m_fv f M a ad (b / 2)) := by simp [hkn]
      refine va_get hx hb hts (m_cls hq).1 hown hK hP.1 ad hw hq (b / 2) hk (hts _ (mwi_in hlk)) (fun x hx => by rw [show (T (b / 2)).1 = C from hdc] at hx; exact hx) hv hd ?_
      split at h8
      · rename_i hb2
        cases h8
        have K := kk _ _ _ _ _ ⟨hl, hP, hS, hc0, hs0, hz⟩
        have : m_fv f M a ad (b / 2) = .int (M.1 ad (b / 2)) := by unfold m_fv; rw [hI, if_pos (by simpa using hb2)]
        rw [this]
        exact K
      · rename_i hb2
        cases h8
        have K := kk _ _ _ _ _ ⟨hl, hP, hS, hc0, hs0, hz⟩
        have : m_fv f M a ad (b / 2) = m_rho f (va_rf (M.2.1 ad (b / 2))) := by unfold m_fv; rw [hI, if_neg (by simpa using hb2), m_rho_rf]
        rw [this]
        exact K
    · cases hok
  case putfield i =>
    simp only [m_okC] at hok
    split at hok
    · rename_i q hq
      simp only [Bool.and_eq_true, decide_eq_true_eq] at hok
      obtain ⟨⟨⟨⟨hk, hlk⟩, hdc⟩, hI⟩, hfin⟩ := hok
      obtain ⟨C, T, N⟩ := q
      obtain ⟨hin, ⟨hins, hini⟩, hnm, ty, hty, hkt⟩ := m_cls hq
      simp only [m_step] at h
      split at h
      · rename_i hb2
        obtain ⟨x, r, e9, h9⟩ := m_i1_s h
        clear h
        subst e9
        obtain ⟨ad, r2, e9, h8⟩ := m_r1_s h9
        clear h9
        subst e9
        obtain ⟨n, hsh, hkn, h7⟩ := m_obj_s h8
        cases h7
        have hw : (m_ws f tc M)[ad]? = some (f ad, .inr (a, (List.range n).map (m_fv f M a ad))) := m_ws_at hsh
        have hI2 : m_isI a (b / 2) = true := by rw [hI]; simpa using hb2
        have hti : ty (b / 2) = .int := by
          rcases hkt _ hk with h | h
          · exact h.1
          · refine absurd ?_ h.2
            unfold m_isI at hI2
            rw [hq] at hI2
            simpa using hI2
        have hfs := m_fs_set (f := f) (M := M) (M' := (m_up M.1 ad (b / 2) x, M.2)) (ci := a) (n := n) (a := ad) (k := b / 2) (v := .int x) hkn (by unfold m_fv; rw [hI2, if_pos rfl]; simp [m_up]) (fun j hj => by unfold m_fv; simp [m_up, hj])
        have hnar : narrow (ty (b / 2)) (.int x) = .int x := by rw [hti]; rfl
        have hfit : fits (ty (b / 2)) (.int x) = true := by rw [hti]; rfl
        cases hfb : (T (b / 2)).2.2.2 with
        | false =>
          refine va_put hx hb hts hin ty hty hnm hown hK hP.1 hP.2 hS ad hw hq (b / 2) hk (hts _ (mwi_in hlk)) (fun x hx => by rw [show (T (b / 2)).1 = C from hdc] at hx; exact hx) hfb (hty _ hk) hnar hfit (by simp [hkn]) hd (fun H1 locs1 hP1 hD1 hS1 => kk _ _ _ _ _ ⟨hl, m_Pic.upI hsh ?_ ?_, hS1, hc0, hs0, hz⟩)
          · show va_P D vwCl ((m_ws f tc M).set ad (f ad, .inr (a, (List.range n).map (m_fv f (m_up M.1 ad (b / 2) x, M.2) a ad)))) H1
            rw [hfs]; exact hP1
          · show va_D _ ((m_ws f tc M).set ad (f ad, .inr (a, (List.range n).map (m_fv f (m_up M.1 ad (b / 2) x, M.2) a ad))))
            rw [hfs]; exact hD1
        | true =>
          rw [show (T (b / 2)).2.2.2 = true from hfb] at hfin
          simp only [Bool.not_true, Bool.false_or, decide_eq_true_eq] at hfin
          refine va_putF hx hb hts hin ty hty hnm hown hK hP.1 hP.2 hS ad hw hq (b / 2) hk (hts _ (mwi_in hlk)) (fun x hx => by rw [show (T (b / 2)).1 = C from hdc] at hx; exact hx) hfb hfin.1 (by rw [show (T (b / 2)).1 = C from hdc]; exact hfin.2.symm) (hty _ hk) hnar hfit (by simp [hkn]) hd (fun H1 locs1 hP1 hD1 hS1 => kk _ _ _ _ _ ⟨hl, m_Pic.upI hsh ?_ ?_, hS1, hc0, hs0, hz⟩)
          · show va_P D vwCl ((m_ws f tc M).set ad (f ad, .inr (a, (List.range n).map (m_fv f (m_up M.1 ad (b / 2) x, M.2) a ad)))) H1
            rw [hfs]; exact hP1
          · show va_D _ ((m_ws f tc M).set ad (f ad, .inr (a, (List.range n).map (m_fv f (m_up M.1 ad (b / 2) x, M.2) a ad))))
            rw [hfs]; exact hD1
      · rename_i hb2
        obtain ⟨v, r, e9, h9⟩ := m_r1_s h
        clear h
        subst e9
        obtain ⟨ad, r2, e9, h8⟩ := m_r1_s h9
        clear h9
        subst e9
        obtain ⟨n, hsh, hkn, h7⟩ := m_obj_s h8
        split at h7
        · cases h7
          have hw : (m_ws f tc M)[ad]? = some (f ad, .inr (a, (List.range n).map (m_fv f M a ad))) := m_ws_at hsh
          have hI2 : m_isI a (b / 2) = false := by rw [hI]; simpa using hb2
          have hti : m_rty (ty (b / 2)) = true := by
            rcases hkt _ hk with h | h
            · exfalso
              unfold m_isI at hI2
              rw [hq] at hI2
              simp at hI2
              exact hI2 h.2
            · exact h.1
          have hfs := m_fs_set (f := f) (M := M) (M' := (M.1, m_up M.2.1 ad (b / 2) (some v), M.2.2)) (ci := a) (n := n) (a := ad) (k := b / 2) (v := .ref (f v)) hkn (by unfold m_fv; rw [hI2]; simp [m_up, va_rf]) (fun j hj => by unfold m_fv; simp [m_up, hj])
          have hnar : narrow (ty (b / 2)) (.ref (f v)) = .ref (f v) := by cases ht : ty (b / 2) <;> rfl
          have hfit : fits (ty (b / 2)) (.ref (f v)) = true := by cases ht : ty (b / 2) <;> rw [ht] at hti <;> first | rfl | cases hti
          cases hfb : (T (b / 2)).2.2.2 with
          | false =>
            refine va_put hx hb hts hin ty hty hnm hown hK hP.1 hP.2 hS ad hw hq (b / 2) hk (hts _ (mwi_in hlk)) (fun x hx => by rw [show (T (b / 2)).1 = C from hdc] at hx; exact hx) hfb (hty _ hk) hnar hfit (by simp [hkn]) hd (fun H1 locs1 hP1 hD1 hS1 => kk _ _ _ _ _ ⟨hl, m_Pic.upR hsh ?_ ?_, hS1, hc0, hs0, hz⟩)
            · show va_P D vwCl ((m_ws f tc M).set ad (f ad, .inr (a, (List.range n).map (m_fv f (M.1, m_up M.2.1 ad (b / 2) (some v), M.2.2) a ad)))) H1
              rw [hfs]; exact hP1
            · show va_D _ ((m_ws f tc M).set ad (f ad, .inr (a, (List.range n).map (m_fv f (M.1, m_up M.2.1 ad (b / 2) (some v), M.2.2) a ad))))
              rw [hfs]; exact hD1
          | true =>
            rw [show (T (b / 2)).2.2.2 = true from hfb] at hfin
            simp only [Bool.not_true, Bool.false_or, decide_eq_true_eq] at hfin
            refine va_putF hx hb hts hin ty hty hnm hown hK hP.1 hP.2 hS ad hw hq (b / 2) hk (hts _ (mwi_in hlk)) (fun x hx => by rw [show (T (b / 2)).1 = C from hdc] at hx; exact hx) hfb hfin.1 (by rw [show (T (b / 2)).1 = C from hdc]; exact hfin.2.symm) (hty _ hk) hnar hfit (by simp [hkn]) hd (fun H1 locs1 hP1 hD1 hS1 => kk _ _ _ _ _ ⟨hl, m_Pic.upR hsh ?_ ?_, hS1, hc0, hs0, hz⟩)
            · show va_P D vwCl ((m_ws f tc M).set ad (f ad, .inr (a, (List.range n).map (m_fv f (M.1, m_up M.2.1 ad (b / 2) (some v), M.2.2) a ad)))) H1
              rw [hfs]; exact hP1
            · show va_D _ ((m_ws f tc M).set ad (f ad, .inr (a, (List.range n).map (m_fv f (M.1, m_up M.2.1 ad (b / 2) (some v), M.2.2) a ad))))
              rw [hfs]; exact hD1
        · cases h7
    · cases hok
  case new i =>
    simp only [m_step, m_new] at h
    split at h
    · rename_i hn
      cases h
      simp only [m_okC] at hok
      split at hok
      · rename_i q hq
        simp only [Bool.and_eq_true, decide_eq_true_eq] at hok
        obtain ⟨hbN, hlk⟩ := hok
        obtain ⟨C, T, N⟩ := q
        obtain ⟨hin, ⟨hins, hini⟩, hnm, ty, hty, hkt⟩ := m_cls hq
        have hKn := hK.1 a _ hq
        dsimp only at hbN
        subst hbN
        rw [m_ncell_mk, m_nslot_mk] at hr
        refine W.sized fun hu => ?_
        have hS1 := hS.1
        have hsz := m_size hP hS hc0 hz hn.1 hn.2 hbs hf hu
        have hfl : f M.2.2.2.1.length = base + M.2.2.2.1.length := hf _ (by unfold m_scr; omega)
        refine W.newcK hx hb hown (hts _ (mwi_in hlk)) (hts _ hins) (hts _ hini) rfl hd (by omega) (by show slots + b ≤ R.slots; omega) hKn.2.1 hsz fun H1 kC hkC e1 z1 o1 => ?_
        have K := kk ls H1 locs (cells + 1) (slots + b) ⟨hl, hP.mk hsz (by omega) hfl o1 ?_, ⟨by omega, fun x h1 h2 => (o1 x (by omega)).trans (hS.2.1 x h1 h2), hS.2.2⟩, by rw [m_ncell_mk]; omega, by rw [m_nslot_mk]; omega, hz⟩
        · rw [show Value.ref (base + M.2.2.2.1.length) = m_rho f (.ref M.2.2.2.1.length) by show _ = Value.ref (f _); rw [hfl]]
          exact K
        · refine ⟨_, hq, (u_born ty hts hin hKn hkC e1 hty).to fun j hj => ?_⟩
          have e2 : vp_V ((List.range b).map (m_fv f (m_mk M (a + 5) b) a M.2.2.2.1.length)) j = m_fv f (m_mk M (a + 5) b) a M.2.2.2.1.length j := by
            unfold vp_V
            simp [List.getD, hj]
          show defaultValue (ty j) = vp_V ((List.range b).map (m_fv f (m_mk M (a + 5) b) a M.2.2.2.1.length)) j
          rw [e2]
          unfold m_fv m_mk
          simp only [m_row, if_true]
          rcases hkt j hj with h | h
          · have : m_isI a j = true := by unfold m_isI; rw [hq]; simpa using h.2
            rw [this, h.1]; rfl
          · have : m_isI a j = false := by unfold m_isI; rw [hq]; simpa using h.2
            rw [this]
            have h1 := h.1
            cases ht : ty j <;> rw [ht] at h1 <;> first | rfl | cases h1
      · cases hok
    · cases h
  case newarray t =>
    simp only [m_step] at h
    obtain ⟨n, r, e9, h9⟩ := m_i1_s h
    clear h
    subst e9
    split at h9
    · rename_i kd hkd
      split at h9
      · cases h9
      · rename_i hn
        simp only [m_new] at h9
        split at h9
        · rename_i hnx
          cases h9
          rw [m_ncell_mk, m_nslot_mk] at hr
          refine W.sized fun hu => ?_
          have hS1 := hS.1
          have hsz := m_size hP hS hc0 hz hnx.1 hnx.2 hbs hf hu
          have hfl : f M.2.2.2.1.length = base + M.2.2.2.1.length := hf _ (by unfold m_scr; omega)
          have harr := hts _ (mwi_in (show mwi len (.arrayClass (newarray.typeOf t)) = true from hok))
          refine va_newaK hx hb harr rfl hd rfl (fun q => hn (Or.inl q)) rfl ?_ (by omega) (by omega) hsz fun H1 cA e1 z1 o1 hAr hNm => ?_
          · have h2 : ¬ 100000 < n.toNatClampNeg := fun q => hn (Or.inr q)
            cases t <;> simp [m_akind] at hkd <;> simp [newarray.typeOf, componentBytes] <;> omega
          · have K := kk ls H1 locs (cells + 1) (slots + n.toNatClampNeg) ⟨hl, hP.mk hsz (by omega) hfl o1 ?_, ⟨by omega, fun x h1 h2 => (o1 x (by omega)).trans (hS.2.1 x h1 h2), hS.2.2⟩, by rw [m_ncell_mk]; omega, by rw [m_nslot_mk]; omega, hz⟩
            · rw [show Value.ref (base + M.2.2.2.1.length) = m_rho f (.ref M.2.2.2.1.length) by show _ = Value.ref (f _); rw [hfl]]
              exact K
            · cases t <;> simp only [m_akind, Option.some.injEq, reduceCtorEq] at hkd <;> subst hkd
              · have hc : cA = tc 1 := Option.some.inj (hNm.symm.trans (hK.2 1 _ rfl).2)
                subst hc
                show H1[base + M.2.2.2.1.length]? = some (vp_cell (tc 1) (n.toNatClampNeg, .inl ((m_mk M 1 n.toNatClampNeg).1 M.2.2.2.1.length)))
                rw [e1, show (m_mk M 1 n.toNatClampNeg).1 M.2.2.2.1.length = fun _ => 0 from m_row_eq]; rfl
              · have hc : cA = tc 0 := Option.some.inj (hNm.symm.trans (hK.2 0 _ rfl).2)
                subst hc
                show H1[base + M.2.2.2.1.length]? = some (vp_cell (tc 0) (n.toNatClampNeg, .inl ((m_mk M 0 n.toNatClampNeg).1 M.2.2.2.1.length)))
                rw [e1, show (m_mk M 0 n.toNatClampNeg).1 M.2.2.2.1.length = fun _ => 0 from m_row_eq]; rfl
              · have hc : cA = tc 2 := Option.some.inj (hNm.symm.trans (hK.2 2 _ rfl).2)
                subst hc
                show H1[base + M.2.2.2.1.length]? = some (vp_cell (tc 2) (n.toNatClampNeg, .inr (.inl ((m_mk M 2 n.toNatClampNeg).2.2.1 M.2.2.2.1.length))))
                rw [e1, show (m_mk M 2 n.toNatClampNeg).2.2.1 M.2.2.2.1.length = fun _ => 0 from m_row_eq]; rfl
        · cases h9
    · cases h9
  case anewarray i =>
    simp only [m_step] at h
    obtain ⟨n, r, e9, h9⟩ := m_i1_s h
    clear h
    subst e9
    split at h9
    · cases h9
    · rename_i hn
      simp only [m_new] at h9
      split at h9
      · rename_i hnx
        cases h9
        rw [m_ncell_mk, m_nslot_mk] at hr
        refine W.sized fun hu => ?_
        have hS1 := hS.1
        have hsz := m_size hP hS hc0 hz hnx.1 hnx.2 hbs hf hu
        have hfl : f M.2.2.2.1.length = base + M.2.2.2.1.length := hf _ (by unfold m_scr; omega)
        have h2 : ¬ 100000 < n.toNatClampNeg := fun q => hn (Or.inr (Or.inl q))
        have h3 : a = 3 ∨ a = 4 := Classical.byContradiction fun q => hn (Or.inr (Or.inr q))
        have hpu : ∀ (cl : ClassId) (q : Nat), q < base + M.2.2.2.1.length → (H.push { cls := cl, slots := Array.replicate n.toNatClampNeg .null, vm := .none })[q]? = H[q]? := fun cl q h => by rw [Array.getElem?_push, if_neg (by omega)]
        have hzz : ∀ cl : ClassId, (H.push ({ cls := cl, slots := Array.replicate n.toNatClampNeg .null, vm := .none } : Cell)).size = base + M.2.2.2.1.length + 1 := fun cl => by rw [Array.size_push, hsz]
        rcases h3 with rfl | rfl
        · simp only [m_okC, if_true, Bool.and_eq_true] at hok
          refine W.anew hx hb hown (hts _ (mw_in hok.1)) (hxs _ (mx_in hok.2)) rfl hd rfl (fun q => hn (Or.inl q)) (by omega) (by omega) (by omega) fun cA kA comp q1 q2 q3 q4 => ?_
          obtain ⟨kA', comp', -, -, -, hNm⟩ := (hK.2 3 _ rfl).2
          have hc : cA = tc 3 := Option.some.inj (q1.symm.trans hNm)
          subst hc
          have K := kk ls _ locs (cells + 1) (slots + n.toNatClampNeg) ⟨hl, hP.mk hsz (by omega) hfl (hpu (tc 3)) ?_, ⟨by rw [hzz]; omega, fun x h1 h2 => (hpu (tc 3) x (by omega)).trans (hS.2.1 x h1 h2), hS.2.2⟩, by rw [m_ncell_mk]; omega, by rw [m_nslot_mk]; omega, hz⟩
          · rw [show Value.ref H.size = m_rho f (.ref M.2.2.2.1.length) by show _ = Value.ref (f _); rw [hfl, hsz]]
            exact K
          · show (H.push _)[base + M.2.2.2.1.length]? = some (vp_cell (tc 3) (n.toNatClampNeg, .inr (.inr (.inr (.inr (fun k => ((m_mk M 3 n.toNatClampNeg).2.1 M.2.2.2.1.length k).map f))))))
            rw [show (m_mk M 3 n.toNatClampNeg).2.1 M.2.2.2.1.length = fun _ => none from m_row_eq, Array.getElem?_push, if_pos hsz.symm, arrV_new]; rfl
        · simp only [m_okC, if_neg (show ¬ (4 : Nat) = 3 by decide), if_true, Bool.and_eq_true] at hok
          refine W.anew hx hb hown (hts _ (mw_in hok.1)) (hxs _ (mx_in hok.2)) rfl hd rfl (fun q => hn (Or.inl q)) (by omega) (by omega) (by omega) fun cA kA comp q1 q2 q3 q4 => ?_
          obtain ⟨kA', comp', -, -, -, hNm⟩ := (hK.2 4 _ rfl).2
          have hc : cA = tc 4 := Option.some.inj (q1.symm.trans hNm)
          subst hc
          have K := kk ls _ locs (cells + 1) (slots + n.toNatClampNeg) ⟨hl, hP.mk hsz (by omega) hfl (hpu (tc 4)) ?_, ⟨by rw [hzz]; omega, fun x h1 h2 => (hpu (tc 4) x (by omega)).trans (hS.2.1 x h1 h2), hS.2.2⟩, by rw [m_ncell_mk]; omega, by rw [m_nslot_mk]; omega, hz⟩
          · rw [show Value.ref H.size = m_rho f (.ref M.2.2.2.1.length) by show _ = Value.ref (f _); rw [hfl, hsz]]
            exact K
          · show (H.push _)[base + M.2.2.2.1.length]? = some (vp_cell (tc 4) (n.toNatClampNeg, .inr (.inr (.inr (.inr (fun k => ((m_mk M 4 n.toNatClampNeg).2.1 M.2.2.2.1.length k).map f))))))
            rw [show (m_mk M 4 n.toNatClampNeg).2.1 M.2.2.2.1.length = fun _ => none from m_row_eq, Array.getElem?_push, if_pos hsz.symm, arrV_new]; rfl
      · cases h9
end SimC
