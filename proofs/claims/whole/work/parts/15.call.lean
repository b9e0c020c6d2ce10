/-! calls -/
section SimF
variable {p : Program} {l : Launch} {e : Env} {R : Room} {s : State} {m : MethodId} {args : Array Value} {below : List Frame} {meth : Method} {c : Code} {H : Heap} {locs : List Loc} {cells slots : Nat} {Q : State → Prop}
variable {D : va_G} {f : Nat → Nat} {tc : Nat → ClassId} {base nL c0 s0 : Nat} {tx : List (List Int32)} {X : Nat × (Nat → Int32)} {sx : List (String × Nat × String)} {pc : Nat} {L : mL} {st : List Value} {M : mM} {ls : Array Slot}
/-- a method's run from its entry -/
def m_Body (l : Launch) (D : va_G) (f : Nat → Nat) (tc : Nat → ClassId) (base : Nat) (X : Nat × (Nat → Int32)) (sx : List (String × Nat × String)) (tx : List (List Int32)) (m1 : mMeth) (d1 : Nat) (As : List Value) (M : mM) (rr : mR) : Prop :=
  ∀ (p : Program) (e : Env) (R : Room) (s : State) (m : MethodId) (args : Array Value) (below : List Frame) (meth : Method) (c : Code), m_Ctx p s m args meth c m1 → m_Amb D f tc base X sx tx s → 20 + d1 ≤ R.frames ∧ 300 + 40 * d1 ≤ R.locals → m_ncell rr.2 ≤ R.cells + m_ncell M ∧ m_nslot rr.2 ≤ R.slots + m_nslot M → m_Pic D f tc base M s.heap → (M.2.2.2.2 = 0 → s.heap.size ≤ base + m_ncell M) →
    W p l e R s m args below meth c s.heap [] 0 0 (vx_MQ below (m_Qc D f tc base rr) (m_XC D f tc base rr) args s (m_ncell rr.2 - m_ncell M) (m_nslot rr.2 - m_nslot M) (fun q => base ≤ q)) (F0 m 0 ((lg_sl (As.map (m_rho f)) ++ List.replicate (m1.2.2.1 - (lg_sl (As.map (m_rho f))).length) Slot.unset).toArray) [])
/-- what a callee finds -/
def m_Pc (D : va_G) (f : Nat → Nat) (tc : Nat → ClassId) (base : Nat) (X : Nat × (Nat → Int32)) (sx : List (String × Nat × String)) (tx : List (List Int32)) (As : List Value) (M : mM) : Array Value → State → Prop := va_Pc (As.map (m_rho f)) (fun U => m_Pic D f tc base M U.heap ∧ m_Amb D f tc base X sx tx U ∧ (M.2.2.2.2 = 0 → U.heap.size ≤ base + m_ncell M))
def m_rm (d1 : Nat) (rr : mR) (M : mM) : Room := { frames := 20 + d1, cells := m_ncell rr.2 - m_ncell M, slots := m_nslot rr.2 - m_nslot M, locals := 300 + 40 * d1 }
theorem m_Pc_blind {As : List Value} : FrameBlind (m_Pc D f tc base X sx tx As M) := by
  intro a U g mk h
  obtain ⟨h1, h2, h3, h4⟩ := h
  exact ⟨h1, h2, h3.go (H := U.heap) (locs := []) rfl va_S.rf (State.WarmedH.refl U), h4⟩
theorem m_Met {m1 : mMeth} {d1 : Nat} {As : List Value} {rr : mR} (hB : m_Body l D f tc base X sx tx m1 d1 As M rr) (hy : plainName m1.1.cls = true) (hh : m1.2.2.2.2.2.1 = []) (hmono : m_ncell M ≤ m_ncell rr.2 ∧ m_nslot M ≤ m_nslot rr.2) :
    vx_Met l m1.1 (.code m1.1 m1.2.1 m1.2.2.1 m1.2.2.2.1 :: gw) (m_rm d1 rr M) (m_Pc D f tc base X sx tx As M) (m_Qc D f tc base rr) (m_XC D f tc base rr) (m_ncell rr.2 - m_ncell M) (m_nslot rr.2 - m_nslot M) (fun q => base ≤ q) := by
  refine vx_ofW hy rfl ?_
  intro p e s m args below meth c s₁ B hml ht hv
  obtain ⟨rfl, hP, hA, hz⟩ := hv
  have hts := atoms_spec (ws := .code m1.1 m1.2.1 m1.2.2.1 m1.2.2.2.1 :: gw) B.pre
  rw [lg_entry_eq]
  refine hB p e _ s m _ below meth c ⟨B.exec, B.bytes, hml, findClass_of_methodNamed B.named, fun w hw => hts w (List.mem_cons_of_mem _ hw), (name_of_methodNamed B.named B.method).1, B.returns, B.notSynchronized, ?_⟩ hA ⟨Nat.le_refl _, Nat.le_refl _⟩ ?_ hP hz
  · rw [show m_raw m1 = [] by unfold m_raw; rw [hh]; rfl]
    cases hq : c.exceptionTable.toList with
    | nil => rfl
    | cons x r => exact (ht x (by rw [hq]; exact List.mem_cons_self)).elim
  · show m_ncell rr.2 ≤ (m_ncell rr.2 - m_ncell M) + _ ∧ m_nslot rr.2 ≤ (m_nslot rr.2 - m_nslot M) + _
    omega
theorem m_MetN {m1 : mMeth} {d1 : Nat} {As : List Value} {rr : mR} {v : Option Value} (hv9 : rr.1 = .inl v) (hB : m_Body l D f tc base X sx tx m1 d1 As M rr) (hy : plainName m1.1.cls = true) (hh : m1.2.2.2.2.2.1 = []) (hmono : m_ncell M ≤ m_ncell rr.2 ∧ m_nslot M ≤ m_nslot rr.2) :
    Met l m1.1 (.code m1.1 m1.2.1 m1.2.2.1 m1.2.2.2.1 :: gw) (m_rm d1 rr M) (m_Pc D f tc base X sx tx As M) (m_Qc D f tc base rr) (m_ncell rr.2 - m_ncell M) (m_nslot rr.2 - m_nslot M) (fun q => base ≤ q) := by
  intro p e h1 h2 h3 s m args below h4 h5 h6 h7
  obtain ⟨n, o, a1, a2, a3, a4⟩ := m_Met hB hy hh hmono p e h1 h2 h3 s m args below h4 h5 h6 h7
  refine ⟨n, o, a1, a2, a3, ?_⟩
  rcases a4 with a4 | ⟨q, -, E, ce, L, ⟨k, hk, -⟩, -⟩
  · exact a4
  · rw [hv9] at hk; cases hk
theorem m_MetW {m1 : mMeth} {d1 : Nat} {As : List Value} {rr : mR} {v : Option Value} (hv9 : rr.1 = .inl v) (hB : m_Body l D f tc base X sx tx m1 d1 As M rr) (hy : plainName m1.1.cls = true) (hmono : m_ncell M ≤ m_ncell rr.2 ∧ m_nslot M ≤ m_nslot rr.2) :
    Met l m1.1 (.codeWith m1.1 m1.2.1 m1.2.2.1 m1.2.2.2.1 (m_raw m1) :: gw) (m_rm d1 rr M) (m_Pc D f tc base X sx tx As M) (m_Qc D f tc base rr) (m_ncell rr.2 - m_ncell M) (m_nslot rr.2 - m_nslot M) (fun q => base ≤ q) := by
  have hM : vx_Met l m1.1 (.codeWith m1.1 m1.2.1 m1.2.2.1 m1.2.2.2.1 (m_raw m1) :: gw) (m_rm d1 rr M) (m_Pc D f tc base X sx tx As M) (m_Qc D f tc base rr) (m_XC D f tc base rr) (m_ncell rr.2 - m_ncell M) (m_nslot rr.2 - m_nslot M) (fun q => base ≤ q) := by
    refine vx_ofWH hy rfl ?_
    intro p e s m args below meth c s₁ B hml hv
    obtain ⟨rfl, hP, hA, hz⟩ := hv
    have hts := atoms_spec (ws := .codeWith m1.1 m1.2.1 m1.2.2.1 m1.2.2.2.1 (m_raw m1) :: gw) B.pre
    rw [lg_entry_eq]
    refine hB p e _ s m _ below meth c ⟨B.exec, B.bytes, hml, findClass_of_methodNamed B.named, fun w hw => hts w (List.mem_cons_of_mem _ hw), (name_of_methodNamed B.named B.method).1, B.returns, B.notSynchronized, vx_table (x := m1.1) B (hts _ List.mem_cons_self)⟩ hA ⟨Nat.le_refl _, Nat.le_refl _⟩ ?_ hP hz
    show m_ncell rr.2 ≤ (m_ncell rr.2 - m_ncell M) + _ ∧ m_nslot rr.2 ≤ (m_nslot rr.2 - m_nslot M) + _
    omega
  intro p e h1 h2 h3 s m args below h4 h5 h6 h7
  obtain ⟨n, o, a1, a2, a3, a4⟩ := hM p e h1 h2 h3 s m args below h4 h5 h6 h7
  refine ⟨n, o, a1, a2, a3, ?_⟩
  rcases a4 with a4 | ⟨q, -, E, ce, L, ⟨k, hk, -⟩, -⟩
  · exact a4
  · rw [hv9] at hk; cases hk
theorem gw_good : GoodIn gw gw := fun w hw => ⟨hw, good_of_word (List.mem_filter.mp hw).2⟩
theorem gw_cons {w : Cond} (h : mw w = true) : GoodIn gw (w :: gw) := fun v hv => (List.mem_cons.mp hv).elim (fun q => by rw [q]; exact ⟨mw_in h, (gw_good _ (mw_in h)).2⟩) (gw_good v)
theorem m_optl {v : Option Value} {r : List Value} : (v.map (m_rho f)).toList ++ r.map (m_rho f) = (v.toList ++ r).map (m_rho f) := by cases v <;> rfl
set_option maxHeartbeats 4000000 in
theorem m_simK {P : List mMeth} {mm m1 : mMeth} {i : Instr} {len a b d1 : Nat} {rr : mR} (C : m_Ctx p s m args meth c mm) (hAmb : m_Amb D f tc base X sx tx s) (hd : decode mm.2.1 pc = .ok (i, m_ilen (i, len, a, b))) (hck : m_ck (i, len, a, b) = 2) (hm1 : P[a]? = some m1) (hok : m_okK P mm.1.cls (i, len, a, b) = true) (hokY : m_okY m1 = true) (hcall : m_call (i, len, a, b) m1 st M = true)
    (hB : m_Body l D f tc base X sx tx m1 d1 (st.take b).reverse M rr) (hmono : m_ncell M ≤ m_ncell rr.2 ∧ m_nslot M ≤ m_nslot rr.2) (hR : 20 + (d1 + 1) ≤ R.frames ∧ 300 + 40 * (d1 + 1) ≤ R.locals) (hroom : m_ncell rr.2 ≤ R.cells + c0 ∧ m_nslot rr.2 ≤ R.slots + s0)
    (hA : m_At D f tc base nL c0 s0 s.heap L M ls H locs cells slots) (hnL : nL = mm.2.2.1)
    (kr : ∀ v, rr.1 = .inl v → ∀ (H1 : Heap) (locs1 : List Loc) (cells1 slots1 : Nat), m_At D f tc base nL c0 s0 s.heap L rr.2 ls H1 locs1 cells1 slots1 → W p l e R s m args below meth c H1 locs1 cells1 slots1 Q (F0 m (pc + 3) ls ((v.toList ++ st.drop b).map (m_rho f))))
    (kx : ∀ k, rr.1 = .inr k → m_fixed (i, len, a, b) m1 = false → ∀ (H1 : Heap) (locs1 : List Loc) (cells1 slots1 : Nat) (q : Addr) (ce : Cell), m_At D f tc base nL c0 s0 s.heap L rr.2 ls H1 locs1 cells1 slots1 → H1[q]? = some ce → ce.vm = .none → s.vm.findClass (m_exc k) = some ce.cls → vx_W p l e R s m args below meth c H1 locs1 cells1 slots1 Q (F0 m pc ls ((st.drop b).map (m_rho f))) q)
    (hfx : m_fixed (i, len, a, b) m1 = true → ∃ v, rr.1 = .inl v) (hx0 : M.2.2.2.2 ≤ rr.2.2.2.2.2) : W p l e R s m args below meth c H locs cells slots Q (F0 m pc ls (st.map (m_rho f))) := by
  obtain ⟨hx, hb, hml, hown, hts, hname, hret, hlk, htab⟩ := C
  obtain ⟨hl, hP, hS, hc0, hs0, hz⟩ := hA
  refine W.sized fun hu => ?_
  have hzH : M.2.2.2.2 = 0 → H.size ≤ base + m_ncell M := fun q => by have := hz q; omega
  simp only [m_call, Bool.and_eq_true, decide_eq_true_eq] at hcall
  obtain ⟨⟨hbl, hdl, hsl⟩, hrcv⟩ := hcall
  obtain ⟨As, hAs⟩ : ∃ As, As = (st.take b).reverse := ⟨_, rfl⟩
  rw [← hAs] at hB hrcv hsl
  have hAslen : As.length = b := by rw [hAs, List.length_reverse, List.length_take]; omega
  have hst : st.map (m_rho f) = (As.map (m_rho f)).reverse ++ (st.drop b).map (m_rho f) := by
    rw [hAs, List.map_reverse, List.reverse_reverse, ← List.map_append, List.take_append_drop]
  have hcs := m_catsum f (st.drop b) 4 hdl
  have hpre : ∀ U : State, U.heap = H → s.WarmedH U.vm → m_Pc D f tc base X sx tx As M (As.map (m_rho f)).toArray U := fun U hU hW => ⟨rfl, by rw [hU]; exact hP, hAmb.go hU hS hW, by rw [hU]; exact hzH⟩
  have hfit : cells + (m_ncell rr.2 - m_ncell M) ≤ R.cells ∧ slots + (m_nslot rr.2 - m_nslot M) ≤ R.slots := by omega
  have hat : ∀ (H1 : Heap) (locs1 : List Loc), m_Pic D f tc base rr.2 H1 → va_S (fun q => base ≤ q) s.heap H1 locs1 → m_At D f tc base nL c0 s0 s.heap L rr.2 ls H1 locs1 (cells + (m_ncell rr.2 - m_ncell M)) (slots + (m_nslot rr.2 - m_nslot M)) := fun H1 locs1 hP1 hS1 => ⟨hl, hP1, hS1, by omega, by omega, fun q => hz (by omega)⟩
  simp only [m_okK, hm1] at hok
  simp only [m_okY, Bool.and_eq_true, decide_eq_true_eq] at hokY
  obtain ⟨⟨⟨⟨⟨hMH, hplain⟩, hmaxL⟩, hini⟩, hcode⟩, hkind⟩ := hokY
  have hRR : (m_rm d1 rr M).frames + 1 ≤ R.frames ∧ 8 + (m1.2.2.1 + 11) + (m_rm d1 rr M).locals ≤ R.locals := by
    show 20 + d1 + 1 ≤ R.frames ∧ 8 + (m1.2.2.1 + 11) + (300 + 40 * d1) ≤ R.locals
    omega
  have hsz : ls.size = mm.2.2.1 := by rw [← hnL]; exact hl.2.1
  cases i <;> try (simp [m_ck] at hck; done)
  case new ix =>
    simp only [m_ck] at hck
    split at hck <;> cases hck
  case invokevirtual ix =>
    dsimp only at hok
    simp only [Bool.and_eq_true, decide_eq_true_eq, List.isEmpty_iff] at hok
    obtain ⟨⟨⟨⟨⟨hcl, hni⟩, hhe⟩, hci⟩, hlink⟩, hdesc, hb1⟩ := hok
    rw [if_pos (by rw [hhe]; rfl)] at hcode
    rw [if_neg (by omega)] at hkind
    simp only [Bool.and_eq_true, Bool.or_eq_true, decide_eq_true_eq] at hkind
    obtain ⟨hinst, hsel⟩ := hkind
    have hsel : mw (.selects m1.1.cls m1.1 m1.1) = true := hsel.elim (fun q => absurd q hni) id
    simp only [m_rcv] at hrcv
    split at hrcv
    · rename_i x9 rd As'
      split at hrcv
      · rename_i kd n hsh
        simp only [decide_eq_true_eq] at hrcv
        subst hrcv
        obtain ⟨q, hq, hqn⟩ : ∃ q, vwCl[m1.2.2.2.2.1]? = some q ∧ q.1 = m1.1.cls := by
          cases hq : vwCl[m1.2.2.2.2.1]? with
          | none => rw [hq] at hci; cases hci
          | some q => rw [hq] at hci; exact ⟨q, rfl, Option.some.inj hci⟩
        have hrec := va_recv hAmb.1 hP.1 hq (m_ws_at (f := f) (tc := tc) hsh)
        rw [hqn] at hrec
        have hM := m_Met hB hplain hhe hmono
        have hgi : GoodIn gw (wsV mm.1.cls ix m1.1.cls m1.1 (.code m1.1 m1.2.1 m1.2.2.1 m1.2.2.2.1 :: gw)) := by
          intro w hw
          simp only [wsV, List.cons_append, List.nil_append, List.mem_cons] at hw
          rcases hw with rfl | rfl | rfl | rfl | rfl | hw
          · exact gw_good _ (mwi_in hlink)
          · exact gw_good _ (mw_in hinst)
          · exact gw_good _ (mw_in hsel)
          · exact gw_good _ (mw_in hini)
          · exact gw_good _ (mw_in hcode)
          · exact gw_good _ hw
        have hrun := vx_runV (As := As'.map (m_rho f)) (rest := (st.drop b).map (m_rho f)) (g := F0 m pc ls (st.map (m_rho f))) (b := f rd) (n := b - 1) (locs := locs) (cells := cells) (slots := slots) (l := l) (e := e) (below := below) (meth := meth)
          ⟨hx, hb, hml, hown, hts⟩ hM (cwV (b - 1) hts hgi rfl rfl rfl ⟨rfl, hMH.1, hMH.2, hdesc⟩ hRR) ⟨m_Pc_blind, hrec, hpre⟩ rfl (by rw [List.length_map]; rw [List.length_cons] at hAslen; omega) hsz (by show st.map (m_rho f) = _; rw [hst]; simp [m_rho]) (lv_room (by omega)) hd hfit
        refine m_goon hrun hS (fun v H1 locs1 hv hP1 hS1 => ?_) (fun k H1 locs1 q ce hk hP1 hS1 h1 h2 h3 => ?_)
        · rw [m_optl]
          exact kr v hv H1 locs1 _ _ (hat H1 locs1 hP1 hS1)
        · exact kx k hk (by simp [m_fixed, hhe]) H1 locs1 _ _ q ce (hat H1 locs1 hP1 hS1) h1 h2 h3
      · cases hrcv
    · cases hrcv
  case invokestatic ix =>
    dsimp only at hok
    simp only [Bool.and_eq_true, decide_eq_true_eq] at hok
    obtain ⟨⟨hcl, hlink⟩, hdesc⟩ := hok
    rw [if_pos hcl] at hkind
    have hstat := hkind
    split at hcode
    · rename_i hhe
      have hhe := List.isEmpty_iff.mp hhe
      have hM := m_Met hB hplain hhe hmono
      have hrun := vx_runS (As := As.map (m_rho f)) (rest := (st.drop b).map (m_rho f)) (g := F0 m pc ls (st.map (m_rho f))) (n := b) (locs := locs) (cells := cells) (slots := slots) (l := l) (e := e) (below := below) (meth := meth)
        ⟨hx, hb, hml, hown, hts⟩ hM ⟨callB_of b hts (gw_cons hcode) rfl rfl rfl (hts _ (mw_in hini)) (hts _ (mwi_in hlink)) ⟨hMH.1, hMH.2, hdesc⟩ hRR, hts _ (mw_in hstat)⟩ ⟨m_Pc_blind, hpre⟩ rfl (by rw [List.length_map]; exact hAslen) hsz hst (lv_room (by omega)) hd hfit
      refine m_goon hrun hS (fun v H1 locs1 hv hP1 hS1 => ?_) (fun k H1 locs1 q ce hk hP1 hS1 h1 h2 h3 => ?_)
      · rw [m_optl]
        exact kr v hv H1 locs1 _ _ (hat H1 locs1 hP1 hS1)
      · exact kx k hk (by simp [m_fixed, hhe]) H1 locs1 _ _ q ce (hat H1 locs1 hP1 hS1) h1 h2 h3
    · rename_i hhe
      obtain ⟨v9, hv9⟩ := hfx (by simpa [m_fixed] using hhe)
      have hM := m_MetW hv9 hB hplain hmono
      have hgi : GoodIn gw (va_wsS mm.1.cls ix m1.1 (.codeWith m1.1 m1.2.1 m1.2.2.1 m1.2.2.2.1 (m_raw m1) :: gw)) := by
        intro w hw
        simp only [va_wsS, List.cons_append, List.nil_append, List.mem_cons] at hw
        rcases hw with rfl | rfl | rfl | rfl | hw
        · exact gw_good _ (mwi_in hlink)
        · exact gw_good _ (mw_in hstat)
        · exact gw_good _ (mw_in hini)
        · exact gw_good _ (mw_in hcode)
        · exact gw_good _ hw
      have hrun := vx_runSW (As := As.map (m_rho f)) (rest := (st.drop b).map (m_rho f)) (g := F0 m pc ls (st.map (m_rho f))) (n := b) (locs := locs) (cells := cells) (slots := slots) (l := l) (e := e) (below := below) (meth := meth)
        ⟨hx, hb, hml, hown, hts⟩ hM (vx_cwSW b hts hgi rfl rfl rfl ⟨hMH.1, hMH.2, hdesc⟩ hRR) ⟨m_Pc_blind, hpre⟩ rfl (by rw [List.length_map]; exact hAslen) hsz hst (lv_room (by omega)) hd hfit
      refine m_goonN hrun hS (fun v H1 locs1 hv hP1 hS1 => ?_)
      rw [m_optl]
      exact kr v hv H1 locs1 _ _ (hat H1 locs1 hP1 hS1)
  case invokespecial ix =>
    dsimp only at hok
    simp only [Bool.and_eq_true, decide_eq_true_eq, List.isEmpty_iff, Bool.or_eq_true] at hok
    obtain ⟨⟨⟨⟨hcl, hhe⟩, hnm, hrn⟩, hlink⟩, hdesc, hb1⟩ := hok
    rw [if_pos (by rw [hhe]; rfl), hrn] at hcode
    rw [if_neg (by omega)] at hkind
    simp only [Bool.and_eq_true] at hkind
    have hinst := hkind.1
    simp only [m_rcv] at hrcv
    split at hrcv
    · rename_i x9 rd As'
      obtain ⟨v9, hv9⟩ := hfx rfl
      have hM := m_MetN hv9 hB hplain hhe hmono
      rw [hrn] at hM
      have hlenA : (As'.map (m_rho f)).length = b - 1 := by rw [List.length_map]; rw [List.length_cons] at hAslen; omega
      have hstk : (F0 m pc ls (st.map (m_rho f))).stack = (As'.map (m_rho f)).reverse ++ .ref (f rd) :: (st.drop b).map (m_rho f) := by show st.map (m_rho f) = _; rw [hst]; simp [m_rho]
      rcases hlink with hlink | hlink
      · have hrun := va_runI (As := As'.map (m_rho f)) (rest := (st.drop b).map (m_rho f)) (g := F0 m pc ls (st.map (m_rho f))) (b := f rd) (n := b - 1) (locs := locs) (cells := cells) (slots := slots) (l := l) (e := e) (below := below) (meth := meth)
          ⟨hx, hb, hml, hown, hts⟩ hM (cwI (b - 1) hts (gw_cons hcode) rfl rfl rfl (hts _ (mw_in hini)) (hts _ (mwi_in hlink)) (hts _ (mw_in hinst)) hnm ⟨hMH.1, hMH.2, hdesc⟩ hRR) ⟨m_Pc_blind, hpre⟩ rfl hlenA hsz hstk (lv_room (by omega)) hd hfit
        refine m_goonN hrun hS (fun v H1 locs1 hv hP1 hS1 => ?_)
        rw [m_optl]
        exact kr v hv H1 locs1 _ _ (hat H1 locs1 hP1 hS1)
      · have hrun := va_runIN (As := As'.map (m_rho f)) (rest := (st.drop b).map (m_rho f)) (g := F0 m pc ls (st.map (m_rho f))) (b := f rd) (n := b - 1) (locs := locs) (cells := cells) (slots := slots) (l := l) (e := e) (below := below) (meth := meth)
          ⟨hx, hb, hml, hown, hts⟩ hM ⟨va_cnB (b - 1) hts (gw_cons hcode) rfl rfl rfl (hAmb.2.2.2.2.1 _ (mx_in hlink)) (hts _ (mw_in hini)) ⟨hMH.1, hMH.2, hdesc⟩ hRR, hnm, hts _ (mw_in hinst)⟩ ⟨m_Pc_blind, hpre⟩ rfl hlenA hsz hstk (lv_room (by omega)) hd hfit
        refine m_goonN hrun hS (fun v H1 locs1 hv hP1 hS1 => ?_)
        rw [m_optl]
        exact kr v hv H1 locs1 _ _ (hat H1 locs1 hP1 hS1)
    · cases hrcv
end SimF
