/-! the throw, and all together -/
def m_okH (mm : mMeth) : Bool := (mm.2.2.2.2.2.1.all fun h => decide (h.2.2.2.2.2 ≠ 0 ∧ (h.2.2.1 = 1 ∨ h.2.2.1 = 2)) && mw (.classLink mm.1.cls h.2.2.2.2.2 (m_exc h.2.2.1)) && mx (.castable (m_exc h.2.2.1) (m_exc h.2.2.1)) && match mm.2.2.2.2.2.2.lookup h.2.2.2.2.1 with
  | some (.astore j, _) => decide (j < mm.2.2.1 ∧ h.2.2.2.1 = h.2.2.2.2.1 + 2 ∧ decode mm.2.1 h.2.2.2.2.1 = .ok (.astore j, 2))
  | some (.astore_n j, _) => decide ((j : Nat) < mm.2.2.1 ∧ h.2.2.2.1 = h.2.2.2.2.1 + 1 ∧ decode mm.2.1 h.2.2.2.2.1 = .ok (.astore_n j, 1))
  | _ => false) && decide (mm.2.2.2.2.2.1.Pairwise (fun a b => a.2.2.1 ≤ b.2.2.1))
theorem mwi_mw {i : Nat} {w : Cond} (h : mwi i w = true) : mw w = true := by
  unfold mwi at h
  unfold mw
  simp only [Bool.and_eq_true, decide_eq_true_eq] at h ⊢
  exact ⟨List.mem_of_getElem? h.1, h.2⟩
def m_okYi (i1 i2 i3 i4 : Nat) (m1 : mMeth) : Bool := decide (m1.1.cls ≠ "java/lang/invoke/MethodHandle" ∧ m1.1.cls ≠ "java/lang/invoke/VarHandle") && plainName m1.1.cls && decide (m1.2.2.1 ≤ 13) && mwi i1 (.initialized m1.1.cls) && (if m1.2.2.2.2.2.1.isEmpty = true then mwi i2 (.code m1.1 m1.2.1 m1.2.2.1 m1.2.2.2.1) else mwi i2 (.codeWith m1.1 m1.2.1 m1.2.2.1 m1.2.2.2.1 (m_raw m1))) && (if 100 ≤ m1.2.2.2.2.1 then mwi i3 (.static m1.1) else mwi i3 (.instanceMethod m1.1) && (decide (m1.1.name = "<init>") || mwi i4 (.selects m1.1.cls m1.1 m1.1)))
theorem m_okY_of {i1 i2 i3 i4 : Nat} {m1 : mMeth} (h : m_okYi i1 i2 i3 i4 m1 = true) : m_okY m1 = true := by
  unfold m_okYi at h
  unfold m_okY
  simp only [Bool.and_eq_true] at h ⊢
  obtain ⟨⟨⟨⟨⟨h1, h2⟩, h3⟩, h4⟩, h5⟩, h6⟩ := h
  refine ⟨⟨⟨⟨⟨h1, h2⟩, h3⟩, mwi_mw h4⟩, ?_⟩, ?_⟩
  · split at h5
    · rename_i q; rw [if_pos q]; exact mwi_mw h5
    · rename_i q; rw [if_neg q]; exact mwi_mw h5
  · split at h6
    · rename_i q; rw [if_pos q]; exact mwi_mw h6
    · rename_i q
      rw [if_neg q]
      simp only [Bool.and_eq_true, Bool.or_eq_true] at h6 ⊢
      exact ⟨mwi_mw h6.1, h6.2.elim Or.inl (fun z => Or.inr (mwi_mw z))⟩
section SimG
variable {p : Program} {l : Launch} {e : Env} {R : Room} {s : State} {m : MethodId} {args : Array Value} {below : List Frame} {meth : Method} {c : Code} {H : Heap} {locs : List Loc} {cells slots : Nat} {Q : State → Prop}
variable {D : va_G} {f : Nat → Nat} {tc : Nat → ClassId} {base nL c0 s0 : Nat} {tx : List (List Int32)} {X : Nat × (Nat → Int32)} {sx : List (String × Nat × String)} {pc : Nat} {L : mL} {st : List Value} {M : mM} {ls : Array Slot}
set_option maxHeartbeats 4000000 in
theorem m_simT {mm : mMeth} {i : Instr} {len a b : Nat} (hlt : l.stackTraces = false) (C : m_Ctx p s m args meth c mm) (hAmb : m_Amb D f tc base X sx tx s) (hd : decode mm.2.1 pc = .ok (i, m_ilen (i, len, a, b))) (hok : m_okT mm pc (i, len, a, b) = true) (hst : st.length ≤ 8) (hR : 20 ≤ R.frames ∧ 300 ≤ R.locals)
    (hroom : m_ncell (m_thr M) ≤ R.cells + c0 ∧ m_nslot (m_thr M) ≤ R.slots + s0) (hA : m_At D f tc base mm.2.2.1 c0 s0 s.heap L M ls H locs cells slots) :
    W p l e R s m args below meth c H locs cells slots (vx_MQ below (m_Qc D f tc base (.inr (a - 2000), m_thr M)) (m_XC D f tc base (.inr (a - 2000), m_thr M)) args s (m_ncell (m_thr M) - c0) (m_nslot (m_thr M) - s0) (fun q => base ≤ q)) (F0 m pc ls (st.map (m_rho f))) := by
  obtain ⟨hx, hb, hml, hown, hts, hname, hret, hlk, htab⟩ := C
  obtain ⟨hl, hP, hS, hc0, hs0, hz⟩ := hA
  have n1 : m_ncell (m_thr M) = m_ncell M + 1 := by unfold m_ncell m_thr; dsimp only; omega
  have n2 : m_nslot (m_thr M) = m_nslot M + 6 := by unfold m_nslot m_thr; dsimp only; omega
  unfold m_okT at hok
  split at hok
  · rename_i ik hi
    dsimp only at hi
    subst hi
    dsimp only at hok
    simp only [Bool.and_eq_true, decide_eq_true_eq, List.isEmpty_iff, List.all_eq_true] at hok
    obtain ⟨⟨⟨⟨⟨hhe, d3, d4, d7⟩, hfit⟩, hcl⟩, hini⟩, hall⟩ := hok
    have hcs := m_catsum f st 8 hst
    have hw : ∀ w ∈ vx_at0 mm.1.cls b (m_exc (a - 2000)) m_names, w.before args s = true := fun w hw => by
      have h1 := (hall w hw).1
      rw [Bool.or_eq_true] at h1
      rcases h1 with h1 | h1
      · exact hts _ (mw_in h1)
      · exact xw_use (mx_in h1) (hAmb.2.2.2.2.1 _ (mx_in h1))
    refine vx_throw0 (names := m_names) (ik := ik) (ic := b) hx hb hlt hown hfit (by decide) (hts _ (mw_in hcl)) (hts _ (mw_in hini)) hw (fun w hw => ?_) hAmb.2.2.2.2.2.1.1 hAmb.2.2.2.2.2.1.2 hS (hl.2.1.trans hml.symm) hd d3 d4 d7 ?_ (by show 2 + 3 < R.frames; omega) (by show _ + (13 * (2 + 1) + 42) ≤ R.locals; omega) (by omega) (by omega) hlk ?_ hS.2.2 (by omega) (by omega)
    · simp only [List.mem_cons] at hw
      rcases hw with rfl | rfl | hw
      · rfl
      · rfl
      · exact (hall w hw).2
    · rw [htab, show m_raw mm = [] by unfold m_raw; rw [hhe]; rfl]
      intro x hx; cases hx
    · intro t hal hsz ho
      refine ⟨a - 2000, rfl, rfl, ⟨hP.1.kept (fun k q hk => ho _ (hP.1 k q hk).lt), hP.2⟩, Nat.le_trans hS.1 hsz, fun q h1 h2 => ?_⟩
      rw [ho q (Nat.lt_of_lt_of_le h1 hS.1)]
      exact hS.2.1 q h1 h2
  · cases hok
/-- catching -/
def m_CT (l : Launch) (D : va_G) (f : Nat → Nat) (tc : Nat → ClassId) (base : Nat) (X : Nat × (Nat → Int32)) (sx : List (String × Nat × String)) (tx : List (List Int32)) : Prop :=
  ∀ (p : Program) (e : Env) (R : Room) (s : State) (m : MethodId) (args : Array Value) (below : List Frame) (meth : Method) (c : Code) (mm : mMeth), m_Ctx p s m args meth c mm → m_Amb D f tc base X sx tx s → m_okH mm = true → ∀ (pc k t : Nat) (H : Heap) (locs : List Loc) (cells slots : Nat) (Q : State → Prop) (ls : Array Slot) (L : mL) (rest : List Value) (q : Addr) (ce : Cell),
    m_hand mm.2.2.2.2.2.1 pc k = some t → H[q]? = some ce → ce.vm = .none → s.vm.findClass (m_exc k) = some ce.cls → m_Lv f mm.2.2.1 ls L → (∀ ls' : Array Slot, m_Lv f mm.2.2.1 ls' (List.replicate L.length none) → W p l e R s m args below meth c H locs cells slots Q (F0 m t ls' [])) → vx_W p l e R s m args below meth c H locs cells slots Q (F0 m pc ls rest) q
set_option maxHeartbeats 4000000 in
theorem m_sim {P : List mMeth} (hlt : l.stackTraces = false) (OK : ∀ (y : Nat) (mm : mMeth), P[y]? = some mm → (∀ e ∈ mm.2.2.2.2.2.2, m_okOp P sx mm e = true) ∧ m_okH mm = true) (OKY : ∀ (y z : Nat) (mm m1 : mMeth) (pc : Nat) (op : mOp), P[y]? = some mm → mm.2.2.2.2.2.2.lookup pc = some op → m_ck op = 2 → P[op.2.2.1]? = some m1 → m_okY m1 = true)
    (HTX : ∀ (p : Program) (e : Env) (R : Room) (s : State) (m : MethodId) (args : Array Value) (below : List Frame) (meth : Method) (c : Code) (mm : mMeth), m_Ctx p s m args meth c mm → m_Amb D f tc base X sx tx s → 20 ≤ R.frames ∧ 300 ≤ R.locals → m_TX p l e R s m args below meth c mm.2.1 mm.1.cls f base mm.2.2.1 tx)
    (HCT : m_CT l D f tc base X sx tx) : ∀ (n d y : Nat) (cf : mC) (r : mR), m_run P tx X n d y cf = some r → ∀ mm : mMeth, P[y]? = some mm → ∀ (p : Program) (e : Env) (R : Room) (s : State) (m : MethodId) (args : Array Value) (below : List Frame) (meth : Method) (c : Code) (ls : Array Slot) (H : Heap) (locs : List Loc) (cells slots c0 s0 : Nat), m_Ctx p s m args meth c mm → m_Amb D f tc base X sx tx s → 20 + d ≤ R.frames ∧ 300 + 40 * d ≤ R.locals → m_ncell r.2 ≤ R.cells + c0 ∧ m_nslot r.2 ≤ R.slots + s0 →
      m_At D f tc base mm.2.2.1 c0 s0 s.heap cf.2.1 cf.2.2.2 ls H locs cells slots →
      W p l e R s m args below meth c H locs cells slots (vx_MQ below (m_Qc D f tc base r) (m_XC D f tc base r) args s (m_ncell r.2 - c0) (m_nslot r.2 - s0) (fun q => base ≤ q)) (F0 m cf.1 ls (cf.2.2.1.map (m_rho f))) := by
  intro n
  induction n with
  | zero => intro d y cf r h; simp [m_run] at h
  | succ n ih =>
    intro d y cf r h mm hmm p e R s m args below meth c ls H locs cells slots c0 s0 C hAmb hR hroom hA
    obtain ⟨pc, L, st, M⟩ := cf
    obtain ⟨mm', op, hmm', hop, hcase⟩ := m_run_s h
    cases hmm.symm.trans hmm'
    have hmem := m_lookup_mem _ _ _ hop
    have hok := (OK y mm hmm).1 _ hmem
    obtain ⟨i, len, a, b⟩ := op
    simp only [m_okOp, Bool.and_eq_true, decide_eq_true_eq] at hok
    obtain ⟨hd, hok⟩ := hok
    dsimp only at hcase hA ⊢
    rcases hcase with ⟨hck, c1, hstep, hrun⟩ | ⟨hck, v, hret, rfl⟩ | ⟨hck, d1, m1, res, rfl, hm1, hcall, hres, hcont⟩ | ⟨hck, hlen, rfl⟩
    · rw [hck] at hok
      try dsimp only at hok
      have hmn := m_run_mono _ _ _ _ _ hrun
      have kk : m_K p l e R s m args below meth c (vx_MQ below (m_Qc D f tc base r) (m_XC D f tc base r) args s (m_ncell r.2 - c0) (m_nslot r.2 - s0) (fun q => base ≤ q)) D f tc base mm.2.2.1 c0 s0 s.heap c1 := fun ls' H' locs' cells' slots' hA' => ih d y c1 r hrun mm hmm p e R s m args below meth c ls' H' locs' cells' slots' c0 s0 C hAmb hR hroom hA'
      obtain ⟨hx, hb, hml, hown, hts, hname, hret, hlk, htab⟩ := id C
      simp only [Bool.or_eq_true, Bool.and_eq_true] at hok
      rcases hok with ((h1 | h1) | ⟨h1, h2⟩) | ⟨h1, h2⟩
      · exact m_simA hx hb hd hstep hA kk h1
      · exact m_simB hx hb hd hstep hAmb.1 hAmb.2.2.1.2 (Nat.lt_of_lt_of_le hAmb.2.2.1.1 hAmb.2.1) (Nat.not_le.mpr hAmb.2.2.1.1) hA kk h1
      · exact m_simC hx hb hd hstep hts (fun w hw => xw_use hw (hAmb.2.2.2.2.1 w hw)) hown (by rw [hname]; exact h2) hAmb.1 hAmb.2.2.2.2.2.2.2.2 hAmb.2.1 (by omega) hA kk h1
      · exact m_simD hx hb hml hd hstep hts hown h2 hAmb.1 hAmb.2.2.2.1 (HTX p e R s m args below meth c mm C hAmb (by omega)) (by omega) (by omega) hA kk h1
    · exact m_simR C.1 C.2.1 hd C.2.2.2.2.2.2.1 C.2.2.2.2.2.2.2.1 hret hA
    · rw [hck] at hok
      try dsimp only at hok
      try dsimp only at hm1
      try dsimp only at hcall
      try dsimp only at hres
      try dsimp only at hcont
      have hmn := m_run_mono _ _ _ _ _ hres
      dsimp only at hmn
      have hB : m_Body l D f tc base X sx tx m1 d1 (st.take b).reverse M res := by
        intro p e R s m args below meth c C' hAmb' hR' hroom' hP' hz'
        have hsl : (m_slots (st.take b).reverse).length ≤ m1.2.2.1 := by
          simp only [m_call, Bool.and_eq_true, decide_eq_true_eq] at hcall
          exact hcall.1.2.2
        exact ih d1 a _ res hres m1 hm1 p e R s m args below meth c _ s.heap [] 0 0 (m_ncell M) (m_nslot M) C' hAmb' hR' hroom' ⟨m_Lv_ent hsl, hP', va_S.rf, Nat.zero_add _, Nat.zero_add _, hz'⟩
      have hbound : m_ncell res.2 ≤ R.cells + c0 ∧ m_nslot res.2 ≤ R.slots + s0 := by
        rcases hcont with ⟨v, hv, h2⟩ | ⟨k, hk, -, -, rfl⟩ | ⟨k, t, hk, -, -, h2⟩
        · have := m_run_mono _ _ _ _ _ h2; dsimp only at this; omega
        · exact hroom
        · have := m_run_mono _ _ _ _ _ h2; dsimp only at this; omega
      refine m_simK (P := P) C hAmb hd hck hm1 hok (OKY y 0 mm m1 _ _ hmm hop hck hm1) hcall hB ⟨hmn.1, hmn.2.1⟩ hR hbound hA rfl (fun v hv H1 locs1 cells1 slots1 hA1 => ?_) (fun k hk hnf H1 locs1 cells1 slots1 q ce hA1 hc1 hc2 hc3 => ?_) (fun hf1 => ?_) hmn.2.2
      · rcases hcont with ⟨v', hv', h2⟩ | ⟨k, hk, -⟩ | ⟨k, t, hk, -⟩
        · cases hv.symm.trans hv'
          exact ih _ y _ r h2 mm hmm p e R s m args below meth c ls H1 locs1 cells1 slots1 c0 s0 C hAmb hR hroom hA1
        · rw [hv] at hk; cases hk
        · rw [hv] at hk; cases hk
      · rcases hcont with ⟨v', hv', -⟩ | ⟨k', hk', -, hhe, rfl⟩ | ⟨k', t, hk', -, hh, h2⟩
        · rw [hk] at hv'; cases hv'
        · cases hk.symm.trans hk'
          obtain ⟨hl1, hP1, hS1, hcc, hss, hz1⟩ := hA1
          refine vx_out ?_ C.2.2.2.2.2.2.2.1 hc1 hc2 hc3 (fun t ht _ => ⟨k, rfl, rfl, by rw [ht]; exact hP1, hS1.F ht⟩) hS1.2.2 (by dsimp only; omega) (by dsimp only; omega)
          rw [C.2.2.2.2.2.2.2.2, show m_raw mm = [] by unfold m_raw; rw [hhe]; rfl]
          intro x hx; cases hx
        · cases hk.symm.trans hk'
          obtain ⟨hl1, hP1, hS1, hcc, hss, hz1⟩ := hA1
          exact HCT p e R s m args below meth c mm C hAmb (OK y mm hmm).2 pc k t H1 locs1 cells1 slots1 _ ls L _ q ce hh hc1 hc2 hc3 hl1 (fun ls' hl' => ih _ y _ r h2 mm hmm p e R s m args below meth c ls' H1 locs1 cells1 slots1 c0 s0 C hAmb hR hroom ⟨hl', hP1, hS1, hcc, hss, hz1⟩)
      · rcases hcont with ⟨v', hv', -⟩ | ⟨k', hk', hf2, -⟩ | ⟨k', t, hk', hf2, -⟩
        · exact ⟨v', hv'⟩
        · rw [hf1] at hf2; cases hf2
        · rw [hf1] at hf2; cases hf2
    · have hok2 : m_okT mm pc (i, len, a, b) = true := by
        split at hok
        · rename_i q; omega
        · rename_i q; omega
        · rename_i q; omega
        · exact hok
      exact m_simT hlt C hAmb hd hok2 hlen (by omega) hroom hA
end SimG
