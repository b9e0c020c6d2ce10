/-! from the law's entry to the claim; what is left stands in m_OK (tables, by program) and m_Main (the small machine's run of the law) -/
def R_law : String := "DarnEggsLaw"
def lw_P (b : Addr) (xs : List Int32) (args : Array Value) (s : State) : Prop := args = #[.ref b] ∧ s.IntsAt b xs ∧ xs.length ≤ 4608 ∧ (Jvm.Cond.and given_1 narrow_1).before args s = true
def lw_Q (_ : Array Value) (s : State) (o : Outcome) (t : State) : Prop := o = .returned (some (.int 1)) ∧ Framed s o t [] 601024 7293034
def lw_Z (below : List Frame) (a : Array Value) (s : State) : State → Prop := fun t => ∃ o, t.status = .running ∧ Ended t below o ∧ lw_Q a s o t
def lw_At (p : Program) (s : State) (m : MethodId) (meth : Method) (c : Code) (b L : Nat) (xs : Nat → Int32) : Prop :=
  p.tables.exec = Jvm.exec ∧ c.code = code ∧ meth.sig.returnType = ret ∧ c.maxLocals = 8 ∧ s.vm.findClass R_law = some m.cls ∧ (∀ w ∈ lw_tbl, w.before #[Value.ref b] s = true) ∧ va_X b L xs s s.heap ∧ b < s.heap.size ∧ meth.locks = false ∧ (Jvm.Cond.and given_1 narrow_1).before #[Value.ref b] s = true ∧ meth.name = "law" ∧ c.exceptionTable.toList = []
def m_M0 : mM := (fun _ _ => 0, fun _ _ => none, fun _ _ => 0, [], 0)
/-- THE SMALL MACHINE runs the law to 1, on every script -/
def m_Main : Prop := ∀ X : Nat × (Nat → Int32), X.1 ≤ 4608 → ∃ (n : Nat) (M' : mM), m_run mP mT X n 1000 305 (0, m_ent 8 [.ref m_scr], [], m_M0) = some (.inl (some (.int 1)), M') ∧ m_ncell M' ≤ 601024 ∧ m_nslot M' ≤ 7293034
/-- the program's rows stand in the tables -/
def m_OK : Prop := (∀ (y : Nat) (mm : mMeth), mP[y]? = some mm → (∀ e ∈ mm.2.2.2.2.2.2, m_okOp mP mSx mm e = true) ∧ m_okH mm = true) ∧ (∀ (y z : Nat) (mm m1 : mMeth) (pc : Nat) (op : mOp), mP[y]? = some mm → mm.2.2.2.2.2.2.lookup pc = some op → m_ck op = 2 → mP[op.2.2.1]? = some m1 → m_okY m1 = true)
theorem m_law : mP[305]? = some (x, code, 8, (some .boolean), 113, [], po_305) := by rfl
set_option maxHeartbeats 4000000 in
theorem whole_open (hOK : m_OK) (hM : m_Main) {p : Program} {e : Env} {s : State} {m : MethodId} {below : List Frame} {meth : Method} {c : Code} (l : Launch) (hlt : l.stackTraces = false) {b L : Nat} {xs : Nat → Int32} (hL : L ≤ 4608) (C0 : lw_At p s m meth c b L xs) : W p l e room_1 s m #[Value.ref b] below meth c s.heap [] 0 0 (lw_Z below #[Value.ref b] s) (entryFrame m ([Value.ref b] : List Value).toArray 8) := by
  obtain ⟨hx, hb, hr, hml, hown, hts, hX, hbl, hlk, hgv, hnm, htab⟩ := C0
  obtain ⟨D, f, tc, hAmb, hfs⟩ := t_Amb hts hX hbl hgv
  obtain ⟨n, M', hrun, hc, hs⟩ := hM (L, xs) hL
  have hgw : ∀ w ∈ gw, w.before #[Value.ref b] s = true := fun w hw => hts w (List.mem_filter.mp hw).1
  have hPic : m_Pic D f tc s.heap.size m_M0 s.heap := ⟨fun k q h => by simp [m_ws, m_M0] at h, ⟨fun i j p q h => by simp [m_ws, m_M0] at h, fun k q h => by simp [m_ws, m_M0] at h⟩⟩
  have hsim := m_sim (l := l) (D := D) (f := f) (tc := tc) (base := s.heap.size) (X := (L, xs)) (sx := mSx) (tx := mT) (P := mP) hlt hOK.1 hOK.2 (fun p e R s m args below meth c mm C A hR => sj_TX mm C A hR) mc_CT n 1000 305 _ _ hrun _ m_law p e room_1 s m #[Value.ref b] below meth c ((lg_sl (([.ref m_scr] : List Value).map (m_rho f)) ++ List.replicate (8 - (lg_sl (([.ref m_scr] : List Value).map (m_rho f))).length) Slot.unset).toArray) s.heap [] 0 0 0 0
    ⟨hx, hb, hml, hown, hgw, hnm, hr, hlk, htab⟩ hAmb ⟨by show 20 + 1000 ≤ 2048; decide, by show 300 + 40 * 1000 ≤ 84000; decide⟩ ⟨by show m_ncell M' ≤ 601024 + 0; omega, by show m_nslot M' ≤ 7293034 + 0; omega⟩ ⟨m_Lv_ent (by show 1 ≤ 8; decide), hPic, va_S.rf, rfl, rfl, fun _ => Nat.le_refl _⟩
  have e1 : ([Value.ref b] : List Value) = ([.ref m_scr] : List Value).map (m_rho f) := by show _ = [Value.ref (f m_scr)]; rw [hfs]
  have e2 : entryFrame m ([Value.ref b] : List Value).toArray 8 = F0 m 0 ((lg_sl (([.ref m_scr] : List Value).map (m_rho f)) ++ List.replicate (8 - (lg_sl (([.ref m_scr] : List Value).map (m_rho f))).length) Slot.unset).toArray) [] := by rw [e1, lg_entry_eq]
  rw [e2]
  intro T hT X
  obtain ⟨t, a1, o, b1, b2, b3⟩ := hsim T hT X
  refine ⟨t, a1, o, b1, b2, ?_⟩
  rcases b3 with ⟨⟨⟨v, hv, ho, -⟩, -⟩, Ls, hF, hLs⟩ | ⟨q, -, E, ce, L9, ⟨k, hk, -⟩, -⟩
  · cases hv
    obtain ⟨f1, f2, f3⟩ := hF
    refine ⟨ho, f1, f2, f3.weaken (fun y hy hlt9 => absurd hlt9 (Nat.not_lt.mpr (hLs y hy))) ?_ ?_⟩
    · show m_ncell M' - 0 ≤ 601024; omega
    · show m_nslot M' - 0 ≤ 7293034; omega
  · cases hk
set_option maxHeartbeats 4000000 in
theorem lw_walk (hOK : m_OK) (hM : m_Main) (l : Launch) (hlt : l.stackTraces = false) (b : Addr) (xs : List Int32) : MetFree l x (headSpec (Jvm.Cond.code x code maxLocals ret :: tables_1) room_1) (lw_P b xs) (fun _ _ _ _ _ => True) lw_Q := by
  refine MetFree.of_bodyS (code := code) (maxLocals := maxLocals) (ret := ret) (by decide) ?_ ?_
  · intro args s m h hn
    obtain ⟨meth, c, h1, h2, h3, h4, h5, h6, -, -⟩ := Cond.code_spec hn (atoms_spec (ws := Jvm.Cond.code x code maxLocals ret :: tables_1) h _ List.mem_cons_self)
    exact ⟨meth, c, h1, h2, h3, h4, h5, h6⟩
  · intro p e s m args below meth c s₁ B hml0 hP _
    obtain ⟨rfl, hx, hbd, hgv⟩ := hP
    obtain ⟨scr, harrAt, hlist, hof, hsmall⟩ := hx
    obtain ⟨hcb, hkn, -, -⟩ := State.arrayAt?_spec harrAt
    have hown : s.vm.findClass R_law = some m.cls := findClass_of_methodNamed B.named
    have hts0 : ∀ c ∈ (Jvm.Cond.code x code maxLocals ret :: tables_1), c.before #[Value.ref b] s = true := atoms_spec (ws := Jvm.Cond.code x code maxLocals ret :: tables_1) B.pre
    have hts : ∀ w ∈ lw_tbl, w.before #[Value.ref b] s = true := k2_hts_sels lw_privs (fun w hw => hts0 w (List.mem_cons_of_mem _ hw)) lw_privs_ok
    have hml : c.maxLocals = 8 := B.maxLocals_eq (hts0 _ List.mem_cons_self)
    have X₀ : Stand p l e room_1 s m #[Value.ref b] below meth c s₁ [] 0 0 := Stand.of_body B
    have hh0 : s₁.heap = s.heap := by rw [B.state]; rfl
    have hsz : scr.slots.size = xs.length := by rw [← Array.length_toList, hlist, List.length_map]
    have hval : ∀ j : Nat, j < xs.length → scr.slots[j]? = some (.int (xs.getD j 0)) := fun j hj => by
      rw [← Array.getElem?_toList, hlist]
      simp [hj]
    have hbl : b < s.heap.size := (Array.getElem?_eq_some_iff.mp hcb).1
    have hX : va_X b xs.length (fun j => xs.getD j 0) s s.heap := ⟨scr, hcb, hof, hkn, hsz, hval⟩
    have htab : c.exceptionTable.toList = [] := by
      obtain ⟨meth9, c9, h1, h2, -, -, -, -, h7, -⟩ := Cond.code_spec B.named (hts0 _ List.mem_cons_self)
      cases Option.some.inj (h1.symm.trans B.method)
      cases Option.some.inj (h2.symm.trans (Stand.of_body B).code)
      rw [Array.isEmpty_iff.mp h7]
    have K : W p l e room_1 s m #[Value.ref b] below meth c s₁.heap [] 0 0 (lw_Z below #[Value.ref b] s) (entryFrame m ([Value.ref b] : List Value).toArray 8) := by
      rw [hh0]
      exact whole_open hOK hM l hlt hbd ⟨B.exec, B.bytes, B.returns, hml, hown, hts, hX, hbl, B.notSynchronized, hgv, (name_of_methodNamed B.named B.method).1, htab⟩
    obtain ⟨t, a1, o, b1, b2, b3⟩ := K s₁ rfl X₀
    exact ⟨t, o, a1, b1, b2, b3⟩
theorem lw_pre_spec {args : Array Value} {s : State} (h : (Jvm.Cond.and given_1 narrow_1).before args s = true) (hr : rest_1_c.before args s = true) : ∃ (b : Addr) (xs : List Int32), lw_P b xs args s := by
  have hs := flat_of_before _ h
  have hq := flat_of_before _ hr
  have hc : (Cond.count 1).before args s = true := hs _ (by decide +kernel)
  have harr : (Cond.arrayOf (.arg 0) .int).before args s = true := hs _ (by decide +kernel)
  have hle : (Cond.le (.length (.arg 0)) (.int 4608)).before args s = true := hs _ (by decide +kernel)
  have hlen : (Cond.isInt (.length (.arg 0))).before args s = true := hq _ (by decide +kernel)
  have hall : (Cond.all (.arg 0) (.isInt (.elem (.arg 0) (.index 0)))).before args s = true := hq _ (by decide +kernel)
  obtain ⟨b, xs, hb, hx⟩ := State.ints_of_pre rfl harr hlen hall
  have hsm : xs.length < 2 ^ 31 := hx.choose_spec.2.2.2
  have hev : (Term.length (.arg 0)).eval args s none [] s = some (.int xs.length.toInt32) := hx.length_eval hb
  have hv := Cond.le_ints hev (show (Term.int 4608).eval args s none [] s = some (.int 4608) from rfl)
  have hd : xs.length.toInt32 ≤ 4608 := by
    simpa [Cond.before, Cond.holds, hv] using hle
  have hN : xs.length ≤ 4608 := (Int32.ofNat_le_ofNat hsm (by decide)).mp (show Int32.ofNat xs.length ≤ Int32.ofNat 4608 from hd)
  exact ⟨b, xs, Cond.one_arg hc (show args[0]? = some (.ref b) from hb), hx, hN, h⟩
theorem lw_comes (hOK : m_OK) (hM : m_Main) (l : Launch) (hlt : l.stackTraces = false) : Comes l x (Jvm.Cond.code x code maxLocals ret :: tables_1) room_1 (fun tb e args s => Calls_1 tb e args s ∧ rest_1 tb e args s ∧ Pre_1 tb e args s)
    (fun _ _ args s o t => lw_Q args s o t) := by
  intro p e ha hc hk s m args below hf hfit hheap happ hpre
  obtain ⟨b, xs, hP⟩ := lw_pre_spec hpre.2.2 hpre.2.1
  obtain ⟨k, o, h1, h2, h3, hQ⟩ := lw_walk hOK hM l hlt b xs p e ha hc hk s m args below hf ((Spec.applies_iff_loose hf).mp happ).1 hP trivial
  exact ⟨k, o, h1, h2, h3, hQ⟩
theorem lw_frame {s t : State} {o : Outcome} {args : Array Value} (h : Framed s o t [] 601024 7293034) :
    Framed s o t (fieldLocs frame_1_writes args s ++ arrayLocs frame_1_arrays args s ++ staticLocs frame_1_statics s) 601024 7293034 := h
theorem lw_limb (hOK : m_OK) (hM : m_Main) (L : Cond) (hL : ∀ (args : Array Value) (s t : State), L.after args s (.returned (some (.int 1))) t = true) :
    ArmFor flags0 classFile x code maxLocals ret World_1 tables_1 room_1 Calls_1 rest_1 Pre_1
      (fun tb e a s o t => postC L tb e a s o t ∧ Framed s o t (fieldLocs frame_1_writes a s ++ arrayLocs frame_1_arrays a s ++ staticLocs frame_1_statics s) 601024 7293034) := by
  intro l hfl _ _ p e ha hc hk s m args below hf hfit hheap happ hpre
  have hlt : l.stackTraces = false := by unfold Launch.stackTraces; rw [hfl]; decide +kernel
  obtain ⟨k, o, h1, h2, h3, rfl, hF⟩ := lw_comes hOK hM l hlt p e ha hc hk s m args below hf hfit hheap happ hpre
  exact ⟨k, _, h1, h2, h3, hL args s _, lw_frame hF⟩
theorem i_open (hOK : m_OK) (hM : m_Main) : Claimed_1_1 ∧ Claimed_1_2 := ⟨lw_limb hOK hM limb_1_1 (fun args s t => by simp [limb_1_1, Cond.after, Cond.holds, Cond.value]), lw_limb hOK hM limb_1_2 (fun args s t => Cond.after_iff.mpr (by
  first | (rw [show limb_1_2 = Cond.eq .result (.int 1) from rfl, Cond.eq_ints (x := 1) (y := 1) rfl rfl]; simp; done) | (simp [limb_1_2, Cond.value, Term.eval]; done)))⟩
