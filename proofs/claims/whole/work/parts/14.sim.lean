/-! THE SMALL MACHINE'S RUNS ARE THE MACHINE'S -/
/-- what must stand in the tables for a call -/
def m_okK (P : List mMeth) (own : String) (op : mOp) : Bool := match P[op.2.2.1]? with
  | none => false
  | some m1 => match op.1 with
    | .invokevirtual i => decide (m1.2.2.2.2.1 < 100 ∧ m1.1.name ≠ "<init>") && m1.2.2.2.2.2.1.isEmpty && decide ((vwCl[m1.2.2.2.2.1]?).map (fun q => q.1) = some m1.1.cls) && mwi op.2.1 (.methodLink own i m1.1) && decide ((parseMethodDescriptor m1.1.desc).map (fun d => d.parameters.length) = some (op.2.2.2 - 1) ∧ 1 ≤ op.2.2.2)
    | .invokestatic i => decide (100 ≤ m1.2.2.2.2.1) && mwi op.2.1 (.methodLink own i m1.1) && decide ((parseMethodDescriptor m1.1.desc).map (fun d => d.parameters.length) = some op.2.2.2)
    | .invokespecial i => decide (m1.2.2.2.2.1 < 100) && m1.2.2.2.2.2.1.isEmpty && decide (m1.1.name = "<init>" ∧ m1.2.2.2.1 = none) && (mwi op.2.1 (.methodLink own i m1.1) || mx (.methodLinkNest own i m1.1 "DarnEggs")) && decide ((parseMethodDescriptor m1.1.desc).map (fun d => d.parameters.length) = some (op.2.2.2 - 1) ∧ 1 ≤ op.2.2.2)
    | _ => false
/-- what must stand in the tables for a method that is called (static ones have 100 more as their class number) -/
def m_okY (m1 : mMeth) : Bool := decide (m1.1.cls ≠ "java/lang/invoke/MethodHandle" ∧ m1.1.cls ≠ "java/lang/invoke/VarHandle") && plainName m1.1.cls && decide (m1.2.2.1 ≤ 13) && mw (.initialized m1.1.cls) && (if m1.2.2.2.2.2.1.isEmpty = true then mw (.code m1.1 m1.2.1 m1.2.2.1 m1.2.2.2.1) else mw (.codeWith m1.1 m1.2.1 m1.2.2.1 m1.2.2.2.1 (m_raw m1))) && (if 100 ≤ m1.2.2.2.2.1 then mw (.static m1.1) else mw (.instanceMethod m1.1) && (decide (m1.1.name = "<init>") || mw (.selects m1.1.cls m1.1 m1.1)))
def m_names : List String := ["java/lang/RuntimeException", "java/lang/Exception"]
/-- for a throw: new, dup, the constructor, athrow -/
def m_okT (mm : mMeth) (pc : Nat) (op : mOp) : Bool := match op.1 with
  | .new ik => mm.2.2.2.2.2.1.isEmpty && decide (decode mm.2.1 (pc + 3) = .ok (.dup, 1) ∧ decode mm.2.1 (pc + 4) = .ok (.invokespecial op.2.2.2, 3) ∧ decode mm.2.1 (pc + 7) = .ok (.athrow, 1)) && Bundle.fit (m_exc (op.2.2.1 - 2000)) && mw (.classLink mm.1.cls ik (m_exc (op.2.2.1 - 2000))) && mw (.initialized (m_exc (op.2.2.1 - 2000))) && (vx_at0 mm.1.cls op.2.2.2 (m_exc (op.2.2.1 - 2000)) m_names).all (fun w => (mw w || mx w) && vx_ot w)
  | _ => false
def m_okOp (P : List mMeth) (sx : List (String × Nat × String)) (mm : mMeth) (e : Nat × mOp) : Bool := decide (decode mm.2.1 e.1 = .ok (e.2.1, m_ilen e.2)) && match m_ck e.2 with
  | 0 => m_isA e.2.1 || m_isB e.2.1 || (m_isC e.2.1 && m_okC mm.1.cls mm.1.name e.2) || (m_isD e.2.1 && m_okD sx mm.1.cls e.2)
  | 1 => true
  | 2 => m_okK P mm.1.cls e.2
  | _ => m_okT mm e.1 e.2
section SimE
variable {p : Program} {l : Launch} {e : Env} {R : Room} {s : State} {m : MethodId} {args : Array Value} {below : List Frame} {meth : Method} {c : Code} {H : Heap} {locs : List Loc} {cells slots : Nat} {Q : State → Prop}
variable {D : va_G} {f : Nat → Nat} {tc : Nat → ClassId} {base nL c0 s0 : Nat} {cc : ByteArray} {tx : List (List Int32)} {X : Nat × (Nat → Int32)} {sx : List (String × Nat × String)} {pc : Nat} {L : mL} {st : List Value} {M : mM} {ls : Array Slot}
/-- behind a call that may throw -/
theorem m_goon {rr : mR} {mc ms : Nat} {a : Array Value} {st0 rest : List Value} (hr : vx_Run p l e R s m args below meth c H locs cells slots mc ms (F0 m pc ls st0) rest (m_Qc D f tc base rr a) (m_XC D f tc base rr) (fun q => base ≤ q)) (hS : va_S (fun q => base ≤ q) s.heap H locs)
    (kr : ∀ (v : Option Value) (H1 : Heap) (locs1 : List Loc), rr.1 = .inl v → m_Pic D f tc base rr.2 H1 → va_S (fun q => base ≤ q) s.heap H1 locs1 → W p l e R s m args below meth c H1 locs1 (cells + mc) (slots + ms) Q (F0 m (pc + 3) ls ((v.map (m_rho f)).toList ++ rest)))
    (kx : ∀ (k : Nat) (H1 : Heap) (locs1 : List Loc) (q : Addr) (ce : Cell), rr.1 = .inr k → m_Pic D f tc base rr.2 H1 → va_S (fun q => base ≤ q) s.heap H1 locs1 → H1[q]? = some ce → ce.vm = .none → s.vm.findClass (m_exc k) = some ce.cls → vx_W p l e R s m args below meth c H1 locs1 (cells + mc) (slots + ms) Q (F0 m pc ls rest) q) :
    W p l e R s m args below meth c H locs cells slots Q (F0 m pc ls st0) := by
  intro T hT X
  rcases hr T hT X with ⟨v, st₀, t, T', L, h0, X', hL, e1, e2, ⟨⟨w, hw, hv, hp⟩, hF⟩, st⟩ | ⟨q, st₀, t, T', L, E, ce, h0, X', hL, e1, e2, ⟨k, hk, rfl, hp, hF⟩, hce, hcv, hcl, st⟩
  · cases hv
    obtain ⟨k1, k2, k3⟩ := vx_keep h0 e1 hS (fun _ _ h => h) (fun _ h => h) hL hF
    obtain ⟨t2, a1, b1⟩ := kr w T'.heap (locs ++ L) hw (by rw [e1]; exact hp) k3 T' rfl X'
    exact ⟨t2, st t2 a1, b1⟩
  · obtain ⟨k1, k2, k3⟩ := vx_keep h0 e1 hS (fun _ _ h => h) (fun _ h => h) hL hF
    obtain ⟨t2, a1, b1⟩ := kx k T'.heap (locs ++ L) q ce hk (by rw [e1]; exact hp) k3 (by rw [e1]; exact hce) hcv hcl T' rfl X'
    exact ⟨t2, st.trans a1, b1⟩
/-- behind a call that returns -/
theorem m_goonN {rr : mR} {mc ms : Nat} {a : Array Value} {st0 rest : List Value} (hr : va_Run p l e R s m args below meth c H locs cells slots mc ms (F0 m pc ls st0) rest (m_Qc D f tc base rr a) (fun q => base ≤ q)) (hS : va_S (fun q => base ≤ q) s.heap H locs)
    (kr : ∀ (v : Option Value) (H1 : Heap) (locs1 : List Loc), rr.1 = .inl v → m_Pic D f tc base rr.2 H1 → va_S (fun q => base ≤ q) s.heap H1 locs1 → W p l e R s m args below meth c H1 locs1 (cells + mc) (slots + ms) Q (F0 m (pc + 3) ls ((v.map (m_rho f)).toList ++ rest))) :
    W p l e R s m args below meth c H locs cells slots Q (F0 m pc ls st0) := by
  intro T hT X
  obtain ⟨v, st₀, t, T', L, h0, X', hL, e1, e2, ⟨⟨w, hw, hv, hp⟩, hF⟩, st⟩ := hr T hT X
  cases hv
  obtain ⟨k1, k2, k3⟩ := vx_keep h0 e1 hS (fun _ _ h => h) (fun _ h => h) hL hF
  obtain ⟨t2, a1, b1⟩ := kr w T'.heap (locs ++ L) hw (by rw [e1]; exact hp) k3 T' rfl X'
  exact ⟨t2, st t2 a1, b1⟩
/-- a body that doesn't throw -/
theorem m_noX {rr : mR} {v : Option Value} {mc ms : Nat} {g : JFrame} (hv : rr.1 = .inl v) (k : W p l e R s m args below meth c H locs cells slots (vx_MQ below (m_Qc D f tc base rr) (m_XC D f tc base rr) args s mc ms (fun q => base ≤ q)) g) : W p l e R s m args below meth c H locs cells slots (MQ below (m_Qc D f tc base rr) args s mc ms (fun q => base ≤ q)) g := by
  intro T hT X
  obtain ⟨t, a1, o, b1, b2, b3⟩ := k T hT X
  rcases b3 with b3 | ⟨q, -, E, ce, L, ⟨k, hk, -⟩, -⟩
  · exact ⟨t, a1, o, b1, b2, b3.1, b3.2⟩
  · rw [hv] at hk; cases hk
set_option maxHeartbeats 4000000 in
/-- the returns -/
theorem m_simR {mm : mMeth} {i : Instr} {len a b : Nat} {v : Option Value} (hx : p.tables.exec = Jvm.exec) (hb : c.code = cc) (hd : decode cc pc = .ok (i, m_ilen (i, len, a, b))) (hr : meth.sig.returnType = mm.2.2.2.1) (hlk : meth.locks = false) (h : m_ret mm (i, len, a, b) st = some v)
    (hA : m_At D f tc base nL c0 s0 s.heap L M ls H locs cells slots) :
    W p l e R s m args below meth c H locs cells slots (vx_MQ below (m_Qc D f tc base (.inl v, M)) (m_XC D f tc base (.inl v, M)) args s (m_ncell M - c0) (m_nslot M - s0) (fun q => base ≤ q)) (F0 m pc ls (st.map (m_rho f))) := by
  obtain ⟨hl, hP, hS, hc0, hs0, hz⟩ := hA
  rw [show m_ncell M - c0 = cells by omega, show m_nslot M - s0 = slots by omega]
  refine vx_ret ?_
  have hq : ∀ t : State, t.heap = H → s.WarmedH t.vm → m_Qc D f tc base (.inl v, M) args s (.returned (v.map (m_rho f))) t := fun t ht _ => ⟨⟨v, rfl, rfl, by rw [ht]; exact hP⟩, hS.F ht⟩
  unfold m_ret at h
  dsimp only at h
  split at h
  · split at h
    · rename_i hret
      cases h
      exact W.iret hx hb (hr.trans hret) hq hS.2.2 hd hlk
    · rename_i hret
      split at h
      · rename_i h01
        cases h
        refine W.zret (ty := .boolean) hx hb (hr.trans hret) ?_ hq hS.2.2 hd hlk
        rcases h01 with rfl | rfl <;> rfl
      · cases h
    · cases h
  · split at h
    · rename_i hret
      cases h
      exact W.lret hx hb (hr.trans hret) hq hS.2.2 hd hlk
    · cases h
  · split at h
    · rename_i hret
      cases h
      exact W.vret hx hb (hr.trans hret) hq hS.2.2 hd hlk
    · cases h
  · cases h
end SimE
