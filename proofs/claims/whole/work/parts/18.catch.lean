/-! catching: the table's rows, one behind the other, in the small machine's words -/
section Catch
/-- the search through the rows ends at a handler -/
def mc_Ok (s0 : State) (pl : Platform) (d : ClassId) (pc : Nat) (thrown : ClassId) (hp : Nat) : List ExceptionTableEntry → Prop
  | [] => False
  | x :: t => (covers x pc = false ∧ mc_Ok s0 pl d pc thrown hp t) ∨ (covers x pc = true ∧ x.catchType ≠ 0 ∧ ∃ k : ClassId, s0.vm.ClassLinks pl d x.catchType k ∧ ((s0.vm.assignable thrown k = true ∧ x.handlerPc = hp) ∨ (s0.vm.assignable thrown k = false ∧ mc_Ok s0 pl d pc thrown hp t)))
theorem mc_row {Q : Handler → Pre} {E : CtlPost} {e : Env} {d : Bool} {acts : List Action} {S : State} {g : JFrame} {a : Addr} {x : ExceptionTableEntry} {t : List ExceptionTableEntry} {k : ClassId} {cell : Cell} (hx : covers x g.pc = true) (h0 : x.catchType ≠ 0)
    (hl : S.vm.ClassLinks e.platform g.method.cls x.catchType k) (hcell : S.heap[a]? = some cell) (hobj : ∀ z, cell.vm ≠ .statics z) (hk : ∃ z, S.vm.classes[cell.cls]? = some z) (hc : ∃ z, S.vm.classes[k]? = some z) :
    Sem.wp (findHandler.go g a (x :: t)) Q E e d acts S ↔ if S.vm.assignable cell.cls k = true then Q (.found x.handlerPc) d acts (S.setVm (S.vm.noted g.method.cls x.catchType (.cls k))) else Sem.wp (findHandler.go g a t) Q E e d acts (S.setVm (S.vm.noted g.method.cls x.catchType (.cls k))) := by
  simp only [covers] at hx
  obtain ⟨ha, ht⟩ := (resolveClass_links e.toSetting hl).op (op := VmOp.resolveClass g.method.cls x.catchType) rfl
  have al : S.vm.Alike (S.vm.noted g.method.cls x.catchType (.cls k)) := (Vm.Alike.refl S.vm).noted _ _ _
  obtain ⟨z1, hz1⟩ := hk
  obtain ⟨z2, hz2⟩ := hc
  obtain ⟨y1, hy1, -⟩ := al.2.2 _ _ hz1
  obtain ⟨y2, hy2, -⟩ := al.2.2 _ _ hz2
  have has : (S.vm.noted g.method.cls x.catchType (.cls k)).assignable cell.cls k = S.vm.assignable cell.cls k := al.assignable _ _
  cases hq : S.vm.assignable cell.cls k <;> rw [hq] at has <;> simp [findHandler.go, hx, h0, ha, ht, hcell, hobj, hy1, hy2, has, VmOp.dirties, VmOp.acts]
theorem mc_go {e : Env} {s0 : State} {g : JFrame} {a : Addr} {cell : Cell} {hp : Nat} (hobj : ∀ z, cell.vm ≠ .statics z) (hk0 : ∃ z, s0.vm.classes[cell.cls]? = some z) :
    ∀ (rows : List ExceptionTableEntry) (S : State), mc_Ok s0 e.platform g.method.cls g.pc cell.cls hp rows → s0.WarmedH S.vm → S.heap[a]? = some cell → ∃ vm' : Vm, s0.WarmedH vm' ∧ ∀ (Q : Handler → Pre) (E : CtlPost) (d : Bool) (acts : List Action), Sem.wp (findHandler.go g a rows) Q E e d acts S ↔ Q (.found hp) d acts (S.setVm vm') := by
  intro rows
  induction rows with
  | nil => intro S h; exact h.elim
  | cons x t ih =>
    intro S h hW hcell
    rcases h with ⟨hx, h⟩ | ⟨hx, h0, k, hl, h⟩
    · obtain ⟨vm', hW', hq⟩ := ih S h hW hcell
      exact ⟨vm', hW', fun Q E d acts => (_root_.Jvm.W.findHandler_go_skip hx).trans (hq Q E d acts)⟩
    · obtain ⟨z0, hz0⟩ := hk0
      obtain ⟨y0, hy0, -⟩ := hW.alike.2.2 _ _ hz0
      obtain ⟨dk, _, _, kt, hd, _, _, _, _, hkt, _, hop⟩ := hl.here
      obtain ⟨y1, hy1, -⟩ := hW.alike.2.2 _ _ hkt
      have hWn := hW.noted hd hop (State.rightAt_cls hl)
      have hrow := fun (Q : Handler → Pre) (E : CtlPost) (d : Bool) (acts : List Action) => mc_row (Q := Q) (E := E) (d := d) (acts := acts) (t := t) hx h0 (hW.classLinks hl) hcell hobj ⟨y0, hy0⟩ ⟨y1, hy1⟩
      have has : S.vm.assignable cell.cls k = s0.vm.assignable cell.cls k := by rw [hW.alike.assignable]
      rcases h with ⟨hf, rfl⟩ | ⟨hf, h⟩
      · exact ⟨_, hWn, fun Q E d acts => by rw [hrow Q E d acts, has, hf, if_pos rfl]⟩
      · obtain ⟨vm', hW', hq⟩ := ih (S.setVm (S.vm.noted g.method.cls x.catchType (.cls k))) h hWn hcell
        exact ⟨vm', hW', fun Q E d acts => by rw [hrow Q E d acts, has, hf, if_neg (by decide)]; exact hq Q E d acts⟩
theorem mc_step {e : Env} {S : State} {a : Addr} {g : JFrame} {r : List Frame} {hp : Nat} {vm' : Vm} (hf : ∀ (Q : Handler → Pre) (E : CtlPost) (d : Bool) (acts : List Action), Sem.wp (findHandler g a) Q E e d acts S ↔ Q (.found hp) d acts (S.setVm vm')) :
    (stepThrowing e S a (.java g :: r)).1 = (S.setVm vm').setFrames (.java { g with pc := hp, stack := [.ref a] } :: r) := by
  simp only [stepThrowing, searchFrame, vmDo]
  generalize hr : Sem.go _ e false [] S = res
  obtain ⟨as, rfl, -⟩ := Sem.eq_ok_of hr (a := Handler.found hp) (s' := S.setVm vm') (acts' := []) (by simp [hf _ _ _ _])
  rfl
variable {p : Program} {l : Launch} {e : Env} {R : Room} {s : State} {m : MethodId} {args : Array Value} {below : List Frame} {meth : Method} {c : Code} {H : Heap} {locs : List Loc} {cells slots : Nat} {Q : State → Prop}
theorem mc_catch {pc hp : Nat} {ls : Array Slot} {rest : List Value} {q : Addr} {ce : Cell} (hcell : H[q]? = some ce) (hv : ce.vm = .none) (hk0 : ∃ z, s.vm.classes[ce.cls]? = some z)
    (hok : ∀ pl : Platform, pl.magicAccessors = ({} : Platform).magicAccessors → mc_Ok s pl m.cls pc ce.cls hp c.exceptionTable.toList)
    (kk : W p l e R s m args below meth c H locs cells slots Q (F0 m hp ls [.ref q])) : vx_W p l e R s m args below meth c H locs cells slots Q (F0 m pc ls rest) q := by
  intro T hT X
  have hpl : e.platform.magicAccessors = ({} : Platform).magicAccessors := by rw [X.admits.platform]
  obtain ⟨vm', hW', hf⟩ := mc_go (e := e) (s0 := s) (g := F0 m pc ls rest) (a := q) (cell := ce) (hp := hp) (by rw [hv]; intro z h; cases h) hk0 c.exceptionTable.toList ((T.setTop (F0 m pc ls rest)).pushFrame (.throwing q)) (hok e.platform hpl) X.warmed (by show T.heap[q]? = some ce; rw [hT]; exact hcell)
  obtain ⟨t, a1, b1⟩ := kk (T.setVm vm') hT (X.noted hW')
  refine ⟨t, ?_, b1⟩
  have hm : ((T.setTop (F0 m pc ls rest)).pushFrame (.throwing q)).vm.method? (F0 m pc ls rest).method = some meth := X.method'
  have hfind : ∀ (Q : Handler → Pre) (E : CtlPost) (d : Bool) (acts : List Action), Sem.wp (findHandler (F0 m pc ls rest) q) Q E e d acts ((T.setTop (F0 m pc ls rest)).pushFrame (.throwing q)) ↔ Q (.found hp) d acts (((T.setTop (F0 m pc ls rest)).pushFrame (.throwing q)).setVm vm') := fun Q E d acts => (_root_.Jvm.W.findHandler_eq hm X.code).trans (hf Q E d acts)
  obtain ⟨hgo, hw⟩ := X.here.throwing (g := F0 m pc ls rest) q
  refine Steps.head hgo hw ?_
  rw [stepThread_throwing (frames_entered X.here.top _), mc_step hfind]
  obtain ⟨g0, hg0⟩ := Option.isSome_iff_exists.mp X.here.top
  obtain ⟨r, hr⟩ := State.topJava?_eq_some.mp hg0
  have hr' : (T.setVm vm').frames = .java g0 :: r := hr
  rw [State.setTop_of_frames _ hr'] at a1
  have e1 : (((T.setTop (F0 m pc ls rest)).pushFrame (.throwing q)).setVm vm').setFrames (.java { F0 m pc ls rest with pc := hp, stack := [.ref q] } :: T.frames.tail) = (T.setVm vm').setFrames (.java (F0 m hp ls [.ref q]) :: r) := by
    rw [hr, List.tail_cons, State.setTop_of_frames _ hr]
    unfold State.pushFrame
    have h1 : ∀ (u : State) (F G : List Frame), ((u.setFrames F).setVm vm').setFrames G = (u.setVm vm').setFrames G := fun u F G => by
      have : (u.setFrames F).setVm vm' = (u.setVm vm').setFrames F := rfl
      rw [this, State.setFrames_setFrames]
    rw [h1, h1]
  rw [e1]
  exact a1
/-- the rows of a method's table -/
theorem mc_rows {D : va_G} {f : Nat → Nat} {tc : Nat → ClassId} {base : Nat} {X : Nat × (Nat → Int32)} {sx : List (String × Nat × String)} {tx : List (List Int32)} {own : String} {thrown : ClassId} {k pc : Nat} (hAmb : m_Amb D f tc base X sx tx s) (hown : s.vm.findClass own = some m.cls) (hts : ∀ w ∈ gw, w.before args s = true) (hth : s.vm.findClass (m_exc k) = some thrown) (hk : k = 1 ∨ k = 2) {pl : Platform} (hpl : pl.magicAccessors = ({} : Platform).magicAccessors) :
    ∀ (hh : List mH), (∀ h ∈ hh, h.2.2.2.2.2 ≠ 0 ∧ (h.2.2.1 = 1 ∨ h.2.2.1 = 2) ∧ .classLink own h.2.2.2.2.2 (m_exc h.2.2.1) ∈ gw ∧ .castable (m_exc h.2.2.1) (m_exc h.2.2.1) ∈ xw) → hh.Pairwise (fun a b => a.2.2.1 ≤ b.2.2.1) → ∀ h0, (hh.find? fun h => decide (h.1 ≤ pc ∧ pc < h.2.1 ∧ h.2.2.1 = k)) = some h0 →
      mc_Ok s pl m.cls pc thrown h0.2.2.2.2.1 (tableOf (hh.map fun h => (h.1, h.2.1, h.2.2.2.2.1, h.2.2.2.2.2))) := by
  intro hh
  induction hh with
  | nil => intro _ _ h0 h; cases h
  | cons h hh ih =>
    intro hall hkd h0 hfd
    obtain ⟨w1, w2, w3, w4⟩ := hall h List.mem_cons_self
    rw [List.find?_cons] at hfd
    by_cases hcov : h.1 ≤ pc ∧ pc < h.2.1
    · have hc : covers (⟨h.1, h.2.1, h.2.2.2.2.1, h.2.2.2.2.2⟩ : ExceptionTableEntry) pc = true := by simp [covers, hcov.1, hcov.2]
      obtain ⟨k5, hk5, hcl5⟩ := Cond.classLink_spec hown (hts _ w3) pl hpl
      by_cases hke : h.2.2.1 = k
      · rw [show decide (h.1 ≤ pc ∧ pc < h.2.1 ∧ h.2.2.1 = k) = true by simp [hcov.1, hcov.2, hke]] at hfd
        cases hfd
        refine Or.inr ⟨hc, w1, k5, hcl5, Or.inl ⟨?_, rfl⟩⟩
        obtain ⟨c3, c4, hc3, hc4, hasg⟩ := Cond.castable_spec (xw_use (a := args) w4 (hAmb.2.2.2.2.1 _ w4))
        rw [hke] at hc3 hc4 hk5
        cases Option.some.inj (hc3.symm.trans hth)
        cases Option.some.inj (hc4.symm.trans hk5)
        exact hasg
      · rw [show decide (h.1 ≤ pc ∧ pc < h.2.1 ∧ h.2.2.1 = k) = false by simp [hke]] at hfd
        have hm0 := List.mem_of_find?_eq_some hfd
        have hk9 : h0.2.2.1 = k := by have := List.find?_some hfd; simp only [decide_eq_true_eq] at this; exact this.2.2
        have hle := (List.pairwise_cons.mp hkd).1 h0 hm0
        have q1 : k = 2 := by omega
        have q2 : h.2.2.1 = 1 := by omega
        · refine Or.inr ⟨hc, w1, k5, hcl5, Or.inr ⟨?_, ih (fun z hz => hall z (List.mem_cons_of_mem _ hz)) (List.pairwise_cons.mp hkd).2 h0 hfd⟩⟩
          obtain ⟨a8, b8, n1, n2, n3⟩ := hAmb.2.2.2.2.2.2.2.1
          rw [q2] at hk5
          rw [q1] at hth
          cases Option.some.inj (n1.symm.trans hth)
          cases Option.some.inj (n2.symm.trans hk5)
          exact n3
    · have hc : covers (⟨h.1, h.2.1, h.2.2.2.2.1, h.2.2.2.2.2⟩ : ExceptionTableEntry) pc = false := by
        simp only [covers, Bool.and_eq_false_iff, decide_eq_false_iff_not]
        by_cases q : h.1 ≤ pc
        · exact Or.inr (fun z => hcov ⟨q, z⟩)
        · exact Or.inl q
      rw [show decide (h.1 ≤ pc ∧ pc < h.2.1 ∧ h.2.2.1 = k) = false by simp only [decide_eq_false_iff_not]; exact fun z => hcov ⟨z.1, z.2.1⟩] at hfd
      exact Or.inl ⟨hc, ih (fun z hz => hall z (List.mem_cons_of_mem _ hz)) (List.pairwise_cons.mp hkd).2 h0 hfd⟩
theorem mc_CT {D : va_G} {f : Nat → Nat} {tc : Nat → ClassId} {base : Nat} {X : Nat × (Nat → Int32)} {sx : List (String × Nat × String)} {tx : List (List Int32)} : m_CT l D f tc base X sx tx := by
  intro p e R s m args below meth c mm C hAmb hok pc k t H locs cells slots Q ls L rest q ce hh h1 h2 h3 hl kk
  obtain ⟨hx, hb, hml, hown, hts, hname, hret, hlk, htab⟩ := C
  simp only [m_okH, Bool.and_eq_true, decide_eq_true_eq, List.all_eq_true] at hok
  unfold m_hand at hh
  obtain ⟨h0, hf0, rfl⟩ := Option.map_eq_some_iff.mp hh
  have hm0 := List.mem_of_find?_eq_some hf0
  have hk9 : h0.2.2.1 = k := by have := List.find?_some hf0; simp only [decide_eq_true_eq] at this; exact this.2.2
  obtain ⟨⟨⟨⟨w1, w2⟩, w3⟩, w4⟩, w5⟩ := hok.1 h0 hm0
  have hn : ∀ ls' : Array Slot, lv_has ls' mm.2.2.1 [] → m_Lv f mm.2.2.1 ls' (List.replicate L.length none) := fun ls' h => by
    refine ⟨by rw [List.length_replicate]; exact hl.1, h.1, h.2.1, ?_⟩
    rintro ⟨j, w⟩ hq
    obtain ⟨v, hv, -⟩ := m_lv_mem.mp hq
    rw [List.getElem?_replicate] at hv
    split at hv <;> cases hv
  have hl0 : lv_has ls mm.2.2.1 [] := ⟨hl.2.1, hl.2.2.1, fun q hq => by cases hq⟩
  refine mc_catch (hp := h0.2.2.2.2.1) h1 h2 (by obtain ⟨k9, h9, -⟩ := Vm.findClass_spec h3; exact ⟨k9, h9⟩) (fun pl hpl => ?_) ?_
  · rw [htab]
    exact mc_rows hAmb hown hts h3 (by rw [← hk9]; exact w2) hpl mm.2.2.2.2.2.1 (fun h hm => by
      obtain ⟨⟨⟨⟨a1, a2⟩, a3⟩, a4⟩, -⟩ := hok.1 h hm
      exact ⟨a1, a2, mw_in a3, mx_in a4⟩) hok.2 h0 hf0
  · split at w5
    · rename_i j z hlook
      simp only [decide_eq_true_eq] at w5
      rw [w5.2.1] at kk
      exact lv_astore (lv := []) hx hb w5.2.2 hl0 w5.1 rfl (fun ls' hl' => kk ls' (hn ls' ⟨hl'.1, hl'.2.1, fun q hq => by cases hq⟩))
    · rename_i j z hlook
      simp only [decide_eq_true_eq] at w5
      rw [w5.2.1] at kk
      exact lv_astore_n (lv := []) hx hb w5.2.2 rfl hl0 w5.1 rfl (fun ls' hl' => kk ls' (hn ls' ⟨hl'.1, hl'.2.1, fun q hq => by cases hq⟩))
    · cases w5
end Catch
