/-! ONE INSTRUCTION of the small machine is one of the machine's -/
def m_ilen (op : mOp) : Nat := match op.1 with
  | .tableswitch _ _ _ _ => op.2.1
  | .lookupswitch _ _ => op.2.1
  | .aload _ => 2
  | .iload _ => 2
  | .lload _ => 2
  | .istore _ => 2
  | .astore _ => 2
  | .lstore _ => 2
  | .bipush _ => 2
  | .ldc _ => 2
  | .newarray _ => 2
  | .iinc _ _ => 3
  | .sipush _ => 3
  | .ldc_w _ => 3
  | .ldc2_w _ => 3
  | .goto _ => 3
  | .if_icmp _ _ => 3
  | .ifCond _ _ => 3
  | .getfield _ => 3
  | .putfield _ => 3
  | .new _ => 3
  | .anewarray _ => 3
  | .invokevirtual _ => 3
  | .invokestatic _ => 3
  | .invokespecial _ => 3
  | _ => 1
def m_ncell (M : mM) : Nat := M.2.2.2.1.length + M.2.2.2.2
def m_nslot (M : mM) : Nat := (M.2.2.2.1.map Prod.snd).sum + 6 * M.2.2.2.2
/-- the method's state: locals, world, what was written, how much was made -/
def m_At (D : va_G) (f : Nat → Nat) (tc : Nat → ClassId) (base nL c0 s0 : Nat) (H0 : Heap) (L : mL) (M : mM) (ls : Array Slot) (H : Heap) (locs : List Loc) (cells slots : Nat) : Prop :=
  m_Lv f nL ls L ∧ m_Pic D f tc base M H ∧ va_S (fun q => base ≤ q) H0 H locs ∧ cells + c0 = m_ncell M ∧ slots + s0 = m_nslot M ∧ (M.2.2.2.2 = 0 → H0.size ≤ base + c0)
def m_isA (i : Instr) : Bool := match i with
  | .aload _ | .aload_n _ | .iload _ | .iload_n _ | .lload _ | .lload_n _ | .istore _ | .istore_n _ | .astore _ | .astore_n _ | .lstore _ | .iinc _ _ | .iconst _ | .bipush _ | .sipush _ | .lconst _ | .iadd | .isub | .imul | .iand | .ior | .ixor | .idiv | .irem | .ishl | .ishr | .iushr | .ineg | .i2l | .lmul | .ldiv | .lrem | .lcmp | .dup | .pop | .dup2 | .goto _ | .if_icmp _ _ | .ifCond _ _ | .tableswitch _ _ _ _ | .lookupswitch _ _ => true
  | _ => false
section SimA
variable {p : Program} {l : Launch} {e : Env} {R : Room} {s : State} {m : MethodId} {args : Array Value} {below : List Frame} {meth : Method} {c : Code} {H : Heap} {locs : List Loc} {cells slots : Nat} {Q : State → Prop}
variable {D : va_G} {f : Nat → Nat} {tc : Nat → ClassId} {base nL c0 s0 : Nat} {cc : ByteArray} {tx : List (List Int32)} {X : Nat × (Nat → Int32)} {pc : Nat} {L : mL} {st : List Value} {M : mM} {ls : Array Slot} {c' : mC} {H0 : Heap}
/-- what a goal behind an instruction is -/
def m_K (p : Program) (l : Launch) (e : Env) (R : Room) (s : State) (m : MethodId) (args : Array Value) (below : List Frame) (meth : Method) (c : Code) (Q : State → Prop) (D : va_G) (f : Nat → Nat) (tc : Nat → ClassId) (base nL c0 s0 : Nat) (H0 : Heap) (c' : mC) : Prop :=
  ∀ (ls : Array Slot) (H : Heap) (locs : List Loc) (cells slots : Nat), m_At D f tc base nL c0 s0 H0 c'.2.1 c'.2.2.2 ls H locs cells slots → W p l e R s m args below meth c H locs cells slots Q (F0 m c'.1 ls (c'.2.2.1.map (m_rho f)))
set_option maxHeartbeats 4000000 in
/-- numbers, locals, jumps -/
theorem m_simA {i : Instr} {len a b : Nat} (hx : p.tables.exec = Jvm.exec) (hb : c.code = cc) (hd : decode cc pc = .ok (i, m_ilen (i, len, a, b))) (h : m_step tx X (i, len, a, b) pc L st M = some c')
    (hA : m_At D f tc base nL c0 s0 H0 L M ls H locs cells slots) (kk : m_K p l e R s m args below meth c Q D f tc base nL c0 s0 H0 c')
    (hi : m_isA i = true) : W p l e R s m args below meth c H locs cells slots Q (F0 m pc ls (st.map (m_rho f))) := by
  obtain ⟨hl, hP, hS, hc0, hs0, hz⟩ := hA
  cases i <;> try (simp [m_isA] at hi; done)
  case aload i =>
    simp only [m_step] at h
    split at h
    · rename_i a hg
      cases h
      exact lv_aload hx hb hd (hl.at hg) (kk _ _ _ _ _ ⟨hl, hP, hS, hc0, hs0, hz⟩)
    · cases h
  case aload_n i =>
    simp only [m_step] at h
    split at h
    · rename_i a hg
      cases h
      exact lv_aload_n hx hb hd rfl (hl.at hg) (kk _ _ _ _ _ ⟨hl, hP, hS, hc0, hs0, hz⟩)
    · cases h
  case iload i =>
    simp only [m_step] at h
    split at h
    · rename_i a hg
      cases h
      exact lv_iload hx hb hd (hl.at hg) (kk _ _ _ _ _ ⟨hl, hP, hS, hc0, hs0, hz⟩)
    · cases h
  case iload_n i =>
    simp only [m_step] at h
    split at h
    · rename_i a hg
      cases h
      exact lv_iload_n hx hb hd rfl (hl.at hg) (kk _ _ _ _ _ ⟨hl, hP, hS, hc0, hs0, hz⟩)
    · cases h
  case lload i =>
    simp only [m_step] at h
    split at h
    · rename_i a hg
      cases h
      exact lv_lload hx hb hd (hl.at hg) (kk _ _ _ _ _ ⟨hl, hP, hS, hc0, hs0, hz⟩)
    · cases h
  case lload_n i =>
    simp only [m_step] at h
    split at h
    · rename_i a hg
      cases h
      exact lv_lload_n hx hb hd rfl (hl.at hg) (kk _ _ _ _ _ ⟨hl, hP, hS, hc0, hs0, hz⟩)
    · cases h
  case istore i =>
    simp only [m_step] at h
    obtain ⟨x, r, e9, h9⟩ := m_i1_s h
    clear h
    subst e9
    have h := h9
    clear h9
    try dsimp only at h
    split at h
    · rename_i hn
      cases h
      exact lv_istore hx hb hd hl.2 (by rw [← hl.1]; exact hn) rfl (fun ls' hl' => kk _ _ _ _ _ ⟨hl.set (v := .int x) hl', hP, hS, hc0, hs0, hz⟩)
    · cases h
  case istore_n i =>
    simp only [m_step] at h
    obtain ⟨x, r, e9, h9⟩ := m_i1_s h
    clear h
    subst e9
    have h := h9
    clear h9
    try dsimp only at h
    split at h
    · rename_i hn
      cases h
      exact lv_istore_n hx hb hd rfl hl.2 (by rw [← hl.1]; exact hn) rfl (fun ls' hl' => kk _ _ _ _ _ ⟨hl.set (v := .int x) hl', hP, hS, hc0, hs0, hz⟩)
    · cases h
  case astore i =>
    simp only [m_step] at h
    obtain ⟨x, r, e9, h9⟩ := m_r1_s h
    clear h
    subst e9
    have h := h9
    clear h9
    try dsimp only at h
    split at h
    · rename_i hn
      cases h
      exact lv_astore hx hb hd hl.2 (by rw [← hl.1]; exact hn) rfl (fun ls' hl' => kk _ _ _ _ _ ⟨hl.set (v := .ref x) hl', hP, hS, hc0, hs0, hz⟩)
    · cases h
  case astore_n i =>
    simp only [m_step] at h
    obtain ⟨x, r, e9, h9⟩ := m_r1_s h
    clear h
    subst e9
    have h := h9
    clear h9
    try dsimp only at h
    split at h
    · rename_i hn
      cases h
      exact lv_astore_n hx hb hd rfl hl.2 (by rw [← hl.1]; exact hn) rfl (fun ls' hl' => kk _ _ _ _ _ ⟨hl.set (v := .ref x) hl', hP, hS, hc0, hs0, hz⟩)
    · cases h
  case lstore i =>
    simp only [m_step] at h
    obtain ⟨x, r, e9, h9⟩ := m_l1_s h
    clear h
    subst e9
    have h := h9
    clear h9
    try dsimp only at h
    split at h
    · rename_i hn
      cases h
      exact lv_lstore hx hb hd hl.2 (by rw [← hl.1]; exact hn) rfl (fun ls' hl' => kk _ _ _ _ _ ⟨hl.setL (v := .long x) hl', hP, hS, hc0, hs0, hz⟩)
    · cases h
  case iinc i n =>
    simp only [m_step] at h
    split at h
    · rename_i x hg
      split at h
      · rename_i hn
        cases h
        obtain ⟨k, hk⟩ : ∃ k, (m_lv f L)[k]? = some (i, Value.int x) := by
          have hm : (i, m_rho f (.int x)) ∈ m_lv f L := m_lv_mem.mpr ⟨.int x, (by
            unfold m_get at hg
            split at hg
            · cases hg; assumption
            · cases hg), rfl⟩
          exact List.getElem?_of_mem hm
        exact lv_iinc hx hb hd hl.2 hk rfl (by rw [← hl.1]; exact hn) rfl (fun ls' hl' => kk _ _ _ _ _ ⟨hl.set (v := .int (x + Int32.ofInt n)) hl', hP, hS, hc0, hs0, hz⟩)
      · cases h
    · cases h
  case iconst n => cases h; exact lv_iconst hx hb hd rfl (kk _ _ _ _ _ ⟨hl, hP, hS, hc0, hs0, hz⟩)
  case bipush n => cases h; exact lv_bipush hx hb hd rfl (kk _ _ _ _ _ ⟨hl, hP, hS, hc0, hs0, hz⟩)
  case sipush n => cases h; exact lv_sipush hx hb hd rfl (kk _ _ _ _ _ ⟨hl, hP, hS, hc0, hs0, hz⟩)
  case lconst n => cases h; exact lv_lconst hx hb hd rfl (kk _ _ _ _ _ ⟨hl, hP, hS, hc0, hs0, hz⟩)
  case iadd =>
    simp only [m_step] at h
    obtain ⟨x, y, r, e9, h9⟩ := m_i2_s h
    clear h
    subst e9
    have h := h9
    clear h9
    try dsimp only at h
    cases h; exact lv_iadd hx hb hd (kk _ _ _ _ _ ⟨hl, hP, hS, hc0, hs0, hz⟩)
  case isub =>
    simp only [m_step] at h
    obtain ⟨x, y, r, e9, h9⟩ := m_i2_s h
    clear h
    subst e9
    have h := h9
    clear h9
    try dsimp only at h
    cases h; exact lv_isub hx hb hd (kk _ _ _ _ _ ⟨hl, hP, hS, hc0, hs0, hz⟩)
  case imul =>
    simp only [m_step] at h
    obtain ⟨x, y, r, e9, h9⟩ := m_i2_s h
    clear h
    subst e9
    have h := h9
    clear h9
    try dsimp only at h
    cases h; exact lv_imul hx hb hd (kk _ _ _ _ _ ⟨hl, hP, hS, hc0, hs0, hz⟩)
  case iand =>
    simp only [m_step] at h
    obtain ⟨x, y, r, e9, h9⟩ := m_i2_s h
    clear h
    subst e9
    have h := h9
    clear h9
    try dsimp only at h
    cases h; exact lv_iand hx hb hd (kk _ _ _ _ _ ⟨hl, hP, hS, hc0, hs0, hz⟩)
  case ior =>
    simp only [m_step] at h
    obtain ⟨x, y, r, e9, h9⟩ := m_i2_s h
    clear h
    subst e9
    have h := h9
    clear h9
    try dsimp only at h
    cases h; exact lv_ior hx hb hd (kk _ _ _ _ _ ⟨hl, hP, hS, hc0, hs0, hz⟩)
  case ixor =>
    simp only [m_step] at h
    obtain ⟨x, y, r, e9, h9⟩ := m_i2_s h
    clear h
    subst e9
    have h := h9
    clear h9
    try dsimp only at h
    cases h; exact lv_ixor hx hb hd (kk _ _ _ _ _ ⟨hl, hP, hS, hc0, hs0, hz⟩)
  case idiv =>
    simp only [m_step] at h
    obtain ⟨x, y, r, e9, h9⟩ := m_i2_s h
    clear h
    subst e9
    have h := h9
    clear h9
    try dsimp only at h
    split at h
    · cases h
    · rename_i hy
      cases h; exact lv_idiv hx hb hd hy (kk _ _ _ _ _ ⟨hl, hP, hS, hc0, hs0, hz⟩)
  case irem =>
    simp only [m_step] at h
    obtain ⟨x, y, r, e9, h9⟩ := m_i2_s h
    clear h
    subst e9
    have h := h9
    clear h9
    try dsimp only at h
    split at h
    · cases h
    · rename_i hy
      cases h; exact lv_irem hx hb hd hy (kk _ _ _ _ _ ⟨hl, hP, hS, hc0, hs0, hz⟩)
  case ishl =>
    simp only [m_step] at h
    obtain ⟨x, y, r, e9, h9⟩ := m_i2_s h
    clear h
    subst e9
    have h := h9
    clear h9
    try dsimp only at h
    cases h; exact lv_ishl hx hb hd (kk _ _ _ _ _ ⟨hl, hP, hS, hc0, hs0, hz⟩)
  case ishr =>
    simp only [m_step] at h
    obtain ⟨x, y, r, e9, h9⟩ := m_i2_s h
    clear h
    subst e9
    have h := h9
    clear h9
    try dsimp only at h
    cases h; exact lv_ishr hx hb hd (kk _ _ _ _ _ ⟨hl, hP, hS, hc0, hs0, hz⟩)
  case iushr =>
    simp only [m_step] at h
    obtain ⟨x, y, r, e9, h9⟩ := m_i2_s h
    clear h
    subst e9
    have h := h9
    clear h9
    try dsimp only at h
    cases h; exact lv_iushr hx hb hd rfl (kk _ _ _ _ _ ⟨hl, hP, hS, hc0, hs0, hz⟩)
  case ineg =>
    simp only [m_step] at h
    obtain ⟨x, r, e9, h9⟩ := m_i1_s h
    clear h
    subst e9
    have h := h9
    clear h9
    try dsimp only at h
    cases h; exact lv_ineg hx hb hd (kk _ _ _ _ _ ⟨hl, hP, hS, hc0, hs0, hz⟩)
  case i2l =>
    simp only [m_step] at h
    obtain ⟨x, r, e9, h9⟩ := m_i1_s h
    clear h
    subst e9
    have h := h9
    clear h9
    try dsimp only at h
    cases h; exact lv_i2l hx hb hd rfl (kk _ _ _ _ _ ⟨hl, hP, hS, hc0, hs0, hz⟩)
  case lmul =>
    simp only [m_step] at h
    obtain ⟨x, y, r, e9, h9⟩ := m_l2_s h
    clear h
    subst e9
    have h := h9
    clear h9
    try dsimp only at h
    cases h; exact lv_lmul hx hb hd (kk _ _ _ _ _ ⟨hl, hP, hS, hc0, hs0, hz⟩)
  case ldiv =>
    simp only [m_step] at h
    obtain ⟨x, y, r, e9, h9⟩ := m_l2_s h
    clear h
    subst e9
    have h := h9
    clear h9
    try dsimp only at h
    split at h
    · cases h
    · rename_i hy
      cases h; exact lv_ldiv hx hb hd hy (kk _ _ _ _ _ ⟨hl, hP, hS, hc0, hs0, hz⟩)
  case lrem =>
    simp only [m_step] at h
    obtain ⟨x, y, r, e9, h9⟩ := m_l2_s h
    clear h
    subst e9
    have h := h9
    clear h9
    try dsimp only at h
    split at h
    · cases h
    · rename_i hy
      cases h; exact lv_lrem hx hb hd hy (kk _ _ _ _ _ ⟨hl, hP, hS, hc0, hs0, hz⟩)
  case lcmp =>
    simp only [m_step] at h
    obtain ⟨x, y, r, e9, h9⟩ := m_l2_s h
    clear h
    subst e9
    have h := h9
    clear h9
    try dsimp only at h
    cases h; exact W.lcmp hx hb hd (kk _ _ _ _ _ ⟨hl, hP, hS, hc0, hs0, hz⟩)
  case dup =>
    simp only [m_step] at h
    obtain ⟨v, r, e9, hv, h9⟩ := m_v1_s h
    clear h
    subst e9
    have h := h9
    clear h9
    try dsimp only at h
    cases h; exact lv_dup hx hb hd (by rw [m_rho_cat]; exact hv) (kk _ _ _ _ _ ⟨hl, hP, hS, hc0, hs0, hz⟩)
  case pop =>
    simp only [m_step] at h
    obtain ⟨v, r, e9, hv, h9⟩ := m_v1_s h
    clear h
    subst e9
    have h := h9
    clear h9
    try dsimp only at h
    cases h; exact lv_pop hx hb hd (by rw [m_rho_cat]; exact hv) (kk _ _ _ _ _ ⟨hl, hP, hS, hc0, hs0, hz⟩)
  case dup2 =>
    simp only [m_step] at h
    obtain ⟨v, r, e9, hv, h9⟩ := m_v1_s h
    clear h
    subst e9
    have h := h9
    clear h9
    try dsimp only at h
    obtain ⟨w, q, e9, hw, h9⟩ := m_v1_s h
    clear h
    subst e9
    have h := h9
    clear h9
    try dsimp only at h
    cases h; exact lv_dup2_11 hx hb hd (by rw [m_rho_cat]; exact hv) (by rw [m_rho_cat]; exact hw) (kk _ _ _ _ _ ⟨hl, hP, hS, hc0, hs0, hz⟩)
  case goto off =>
    simp only [m_step] at h
    obtain ⟨t, ht, rfl⟩ := m_jmp_s h
    try dsimp only at h
    exact lv_goto hx hb hd ht (kk _ _ _ _ _ ⟨hl, hP, hS, hc0, hs0, hz⟩)
  case if_icmp cn off =>
    simp only [m_step] at h
    obtain ⟨x, y, r, e9, h9⟩ := m_i2_s h
    clear h
    subst e9
    have h := h9
    clear h9
    try dsimp only at h
    obtain ⟨t, ht, ⟨hq, rfl⟩ | ⟨hq, rfl⟩⟩ := m_br_s h
    · have K := kk _ _ _ _ _ ⟨hl, hP, hS, hc0, hs0, hz⟩
      cases cn <;> simp only [m_cc, decide_eq_true_eq] at hq
      · exact lv_icmp_eq hx hb hd ht (fun _ => K) (fun n => absurd hq n)
      · exact lv_icmp_ne hx hb hd ht (fun _ => K) (fun n => absurd n hq)
      · exact lv_icmp_lt hx hb hd ht (fun _ => K) (fun n => absurd hq n)
      · exact lv_icmp_ge hx hb hd ht (fun _ => K) (fun n => absurd hq n)
      · exact lv_icmp_gt hx hb hd ht (fun _ => K) (fun n => absurd hq n)
      · exact lv_icmp_le hx hb hd ht (fun _ => K) (fun n => absurd hq n)
    · have K := kk _ _ _ _ _ ⟨hl, hP, hS, hc0, hs0, hz⟩
      cases cn <;> simp only [m_cc, decide_eq_true_eq] at hq
      · exact lv_icmp_eq hx hb hd ht (fun n => absurd n hq) (fun _ => K)
      · exact lv_icmp_ne hx hb hd ht (fun n => absurd n hq) (fun _ => K)
      · exact lv_icmp_lt hx hb hd ht (fun n => absurd n hq) (fun _ => K)
      · exact lv_icmp_ge hx hb hd ht (fun n => absurd n hq) (fun _ => K)
      · exact lv_icmp_gt hx hb hd ht (fun n => absurd n hq) (fun _ => K)
      · exact lv_icmp_le hx hb hd ht (fun n => absurd n hq) (fun _ => K)
  case ifCond cn off =>
    simp only [m_step] at h
    obtain ⟨x, r, e9, h9⟩ := m_i1_s h
    clear h
    subst e9
    have h := h9
    clear h9
    try dsimp only at h
    obtain ⟨t, ht, ⟨hq, rfl⟩ | ⟨hq, rfl⟩⟩ := m_br_s h
    · have K := kk _ _ _ _ _ ⟨hl, hP, hS, hc0, hs0, hz⟩
      cases cn <;> simp only [m_cc, decide_eq_true_eq] at hq
      · exact lv_if_eq hx hb hd ht (fun _ => K) (fun n => absurd hq n)
      · exact lv_if_ne hx hb hd ht (fun _ => K) (fun n => absurd n hq)
      · exact lv_if_lt hx hb hd ht (fun _ => K) (fun n => absurd hq n)
      · exact lv_if_ge hx hb hd ht (fun _ => K) (fun n => absurd hq n)
      · exact lv_if_gt hx hb hd ht (fun _ => K) (fun n => absurd hq n)
      · exact lv_if_le hx hb hd ht (fun _ => K) (fun n => absurd hq n)
    · have K := kk _ _ _ _ _ ⟨hl, hP, hS, hc0, hs0, hz⟩
      cases cn <;> simp only [m_cc, decide_eq_true_eq] at hq
      · exact lv_if_eq hx hb hd ht (fun n => absurd n hq) (fun _ => K)
      · exact lv_if_ne hx hb hd ht (fun n => absurd n hq) (fun _ => K)
      · exact lv_if_lt hx hb hd ht (fun n => absurd n hq) (fun _ => K)
      · exact lv_if_ge hx hb hd ht (fun n => absurd n hq) (fun _ => K)
      · exact lv_if_gt hx hb hd ht (fun n => absurd n hq) (fun _ => K)
      · exact lv_if_le hx hb hd ht (fun n => absurd n hq) (fun _ => K)
  case tableswitch dflt lo hi offs =>
    simp only [m_step] at h
    obtain ⟨x, r, e9, h9⟩ := m_i1_s h
    clear h
    subst e9
    split at h9
    · rename_i hq
      obtain ⟨t, ht, rfl⟩ := m_jmp_s h9
      exact lv_tableOut hx hb hd hq ht (kk _ _ _ _ _ ⟨hl, hP, hS, hc0, hs0, hz⟩)
    · rename_i hq
      split at h9
      · rename_i off ho
        obtain ⟨t, ht, rfl⟩ := m_jmp_s h9
        exact lv_tableIn hx hb hd (fun n => hq (Or.inl n)) (fun n => hq (Or.inr n)) ho ht (kk _ _ _ _ _ ⟨hl, hP, hS, hc0, hs0, hz⟩)
      · cases h9
  case lookupswitch dflt ps =>
    simp only [m_step] at h
    obtain ⟨x, r, e9, h9⟩ := m_i1_s h
    clear h
    subst e9
    split at h9
    · rename_i hq
      obtain ⟨t, ht, rfl⟩ := m_jmp_s h9
      exact lv_lookup hx hb hd hq rfl ht (kk _ _ _ _ _ ⟨hl, hP, hS, hc0, hs0, hz⟩)
    · cases h9
end SimA
