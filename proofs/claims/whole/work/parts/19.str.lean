/-! the texts' members: String.length, String.charAt, as the JDK has them -/
section Str
set_option maxRecDepth 100000 in
theorem ks_1 : mw (.code yJ0_coder_7d493 cJ0_coder_7d493 1 (some .byte)) = true ∧ mw (.fieldLink RJ0 38 RJ0 "COMPACT_STRINGS" "Z") = true ∧ mw (.fieldLink RJ0 15 RJ0 "coder" "B") = true ∧ mw (.fieldLink RJ0 9 RJ0 "value" "[B") = true ∧ mw (.code yJ0_isLatin1_aae02 cJ0_isLatin1_aae02 1 (some .boolean)) = true ∧ mw (.initialized RJ0) = true := by decide +kernel
set_option maxRecDepth 100000 in
theorem ks_2 : mw (.methodLink RJ0 335 yJ0_coder_7d493) = true ∧ mw (.instanceMethod yJ0_coder_7d493) = true ∧ mw (.selects RJ0 yJ0_coder_7d493 yJ0_coder_7d493) = true ∧ mw (.code yJ0_length_8abf5 cJ0_length_8abf5 1 (some .int)) = true ∧ mw (.instanceMethod yJ0_length_8abf5) = true ∧ mw (.selects RJ0 yJ0_length_8abf5 yJ0_length_8abf5) = true := by decide +kernel
set_option maxRecDepth 100000 in
theorem ks_3 : mw (.methodLink RJ0 492 yJ0_isLatin1_aae02) = true ∧ mw (.instanceMethod yJ0_isLatin1_aae02) = true ∧ mw (.selects RJ0 yJ0_isLatin1_aae02 yJ0_isLatin1_aae02) = true ∧ mw (.code yJ0_charAt_5068e cJ0_charAt_5068e 2 (some .char)) = true ∧ mw (.instanceMethod yJ0_charAt_5068e) = true ∧ mw (.selects RJ0 yJ0_charAt_5068e yJ0_charAt_5068e) = true := by decide +kernel
set_option maxRecDepth 100000 in
theorem ks_4 : mw (.methodLink RJ0 495 yJ1_charAt_3b067) = true ∧ mw (.static yJ1_charAt_3b067) = true ∧ mw (.initialized RJ1) = true ∧ mw (.code yJ1_charAt_3b067 cJ1_charAt_3b067 2 (some .char)) = true := by decide +kernel
set_option maxRecDepth 100000 in
theorem ks_5 : mw (.methodLink RJ1 9 yJ0_checkIndex_df160) = true ∧ mw (.static yJ0_checkIndex_df160) = true ∧ mw (.code yJ0_checkIndex_df160 cJ0_checkIndex_df160 2 none) = true ∧ mw (.fieldLink RJ0 1053 "jdk/internal/util/Preconditions" "SIOOBE_FORMATTER" "Ljava/util/function/BiFunction;") = true := by decide +kernel
set_option maxRecDepth 100000 in
theorem ks_6 : mw (.methodLink RJ0 1059 yJ3_checkIndex_8e157) = true ∧ mw (.static yJ3_checkIndex_8e157) = true ∧ mw (.initialized RJ3) = true ∧ mw (.code yJ3_checkIndex_8e157 cJ3_checkIndex_8e157 3 (some .int)) = true := by decide +kernel
theorem sd_c : decode cJ0_coder_7d493 0 = .ok (.getstatic 38, 3) ∧ decode cJ0_coder_7d493 3 = .ok (.ifCond .eq 10, 3) ∧ decode cJ0_coder_7d493 6 = .ok (.aload_n 0, 1) ∧ decode cJ0_coder_7d493 7 = .ok (.getfield 15, 3) ∧ decode cJ0_coder_7d493 10 = .ok (.goto 4, 3) ∧ decode cJ0_coder_7d493 14 = .ok (.ireturn, 1) := by decide +kernel
theorem sd_i : decode cJ0_isLatin1_aae02 0 = .ok (.getstatic 38, 3) ∧ decode cJ0_isLatin1_aae02 3 = .ok (.ifCond .eq 14, 3) ∧ decode cJ0_isLatin1_aae02 6 = .ok (.aload_n 0, 1) ∧ decode cJ0_isLatin1_aae02 7 = .ok (.getfield 15, 3) ∧ decode cJ0_isLatin1_aae02 10 = .ok (.ifCond .ne 7, 3) ∧ decode cJ0_isLatin1_aae02 13 = .ok (.iconst 1, 1) ∧ decode cJ0_isLatin1_aae02 14 = .ok (.goto 4, 3) ∧ decode cJ0_isLatin1_aae02 18 = .ok (.ireturn, 1) := by decide +kernel
theorem sd_l : decode cJ0_length_8abf5 0 = .ok (.aload_n 0, 1) ∧ decode cJ0_length_8abf5 1 = .ok (.getfield 9, 3) ∧ decode cJ0_length_8abf5 4 = .ok (.arraylength, 1) ∧ decode cJ0_length_8abf5 5 = .ok (.aload_n 0, 1) ∧ decode cJ0_length_8abf5 6 = .ok (.invokevirtual 335, 3) ∧ decode cJ0_length_8abf5 9 = .ok (.ishr, 1) ∧ decode cJ0_length_8abf5 10 = .ok (.ireturn, 1) := by decide +kernel
theorem sd_p : decode cJ3_checkIndex_8e157 0 = .ok (.iload_n 0, 1) ∧ decode cJ3_checkIndex_8e157 1 = .ok (.ifCond .lt 8, 3) ∧ decode cJ3_checkIndex_8e157 4 = .ok (.iload_n 0, 1) ∧ decode cJ3_checkIndex_8e157 5 = .ok (.iload_n 1, 1) ∧ decode cJ3_checkIndex_8e157 6 = .ok (.if_icmp .lt 10, 3) ∧ decode cJ3_checkIndex_8e157 16 = .ok (.iload_n 0, 1) ∧ decode cJ3_checkIndex_8e157 17 = .ok (.ireturn, 1) := by decide +kernel
theorem sd_k : decode cJ0_checkIndex_df160 0 = .ok (.iload_n 0, 1) ∧ decode cJ0_checkIndex_df160 1 = .ok (.iload_n 1, 1) ∧ decode cJ0_checkIndex_df160 2 = .ok (.getstatic 1053, 3) ∧ decode cJ0_checkIndex_df160 5 = .ok (.invokestatic 1059, 3) ∧ decode cJ0_checkIndex_df160 8 = .ok (.pop, 1) ∧ decode cJ0_checkIndex_df160 9 = .ok (.return_, 1) := by decide +kernel
theorem sd_h : decode cJ1_charAt_3b067 0 = .ok (.iload_n 1, 1) ∧ decode cJ1_charAt_3b067 1 = .ok (.aload_n 0, 1) ∧ decode cJ1_charAt_3b067 2 = .ok (.arraylength, 1) ∧ decode cJ1_charAt_3b067 3 = .ok (.invokestatic 9, 3) ∧ decode cJ1_charAt_3b067 6 = .ok (.aload_n 0, 1) ∧ decode cJ1_charAt_3b067 7 = .ok (.iload_n 1, 1) ∧ decode cJ1_charAt_3b067 8 = .ok (.baload, 1) ∧ decode cJ1_charAt_3b067 9 = .ok (.sipush 255, 3) ∧ decode cJ1_charAt_3b067 12 = .ok (.iand, 1) ∧ decode cJ1_charAt_3b067 13 = .ok (.i2c, 1) ∧ decode cJ1_charAt_3b067 14 = .ok (.ireturn, 1) := by decide +kernel
theorem sd_s : decode cJ0_charAt_5068e 0 = .ok (.aload_n 0, 1) ∧ decode cJ0_charAt_5068e 1 = .ok (.invokevirtual 492, 3) ∧ decode cJ0_charAt_5068e 4 = .ok (.ifCond .eq 12, 3) ∧ decode cJ0_charAt_5068e 7 = .ok (.aload_n 0, 1) ∧ decode cJ0_charAt_5068e 8 = .ok (.getfield 9, 3) ∧ decode cJ0_charAt_5068e 11 = .ok (.iload_n 1, 1) ∧ decode cJ0_charAt_5068e 12 = .ok (.invokestatic 495, 3) ∧ decode cJ0_charAt_5068e 15 = .ok (.ireturn, 1) := by decide +kernel
variable {p : Program} {l : Launch} {e : Env} {R : Room} {s : State} {m : MethodId} {args : Array Value} {below : List Frame} {meth : Method} {c : Code} {H : Heap} {locs : List Loc} {cells slots : Nat} {Q : State → Prop}
variable {f : Nat → Nat} {base : Nat} {tx : List (List Int32)} {adV : Nat → Nat} {pc : Nat} {ls : Array Slot}
/-- a method that leaves the heap as it is -/
def sQ (v : Option Value) : Array Value → State → Outcome → State → Prop := fun _ st o t => o = .returned v ∧ t.heap = st.heap
def sR (k : Nat) : Room := { frames := k, cells := 0, slots := 0, locals := 40 * k }
def sP (f : Nat → Nat) (base : Nat) (tx : List (List Int32)) (adV : Nat → Nat) (vs : List Value) : Array Value → State → Prop := va_Pc vs (fun U => m_Str1 f base tx adV U)
theorem sP_blind {vs : List Value} : FrameBlind (sP f base tx adV vs) := by
  intro a U g mk h
  exact ⟨h.1, h.2.go (fun _ _ _ => rfl) (Vm.Alike.refl U.vm)⟩
theorem s_goon {v : Option Value} {a : Array Value} {st0 rest : List Value} (hr : va_Run p l e R s m args below meth c H locs cells slots 0 0 (F0 m pc ls st0) rest (sQ v a) (fun _ => False)) (kk : W p l e R s m args below meth c H locs cells slots Q (F0 m (pc + 3) ls (v.toList ++ rest))) : W p l e R s m args below meth c H locs cells slots Q (F0 m pc ls st0) := by
  intro T hT X
  obtain ⟨v', st₀, t, T', L, h0, X', hL, e1, e2, ⟨hv, hh⟩, st⟩ := hr T hT X
  cases hv
  have hL0 : L = [] := by
    cases L with
    | nil => rfl
    | cons a b => exact (hL a List.mem_cons_self).elim
  subst hL0
  rw [List.append_nil] at X'
  obtain ⟨t2, a1, b1⟩ := kk T' (by rw [e1, hh, h0]) X'
  exact ⟨t2, st t2 a1, b1⟩
set_option maxHeartbeats 1000000 in
theorem sj_coder {i : Nat} {t : List Int32} (ht : tx[i]? = some t) : Met l yJ0_coder_7d493 (.code yJ0_coder_7d493 cJ0_coder_7d493 1 (some .byte) :: gw) (sR 1) (sP f base tx adV [.ref (f (m_scr + 1 + i))]) (sQ (some (.int 0))) 0 0 (fun _ => False) := by
  refine Met.ofW (cc := cJ0_coder_7d493) (maxL := 1) (ret := some .byte) (by decide) rfl ?_
  intro p e s m args below meth c s₁ B hml hv
  obtain ⟨rfl, hA⟩ := hv
  have hx := B.exec
  have hb := B.bytes
  have hr := B.returns
  have hts := atoms_spec (ws := .code yJ0_coder_7d493 cJ0_coder_7d493 1 (some .byte) :: gw) B.pre
  have hown : s.vm.findClass RJ0 = some m.cls := findClass_of_methodNamed B.named
  have hlocks := B.notSynchronized
  have hS : va_S (fun q => base ≤ q) s.heap s.heap [] := va_S.rf
  have hl := lv_entry ([.ref (f (m_scr + 1 + i))]) (n := 1) (Nat.le_of_ble_eq_true rfl)
  rw [lg_entry_eq]
  generalize (lg_sl ([.ref (f (m_scr + 1 + i))]) ++ List.replicate (1 - (lg_sl ([.ref (f (m_scr + 1 + i))])).length) Slot.unset).toArray = ls at hl ⊢
  have hl : lv_has ls 1 [(0, .ref (f (m_scr + 1 + i)))] := hl
  obtain ⟨a1, a2, a3, a4⟩ := hA.1 i t ht
  refine va_gets hx hb hA.2.1 hS hown (hts _ (List.mem_cons_of_mem _ (mw_in ks_1.2.1))) (fun x h => h) sd_c.1 ?_
  refine lv_if_eq (tgt := 13) hx hb sd_c.2.1 (by decide) (fun h => absurd h (by decide)) (fun _ => ?_)
  refine lv_aload_n hx hb sd_c.2.2.1 rfl (lv_at hl 0 rfl) ?_
  refine vk_getf hx hb a2 hS hown (hts _ (List.mem_cons_of_mem _ (mw_in ks_1.2.2.1))) (fun x h => h) sd_c.2.2.2.1 ?_
  refine lv_goto (tgt := 14) hx hb sd_c.2.2.2.2.1 (by decide) ?_
  exact W.zret (ty := .byte) hx hb hr rfl (fun t ht _ => ⟨rfl, ht⟩) (fun q hq => by cases hq) sd_c.2.2.2.2.2 hlocks
set_option maxHeartbeats 1000000 in
theorem sj_latin {i : Nat} {t : List Int32} (ht : tx[i]? = some t) : Met l yJ0_isLatin1_aae02 (.code yJ0_isLatin1_aae02 cJ0_isLatin1_aae02 1 (some .boolean) :: gw) (sR 1) (sP f base tx adV [.ref (f (m_scr + 1 + i))]) (sQ (some (.int 1))) 0 0 (fun _ => False) := by
  refine Met.ofW (cc := cJ0_isLatin1_aae02) (maxL := 1) (ret := some .boolean) (by decide) rfl ?_
  intro p e s m args below meth c s₁ B hml hv
  obtain ⟨rfl, hA⟩ := hv
  have hx := B.exec
  have hb := B.bytes
  have hr := B.returns
  have hts := atoms_spec (ws := .code yJ0_isLatin1_aae02 cJ0_isLatin1_aae02 1 (some .boolean) :: gw) B.pre
  have hown : s.vm.findClass RJ0 = some m.cls := findClass_of_methodNamed B.named
  have hlocks := B.notSynchronized
  have hS : va_S (fun q => base ≤ q) s.heap s.heap [] := va_S.rf
  have hl := lv_entry ([.ref (f (m_scr + 1 + i))]) (n := 1) (Nat.le_of_ble_eq_true rfl)
  rw [lg_entry_eq]
  generalize (lg_sl ([.ref (f (m_scr + 1 + i))]) ++ List.replicate (1 - (lg_sl ([.ref (f (m_scr + 1 + i))])).length) Slot.unset).toArray = ls at hl ⊢
  have hl : lv_has ls 1 [(0, .ref (f (m_scr + 1 + i)))] := hl
  obtain ⟨a1, a2, a3, a4⟩ := hA.1 i t ht
  refine va_gets hx hb hA.2.1 hS hown (hts _ (List.mem_cons_of_mem _ (mw_in ks_1.2.1))) (fun x h => h) sd_i.1 ?_
  refine lv_if_eq (tgt := 17) hx hb sd_i.2.1 (by decide) (fun h => absurd h (by decide)) (fun _ => ?_)
  refine lv_aload_n hx hb sd_i.2.2.1 rfl (lv_at hl 0 rfl) ?_
  refine vk_getf hx hb a2 hS hown (hts _ (List.mem_cons_of_mem _ (mw_in ks_1.2.2.1))) (fun x h => h) sd_i.2.2.2.1 ?_
  refine lv_if_ne (tgt := 17) hx hb sd_i.2.2.2.2.1 (by decide) (fun h => absurd rfl h) (fun _ => ?_)
  refine lv_iconst (v := 1) hx hb sd_i.2.2.2.2.2.1 (by decide) ?_
  refine lv_goto (tgt := 18) hx hb sd_i.2.2.2.2.2.2.1 (by decide) ?_
  exact W.zret (ty := .boolean) hx hb hr rfl (fun t ht _ => ⟨rfl, ht⟩) (fun q hq => by cases hq) sd_i.2.2.2.2.2.2.2 hlocks
theorem s_gi {own C : String} {ix : Nat} {y : MethodName} {w : Cond} (h1 : mw (.methodLink own ix y) = true) (h2 : mw (.instanceMethod y) = true) (h3 : mw (.selects C y y) = true) (h4 : mw (.initialized C) = true) (h5 : mw w = true) : GoodIn gw (wsV own ix C y (w :: gw)) := by
  intro v hv
  simp only [wsV, List.cons_append, List.nil_append, List.mem_cons] at hv
  rcases hv with rfl | rfl | rfl | rfl | rfl | hv
  · exact gw_good _ (mw_in h1)
  · exact gw_good _ (mw_in h2)
  · exact gw_good _ (mw_in h3)
  · exact gw_good _ (mw_in h4)
  · exact gw_good _ (mw_in h5)
  · exact gw_good _ hv
set_option maxHeartbeats 1000000 in
theorem sj_length {i : Nat} {t : List Int32} (ht : tx[i]? = some t) : Met l yJ0_length_8abf5 (.code yJ0_length_8abf5 cJ0_length_8abf5 1 (some .int) :: gw) (sR 2) (sP f base tx adV [.ref (f (m_scr + 1 + i))]) (sQ (some (.int (nI t.length)))) 0 0 (fun _ => False) := by
  refine Met.ofW (cc := cJ0_length_8abf5) (maxL := 1) (ret := some .int) (by decide) rfl ?_
  intro p e s m args below meth c s₁ B hml hv
  obtain ⟨rfl, hA⟩ := hv
  have hx := B.exec
  have hb := B.bytes
  have hr := B.returns
  have hts := atoms_spec (ws := .code yJ0_length_8abf5 cJ0_length_8abf5 1 (some .int) :: gw) B.pre
  have hts2 : ∀ w ∈ gw, w.before _ s = true := fun w hw => hts w (List.mem_cons_of_mem _ hw)
  have hown : s.vm.findClass RJ0 = some m.cls := findClass_of_methodNamed B.named
  have hlocks := B.notSynchronized
  have hS : va_S (fun q => base ≤ q) s.heap s.heap [] := va_S.rf
  have hl := lv_entry ([.ref (f (m_scr + 1 + i))]) (n := 1) (Nat.le_of_ble_eq_true rfl)
  rw [lg_entry_eq]
  generalize (lg_sl ([.ref (f (m_scr + 1 + i))]) ++ List.replicate (1 - (lg_sl ([.ref (f (m_scr + 1 + i))])).length) Slot.unset).toArray = ls at hl ⊢
  have hl : lv_has ls 1 [(0, .ref (f (m_scr + 1 + i)))] := hl
  obtain ⟨a1, a2, a3, a4⟩ := hA.1 i t ht
  refine lv_aload_n hx hb sd_l.1 rfl (lv_at hl 0 rfl) ?_
  refine vk_getf hx hb a3 hS hown (hts2 _ (mw_in ks_1.2.2.2.1)) (fun x h => h) sd_l.2.1 ?_
  refine va_tlen hx hb a4 hS rfl sd_l.2.2.1 ?_
  refine lv_aload_n hx hb sd_l.2.2.2.1 rfl (lv_at hl 0 rfl) ?_
  have hrec : ∃ cellB : Cell, s.heap[f (m_scr + 1 + i)]? = some cellB ∧ cellB.vm.isStatics = false ∧ s.vm.findClass RJ0 = some cellB.cls := by
    obtain ⟨cell, h1, h2, h3, -⟩ := a1
    exact ⟨cell, h1, h2, h3⟩
  refine s_goon (va_runV (As := []) (rest := [.int (Int32.ofNat t.length)]) (b := f (m_scr + 1 + i)) ⟨hx, hb, hml, hown, hts2⟩ (sj_coder (l := l) (f := f) (base := base) (adV := adV) ht) (cwV 0 hts2 (s_gi ks_2.1 ks_2.2.1 ks_2.2.2.1 ks_1.2.2.2.2.2 ks_1.1) rfl rfl rfl (by decide +kernel) ⟨Nat.le_refl _, by decide⟩) ⟨sP_blind, hrec, fun U hU hW => ⟨rfl, hA.go (fun a _ _ => by rw [hU]) hW.alike⟩⟩ rfl rfl hl.1 rfl (lv_room (by show 1 + 0 ≤ 8; decide)) sd_l.2.2.2.2.1 ⟨Nat.le_refl _, Nat.le_refl _⟩) ?_
  refine lv_ishr hx hb sd_l.2.2.2.2.2.1 ?_
  rw [show (Int32.ofNat t.length >>> ((0 : Int32) &&& 31)) = nI t.length from sc_shr0 (hA.2.2.2 i t ht).1]
  exact W.iret hx hb hr (fun t ht _ => ⟨rfl, ht⟩) (fun q hq => by cases hq) sd_l.2.2.2.2.2.2 hlocks
set_option maxHeartbeats 1000000 in
theorem sj_pre {j n : Int32} {w : Value} (h0 : ¬ j < 0) (h1 : j < n) (hw : w = .null ∨ ∃ t, w = .ref t) : Met l yJ3_checkIndex_8e157 (.code yJ3_checkIndex_8e157 cJ3_checkIndex_8e157 3 (some .int) :: gw) (sR 1) (sP f base tx adV [.int j, .int n, w]) (sQ (some (.int j))) 0 0 (fun _ => False) := by
  refine Met.ofW (cc := cJ3_checkIndex_8e157) (maxL := 3) (ret := some .int) (by decide) rfl ?_
  intro p e s m args below meth c s₁ B hml hv
  obtain ⟨rfl, hA⟩ := hv
  have hx := B.exec
  have hb := B.bytes
  have hr := B.returns
  have hlocks := B.notSynchronized
  have hl := lv_entry ([.int j, .int n, w]) (n := 3) (by rcases hw with rfl | ⟨t, rfl⟩ <;> exact Nat.le_of_ble_eq_true rfl)
  rw [lg_entry_eq]
  generalize (lg_sl ([.int j, .int n, w]) ++ List.replicate (3 - (lg_sl ([.int j, .int n, w])).length) Slot.unset).toArray = ls at hl ⊢
  have hl : lv_has ls 3 [(0, .int j), (1, .int n), (2, w)] := hl
  refine lv_iload_n hx hb sd_p.1 rfl (lv_at hl 0 rfl) ?_
  refine lv_if_lt (tgt := 9) hx hb sd_p.2.1 (by decide) (fun h => absurd h h0) (fun _ => ?_)
  refine lv_iload_n hx hb sd_p.2.2.1 rfl (lv_at hl 0 rfl) ?_
  refine lv_iload_n hx hb sd_p.2.2.2.1 rfl (lv_at hl 1 rfl) ?_
  refine lv_icmp_lt (tgt := 16) hx hb sd_p.2.2.2.2.1 (by decide) (fun _ => ?_) (fun h => absurd h1 h)
  refine lv_iload_n hx hb sd_p.2.2.2.2.2.1 rfl (lv_at hl 0 rfl) ?_
  exact W.iret hx hb hr (fun t ht _ => ⟨rfl, ht⟩) (fun q hq => by cases hq) sd_p.2.2.2.2.2.2 hlocks
set_option maxHeartbeats 1000000 in
theorem sj_chk {j n : Int32} (h0 : ¬ j < 0) (h1 : j < n) : Met l yJ0_checkIndex_df160 (.code yJ0_checkIndex_df160 cJ0_checkIndex_df160 2 none :: gw) (sR 2) (sP f base tx adV [.int j, .int n]) (sQ none) 0 0 (fun _ => False) := by
  refine Met.ofW (cc := cJ0_checkIndex_df160) (maxL := 2) (ret := none) (by decide) rfl ?_
  intro p e s m args below meth c s₁ B hml hv
  obtain ⟨rfl, hA⟩ := hv
  have hx := B.exec
  have hb := B.bytes
  have hr := B.returns
  have hts := atoms_spec (ws := .code yJ0_checkIndex_df160 cJ0_checkIndex_df160 2 none :: gw) B.pre
  have hts2 : ∀ w ∈ gw, w.before _ s = true := fun w hw => hts w (List.mem_cons_of_mem _ hw)
  have hown : s.vm.findClass RJ0 = some m.cls := findClass_of_methodNamed B.named
  have hlocks := B.notSynchronized
  have hS : va_S (fun q => base ≤ q) s.heap s.heap [] := va_S.rf
  have hl := lv_entry ([.int j, .int n]) (n := 2) (Nat.le_of_ble_eq_true rfl)
  rw [lg_entry_eq]
  generalize (lg_sl ([.int j, .int n]) ++ List.replicate (2 - (lg_sl ([.int j, .int n])).length) Slot.unset).toArray = ls at hl ⊢
  have hl : lv_has ls 2 [(0, .int j), (1, .int n)] := hl
  refine lv_iload_n hx hb sd_k.1 rfl (lv_at hl 0 rfl) ?_
  refine lv_iload_n hx hb sd_k.2.1 rfl (lv_at hl 1 rfl) ?_
  have key : ∀ w : Value, (w = .null ∨ ∃ t, w = .ref t) → va_Z "jdk/internal/util/Preconditions" "SIOOBE_FORMATTER" "Ljava/util/function/BiFunction;" w (fun q => base ≤ q) s s.heap → W p l e (headSpec (.code yJ0_checkIndex_df160 cJ0_checkIndex_df160 2 none :: gw) (sR 2)).room s m ([Value.int j, .int n] : List Value).toArray below meth c s.heap [] 0 0 (MQ below (sQ none) ([Value.int j, .int n] : List Value).toArray s 0 0 (fun _ => False)) (F0 m 2 ls [.int n, .int j]) := by
    intro w hw hZ
    refine va_gets hx hb hZ hS hown (hts2 _ (mw_in ks_5.2.2.2)) (fun x h => h) sd_k.2.2.1 ?_
    refine s_goon (va_runS (As := [.int j, .int n, w]) (rest := []) ⟨hx, hb, hml, hown, hts2⟩ (sj_pre (l := l) (f := f) (base := base) (tx := tx) (adV := adV) h0 h1 hw) ⟨callB_of 3 hts2 (gw_cons ks_6.2.2.2) rfl rfl rfl (hts2 _ (mw_in ks_6.2.2.1)) (hts2 _ (mw_in ks_6.1)) (by decide +kernel) ⟨Nat.le_refl _, by decide⟩, hts2 _ (mw_in ks_6.2.1)⟩ ⟨sP_blind, fun U hU hW => ⟨rfl, hA.go (fun a _ _ => by rw [hU]) hW.alike⟩⟩ rfl rfl hl.1 rfl (lv_room (by decide)) sd_k.2.2.2.1 ⟨Nat.le_refl _, Nat.le_refl _⟩) ?_
    refine lv_pop hx hb sd_k.2.2.2.2.1 rfl ?_
    exact W.vret hx hb hr (fun t ht _ => ⟨rfl, ht⟩) (fun q hq => by cases hq) sd_k.2.2.2.2.2 hlocks
  rcases hA.2.2.1 with hZ | ⟨t, hZ⟩
  · exact key _ (Or.inl rfl) hZ
  · exact key _ (Or.inr ⟨t, rfl⟩) hZ
set_option maxHeartbeats 1000000 in
theorem sj_lat {i : Nat} {t : List Int32} (ht : tx[i]? = some t) {j x : Int32} (h0 : ¬ j < 0) (hj : t[j.toNatClampNeg]? = some x) : Met l yJ1_charAt_3b067 (.code yJ1_charAt_3b067 cJ1_charAt_3b067 2 (some .char) :: gw) (sR 3) (sP f base tx adV [.ref (adV i), .int j]) (sQ (some (.int x))) 0 0 (fun _ => False) := by
  refine Met.ofW (cc := cJ1_charAt_3b067) (maxL := 2) (ret := some .char) (by decide) rfl ?_
  intro p e s m args below meth c s₁ B hml hv
  obtain ⟨rfl, hA⟩ := hv
  have hx := B.exec
  have hb := B.bytes
  have hr := B.returns
  have hts := atoms_spec (ws := .code yJ1_charAt_3b067 cJ1_charAt_3b067 2 (some .char) :: gw) B.pre
  have hts2 : ∀ w ∈ gw, w.before _ s = true := fun w hw => hts w (List.mem_cons_of_mem _ hw)
  have hown : s.vm.findClass RJ1 = some m.cls := findClass_of_methodNamed B.named
  have hlocks := B.notSynchronized
  have hS : va_S (fun q => base ≤ q) s.heap s.heap [] := va_S.rf
  have hl := lv_entry ([.ref (adV i), .int j]) (n := 2) (Nat.le_of_ble_eq_true rfl)
  rw [lg_entry_eq]
  generalize (lg_sl ([.ref (adV i), .int j]) ++ List.replicate (2 - (lg_sl ([.ref (adV i), .int j])).length) Slot.unset).toArray = ls at hl ⊢
  have hl : lv_has ls 2 [(0, .ref (adV i)), (1, .int j)] := hl
  obtain ⟨a1, a2, a3, a4⟩ := hA.1 i t ht
  obtain ⟨hlen, hby⟩ := hA.2.2.2 i t ht
  have hlt : j.toNatClampNeg < t.length := (List.getElem?_eq_some_iff.mp hj).1
  have hin : vp_in j t.length := fun q => by
    rcases q with q | q
    · exact h0 q
    · omega
  obtain ⟨jn, hjn, rfl⟩ := vp_in_of hin hlen
  have hjlt : nI jn < nI t.length := nI_lt hjn hlen
  have hxm : x ∈ t := List.mem_of_getElem? hj
  obtain ⟨hb8, hb255⟩ := hby x hxm
  have hval : (fun j => Value.int (t.getD j 0)) (nI jn).toNatClampNeg = .int x := by
    show Value.int (t.getD (nI jn).toNatClampNeg 0) = .int x
    rw [List.getD_eq_getElem?_getD, hj]
    rfl
  refine lv_iload_n hx hb sd_h.1 rfl (lv_at hl 1 rfl) ?_
  refine lv_aload_n hx hb sd_h.2.1 rfl (lv_at hl 0 rfl) ?_
  refine va_tlen hx hb a4 hS rfl sd_h.2.2.1 ?_
  refine s_goon (va_runS (As := [.int (nI jn), .int (Int32.ofNat t.length)]) (rest := []) ⟨hx, hb, hml, hown, hts2⟩ (sj_chk (l := l) (f := f) (base := base) (tx := tx) (adV := adV) h0 hjlt) ⟨callB_of 2 hts2 (gw_cons ks_5.2.2.1) rfl rfl rfl (hts2 _ (mw_in ks_1.2.2.2.2.2)) (hts2 _ (mw_in ks_5.1)) (by decide +kernel) ⟨Nat.le_refl _, by decide⟩, hts2 _ (mw_in ks_5.2.1)⟩ ⟨sP_blind, fun U hU hW => ⟨rfl, hA.go (fun a _ _ => by rw [hU]) hW.alike⟩⟩ rfl rfl hl.1 rfl (lv_room (by decide)) sd_h.2.2.2.1 ⟨Nat.le_refl _, Nat.le_refl _⟩) ?_
  refine lv_aload_n hx hb sd_h.2.2.2.2.1 rfl (lv_at hl 0 rfl) ?_
  refine lv_iload_n hx hb sd_h.2.2.2.2.2.1 rfl (lv_at hl 1 rfl) ?_
  refine va_tb hx hb a4 hS hin hval sd_h.2.2.2.2.2.2.1 ?_
  refine lv_sipush (v := 255) hx hb sd_h.2.2.2.2.2.2.2.1 (by decide) ?_
  refine lv_iand hx hb sd_h.2.2.2.2.2.2.2.2.1 ?_
  refine lv_i2c (v := x) hx hb sd_h.2.2.2.2.2.2.2.2.2.1 (by rw [sc_c2, hb255]) ?_
  exact W.zret (ty := .char) hx hb hr (by rw [← hb255]; exact sc_nar x) (fun t ht _ => ⟨rfl, ht⟩) (fun q hq => by cases hq) sd_h.2.2.2.2.2.2.2.2.2.2 hlocks
set_option maxHeartbeats 1000000 in
theorem sj_char {i : Nat} {t : List Int32} (ht : tx[i]? = some t) {j x : Int32} (h0 : ¬ j < 0) (hj : t[j.toNatClampNeg]? = some x) : Met l yJ0_charAt_5068e (.code yJ0_charAt_5068e cJ0_charAt_5068e 2 (some .char) :: gw) (sR 4) (sP f base tx adV [.ref (f (m_scr + 1 + i)), .int j]) (sQ (some (.int x))) 0 0 (fun _ => False) := by
  refine Met.ofW (cc := cJ0_charAt_5068e) (maxL := 2) (ret := some .char) (by decide) rfl ?_
  intro p e s m args below meth c s₁ B hml hv
  obtain ⟨rfl, hA⟩ := hv
  have hx := B.exec
  have hb := B.bytes
  have hr := B.returns
  have hts := atoms_spec (ws := .code yJ0_charAt_5068e cJ0_charAt_5068e 2 (some .char) :: gw) B.pre
  have hts2 : ∀ w ∈ gw, w.before _ s = true := fun w hw => hts w (List.mem_cons_of_mem _ hw)
  have hown : s.vm.findClass RJ0 = some m.cls := findClass_of_methodNamed B.named
  have hlocks := B.notSynchronized
  have hS : va_S (fun q => base ≤ q) s.heap s.heap [] := va_S.rf
  have hl := lv_entry ([.ref (f (m_scr + 1 + i)), .int j]) (n := 2) (Nat.le_of_ble_eq_true rfl)
  rw [lg_entry_eq]
  generalize (lg_sl ([.ref (f (m_scr + 1 + i)), .int j]) ++ List.replicate (2 - (lg_sl ([.ref (f (m_scr + 1 + i)), .int j])).length) Slot.unset).toArray = ls at hl ⊢
  have hl : lv_has ls 2 [(0, .ref (f (m_scr + 1 + i))), (1, .int j)] := hl
  obtain ⟨a1, a2, a3, a4⟩ := hA.1 i t ht
  have hb255 := ((hA.2.2.2 i t ht).2 x (List.mem_of_getElem? hj)).2
  have hrec : ∃ cellB : Cell, s.heap[f (m_scr + 1 + i)]? = some cellB ∧ cellB.vm.isStatics = false ∧ s.vm.findClass RJ0 = some cellB.cls := by
    obtain ⟨cell, h1, h2, h3, -⟩ := a1
    exact ⟨cell, h1, h2, h3⟩
  refine lv_aload_n hx hb sd_s.1 rfl (lv_at hl 0 rfl) ?_
  refine s_goon (va_runV (As := []) (rest := []) (b := f (m_scr + 1 + i)) ⟨hx, hb, hml, hown, hts2⟩ (sj_latin (l := l) (f := f) (base := base) (adV := adV) ht) (cwV 0 hts2 (s_gi ks_3.1 ks_3.2.1 ks_3.2.2.1 ks_1.2.2.2.2.2 ks_1.2.2.2.2.1) rfl rfl rfl (by decide +kernel) ⟨by decide, by decide⟩) ⟨sP_blind, hrec, fun U hU hW => ⟨rfl, hA.go (fun a _ _ => by rw [hU]) hW.alike⟩⟩ rfl rfl hl.1 rfl (lv_room (by decide)) sd_s.2.1 ⟨Nat.le_refl _, Nat.le_refl _⟩) ?_
  refine lv_if_eq (tgt := 16) hx hb sd_s.2.2.1 (by decide) (fun h => absurd h (by decide)) (fun _ => ?_)
  refine lv_aload_n hx hb sd_s.2.2.2.1 rfl (lv_at hl 0 rfl) ?_
  refine vk_getf hx hb a3 hS hown (hts2 _ (mw_in ks_1.2.2.2.1)) (fun x h => h) sd_s.2.2.2.2.1 ?_
  refine lv_iload_n hx hb sd_s.2.2.2.2.2.1 rfl (lv_at hl 1 rfl) ?_
  refine s_goon (va_runS (As := [.ref (adV i), .int j]) (rest := []) ⟨hx, hb, hml, hown, hts2⟩ (sj_lat (l := l) (f := f) (base := base) (tx := tx) (adV := adV) ht h0 hj) ⟨callB_of 2 hts2 (gw_cons ks_4.2.2.2) rfl rfl rfl (hts2 _ (mw_in ks_4.2.2.1)) (hts2 _ (mw_in ks_4.1)) (by decide +kernel) ⟨Nat.le_refl _, by decide⟩, hts2 _ (mw_in ks_4.2.1)⟩ ⟨sP_blind, fun U hU hW => ⟨rfl, hA.go (fun a _ _ => by rw [hU]) hW.alike⟩⟩ rfl rfl hl.1 rfl (lv_room (by decide)) sd_s.2.2.2.2.2.2.1 ⟨Nat.le_refl _, Nat.le_refl _⟩) ?_
  exact W.zret (ty := .char) hx hb hr (by rw [← hb255]; exact sc_nar x) (fun t ht _ => ⟨rfl, ht⟩) (fun q hq => by cases hq) sd_s.2.2.2.2.2.2.2 hlocks
/-- so the texts' members do what the small machine says -/
theorem sj_TX {D : va_G} {tc : Nat → ClassId} {X : Nat × (Nat → Int32)} {sx : List (String × Nat × String)} (mm : mMeth) (C : m_Ctx p s m args meth c mm) (hAmb : m_Amb D f tc base X sx tx s) (hR : 20 ≤ R.frames ∧ 300 ≤ R.locals) : m_TX p l e R s m args below meth c mm.2.1 mm.1.cls f base mm.2.2.1 tx := by
  obtain ⟨hx, hb, hml, hown, hts, hname, hret, hlk, htab⟩ := C
  obtain ⟨adV, hA⟩ := hAmb.2.2.2.2.2.2.1
  intro H locs cells slots Q pc index i ls rest t ht hS hsz hrest hc hs hd
  obtain ⟨a1, a2, a3, a4⟩ := hA.1 i t ht
  have hq : ∀ a : Nat, a < s.heap.size → ¬ base ≤ a → H[a]? = s.heap[a]? := hS.2.1
  have hrec : ∃ cellB : Cell, H[f (m_scr + 1 + i)]? = some cellB ∧ cellB.vm.isStatics = false ∧ s.vm.findClass RJ0 = some cellB.cls := by
    obtain ⟨cell, h1, h2, h3, h4⟩ := a1
    exact ⟨cell, by rw [hq _ (Array.getElem?_eq_some_iff.mp h1).1 h4]; exact h1, h2, h3⟩
  refine ⟨fun hlink kk => ?_, fun hlink j x h0 hj kk => ?_⟩
  · have hgi : GoodIn gw (wsV mm.1.cls index RJ0 yJ0_length_8abf5 (.code yJ0_length_8abf5 cJ0_length_8abf5 1 (some .int) :: gw)) := by
      intro v hv
      simp only [wsV, List.cons_append, List.nil_append, List.mem_cons] at hv
      rcases hv with rfl | rfl | rfl | rfl | rfl | hv
      · exact gw_good _ hlink
      · exact gw_good _ (mw_in ks_2.2.2.2.2.1)
      · exact gw_good _ (mw_in ks_2.2.2.2.2.2)
      · exact gw_good _ (mw_in ks_1.2.2.2.2.2)
      · exact gw_good _ (mw_in ks_2.2.2.2.1)
      · exact gw_good _ hv
    exact s_goon (va_runV (As := []) (rest := rest) (b := f (m_scr + 1 + i)) ⟨hx, hb, hml, hown, hts⟩ (sj_length (l := l) (f := f) (base := base) (adV := adV) ht) (cwV 0 hts hgi rfl rfl rfl (by decide +kernel) ⟨by show 2 + 1 ≤ R.frames; omega, by show 8 + (1 + 11) + 80 ≤ R.locals; omega⟩) ⟨sP_blind, hrec, fun U hU hW => ⟨rfl, hA.go (fun a h1 h2 => by rw [hU]; exact hq a h1 h2) hW.alike⟩⟩ rfl rfl hsz rfl (lv_room hrest) hd ⟨hc, hs⟩) kk
  · have hgi : GoodIn gw (wsV mm.1.cls index RJ0 yJ0_charAt_5068e (.code yJ0_charAt_5068e cJ0_charAt_5068e 2 (some .char) :: gw)) := by
      intro v hv
      simp only [wsV, List.cons_append, List.nil_append, List.mem_cons] at hv
      rcases hv with rfl | rfl | rfl | rfl | rfl | hv
      · exact gw_good _ hlink
      · exact gw_good _ (mw_in ks_3.2.2.2.2.1)
      · exact gw_good _ (mw_in ks_3.2.2.2.2.2)
      · exact gw_good _ (mw_in ks_1.2.2.2.2.2)
      · exact gw_good _ (mw_in ks_3.2.2.2.1)
      · exact gw_good _ hv
    exact s_goon (va_runV (As := [.int j]) (rest := rest) (b := f (m_scr + 1 + i)) ⟨hx, hb, hml, hown, hts⟩ (sj_char (l := l) (f := f) (base := base) (adV := adV) ht h0 hj) (cwV 1 hts hgi rfl rfl rfl (by decide +kernel) ⟨by show 4 + 1 ≤ R.frames; omega, by show 8 + (2 + 11) + 160 ≤ R.locals; omega⟩) ⟨sP_blind, hrec, fun U hU hW => ⟨rfl, hA.go (fun a h1 h2 => by rw [hU]; exact hq a h1 h2) hW.alike⟩⟩ rfl rfl hsz rfl (lv_room hrest) hd ⟨hc, hs⟩) kk
end Str
