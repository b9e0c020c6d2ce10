/-! THE CLAIM, out of one run of the small machine -/
def m_fi (base b : Nat) (adK : Nat → Nat) (a : Nat) : Nat := if a < m_scr then base + a else if a = m_scr then b else adK (a - m_scr - 1)
theorem m_fi_str {base b : Nat} {adK : Nat → Nat} {i : Nat} : m_fi base b adK (m_scr + 1 + i) = adK i := by
  unfold m_fi
  rw [if_neg (by omega), if_neg (by omega), show m_scr + 1 + i - m_scr - 1 = i by omega]
set_option maxRecDepth 1000000 in
theorem kt_R : (mSx.all fun q => decide (Cond.stringRef q.1 q.2.1 q.2.2 ∈ lw_tbl)) = true := by decide +kernel
set_option maxRecDepth 1000000 in
theorem kt_L : mSx.length = mT.length ∧ (mT.all fun t => decide (t.length < 2 ^ 31) && t.all fun b => decide (b.toInt8.toInt32 = b ∧ b &&& 255 = b)) = true := by decide +kernel
set_option maxRecDepth 1000000 in
theorem kt_W : mw (.arrayClass .int) = true ∧ mw (.arrayClass .boolean) = true ∧ mw (.arrayClass .long) = true ∧ mx (.arrayOver (.object "DarnEggs$State")) = true ∧ mx (.arrayOver (.object "DarnEggs$Past")) = true := by decide +kernel
set_option maxRecDepth 1000000 in
theorem kt_Z : Cond.laysStatic Bundle.tN "UNASSIGNED_STACK" Bundle.steD ∈ lw_tbl ∧ Cond.laysStatic Bundle.tN "SUPPRESSED_SENTINEL" Bundle.listD ∈ lw_tbl ∧ Cond.initialized Bundle.tN ∈ lw_tbl ∧ Cond.laysStatic "java/lang/String" "COMPACT_STRINGS" "Z" ∈ lw_tbl ∧ Cond.initialized "java/lang/String" ∈ lw_tbl ∧ Cond.laysStatic "jdk/internal/util/Preconditions" "SIOOBE_FORMATTER" "Ljava/util/function/BiFunction;" ∈ lw_tbl ∧ Cond.initialized "jdk/internal/util/Preconditions" ∈ lw_tbl := by decide +kernel
set_option maxRecDepth 1000000 in
theorem kt_N : Cond.isRef (.static Bundle.tN "UNASSIGNED_STACK" Bundle.steD) ∈ flatC (Jvm.Cond.and given_1 narrow_1) ∧ Cond.isRef (.static Bundle.tN "SUPPRESSED_SENTINEL" Bundle.listD) ∈ flatC (Jvm.Cond.and given_1 narrow_1) ∧ Cond.eq (.static "java/lang/String" "COMPACT_STRINGS" "Z") (.int 1) ∈ flatC (Jvm.Cond.and given_1 narrow_1) ∧ Cond.isRef (.static "jdk/internal/util/Preconditions" "SIOOBE_FORMATTER" "Ljava/util/function/BiFunction;") ∈ flatC (Jvm.Cond.and given_1 narrow_1) ∧ Cond.not (.castable (m_exc 2) (m_exc 1)) ∈ flatC (Jvm.Cond.and given_1 narrow_1) := by decide +kernel
theorem t_arr {s : State} {args : Array Value} {ty : FieldType} (h : (Cond.arrayClass ty).before args s = true) (hn : ∀ C, ty ≠ .object C) : ∃ cA : ClassId, ArrOfT s cA ty ∧ va_RA s cA ty := by
  obtain ⟨cA, kA, comp, h1, h2, h3⟩ := Cond.arrayClass_spec h
  refine ⟨cA, fun n z => ⟨fun k h => (by cases h), kA, h2, comp, h3⟩, ?_⟩
  cases ty <;> first | exact h1 | exact absurd rfl (hn _)
theorem t_over {s : State} {args : Array Value} {C : String} (h : (Cond.arrayOver (.object C)).before args s = true) : ∃ cA : ClassId, ArrOfT s cA (.object C) ∧ va_RA s cA (.object C) := by
  obtain ⟨comp, cA, kA, h1, h2, h3, h4, h5⟩ := Cond.arrayOver_spec h
  exact ⟨cA, fun n z => ⟨fun k h => (by cases h), kA, h3, comp, h4⟩, kA, comp, h3, h4, h1, h5⟩
set_option maxHeartbeats 4000000 in
/-- the start of the law: all that the small machine's runs stand on -/
theorem t_Amb {s : State} {b L : Nat} {xs : Nat → Int32} (hts : ∀ w ∈ lw_tbl, w.before #[Value.ref b] s = true) (hX : va_X b L xs s s.heap) (hbl : b < s.heap.size) (hgv : (Jvm.Cond.and given_1 narrow_1).before #[Value.ref b] s = true) :
    ∃ (D : va_G) (f : Nat → Nat) (tc : Nat → ClassId), m_Amb D f tc s.heap.size (L, xs) mSx mT s ∧ f m_scr = b := by
  have hfl := flat_of_before _ hgv
  have hgw : ∀ w ∈ gw, w.before #[Value.ref b] s = true := fun w hw => hts w (List.mem_filter.mp hw).1
  have hxw : ∀ w ∈ xw, w.before #[Value.ref b] s = true := fun w hw => hts w (List.mem_filter.mp hw).1
  have hA : ∀ a : Nat, a < s.heap.size → ¬ s.heap.size ≤ a := fun a h => Nat.not_le.mpr h
  have hD : ∀ ci : Nat, ∃ z : ClassId × (Nat → Nat), ∀ q, vwCl[ci]? = some q → u_Kn s q.1 q.2.1 q.2.2 z.1 z.2 := by
    intro ci
    cases hq : vwCl[ci]? with
    | none => exact ⟨(0, fun _ => 0), fun q h => by cases h⟩
    | some q =>
      obtain ⟨cC, iS, h⟩ := u_known hgw (m_cls hq).1 (hgw _ (m_cls hq).2.1.1)
      exact ⟨(cC, iS), fun q' h' => by cases h'; exact h⟩
  obtain ⟨dD, hdD⟩ := Classical.axiomOfChoice hD
  obtain ⟨t0, ht0⟩ := t_arr (hgw _ (mw_in kt_W.1)) (fun C h => by cases h)
  obtain ⟨t1, ht1⟩ := t_arr (hgw _ (mw_in kt_W.2.1)) (fun C h => by cases h)
  obtain ⟨t2, ht2⟩ := t_arr (hgw _ (mw_in kt_W.2.2.1)) (fun C h => by cases h)
  obtain ⟨t3, ht3⟩ := t_over (hxw _ (mx_in kt_W.2.2.2.1))
  obtain ⟨t4, ht4⟩ := t_over (hxw _ (mx_in kt_W.2.2.2.2))
  have hSt : ∀ i : Nat, ∃ z : Nat × Nat, ∀ q t, mSx[i]? = some q → mT[i]? = some t → vk_R q.1 q.2.1 q.2.2 z.1 s ∧ va_O "java/lang/String" z.1 (fun a => s.heap.size ≤ a) s s.heap ∧ va_OF "java/lang/String" "coder" "B" (.int 0) z.1 (fun a => s.heap.size ≤ a) s s.heap ∧ va_OF "java/lang/String" "value" "[B" (.ref z.2) z.1 (fun a => s.heap.size ≤ a) s s.heap ∧ va_T .byte z.2 t.length (fun j => .int (t.getD j 0)) (fun a => s.heap.size ≤ a) s s.heap := by
    intro i
    cases hq : mSx[i]? with
    | none => exact ⟨(0, 0), fun q t h => by cases h⟩
    | some q =>
      cases ht : mT[i]? with
      | none => exact ⟨(0, 0), fun q t _ h => by cases h⟩
      | some t =>
        have hz : (mSx.zip mT)[i]? = some (q, t) := by rw [List.getElem?_zip_eq_some]; exact ⟨hq, ht⟩
        have hw : ∀ w ∈ t_S q t, w.before #[Value.ref b] s = true := fun w hw => hfl w (kt_S _ (List.mem_of_getElem? hz) w hw)
        have hlen : t.length < 2 ^ 31 := by
          have := List.all_eq_true.mp kt_L.2 t (List.mem_of_getElem? ht)
          simp only [Bool.and_eq_true, decide_eq_true_eq] at this
          exact this.1
        obtain ⟨a, c, cA, kA, q1, q2, q3, q4, q5, q6, -⟩ := Cond.exactly_spec (args := #[Value.ref b]) (first := s) (o := none) (s := s) (idx := []) (t := .string q.1 q.2.1) (cls := "java/lang/String") (hw (.exactly (.string q.1 q.2.1) "java/lang/String") (by simp [t_S]))
        obtain ⟨tv, htv, hT⟩ := va_Tof (tm := t_val q) (f := fun j => .int (t.getD j 0)) (A := fun a => s.heap.size ≤ a) hlen (hw (.arrayOf (t_val q) .byte) (by simp [t_S])) (va_eqt (hw (.eq (.length (t_val q)) (.int (Int32.ofNat t.length))) (by simp [t_S]))) (fun j hj => va_eqt (hw _ (by simp only [t_S, List.mem_append, List.mem_map, List.mem_range]; exact Or.inr ⟨j, hj, rfl⟩))) hA
        refine ⟨(a, tv), fun q' t' h1 h2 => ?_⟩
        cases h1
        cases h2
        refine ⟨vk_R.of (A := #[Value.ref b]) (hts _ (by simpa using List.all_eq_true.mp kt_R q (List.mem_of_getElem? hq))) q1, ⟨cA, q3, q5, by rw [q6]; exact q2, hA a (Array.getElem?_eq_some_iff.mp q3).1⟩, vk_OFof q1 (va_eqt (hw (.eq (.field (.string q.1 q.2.1) "java/lang/String" "coder" "B") (.int 0)) (by simp [t_S]))) hA, vk_OFof q1 htv hA, hT⟩
  obtain ⟨adS, hadS⟩ := Classical.axiomOfChoice hSt
  have hex : ∀ i t, mT[i]? = some t → ∃ q, mSx[i]? = some q := fun i t h => ⟨_, List.getElem?_eq_getElem (by rw [kt_L.1]; exact (List.getElem?_eq_some_iff.mp h).1)⟩
  have hex2 : ∀ i q, mSx[i]? = some q → ∃ t, mT[i]? = some t := fun i t h => ⟨_, List.getElem?_eq_getElem (by rw [← kt_L.1]; exact (List.getElem?_eq_some_iff.mp h).1)⟩
  refine ⟨(fun k => (dD k).1, fun k => (dD k).2), m_fi s.heap.size b (fun i => (adS i).1), fun k => if k = 0 then t0 else if k = 1 then t1 else if k = 2 then t2 else if k = 3 then t3 else t4, ⟨⟨fun ci q h => hdD ci q h, fun k q hk => ?_⟩, Nat.le_refl _, ⟨?_, ?_⟩, fun j q hj => ?_, fun w hw => ?_, ⟨vx_Zqof (hts _ kt_Z.1) (hts _ kt_Z.2.2.1) (hfl _ kt_N.1) hA, vx_Zqof (hts _ kt_Z.2.1) (hts _ kt_Z.2.2.1) (hfl _ kt_N.2.1) hA⟩, ⟨fun i => (adS i).2, fun i t ht => ?_, va_Zof (hts _ kt_Z.2.2.2.1) (hts _ kt_Z.2.2.2.2.1) (va_eqt (hfl _ kt_N.2.2.1)) hA, va_Zqof (hts _ kt_Z.2.2.2.2.2.1) (hts _ kt_Z.2.2.2.2.2.2) (hfl _ kt_N.2.2.2.1) hA, fun i t ht => ?_⟩, va_Nc.of (hfl _ kt_N.2.2.2.2), fun a ha => ?_⟩, ?_⟩
  · match k, hk with
    | 0, hk => cases hk; exact ht0
    | 1, hk => cases hk; exact ht1
    | 2, hk => cases hk; exact ht2
    | 3, hk => cases hk; exact ht3
    | 4, hk => cases hk; exact ht4
    | n + 5, hk => simp [m_tys] at hk
  · show m_fi _ _ _ m_scr < _
    unfold m_fi
    rw [if_neg (Nat.lt_irrefl _), if_pos rfl]
    exact hbl
  · show va_X (m_fi _ _ _ m_scr) L xs s s.heap
    unfold m_fi
    rw [if_neg (Nat.lt_irrefl _), if_pos rfl]
    exact hX
  · obtain ⟨t, ht⟩ := hex2 j q hj
    rw [m_fi_str]
    exact (hadS j q t hj ht).1
  · have h1 := hxw w hw
    have h2 := (List.mem_filter.mp hw).2
    cases w <;> simp only [m_ex, Bool.false_eq_true] at h2
    case castable => exact va_Nw.of rfl h1
    case declares => exact va_Nw.of rfl h1
    case methodLinkNest => exact va_Nw.of rfl h1
    case arrayOver t =>
      cases t <;> simp only [Bool.false_eq_true] at h2
      exact va_AO.of (A := #[Value.ref b]) h1
  · obtain ⟨q, hq⟩ := hex i t ht
    rw [m_fi_str]
    exact (hadS i q t hq ht).2
  · have := List.all_eq_true.mp kt_L.2 t (List.mem_of_getElem? ht)
    simp only [Bool.and_eq_true, decide_eq_true_eq, List.all_eq_true] at this
    exact this
  · unfold m_fi
    rw [if_pos ha]
  · unfold m_fi
    rw [if_neg (Nat.lt_irrefl _), if_pos rfl]
