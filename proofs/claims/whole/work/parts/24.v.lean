/-! THE SMALL MACHINE BY RULES. The cells after the two constructors: their shapes never change, their references but for the three swaps -/
def st_sh : List (Nat × Nat) := [(11, 9), (0, 6), (0, 6), (0, 6), (0, 6), (0, 9), (0, 9)]
def pa_sh : List (Nat × Nat) := [(9, 2), (3, 16)] ++ (List.replicate 16 st_sh).flatten
def vi_sh : List (Nat × Nat) := [(14, 12), (0, 6), (0, 6), (0, 9), (0, 9), (0, 14), (0, 14)]
def la_sh : List (Nat × Nat) := [(8, 4), (0, 150), (0, 8), (0, 40)]
def bo_sh : List (Nat × Nat) := [(5, 9), (0, 8), (0, 8), (1, 36), (0, 100)]
def SH : List (Nat × Nat) := [(16, 19), (13, 8), (0, 600)] ++ vi_sh ++ vi_sh ++ la_sh ++ la_sh ++ bo_sh ++ bo_sh ++ [(12, 8), (0, 150), (0, 150), (0, 150), (0, 150), (0, 150)] ++ st_sh ++ st_sh ++ [(10, 1)] ++ pa_sh
  ++ [(7, 3), (3, 3), (4, 3)] ++ (st_sh ++ pa_sh) ++ (st_sh ++ pa_sh) ++ (st_sh ++ pa_sh) ++ [(6, 2), (0, 54), (0, 3584), (15, 3), (0, 4608), (0, 4608)]
  ++ [(17, 60), (0, 2), (0, 600), (0, 6), (0, 6), (0, 9), (0, 28), (0, 6), (0, 6), (0, 9), (0, 28), (0, 150), (0, 150), (0, 150), (0, 150), (0, 150), (0, 8), (0, 200), (0, 200), (0, 50), (0, 50), (0, 800), (0, 9), (0, 9), (0, 3584), (0, 54), (0, 6), (0, 4608), (0, 4608), (0, 100), (0, 2553), (2, 1)]
def m_ref17 (k : Nat) : Option Nat := match k with
  | 1 => some 543
  | 9 => some 544
  | 10 => some 545
  | 11 => some 546
  | 12 => some 547
  | 13 => some 548
  | 14 => some 549
  | 15 => some 550
  | 16 => some 551
  | 17 => some 552
  | 29 => some 553
  | 30 => some 554
  | 31 => some 555
  | 32 => some 556
  | 33 => some 557
  | 36 => some 558
  | 37 => some 559
  | 38 => some 560
  | 45 => some 561
  | 46 => some 562
  | 47 => some 563
  | 48 => some 564
  | 49 => some 565
  | 51 => some 566
  | 52 => some 567
  | 53 => some 568
  | 54 => some 569
  | 55 => some 570
  | 56 => some 571
  | 58 => some 572
  | _ => none
/-- the references: sw says which village, law and book stand in front -/
def GR (sw : Bool × Bool × Bool) (a k : Nat) : Option Nat := match SH[a]? with
  | some (16, _) => match k with
    | 0 => some 1
    | 2 => some (if sw.1 then 10 else 3)
    | 3 => some (if sw.1 then 3 else 10)
    | 4 => some (if sw.2.1 then 21 else 17)
    | 5 => some (if sw.2.1 then 17 else 21)
    | 6 => some (if sw.2.2 then 30 else 25)
    | 7 => some (if sw.2.2 then 25 else 30)
    | 8 => some 35
    | 9 => some 41
    | 10 => some 48
    | 11 => some 55
    | 12 => some 56
    | 13 => some 170
    | 14 => some 536
    | 15 => some 539
    | _ => none
  | some (13, _) => if k = 0 then some (a + 1) else none
  | some (14, _) => match k with
    | 6 => some (a + 1)
    | 7 => some (a + 2)
    | 8 => some (a + 3)
    | 11 => some (a + 4)
    | 9 => some (a + 5)
    | 10 => some (a + 6)
    | _ => none
  | some (8, _) => match k with
    | 0 => some (a + 1)
    | 2 => some (a + 2)
    | 3 => some (a + 3)
    | _ => none
  | some (5, _) => match k with
    | 1 => some (a + 1)
    | 2 => some (a + 2)
    | 4 => some (a + 3)
    | 5 => some (a + 4)
    | _ => none
  | some (12, _) => if 3 ≤ k ∧ k < 8 then some (a + (k - 2)) else none
  | some (11, _) => if k < 6 then some (a + (k + 1)) else none
  | some (9, _) => if k = 0 then some (a + 1) else none
  | some (7, _) => if k < 2 then some (a + (k + 1)) else none
  | some (6, _) => if k < 2 then some (a + (k + 1)) else none
  | some (15, _) => if k < 2 then some (a + (k + 1)) else none
  | some (3, n) => if k < n then some (if a = 171 then 173 + 121 * k else a + (1 + 7 * k)) else none
  | some (4, n) => if k < n then some (180 + 121 * k) else none
  | some (17, _) => m_ref17 k
  | _ => none
abbrev mk (I : Nat → Nat → Int32) (sw : Bool × Bool × Bool) (lg : Nat → Nat → Int64) (x : Nat) : mM := (I, GR sw, lg, SH, x)
def VV (X : Nat × (Nat → Int32)) (d y : Nat) (c : mC) (K : (Option Value ⊕ Nat) → mM → Prop) : Prop := ∃ n r, m_run mP mT X n d y c = some r ∧ K r.1 r.2
/-- a method's run: from its arguments to its end -/
def EE (X : Nat × (Nat → Int32)) (d y : Nat) (As : List Value) (M : mM) (o : Option Value ⊕ Nat) (M' : mM) : Prop := ∃ mm, mP[y]? = some mm ∧ VV X d y (0, m_ent mm.2.2.1 As, [], M) (fun o1 M1 => o1 = o ∧ M1 = M')
theorem m_mono {P : List mMeth} {tx : List (List Int32)} {X : Nat × (Nat → Int32)} : ∀ (n n' d d' y : Nat) (c : mC) (r : mR), n ≤ n' → d ≤ d' → m_run P tx X n d y c = some r → m_run P tx X n' d' y c = some r := by
  intro n
  induction n with
  | zero => intro n' d d' y c r _ _ h; simp [m_run] at h
  | succ n ih =>
    intro n' d d' y c r hn hd h
    obtain ⟨n1, rfl⟩ : ∃ n1, n' = n1 + 1 := ⟨n' - 1, by omega⟩
    obtain ⟨m, op, hm, hop, h | h | h | h⟩ := m_run_s h
    · obtain ⟨hk, c1, hs, hr⟩ := h
      have := ih n1 d d' y c1 r (by omega) hd hr
      simp only [m_run, hm, hop, hk, hs, this]
    · obtain ⟨hk, v, hv, rfl⟩ := h
      simp only [m_run, hm, hop, hk, hv]
    · obtain ⟨hk, d1, m1, res, rfl, hm1, hcall, hres, hc⟩ := h
      obtain ⟨d2, rfl⟩ : ∃ d2, d' = d2 + 1 := ⟨d' - 1, by omega⟩
      have h1 := ih n1 d1 d2 _ _ res (by omega) (by omega) hres
      rcases hc with ⟨v, hv, h2⟩ | ⟨k, hk2, hf, hh, rfl⟩ | ⟨k, t, hk2, hf, hh, h2⟩
      · have h3 := ih n1 (d1 + 1) (d2 + 1) _ _ r (by omega) hd h2
        obtain ⟨o, M1⟩ := res
        dsimp only at hv
        subst hv
        simp only [m_run, hm, hop, hk, hm1, hcall, if_true, h1, h3]
      · obtain ⟨o, M1⟩ := res
        dsimp only at hk2
        subst hk2
        simp only [m_run, hm, hop, hk, hm1, hcall, if_true, h1, hf, hh]
        rfl
      · have h3 := ih n1 (d1 + 1) (d2 + 1) _ _ r (by omega) hd h2
        obtain ⟨o, M1⟩ := res
        dsimp only at hk2
        subst hk2
        cases hq : m.2.2.2.2.2.1 with
        | nil => rw [hq] at hh; cases hh
        | cons a b =>
          rw [hq] at hh
          simp only [m_run, hm, hop, hk, hm1, hcall, if_true, h1, hf, hq, hh, h3]
          rfl
    · obtain ⟨hk, hlen, rfl⟩ := h
      have h0 : m_ck op = 3 := by
        unfold m_ck at hk ⊢
        split at hk <;> (try split at hk) <;> first | omega | rfl | simp_all
      simp only [m_run, hm, hop, h0, hlen, if_true]
section Rules
variable {X : Nat × (Nat → Int32)} {d y pc : Nat} {L : mL} {st : List Value} {M : mM} {K : (Option Value ⊕ Nat) → mM → Prop} {mm : mMeth}
theorem v_s {op : mOp} {c1 : mC} (hm : mP[y]? = some mm) (ho : mm.2.2.2.2.2.2.lookup pc = some op) (hk : m_ck op = 0) (hs : m_step mT X op pc L st M = some c1) (h : VV X d y c1 K) : VV X d y (pc, L, st, M) K := by
  obtain ⟨n, r, hr, hK⟩ := h
  exact ⟨n + 1, r, by simp only [m_run, hm, ho, hk, hs, hr], hK⟩
theorem v_ret {op : mOp} {v : Option Value} (hm : mP[y]? = some mm) (ho : mm.2.2.2.2.2.2.lookup pc = some op) (hk : m_ck op = 1) (hs : m_ret mm op st = some v) (h : K (.inl v) M) : VV X d y (pc, L, st, M) K :=
  ⟨1, (.inl v, M), by simp only [m_run, hm, ho, hk, hs], h⟩
theorem v_thr {op : mOp} (hm : mP[y]? = some mm) (ho : mm.2.2.2.2.2.2.lookup pc = some op) (hk : m_ck op = 3) (hl : st.length ≤ 8) (h : K (.inr (op.2.2.1 - 2000)) (m_thr M)) : VV X d y (pc, L, st, M) K :=
  ⟨1, (.inr (op.2.2.1 - 2000), m_thr M), by simp only [m_run, hm, ho, hk, hl, if_true], h⟩
theorem v_call {op : mOp} {As rest : List Value} {v : Option Value} {M1 : mM} {m1 : mMeth} {d1 : Nat} (hm : mP[y]? = some mm) (ho : mm.2.2.2.2.2.2.lookup pc = some op) (hk : m_ck op = 2) (hm1 : mP[op.2.2.1]? = some m1) (hAs : (st.take op.2.2.2).reverse = As) (hrest : st.drop op.2.2.2 = rest) (hc : m_call op m1 st M = true)
    (he : EE X d1 op.2.2.1 As M (.inl v) M1) (hd : d1 < d) (h : VV X d y (pc + 3, L, v.toList ++ rest, M1) K) : VV X d y (pc, L, st, M) K := by
  obtain ⟨mm1, hmm1, n1, r1, hr1, h1, h2⟩ := he
  cases hm1.symm.trans hmm1
  obtain ⟨n2, r, hr, hK⟩ := h
  obtain ⟨d2, rfl⟩ : ∃ d2, d = d2 + 1 := ⟨d - 1, by omega⟩
  obtain ⟨o, M9⟩ := r1
  dsimp only at h1 h2
  subst h1
  subst h2
  have a1 := m_mono n1 (max n1 n2) d1 d2 _ _ _ (by omega) (by omega) hr1
  have a2 := m_mono n2 (max n1 n2) (d2 + 1) (d2 + 1) _ _ _ (by omega) (Nat.le_refl _) hr
  subst hAs
  subst hrest
  exact ⟨max n1 n2 + 1, r, by simp only [m_run, hm, ho, hk, hm1, hc, if_true, a1, a2], hK⟩
theorem v_callx {op : mOp} {As : List Value} {k : Nat} {M1 : mM} {m1 : mMeth} {d1 : Nat} (hm : mP[y]? = some mm) (ho : mm.2.2.2.2.2.2.lookup pc = some op) (hk : m_ck op = 2) (hm1 : mP[op.2.2.1]? = some m1) (hAs : (st.take op.2.2.2).reverse = As) (hc : m_call op m1 st M = true)
    (he : EE X d1 op.2.2.1 As M (.inr k) M1) (hd : d1 < d) (hf : m_fixed op m1 = false) (hh : mm.2.2.2.2.2.1 = []) (h : K (.inr k) M1) : VV X d y (pc, L, st, M) K := by
  obtain ⟨mm1, hmm1, n1, r1, hr1, h1, h2⟩ := he
  cases hm1.symm.trans hmm1
  obtain ⟨d2, rfl⟩ : ∃ d2, d = d2 + 1 := ⟨d - 1, by omega⟩
  obtain ⟨o, M9⟩ := r1
  dsimp only at h1 h2
  subst h1
  subst h2
  have a1 := m_mono n1 n1 d1 d2 _ _ _ (Nat.le_refl _) (by omega) hr1
  subst hAs
  exact ⟨n1 + 1, (.inr k, M9), by simp only [m_run, hm, ho, hk, hm1, hc, if_true, a1, hf, hh]; rfl, h⟩
theorem v_catch {op : mOp} {As : List Value} {k t : Nat} {M1 : mM} {m1 : mMeth} {d1 : Nat} (hm : mP[y]? = some mm) (ho : mm.2.2.2.2.2.2.lookup pc = some op) (hk : m_ck op = 2) (hm1 : mP[op.2.2.1]? = some m1) (hAs : (st.take op.2.2.2).reverse = As) (hc : m_call op m1 st M = true)
    (he : EE X d1 op.2.2.1 As M (.inr k) M1) (hd : d1 < d) (hf : m_fixed op m1 = false) (hh : m_hand mm.2.2.2.2.2.1 pc k = some t) (h : VV X d y (t, List.replicate L.length none, [], M1) K) : VV X d y (pc, L, st, M) K := by
  obtain ⟨mm1, hmm1, n1, r1, hr1, h1, h2⟩ := he
  cases hm1.symm.trans hmm1
  obtain ⟨n2, r, hr, hK⟩ := h
  obtain ⟨d2, rfl⟩ : ∃ d2, d = d2 + 1 := ⟨d - 1, by omega⟩
  obtain ⟨o, M9⟩ := r1
  dsimp only at h1 h2
  subst h1
  subst h2
  have a1 := m_mono n1 (max n1 n2) d1 d2 _ _ _ (by omega) (by omega) hr1
  have a2 := m_mono n2 (max n1 n2) (d2 + 1) (d2 + 1) _ _ _ (by omega) (Nat.le_refl _) hr
  subst hAs
  refine ⟨max n1 n2 + 1, r, ?_, hK⟩
  cases hq : mm.2.2.2.2.2.1 with
  | nil => rw [hq] at hh; cases hh
  | cons a b =>
    rw [hq] at hh
    simp only [m_run, hm, ho, hk, hm1, hc, if_true, a1, hf, hq, hh, a2]
    rfl
theorem EE.mono {d d' y : Nat} {As : List Value} {M M' : mM} {o : Option Value ⊕ Nat} (h : EE X d y As M o M') (hd : d ≤ d') : EE X d' y As M o M' := by
  obtain ⟨mm, hm, n, r, hr, hK⟩ := h
  exact ⟨mm, hm, n, r, m_mono n n d d' _ _ _ (Nat.le_refl _) hd hr, hK⟩
theorem VV.imp {c : mC} {K K' : (Option Value ⊕ Nat) → mM → Prop} (h : VV X d y c K) (hk : ∀ o M, K o M → K' o M) : VV X d y c K' := by
  obtain ⟨n, r, hr, hK⟩ := h
  exact ⟨n, r, hr, hk _ _ hK⟩
theorem EE.of {As : List Value} {M' : mM} {o : Option Value ⊕ Nat} (hm : mP[y]? = some mm) (h : VV X d y (0, m_ent mm.2.2.1 As, [], M) (fun o1 M1 => o1 = o ∧ M1 = M')) : EE X d y As M o M' := ⟨mm, hm, h⟩
end Rules
