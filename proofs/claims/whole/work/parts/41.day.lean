/-! a day passes: both sides -/
theorem VM_fr {J J' : Nat → Nat → Int} {V : VT} (h : VM J V) (hf : ∀ c, c = 542 ∨ c = 549 ∨ c = 550 ∨ c = 552 → J' c = J c) : VM J' V := by
  obtain ⟨k1, k2, k3, k4, k5, k6, k7, k8⟩ := h
  refine ⟨?_, ?_, ?_, ?_, ?_, fun k hk => ?_, fun k hk => ?_, fun k hk => ?_⟩
  · rw [hf _ (by omega)]; exact k1
  · rw [hf _ (by omega)]; exact k2
  · rw [hf _ (by omega)]; exact k3
  · rw [hf _ (by omega)]; exact k4
  · rw [hf _ (by omega)]; exact k5
  · rw [hf _ (by omega)]; exact k6 k hk
  · rw [hf _ (by omega)]; exact k7 k hk
  · rw [hf _ (by omega)]; exact k8 k hk
/-- nothing but cell 562 has changed -/
def FM (J J' : Nat → Nat → Int) : Prop := ∀ c, c ≠ 562 → J' c = J c
theorem FM.tr {J J1 J2 : Nat → Nat → Int} (h1 : FM J J1) (h2 : FM J1 J2) : FM J J2 := fun c hc => (h2 c hc).trans (h1 c hc)
theorem FM.up {J : Nat → Nat → Int} {k : Nat} {v : Int} : FM J (m_up J 562 k v) := fun c hc => up_r hc
theorem FM.vm {J J' : Nat → Nat → Int} {V : VT} (h : FM J J') (hV : VM J V) : VM J' V := VM_fr hV (fun c hc => h c (by omega))
section DY
variable {X : Nat × (Nat → Int32)} {J : Nat → Nat → Int} {sw : Bool × Bool × Bool} {lg : Nat → Nat → Int64} {x a v l h e p : Nat} {T : LT} {V : VT} {s : Nat → Int}
theorem e_57 (h0 : SH[a]? = some (11, 9)) (h1 : SH[v]? = some (14, 12)) (hV : VK J v V) (bV : VBd V) (hs : SV J a s) (bs : SBd (vn V) s) (hd : 0 ≤ s 49 ∧ s 49 ≤ 2000) : ∃ J', EE X 2 57 [.ref a, .ref v] (mj J sw lg x) (.inl none) (mj J' sw lg x) ∧ SV J' a (passA V s) ∧ FSt a J J' := by
  have v1 := bV.1
  have v3 := bV.2.2.1
  have v5 := bV.2.2.2.2.1
  refine EE.ex (O := fun _ => .inl none) (F := fun J' => mj J' sw lg x) mt_57 (b_57_0 h0 h1 (by omega) ?_)
  have key := lp (P := fun k => ∀ J', SV J' a (actsA V s k) → FSt a J J' → VV X 2 57 (2, [some (.ref a), some (.ref v), some (iv k)], [], mj J' sw lg x) (fun o M => ∃ z, o = .inl none ∧ M = mj z sw lg x ∧ SV z a (passA V s) ∧ FSt a J z)) (ve V) ?_ ?_ 0 (Nat.zero_le _)
  · exact key J hs FSt.rfl'
  · intro J' hS hF
    have hV' := VK_fr hV h1 h0 hF
    have hb := SBd_acts bs bV (ve V) v1
    have e1 : J' a 7 = actsA V s (ve V) 49 := hS.2.2.2.2.2.2.2.1
    have hS1 : SV (m_up J' a 7 (J' a 7 + 1)) a (pass1 V s) := by rw [e1]; exact SV_day hS _
    have hF1 : FSt a J (m_up J' a 7 (J' a 7 + 1)) := hF.tr FSt.up0
    have hb1 : SBd (vn V) (pass1 V s) := SBd_any hb.1 (by omega)
    have e2 : J' a 7 + 1 = pass1 V s 49 := by unfold pass1; rw [up1_eq, e1]
    have e3 : pass1 V s 49 = s 49 + 1 := by rw [← e2, e1, hb.2]
    refine b_57_2 h0 h1 (by omega) ?_
    rw [hV'.1, hV'.2.2.2.1]
    have fin1 : ¬ (0 < vmo V ∧ pass1 V s 49 % vmo V = 0) → ∃ z, (.inl none : Option Value ⊕ Nat) = .inl none ∧ mj (m_up (m_up J' a 7 (J' a 7 + 1)) a 6 0) sw lg x = mj z sw lg x ∧ SV z a (passA V s) ∧ FSt a J z := by
      intro q
      refine ⟨_, rfl, rfl, ?_, hF1.tr FSt.up0⟩
      have := SV_clr hS1
      unfold passA
      rw [if_neg q]
      exact this
    refine ⟨by omega, by omega, fun _ => ⟨by omega, fun c => fin1 (by omega), fun c => ⟨by omega, fun c2 => fin1 ?_, fun c2 => ?_⟩⟩, fun c => by omega⟩
    · rw [e2, q_remI (by omega) (by omega) (by omega) (by omega)] at c2
      omega
    · rw [e2, q_remI (by omega) (by omega) (by omega) (by omega)] at c2
      have key2 := lp (P := fun k => ∀ J2, SV J2 a (mothA (pass1 V s) k) → FSt a J J2 → VV X 2 57 (81, [some (.ref a), some (.ref v), some (iv k)], [], mj J2 sw lg x) (fun o M => ∃ z, o = .inl none ∧ M = mj z sw lg x ∧ SV z a (passA V s) ∧ FSt a J z)) (vn V) ?_ ?_ 0 (Nat.zero_le _)
      · exact key2 _ hS1 hF1
      · intro J2 hS2 hF2
        have hV2 := VK_fr hV h1 h0 hF2
        refine b_57_81 h0 h1 (by omega) ?_
        rw [hV2.2.2.1]
        refine ⟨by omega, by omega, fun _ => ⟨_, rfl, rfl, ?_, hF2.tr FSt.up0⟩, fun c => by omega⟩
        have := SV_clr hS2
        unfold passA
        rw [if_pos ⟨c, c2⟩]
        exact this
      · intro k hk ih J2 hS2 hF2
        have hV2 := VK_fr hV h1 h0 hF2
        have hb2 := (SBd_moth hb1 k (by omega)).1.2.2.2.1 k (by omega)
        have f2 : J2 (a + 5) (k : Int).toNat = mothA (pass1 V s) k (30 + k) := hS2.2.2.2.2.1 k (by omega)
        refine b_57_81 h0 h1 (by omega) ?_
        rw [hV2.2.2.1, f2]
        refine ⟨by omega, by omega, fun c => by omega, fun _ => ⟨by omega, by omega, ?_⟩⟩
        exact ih _ (SV_wear hS2 (p := k) (by omega) (min 99 (mothA (pass1 V s) k (30 + k) + 1))) (hF2.tr (FSt.up (by decide)))
  · intro k hk ih J' hS hF
    have hV' := VK_fr hV h1 h0 hF
    have hb := SBd_acts bs bV k (by omega)
    have b2 := hb.1.2.1 k (by omega)
    have f3 : J' (a + 3) (k : Int).toNat = actsA V s k (12 + k) := hS.2.2.1 k (by omega)
    refine b_57_2 h0 h1 (by omega) ?_
    rw [hV'.1, hV'.2.2.1, f3]
    refine ⟨by omega, by omega, fun c => by omega, fun _ => ⟨by omega, by omega, fun c => ?_, fun c => ⟨by omega, fun c2 => by omega, fun c2 => ?_⟩⟩⟩
    · refine ih J' ?_ hF
      show SV J' a (actA V (actsA V s k) k)
      unfold actA
      rw [if_pos (by omega)]
      exact hS
    · have hq : actsA V s k (12 + k) = ((actsA V s k (12 + k)).toNat : Int) := by omega
      have H := e_58 (X := X) (sw := sw) (lg := lg) (x := x) (p := (actsA V s k (12 + k)).toNat) h0 h1 hV' bV hS hb.1 hk (by omega) hq
      rw [← hq] at H
      exact ex0 H (fun J2 h2 => ih J2 h2.1 (hF.tr h2.2))
/-- the reference's way to the next hole -/
def goM (V : VT) (t : Nat → Int) (e p k : Nat) : Nat → Int := if (mostF (vnr V p).testBit (fun o => t (30 + o)) k).1 = -1 then t else up1 t (12 + e) (mostF (vnr V p).testBit (fun o => t (30 + o)) k).1
theorem goM_n {V : VT} {t : Nat → Int} {e p k : Nat} (h : ¬ ((vnr V p).testBit k = true ∧ (mostF (vnr V p).testBit (fun o => t (30 + o)) k).2 < t (30 + k))) : goM V t e p (k + 1) = goM V t e p k := by
  unfold goM
  rw [show mostF (vnr V p).testBit (fun o => t (30 + o)) (k + 1) = mostF (vnr V p).testBit (fun o => t (30 + o)) k by rw [mostF, if_neg h]]
theorem goM_y {V : VT} {t : Nat → Int} {e p k : Nat} (h : (vnr V p).testBit k = true ∧ (mostF (vnr V p).testBit (fun o => t (30 + o)) k).2 < t (30 + k)) : goM V t e p (k + 1) = up1 t (12 + e) (k : Int) := by
  unfold goM
  rw [show mostF (vnr V p).testBit (fun o => t (30 + o)) (k + 1) = ((k : Int), t (30 + k)) by rw [mostF, if_pos h]]
  rw [if_neg (show ¬ (k : Int) = -1 by omega)]
theorem l_215 (hV : VM J V) (bV : VBd V) {t : Nat → Int} (ht : MV J 562 t) (bt : SBd (vn V) t) (he : e < ve V) (hp : p < vn V) (hat : t (12 + e) = (p : Int)) (hz : t (30 + p) = 0) {o2 : Int} : VV X 1 215 (123, [some (.ref 542), some (iv (e : Int)), some (iv o2), some (iv (vnr V p : Nat)), some (iv 0)], [], mj J sw lg x) (fun o M => ∃ z, o = .inl none ∧ M = mj z sw lg x ∧ MV z 562 (act3 V t e p) ∧ FM J z) := by
  have v1 := bV.1
  have v3 := bV.2.2.1
  have key := lp (P := fun k => ∀ J', MV J' 562 (goM V t e p k) → FM J J' → VV X 1 215 (123, [some (.ref 542), some (iv (e : Int)), some (iv o2), some (iv (vnr V p : Nat)), some (iv k)], [], mj J' sw lg x) (fun o M => ∃ z, o = .inl none ∧ M = mj z sw lg x ∧ MV z 562 (act3 V t e p) ∧ FM J z)) (vn V) ?_ ?_ 0 (Nat.zero_le _)
  · exact key J ht (fun _ _ => rfl)
  · intro J' hS hF
    have hV' := hF.vm hV
    refine b_215_123 (by omega) ?_
    rw [hV'.2.2.1]
    exact ⟨by omega, by omega, fun _ => ⟨J', rfl, rfl, hS, hF⟩, fun c => by omega⟩
  · intro k hk ih J' hS hF
    have hV' := hF.vm hV
    have hix := mostF_ix (vnr V p).testBit (fun o => t (30 + o)) k
    have hv := mostF_v (p := (vnr V p).testBit) (f := fun o => t (30 + o)) (n := k)
    have h2 := mostF_2 (p := (vnr V p).testBit) (f := fun o => t (30 + o)) (n := k) (fun q hq => bt.2.2.2.1 q (by omega))
    have bk := bt.2.2.2.1 k (by omega)
    -- where it is now, and how worn that is
    have hcur : J' 562 (12 + (e : Int)).toNat = (if (mostF (vnr V p).testBit (fun o => t (30 + o)) k).1 = -1 then (p : Int) else (mostF (vnr V p).testBit (fun o => t (30 + o)) k).1) := by
      have h : J' 562 (12 + e) = goM V t e p k (12 + e) := hS (12 + e) (by omega)
      show J' 562 (12 + e) = _
      rw [h]
      unfold goM
      split
      · exact hat
      · exact up1_eq _ _ _
    have hg : ∀ q, q < 9 → goM V t e p k (30 + q) = t (30 + q) := by
      intro q hq
      unfold goM
      split
      · rfl
      · exact up1_ne (by omega)
    have hw : J' 562 (30 + J' 562 (12 + (e : Int)).toNat).toNat = (mostF (vnr V p).testBit (fun o => t (30 + o)) k).2 := by
      rw [hcur]
      split
      · rename_i q
        have h : J' 562 (30 + p) = goM V t e p k (30 + p) := hS (30 + p) (by omega)
        show J' 562 (30 + p) = _
        rw [h, hg p (by omega), hz, hv.1 q]
      · rename_i q
        rw [hv.2 q, show (30 + (mostF (vnr V p).testBit (fun o => t (30 + o)) k).1).toNat = 30 + ((mostF (vnr V p).testBit (fun o => t (30 + o)) k).1).toNat by omega, hS _ (by omega)]
        exact hg _ (by omega)
    have hk2 : J' 562 (30 + (k : Int)).toNat = t (30 + k) := by
      have h : J' 562 (30 + k) = goM V t e p k (30 + k) := hS (30 + k) (by omega)
      exact h.trans (hg k (by omega))
    refine b_215_123 (by omega) ?_
    rw [hV'.2.2.1, q_bit (vnr_31 bV p) (by omega), hw, hk2]
    have hb2 : 0 ≤ 30 + J' 562 (12 + (e : Int)).toNat ∧ 30 + J' 562 (12 + (e : Int)).toNat < 50 := by
      rw [hcur]
      split <;> omega
    refine ⟨by omega, by omega, fun c => by omega, fun _ => ⟨fun c => ?_, fun c => ⟨by omega, by omega, hb2, by omega, by omega, fun c2 => ?_, fun c2 => ?_⟩⟩⟩
    · refine ih J' ?_ hF
      rw [goM_n (by intro z; rw [if_pos z.1] at c; omega)]
      exact hS
    · refine ih J' ?_ hF
      rw [goM_n (fun z => absurd z.2 (by omega))]
      exact hS
    · refine ih _ ?_ (hF.tr FM.up)
      have hb : (vnr V p).testBit k = true := by
        cases z : (vnr V p).testBit k
        · rw [z] at c; exact absurd c (by decide)
        · rfl
      rw [goM_y ⟨hb, c2⟩]
      intro i hi
      show m_up J' 562 (12 + e) (k : Int) 562 i = up1 t (12 + e) (k : Int) i
      by_cases q : i = 12 + e
      · subst q; rw [up_eq, up1_eq]
      · rw [up_nk q, up1_ne q, hS i hi]
        unfold goM
        split
        · rfl
        · exact up1_ne q
end DY
