/-! a day, a darn, the other steps: the reference's row -/
section D2
variable {X : Nat × (Nat → Int32)} {J : Nat → Nat → Int} {sw : Bool × Bool × Bool} {lg : Nat → Nat → Int64} {x a v l h e p : Nat} {T : LT} {V : VT} {s : Nat → Int}
theorem e_205' (hV : VM J V) (bV : VBd V) (p : Nat) (hp : p < 100) : EE X 0 205 [.ref 542, iv (p : Int)] (mj J sw lg x) (.inl (some (iv (vnr V p : Nat)))) (mj J sw lg x) :=
  e_205 (g := vg V) (h := vn V) (n := vp V) (by omega) bV.2.2.1 hV.2.2.2.1 bV.2.2.2.1 hV.2.2.2.2.2.2.2 bV.2.2.2.2.2.2.2
theorem e_215 (hV : VM J V) (bV : VBd V) (hs : MV J 562 s) (bs : SBd (vn V) s) (he : e < ve V) : ∃ J', EE X 1 215 [.ref 542, iv (e : Int)] (mj J sw lg x) (.inl none) (mj J' sw lg x) ∧ MV J' 562 (actA V s e) ∧ FM J J' := by
  have v1 := bV.1
  have v3 := bV.2.2.1
  have f0 : J 562 (e : Int).toNat = s e := hs e (by omega)
  have f5 : J 562 (6 + (e : Int)).toNat = s (6 + e) := hs (6 + e) (by omega)
  have f4 : J 562 (12 + (e : Int)).toNat = s (12 + e) := hs (12 + e) (by omega)
  have b1 := bs.1 e (by omega)
  have b2 := bs.2.1 e (by omega)
  refine EE.ex (O := fun _ => .inl none) (F := fun J' => mj J' sw lg x) mt_215 (b_215_0 (by omega) ?_)
  rw [f0, f5, f4]
  refine ⟨by omega, by omega, fun hne => ?_, fun c => ⟨J, rfl, rfl, by unfold actA; rw [if_pos c]; exact hs, fun _ _ => rfl⟩⟩
  obtain ⟨p, hat⟩ : ∃ p : Nat, s (12 + e) = (p : Int) := ⟨(s (12 + e)).toNat, by omega⟩
  have hp : p < vn V := by omega
  rw [hat, actA_of hat]
  have f2 : J 562 (30 + (p : Int)).toNat = s (30 + p) := hs (30 + p) (by omega)
  have f3 : J 562 (39 + (p : Int)).toNat = s (39 + p) := hs (39 + p) (by omega)
  have b3 := bs.2.2.2.1 p (by omega)
  have b4 := bs.2.2.2.2.1 p (by omega)
  have t0 : act1 s e p (12 + e) = (p : Int) := by rw [act1_at (by omega) (by omega)]; exact hat
  have bt : SBd (vn V) (act1 s e p) := SBd_act1 bs (by omega)
  have fin : ∀ J1, MV J1 562 (act1 s e p) → FM J J1 → act1 s e p (30 + p) = 0 → ∃ (c4 : Int) (J3 : Nat → Nat → Int), EE X 0 205 [.ref 542, iv (p : Int)] (mj J1 sw lg x) (.inl (some (iv c4))) (mj J3 sw lg x) ∧ VV X 1 215 (123, [some (.ref 542), some (iv (e : Int)), some (iv (p : Int)), some (iv c4), some (iv 0)], [], mj J3 sw lg x) (fun o M => ∃ z, o = .inl none ∧ M = mj z sw lg x ∧ MV z 562 (act3 V (act1 s e p) e p) ∧ FM J z) := by
    intro J1 hS hF hz
    refine ⟨_, J1, e_205' (hF.vm hV) bV p (by omega), ?_⟩
    exact (l_215 (hF.vm hV) bV hS bt he hp t0 hz).imp (fun o M ⟨z, z1, z2, z3, z4⟩ => ⟨z, z1, z2, z3, hF.tr z4⟩)
  rw [f2, f3]
  refine ⟨by omega, by omega, by omega, by omega, fun c => ⟨by omega, by omega, fun c2 => ⟨by omega, ?_⟩, fun c2 => ⟨by omega, fun c3 => ?_, fun c3 => ?_⟩⟩, fun c => ⟨by omega, ?_⟩⟩
  · have q : act1 s e p = up1 s (39 + p) (min 99 (s (39 + p) + 1)) := by unfold act1; rw [if_neg (by omega), if_neg (by omega)]
    refine ⟨_, J, e_210 (by omega), ?_⟩
    have hS : MV (m_up J 562 (39 + (p : Int)).toNat (max 0 (min 99 (s (39 + p) + 1)))) 562 (act1 s e p) := by
      rw [q, show max 0 (min 99 (s (39 + p) + 1)) = min 99 (s (39 + p) + 1) by omega]
      exact MV_up hs (39 + p) _
    have hr : m_up J 562 (39 + (p : Int)).toNat (max 0 (min 99 (s (39 + p) + 1))) 562 (30 + (p : Int)).toNat = s (30 + p) := by
      rw [show (30 + (p : Int)).toNat = 30 + p from rfl, hS (30 + p) (by omega), q, up1_ne (by omega)]
    have hz : act1 s e p (30 + p) = 0 := by rw [q, up1_ne (by omega)]; omega
    rw [hr, if_neg (by omega)]
    exact ⟨by omega, fun _ => fin _ hS FM.up hz, fun c3 => by omega⟩
  · have q : act1 s e p = up1 s (30 + p) (s (30 + p) - 1) := by unfold act1; rw [if_neg (by omega), if_pos (by omega)]
    have hS : MV (m_up J 562 (30 + (p : Int)).toNat (s (30 + p) - 1)) 562 (act1 s e p) := by rw [q]; exact MV_up hs (30 + p) _
    have hz : act1 s e p (30 + p) = 0 := by rw [q, up1_eq]; omega
    rw [if_neg (by omega)]
    exact fin _ hS FM.up hz
  · have q : act1 s e p = up1 s (30 + p) (s (30 + p) - 1) := by unfold act1; rw [if_neg (by omega), if_pos (by omega)]
    have hS : MV (m_up J 562 (30 + (p : Int)).toNat (s (30 + p) - 1)) 562 (act1 s e p) := by rw [q]; exact MV_up hs (30 + p) _
    rw [if_pos (by rw [q, up1_eq]; omega)]
    exact ⟨_, rfl, rfl, hS, FM.up⟩
  · have q : act1 s e p = up1 s (30 + p) (min 99 (s (30 + p) + 2)) := by unfold act1; rw [if_pos (by omega)]
    refine ⟨_, J, e_210 (by omega), ?_⟩
    have hS : MV (m_up J 562 (30 + (p : Int)).toNat (max 0 (min 99 (s (30 + p) + 2)))) 562 (act1 s e p) := by
      rw [q, show max 0 (min 99 (s (30 + p) + 2)) = min 99 (s (30 + p) + 2) by omega]
      exact MV_up hs (30 + p) _
    rw [if_pos (by rw [q, up1_eq]; omega)]
    exact ⟨by omega, fun c3 => by omega, fun _ => ⟨_, rfl, rfl, hS, FM.up⟩⟩
theorem e_216 (hV : VM J V) (bV : VBd V) (hs : MV J 562 s) (bs : SBd (vn V) s) (hd : 0 ≤ s 49 ∧ s 49 ≤ 2000) : ∃ J', EE X 2 216 [.ref 542] (mj J sw lg x) (.inl none) (mj J' sw lg x) ∧ MV J' 562 (passA V s) ∧ FM J J' := by
  have v1 := bV.1
  have v3 := bV.2.2.1
  have v5 := bV.2.2.2.2.1
  refine EE.ex (O := fun _ => .inl none) (F := fun J' => mj J' sw lg x) mt_216 (b_216_0 (by omega) ?_)
  -- the hands rest
  have rest : ∀ t J1 (o1 : Int), MV J1 562 t → FM J J1 → passA V s = clrB t → VV X 2 216 (105, [some (.ref 542), some (iv o1), some (iv 0)], [], mj J1 sw lg x) (fun o M => ∃ z, o = .inl none ∧ M = mj z sw lg x ∧ MV z 562 (passA V s) ∧ FM J z) := by
    intro t J1 o1 hS hF hq
    have key := lp (P := fun k => ∀ J', (∀ i, i < 50 → J' 562 i = if 18 ≤ i ∧ i < 18 + k then 0 else t i) → FM J J' → VV X 2 216 (105, [some (.ref 542), some (iv o1), some (iv k)], [], mj J' sw lg x) (fun o M => ∃ z, o = .inl none ∧ M = mj z sw lg x ∧ MV z 562 (passA V s) ∧ FM J z)) 6 ?_ ?_ 0 (by decide)
    · exact key J1 (fun i hi => by rw [if_neg (by omega)]; exact hS i hi) hF
    · intro J' h1 hF1
      refine b_216_105 (by omega) ⟨by decide, fun _ => ⟨J', rfl, rfl, ?_, hF1⟩, fun c => absurd c (by decide)⟩
      rw [hq]
      exact h1
    · intro k hk ih J' h1 hF1
      refine b_216_105 (by omega) ⟨by omega, fun c => by omega, fun _ => ⟨by omega, ?_⟩⟩
      refine ih _ (fun i hi => ?_) (hF1.tr FM.up)
      show m_up J' 562 (18 + k) 0 562 i = _
      by_cases q : i = 18 + k
      · subst q; rw [up_eq, if_pos (by omega)]
      · rw [up_nk q, h1 i hi]
        by_cases q2 : 18 ≤ i ∧ i < 18 + k
        · rw [if_pos q2, if_pos (by omega)]
        · rw [if_neg q2, if_neg (by omega)]
  have key := lp (P := fun k => ∀ J' o2, MV J' 562 (actsA V s k) → FM J J' → VV X 2 216 (2, [some (.ref 542), some (iv k), o2], [], mj J' sw lg x) (fun o M => ∃ z, o = .inl none ∧ M = mj z sw lg x ∧ MV z 562 (passA V s) ∧ FM J z)) (ve V) ?_ ?_ 0 (Nat.zero_le _)
  · exact key J _ hs (fun _ _ => rfl)
  · intro J' o2 hS hF
    have hV' := hF.vm hV
    have hb := SBd_acts bs bV (ve V) v1
    have e1 : J' 562 49 = actsA V s (ve V) 49 := hS 49 (by omega)
    have hS1 : MV (m_up J' 562 49 (J' 562 49 + 1)) 562 (pass1 V s) := by rw [e1]; exact MV_up hS 49 _
    have hF1 : FM J (m_up J' 562 49 (J' 562 49 + 1)) := hF.tr FM.up
    have hb1 : SBd (vn V) (pass1 V s) := SBd_any hb.1 (by omega)
    have e2 : J' 562 49 + 1 = pass1 V s 49 := by unfold pass1; rw [up1_eq, e1]
    have e3 : pass1 V s 49 = s 49 + 1 := by rw [← e2, e1, hb.2]
    -- the moths
    have moths : ∀ (u : Int) J1, MV J1 562 (pass1 V s) → FM J J1 → ((u = 0 ∧ ¬ (0 < vmo V ∧ pass1 V s 49 % vmo V = 0)) ∨ (u = 1 ∧ 0 < vmo V ∧ pass1 V s 49 % vmo V = 0)) → VV X 2 216 (62, [some (.ref 542), some (iv u), some (iv 0)], [], mj J1 sw lg x) (fun o M => ∃ z, o = .inl none ∧ M = mj z sw lg x ∧ MV z 562 (passA V s) ∧ FM J z) := by
      intro u J1 hS1 hF1 hu
      rcases hu with ⟨rfl, hu⟩ | ⟨rfl, hu⟩
      · have hV1 := hF1.vm hV
        have hq : passA V s = clrB (pass1 V s) := by unfold passA; rw [if_neg hu]
        refine b_216_62 (by omega) ?_
        rw [hV1.2.2.1]
        exact ⟨by omega, by omega, fun _ => rest _ _ _ hS1 hF1 hq, fun c => ⟨by omega, fun _ => rest _ _ _ hS1 hF1 hq, fun c2 => absurd rfl c2⟩⟩
      · have hq : passA V s = clrB (mothA (pass1 V s) (vn V)) := by unfold passA; rw [if_pos hu]
        have key2 := lp (P := fun k => ∀ J2, MV J2 562 (mothA (pass1 V s) k) → FM J J2 → VV X 2 216 (62, [some (.ref 542), some (iv 1), some (iv k)], [], mj J2 sw lg x) (fun o M => ∃ z, o = .inl none ∧ M = mj z sw lg x ∧ MV z 562 (passA V s) ∧ FM J z)) (vn V) ?_ ?_ 0 (Nat.zero_le _)
        · exact key2 _ hS1 hF1
        · intro J2 hS2 hF2
          have hV2 := hF2.vm hV
          refine b_216_62 (by omega) ?_
          rw [hV2.2.2.1]
          exact ⟨by omega, by omega, fun _ => rest _ _ _ hS2 hF2 hq, fun c => by omega⟩
        · intro k hk ih J2 hS2 hF2
          have hV2 := hF2.vm hV
          have hb2 := (SBd_moth hb1 k (by omega)).1.2.2.2.1 k (by omega)
          have f2 : J2 562 (30 + (k : Int)).toNat = mothA (pass1 V s) k (30 + k) := hS2 (30 + k) (by omega)
          refine b_216_62 (by omega) ?_
          rw [hV2.2.2.1, f2]
          refine ⟨by omega, by omega, fun c => by omega, fun _ => ⟨by decide, fun c => absurd c (by decide), fun _ => ⟨by omega, _, J2, e_210 (by omega), ?_⟩⟩⟩
          refine ih _ ?_ (hF2.tr FM.up)
          rw [show max 0 (min 99 (mothA (pass1 V s) k (30 + k) + 1)) = min 99 (mothA (pass1 V s) k (30 + k) + 1) by omega]
          exact MV_up hS2 (30 + k) _
    refine b_216_2 (by omega) ?_
    rw [hV'.1, hV'.2.2.2.2.1]
    refine ⟨by omega, by omega, fun _ => ⟨by omega, fun c => moths 0 _ hS1 hF1 (Or.inl ⟨rfl, by omega⟩), fun c => ⟨by omega, fun c2 => moths 0 _ hS1 hF1 (Or.inl ⟨rfl, ?_⟩), fun c2 => moths 1 _ hS1 hF1 (Or.inr ⟨rfl, c, ?_⟩)⟩⟩, fun c => by omega⟩
    · rw [e2, q_remI (by omega) (by omega) (by omega) (by omega)] at c2
      omega
    · rw [e2, q_remI (by omega) (by omega) (by omega) (by omega)] at c2
      exact c2
  · intro k hk ih J' o2 hS hF
    have hV' := hF.vm hV
    have hb := SBd_acts bs bV k (by omega)
    refine b_216_2 (by omega) ?_
    rw [hV'.1]
    refine ⟨by omega, by omega, fun c => by omega, fun _ => ?_⟩
    exact ex0 (e_215 hV' bV hS hb.1 hk) (fun J2 h2 => ih J2 _ h2.1 (hF.tr h2.2))
theorem e_213 (hV : VM J V) (bV : VBd V) (hs : MV J 562 s) (bs : SBd (vn V) s) (he : e < ve V) (hp : p < vn V) : ∃ J', EE X 1 213 [.ref 542, iv (e : Int), iv (p : Int)] (mj J sw lg x) (.inl (some (iv (letA V s e p).1))) (mj J' sw lg x) ∧ MV J' 562 (letA V s e p).2 ∧ FM J J' := by
  have v1 := bV.1
  have v3 := bV.2.2.1
  have f0 : J 562 (e : Int).toNat = s e := hs e (by omega)
  have f1 : J 549 (e : Int).toNat = vtk V e := hV.2.2.2.2.2.1 e he
  have f4 : J 562 (12 + (e : Int)).toNat = s (12 + e) := hs (12 + e) (by omega)
  have b1 := bs.1 e (by omega)
  have b2 := bs.2.1 e (by omega)
  have b3 := bV.2.2.2.2.2.1 e he
  refine EE.ex (O := fun _ => .inl (some (iv (letA V s e p).1))) (F := fun J' => mj J' sw lg x) mt_213 (b_213_0 (by omega) ?_)
  rw [f0, f1, f4]
  unfold letA
  refine ⟨by omega, by omega, by omega, by omega, fun c => ?_, fun c => ⟨by omega, by omega, by omega, fun c2 => ?_, fun c2 => ?_⟩⟩
  · rw [if_pos (Or.inl c)]; exact ⟨J, rfl, rfl, hs, fun _ _ => rfl⟩
  · rw [if_neg (by omega)]; exact ⟨_, rfl, rfl, MV_up hs (12 + e) _, FM.up⟩
  · rw [if_pos (Or.inr c2)]; exact ⟨J, rfl, rfl, hs, fun _ _ => rfl⟩
theorem e_214 (hV : VM J V) (bV : VBd V) (hs : MV J 562 s) (bs : SBd (vn V) s) (hp : p < vn V) : ∃ J', EE X 1 214 [.ref 542, iv (p : Int)] (mj J sw lg x) (.inl (some (iv (unpickA s p).1))) (mj J' sw lg x) ∧ MV J' 562 (unpickA s p).2 ∧ FM J J' := by
  have v3 := bV.2.2.1
  have f2 : J 562 (30 + (p : Int)).toNat = s (30 + p) := hs (30 + p) (by omega)
  have f3 : J 562 (39 + (p : Int)).toNat = s (39 + p) := hs (39 + p) (by omega)
  have b3 := bs.2.2.2.1 p (by omega)
  have b4 := bs.2.2.2.2.1 p (by omega)
  have b5 := bs.2.2.2.2.2
  refine EE.ex (O := fun _ => .inl (some (iv (unpickA s p).1))) (F := fun J' => mj J' sw lg x) mt_214 (b_214_0 (by omega) ?_)
  rw [f2, f3]
  unfold unpickA
  refine ⟨by omega, by omega, fun c => ⟨by omega, _, J, e_210 (by omega), ?_⟩, fun c => ?_⟩
  · have hS := MV_up (MV_up hs (30 + p) (min 99 (s (30 + p) + s (39 + p)))) (39 + p) 0
    have hr : m_up (m_up J 562 (30 + (p : Int)).toNat (max 0 (min 99 (s (30 + p) + s (39 + p))))) 562 (39 + (p : Int)).toNat 0 562 48 = s 48 := by
      rw [show max 0 (min 99 (s (30 + p) + s (39 + p))) = min 99 (s (30 + p) + s (39 + p)) by omega]
      refine (hS 48 (by omega)).trans ?_
      rw [up1_ne (by omega), up1_ne (by omega)]
    rw [hr, q_divI (by omega) (by omega) (by decide) (by decide)]
    refine ⟨_, _, e_210 (by omega), ?_⟩
    rw [if_neg c, show max 0 (min 99 (s (30 + p) + s (39 + p))) = min 99 (s (30 + p) + s (39 + p)) by omega, show max 0 (min 99 (s 48 + s (39 + p) / 2)) = min 99 (s 48 + s (39 + p) / 2) by omega]
    exact ⟨_, rfl, rfl, MV_up hS 48 _, (FM.up.tr FM.up).tr FM.up⟩
  · rw [if_pos c]; exact ⟨J, rfl, rfl, hs, fun _ _ => rfl⟩
/-- nothing but the row and what the law reckons with has changed -/
def FML (J J' : Nat → Nat → Int) : Prop := ∀ c, c ≠ 562 → c ≠ 557 → c ≠ 558 → J' c = J c
theorem FM.ml {J J' : Nat → Nat → Int} (h : FM J J') : FML J J' := fun c hc _ _ => h c hc
theorem FML.tr {J J1 J2 : Nat → Nat → Int} (h1 : FML J J1) (h2 : FML J1 J2) : FML J J2 := fun c a b d => (h2 c a b d).trans (h1 c a b d)
theorem e_212 (hV : VM J V) (bV : VBd V) (hT : LM J T) (wf : LWF T) (hs : MV J 562 s) (bs : SBd (vn V) s) (hd : 0 ≤ s 49 ∧ s 49 ≤ 2000) (hh : h < vh V) (he : e < ve V) (hp : p < vn V) : ∃ J', ∃ r : Int, ((canA V s h e p ∧ r = 1 ∧ MV J' 562 (darnS V T s h e p)) ∨ (¬ canA V s h e p ∧ r = 0 ∧ MV J' 562 s)) ∧ EE X 5 212 [.ref 542, iv (h : Int), iv (e : Int), iv (p : Int)] (mj J sw lg x) (.inl (some (iv r))) (mj J' sw lg x) ∧ FML J J' := by
  have v1 := bV.1
  have v2 := bV.2.1
  have v3 := bV.2.2.1
  have f0 : J 562 (e : Int).toNat = s e := hs e (by omega)
  have f1 : J 549 (e : Int).toNat = vtk V e := hV.2.2.2.2.2.1 e he
  have f2 : J 562 (30 + (p : Int)).toNat = s (30 + p) := hs (30 + p) (by omega)
  have f4 : J 562 48 = s 48 := hs 48 (by omega)
  have f6 : J 562 (18 + (h : Int)).toNat = s (18 + h) := hs (18 + h) (by omega)
  have b1 := bs.1 e (by omega)
  have b3 := bs.2.2.2.1 p (by omega)
  have b4 := bs.2.2.2.2.1 p (by omega)
  have b5 := bs.2.2.2.2.2
  have b6 := bs.2.2.1 h (by omega)
  have b7 := bV.2.2.2.2.2.1 e he
  have b8 := bV.2.2.2.2.2.2.1 h hh
  have H : ∃ z : (Nat → Nat → Int) × Int, EE X 5 212 [.ref 542, iv (h : Int), iv (e : Int), iv (p : Int)] (mj J sw lg x) (.inl (some (iv z.2))) (mj z.1 sw lg x) ∧ ((canA V s h e p ∧ z.2 = 1 ∧ MV z.1 562 (darnS V T s h e p)) ∨ (¬ canA V s h e p ∧ z.2 = 0 ∧ MV z.1 562 s)) ∧ FML J z.1 := by
    refine EE.ex (O := fun z : (Nat → Nat → Int) × Int => .inl (some (iv z.2))) (F := fun z => mj z.1 sw lg x) mt_212 (b_212_0 (by omega) ?_)
    rw [f0, f1, f2, f4, f6]
    have no : ¬ canA V s h e p → ∃ z : (Nat → Nat → Int) × Int, (.inl (some (iv 0)) : Option Value ⊕ Nat) = .inl (some (iv z.2)) ∧ mj J sw lg x = mj z.1 sw lg x ∧ ((canA V s h e p ∧ z.2 = 1 ∧ MV z.1 562 (darnS V T s h e p)) ∨ (¬ canA V s h e p ∧ z.2 = 0 ∧ MV z.1 562 s)) ∧ FML J z.1 := fun q => ⟨(J, 0), rfl, rfl, Or.inr ⟨q, rfl, hs⟩, fun _ _ _ _ => rfl⟩
    refine ⟨by omega, fun c => no (fun q => absurd q.1 (by omega)), fun c1 => ⟨by omega, by omega, by omega, by omega, fun c2 => ⟨by omega, by omega, fun c3 => no (fun q => c3 q.2.2.1), fun c3 => ⟨by omega, by omega, fun c4 => no (fun q => absurd q.2.2.2 (by omega)), fun c4 => ?_⟩⟩, fun c2 => no (fun q => absurd q.2.1 (by omega))⟩⟩
    have hc : canA V s h e p := ⟨c1, c2, c3, c4⟩
    have mb : 0 ≤ mendA V T s h e p ∧ mendA V T s h e p ≤ 20 := mendL_b T _
    refine ex1 (e_207 hV bV hT wf hs bs hd hh he hp) (fun J1 hfr => ?_)
    have hs1 : MV J1 562 s := MV_fr hs (hfr 562 (by decide) (by decide))
    have g2 : J1 562 (30 + (p : Int)).toNat = s (30 + p) := hs1 (30 + p) (by omega)
    rw [g2]
    refine ⟨by omega, fun J3 hJ3 => ⟨by omega, ?_⟩⟩
    have e3 : (if 0 ≤ mendA V T s h e p - s (30 + p) then 0 else -(mendA V T s h e p - s (30 + p))) = max 0 (s (30 + p) - mendA V T s h e p) := by split <;> omega
    have hs3 : MV J3 562 (up1 s (30 + p) (max 0 (s (30 + p) - mendA V T s h e p))) := by rw [hJ3, e3]; exact MV_up hs1 (30 + p) _
    have g3 : J3 562 (39 + (p : Int)).toNat = s (39 + p) := (hs3 (39 + p) (by omega)).trans (up1_ne (by omega))
    have e4 : (if mendA V T s h e p - s (30 + p) ≤ 0 then 0 else mendA V T s h e p - s (30 + p)) = max 0 (mendA V T s h e p - s (30 + p)) := by split <;> omega
    rw [g3, e4]
    refine ⟨_, J3, e_210 (by omega), fun J6 hJ6 => ?_⟩
    rw [show max 0 (min 99 (s (39 + p) + max 0 (mendA V T s h e p - s (30 + p)))) = min 99 (s (39 + p) + max 0 (mendA V T s h e p - s (30 + p))) by omega] at hJ6
    have hs5 := MV_up hs3 (39 + p) (min 99 (s (39 + p) + max 0 (mendA V T s h e p - s (30 + p))))
    have g5 : (m_up J3 562 (39 + (p : Int)).toNat (min 99 (s (39 + p) + max 0 (mendA V T s h e p - s (30 + p))))) 562 48 = s 48 := by
      refine (hs5 48 (by omega)).trans ?_
      rw [up1_ne (by omega), up1_ne (by omega)]
    rw [g5] at hJ6
    have hs6 := MV_up hs5 48 (s 48 - 1)
    have hF6 : FML J J6 := by
      intro c q1 q2 q3
      rw [hJ6, up_r q1, up_r q1, hJ3, up_r q1]
      exact hfr c q2 q3
    have hs6' : MV J6 562 (up1 (up1 (up1 s (30 + p) (max 0 (s (30 + p) - mendA V T s h e p))) (39 + p) (min 99 (s (39 + p) + max 0 (mendA V T s h e p - s (30 + p))))) 48 (s 48 - 1)) := by rw [hJ6]; exact hs6
    have f7 : J6 550 (h : Int).toNat = van V h := by rw [hF6 550 (by decide) (by decide) (by decide)]; exact hV.2.2.2.2.2.2.1 h hh
    have g6 : J6 562 (e : Int).toNat = s e := by
      refine (hs6' e (by omega)).trans ?_
      rw [up1_ne (by omega), up1_ne (by omega), up1_ne (by omega)]
    rw [f7, g6]
    refine ⟨by omega, by omega, by omega, fun J7 hJ7 => ⟨by omega, fun J8 hJ8 => ⟨(J8, 1), rfl, rfl, Or.inl ⟨hc, rfl, ?_⟩, ?_⟩⟩⟩
    · have hs7 : MV (m_up J6 562 (e : Int).toNat (s e + 1)) 562 (darn1 V T s h e p) := MV_up hs6' e (s e + 1)
      have g7 : (m_up J6 562 (e : Int).toNat (s e + 1)) 562 (6 + (e : Int)).toNat = s (6 + e) := by
        refine (hs7 (6 + e) (by omega)).trans ?_
        unfold darn1
        rw [up1_ne (by omega), up1_ne (by omega), up1_ne (by omega), up1_ne (by omega)]
      rw [g7] at hJ7
      have hs8 : MV J7 562 (up1 (darn1 V T s h e p) (6 + e) (s (6 + e) + (if van V h < 5 then 0 else 1))) := by rw [hJ7]; exact MV_up hs7 (6 + e) _
      have hs9 := MV_up hs8 (18 + h) 1
      have g8 : (m_up J7 562 (18 + (h : Int)).toNat 1) 562 (24 + (h : Int)).toNat = s (24 + h) := by
        refine (hs9 (24 + h) (by omega)).trans ?_
        unfold darn1
        rw [up1_ne (by omega), up1_ne (by omega), up1_ne (by omega), up1_ne (by omega), up1_ne (by omega), up1_ne (by omega)]
      rw [g8] at hJ8
      show MV J8 562 _
      rw [hJ8]
      exact MV_up hs9 (24 + h) _
    · intro c q1 q2 q3
      show J8 c = J c
      rw [hJ8, up_r q1, up_r q1, hJ7, up_r q1, up_r q1]
      exact hF6 c q1 q2 q3
  obtain ⟨z, h1, h2, h3⟩ := H
  exact ⟨z.1, z.2, h2, h1, h3⟩
end D2
