/-! a state worked on: the class's cells and the reference's row go the same way -/
theorem ex1 {X : Nat × (Nat → Int32)} {d y : Nat} {As : List Value} {M : mM} {sw : Bool × Bool × Bool} {lg : Nat → Nat → Int64} {x : Nat} {r : Int} {P : (Nat → Nat → Int) → Prop} {Q : Int → (Nat → Nat → Int) → Prop} (H : ∃ J1, EE X d y As M (.inl (some (iv r))) (mj J1 sw lg x) ∧ P J1) (k : ∀ J1, P J1 → Q r J1) : ∃ (c : Int) (J1 : Nat → Nat → Int), EE X d y As M (.inl (some (iv c))) (mj J1 sw lg x) ∧ Q c J1 := by
  obtain ⟨J1, h1, h2⟩ := H
  exact ⟨r, J1, h1, k J1 h2⟩
theorem ex0 {X : Nat × (Nat → Int32)} {d y : Nat} {As : List Value} {M : mM} {sw : Bool × Bool × Bool} {lg : Nat → Nat → Int64} {x : Nat} {P : (Nat → Nat → Int) → Prop} {Q : (Nat → Nat → Int) → Prop} (H : ∃ J1, EE X d y As M (.inl none) (mj J1 sw lg x) ∧ P J1) (k : ∀ J1, P J1 → Q J1) : ∃ (J1 : Nat → Nat → Int), EE X d y As M (.inl none) (mj J1 sw lg x) ∧ Q J1 := by
  obtain ⟨J1, h1, h2⟩ := H
  exact ⟨J1, h1, k J1 h2⟩
/-- nothing but the cells of a state has changed -/
def FSt (a : Nat) (J J' : Nat → Nat → Int) : Prop := ∀ c, ¬ (a ≤ c ∧ c ≤ a + 6) → J' c = J c
theorem FSt.rfl' {a : Nat} {J : Nat → Nat → Int} : FSt a J J := fun _ _ => rfl
theorem FSt.tr {a : Nat} {J J1 J2 : Nat → Nat → Int} (h1 : FSt a J J1) (h2 : FSt a J1 J2) : FSt a J J2 := fun c hc => (h2 c hc).trans (h1 c hc)
theorem FSt.up {a i k : Nat} {J : Nat → Nat → Int} {v : Int} (hi : i ≤ 6) : FSt a J (m_up J (a + i) k v) := fun c hc => up_r (by omega)
theorem FSt.up0 {a k : Nat} {J : Nat → Nat → Int} {v : Int} : FSt a J (m_up J a k v) := fun c hc => up_r (by omega)
theorem VK_fr {J J' : Nat → Nat → Int} {v a : Nat} {V : VT} (h : VK J v V) (h1 : SH[v]? = some (14, 12)) (h0 : SH[a]? = some (11, 9)) (hf : FSt a J J') : VK J' v V := by
  have b1 := bnd_9 h1
  have b0 := bnd_6 h0
  obtain ⟨k1, k2, k3, k4, k5, k6, k7⟩ := h
  refine ⟨?_, ?_, ?_, ?_, fun k hk => ?_, fun k hk => ?_, fun k hk => ?_⟩
  · rw [hf v (by omega)]; exact k1
  · rw [hf v (by omega)]; exact k2
  · rw [hf v (by omega)]; exact k3
  · rw [hf v (by omega)]; exact k4
  · rw [hf _ (by omega)]; exact k5 k hk
  · rw [hf _ (by omega)]; exact k6 k hk
  · rw [hf _ (by omega)]; exact k7 k hk
section ST
variable {X : Nat × (Nat → Int32)} {J : Nat → Nat → Int} {sw : Bool × Bool × Bool} {lg : Nat → Nat → Int64} {x a v l h e p : Nat} {T : LT} {V : VT} {s : Nat → Int}
theorem e_210 {t : Int} (ht : InR t) : EE X 0 210 [iv t] (mj J sw lg x) (.inl (some (iv (max 0 (min 99 t))))) (mj J sw lg x) := by
  refine EE.of mt_210 (b_210_0 ⟨ht, fun c => ⟨fun c2 => ⟨?_, rfl⟩, fun c2 => ⟨?_, rfl⟩⟩, fun c => ⟨?_, rfl⟩⟩)
  · rw [show max 0 (min 99 t) = t by omega]
  · rw [show max 0 (min 99 t) = 99 by omega]
  · rw [show max 0 (min 99 t) = 0 by omega]
theorem e_48 (h0 : SH[a]? = some (11, 9)) (h1 : SH[v]? = some (14, 12)) (h2 : SH[l]? = some (8, 4)) (hV : VK J v V) (bV : VBd V) (hT : LK J l T) (wf : LWF T) (hs : SV J a s) (bs : SBd (vn V) s) (hd : 0 ≤ s 49 ∧ s 49 ≤ 2000) (hh : h < vh V) (he : e < ve V) (hp : p < vn V) : ∃ J', EE X 2 48 [.ref a, .ref v, .ref l, iv (h : Int), iv (e : Int), iv (p : Int)] (mj J sw lg x) (.inl (some (iv (mendA V T s h e p)))) (mj J' sw lg x) ∧ ∀ c, c ≠ l + 2 → c ≠ l + 3 → J' c = J c := by
  have v1 := bV.1
  have v2 := bV.2.1
  have v3 := bV.2.2.1
  have f0 : J (a + 1) e = s e := hs.1 e (by omega)
  have f5 : J (a + 2) e = s (6 + e) := hs.2.1 e (by omega)
  have f1 : J (v + 2) h = van V h := hV.2.2.2.2.2.1 h hh
  have f2 : J (a + 5) p = s (30 + p) := hs.2.2.2.2.1 p (by omega)
  have f3 : J (a + 6) p = s (39 + p) := hs.2.2.2.2.2.1 p (by omega)
  have f4 : J a 8 = s 48 := hs.2.2.2.2.2.2.2.2
  have f6 : J a 7 = s 49 := hs.2.2.2.2.2.2.2.1
  refine EE.ex (O := fun _ => .inl (some (iv (mendA V T s h e p)))) (F := fun J' => mj J' sw lg x) mt_48 (b_48_0 h0 h1 h2 (by omega) ⟨by omega, by omega, by omega, ?_⟩)
  refine ex1 (e_32 (T := T) (f := fcts V s h e p) h2 ⟨?_, fun k hk => ?_⟩ wf (fun i hi => ?_) (fac_b (fcts_b bV bs hd hh he hp))) (fun J1 hfr => ⟨J1, rfl, rfl, fun c q1 q2 => ?_⟩)
  · simp [m_up]; exact hT.1
  · simp [m_up]; exact hT.2 k hk
  · rcases lt8 hi with rfl | rfl | rfl | rfl | rfl | rfl | rfl | rfl <;> simp [m_up, fcts, fac, f0, f1, f2, f3, f4, f5, f6]
  · rw [hfr c q2]; simp only [up_r q1]
theorem e_207 (hV : VM J V) (bV : VBd V) (hT : LM J T) (wf : LWF T) (hs : MV J 562 s) (bs : SBd (vn V) s) (hd : 0 ≤ s 49 ∧ s 49 ≤ 2000) (hh : h < vh V) (he : e < ve V) (hp : p < vn V) : ∃ J', EE X 4 207 [.ref 542, iv (h : Int), iv (e : Int), iv (p : Int)] (mj J sw lg x) (.inl (some (iv (mendA V T s h e p)))) (mj J' sw lg x) ∧ ∀ c, c ≠ 557 → c ≠ 558 → J' c = J c := by
  have v1 := bV.1
  have v2 := bV.2.1
  have v3 := bV.2.2.1
  have f0 : J 562 (e : Int).toNat = s e := hs e (by omega)
  have f5 : J 562 (6 + (e : Int)).toNat = s (6 + e) := hs (6 + e) (by omega)
  have f1 : J 550 (h : Int).toNat = van V h := hV.2.2.2.2.2.2.1 h hh
  have f2 : J 562 (30 + (p : Int)).toNat = s (30 + p) := hs (30 + p) (by omega)
  have f3 : J 562 (39 + (p : Int)).toNat = s (39 + p) := hs (39 + p) (by omega)
  have f4 : J 562 48 = s 48 := hs 48 (by omega)
  have f6 : J 562 49 = s 49 := hs 49 (by omega)
  refine EE.ex (O := fun _ => .inl (some (iv (mendA V T s h e p)))) (F := fun J' => mj J' sw lg x) mt_207 (b_207_0 (by omega) ⟨by omega, by omega, by omega, by omega, by omega, ?_⟩)
  rw [f0, f1, f2, f3, f4, f5, f6]
  exact ex1 (e_206 hT wf (fcts_b bV bs hd hh he hp)) (fun J1 hfr => ⟨J1, rfl, rfl, hfr⟩)
/-- where an egg that has mended its hole goes -/
theorem act_go (h0 : SH[a]? = some (11, 9)) (h1 : SH[v]? = some (14, 12)) (bV : VBd V) (he : e < 6) (hp : p < vn V) {t : Nat → Int} {J1 : Nat → Nat → Int} (hV : VK J1 v V) (ht : SV J1 a t) (bt : SBd (vn V) t) (hat : t (12 + e) = (p : Int)) :
    ∃ (c : Int) (J2 : Nat → Nat → Int), EE X 0 59 [.ref a, .ref v, iv (J1 (v + 4) (p : Int).toNat)] (mj J1 sw lg x) (.inl (some (iv c))) (mj J2 sw lg x) ∧ InR c ∧ (¬ c = (-1) → ∃ z, (.inl none : Option Value ⊕ Nat) = .inl none ∧ mj (m_up J2 (a + 3) (e : Int).toNat c) sw lg x = mj z sw lg x ∧ SV z a (act3 V t e p) ∧ FSt a J1 z) ∧ (c = (-1) → ∃ z, (.inl none : Option Value ⊕ Nat) = .inl none ∧ mj (m_up J2 (a + 3) (e : Int).toNat (p : Int)) sw lg x = mj z sw lg x ∧ SV z a (act3 V t e p) ∧ FSt a J1 z) := by
  have hn : J1 (v + 4) (p : Int).toNat = (vnr V p : Int) := hV.2.2.2.2.2.2 p hp
  have v3 := bV.2.2.1
  have hix := mostF_ix (vnr V p).testBit (fun o => t (30 + o)) (vn V)
  rw [hn]
  refine ⟨_, J1, e_59 (f := fun o => t (30 + o)) h0 h1 (vnr_31 bV p) hV.2.2.1 v3 (fun q hq => ht.2.2.2.2.1 q (by omega)) (fun q hq => bt.2.2.2.1 q (by omega)), by omega, fun c => ⟨_, rfl, rfl, ?_, FSt.up (by decide)⟩, fun c => ⟨_, rfl, rfl, ?_, FSt.up (by decide)⟩⟩
  · have := SV_at ht he (act2 V t p)
    unfold act3
    rw [if_neg (show ¬ act2 V t p = -1 from c)]
    exact this
  · have := SV_at ht he (p : Int)
    rw [← hat, up1_self] at this
    unfold act3
    rw [if_pos (show act2 V t p = -1 from c)]
    rw [hat] at this
    exact this
theorem actA_of (hat : s (12 + e) = (p : Int)) : actA V s e = if 0 < act1 s e p (30 + p) then act1 s e p else act3 V (act1 s e p) e p := by
  unfold actA
  rw [if_neg (by omega), hat, Int.toNat_natCast]
theorem e_58 (h0 : SH[a]? = some (11, 9)) (h1 : SH[v]? = some (14, 12)) (hV : VK J v V) (bV : VBd V) (hs : SV J a s) (bs : SBd (vn V) s) (he : e < ve V) (hp : p < vn V) (hat : s (12 + e) = (p : Int)) : ∃ J', EE X 1 58 [.ref a, .ref v, iv (e : Int), iv (p : Int)] (mj J sw lg x) (.inl none) (mj J' sw lg x) ∧ SV J' a (actA V s e) ∧ FSt a J J' := by
  have v1 := bV.1
  have v3 := bV.2.2.1
  have f0 : J (a + 1) (e : Int).toNat = s e := hs.1 e (by omega)
  have f5 : J (a + 2) (e : Int).toNat = s (6 + e) := hs.2.1 e (by omega)
  have f2 : J (a + 5) (p : Int).toNat = s (30 + p) := hs.2.2.2.2.1 p (by omega)
  have f3 : J (a + 6) (p : Int).toNat = s (39 + p) := hs.2.2.2.2.2.1 p (by omega)
  have b1 := bs.1 e (by omega)
  have b3 := bs.2.2.2.1 p (by omega)
  have b4 := bs.2.2.2.2.1 p (by omega)
  have b0 := bnd_6 h0
  have b9 := bnd_9 h1
  refine EE.ex (O := fun _ => .inl none) (F := fun J' => mj J' sw lg x) mt_58 (b_58_0 h0 h1 (by omega) ?_)
  rw [f0, f5, f2, f3, actA_of hat]
  have t0 : act1 s e p (12 + e) = (p : Int) := by rw [act1_at (by omega) (by omega)]; exact hat
  have bt : SBd (vn V) (act1 s e p) := SBd_act1 bs (by omega)
  refine ⟨by omega, by omega, by omega, fun c => ⟨by omega, by omega, fun c2 => ⟨by omega, fun c3 => by omega, fun c3 => ?_⟩, fun c2 => ⟨by omega, fun c3 => ?_, fun c3 => ?_⟩⟩, fun c => ⟨by omega, by omega, by omega, fun c3 => ?_, fun c3 => by omega⟩⟩
  · have q : act1 s e p = up1 s (39 + p) (min 99 (s (39 + p) + 1)) := by unfold act1; rw [if_neg (by omega), if_neg (by omega)]
    have hS := SV_ridge hs (p := p) (by omega) (min 99 (s (39 + p) + 1))
    have hF : FSt a J (m_up J (a + 6) p (min 99 (s (39 + p) + 1))) := FSt.up (by decide)
    rw [if_neg (by rw [q, up1_ne (by omega)]; omega), show J (v + 4) (p : Int).toNat = (m_up J (a + 6) p (min 99 (s (39 + p) + 1))) (v + 4) (p : Int).toNat from (up_na (by omega)).symm]
    rw [← q] at hS
    obtain ⟨c6, J6, g1, g2, g3, g4⟩ := act_go (X := X) (sw := sw) (lg := lg) (x := x) h0 h1 bV (by omega) hp (VK_fr hV h1 h0 hF) hS bt t0
    refine ⟨c6, J6, g1, g2, fun z => ?_, fun z => ?_⟩
    · obtain ⟨w, w1, w2, w3, w4⟩ := g3 z; exact ⟨w, w1, w2, w3, hF.tr w4⟩
    · obtain ⟨w, w1, w2, w3, w4⟩ := g4 z; exact ⟨w, w1, w2, w3, hF.tr w4⟩
  · have q : act1 s e p = up1 s (30 + p) (s (30 + p) - 1) := by unfold act1; rw [if_neg (by omega), if_pos (by omega)]
    have hS := SV_wear hs (p := p) (by omega) (s (30 + p) - 1)
    rw [if_pos (by rw [q, up1_eq]; omega), q]
    exact ⟨_, rfl, rfl, hS, FSt.up (by decide)⟩
  · have q : act1 s e p = up1 s (30 + p) (s (30 + p) - 1) := by unfold act1; rw [if_neg (by omega), if_pos (by omega)]
    have hS := SV_wear hs (p := p) (by omega) (s (30 + p) - 1)
    have hF : FSt a J (m_up J (a + 5) p (s (30 + p) - 1)) := FSt.up (by decide)
    rw [if_neg (by rw [q, up1_eq]; omega), show J (v + 4) (p : Int).toNat = (m_up J (a + 5) p (s (30 + p) - 1)) (v + 4) (p : Int).toNat from (up_na (by omega)).symm]
    rw [← q] at hS
    obtain ⟨c6, J6, g1, g2, g3, g4⟩ := act_go (X := X) (sw := sw) (lg := lg) (x := x) h0 h1 bV (by omega) hp (VK_fr hV h1 h0 hF) hS bt t0
    refine ⟨c6, J6, g1, g2, fun z => ?_, fun z => ?_⟩
    · obtain ⟨w, w1, w2, w3, w4⟩ := g3 z; exact ⟨w, w1, w2, w3, hF.tr w4⟩
    · obtain ⟨w, w1, w2, w3, w4⟩ := g4 z; exact ⟨w, w1, w2, w3, hF.tr w4⟩
  · have q : act1 s e p = up1 s (30 + p) (min 99 (s (30 + p) + 2)) := by unfold act1; rw [if_pos (by omega)]
    have hS := SV_wear hs (p := p) (by omega) (min 99 (s (30 + p) + 2))
    rw [if_pos (by rw [q, up1_eq]; omega), q]
    exact ⟨_, rfl, rfl, hS, FSt.up (by decide)⟩
end ST
