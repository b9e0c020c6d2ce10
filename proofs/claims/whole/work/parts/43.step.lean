/-! one step of a work: both sides -/
def darnA (V : VT) (T : LT) (s : Nat → Int) (h e p : Nat) : Int × (Nat → Int) := if 0 < s 48 ∧ s e < vtk V e ∧ s (18 + h) = 0 ∧ 0 < s (30 + p) then (1, darnS V T s h e p) else (0, s)
theorem darnA_y {V : VT} {T : LT} {s : Nat → Int} {h e p : Nat} (q : canA V s h e p) : darnA V T s h e p = (1, darnS V T s h e p) := if_pos q
theorem darnA_n {V : VT} {T : LT} {s : Nat → Int} {h e p : Nat} (q : ¬ canA V s h e p) : darnA V T s h e p = (0, s) := if_neg q
def stepA (V : VT) (T : LT) (s : Nat → Int) (k a b c : Nat) : Int × (Nat → Int) := if k = 0 then darnA V T s a b c else if k = 1 then letA V s a b else if k = 2 then callA s a else if k = 3 then unpickA s a else if k = 4 then shearA s (a : Int) else dayA V s
def okS (V : VT) (k a b c : Nat) : Prop := (k = 0 ∧ a < vh V ∧ b < ve V ∧ c < vn V) ∨ (k = 1 ∧ a < ve V ∧ b < vn V) ∨ (k = 2 ∧ a < ve V) ∨ (k = 3 ∧ a < vn V) ∨ (k = 4 ∧ a ≤ 40) ∨ k = 5
/-- nothing but the cells of a state and what the law reckons with has changed -/
def FSL (a l : Nat) (J J' : Nat → Nat → Int) : Prop := ∀ c, ¬ (a ≤ c ∧ c ≤ a + 6) → c ≠ l + 2 → c ≠ l + 3 → J' c = J c
theorem FSt.sl {a l : Nat} {J J' : Nat → Nat → Int} (h : FSt a J J') : FSL a l J J' := fun c q _ _ => h c q
theorem FSL.tr {a l : Nat} {J J1 J2 : Nat → Nat → Int} (h1 : FSL a l J J1) (h2 : FSL a l J1 J2) : FSL a l J J2 := fun c x y z => (h2 c x y z).trans (h1 c x y z)
theorem FSL.up {a l i k : Nat} {J : Nat → Nat → Int} {v : Int} (hi : i ≤ 6) : FSL a l J (m_up J (a + i) k v) := fun c hc _ _ => up_r (by omega)
theorem FSL.up0 {a l k : Nat} {J : Nat → Nat → Int} {v : Int} : FSL a l J (m_up J a k v) := fun c hc _ _ => up_r (by omega)
section SP
variable {X : Nat × (Nat → Int32)} {J : Nat → Nat → Int} {sw : Bool × Bool × Bool} {lg : Nat → Nat → Int64} {x a v l h e p : Nat} {T : LT} {V : VT} {s : Nat → Int}
theorem SV_busy' (hS : SV J a s) (hp : p < 6) {w : Int} (hw : w = J a 6) : SV (m_up J a 6 (bOr w (bShl 1 (p : Int)))) a (up1 s (18 + p) 1) := by
  rw [hw]; exact SV_busy hS hp
theorem e_52 (h0 : SH[a]? = some (11, 9)) (h1 : SH[v]? = some (14, 12)) (hV : VK J v V) (bV : VBd V) (hs : SV J a s) (bs : SBd (vn V) s) (he : e < ve V) (hp : p < vn V) : ∃ J', EE X 1 52 [.ref a, .ref v, iv (e : Int), iv (p : Int)] (mj J sw lg x) (.inl (some (iv (letA V s e p).1))) (mj J' sw lg x) ∧ SV J' a (letA V s e p).2 ∧ FSt a J J' := by
  have v1 := bV.1
  have v3 := bV.2.2.1
  have f0 : J (a + 1) (e : Int).toNat = s e := hs.1 e (by omega)
  have f1 : J (v + 1) (e : Int).toNat = vtk V e := hV.2.2.2.2.1 e he
  have f4 : J (a + 3) (e : Int).toNat = s (12 + e) := hs.2.2.1 e (by omega)
  have b1 := bs.1 e (by omega)
  have b2 := bs.2.1 e (by omega)
  have b3 := bV.2.2.2.2.2.1 e he
  refine EE.ex (O := fun _ => .inl (some (iv (letA V s e p).1))) (F := fun J' => mj J' sw lg x) mt_52 (b_52_0 h0 h1 (by omega) ?_)
  rw [f0, f1, f4]
  unfold letA
  refine ⟨by omega, by omega, by omega, fun c => ?_, fun c => ⟨by omega, by omega, fun c2 => ?_, fun c2 => ?_⟩⟩
  · rw [if_pos (Or.inl c)]; exact ⟨J, rfl, rfl, hs, FSt.rfl'⟩
  · rw [if_neg (by omega)]; exact ⟨_, rfl, rfl, SV_at hs (p := e) (by omega) _, FSt.up (by decide)⟩
  · rw [if_pos (Or.inr c2)]; exact ⟨J, rfl, rfl, hs, FSt.rfl'⟩
theorem e_54 (h0 : SH[a]? = some (11, 9)) (bV : VBd V) (hs : SV J a s) (bs : SBd (vn V) s) (hp : p < vn V) : ∃ J', EE X 0 54 [.ref a, iv (p : Int)] (mj J sw lg x) (.inl (some (iv (unpickA s p).1))) (mj J' sw lg x) ∧ SV J' a (unpickA s p).2 ∧ FSt a J J' := by
  have v3 := bV.2.2.1
  have f2 : J (a + 5) (p : Int).toNat = s (30 + p) := hs.2.2.2.2.1 p (by omega)
  have f3 : J (a + 6) (p : Int).toNat = s (39 + p) := hs.2.2.2.2.2.1 p (by omega)
  have f4 : J a 8 = s 48 := hs.2.2.2.2.2.2.2.2
  have b3 := bs.2.2.2.1 p (by omega)
  have b4 := bs.2.2.2.2.1 p (by omega)
  have b5 := bs.2.2.2.2.2
  refine EE.ex (O := fun _ => .inl (some (iv (unpickA s p).1))) (F := fun J' => mj J' sw lg x) mt_54 (b_54_0 h0 ?_)
  rw [f2, f3, f4, q_divI (by omega) (by omega) (by decide) (by decide)]
  unfold unpickA
  refine ⟨by omega, by omega, fun c => ⟨by omega, by omega, ?_⟩, fun c => ?_⟩
  · rw [if_neg c]
    exact ⟨_, rfl, rfl, SV_wool (SV_ridge (SV_wear hs (p := p) (by omega) _) (p := p) (by omega) 0) _, ((FSt.up (by decide)).tr (FSt.up (by decide))).tr FSt.up0⟩
  · rw [if_pos c]; exact ⟨J, rfl, rfl, hs, FSt.rfl'⟩
theorem e_51 (h0 : SH[a]? = some (11, 9)) (h1 : SH[v]? = some (14, 12)) (h2 : SH[l]? = some (8, 4)) (hV : VK J v V) (bV : VBd V) (hT : LK J l T) (wf : LWF T) (hs : SV J a s) (bs : SBd (vn V) s) (hd : 0 ≤ s 49 ∧ s 49 ≤ 2000) (hh : h < vh V) (he : e < ve V) (hp : p < vn V) : ∃ J', EE X 3 51 [.ref a, .ref v, .ref l, iv (h : Int), iv (e : Int), iv (p : Int)] (mj J sw lg x) (.inl (some (iv (darnA V T s h e p).1))) (mj J' sw lg x) ∧ SV J' a (darnA V T s h e p).2 ∧ FSL a l J J' := by
  have v1 := bV.1
  have v2 := bV.2.1
  have v3 := bV.2.2.1
  have f0 : J (a + 1) (e : Int).toNat = s e := hs.1 e (by omega)
  have f1 : J (v + 1) (e : Int).toNat = vtk V e := hV.2.2.2.2.1 e he
  have f2 : J (a + 5) (p : Int).toNat = s (30 + p) := hs.2.2.2.2.1 p (by omega)
  have f4 : J a 8 = s 48 := hs.2.2.2.2.2.2.2.2
  have b1 := bs.1 e (by omega)
  have b3 := bs.2.2.2.1 p (by omega)
  have b4 := bs.2.2.2.2.1 p (by omega)
  have b5 := bs.2.2.2.2.2
  have b6 := bs.2.2.1 h (by omega)
  have b7 := bV.2.2.2.2.2.1 e he
  have b8 := bV.2.2.2.2.2.2.1 h hh
  have n0 := bnd_6 h0
  have n2 := bnd_3 h2
  refine EE.ex (O := fun _ => .inl (some (iv (darnA V T s h e p).1))) (F := fun J' => mj J' sw lg x) mt_51 (b_51_0 h0 h1 h2 (by omega) ?_)
  rw [f0, f1, f2, f4, SV_tb hs bs.2.2.1 (show h < 6 by omega)]
  have no : ¬ canA V s h e p → ∃ z, (.inl (some (iv 0)) : Option Value ⊕ Nat) = .inl (some (iv (darnA V T s h e p).1)) ∧ mj J sw lg x = mj z sw lg x ∧ SV z a (darnA V T s h e p).2 ∧ FSL a l J z := fun q => by
    rw [darnA_n q]; exact ⟨J, rfl, rfl, hs, fun _ _ _ _ => rfl⟩
  refine ⟨by omega, fun c => no (fun q => absurd q.1 (by omega)), fun c1 => ⟨by omega, by omega, by omega, fun c2 => ⟨fun c3 => ⟨by omega, by omega, fun c4 => no (fun q => absurd q.2.2.2 (by omega)), fun c4 => ?_⟩, fun c3 => no (fun q => c3 q.2.2.1)⟩, fun c2 => no (fun q => absurd q.2.1 (by omega))⟩⟩
  have hc : canA V s h e p := ⟨c1, c2, c3, c4⟩
  have mb : 0 ≤ mendA V T s h e p ∧ mendA V T s h e p ≤ 20 := mendL_b T _
  rw [darnA_y hc]
  refine ex1 (e_48 h0 h1 h2 hV bV hT wf hs bs hd hh he hp) (fun J1 hfr => ?_)
  have hs1 : SV J1 a s := SV_fr hs (fun c q1 q2 => hfr c (by omega) (by omega))
  have g0 : J1 (a + 1) (e : Int).toNat = s e := hs1.1 e (by omega)
  have g2 : J1 (a + 5) (p : Int).toNat = s (30 + p) := hs1.2.2.2.2.1 p (by omega)
  have g3 : J1 (a + 6) (p : Int).toNat = s (39 + p) := hs1.2.2.2.2.2.1 p (by omega)
  have g4 : J1 a 8 = s 48 := hs1.2.2.2.2.2.2.2.2
  have g5 : J1 (a + 2) (e : Int).toNat = s (6 + e) := hs1.2.1 e (by omega)
  have g6 : J1 (a + 4) (h : Int).toNat = s (24 + h) := hs1.2.2.2.1 h (by omega)
  have n1 := bnd_9 h1
  have g7 : J1 (v + 2) (h : Int).toNat = van V h := by rw [hfr _ (by omega) (by omega)]; exact hV.2.2.2.2.2.1 h hh
  rw [g0, g2, g3, g4, g5, g6, g7]
  have hF1 : FSL a l J J1 := fun c _ q2 q3 => hfr c q2 q3
  have S1 := SV_wear hs1 (p := p) (by omega) (max 0 (s (30 + p) - mendA V T s h e p))
  have S2 := SV_ridge S1 (p := p) (by omega) (min 99 (s (39 + p) + max 0 (mendA V T s h e p - s (30 + p))))
  have S3 := SV_wool S2 (s 48 - 1)
  have S4 : SV _ a (darn1 V T s h e p) := SV_heels S3 (p := e) (by omega) (s e + 1)
  refine ⟨by omega, by omega, by omega, by omega, by omega, fun c5 => ⟨_, rfl, rfl, ?_, ?_⟩, fun c5 => ⟨_, rfl, rfl, ?_, ?_⟩⟩
  · have S6 := SV_darns S4 (p := h) (by omega) (s (24 + h) + 1)
    have S7 := SV_busy' S6 (p := h) (w := J1 a 6) (by omega) (by rw [up_na (by omega), up_na (by omega), up_nk (by decide), up_na (by omega), up_na (by omega)])
    have e1 : darnS V T s h e p = up1 (up1 (darn1 V T s h e p) (24 + h) (s (24 + h) + 1)) (18 + h) 1 := by
      unfold darnS
      rw [if_pos c5, Int.add_zero, show s (6 + e) = darn1 V T s h e p (6 + e) by unfold darn1; rw [up1_ne (by omega), up1_ne (by omega), up1_ne (by omega), up1_ne (by omega)], up1_self, up1_comm _ _ _ (by omega)]
    show SV _ a (darnS V T s h e p)
    rw [e1]; exact S7
  · exact hF1.tr ((((((FSL.up (by decide)).tr (FSL.up (by decide))).tr FSL.up0).tr (FSL.up (by decide))).tr (FSL.up (by decide))).tr FSL.up0)
  · have S5 := SV_hooks S4 (p := e) (by omega) (s (6 + e) + 1)
    have S6 := SV_darns S5 (p := h) (by omega) (s (24 + h) + 1)
    have S7 := SV_busy' S6 (p := h) (w := J1 a 6) (by omega) (by rw [up_na (by omega), up_na (by omega), up_na (by omega), up_nk (by decide), up_na (by omega), up_na (by omega)])
    have e1 : darnS V T s h e p = up1 (up1 (up1 (darn1 V T s h e p) (6 + e) (s (6 + e) + 1)) (24 + h) (s (24 + h) + 1)) (18 + h) 1 := by
      unfold darnS
      rw [if_neg (by omega), up1_comm _ _ _ (show 18 + h ≠ 24 + h by omega)]
    show SV _ a (darnS V T s h e p)
    rw [e1]; exact S7
  · exact hF1.tr (((((((FSL.up (by decide)).tr (FSL.up (by decide))).tr FSL.up0).tr (FSL.up (by decide))).tr (FSL.up (by decide))).tr (FSL.up (by decide))).tr FSL.up0)
/-- the class's step -/
theorem e_80 {i k q1 q2 q3 : Nat} (h0 : SH[a]? = some (11, 9)) (h1 : SH[v]? = some (14, 12)) (h2 : SH[l]? = some (8, 4)) (hV : VK J v V) (bV : VBd V) (hT : LK J l T) (wf : LWF T) (hs : SV J a s) (bs : SBd (vn V) s) (hd : 0 ≤ s 49 ∧ s 49 ≤ 600) (hi : i < 150) (ok : okS V k q1 q2 q3) (k0 : J 36 i = (k : Int)) (k1 : J 37 i = (q1 : Int)) (k2 : J 38 i = (q2 : Int) ∨ 2 ≤ k) (k3 : J 39 i = (q3 : Int) ∨ 1 ≤ k) : ∃ J', EE X 4 80 [.ref 35, .ref a, .ref v, .ref l, iv (i : Int)] (mj J sw lg x) (.inl (some (iv (stepA V T s k q1 q2 q3).1))) (mj J' sw lg x) ∧ SV J' a (stepA V T s k q1 q2 q3).2 ∧ FSL a l J J' := by
  have v1 := bV.1
  have v2 := bV.2.1
  have v3 := bV.2.2.1
  have f4 : J a 8 = s 48 := hs.2.2.2.2.2.2.2.2
  have f9 : J a 7 = s 49 := hs.2.2.2.2.2.2.2.1
  have b5 := bs.2.2.2.2.2
  have k0' : J 36 (i : Int).toNat = (k : Int) := k0
  have k1' : J 37 (i : Int).toNat = (q1 : Int) := k1
  have k2' : J 38 (i : Int).toNat = (q2 : Int) ∨ 2 ≤ k := k2
  have k3' : J 39 (i : Int).toNat = (q3 : Int) ∨ 1 ≤ k := k3
  refine EE.ex (O := fun _ => .inl (some (iv (stepA V T s k q1 q2 q3).1))) (F := fun J' => mj J' sw lg x) mt_80 (b_80_0 h0 h1 h2 (by omega) ?_)
  rw [k0', k1', f4, f9]
  have kb : k ≤ 5 := by unfold okS at ok; omega
  refine ⟨by omega, by omega, fun c => ?_, fun c => ?_, fun c => ?_, fun c => ?_, fun c => ?_, fun c => ?_⟩
  · have z : k = 0 := by omega
    subst z
    rw [k2'.resolve_right (by omega), k3'.resolve_right (by omega)]
    have o1 : q1 < vh V ∧ q2 < ve V ∧ q3 < vn V := by unfold okS at ok; omega
    refine ex1 (e_51 h0 h1 h2 hV bV hT wf hs bs (by omega) o1.1 o1.2.1 o1.2.2) (fun J1 hh => ⟨?_, J1, rfl, rfl, hh⟩)
    unfold darnA
    split
    · exact Or.inr rfl
    · exact Or.inl rfl
  · have z : k = 1 := by omega
    subst z
    rw [k2'.resolve_right (by omega)]
    have o1 : q1 < ve V ∧ q2 < vn V := by unfold okS at ok; omega
    refine ex1 (e_52 h0 h1 hV bV hs bs o1.1 o1.2) (fun J1 hh => ⟨?_, J1, rfl, rfl, hh.1, hh.2.sl⟩)
    unfold letA
    split
    · exact Or.inl rfl
    · exact Or.inr rfl
  · have z : k = 2 := by omega
    subst z
    have o1 : q1 < ve V := by unfold okS at ok; omega
    have f3 : J (a + 3) (q1 : Int).toNat = s (12 + q1) := hs.2.2.1 q1 (by omega)
    have b2 := bs.2.1 q1 (by omega)
    rw [f3]
    show _ ∧ _ ∧ (_ → ∃ z, _ = Sum.inl (some (iv (callA s q1).1)) ∧ _ ∧ SV z a (callA s q1).2 ∧ _) ∧ (_ → ∃ z, _ = Sum.inl (some (iv (callA s q1).1)) ∧ _ ∧ SV z a (callA s q1).2 ∧ _)
    unfold callA
    refine ⟨by omega, by omega, fun c2 => ?_, fun c2 => ?_⟩
    · rw [if_neg c2]; exact ⟨_, rfl, rfl, SV_at hs (p := q1) (by omega) _, FSL.up (by decide)⟩
    · rw [if_pos c2]; exact ⟨J, rfl, rfl, hs, fun _ _ _ _ => rfl⟩
  · have z : k = 3 := by omega
    subst z
    have o1 : q1 < vn V := by unfold okS at ok; omega
    refine ex1 (e_54 h0 bV hs bs o1) (fun J1 hh => ⟨?_, J1, rfl, rfl, hh.1, hh.2.sl⟩)
    unfold unpickA
    split
    · exact Or.inl rfl
    · exact Or.inr rfl
  · have z : k = 4 := by omega
    subst z
    have o1 : q1 ≤ 40 := by unfold okS at ok; omega
    show _ ∧ (_ → _ ∧ ∃ z, _ = Sum.inl (some (iv (shearA s q1).1)) ∧ _ ∧ SV z a (shearA s q1).2 ∧ _) ∧ (_ → ∃ z, _ = Sum.inl (some (iv (shearA s q1).1)) ∧ _ ∧ SV z a (shearA s q1).2 ∧ _)
    unfold shearA
    refine ⟨by omega, fun c2 => ⟨by omega, ?_⟩, fun c2 => ?_⟩
    · rw [if_neg (by omega)]; exact ⟨_, rfl, rfl, SV_wool hs _, FSL.up0⟩
    · rw [if_pos (by omega)]; exact ⟨J, rfl, rfl, hs, fun _ _ _ _ => rfl⟩
  · have z : k = 5 := by omega
    subst z
    show _ ∧ (_ → ∃ J7, _ ∧ ∃ z, _ = Sum.inl (some (iv (dayA V s).1)) ∧ _ ∧ SV z a (dayA V s).2 ∧ _) ∧ (_ → ∃ z, _ = Sum.inl (some (iv (dayA V s).1)) ∧ _ ∧ SV z a (dayA V s).2 ∧ _)
    unfold dayA
    refine ⟨by omega, fun c2 => ?_, fun c2 => ?_⟩
    · rw [if_neg (by omega)]
      exact ex0 (e_57 h0 h1 hV bV hs bs (by omega)) (fun J1 hh => ⟨J1, rfl, rfl, hh.1, hh.2.sl⟩)
    · rw [if_pos (by omega)]; exact ⟨J, rfl, rfl, hs, fun _ _ _ _ => rfl⟩
/-- the reference's step -/
theorem e_217 {k q1 q2 q3 : Nat} (hV : VM J V) (bV : VBd V) (hT : LM J T) (wf : LWF T) (hs : MV J 562 s) (bs : SBd (vn V) s) (hd : 0 ≤ s 49 ∧ s 49 ≤ 600) (ok : okS V k q1 q2 q3) : ∃ J', EE X 6 217 [.ref 542, iv (k : Int), iv (q1 : Int), iv (q2 : Int), iv (q3 : Int)] (mj J sw lg x) (.inl (some (iv (stepA V T s k q1 q2 q3).1))) (mj J' sw lg x) ∧ MV J' 562 (stepA V T s k q1 q2 q3).2 ∧ FML J J' := by
  have v1 := bV.1
  have v2 := bV.2.1
  have v3 := bV.2.2.1
  have f4 : J 562 48 = s 48 := hs 48 (by omega)
  have f9 : J 562 49 = s 49 := hs 49 (by omega)
  have b5 := bs.2.2.2.2.2
  have kb : k ≤ 5 := by unfold okS at ok; omega
  refine EE.ex (O := fun _ => .inl (some (iv (stepA V T s k q1 q2 q3).1))) (F := fun J' => mj J' sw lg x) mt_217 (b_217_0 (by omega) ?_)
  rw [f4, f9]
  refine ⟨by omega, fun n0 => ⟨fun n1 => ⟨fun n3 => ⟨fun n2 => ⟨fun n4 => ?_, fun c => ?_⟩, fun c => ?_⟩, fun c => ?_⟩, fun c => ?_⟩, fun c => ?_⟩
  · have z : k = 5 := by omega
    subst z
    show _ ∧ (_ → ∃ J7, _ ∧ ∃ z, _ = Sum.inl (some (iv (dayA V s).1)) ∧ _ ∧ MV z 562 (dayA V s).2 ∧ _) ∧ (_ → ∃ z, _ = Sum.inl (some (iv (dayA V s).1)) ∧ _ ∧ MV z 562 (dayA V s).2 ∧ _)
    unfold dayA
    refine ⟨by omega, fun c2 => ?_, fun c2 => ?_⟩
    · rw [if_neg (by omega)]
      exact ex0 (e_216 hV bV hs bs (by omega)) (fun J1 hh => ⟨J1, rfl, rfl, hh.1, hh.2.ml⟩)
    · rw [if_pos (by omega)]; exact ⟨J, rfl, rfl, hs, fun _ _ _ _ => rfl⟩
  · have z : k = 4 := by omega
    subst z
    have o1 : q1 ≤ 40 := by unfold okS at ok; omega
    show _ ∧ (_ → ∃ c3 J2, _ ∧ ∃ z, _ = Sum.inl (some (iv (shearA s q1).1)) ∧ _ ∧ MV z 562 (shearA s q1).2 ∧ _) ∧ (_ → ∃ z, _ = Sum.inl (some (iv (shearA s q1).1)) ∧ _ ∧ MV z 562 (shearA s q1).2 ∧ _)
    unfold shearA
    refine ⟨by omega, fun c2 => ⟨_, J, e_210 (by omega), ?_⟩, fun c2 => ?_⟩
    · rw [if_neg (by omega), show max 0 (min 99 (s 48 + (q1 : Int))) = min 99 (s 48 + (q1 : Int)) by omega]; exact ⟨_, rfl, rfl, MV_up hs 48 _, FM.up.ml⟩
    · rw [if_pos (by omega)]; exact ⟨J, rfl, rfl, hs, fun _ _ _ _ => rfl⟩
  · have z : k = 2 := by omega
    subst z
    have o1 : q1 < ve V := by unfold okS at ok; omega
    have f3 : J 562 (12 + (q1 : Int)).toNat = s (12 + q1) := hs (12 + q1) (by omega)
    have b2 := bs.2.1 q1 (by omega)
    rw [f3]
    show _ ∧ _ ∧ (_ → ∃ z, _ = Sum.inl (some (iv (callA s q1).1)) ∧ _ ∧ MV z 562 (callA s q1).2 ∧ _) ∧ (_ → ∃ z, _ = Sum.inl (some (iv (callA s q1).1)) ∧ _ ∧ MV z 562 (callA s q1).2 ∧ _)
    unfold callA
    refine ⟨by omega, by omega, fun c2 => ?_, fun c2 => ?_⟩
    · rw [if_neg c2]; exact ⟨_, rfl, rfl, MV_up hs (12 + q1) _, FM.up.ml⟩
    · rw [if_pos c2]; exact ⟨J, rfl, rfl, hs, fun _ _ _ _ => rfl⟩
  · have z : k = 3 := by omega
    subst z
    have o1 : q1 < vn V := by unfold okS at ok; omega
    refine ex1 (e_214 hV bV hs bs o1) (fun J1 hh => ⟨?_, J1, rfl, rfl, hh.1, hh.2.ml⟩)
    unfold unpickA
    split
    · exact Or.inl rfl
    · exact Or.inr rfl
  · have z : k = 1 := by omega
    subst z
    have o1 : q1 < ve V ∧ q2 < vn V := by unfold okS at ok; omega
    refine ex1 (e_213 hV bV hs bs o1.1 o1.2) (fun J1 hh => ⟨?_, J1, rfl, rfl, hh.1, hh.2.ml⟩)
    unfold letA
    split
    · exact Or.inl rfl
    · exact Or.inr rfl
  · have z : k = 0 := by omega
    subst z
    have o1 : q1 < vh V ∧ q2 < ve V ∧ q3 < vn V := by unfold okS at ok; omega
    obtain ⟨J1, r, hr, hE, hF⟩ := e_212 (X := X) (sw := sw) (lg := lg) (x := x) hV bV hT wf hs bs (show 0 ≤ s 49 ∧ s 49 ≤ 2000 by omega) o1.1 o1.2.1 o1.2.2
    refine ⟨r, J1, hE, by omega, ?_⟩
    show ∃ z, _ = Sum.inl (some (iv (darnA V T s q1 q2 q3).1)) ∧ _ ∧ MV z 562 (darnA V T s q1 q2 q3).2 ∧ _
    rcases hr with ⟨hc, rfl, hm⟩ | ⟨hc, rfl, hm⟩
    · rw [darnA_y hc]; exact ⟨J1, rfl, rfl, hm, hF⟩
    · rw [darnA_n hc]; exact ⟨J1, rfl, rfl, hm, hF⟩
theorem SBd_step {k q1 q2 q3 : Nat} (bV : VBd V) (bs : SBd (vn V) s) (hd : 0 ≤ s 49 ∧ s 49 ≤ 600) (ok : okS V k q1 q2 q3) : SBd (vn V) (stepA V T s k q1 q2 q3).2 ∧ 0 ≤ (stepA V T s k q1 q2 q3).2 49 ∧ (stepA V T s k q1 q2 q3).2 49 ≤ 600 := by
  have v1 := bV.1
  have v2 := bV.2.1
  have v3 := bV.2.2.1
  have b5 := bs.2.2.2.2.2
  rcases ok with ⟨rfl, o1, o2, o3⟩ | ⟨rfl, o1, o2⟩ | ⟨rfl, o1⟩ | ⟨rfl, o1⟩ | ⟨rfl, o1⟩ | rfl
  · show SBd (vn V) (darnA V T s q1 q2 q3).2 ∧ 0 ≤ (darnA V T s q1 q2 q3).2 49 ∧ (darnA V T s q1 q2 q3).2 49 ≤ 600
    rcases canA_dec V s q1 q2 q3 with hc | hc
    · rw [darnA_y hc]
      refine ⟨SBd_darn bV bs o1 o2 o3 hc, ?_⟩
      show 0 ≤ darnS V T s q1 q2 q3 49 ∧ darnS V T s q1 q2 q3 49 ≤ 600
      rw [darn_day (by omega) (by omega) (by omega)]; exact hd
    · rw [darnA_n hc]; exact ⟨bs, hd⟩
  · show SBd (vn V) (letA V s q1 q2).2 ∧ 0 ≤ (letA V s q1 q2).2 49 ∧ (letA V s q1 q2).2 49 ≤ 600
    unfold letA
    split
    · exact ⟨bs, hd⟩
    · refine ⟨SBd_at bs (by omega) (by omega), ?_⟩
      show 0 ≤ up1 s (12 + q1) (q2 : Int) 49 ∧ up1 s (12 + q1) (q2 : Int) 49 ≤ 600
      rw [up1_ne (by omega)]; exact hd
  · show SBd (vn V) (callA s q1).2 ∧ 0 ≤ (callA s q1).2 49 ∧ (callA s q1).2 49 ≤ 600
    unfold callA
    split
    · exact ⟨bs, hd⟩
    · refine ⟨SBd_at bs (by omega) (by omega), ?_⟩
      show 0 ≤ up1 s (12 + q1) (-1) 49 ∧ up1 s (12 + q1) (-1) 49 ≤ 600
      rw [up1_ne (by omega)]; exact hd
  · show SBd (vn V) (unpickA s q1).2 ∧ 0 ≤ (unpickA s q1).2 49 ∧ (unpickA s q1).2 49 ≤ 600
    have b3 := bs.2.2.2.1 q1 (by omega)
    have b4 := bs.2.2.2.2.1 q1 (by omega)
    unfold unpickA
    split
    · exact ⟨bs, hd⟩
    · refine ⟨SBd_wool (SBd_ridge (SBd_wear bs (by omega) (by omega)) (by omega) (by omega)) (by omega), ?_⟩
      show 0 ≤ up1 (up1 (up1 s (30 + q1) (min 99 (s (30 + q1) + s (39 + q1)))) (39 + q1) 0) 48 (min 99 (s 48 + s (39 + q1) / 2)) 49 ∧ up1 (up1 (up1 s (30 + q1) (min 99 (s (30 + q1) + s (39 + q1)))) (39 + q1) 0) 48 (min 99 (s 48 + s (39 + q1) / 2)) 49 ≤ 600
      rw [up1_ne (by omega), up1_ne (by omega), up1_ne (by omega)]; exact hd
  · show SBd (vn V) (shearA s q1).2 ∧ 0 ≤ (shearA s q1).2 49 ∧ (shearA s q1).2 49 ≤ 600
    unfold shearA
    split
    · exact ⟨bs, hd⟩
    · refine ⟨SBd_wool bs (by omega), ?_⟩
      show 0 ≤ up1 s 48 (min 99 (s 48 + (q1 : Int))) 49 ∧ up1 s 48 (min 99 (s 48 + (q1 : Int))) 49 ≤ 600
      rw [up1_ne (by omega)]; exact hd
  · show SBd (vn V) (dayA V s).2 ∧ 0 ≤ (dayA V s).2 49 ∧ (dayA V s).2 49 ≤ 600
    unfold dayA
    split
    · exact ⟨bs, hd⟩
    · have := SBd_pass bs bV
      refine ⟨this.1, ?_⟩
      show 0 ≤ passA V s 49 ∧ passA V s 49 ≤ 600
      rw [this.2]; omega
end SP
