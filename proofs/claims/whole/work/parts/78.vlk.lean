/-! the class reads the village -/
/-- the class's village as told so far -/
def VS (J : Nat → Nat → Int) (v : Nat) (B : VB) : Prop := KV J v B.1 B.2.1 ∧ J v 4 = B.2.2 ∧ ∀ p, p < 9 → J (v + 4) p = (vnr B.1 p : Int)
def FV (v : Nat) (J J' : Nat → Nat → Int) : Prop := (∀ c, c ≠ 1 → ¬ (v ≤ c ∧ c ≤ v + 6) → J' c = J c) ∧ ∀ k, k < 3 → J' 1 k = J 1 k
theorem FX.fv {v : Nat} {J J' : Nat → Nat → Int} (h : FX J J') : FV v J J' := ⟨fun c q _ => h.1 c q, h.2⟩
theorem FV.rf {v : Nat} {J : Nat → Nat → Int} : FV v J J := ⟨fun _ _ _ => rfl, fun _ _ => rfl⟩
theorem FV.tr {v : Nat} {J J1 J2 : Nat → Nat → Int} (h1 : FV v J J1) (h2 : FV v J1 J2) : FV v J J2 := ⟨fun c q r => (h2.1 c q r).trans (h1.1 c q r), fun k q => (h2.2 k q).trans (h1.2 k q)⟩
theorem FV.up {v c k : Nat} {w : Int} {J : Nat → Nat → Int} (hc : v ≤ c ∧ c ≤ v + 6) (hv : 3 ≤ v) : FV v J (m_up J c k w) := ⟨fun i a b => up_r (by intro z; subst z; exact b hc), fun i _ => up_na (by omega)⟩
theorem FV.tx {v n a b : Nat} {J J' : Nat → Nat → Int} {tp : Nat → Int} (hv : 3 ≤ v) (h : FV v J J') (hT : TX J n tp a) (h3 : J' 1 3 = (b : Int)) : TX J' n tp b := ⟨by rw [h.2 2 (by decide)]; exact hT.1, h3, fun k hk => by rw [h.1 2 (by decide) (by omega)]; exact hT.2.2 k hk⟩
theorem VS.cg {J J' : Nat → Nat → Int} {v : Nat} {B : VB} (h : VS J v B) (hf : ∀ c, v ≤ c → c ≤ v + 6 → J' c = J c) : VS J' v B := ⟨KV_cg h.1 hf, by rw [hf v (by omega) (by omega)]; exact h.2.1, fun p hp => by rw [hf (v + 4) (by omega) (by omega)]; exact h.2.2 p hp⟩
theorem VS.fx {J J' : Nat → Nat → Int} {v : Nat} {B : VB} (h : VS J v B) (hv : 3 ≤ v) (hf : FX J J') : VS J' v B := h.cg (fun c q _ => hf.1 c (by omega))
/-- how a piece of the village is read -/
def VR (v : Nat) (J J' : Nat → Nat → Int) (R : RS × VB) : Prop := TR J' R.1 ∧ (R.1.1.1 = 0 → VS J' v R.2) ∧ FV v J J'
section Vl
variable {X : Nat × (Nat → Int32)} {J : Nat → Nat → Int} {sw : Bool × Bool × Bool} {lg : Nat → Nat → Int64} {x n a v : Nat} {tp : Nat → Int} {B : VB}
theorem e_93 (h0 : SH[v]? = some (14, 12)) (g0 : Nat → Int) : ∃ J', EE X 0 93 [.ref v] (mj J sw lg x) (.inl none) (mj J' sw lg x) ∧ VS J' v (vb0 g0) ∧ ∀ c, ¬ (v ≤ c ∧ c ≤ v + 6) → J' c = J c := by
  refine EE.ex (O := fun _ => .inl none) (F := fun J' => mj J' sw lg x) mt_93 (b_93_0 h0 ?_)
  refine lp (P := fun i => ∀ J' : Nat → Nat → Int, (J' v 0 = 0 ∧ J' v 1 = 0 ∧ J' v 2 = 0 ∧ J' v 3 = 0 ∧ J' v 4 = 12 ∧ J' v 5 = 0) → (∀ k, k < i → J' (v + 4) k = 0) → (∀ c, ¬ (v ≤ c ∧ c ≤ v + 6) → J' c = J c) → VV X 0 93 (33, [some (.ref v), some (iv i)], [], mj J' sw lg x) (fun o M => ∃ z, o = .inl none ∧ M = mj z sw lg x ∧ VS z v (vb0 g0) ∧ ∀ c, ¬ (v ≤ c ∧ c ≤ v + 6) → z c = J c)) 9 ?_ ?_ 0 (by decide) _ ?_ (fun k hk => absurd hk (Nat.not_lt_zero _)) ?_
  · intro J' h hz hf
    refine b_93_33 h0 ⟨by decide, fun _ => ⟨J', rfl, rfl, ⟨⟨⟨h.1, h.2.1, h.2.2.1, h.2.2.2.2.2, fun k hk => absurd hk (Nat.not_lt_zero _), fun k hk => absurd hk (Nat.not_lt_zero _), fun k hk => absurd hk (Nat.not_lt_zero _)⟩, h.2.2.2.1, fun k hk => absurd hk (Nat.not_lt_zero _), fun k hk => absurd hk (Nat.not_lt_zero _)⟩, h.2.2.2.2.1, fun p hp => hz p hp⟩, hf⟩, fun c => absurd c (by decide)⟩
  · intro i hi ih J' h hz hf
    refine b_93_33 h0 ⟨by omega, fun c => by omega, fun _ => ⟨by omega, ih _ ?_ (fun k hk => ?_) (fun c hc => ?_)⟩⟩
    · rw [up_na (by omega), up_na (by omega), up_na (by omega), up_na (by omega), up_na (by omega), up_na (by omega)]; exact h
    · rw [Int.toNat_natCast]
      by_cases z : k = i
      · subst z; exact up_eq _ _ _ _
      · rw [up_nk z]; exact hz k (by omega)
    · rw [up_r (by omega)]; exact hf c hc
  · refine ⟨?_, ?_, ?_, ?_, ?_, ?_⟩
    · rw [up_nk (by decide), up_nk (by decide), up_nk (by decide), up_nk (by decide), up_nk (by decide), up_eq]
    · rw [up_nk (by decide), up_nk (by decide), up_nk (by decide), up_nk (by decide), up_eq]
    · rw [up_nk (by decide), up_nk (by decide), up_nk (by decide), up_eq]
    · rw [up_nk (by decide), up_nk (by decide), up_eq]
    · rw [up_nk (by decide), up_eq]
    · exact up_eq _ _ _ _
  · intro c hc
    rw [up_r (by omega), up_r (by omega), up_r (by omega), up_r (by omega), up_r (by omega), up_r (by omega)]
theorem e_96 {b e : Nat} (h3 : J 1 3 = (e : Int)) (h4 : J 1 4 = (b : Int)) (hbe : b ≤ e) (he : e ≤ 600) (hB : TB n tp) (hb : ∀ k, k < 600 → J 2 k = tp k) : EE X 1 96 [.ref 1] (mj J sw lg x) (.inl (some (iv (kdV tp b e)))) (mj J sw lg x) := by
  have W : ∀ i, i < 43 → EE X 0 89 [.ref 1, .ref (m_scr + 1 + i)] (mj J sw lg x) (.inl (some (iv (bI (wIs tp b e (tw i)))))) (mj J sw lg x) := fun i hi => e_89 (nst hi) (tw_n hi) h3 h4 hbe he hB hb
  refine EE.of mt_96 (b_96_0 (by omega) ?_)
  unfold kdV
  refine ⟨_, _, W 0 (by decide), bzR _, fun c => ?_, fun c => ⟨by rw [if_pos (bz1 c)], rfl⟩⟩
  rw [if_neg (bz0 c)]
  refine ⟨_, _, W 1 (by decide), bzR _, fun c => ?_, fun c => ⟨by rw [if_pos (bz1 c)], rfl⟩⟩
  rw [if_neg (bz0 c)]
  refine ⟨_, _, W 2 (by decide), bzR _, fun c => ?_, fun c => ⟨by rw [if_pos (bz1 c)], rfl⟩⟩
  rw [if_neg (bz0 c)]
  refine ⟨_, _, W 3 (by decide), bzR _, fun c => ?_, fun c => ⟨by rw [if_pos (bz1 c)], rfl⟩⟩
  rw [if_neg (bz0 c)]
  refine ⟨_, _, W 4 (by decide), bzR _, fun c => ?_, fun c => ⟨by rw [if_pos (bz1 c)], rfl⟩⟩
  rw [if_neg (bz0 c)]
  refine ⟨_, _, W 5 (by decide), bzR _, fun c => ⟨by rw [if_neg (bz0 c)], rfl⟩, fun c => ⟨by rw [if_pos (bz1 c)], rfl⟩⟩
theorem e_97 {k : Int} (h0 : SH[v]? = some (14, 12)) (hS : VS J v B) (bB : VBB B) (hk : InR k) : EE X 0 97 [.ref v, iv k] (mj J sw lg x) (.inl (some (iv (if fulC B.1 k then 1 else 0)))) (mj J sw lg x) := by
  obtain ⟨⟨h1, h2, h3, h4, -⟩, -⟩ := bB
  obtain ⟨⟨⟨k1, k2, k3, -⟩, k4, -⟩, -⟩ := hS
  have y1 : fulC B.1 k → (.inl (some (iv 1)) : Option Value ⊕ Nat) = .inl (some (iv (if fulC B.1 k then 1 else 0))) ∧ mj J sw lg x = mj J sw lg x := fun z => ⟨by rw [if_pos z], rfl⟩
  have y0 : ¬ fulC B.1 k → (.inl (some (iv 0)) : Option Value ⊕ Nat) = .inl (some (iv (if fulC B.1 k then 1 else 0))) ∧ mj J sw lg x = mj J sw lg x := fun z => ⟨by rw [if_neg z], rfl⟩
  refine EE.of mt_97 (b_97_0 h0 ?_)
  rw [k1, k2, k3, k4]
  repeat' first | omega | exact y1 (by clear y0 y1; unfold fulC; omega) | exact y0 (by clear y0 y1; unfold fulC; omega) | intro _ | refine ⟨?_, ?_⟩
theorem e_99 {k : Int} (hk : InR k) : EE X 0 99 [iv k] (mj J sw lg x) (.inl (some (iv (loV k)))) (mj J sw lg x) := by
  refine EE.of mt_99 (b_99_0 ⟨hk, fun c => ⟨?_, rfl⟩, fun c => ⟨fun c2 => ⟨?_, rfl⟩, fun c2 => ⟨?_, rfl⟩⟩⟩)
  · unfold loV; rw [if_pos (Or.inl c)]
  · unfold loV; rw [if_neg (by omega)]
  · unfold loV; rw [if_pos (Or.inr c2)]
theorem e_100 {k : Int} (hk : InR k) : EE X 0 100 [iv k] (mj J sw lg x) (.inl (some (iv (hiV k)))) (mj J sw lg x) := by
  refine EE.of mt_100 (b_100_0 ⟨hk, fun c => ⟨?_, rfl⟩, fun c => ⟨?_, rfl⟩, fun c => ⟨?_, rfl⟩, fun c => ⟨?_, rfl⟩⟩)
  · unfold hiV; rw [if_pos c]
  · unfold hiV; rw [if_neg (by omega), if_pos c]
  · unfold hiV; rw [if_neg (by omega), if_neg (by omega), if_pos c]
  · unfold hiV; rw [if_neg (by omega), if_neg (by omega), if_neg (by omega)]
theorem loV_b (k : Int) : 0 ≤ loV k ∧ loV k ≤ 1 := by unfold loV; split <;> omega
theorem hiV_b (k : Int) : 9 ≤ hiV k ∧ hiV k ≤ 99 := by unfold hiV; (repeat' split) <;> omega
theorem okI_1 {R : RS} (h : ¬ okI R = 0) : R.1.1 = 0 := by unfold okI at h; split at h <;> first | assumption | exact absurd rfl h
theorem okI_0 {R : RS} (h : okI R = 0) : ¬ R.1.1 = 0 := by unfold okI at h; split at h <;> first | assumption | exact absurd h (by decide)
theorem okI_R (R : RS) : InR (okI R) := by unfold okI; split <;> decide
theorem okI_z (R : RS) : okI R = 0 ∨ okI R = 1 := by unfold okI; split; exact Or.inr rfl; exact Or.inl rfl
theorem okI_y {R : RS} (h : R.1.1 = 0) : okI R = 1 := if_pos h
theorem okI_n {R : RS} (h : ¬ R.1.1 = 0) : okI R = 0 := if_neg h
theorem e_98 {k : Int} (h0 : SH[v]? = some (14, 12)) (hT : TX J n tp a) (hB : TB n tp) (ha : a ≤ n) (hS : VS J v B) (bB : VBB B) (hk : 0 ≤ k ∧ k ≤ 5 ∧ ¬ k = 3) (hf : ¬ fulC B.1 k) : ∃ J', EE X 2 98 [.ref v, .ref 1, iv k] (mj J sw lg x) (.inl (some (iv (okI (oneR tp n a k B).1)))) (mj J' sw lg x) ∧ VR v J J' (oneR tp n a k B) := by
  have hv := bnd_9 h0
  refine EE.ex (O := fun _ => .inl (some (iv (okI (oneR tp n a k B).1)))) (F := fun J' => mj J' sw lg x) mt_98 (b_98_0 h0 (by omega) ?_)
  have l1 := loV_b k
  have l2 := hiV_b k
  obtain ⟨⟨b1, b2, b3, b4, -⟩, -⟩ := bB
  refine ⟨_, _, e_99 (by omega), _, _, e_100 (by omega), ?_⟩
  refine ex1 (e_91 hT hB ha (by omega) (by omega)) (fun J5 h5 => ?_)
  obtain ⟨⟨t5, v5, -⟩, f5⟩ := h5
  have hS5 := hS.fx hv.1 f5
  refine ⟨okI_R _, fun c => ?_, fun c => ⟨J5, by rw [show okI (oneR tp n a k B).1 = 0 from c], rfl, t5, fun z => absurd z (okI_0 c), f5.fv⟩⟩
  have c1 := okI_1 c
  have ok1 : okI (oneR tp n a k B).1 = 1 := okI_y c1
  rw [ok1, v5 c1]
  obtain ⟨⟨⟨k1, k2, k3, k4, k5, k6, k7⟩, k8, k9, k10⟩, k11, k12⟩ := hS5
  unfold fulC at hf
  have t3 := t5.1 c1
  have tz : ∀ J' : Nat → Nat → Int, FV v J5 J' → J' 1 = J5 1 → TR J' (oneR tp n a k B).1 := fun J' _ h1 => ⟨fun _ => by rw [h1]; exact t3, fun z => absurd c1 z⟩
  refine ⟨by omega, fun c0 => ⟨by omega, _, rfl, rfl, tz _ ((FV.up (by omega) hv.1).tr (FV.up (by omega) hv.1)) (by rw [up_r (by omega), up_r (by omega)]), fun _ => ?_, f5.fv.tr ((FV.up (by omega) hv.1).tr (FV.up (by omega) hv.1))⟩, fun c0 => ⟨by omega, _, rfl, rfl, tz _ ((FV.up (by omega) hv.1).tr (FV.up (by omega) hv.1)) (by rw [up_r (by omega), up_r (by omega)]), fun _ => ?_, f5.fv.tr ((FV.up (by omega) hv.1).tr (FV.up (by omega) hv.1))⟩, fun c0 => ⟨by omega, _, rfl, rfl, tz _ ((FV.up (by omega) hv.1).tr (FV.up (by omega) hv.1)) (by rw [up_r (by omega), up_r (by omega)]), fun _ => ?_, f5.fv.tr ((FV.up (by omega) hv.1).tr (FV.up (by omega) hv.1))⟩, fun c0 => absurd c0 hk.2.2, fun c0 => ⟨_, rfl, rfl, tz _ (FV.up (by omega) hv.1) (by rw [up_r (by omega)]), fun _ => ?_, f5.fv.tr (FV.up (by omega) hv.1)⟩, fun c0 => ⟨_, rfl, rfl, tz _ (FV.up (by omega) hv.1) (by rw [up_r (by omega)]), fun _ => ?_, f5.fv.tr (FV.up (by omega) hv.1)⟩⟩
  · subst c0
    rw [k1, Int.toNat_natCast]
    show VS _ v (addV B 0 (nmV tp n a))
    unfold addV
    rw [if_pos rfl]
    refine ⟨⟨⟨by rw [up_eq]; rfl, ?_, ?_, ?_, fun i hi => ?_, fun i hi => ?_, fun p hp => ?_⟩, ?_, fun p hp => ?_, fun i hi => ?_⟩, ?_, fun p hp => ?_⟩
    · rw [up_nk (by decide), up_na (by omega)]; exact k2
    · rw [up_nk (by decide), up_na (by omega)]; exact k3
    · rw [up_nk (by decide), up_na (by omega)]; exact k4
    · rw [up_na (by omega)]
      show _ = up1 (vtk B.1) (ve B.1) _ i
      have hi' : i < ve B.1 + 1 := hi
      by_cases z : i = ve B.1
      · rw [z, up_eq, up1_eq]
      · rw [up_nk z, up1_ne z]; exact k5 i (by omega)
    · rw [up_na (by omega), up_na (by omega)]; exact k6 i hi
    · rw [up_na (by omega), up_na (by omega)]; exact k7 p hp
    · rw [up_nk (by decide), up_na (by omega)]; exact k8
    · rw [up_na (by omega), up_na (by omega)]; exact k9 p hp
    · rw [up_na (by omega), up_na (by omega), up_na (by omega), up_na (by omega)]; exact k10 i hi
    · rw [up_nk (by decide), up_na (by omega)]; exact k11
    · rw [up_na (by omega), up_na (by omega)]; exact k12 p hp
  · subst c0
    rw [k2, Int.toNat_natCast]
    show VS _ v (addV B 1 (nmV tp n a))
    unfold addV
    rw [if_neg (by decide), if_pos rfl]
    refine ⟨⟨⟨?_, by rw [up_eq]; rfl, ?_, ?_, fun i hi => ?_, fun i hi => ?_, fun p hp => ?_⟩, ?_, fun p hp => ?_, fun i hi => ?_⟩, ?_, fun p hp => ?_⟩
    · rw [up_nk (by decide), up_na (by omega)]; exact k1
    · rw [up_nk (by decide), up_na (by omega)]; exact k3
    · rw [up_nk (by decide), up_na (by omega)]; exact k4
    · rw [up_na (by omega), up_na (by omega)]; exact k5 i hi
    · rw [up_na (by omega)]
      show _ = up1 (van B.1) (vh B.1) _ i
      have hi' : i < vh B.1 + 1 := hi
      by_cases z : i = vh B.1
      · rw [z, up_eq, up1_eq]
      · rw [up_nk z, up1_ne z]; exact k6 i (by omega)
    · rw [up_na (by omega), up_na (by omega)]; exact k7 p hp
    · rw [up_nk (by decide), up_na (by omega)]; exact k8
    · rw [up_na (by omega), up_na (by omega)]; exact k9 p hp
    · rw [up_na (by omega), up_na (by omega), up_na (by omega), up_na (by omega)]; exact k10 i hi
    · rw [up_nk (by decide), up_na (by omega)]; exact k11
    · rw [up_na (by omega), up_na (by omega)]; exact k12 p hp
  · subst c0
    rw [k3, Int.toNat_natCast]
    show VS _ v (addV B 2 (nmV tp n a))
    unfold addV
    rw [if_neg (by decide), if_neg (by decide), if_pos rfl]
    refine ⟨⟨⟨?_, ?_, by rw [up_eq]; rfl, ?_, fun i hi => ?_, fun i hi => ?_, fun p hp => ?_⟩, ?_, fun p hp => ?_, fun i hi => ?_⟩, ?_, fun p hp => ?_⟩
    · rw [up_nk (by decide), up_na (by omega)]; exact k1
    · rw [up_nk (by decide), up_na (by omega)]; exact k2
    · rw [up_nk (by decide), up_na (by omega)]; exact k4
    · rw [up_na (by omega), up_na (by omega)]; exact k5 i hi
    · rw [up_na (by omega), up_na (by omega)]; exact k6 i hi
    · rw [up_na (by omega), up_na (by omega)]
      have hp' : p < vn B.1 + 1 := hp
      exact k12 p (by omega)
    · rw [up_nk (by decide), up_na (by omega)]; exact k8
    · rw [up_na (by omega)]
      show _ = up1 B.2.1 (vn B.1) _ p
      have hp' : p < vn B.1 + 1 := hp
      by_cases z : p = vn B.1
      · rw [z, up_eq, up1_eq]
      · rw [up_nk z, up1_ne z]; exact k9 p (by omega)
    · rw [up_na (by omega), up_na (by omega), up_na (by omega), up_na (by omega)]; exact k10 i hi
    · rw [up_nk (by decide), up_na (by omega)]; exact k11
    · rw [up_na (by omega), up_na (by omega)]; exact k12 p hp
  · subst c0
    show VS _ v (addV B 4 (nmV tp n a))
    unfold addV
    rw [if_neg (by decide), if_neg (by decide), if_neg (by decide), if_pos rfl]
    refine ⟨⟨⟨?_, ?_, ?_, ?_, fun i hi => ?_, fun i hi => ?_, fun p hp => ?_⟩, ?_, fun p hp => ?_, fun i hi => ?_⟩, by rw [up_eq], fun p hp => ?_⟩
    · rw [up_nk (by decide)]; exact k1
    · rw [up_nk (by decide)]; exact k2
    · rw [up_nk (by decide)]; exact k3
    · rw [up_nk (by decide)]; exact k4
    · rw [up_na (by omega)]; exact k5 i hi
    · rw [up_na (by omega)]; exact k6 i hi
    · rw [up_na (by omega)]; exact k7 p hp
    · rw [up_nk (by decide)]; exact k8
    · rw [up_na (by omega)]; exact k9 p hp
    · rw [up_na (by omega), up_na (by omega)]; exact k10 i hi
    · rw [up_na (by omega)]; exact k12 p hp
  · have : k = 5 := by omega
    subst this
    show VS _ v (addV B 5 (nmV tp n a))
    unfold addV
    rw [if_neg (by decide), if_neg (by decide), if_neg (by decide), if_neg (by decide)]
    refine ⟨⟨⟨?_, ?_, ?_, by rw [up_eq]; rfl, fun i hi => ?_, fun i hi => ?_, fun p hp => ?_⟩, ?_, fun p hp => ?_, fun i hi => ?_⟩, ?_, fun p hp => ?_⟩
    · rw [up_nk (by decide)]; exact k1
    · rw [up_nk (by decide)]; exact k2
    · rw [up_nk (by decide)]; exact k3
    · rw [up_na (by omega)]; exact k5 i hi
    · rw [up_na (by omega)]; exact k6 i hi
    · rw [up_na (by omega)]; exact k7 p hp
    · rw [up_nk (by decide)]; exact k8
    · rw [up_na (by omega)]; exact k9 p hp
    · rw [up_na (by omega), up_na (by omega)]; exact k10 i hi
    · rw [up_nk (by decide)]; exact k11
    · rw [up_na (by omega)]; exact k12 p hp
theorem e_101 (h0 : SH[v]? = some (14, 12)) (hT : TX J n tp a) (hB : TB n tp) (ha : a ≤ n) (hS : VS J v B) (bB : VBB B) (hf : vp B.1 < 14) : ∃ J', EE X 2 101 [.ref v, .ref 1] (mj J sw lg x) (.inl (some (iv (okI (pthR tp n a B).1)))) (mj J' sw lg x) ∧ VR v J J' (pthR tp n a B) := by
  have hv := bnd_9 h0
  refine EE.ex (O := fun _ => .inl (some (iv (okI (pthR tp n a B).1)))) (F := fun J' => mj J' sw lg x) mt_101 (b_101_0 h0 (by omega) ?_)
  obtain ⟨⟨b1, b2, b3, b4, b5, b6, b7, b8⟩, -⟩ := bB
  have g3 := hS.1.1.2.2.1
  rw [g3]
  refine ex1 (e_91 hT hB ha (by decide) (by omega)) (fun J1 h1 => ?_)
  obtain ⟨⟨t1, v1, -⟩, f1⟩ := h1
  have hS1 := hS.fx hv.1 f1
  have g31 := hS1.1.1.2.2.1
  rw [g31]
  unfold pthR
  generalize hR1 : nmR tp n a 0 ((vn B.1 : Int) - 1) = R1 at *
  refine ⟨okI_R _, fun c1 => ?_, fun c1 => ⟨J1, by rw [if_neg (okI_0 c1), c1], rfl, by rw [if_neg (okI_0 c1)]; exact t1, fun z => by rw [if_neg (okI_0 c1)] at z; exact absurd z (okI_0 c1), f1.fv⟩⟩
  have z1 := okI_1 c1
  have m1 := nm_ok (tp := tp) (lo := 0) (hi := (vn B.1 : Int) - 1) ha (by rw [hR1]; exact z1)
  rw [hR1] at m1
  have T1 := hT.fr f1 (t1.1 z1)
  rw [if_pos z1]
  refine ex1 (e_91 T1 hB m1.1 (by decide) (by omega)) (fun J3 h3 => ?_)
  obtain ⟨⟨t3, v3, s3⟩, f3⟩ := h3
  have hS3 := hS1.fx hv.1 f3
  generalize hR2 : nmR tp n R1.2 0 ((vn B.1 : Int) - 1) = R2 at *
  refine ⟨okI_R _, fun c2 => ?_, fun c2 => ⟨J3, by rw [if_neg (okI_0 c2), c2], rfl, by rw [if_neg (okI_0 c2)]; exact t3, fun z => by rw [if_neg (okI_0 c2)] at z; exact absurd z (okI_0 c2), (f1.tr f3).fv⟩⟩
  have z2 := okI_1 c2
  have m2 := nm_ok (tp := tp) (lo := 0) (hi := (vn B.1 : Int) - 1) m1.1 (by rw [hR2]; exact z2)
  rw [hR2] at m2
  rw [if_pos z2, v1 z1, v3 z2]
  obtain ⟨p, hp⟩ : ∃ p : Nat, nmV tp n a = (p : Int) := ⟨(nmV tp n a).toNat, by omega⟩
  obtain ⟨q, hq⟩ : ∃ q : Nat, nmV tp n R1.2 = (q : Int) := ⟨(nmV tp n R1.2).toNat, by omega⟩
  have pb : p < vn B.1 := by omega
  have qb : q < vn B.1 := by omega
  rw [hp, hq, Int.toNat_natCast, Int.toNat_natCast]
  obtain ⟨⟨⟨k1, k2, k3, k4, k5, k6, k7⟩, k8, k9, k10⟩, k11, k12⟩ := hS3
  have nb : ∀ y, vnr B.1 y < 2147483648 := fun y => vnr_31 ⟨b1, b2, b3, b4, b5, b6, b7, b8⟩ y
  have bad : (((p : Int) = (q : Int)) ∨ (vnr B.1 p).testBit q = true) → ∃ z, (.inl (some (iv 0)) : Option Value ⊕ Nat) = .inl (some (iv (okI (if ((p : Int) = (q : Int)) ∨ (vnr B.1 p).testBit q = true then (((2, sk tp n R1.2), 0), B) else (R2, addP B p q) : RS × VB).1))) ∧ mj (m_up (m_up J3 1 6 2) 1 7 (J3 1 4)) sw lg x = mj z sw lg x ∧ VR v J z (if ((p : Int) = (q : Int)) ∨ (vnr B.1 p).testBit q = true then (((2, sk tp n R1.2), 0), B) else (R2, addP B p q)) := by
    intro z
    rw [if_pos z]
    refine ⟨_, rfl, rfl, ⟨fun z => absurd (show (2 : Nat) = 0 from z) (by decide), fun _ => ⟨by rw [up_nk (by decide), up_eq]; rfl, by rw [up_eq]; exact s3⟩⟩, fun z => absurd (show (2 : Nat) = 0 from z) (by decide), (((f1.tr f3).tr (FX.up (by decide))).tr (FX.up (by decide))).fv⟩
  refine ⟨by omega, by omega, fun c => bad (Or.inl c), fun c => ⟨by omega, ?_⟩⟩
  rw [k12 p (by omega), q_bit (nb p) (by omega)]
  refine ⟨fun c3 => ?_, fun c3 => bad (Or.inr ?_)⟩
  · clear bad
    have c4 : ¬ ((p : Int) = (q : Int) ∨ (vnr B.1 p).testBit q = true) := by
      rintro (z | z)
      · exact c z
      · rw [if_pos z] at c3; exact absurd c3 (by decide)
    rw [if_neg c4, k8, Int.toNat_natCast]
    refine ⟨by omega, by omega, _, by rw [show okI (R2, addP B p q).1 = 1 from okI_y z2], rfl, ⟨fun _ => ?_, fun z => absurd z2 z⟩, fun _ => ?_, ?_⟩
    · rw [up_na (by omega), up_na (by omega), up_na (by omega), up_na (by omega), up_na (by omega)]; exact t3.1 z2
    · have pq : p ≠ q := by omega
      have e1 : m_up (m_up (m_up (m_up J3 (v + 5) (vp B.1) (p : Int)) (v + 6) (vp B.1) (q : Int)) v 3 ((vp B.1 : Int) + 1)) (v + 4) p (bOr (vnr B.1 p : Int) (bShl 1 (q : Int))) (v + 4) q = (vnr B.1 q : Int) := by
        rw [up_nk (Ne.symm pq), up_na (by omega), up_na (by omega), up_na (by omega)]; exact k12 q (by omega)
      rw [e1, q_shl q (by omega), q_shl p (by omega), q_or (nb p) (show 2 ^ q < 2 ^ 31 from Nat.pow_lt_pow_right (by decide) (by omega)), q_or (nb q) (show 2 ^ p < 2 ^ 31 from Nat.pow_lt_pow_right (by decide) (by omega))]
      have near : ∀ y, y < 9 → m_up (m_up (m_up (m_up (m_up J3 (v + 5) (vp B.1) (p : Int)) (v + 6) (vp B.1) (q : Int)) v 3 ((vp B.1 : Int) + 1)) (v + 4) p ((vnr B.1 p ||| 2 ^ q : Nat) : Int)) (v + 4) q ((vnr B.1 q ||| 2 ^ p : Nat) : Int) (v + 4) y = (vnr (addP B p q).1 y : Int) := by
        intro y hy
        rw [vnr_pth, Int.toNat_natCast, Int.toNat_natCast]
        by_cases y1 : y = q
        · subst y1
          rw [up_eq, if_neg (by omega), if_pos rfl, Nat.or_zero]
        · rw [up_nk y1]
          by_cases y2 : y = p
          · subst y2
            rw [up_eq, if_pos rfl, if_neg (by omega), Nat.or_zero]
          · rw [up_nk y2, up_na (by omega), up_na (by omega), up_na (by omega), if_neg (by omega), if_neg (by omega), Nat.or_zero, Nat.or_zero]
            exact k12 y hy
      refine ⟨⟨⟨?_, ?_, ?_, ?_, fun i hi => ?_, fun i hi => ?_, fun y hy => ?_⟩, ?_, fun y hy => ?_, fun i hi => ?_⟩, ?_, near⟩
      · rw [up_na (by omega), up_na (by omega), up_nk (by decide), up_na (by omega), up_na (by omega)]; exact k1
      · rw [up_na (by omega), up_na (by omega), up_nk (by decide), up_na (by omega), up_na (by omega)]; exact k2
      · rw [up_na (by omega), up_na (by omega), up_nk (by decide), up_na (by omega), up_na (by omega)]; exact k3
      · rw [up_na (by omega), up_na (by omega), up_nk (by decide), up_na (by omega), up_na (by omega)]; exact k4
      · rw [up_na (by omega), up_na (by omega), up_na (by omega), up_na (by omega), up_na (by omega)]; exact k5 i hi
      · rw [up_na (by omega), up_na (by omega), up_na (by omega), up_na (by omega), up_na (by omega)]; exact k6 i hi
      · have hy' : y < vn B.1 := hy
        exact near y (by omega)
      · rw [up_na (by omega), up_na (by omega), up_eq]; rfl
      · rw [up_na (by omega), up_na (by omega), up_na (by omega), up_na (by omega), up_na (by omega)]; exact k9 y hy
      · have hi' : i < vp B.1 + 1 := hi
        refine ⟨?_, ?_⟩
        · rw [up_na (by omega), up_na (by omega), up_na (by omega), up_na (by omega)]
          show _ = up1 (up1 (vg B.1) (2 * vp B.1) p) (2 * vp B.1 + 1) q (2 * i)
          by_cases z : i = vp B.1
          · subst z
            rw [up_eq, up1_ne (by omega), up1_eq]
          · rw [up_nk z, up1_ne (by omega), up1_ne (by omega)]
            exact (k10 i (by omega)).1
        · rw [up_na (by omega), up_na (by omega), up_na (by omega)]
          show _ = up1 (up1 (vg B.1) (2 * vp B.1) p) (2 * vp B.1 + 1) q (2 * i + 1)
          by_cases z : i = vp B.1
          · subst z
            rw [up_eq, up1_eq]
          · rw [up_nk z, up_na (by omega), up1_ne (by omega), up1_ne (by omega)]
            exact (k10 i (by omega)).2
      · rw [up_na (by omega), up_na (by omega), up_nk (by decide), up_na (by omega), up_na (by omega)]; exact k11
    · exact (f1.tr f3).fv.tr (((((FV.up (by omega) hv.1).tr (FV.up (by omega) hv.1)).tr (FV.up (by omega) hv.1)).tr (FV.up (by omega) hv.1)).tr (FV.up (by omega) hv.1))
  · by_cases z : (vnr B.1 p).testBit q = true
    · exact z
    · rw [if_neg z] at c3; exact absurd rfl c3
theorem pth_b (ha : a ≤ n) (h : (pthR tp n a B).1.1.1 = 0) : (pthR tp n a B).1.2 ≤ n := by
  unfold pthR at h ⊢
  by_cases q1 : (nmR tp n a 0 ((vn B.1 : Int) - 1)).1.1 = 0
  · rw [if_pos q1] at h ⊢
    have m1 := nm_ok ha q1
    by_cases q2 : (nmR tp n (nmR tp n a 0 ((vn B.1 : Int) - 1)).2 0 ((vn B.1 : Int) - 1)).1.1 = 0
    · rw [if_pos q2] at h ⊢
      split at h
      · exact absurd (show (2 : Nat) = 0 from h) (by decide)
      · rename_i q3; rw [if_neg q3]; exact (nm_ok m1.1 q2).1
    · rw [if_neg q2] at h; exact absurd h q2
  · rw [if_neg q1] at h; exact absurd h q1
theorem pth_B (ha : a ≤ n) (bB : VBB B) (hf : vp B.1 < 14) : VBB (pthR tp n a B).2 := by
  unfold pthR
  by_cases q1 : (nmR tp n a 0 ((vn B.1 : Int) - 1)).1.1 = 0
  · rw [if_pos q1]
    have m1 := nm_ok ha q1
    by_cases q2 : (nmR tp n (nmR tp n a 0 ((vn B.1 : Int) - 1)).2 0 ((vn B.1 : Int) - 1)).1.1 = 0
    · rw [if_pos q2]
      have m2 := nm_ok m1.1 q2
      split
      · exact bB
      · exact VBB_pth bB hf (by omega) (by omega)
    · rw [if_neg q2]; exact bB
  · rw [if_neg q1]; exact bB
/-- a clause read: its place behind, what it adds -/
theorem cl_b {tm : Bool} (ha : a ≤ n) (bB : VBB B) (h : (clR tp n tm a B).1.1.1 = 0) : (clR tp n tm a B).1.2 ≤ n ∧ VBB (clR tp n tm a B).2 := by
  have h1 : sk tp n a ≤ n := sc_ub ha
  have h2 : wd tp n (sk tp n a) ≤ n := sc_ub h1
  have hb := kdV_b tp (sk tp n a) (wd tp n (sk tp n a))
  unfold clR at h ⊢
  by_cases q1 : kdV tp (sk tp n a) (wd tp n (sk tp n a)) = -1
  · rw [if_pos q1] at h; exact absurd (show (1 : Nat) = 0 from h) (by decide)
  · rw [if_neg q1] at h ⊢
    by_cases q2 : tm = true ∨ fulC B.1 (kdV tp (sk tp n a) (wd tp n (sk tp n a)))
    · rw [if_pos q2] at h; exact absurd (show (3 : Nat) = 0 from h) (by decide)
    · rw [if_neg q2] at h ⊢
      by_cases q3 : kdV tp (sk tp n a) (wd tp n (sk tp n a)) = 3
      · rw [if_pos q3] at h ⊢
        exact ⟨pth_b h2 h, pth_B h2 bB (by unfold fulC at q2; omega)⟩
      · rw [if_neg q3] at h ⊢
        have m := nm_ok h2 h
        exact ⟨m.1, VBB_add bB ⟨by omega, by omega, q3⟩ (fun z => q2 (Or.inr z)) ⟨m.2.1, m.2.2.1⟩⟩
theorem e_95 {tm : Bool} (h0 : SH[v]? = some (14, 12)) (hT : TX J n tp a) (hB : TB n tp) (ha : a ≤ n) (hS : VS J v B) (bB : VBB B) : ∃ J', EE X 3 95 [.ref v, .ref 1, iv (bI tm)] (mj J sw lg x) (.inl (some (iv (okI (clR tp n tm a B).1)))) (mj J' sw lg x) ∧ VR v J J' (clR tp n tm a B) := by
  have hv := bnd_9 h0
  have hn := hB.1
  have hs : sk tp n a ≤ n := sc_ub ha
  have hw : wd tp n (sk tp n a) ≤ n := sc_ub hs
  have hb := kdV_b tp (sk tp n a) (wd tp n (sk tp n a))
  refine EE.ex (O := fun _ => .inl (some (iv (okI (clR tp n tm a B).1)))) (F := fun J' => mj J' sw lg x) mt_95 (b_95_0 h0 (by omega) ?_)
  refine ex0 (e_88 hT hB ha) (fun J1 h1 => ?_)
  obtain ⟨⟨t1, s1⟩, f1⟩ := h1
  have T1 := hT.fr f1 t1
  have hS1 := hS.fx hv.1 f1
  refine ⟨_, _, e_96 t1 s1 sc_le (by omega) hB T1.2.2, by omega, fun c1 => ⟨bzR _, fun c2 => ?_, fun c2 => ?_⟩, fun c1 => ?_⟩
  · have hr : clR tp n tm a B = (((3, sk tp n a), 0), B) := by unfold clR; rw [if_neg c1, if_pos (Or.inl (bz1 c2))]
    rw [hr]
    exact ⟨_, rfl, rfl, ⟨fun z => absurd (show (3 : Nat) = 0 from z) (by decide), fun _ => ⟨by rw [up_nk (by decide), up_eq]; rfl, by rw [up_eq]; exact s1⟩⟩, fun z => absurd (show (3 : Nat) = 0 from z) (by decide), ((f1.tr (FX.up (by decide))).tr (FX.up (by decide))).fv⟩
  · refine ⟨_, _, e_97 h0 hS1 bB (by omega), by split <;> decide, fun c3 => ?_, fun c3 => ?_⟩
    · have nf : ¬ fulC B.1 (kdV tp (sk tp n a) (wd tp n (sk tp n a))) := fun z => by rw [if_pos z] at c3; exact absurd c3 (by decide)
      have hr : clR tp n tm a B = if kdV tp (sk tp n a) (wd tp n (sk tp n a)) = 3 then pthR tp n (wd tp n (sk tp n a)) B else oneR tp n (wd tp n (sk tp n a)) (kdV tp (sk tp n a) (wd tp n (sk tp n a))) B := by
        unfold clR; rw [if_neg c1, if_neg]
        rintro (z | z)
        · exact bz0 c2 z
        · exact nf z
      refine ⟨fun c4 => ?_, fun c4 => ?_⟩
      · rw [hr, if_neg c4]
        refine ex1 (e_98 h0 T1 hB hw hS1 bB ⟨by omega, by omega, c4⟩ nf) (fun J6 h6 => ⟨okI_z _, J6, rfl, rfl, h6.1, h6.2.1, f1.fv.tr h6.2.2⟩)
      · rw [hr, if_pos c4]
        refine ex1 (e_101 h0 T1 hB hw hS1 bB (by unfold fulC at nf; omega)) (fun J6 h6 => ⟨okI_z _, J6, rfl, rfl, h6.1, h6.2.1, f1.fv.tr h6.2.2⟩)
    · have nf : fulC B.1 (kdV tp (sk tp n a) (wd tp n (sk tp n a))) := Decidable.byContradiction fun z => by rw [if_neg z] at c3; exact absurd rfl c3
      have hr : clR tp n tm a B = (((3, sk tp n a), 0), B) := by unfold clR; rw [if_neg c1, if_pos (Or.inr nf)]
      rw [hr]
      exact ⟨_, rfl, rfl, ⟨fun z => absurd (show (3 : Nat) = 0 from z) (by decide), fun _ => ⟨by rw [up_nk (by decide), up_eq]; rfl, by rw [up_eq]; exact s1⟩⟩, fun z => absurd (show (3 : Nat) = 0 from z) (by decide), ((f1.tr (FX.up (by decide))).tr (FX.up (by decide))).fv⟩
  · have hr : clR tp n tm a B = (((1, sk tp n a), 0), B) := by unfold clR; rw [if_pos c1]
    rw [hr]
    exact ⟨_, rfl, rfl, ⟨fun z => absurd (show (1 : Nat) = 0 from z) (by decide), fun _ => ⟨by rw [up_nk (by decide), up_eq]; rfl, by rw [up_eq]; exact s1⟩⟩, fun z => absurd (show (1 : Nat) = 0 from z) (by decide), ((f1.tr (FX.up (by decide))).tr (FX.up (by decide))).fv⟩
theorem sk_sk : sk tp n (sk tp n a) = sk tp n a := sc_idem
theorem clR_sk {tm : Bool} : clR tp n tm (sk tp n a) B = clR tp n tm a B := by unfold clR; rw [sk_sk]
theorem e_94 (h0 : SH[v]? = some (14, 12)) (hT : TX J n tp 0) (hB : TB n tp) (g0 : Nat → Int) : ∃ J', EE X 4 94 [.ref v, .ref 1] (mj J sw lg x) (.inl (some (iv (okI (vlR tp n 61 0 (vb0 g0)).1)))) (mj J' sw lg x) ∧ VR v J J' (vlR tp n 61 0 (vb0 g0)) := by
  have hv := bnd_9 h0
  refine EE.ex (O := fun _ => .inl (some (iv (okI (vlR tp n 61 0 (vb0 g0)).1)))) (F := fun J' => mj J' sw lg x) mt_94 (b_94_0 h0 (by omega) ?_)
  refine ex0 (e_93 h0 g0) (fun J1 h1 => ?_)
  have F1 : FV v J J1 := ⟨fun c _ q => h1.2 c q, fun k _ => by rw [h1.2 1 (by omega)]⟩
  have key : ∀ f a (i : Nat) (B : VB) (J' : Nat → Nat → Int), i + f = 61 → a ≤ n → VBB B → vlR tp n f a B = vlR tp n 61 0 (vb0 g0) → TX J' n tp a → VS J' v B → FV v J J' → VV X 4 94 (6, [some (.ref v), some (.ref 1), some (iv (i : Int))], [], mj J' sw lg x) (fun o M => ∃ z, o = .inl (some (iv (okI (vlR tp n 61 0 (vb0 g0)).1))) ∧ M = mj z sw lg x ∧ VR v J z (vlR tp n 61 0 (vb0 g0))) := by
    intro f
    induction f with
    | zero =>
      intro a i B J' hi ha bB hE hT' hS' hF
      refine b_94_6 h0 (by omega) ⟨by omega, fun _ => ⟨J', ?_, rfl, ?_⟩, fun c => by omega⟩
      · rw [← hE]; rfl
      · rw [← hE]; exact ⟨⟨fun _ => hT'.2.1, fun z => absurd rfl z⟩, fun _ => hS', hF⟩
    | succ f ih =>
      intro a i B J' hi ha bB hE hT' hS' hF
      rw [vlR] at hE
      refine b_94_6 h0 (by omega) ⟨by omega, fun c => by omega, fun _ => ?_⟩
      refine ex1 (e_85 hT' hB ha) (fun J2 h2 => ?_)
      have hs : sk tp n a ≤ n := sc_ub ha
      have nb := nxc_b hB (sk tp n a)
      have T2 := hT'.fr h2.fx h2.1
      have hS2 := hS'.fx hv.1 h2.fx
      have go : ∀ (tm : Bool), tm = decide (f = 0) → nxc tp n (sk tp n a) ≠ -1 → ∃ (c4 : Int) (J3 : Nat → Nat → Int), EE X 3 95 [.ref v, .ref 1, iv (bI tm)] (mj J2 sw lg x) (.inl (some (iv c4))) (mj J3 sw lg x) ∧ InR c4 ∧ (c4 = 0 → (fun o M => ∃ z, o = .inl (some (iv (okI (vlR tp n 61 0 (vb0 g0)).1))) ∧ M = mj z sw lg x ∧ VR v J z (vlR tp n 61 0 (vb0 g0)) : (Option Value ⊕ Nat) → mM → Prop) (.inl (some (iv 0))) (mj J3 sw lg x)) ∧ (¬ c4 = 0 → (∃ (c6 : Int) (J5 : Nat → Nat → Int), EE X 1 87 [.ref 1, iv 59] (mj J3 sw lg x) (.inl (some (iv c6))) (mj J5 sw lg x) ∧ InR c6 ∧ (¬ c6 = 0 → VV X 4 94 (6, [some (.ref v), some (.ref 1), some (iv ((i : Int) + 1))], [], mj J5 sw lg x) (fun o M => ∃ z, o = .inl (some (iv (okI (vlR tp n 61 0 (vb0 g0)).1))) ∧ M = mj z sw lg x ∧ VR v J z (vlR tp n 61 0 (vb0 g0)))) ∧ (c6 = 0 → (fun o M => ∃ z, o = .inl (some (iv (okI (vlR tp n 61 0 (vb0 g0)).1))) ∧ M = mj z sw lg x ∧ VR v J z (vlR tp n 61 0 (vb0 g0)) : (Option Value ⊕ Nat) → mM → Prop) (.inl (some (iv 0))) (mj J5 sw lg x)))) := by
        intro tm htm hne
        have hlt : ¬ n ≤ sk tp n a := fun z => hne (by unfold nxc; rw [if_neg (by omega)])
        rw [if_neg hlt, ← htm] at hE
        refine ex1 (e_95 (tm := tm) h0 T2 hB hs hS2 bB) (fun J3 h3 => ?_)
        rw [clR_sk] at h3 ⊢
        refine ⟨okI_R _, fun c => ?_, fun c => ?_⟩
        · rw [if_neg (okI_0 c)] at hE
          rw [← hE]
          exact ⟨J3, by rw [c], rfl, h3.1, h3.2.1, (hF.tr h2.fx.fv).tr h3.2.2⟩
        · have z1 := okI_1 c
          rw [if_pos z1] at hE
          have cb := cl_b (tm := tm) ha bB z1
          have T3 := h3.2.2.tx hv.1 T2 (h3.1.1 z1)
          have hS3 := h3.2.1 z1
          refine ex1 (e_87 T3 hB cb.1 (by decide)) (fun J5 h5 => ?_)
          refine ⟨okI_R _, fun c2 => ?_, fun c2 => ?_⟩
          · have z2 := okI_1 c2
            rw [if_pos z2] at hE
            have sb := sg_ok cb.1 z2
            exact ih _ (i + 1) _ J5 (by omega) sb.1 cb.2 hE (T3.fr h5.2 (h5.1.1 z2)) (hS3.fx hv.1 h5.2) (((hF.tr h2.fx.fv).tr h3.2.2).tr h5.2.fv)
          · rw [if_neg (okI_0 c2)] at hE
            rw [← hE]
            exact ⟨J5, by rw [c2], rfl, h5.1, fun z => absurd z (okI_0 c2), ((hF.tr h2.fx.fv).tr h3.2.2).tr h5.2.fv⟩
      refine ⟨by omega, fun c => ⟨fun c2 => ?_, fun c2 => ?_⟩, fun c => ?_⟩
      · exact go false (by rw [decide_eq_false (by clear go; omega)]) c
      · exact go true (by rw [decide_eq_true (by clear go; omega)]) c
      · clear go
        have hle : n ≤ sk tp n a := by
          unfold nxc at c
          have := hB.2 (sk tp n a)
          split at c <;> omega
        rw [if_pos hle] at hE
        rw [← hE]
        exact ⟨J2, rfl, rfl, ⟨fun _ => h2.1, fun z => absurd rfl z⟩, fun _ => hS2, hF.tr h2.fx.fv⟩
  exact key 61 0 0 _ J1 rfl (Nat.zero_le _) (VBB_0 g0) rfl (F1.tx hv.1 hT (by rw [h1.2 1 (by omega)]; exact hT.2.1)) h1.1 F1
def flt (n : Nat) (R : RS) : Prop := ¬ R.1.1 = 0 → (1 ≤ R.1.1 ∧ R.1.1 ≤ 3) ∧ R.1.2 ≤ n
theorem nm_f {lo hi : Int} (ha : a ≤ n) : flt n (nmR tp n a lo hi) := fun h => by
  have := nm_no h
  have hs : sk tp n a ≤ n := sc_ub ha
  rw [this.1]
  exact ⟨by omega, hs⟩
theorem sg_f {c : Int} (ha : a ≤ n) : flt n (sgR tp n a c) := fun h => by
  have := sg_no h
  have hs : sk tp n a ≤ n := sc_ub ha
  rw [this.1]
  exact ⟨by omega, hs⟩
theorem pth_f (ha : a ≤ n) : flt n (pthR tp n a B).1 := by
  unfold pthR
  split
  · rename_i q1
    have m1 := nm_ok ha q1
    have hs : sk tp n (nmR tp n a 0 ((vn B.1 : Int) - 1)).2 ≤ n := sc_ub m1.1
    split
    · split
      · exact fun _ => ⟨show 1 ≤ 2 ∧ 2 ≤ 3 by decide, hs⟩
      · exact nm_f m1.1
    · exact nm_f m1.1
  · exact nm_f ha
theorem cl_f {tm : Bool} (ha : a ≤ n) : flt n (clR tp n tm a B).1 := by
  have h1 : sk tp n a ≤ n := sc_ub ha
  have h2 : wd tp n (sk tp n a) ≤ n := sc_ub h1
  unfold clR
  split
  · exact fun _ => ⟨show 1 ≤ 1 ∧ 1 ≤ 3 by decide, h1⟩
  · split
    · exact fun _ => ⟨show 1 ≤ 3 ∧ 3 ≤ 3 by decide, h1⟩
    · split
      · exact pth_f h2
      · exact nm_f h2
theorem vl_B : ∀ f a B, a ≤ n → VBB B → ((vlR tp n f a B).1.1.1 = 0 → VBB (vlR tp n f a B).2) ∧ flt n (vlR tp n f a B).1
  | 0, a, B, _, bB => ⟨fun _ => bB, fun z => absurd rfl z⟩
  | f + 1, a, B, ha, bB => by
    rw [vlR]
    split
    · exact ⟨fun _ => bB, fun z => absurd rfl z⟩
    · split
      · rename_i q
        have cb := cl_b (tm := decide (f = 0)) ha bB q
        split
        · rename_i q2
          exact vl_B f _ _ (sg_ok cb.1 q2).1 cb.2
        · rename_i q2
          exact ⟨fun z => absurd z q2, sg_f cb.1⟩
      · rename_i q
        exact ⟨fun z => absurd z q, cl_f ha⟩
end Vl
