/-! all that an object holds, as one picture; of the class's cells, of the reference's -/
/-- village and wear as told; law; book; now; past; images; tape; fault, refused steps, refused calls -/
abbrev AT : Type := (VT × (Nat → Int)) × LT × (Nat × (Nat → Int)) × (Nat → Int) × (Nat × (Nat → Nat → Int)) × (Nat × (Nat → Nat → Int) × (Nat → Nat) × (Nat → Nat → Nat → Int)) × (Nat × (Nat → Int)) × (Int × Int × Int × Int)
def aV (A : AT) : VT := A.1.1
def aW (A : AT) : Nat → Int := A.1.2
def aT (A : AT) : LT := A.2.1
def aBn (A : AT) : Nat := A.2.2.1.1
def aBk (A : AT) : Nat → Int := A.2.2.1.2
def aS (A : AT) : Nat → Int := A.2.2.2.1
def aPn (A : AT) : Nat := A.2.2.2.2.1.1
def aPs (A : AT) : Nat → Nat → Int := A.2.2.2.2.1.2
def aIn (A : AT) : Nat := A.2.2.2.2.2.1.1
def aIs (A : AT) : Nat → Nat → Int := A.2.2.2.2.2.1.2.1
def aIw (A : AT) : Nat → Nat := A.2.2.2.2.2.1.2.2.1
def aIp (A : AT) : Nat → Nat → Nat → Int := A.2.2.2.2.2.1.2.2.2
def aTn (A : AT) : Nat := A.2.2.2.2.2.2.1.1
def aTp (A : AT) : Nat → Int := A.2.2.2.2.2.2.1.2
def aF (A : AT) : Int := A.2.2.2.2.2.2.2.1
def aRs (A : AT) : Int := A.2.2.2.2.2.2.2.2.1
def aR0 (A : AT) : Int := A.2.2.2.2.2.2.2.2.2.1
def aR1 (A : AT) : Int := A.2.2.2.2.2.2.2.2.2.2
/-- a state as it may be -/
def SOk (V : VT) (s : Nat → Int) : Prop := SBd (vn V) s ∧ (0 ≤ s 49 ∧ s 49 ≤ 600) ∧ ∀ k, vh V ≤ k → k < 6 → s (18 + k) = 0
def ABd (A : AT) : Prop := VBd (aV A) ∧ (∀ p, p < vn (aV A) → 0 ≤ aW A p ∧ aW A p ≤ 60) ∧ LWF (aT A) ∧ BBd (vn (aV A)) (aBn A) (aBk A) ∧ SOk (aV A) (aS A) ∧ (aPn A ≤ 16 ∧ ∀ i, i < aPn A → SOk (aV A) (aPs A i)) ∧ (aIn A ≤ 3 ∧ ∀ i, i < aIn A → SOk (aV A) (aIs A i) ∧ aIw A i ≤ 16 ∧ ∀ j, j < aIw A i → SOk (aV A) (aIp A i j)) ∧ (aTn A ≤ 600 ∧ ∀ k, 0 ≤ aTp A k ∧ aTp A k ≤ 255) ∧ (-1 ≤ aF A ∧ aF A ≤ 600) ∧ 0 ≤ aRs A ∧ aRs A ≤ 200
/-- the class's village -/
def KV (J : Nat → Nat → Int) (v : Nat) (V : VT) (w : Nat → Int) : Prop := VK J v V ∧ J v 3 = vp V ∧ (∀ p, p < vn V → J (v + 3) p = w p) ∧ ∀ i, i < vp V → J (v + 5) i = vg V (2 * i) ∧ J (v + 6) i = vg V (2 * i + 1)
def KP (J : Nat → Nat → Int) (o pn : Nat) (ps : Nat → Nat → Int) : Prop := J o 1 = (pn : Int) ∧ ∀ i, i < pn → SV J (o + 2 + 7 * i) (ps i)
def KI (J : Nat → Nat → Int) (n : Nat) (is : Nat → Nat → Int) (iw : Nat → Nat) (ip : Nat → Nat → Nat → Int) : Prop := J 170 2 = (n : Int) ∧ ∀ i, i < n → SV J (173 + 121 * i) (is i) ∧ KP J (180 + 121 * i) (iw i) (ip i)
def KT (J : Nat → Nat → Int) (n : Nat) (tp : Nat → Int) : Prop := J 1 1 = (n : Int) ∧ ∀ k, k < 600 → J 2 k = tp k
def KZ (J : Nat → Nat → Int) (f r q0 q1 : Int) : Prop := J 0 1 = f ∧ J 0 16 = r ∧ J 0 17 = q0 ∧ J 0 18 = q1
def GK (J : Nat → Nat → Int) (sw : Bool × Bool × Bool) (A : AT) : Prop := KV J (vA sw) (aV A) (aW A) ∧ LK J (lA sw) (aT A) ∧ BC J (bA sw) (vn (aV A)) (aBn A) (aBk A) ∧ SV J 41 (aS A) ∧ KP J 56 (aPn A) (aPs A) ∧ KI J (aIn A) (aIs A) (aIw A) (aIp A) ∧ KT J (aTn A) (aTp A) ∧ KZ J (aF A) (aRs A) (aR0 A) (aR1 A)
/-- the reference's -/
def MP (J : Nat → Nat → Int) (n : Nat) (ps : Nat → Nat → Int) : Prop := J 542 40 = (n : Int) ∧ ∀ i, i < n → ∀ k, k < 50 → J 563 (50 * i + k) = ps i k
def MI (J : Nat → Nat → Int) (n : Nat) (is : Nat → Nat → Int) (iw : Nat → Nat) (ip : Nat → Nat → Nat → Int) : Prop := J 542 59 = (n : Int) ∧ ∀ i, i < n → (∀ k, k < 50 → J 572 (851 * i + k) = is i k) ∧ (∀ j, j < iw i → ∀ k, k < 50 → J 572 (851 * i + 50 + (50 * j + k)) = ip i j k) ∧ J 572 (851 * i + 850) = (iw i : Nat)
def MTp (J : Nat → Nat → Int) (n : Nat) (tp : Nat → Int) : Prop := J 542 2 = (n : Int) ∧ ∀ k, k < 600 → J 544 k = tp k
def MZ (J : Nat → Nat → Int) (f r q0 q1 : Int) : Prop := J 542 8 = f ∧ J 542 41 = r ∧ J 543 0 = q0 ∧ J 543 1 = q1
def GM (J : Nat → Nat → Int) (A : AT) : Prop := (VM J (aV A) ∧ ∀ p, p < vn (aV A) → J 551 p = aW A p) ∧ LM J (aT A) ∧ BM J (aBn A) (aBk A) ∧ MV J 561 (aS A) ∧ MP J (aPn A) (aPs A) ∧ MI J (aIn A) (aIs A) (aIw A) (aIp A) ∧ MTp J (aTn A) (aTp A) ∧ MZ J (aF A) (aRs A) (aR0 A) (aR1 A)
theorem vA_or (sw : Bool × Bool × Bool) : vA sw = 3 ∨ vA sw = 10 := by unfold vA; split <;> simp
theorem lA_or (sw : Bool × Bool × Bool) : lA sw = 17 ∨ lA sw = 21 := by unfold lA; split <;> simp
theorem bA_or (sw : Bool × Bool × Bool) : bA sw = 25 ∨ bA sw = 30 := by unfold bA; split <;> simp
section Cg
variable {J J' : Nat → Nat → Int}
theorem KV_cg {v : Nat} {V : VT} {w : Nat → Int} (h : KV J v V w) (hf : ∀ c, v ≤ c → c ≤ v + 6 → J' c = J c) : KV J' v V w := by
  refine ⟨VK_cg h.1 hf, ?_, fun p hp => ?_, fun i hi => ⟨?_, ?_⟩⟩
  · rw [hf v (by omega) (by omega)]; exact h.2.1
  · rw [hf _ (by omega) (by omega)]; exact h.2.2.1 p hp
  · rw [hf _ (by omega) (by omega)]; exact (h.2.2.2 i hi).1
  · rw [hf _ (by omega) (by omega)]; exact (h.2.2.2 i hi).2
theorem KP_cg {o pn : Nat} {ps : Nat → Nat → Int} (hn : pn ≤ 16) (h : KP J o pn ps) (h0 : J' o = J o) (hf : ∀ c, o + 2 ≤ c → c < o + 114 → J' c = J c) : KP J' o pn ps :=
  ⟨by rw [h0]; exact h.1, fun i hi => SV_fr (h.2 i hi) (fun c q1 q2 => hf c (by omega) (by omega))⟩
theorem KI_cg {n : Nat} {is : Nat → Nat → Int} {iw : Nat → Nat} {ip : Nat → Nat → Nat → Int} (hn : n ≤ 3) (hw : ∀ i, i < n → iw i ≤ 16) (h : KI J n is iw ip) (h0 : J' 170 = J 170) (hf : ∀ c, 173 ≤ c → c < 536 → J' c = J c) : KI J' n is iw ip :=
  ⟨by rw [h0]; exact h.1, fun i hi => ⟨SV_fr (h.2 i hi).1 (fun c q1 q2 => hf c (by omega) (by omega)), KP_cg (hw i hi) (h.2 i hi).2 (hf _ (by omega) (by omega)) (fun c q1 q2 => hf c (by omega) (by omega))⟩⟩
theorem KT_cg {n : Nat} {tp : Nat → Int} (h : KT J n tp) (h1 : J' 1 1 = J 1 1) (h2 : J' 2 = J 2) : KT J' n tp := by
  unfold KT
  rw [h1, h2]
  exact h
theorem KZ_cg {f r q0 q1 : Int} (h : KZ J f r q0 q1) (h1 : J' 0 = J 0) : KZ J' f r q0 q1 := by
  unfold KZ
  rw [h1]
  exact h
theorem BC_fr {b n bn : Nat} {bk : Nat → Int} (h : BC J b n bn bk) (hk : ∀ k, k < 6 → J' b k = J b k) (h1 : J' (b + 1) = J (b + 1)) (h2 : J' (b + 2) = J (b + 2)) : BC J' b n bn bk := BC_cg h (hk 0 (by decide)) (hk 3 (by decide)) h1 h2
/-- the class's cells that questions use and leave as they like -/
def scK (c : Nat) : Prop := c = 19 ∨ c = 20 ∨ c = 23 ∨ c = 24 ∨ c = 25 ∨ c = 28 ∨ c = 29 ∨ c = 30 ∨ c = 33 ∨ c = 34 ∨ (48 ≤ c ∧ c ≤ 55) ∨ (536 ≤ c ∧ c ≤ 541)
def FC (J J' : Nat → Nat → Int) : Prop := (∀ c, ¬ scK c → J' c = J c) ∧ ∀ k, k < 6 → J' 25 k = J 25 k ∧ J' 30 k = J 30 k
theorem FC.rf : FC J J := ⟨fun _ _ => rfl, fun _ _ => ⟨rfl, rfl⟩⟩
theorem FC.tr {J'' : Nat → Nat → Int} (h1 : FC J J') (h2 : FC J' J'') : FC J J'' := ⟨fun c q => (h2.1 c q).trans (h1.1 c q), fun k hk => ⟨((h2.2 k hk).1).trans (h1.2 k hk).1, ((h2.2 k hk).2).trans (h1.2 k hk).2⟩⟩
theorem FC.of (h : ∀ c, ¬ scK c ∨ c = 25 ∨ c = 30 → J' c = J c) : FC J J' := ⟨fun c q => h c (Or.inl q), fun k _ => ⟨by rw [h 25 (by omega)], by rw [h 30 (by omega)]⟩⟩
theorem FC.fst (h : FSt 48 J J') : FC J J' := FC.of (fun c q => h c (by unfold scK at q; omega))
theorem FC.law {sw : Bool × Bool × Bool} (h : ∀ c, c ≠ lA sw + 2 → c ≠ lA sw + 3 → J' c = J c) : FC J J' := FC.of (fun c q => by
  have := lA_or sw
  unfold scK at q
  exact h c (by omega) (by omega))
theorem FC.fsl {sw : Bool × Bool × Bool} (h : FSL 48 (lA sw) J J') : FC J J' := FC.of (fun c q => by
  have := lA_or sw
  unfold scK at q
  exact h c (by omega) (by omega) (by omega))
theorem FC.fb {sw : Bool × Bool × Bool} (h : FB (bA sw) (lA sw) J J') : FC J J' := by
  have h1 := lA_or sw
  have h2 := bA_or sw
  refine ⟨fun c q => h.1 c (by unfold scK at q; omega) (by unfold scK at q; omega) (by unfold scK at q; omega) (by unfold scK at q; omega) (by unfold scK at q; omega), fun k hk => ?_⟩
  rcases h2 with z | z
  · refine ⟨?_, ?_⟩
    · have := h.2 k hk; rw [z] at this; exact this
    · rw [h.1 30 (by omega) (by omega) (by omega) (by omega) (by omega)]
  · refine ⟨?_, ?_⟩
    · rw [h.1 25 (by omega) (by omega) (by omega) (by omega) (by omega)]
    · have := h.2 k hk; rw [z] at this; exact this
theorem FC.up {a k : Nat} {w : Int} (ha : scK a) (hb : a ≠ 25 ∧ a ≠ 30) : FC J (m_up J a k w) := FC.of (fun c q => up_r (by
  intro z
  subst z
  rcases q with q | q
  · exact q ha
  · omega))
variable {sw : Bool × Bool × Bool} {A : AT}
/-- the same, of the class's cells alone -/
def FC0 (J J' : Nat → Nat → Int) : Prop := (∀ c, c < 542 → ¬ scK c → J' c = J c) ∧ ∀ k, k < 6 → J' 25 k = J 25 k ∧ J' 30 k = J 30 k
theorem GK.fc0 (h : GK J sw A) (bA' : ABd A) (hf : FC0 J J') : GK J' sw A := by
  have q1 := vA_or sw
  have q2 := lA_or sw
  have q3 := bA_or sw
  obtain ⟨h1, h2, h3, h4, h5, h6, h7, h8⟩ := h
  refine ⟨KV_cg h1 (fun c a b => hf.1 c (by omega) (by unfold scK; omega)), LK_cg h2 (hf.1 _ (by omega) (by unfold scK; omega)) (hf.1 _ (by omega) (by unfold scK; omega)), ?_, SV_fr h4 (fun c a b => hf.1 c (by omega) (by unfold scK; omega)), KP_cg bA'.2.2.2.2.2.1.1 h5 (hf.1 _ (by omega) (by unfold scK; omega)) (fun c a b => hf.1 c (by omega) (by unfold scK; omega)), KI_cg bA'.2.2.2.2.2.2.1.1 (fun i hi => (bA'.2.2.2.2.2.2.1.2 i hi).2.1) h6 (hf.1 _ (by omega) (by unfold scK; omega)) (fun c a b => hf.1 c (by omega) (by unfold scK; omega)), KT_cg h7 (by rw [hf.1 1 (by omega) (by unfold scK; omega)]) (hf.1 _ (by omega) (by unfold scK; omega)), KZ_cg h8 (hf.1 _ (by omega) (by unfold scK; omega))⟩
  refine BC_fr h3 (fun k hk => ?_) (hf.1 _ (by omega) (by unfold scK; omega)) (hf.1 _ (by omega) (by unfold scK; omega))
  have := hf.2 k hk
  rcases q3 with z | z <;> rw [z]
  · exact this.1
  · exact this.2
theorem GK.fc (h : GK J sw A) (bA' : ABd A) (hf : FC J J') : GK J' sw A := h.fc0 bA' ⟨fun c _ q => hf.1 c q, hf.2⟩
/-- nothing of the class has changed -/
theorem GK.cg (h : GK J sw A) (bA' : ABd A) (hf : ∀ c, c < 542 → J' c = J c) : GK J' sw A := h.fc0 bA' ⟨fun c q _ => hf c q, fun k _ => ⟨by rw [hf 25 (by decide)], by rw [hf 30 (by decide)]⟩⟩
/-- nothing of the reference has changed -/
theorem GM.cg (h : GM J A) (hf : ∀ c, 542 ≤ c → J' c = J c) : GM J' A := by
  unfold GM VM LM BM MV MP MI MTp MZ at *
  rw [hf 542 (by decide), hf 543 (by decide), hf 544 (by decide), hf 549 (by decide), hf 550 (by decide), hf 551 (by decide), hf 552 (by decide), hf 555 (by decide), hf 556 (by decide), hf 561 (by decide), hf 563 (by decide), hf 565 (by decide), hf 572 (by decide)]
  exact h
/-- the reference's cells that questions use and leave as they like -/
def scM (c : Nat) : Prop := c = 557 ∨ c = 558 ∨ c = 562 ∨ (566 ≤ c ∧ c ≤ 571)
def FQ (J J' : Nat → Nat → Int) : Prop := (∀ c, ¬ scM c → c ≠ 542 → J' c = J c) ∧ ∀ k, k ≠ 0 → k ≠ 57 → J' 542 k = J 542 k
theorem FQ.rf : FQ J J := ⟨fun _ _ _ => rfl, fun _ _ _ => rfl⟩
theorem FQ.tr {J'' : Nat → Nat → Int} (h1 : FQ J J') (h2 : FQ J' J'') : FQ J J'' := ⟨fun c q1 q2 => (h2.1 c q1 q2).trans (h1.1 c q1 q2), fun k q1 q2 => (h2.2 k q1 q2).trans (h1.2 k q1 q2)⟩
theorem FQ.of (h : ∀ c, ¬ scM c → J' c = J c) : FQ J J' := ⟨fun c q _ => h c q, fun k _ _ => by rw [h 542 (by unfold scM; omega)]⟩
theorem FQ.up0 {w : Int} : FQ J (m_up J 542 0 w) := ⟨fun c _ q => up_r q, fun k q _ => up_nk q⟩
theorem FQ.up57 {w : Int} : FQ J (m_up J 542 57 w) := ⟨fun c _ q => up_r q, fun k _ q => up_nk q⟩
theorem FQ.fm (h : FM J J') : FQ J J' := FQ.of (fun c q => h c (by unfold scM at q; omega))
theorem FQ.fml (h : FML J J') : FQ J J' := FQ.of (fun c q => by unfold scM at q; exact h c (by omega) (by omega) (by omega))
theorem FQ.up {a k : Nat} {w : Int} (ha : scM a) : FQ J (m_up J a k w) := FQ.of (fun c q => up_r (by intro z; subst z; exact q ha))
theorem VM_q {V : VT} (h : VM J V) (hf : FQ J J') : VM J' V := by
  obtain ⟨k1, k2, k3, k4, k5, k6, k7, k8⟩ := h
  refine ⟨?_, ?_, ?_, ?_, ?_, fun k hk => ?_, fun k hk => ?_, fun k hk => ?_⟩
  · rw [hf.2 24 (by decide) (by decide)]; exact k1
  · rw [hf.2 25 (by decide) (by decide)]; exact k2
  · rw [hf.2 26 (by decide) (by decide)]; exact k3
  · rw [hf.2 27 (by decide) (by decide)]; exact k4
  · rw [hf.2 28 (by decide) (by decide)]; exact k5
  · rw [hf.1 549 (by unfold scM; omega) (by decide)]; exact k6 k hk
  · rw [hf.1 550 (by unfold scM; omega) (by decide)]; exact k7 k hk
  · rw [hf.1 552 (by unfold scM; omega) (by decide)]; exact k8 k hk
theorem LM_q {T : LT} (h : LM J T) (hf : FQ J J') : LM J' T := LM_cf h (hf.2 35 (by decide) (by decide)) (hf.1 555 (by unfold scM; omega) (by decide)) (hf.1 556 (by unfold scM; omega) (by decide))
theorem BM_q {bn : Nat} {bk : Nat → Int} (h : BM J bn bk) (hf : FQ J J') : BM J' bn bk := BM_cg h (hf.2 50 (by decide) (by decide)) (hf.1 565 (by unfold scM; omega) (by decide))
theorem GM.fq (h : GM J A) (hf : FQ J J') : GM J' A := by
  obtain ⟨h1, h2, h3, h4, h5, h6, h7, h8⟩ := h
  refine ⟨⟨VM_q h1.1 hf, fun p hp => by rw [hf.1 551 (by unfold scM; omega) (by decide)]; exact h1.2 p hp⟩, LM_q h2 hf, BM_q h3 hf, MV_fr h4 (hf.1 561 (by unfold scM; omega) (by decide)), ?_, ?_, ?_, ?_⟩
  · unfold MP; rw [hf.1 563 (by unfold scM; omega) (by decide), hf.2 40 (by decide) (by decide)]; exact h5
  · unfold MI; rw [hf.1 572 (by unfold scM; omega) (by decide), hf.2 59 (by decide) (by decide)]; exact h6
  · unfold MTp; rw [hf.1 544 (by unfold scM; omega) (by decide), hf.2 2 (by decide) (by decide)]; exact h7
  · unfold MZ; rw [hf.1 543 (by unfold scM; omega) (by decide), hf.2 8 (by decide) (by decide), hf.2 41 (by decide) (by decide)]; exact h8
end Cg
