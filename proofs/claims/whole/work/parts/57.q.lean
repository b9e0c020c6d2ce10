/-! a question: what the class answers, what the reference answers, what stays -/
def oc (q : Nat × Int) : Option Value ⊕ Nat := if q.1 = 0 then .inl (some (iv q.2)) else .inr q.1
def xc (x : Nat) (q : Nat × Int) : Nat := if q.1 = 0 then x else x + 1
/-- a call refused is counted -/
def af (A : AT) (k : Nat) : AT := (A.1, A.2.1, A.2.2.1, A.2.2.2.1, A.2.2.2.2.1, A.2.2.2.2.2.1, A.2.2.2.2.2.2.1, aF A, aRs A, (if k = 1 then aR0 A + 1 else aR0 A), (if k = 2 then aR1 A + 1 else aR1 A))
theorem af_0 (A : AT) : af A 0 = A := rfl
theorem ABd_af {A : AT} (h : ABd A) (k : Nat) : ABd (af A k) := h
def QK (J : Nat → Nat → Int) (sw : Bool × Bool × Bool) (lg : Nat → Nat → Int64) (x : Nat) (A : AT) (q : Nat × Int) (o : Option Value ⊕ Nat) (M : mM) : Prop := ∃ z, o = oc q ∧ M = mj z sw lg (xc x q) ∧ GK z sw (af A q.1) ∧ ∀ c, 542 ≤ c → z c = J c
def QM (J : Nat → Nat → Int) (sw : Bool × Bool × Bool) (lg : Nat → Nat → Int64) (x : Nat) (A : AT) (q : Nat × Int) (cd : Nat → Int) (o : Option Value ⊕ Nat) (M : mM) : Prop := ∃ z : (Nat → Nat → Int) × Int, o = .inl (some (iv z.2)) ∧ M = mj z.1 sw lg x ∧ (q.1 = 0 → z.2 = q.2) ∧ z.1 542 0 = cd q.1 ∧ GM z.1 (af A q.1) ∧ ∀ c, c < 542 ∨ 573 ≤ c → z.1 c = J c
def cdB (k : Nat) : Int := k
def cdS (k : Nat) : Int := if k = 0 then 0 else 1
/-- the class's answer to a question -/
def AK (X : Nat × (Nat → Int32)) (d y : Nat) (As : List Value) (J : Nat → Nat → Int) (sw : Bool × Bool × Bool) (lg : Nat → Nat → Int64) (x : Nat) (A : AT) (q : Nat × Int) : Prop := ∃ z, EE X d y (.ref 0 :: As) (mj J sw lg x) (oc q) (mj z sw lg (xc x q)) ∧ GK z sw (af A q.1) ∧ ∀ c, 542 ≤ c → z c = J c
/-- the reference's -/
def AM (X : Nat × (Nat → Int32)) (d y : Nat) (As : List Value) (J : Nat → Nat → Int) (sw : Bool × Bool × Bool) (lg : Nat → Nat → Int64) (x : Nat) (A : AT) (q : Nat × Int) (cd : Nat → Int) : Prop := ∃ z : (Nat → Nat → Int) × Int, EE X d y (.ref 542 :: As) (mj J sw lg x) (.inl (some (iv z.2))) (mj z.1 sw lg x) ∧ (q.1 = 0 → z.2 = q.2) ∧ z.1 542 0 = cd q.1 ∧ GM z.1 (af A q.1) ∧ ∀ c, c < 542 ∨ 573 ≤ c → z.1 c = J c
section Qs
variable {X : Nat × (Nat → Int32)} {d y : Nat} {As : List Value} {J z : Nat → Nat → Int} {sw : Bool × Bool × Bool} {lg : Nat → Nat → Int64} {x : Nat} {A : AT} {q : Nat × Int} {r : Int} {mm : mMeth} {cd : Nat → Int}
theorem AK.of (hm : mP[y]? = some mm) (h : VV X d y (0, m_ent mm.2.2.1 (.ref 0 :: As), [], mj J sw lg x) (fun o M => QK J sw lg x A q o M)) : AK X d y As J sw lg x A q := EE.ex (O := fun _ => oc q) (F := fun z => mj z sw lg (xc x q)) hm h
theorem AM.of (hm : mP[y]? = some mm) (h : VV X d y (0, m_ent mm.2.2.1 (.ref 542 :: As), [], mj J sw lg x) (fun o M => QM J sw lg x A q cd o M)) : AM X d y As J sw lg x A q cd := EE.ex (O := fun z : (Nat → Nat → Int) × Int => .inl (some (iv z.2))) (F := fun z => mj z.1 sw lg x) hm h
theorem QK.ok (hG : GK J sw A) (bA : ABd A) (hf : FC J z) (hq : q = (0, r)) : QK J sw lg x A q (.inl (some (iv r))) (mj z sw lg x) := by
  subst hq
  exact ⟨z, rfl, rfl, by rw [af_0]; exact hG.fc bA hf, fun c hc => hf.1 c (by unfold scK; omega)⟩
theorem QK.ok' (hG : GK J sw A) (bA : ABd A) (hf : FC J z) {w : Int} (hq : q = (0, r)) (hw : w = r) : QK J sw lg x A q (.inl (some (iv w))) (mj z sw lg x) := by
  subst hw; exact QK.ok hG bA hf hq
theorem GK.r1 (hG : GK J sw A) (bA : ABd A) : GK (m_up J 0 17 (J 0 17 + 1)) sw (af A 1) := by
  have h1 := vA_or sw
  have h2 := lA_or sw
  have h3 := bA_or sw
  obtain ⟨g1, g2, g3, g4, g5, g6, g7, g8, g9, g10, g11⟩ := hG
  have b1 := bA.2.2.2.2.2.1.1
  have b2 := bA.2.2.2.2.2.2.1
  refine ⟨KV_cg g1 (fun c _ _ => up_r (by omega)), LK_cg g2 (up_r (by omega)) (up_r (by omega)), BC_fr g3 (fun k _ => up_na (by omega)) (up_r (by omega)) (up_r (by omega)), SV_fr g4 (fun c _ _ => up_r (by omega)), KP_cg b1 g5 (up_r (by omega)) (fun c _ _ => up_r (by omega)), KI_cg b2.1 (fun i hi => (b2.2 i hi).2.1) g6 (up_r (by omega)) (fun c _ _ => up_r (by omega)), KT_cg g7 (up_na (by omega)) (up_r (by omega)), ?_, ?_, ?_, ?_⟩
  · rw [up_nk (by decide)]; exact g8
  · rw [up_nk (by decide)]; exact g9
  · rw [up_eq, g10]; rfl
  · rw [up_nk (by decide)]; exact g11
theorem GK.r2 (hG : GK J sw A) (bA : ABd A) : GK (m_up J 0 18 (J 0 18 + 1)) sw (af A 2) := by
  have h1 := vA_or sw
  have h2 := lA_or sw
  have h3 := bA_or sw
  obtain ⟨g1, g2, g3, g4, g5, g6, g7, g8, g9, g10, g11⟩ := hG
  have b1 := bA.2.2.2.2.2.1.1
  have b2 := bA.2.2.2.2.2.2.1
  refine ⟨KV_cg g1 (fun c _ _ => up_r (by omega)), LK_cg g2 (up_r (by omega)) (up_r (by omega)), BC_fr g3 (fun k _ => up_na (by omega)) (up_r (by omega)) (up_r (by omega)), SV_fr g4 (fun c _ _ => up_r (by omega)), KP_cg b1 g5 (up_r (by omega)) (fun c _ _ => up_r (by omega)), KI_cg b2.1 (fun i hi => (b2.2 i hi).2.1) g6 (up_r (by omega)) (fun c _ _ => up_r (by omega)), KT_cg g7 (up_na (by omega)) (up_r (by omega)), ?_, ?_, ?_, ?_⟩
  · rw [up_nk (by decide)]; exact g8
  · rw [up_nk (by decide)]; exact g9
  · rw [up_nk (by decide)]; exact g10
  · rw [up_eq, g11]; rfl
theorem QK.r1 (hG : GK J sw A) (bA : ABd A) (hq : q = (1, 0)) : QK J sw lg x A q (.inr 1) (mj (m_up J 0 17 (J 0 17 + 1)) sw lg (x + 1)) := by
  subst hq
  exact ⟨_, rfl, rfl, hG.r1 bA, fun c hc => up_r (by omega)⟩
theorem QK.r2 (hG : GK J sw A) (bA : ABd A) (hq : q = (2, 0)) : QK J sw lg x A q (.inr 2) (mj (m_up J 0 18 (J 0 18 + 1)) sw lg (x + 1)) := by
  subst hq
  exact ⟨_, rfl, rfl, hG.r2 bA, fun c hc => up_r (by omega)⟩
theorem QM.ok (hG : GM J A) (hf : FQ J z) (h0 : z 542 0 = 0) (hc : cd 0 = 0) (hq : q = (0, r)) : QM J sw lg x A q cd (.inl (some (iv r))) (mj z sw lg x) := by
  subst hq
  exact ⟨(z, r), rfl, rfl, fun _ => rfl, h0.trans hc.symm, by rw [af_0]; exact hG.fq hf, fun c hc => hf.1 c (by unfold scM; omega) (by omega)⟩
theorem QM.ok' (hG : GM J A) (hf : FQ J z) (h0 : z 542 0 = 0) (hc : cd 0 = 0) {w : Int} (hq : q = (0, r)) (hw : w = r) : QM J sw lg x A q cd (.inl (some (iv w))) (mj z sw lg x) := by
  subst hw; exact QM.ok hG hf h0 hc hq
theorem GM.rfs (hG : GM J A) {t : Int} {k : Nat} (hk : k < 2) : GM (m_up (m_up (m_up J 542 0 0) 542 0 t) 543 k (J 543 k + 1)) (af A (k + 1)) := by
  have hq : FQ J (m_up (m_up J 542 0 0) 542 0 t) := FQ.up0.tr FQ.up0
  have h1 := hG.fq hq
  obtain ⟨g1, g2, g3, g4, g5, g6, g7, g8, g9, g10, g11⟩ := h1
  refine ⟨⟨VM_fr g1.1 (fun c hc => up_r (by omega)), fun p hp => by rw [up_na (by decide)]; exact g1.2 p hp⟩, LM_cf g2 (up_na (by decide)) (up_r (by decide)) (up_r (by decide)), BM_cg g3 (up_na (by decide)) (up_r (by decide)), MV_fr g4 (up_r (by decide)), ?_, ?_, ?_, ?_⟩
  · unfold MP; rw [up_r (show 563 ≠ 543 by decide), up_r (show 542 ≠ 543 by decide)]; exact g5
  · unfold MI; rw [up_r (show 572 ≠ 543 by decide), up_r (show 542 ≠ 543 by decide)]; exact g6
  · unfold MTp; rw [up_r (show 544 ≠ 543 by decide), up_r (show 542 ≠ 543 by decide)]; exact g7
  · have e0 : J 543 0 = aR0 A := by have := g10; rw [up_na (by decide), up_na (by decide)] at this; exact this
    have e1 : J 543 1 = aR1 A := by have := g11; rw [up_na (by decide), up_na (by decide)] at this; exact this
    refine ⟨by rw [up_na (by decide)]; exact g8, by rw [up_na (by decide)]; exact g9, ?_, ?_⟩
    · have : k = 0 ∨ k = 1 := by omega
      rcases this with rfl | rfl
      · rw [up_eq, e0]; rfl
      · rw [up_nk (by decide)]; exact g10
    · have : k = 0 ∨ k = 1 := by omega
      rcases this with rfl | rfl
      · rw [up_nk (by decide)]; exact g11
      · rw [up_eq, e1]; rfl
theorem QM.r1 (hG : GM J A) {t w : Int} (hq : q = (1, 0)) (ht : cd 1 = t) : QM J sw lg x A q cd (.inl (some (iv w))) (mj (m_up (m_up (m_up J 542 0 0) 542 0 t) 543 0 (J 543 0 + 1)) sw lg x) := by
  subst hq
  refine ⟨(_, w), rfl, rfl, fun h => absurd h (by decide), ?_, hG.rfs (k := 0) (by decide), fun c hc => ?_⟩
  · show m_up (m_up (m_up J 542 0 0) 542 0 t) 543 0 (J 543 0 + 1) 542 0 = cd 1
    rw [up_na (by decide), up_eq, ht]
  · show m_up (m_up (m_up J 542 0 0) 542 0 t) 543 0 (J 543 0 + 1) c = J c
    rw [up_r (by omega), up_r (by omega), up_r (by omega)]
theorem QM.r2 (hG : GM J A) {t w : Int} (hq : q = (2, 0)) (ht : cd 2 = t) : QM J sw lg x A q cd (.inl (some (iv w))) (mj (m_up (m_up (m_up J 542 0 0) 542 0 t) 543 1 (J 543 1 + 1)) sw lg x) := by
  subst hq
  refine ⟨(_, w), rfl, rfl, fun h => absurd h (by decide), ?_, hG.rfs (k := 1) (by decide), fun c hc => ?_⟩
  · show m_up (m_up (m_up J 542 0 0) 542 0 t) 543 1 (J 543 1 + 1) 542 0 = cd 2
    rw [up_na (by decide), up_eq, ht]
  · show m_up (m_up (m_up J 542 0 0) 542 0 t) 543 1 (J 543 1 + 1) c = J c
    rw [up_r (by omega), up_r (by omega), up_r (by omega)]
end Qs
