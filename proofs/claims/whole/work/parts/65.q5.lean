/-! fits, look, two at one ridge, wool shared -/
section Q5
variable {X : Nat × (Nat → Int32)} {J : Nat → Nat → Int} {sw : Bool × Bool × Bool} {lg : Nat → Nat → Int64} {x : Nat} {A : AT} {u w t : Int}
def fitsQ (A : AT) (w : Int) : Nat × Int := if w < 0 ∨ 1 < w then (2, 0) else (0, if w = 0 then (cntF (prA (aV A) (aT A) (aS A) (aBk A)) 36 : Nat) else cvP (ffF (prA (aV A) (aT A) (aS A) (aBk A)) 36))
theorem GK.cf (hG : GK J sw A) : CF J 41 (bA sw) (vA sw) (lA sw) (aV A) (aT A) (aS A) (aBn A) (aBk A) := ⟨hG.1.1, hG.2.1, hG.2.2.2.1, hG.2.2.1⟩
theorem kq_fits (hG : GK J sw A) (bA' : ABd A) (hw : InR w) : AK X 6 132 [iv w] J sw lg x A (fitsQ A w) := by
  refine AK.of mt_132 (b_132_0 (by omega) ⟨hw, fun c => QK.r2 hG bA' (if_pos (by omega)), fun c1 => ⟨fun c2 => ?_, fun c => QK.r2 hG bA' (if_pos (by omega))⟩⟩)
  refine ex0 (e_4 (cbA sw) c_41 (cvA sw) (clA sw) hG.cf bA'.1 bA'.2.2.1 (SOk.b bA') (SOk.d bA') bA'.2.2.2.1) (fun J1 h1 => ⟨fun c3 => ⟨_, J1, e_6 (cbA sw) h1.1.2, QK.ok hG bA' (FC.fb h1.2) ?_⟩, fun c3 => QK.ok' hG bA' (FC.fb h1.2) ?_ h1.1.1⟩)
  · unfold fitsQ; rw [if_neg (by omega), if_neg c3]
  · unfold fitsQ; rw [if_neg (by omega), if_pos c3]
theorem GM.mf {s : Nat → Int} (hG : GM J A) (hS : MV J 562 s) : MF J (aV A) (aT A) s (aBn A) (aBk A) := ⟨hG.1.1, hG.2.1, hS, hG.2.2.1⟩
theorem rq_fits (hG : GM J A) (bA' : ABd A) (hw : InR w) : AM X 7 253 [iv w] J sw lg x A (fitsQ A w) cdS := by
  have v1 := bA'.1.1
  have v2 := bA'.1.2.1
  refine AM.of mt_253 (b_253_0 (by omega) ⟨hw, fun c => QM.r2 hG (if_pos (by omega)) rfl, fun c1 => ⟨fun c => QM.r2 hG (if_pos (by omega)) rfl, fun c2 => ?_⟩⟩)
  refine takeM hG (fun J0 hS0 hf0 h00 hG0 => ?_)
  have hM0 := hG0.mf hS0
  have cb := fun k => cntF_le (prA (aV A) (aT A) (aS A) (aBk A)) k
  have key := lp (P := fun k => ∀ (J' : Nat → Nat → Int) (f : Int) (o5 : Option Value), f = cvP (ffF (prA (aV A) (aT A) (aS A) (aBk A)) (6 * k)) → (∀ c, c ≠ 557 → c ≠ 558 → J' c = J0 c) → VV X 7 253 (33, [some (.ref 542), some (iv w), some (iv (cntF (prA (aV A) (aT A) (aS A) (aBk A)) (6 * k) : Nat)), some (iv f), some (iv k), o5], [], mj J' sw lg x) (fun o M => QM J sw lg x A (fitsQ A w) cdS o M)) (vh (aV A)) ?_ ?_ 0 (Nat.zero_le _)
  · exact key J0 _ _ rfl (fun _ _ _ => rfl)
  · intro J' f o5 hf1 hf
    have hM := hM0.fr (fun c q1 q2 _ => hf c q1 q2)
    have hq : FQ J J' := hf0.tr (FQ.of (fun c q => by unfold scM at q; exact hf c (by omega) (by omega)))
    have h0 : J' 542 0 = 0 := by rw [hf 542 (by decide) (by decide)]; exact h00
    have sk := cntF_skip (P := prA (aV A) (aT A) (aS A) (aBk A)) (k := 6 * vh (aV A)) (36 - 6 * vh (aV A)) (fun i q1 q2 => by unfold prA; rw [decide_eq_false (by omega), Bool.false_and])
    rw [show 6 * vh (aV A) + (36 - 6 * vh (aV A)) = 36 by omega] at sk
    refine b_253_33 (by omega) ?_
    rw [hM.1.2.1]
    refine ⟨by omega, by omega, fun _ => ⟨hw, fun c3 => ?_, fun c3 => ?_⟩, fun c => by omega⟩
    · exact QM.ok' (cd := cdS) hG hq h0 rfl (show fitsQ A w = (0, cvP (ffF (prA (aV A) (aT A) (aS A) (aBk A)) 36)) by unfold fitsQ; rw [if_neg (by omega), if_neg c3]) (by rw [sk.2]; exact hf1)
    · exact QM.ok' (cd := cdS) hG hq h0 rfl (show fitsQ A w = (0, ((cntF (prA (aV A) (aT A) (aS A) (aBk A)) 36 : Nat) : Int)) by unfold fitsQ; rw [if_neg (by omega), if_pos c3]) (by rw [sk.1])
  · intro k hk ih J' f o5 hf1 hf
    have hM := hM0.fr (fun c q1 q2 _ => hf c q1 q2)
    refine b_253_33 (by omega) ?_
    rw [hM.1.2.1]
    refine ⟨by omega, by omega, fun c => by omega, fun _ => ?_⟩
    refine lp (P := fun i => ∀ (J' : Nat → Nat → Int) (f : Int), f = cvP (ffF (prA (aV A) (aT A) (aS A) (aBk A)) (6 * k + i)) → (∀ c, c ≠ 557 → c ≠ 558 → J' c = J0 c) → VV X 7 253 (45, [some (.ref 542), some (iv w), some (iv (cntF (prA (aV A) (aT A) (aS A) (aBk A)) (6 * k + i) : Nat)), some (iv f), some (iv k), some (iv i)], [], mj J' sw lg x) (fun o M => QM J sw lg x A (fitsQ A w) cdS o M)) (ve (aV A)) ?_ ?_ 0 (Nat.zero_le _) J' f hf1 hf
    · intro J' f hf1 hf
      have hM := hM0.fr (fun c q1 q2 _ => hf c q1 q2)
      have sk := cntF_skip (P := prA (aV A) (aT A) (aS A) (aBk A)) (k := 6 * k + ve (aV A)) (6 - ve (aV A)) (fun i q1 q2 => by
        obtain ⟨j, rfl⟩ : ∃ j, i = 6 * k + j := ⟨i - 6 * k, by omega⟩
        exact pr_n (by omega) (by omega))
      rw [show 6 * k + ve (aV A) + (6 - ve (aV A)) = 6 * (k + 1) by omega] at sk
      refine b_253_45 (by omega) ?_
      rw [hM.1.1]
      refine ⟨by omega, by omega, fun _ => ?_, fun c => by omega⟩
      have := ih J' f (some (iv (ve (aV A) : Int))) (by rw [sk.2]; exact hf1) hf
      rw [sk.1] at this
      exact this
    · intro i hi ih2 J' f hf1 hf
      have hM := hM0.fr (fun c q1 q2 _ => hf c q1 q2)
      have hp := pr_y (V := aV A) (T := aT A) (s := aS A) (bk := aBk A) (h := k) (e := i) (by omega) hk hi
      have fb := ffF_b (prA (aV A) (aT A) (aS A) (aBk A)) (6 * k + i)
      have fr : InR f ∧ (f = -1 ↔ ffF (prA (aV A) (aT A) (aS A) (aBk A)) (6 * k + i) = -1) := by
        rw [hf1]; unfold cvP; split
        · rename_i z; exact ⟨by decide, fun _ => z, fun _ => rfl⟩
        · exact ⟨by omega, by omega⟩
      refine b_253_45 (by omega) ?_
      rw [hM.1.1]
      refine ⟨by omega, by omega, fun c => by omega, fun _ => ex1 (e_252 hM bA'.1 bA'.2.2.1 (SOk.b bA') (SOk.d bA') bA'.2.2.2.1 hk hi) (fun J1 hf2 => ?_)⟩
      have hf3 : ∀ c, c ≠ 557 → c ≠ 558 → J1 c = J0 c := fun c q1 q2 => (hf2 c q1 q2).trans (hf c q1 q2)
      cases hq : fitA (aV A) (aT A) (aS A) (aBk A) k i
      · rw [hq] at hp
        refine ⟨by decide, fun c => absurd rfl c, fun _ => ?_⟩
        have := ih2 J1 f (by show _ = cvP (ffF _ (6 * k + i + 1)); rw [ffF, hp, if_neg (by intro z; exact absurd z.2 (by decide))]; exact hf1) hf3
        rw [show 6 * k + (i + 1) = 6 * k + i + 1 from rfl, cntF, hp, if_neg (by decide)] at this
        exact this
      · rw [hq] at hp
        refine ⟨by decide, fun _ => ⟨fr.1, fun c => ?_, fun c => ?_⟩, fun c => absurd c (by decide)⟩
        · have := ih2 J1 f (by show _ = cvP (ffF _ (6 * k + i + 1)); rw [ffF, if_neg (fun z => c (fr.2.mpr z.1))]; exact hf1) hf3
          rw [show 6 * k + (i + 1) = 6 * k + i + 1 from rfl, cntF, hp, if_pos rfl] at this
          exact this
        · have := ih2 J1 (10 * (k : Int) + i) (by
            show _ = cvP (ffF _ (6 * k + i + 1))
            rw [ffF, if_pos ⟨fr.2.mp c, hp⟩, cvP, if_neg (by omega)]
            omega) hf3
          rw [show 6 * k + (i + 1) = 6 * k + i + 1 from rfl, cntF, hp, if_pos rfl] at this
          exact this
def lookQ (A : AT) (w : Int) : Nat × Int := if w < 0 ∨ 1 < w then (2, 0) else (0, if w = 0 then (lkF (aV A) (aT A) (aS A) (aBk A) (vn (aV A))).1 else (lkF (aV A) (aT A) (aS A) (aBk A) (vn (aV A))).2)
theorem kq_look (hG : GK J sw A) (bA' : ABd A) (hw : InR w) : AK X 6 133 [iv w] J sw lg x A (lookQ A w) := by
  refine AK.of mt_133 (b_133_0 (by omega) ⟨hw, fun c => QK.r2 hG bA' (if_pos (by omega)), fun c1 => ⟨fun c2 => ?_, fun c => QK.r2 hG bA' (if_pos (by omega))⟩⟩)
  refine ex0 (e_4 (cbA sw) c_41 (cvA sw) (clA sw) hG.cf bA'.1 bA'.2.2.1 (SOk.b bA') (SOk.d bA') bA'.2.2.2.1) (fun J1 h1 => ?_)
  refine ex0 (e_7 (cbA sw) c_41 (cvA sw) (clA sw) (hG.cf.fr (cbA sw) c_41 (cvA sw) (clA sw) h1.2) bA'.1 bA'.2.2.1 (SOk.b bA') (SOk.d bA') h1.1.2) (fun J2 h2 => ⟨fun c3 => QK.ok' hG bA' (FC.fb (h1.2.tr h2.2)) ?_ h2.1.2, fun c3 => QK.ok' hG bA' (FC.fb (h1.2.tr h2.2)) ?_ h2.1.1⟩)
  · unfold lookQ; rw [if_neg (by omega), if_neg c3]
  · unfold lookQ; rw [if_neg (by omega), if_pos c3]
theorem rq_look (hG : GM J A) (bA' : ABd A) (hw : InR w) : AM X 8 255 [iv w] J sw lg x A (lookQ A w) cdS := by
  have v3 := bA'.1.2.2.1
  refine AM.of mt_255 (b_255_0 (by omega) ⟨hw, fun c => QM.r2 hG (if_pos (by omega)) rfl, fun c1 => ⟨fun c => QM.r2 hG (if_pos (by omega)) rfl, fun c2 => ?_⟩⟩)
  refine takeM hG (fun J0 hS0 hf0 h00 hG0 => ?_)
  have hM0 := hG0.mf hS0
  refine lp (P := fun k => ∀ (J' : Nat → Nat → Int) (o5 : Option Value), (∀ c, c ≠ 557 → c ≠ 558 → c ≠ 571 → J' c = J0 c) → VV X 8 255 (33, [some (.ref 542), some (iv w), some (iv (lkF (aV A) (aT A) (aS A) (aBk A) k).1), some (iv (lkF (aV A) (aT A) (aS A) (aBk A) k).2), some (iv k), o5], [], mj J' sw lg x) (fun o M => QM J sw lg x A (lookQ A w) cdS o M)) (vn (aV A)) ?_ ?_ 0 (Nat.zero_le _) J0 _ (fun _ _ _ _ => rfl)
  · intro J' o5 hf
    have hM := hM0.fr hf
    have hq : FQ J J' := hf0.tr (FQ.of (fun c q => by unfold scM at q; exact hf c (by omega) (by omega) (by omega)))
    have h0 : J' 542 0 = 0 := by rw [hf 542 (by decide) (by decide) (by decide)]; exact h00
    refine b_255_33 (by omega) ?_
    rw [hM.1.2.2.1]
    refine ⟨by omega, by omega, fun _ => ⟨hw, fun c3 => QM.ok hG hq h0 rfl ?_, fun c3 => QM.ok hG hq h0 rfl ?_⟩, fun c => by omega⟩
    · unfold lookQ; rw [if_neg (by omega), if_neg c3]
    · unfold lookQ; rw [if_neg (by omega), if_pos c3]
  · intro k hk ih J' o5 hf
    have hM := hM0.fr hf
    have lb := lkF_b (aV A) (aT A) (aS A) (aBk A) k
    have mb : 0 ≤ lwA (aV A) (aT A) (aS A) (aBk A) k ∧ lwA (aV A) (aT A) (aS A) (aBk A) k ≤ 36 := moF_b (prA (aV A) (aT A) (aS A) (aBk A)) (fun i => leftA (aV A) (aT A) (aS A) (i / 6) (i % 6) k) 36
    have e5 : J' 565 (k : Int).toNat = aBk A k := hM.2.2.2.2 k (by omega)
    have bb := bA'.2.2.2.1.2.1 k
    refine b_255_33 (by omega) ?_
    rw [hM.1.2.2.1, e5]
    refine ⟨by omega, by omega, fun c => by omega, fun _ => ⟨by omega, by omega, fun c => ?_, fun c => ?_⟩⟩
    · refine ex1 (e_254 hM bA'.1 bA'.2.2.1 (SOk.b bA') (SOk.d bA') bA'.2.2.2.1 hk) (fun J1 hf1 => ?_)
      have hf2 : ∀ c, c ≠ 557 → c ≠ 558 → c ≠ 571 → J1 c = J0 c := fun c q1 q2 q3 => (hf1 c q1 q2 q3).trans (hf c q1 q2 q3)
      have nxt := ih J1 (some (iv (lwA (aV A) (aT A) (aS A) (aBk A) k))) hf2
      refine ⟨by omega, fun c3 => ?_, fun c3 => ⟨by omega, by omega, fun c4 => ?_, fun c4 => ?_⟩⟩
      · rw [lkF, if_pos ⟨c, Or.inl c3⟩] at nxt; exact nxt
      · rw [lkF, if_pos ⟨c, Or.inr c4⟩] at nxt; exact nxt
      · rw [lkF, if_neg (by intro z; rcases z.2 with q | q; exact c3 q; omega)] at nxt; exact nxt
    · have nxt := ih J' o5 hf
      rw [lkF, if_neg (fun z => c z.1)] at nxt; exact nxt
/-- two at one ridge -/
def hsA (v w a b : Int) : Int := if a = 0 then (if b = 0 then -w else w) else if b = 0 then v / 2 else v
theorem hsA_b {v w a b : Int} (hv : 0 ≤ v ∧ v ≤ 99) (hw : 0 ≤ w ∧ w ≤ 99) : -99 ≤ hsA v w a b ∧ hsA v w a b ≤ 99 := by
  unfold hsA
  split <;> split <;> omega
theorem e_156 {v w a b : Int} (hv : 0 ≤ v ∧ v ≤ 99) (ha : InR a) (hb : InR b) : EE X 0 156 [iv v, iv w, iv a, iv b] (mj J sw lg x) (.inl (some (iv (hsA v w a b)))) (mj J sw lg x) := by
  refine EE.of mt_156 (b_156_0 ⟨ha, fun c => ⟨hb, fun c2 => ⟨?_, rfl⟩, fun c2 => ⟨?_, rfl⟩⟩, fun c => ⟨hb, fun c2 => ⟨?_, rfl⟩, fun c2 => ⟨?_, rfl⟩⟩⟩)
  · unfold hsA; rw [if_neg c, if_neg c2]
  · unfold hsA; rw [if_neg c, if_pos c2, q_divI (by omega) (by omega) (by decide) (by decide)]
  · unfold hsA; rw [if_pos c, if_neg c2]
  · unfold hsA; rw [if_pos c, if_pos c2]
theorem e_258 {v w a b : Int} (hv : 0 ≤ v ∧ v ≤ 99) (ha : a = 0 ∨ a = 1) (hb : b = 0 ∨ b = 1) : EE X 0 258 [iv a, iv b, iv v, iv w] (mj J sw lg x) (.inl (some (iv (hsA v w a b)))) (mj J sw lg x) := by
  refine EE.of mt_258 (b_258_0 ⟨by omega, by omega, fun c => ⟨fun c2 => ⟨?_, rfl⟩, fun c2 => ⟨?_, rfl⟩⟩, fun c => ⟨fun c2 => ⟨?_, rfl⟩, fun c2 => ⟨?_, rfl⟩⟩⟩)
  · unfold hsA; rw [if_neg c2, if_pos (by omega), q_divI (by omega) (by omega) (by decide) (by decide)]
  · unfold hsA; rw [if_pos c2, if_neg (by omega)]
  · unfold hsA; rw [if_neg c2, if_neg (by omega)]
  · unfold hsA; rw [if_pos c2, if_pos (by omega)]
def rtA (v w : Int) (k : Nat) : Bool := decide (hsA v w (1 - (k : Int) / 2) ((k : Int) % 2) ≤ hsA v w ((k : Int) / 2) ((k : Int) % 2) ∧ hsA v w (1 - (k : Int) % 2) ((k : Int) / 2) ≤ hsA v w ((k : Int) % 2) ((k : Int) / 2))
def cvR (r : Int) : Int := if r = -1 then -1 else 10 * (r / 2) + r % 2
def tgR (v w r : Int) : Int := if r = -1 then 0 else hsA v w (r / 2) (r % 2) + hsA v w (r % 2) (r / 2)
def ridgeQ (v w t : Int) : Nat × Int := if (v < 0 ∨ 99 < v) ∨ (w < 0 ∨ 99 < w) ∨ t < 0 ∨ 2 < t then (2, 0) else (0, if t = 0 then (cntF (rtA v w) 4 : Nat) else if t = 1 then cvR (ffF (rtA v w) 4) else tgR v w (ffF (rtA v w) 4))
theorem cnt_ff {P : Nat → Bool} : ∀ k, cntF P k = 0 ↔ ffF P k = -1
  | 0 => ⟨fun _ => rfl, fun _ => rfl⟩
  | k + 1 => by
    have ih := cnt_ff (P := P) k
    unfold cntF ffF
    cases h : P k
    · simp [ih]
    · by_cases q : ffF P k = -1
      · simp [q]
      · simp [q]
theorem kq_ridge (hG : GK J sw A) (bA' : ABd A) (hu : InR u) (hw : InR w) (ht : InR t) : AK X 2 135 [iv u, iv w, iv t] J sw lg x A (ridgeQ u w t) := by
  refine AK.of mt_135 (b_135_0 (by omega) ⟨hu, fun c => QK.r2 hG bA' (if_pos (by omega)), fun c1 => ⟨fun c2 => ⟨hw, fun c => QK.r2 hG bA' (if_pos (by omega)), fun c3 => ⟨fun c4 => ⟨ht, fun c => QK.r2 hG bA' (if_pos (by omega)), fun c5 => ⟨fun c6 => ?_, fun c => QK.r2 hG bA' (if_pos (by omega))⟩⟩, fun c => QK.r2 hG bA' (if_pos (by omega))⟩⟩, fun c => QK.r2 hG bA' (if_pos (by omega))⟩⟩)
  have hb := fun a b => hsA_b (v := u) (w := w) (a := a) (b := b) ⟨c1, c2⟩ ⟨c3, c4⟩
  have key := lp (P := fun k => ∀ (f g : Int) (o8 o9 : Option Value), f = cvR (ffF (rtA u w) k) → g = tgR u w (ffF (rtA u w) k) → VV X 2 135 (35, [some (.ref 0), some (iv u), some (iv w), some (iv t), some (iv (cntF (rtA u w) k : Nat)), some (iv f), some (iv g), some (iv k), o8, o9], [], mj J sw lg x) (fun o M => QK J sw lg x A (ridgeQ u w t) o M)) 4 ?_ ?_ 0 (Nat.zero_le _)
  · exact key _ _ _ _ rfl rfl
  · intro f g o8 o9 hf hg
    refine b_135_35 (by omega) ⟨by decide, fun _ => ⟨ht, fun n0 => ⟨fun n1 => ?_, fun c => ?_⟩, fun c => ?_⟩, fun c => absurd c (by decide)⟩
    · exact QK.ok' hG bA' FC.rf (by unfold ridgeQ; rw [if_neg (by omega), if_neg n0, if_neg n1]) hg
    · exact QK.ok' hG bA' FC.rf (by unfold ridgeQ; rw [if_neg (by omega), if_neg n0, if_pos c]) hf
    · exact QK.ok hG bA' FC.rf (by unfold ridgeQ; rw [if_neg (by omega), if_pos c])
  · intro k hk ih f g o8 o9 hf hg
    have d1 : bDiv (k : Int) 2 = (k : Int) / 2 := q_divI (by omega) (by omega) (by decide) (by decide)
    have d2 : bRem (k : Int) 2 = (k : Int) % 2 := q_remI (by omega) (by omega) (by decide) (by decide)
    have cl := cntF_le (rtA u w) k
    refine b_135_35 (by omega) ⟨by omega, fun c => by omega, fun _ => ?_⟩
    rw [d1, d2]
    have h155 : EE X 1 155 [iv u, iv w, iv ((k : Int) / 2), iv ((k : Int) % 2)] (mj J sw lg x) (.inl (some (iv (bI (rtA u w k))))) (mj J sw lg x) := by
      refine EE.of mt_155 (b_155_0 (by omega) ⟨_, J, e_156 ⟨c1, c2⟩ (by omega) (by omega), _, J, e_156 ⟨c1, c2⟩ (by omega) (by omega), ?_⟩)
      have h1 := hb ((k : Int) / 2) ((k : Int) % 2)
      have h2 := hb (1 - (k : Int) / 2) ((k : Int) % 2)
      have h3 := hb ((k : Int) % 2) ((k : Int) / 2)
      have h4 := hb (1 - (k : Int) % 2) ((k : Int) / 2)
      refine ⟨by omega, by omega, fun c => ⟨?_, rfl⟩, fun c => ⟨_, J, e_156 ⟨c1, c2⟩ (by omega) (by omega), _, J, e_156 ⟨c1, c2⟩ (by omega) (by omega), by omega, by omega, fun c' => ⟨?_, rfl⟩, fun c' => ⟨?_, rfl⟩⟩⟩
      · unfold rtA; rw [decide_eq_false (by omega)]; rfl
      · unfold rtA; rw [decide_eq_false (by omega)]; rfl
      · unfold rtA; rw [decide_eq_true ⟨c, c'⟩]; rfl
    refine ⟨_, J, h155, ?_⟩
    cases hq : rtA u w k
    · refine ⟨by decide, fun _ => ?_, fun c => absurd rfl c⟩
      have := ih f g (some (iv ((k : Int) / 2))) (some (iv ((k : Int) % 2))) (by rw [ffF, hq, if_neg (by intro z; exact absurd z.2 (by decide))]; exact hf) (by rw [ffF, hq, if_neg (by intro z; exact absurd z.2 (by decide))]; exact hg)
      rw [cntF, hq, if_neg (by decide)] at this
      exact this
    · refine ⟨by decide, fun c => absurd c (by decide), fun _ => ⟨by omega, fun c => ?_, fun c => ⟨_, J, e_156 ⟨c1, c2⟩ (by omega) (by omega), _, J, e_156 ⟨c1, c2⟩ (by omega) (by omega), ?_⟩⟩⟩
      · have hn : ¬ ffF (rtA u w) k = -1 := fun z => by have := (cnt_ff k).mpr z; omega
        have := ih f g (some (iv ((k : Int) / 2))) (some (iv ((k : Int) % 2))) (by rw [ffF, if_neg (fun z => hn z.1)]; exact hf) (by rw [ffF, if_neg (fun z => hn z.1)]; exact hg)
        rw [cntF, hq, if_pos rfl] at this
        exact this
      · have hn : ffF (rtA u w) k = -1 := (cnt_ff k).mp (by omega)
        have := ih (10 * ((k : Int) / 2) + (k : Int) % 2) (hsA u w ((k : Int) / 2) ((k : Int) % 2) + hsA u w ((k : Int) % 2) ((k : Int) / 2)) (some (iv ((k : Int) / 2))) (some (iv ((k : Int) % 2))) (by rw [ffF, if_pos ⟨hn, hq⟩, cvR, if_neg (by omega)]) (by rw [ffF, if_pos ⟨hn, hq⟩, tgR, if_neg (by omega)])
        rw [cntF, hq, if_pos rfl] at this
        exact this
theorem rq_ridge (hG : GM J A) (hu : InR u) (hw : InR w) (ht : InR t) : AM X 1 259 [iv u, iv w, iv t] J sw lg x A (ridgeQ u w t) cdS := by
  refine AM.of mt_259 (b_259_0 (by omega) ⟨hu, fun c => QM.r2 hG (if_pos (by omega)) rfl, fun c1 => ⟨fun c => QM.r2 hG (if_pos (by omega)) rfl, fun c2 => ⟨hw, fun c => QM.r2 hG (if_pos (by omega)) rfl, fun c3 => ⟨fun c => QM.r2 hG (if_pos (by omega)) rfl, fun c4 => ⟨ht, fun c => QM.r2 hG (if_pos (by omega)) rfl, fun c5 => ⟨fun c => QM.r2 hG (if_pos (by omega)) rfl, fun c6 => ?_⟩⟩⟩⟩⟩⟩)
  have h0 : m_up J 542 0 0 542 0 = 0 := up_eq _ _ _ _
  have hb := fun a b => hsA_b (v := u) (w := w) (a := a) (b := b) ⟨c1, c2⟩ ⟨c3, c4⟩
  have key := lp (P := fun k => ∀ (f : Int) (o7 o8 : Option Value), f = cvR (ffF (rtA u w) k) → VV X 1 259 (59, [some (.ref 542), some (iv u), some (iv w), some (iv t), some (iv (cntF (rtA u w) k : Nat)), some (iv f), some (iv k), o7, o8], [], mj (m_up J 542 0 0) sw lg x) (fun o M => QM J sw lg x A (ridgeQ u w t) cdS o M)) 4 ?_ ?_ 0 (Nat.zero_le _)
  · exact key _ _ _ rfl
  · intro f o7 o8 hf
    have fb := ffF_b (rtA u w) 4
    refine b_259_59 (by omega) ⟨by decide, fun _ => ⟨ht, fun n0 => ⟨fun n1 => ?_, fun c => ?_⟩, fun c => ?_⟩, fun c => absurd c (by decide)⟩
    · have hy : ridgeQ u w t = (0, tgR u w (ffF (rtA u w) 4)) := by unfold ridgeQ; rw [if_neg (by omega), if_neg n0, if_neg n1]
      by_cases q : ffF (rtA u w) 4 = -1
      · rw [q] at hf
        have : f = -1 := hf
        subst this
        exact ⟨by decide, fun c => absurd rfl c, fun _ => QM.ok' (cd := cdS) hG FQ.up0 h0 rfl hy (by rw [q]; rfl)⟩
      · have hf2 : f = 10 * (ffF (rtA u w) 4 / 2) + ffF (rtA u w) 4 % 2 := by rw [hf, cvR, if_neg q]
        have d1 : bDiv f 10 = ffF (rtA u w) 4 / 2 := by rw [q_divI (by omega) (by omega) (by decide) (by decide)]; omega
        have d2 : bRem f 10 = ffF (rtA u w) 4 % 2 := by rw [q_remI (by omega) (by omega) (by decide) (by decide)]; omega
        refine ⟨by omega, fun _ => b_259_185 (by omega) ?_, fun c => by omega⟩
        rw [d1, d2]
        refine ⟨_, _, e_258 ⟨c1, c2⟩ (by omega) (by omega), _, _, e_258 ⟨c1, c2⟩ (by omega) (by omega), ?_⟩
        exact QM.ok' (cd := cdS) hG FQ.up0 h0 rfl hy (by rw [tgR, if_neg q])
    · exact QM.ok' (cd := cdS) hG FQ.up0 h0 rfl (show ridgeQ u w t = (0, cvR (ffF (rtA u w) 4)) by unfold ridgeQ; rw [if_neg (by omega), if_neg n0, if_pos c]) hf
    · exact QM.ok hG FQ.up0 h0 rfl (by unfold ridgeQ; rw [if_neg (by omega), if_pos c])
  · intro k hk ih f o7 o8 hf
    have d1 : bDiv (k : Int) 2 = (k : Int) / 2 := q_divI (by omega) (by omega) (by decide) (by decide)
    have d2 : bRem (k : Int) 2 = (k : Int) % 2 := q_remI (by omega) (by omega) (by decide) (by decide)
    have fb := ffF_b (rtA u w) k
    have fr : InR f ∧ (f = -1 ↔ ffF (rtA u w) k = -1) := by
      rw [hf]; unfold cvR; split
      · rename_i z; exact ⟨by decide, fun _ => z, fun _ => rfl⟩
      · exact ⟨by omega, by omega⟩
    have h1 := hb ((k : Int) / 2) ((k : Int) % 2)
    have h2 := hb (1 - (k : Int) / 2) ((k : Int) % 2)
    have h3 := hb ((k : Int) % 2) ((k : Int) / 2)
    have h4 := hb (1 - (k : Int) % 2) ((k : Int) / 2)
    refine b_259_59 (by omega) ⟨by omega, fun c => by omega, fun _ => ?_⟩
    rw [d1, d2]
    have no : rtA u w k = false → VV X 1 259 (59, [some (.ref 542), some (iv u), some (iv w), some (iv t), some (iv (cntF (rtA u w) k : Nat)), some (iv f), some (iv ((k : Int) + 1)), some (iv ((k : Int) / 2)), some (iv ((k : Int) % 2))], [], mj (m_up J 542 0 0) sw lg x) (fun o M => QM J sw lg x A (ridgeQ u w t) cdS o M) := by
      intro hq
      have := ih f (some (iv ((k : Int) / 2))) (some (iv ((k : Int) % 2))) (by rw [ffF, hq, if_neg (by intro z; exact absurd z.2 (by decide))]; exact hf)
      rw [cntF, hq, if_neg (by decide)] at this
      exact this
    refine ⟨_, _, e_258 ⟨c1, c2⟩ (by omega) (by omega), _, _, e_258 ⟨c1, c2⟩ (by omega) (by omega), by omega, by omega, fun c => no (by unfold rtA; rw [decide_eq_false (by omega)]), fun c => b_259_100 (by omega) ⟨_, _, e_258 ⟨c1, c2⟩ (by omega) (by omega), _, _, e_258 ⟨c1, c2⟩ (by omega) (by omega), by omega, by omega, fun c' => b_259_126 (by omega) ?_, fun c' => no (by unfold rtA; rw [decide_eq_false (by omega)])⟩⟩
    have hq : rtA u w k = true := by unfold rtA; rw [decide_eq_true ⟨c, c'⟩]
    refine ⟨fr.1, fun z => ?_, fun z => ?_⟩
    · have := ih f (some (iv ((k : Int) / 2))) (some (iv ((k : Int) % 2))) (by rw [ffF, if_neg (fun y => z (fr.2.mpr y.1))]; exact hf)
      rw [cntF, hq, if_pos rfl] at this
      exact this
    · have := ih (10 * ((k : Int) / 2) + (k : Int) % 2) (some (iv ((k : Int) / 2))) (some (iv ((k : Int) % 2))) (by rw [ffF, if_pos ⟨fr.2.mp z, hq⟩, cvR, if_neg (by omega)])
      rw [cntF, hq, if_pos rfl] at this
      exact this
end Q5
