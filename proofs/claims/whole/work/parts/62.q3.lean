/-! more questions: would, the worst, days ahead, ways -/
theorem AM.mk {X : Nat × (Nat → Int32)} {d y : Nat} {As : List Value} {J z : Nat → Nat → Int} {sw : Bool × Bool × Bool} {lg : Nat → Nat → Int64} {x : Nat} {A : AT} {q : Nat × Int} {r : Int} {cd : Nat → Int} (hE : EE X d y (.ref 542 :: As) (mj J sw lg x) (.inl (some (iv r))) (mj z sw lg x)) (hG : GM J A) (hf : FQ J z) (h0 : z 542 0 = 0) (hc : cd 0 = 0) (hq : q = (0, r)) : AM X d y As J sw lg x A q cd := by
  subst hq
  exact ⟨(z, r), hE, fun _ => rfl, h0.trans hc.symm, by rw [af_0]; exact hG.fq hf, fun c hc => hf.1 c (by unfold scM; omega) (by omega)⟩
theorem Dist_ex (nx : Nat → Nat → Option Nat) (H s0 : Nat) (acc : Nat → Prop) : ∃ r, Dist nx H s0 acc r := by
  by_cases h : ∃ n t, Rn nx H s0 n t ∧ acc t
  · have key : ∀ N n, n ≤ N → (∃ t, Rn nx H s0 n t ∧ acc t) → ∃ r, Dist nx H s0 acc r := by
      intro N
      induction N with
      | zero =>
        rintro n hn ⟨t, h1, h2⟩
        exact ⟨_, Or.inl ⟨n, t, rfl, h1, h2, fun m t' hm => absurd hm (by omega)⟩⟩
      | succ N ih =>
        rintro n hn ⟨t, h1, h2⟩
        by_cases q : ∃ m, m < n ∧ ∃ t, Rn nx H s0 m t ∧ acc t
        · obtain ⟨m, hm, hx⟩ := q
          exact ih m (by omega) hx
        · exact ⟨_, Or.inl ⟨n, t, rfl, h1, h2, fun m t' hm h3 h4 => q ⟨m, hm, t', h3, h4⟩⟩⟩
    obtain ⟨n, t, h1, h2⟩ := h
    exact key n n (Nat.le_refl _) ⟨t, h1, h2⟩
  · exact ⟨-1, Or.inr ⟨rfl, fun m t' h1 h2 => h ⟨m, t', h1, h2⟩⟩⟩
noncomputable def dsF (V : VT) (w h : Nat) : Int := Classical.epsilon (fun r => Dist (nxW V w) (vn V) (h * 512 + (2 ^ h &&& w)) (fun u => u % 512 = w) r)
theorem dsF_eq {V : VT} {w h : Nat} {r : Int} (d : Dist (nxW V w) (vn V) (h * 512 + (2 ^ h &&& w)) (fun u => u % 512 = w) r) : r = dsF V w h := Dist_uni d (Classical.epsilon_spec (p := fun r => Dist (nxW V w) (vn V) (h * 512 + (2 ^ h &&& w)) (fun u => u % 512 = w) r) ⟨r, d⟩)
theorem dsF_d (V : VT) (w h : Nat) : Dist (nxW V w) (vn V) (h * 512 + (2 ^ h &&& w)) (fun u => u % 512 = w) (dsF V w h) := Classical.epsilon_spec (p := fun r => Dist (nxW V w) (vn V) (h * 512 + (2 ^ h &&& w)) (fun u => u % 512 = w) r) (Dist_ex _ _ _ _)
theorem mostF_congr {p p' : Nat → Bool} {f : Nat → Int} : ∀ {n : Nat}, (∀ k, k < n → p k = p' k) → mostF p f n = mostF p' f n
  | 0, _ => rfl
  | n + 1, h => by
    unfold mostF
    rw [mostF_congr (fun k hk => h k (by omega)), h n (by omega)]
def itA (V : VT) (s : Nat → Int) : Nat → Nat → Int
  | 0 => s
  | n + 1 => passA V (itA V s n)
theorem itA_b {V : VT} {s : Nat → Int} (bV : VBd V) (bs : SBd (vn V) s) : ∀ n, SBd (vn V) (itA V s n) ∧ itA V s n 49 = s 49 + n
  | 0 => ⟨bs, by show s 49 = s 49 + (0 : Nat); omega⟩
  | n + 1 => by
    have h := itA_b bV bs n
    have h1 := SBd_pass h.1 bV
    refine ⟨h1.1, ?_⟩
    show passA V (itA V s n) 49 = _
    rw [h1.2, h.2]; omega
/-- a choice by a proposition -/
noncomputable def pif {α : Type} (P : Prop) (a b : α) : α := @ite α P (Classical.propDecidable P) a b
theorem oi_y {α : Type} {P : Prop} {a b : α} (h : P) : pif P a b = a := by unfold pif; exact if_pos h
theorem oi_n {α : Type} {P : Prop} {a b : α} (h : ¬ P) : pif P a b = b := by unfold pif; exact if_neg h
section Q3
variable {X : Nat × (Nat → Int32)} {J : Nat → Nat → Int} {sw : Bool × Bool × Bool} {lg : Nat → Nat → Int64} {x : Nat} {A : AT} {u w t : Int}
theorem rq_can (hG : GM J A) (bA : ABd A) (hu : InR u) (hw : InR w) (ht : InR t) : AM X 2 234 [iv u, iv w, iv t] J sw lg x A (canQ A u w t) cdS := by
  have v1 := bA.1.1
  have v2 := bA.1.2.1
  have v3 := bA.1.2.2.1
  have bs := SOk.b bA
  refine AM.of mt_234 (b_234_0 (by omega) ?_)
  rw [hG.1.1.1, hG.1.1.2.1, hG.1.1.2.2.1]
  refine ⟨hu, fun c => QM.r1 hG (if_pos (by omega)) rfl, fun c1 => ⟨by omega, fun c => QM.r1 hG (if_pos (by omega)) rfl, fun c2 => ⟨hw, fun c => QM.r1 hG (if_pos (by omega)) rfl, fun c3 => ⟨by omega, fun c => QM.r1 hG (if_pos (by omega)) rfl, fun c4 => ⟨ht, fun c => QM.r1 hG (if_pos (by omega)) rfl, fun c5 => ⟨by omega, fun c => QM.r1 hG (if_pos (by omega)) rfl, fun c6 => ?_⟩⟩⟩⟩⟩⟩
  obtain ⟨h, rfl⟩ : ∃ e : Nat, u = (e : Int) := ⟨u.toNat, by omega⟩
  obtain ⟨e, rfl⟩ : ∃ e : Nat, w = (e : Int) := ⟨w.toNat, by omega⟩
  obtain ⟨p, rfl⟩ : ∃ e : Nat, t = (e : Int) := ⟨t.toNat, by omega⟩
  have hy : canQ A (h : Int) (e : Int) (p : Int) = (0, if 0 < aS A 48 ∧ aS A e < vtk (aV A) e ∧ aS A (18 + h) = 0 ∧ 0 < aS A (30 + p) then 1 else 0) := if_neg (by omega)
  refine takeM hG (fun J1 hS hf h0 hG2 => ?_)
  have f0 : J1 562 (e : Int).toNat = aS A e := hS e (by omega)
  have f1 : J1 549 (e : Int).toNat = vtk (aV A) e := hG2.1.1.2.2.2.2.2.1 e (by omega)
  have f2 : J1 562 (30 + (p : Int)).toNat = aS A (30 + p) := hS (30 + p) (by omega)
  have f3 : J1 562 (18 + (h : Int)).toNat = aS A (18 + h) := hS (18 + h) (by omega)
  have f4 : J1 562 48 = aS A 48 := hS 48 (by omega)
  have b1 := bs.1 e (by omega)
  have b2 := bA.1.2.2.2.2.2.1 e (by omega)
  have b3 := bs.2.2.2.1 p (by omega)
  have b4 := bs.2.2.1 h (by omega)
  have b5 := bs.2.2.2.2.2
  rw [f0, f1, f2, f3, f4]
  refine ⟨by omega, fun c => ?_, fun d1 => ⟨by omega, by omega, by omega, by omega, fun d2 => ⟨by omega, by omega, fun c => ?_, fun d3 => ⟨by omega, by omega, fun c => ?_, fun d4 => ?_⟩⟩, fun c => ?_⟩⟩
  · exact QM.ok' (cd := cdS) hG hf h0 rfl hy (by rw [if_neg (by omega)])
  · exact QM.ok' (cd := cdS) hG hf h0 rfl hy (by rw [if_neg (by omega)])
  · exact QM.ok' (cd := cdS) hG hf h0 rfl hy (by rw [if_neg (by omega)])
  · exact QM.ok' (cd := cdS) hG hf h0 rfl hy (by rw [if_pos ⟨d1, d2, d3, d4⟩])
  · exact QM.ok' (cd := cdS) hG hf h0 rfl hy (by rw [if_neg (by omega)])
def wouldR (x1 x2 x3 x4 x5 x6 x7 x8 : Int) : Prop := (0 ≤ x1 ∧ x1 ≤ 20) ∧ (0 ≤ x2 ∧ x2 ≤ 9) ∧ (0 ≤ x3 ∧ x3 ≤ 99) ∧ (0 ≤ x4 ∧ x4 ≤ 99) ∧ (0 ≤ x5 ∧ x5 ≤ 99) ∧ (0 ≤ x6 ∧ x6 ≤ 20) ∧ (0 ≤ x7 ∧ x7 ≤ 600) ∧ 0 ≤ x8 ∧ x8 ≤ 5
noncomputable def wouldQ (A : AT) (x1 x2 x3 x4 x5 x6 x7 x8 : Int) : Nat × Int := pif (wouldR x1 x2 x3 x4 x5 x6 x7 x8) (0, mendL (aT A) (fac x1 x2 x3 x4 x5 x6 x7 x8)) (2, 0)
variable {x1 x2 x3 x4 x5 x6 x7 x8 : Int}
theorem wouldQ_n (h : ¬ wouldR x1 x2 x3 x4 x5 x6 x7 x8) : wouldQ A x1 x2 x3 x4 x5 x6 x7 x8 = (2, 0) := oi_n h
theorem wouldQ_y (h : wouldR x1 x2 x3 x4 x5 x6 x7 x8) : wouldQ A x1 x2 x3 x4 x5 x6 x7 x8 = (0, mendL (aT A) (fac x1 x2 x3 x4 x5 x6 x7 x8)) := oi_y h
theorem kq_would (hG : GK J sw A) (bA : ABd A) (h1 : InR x1) (h2 : InR x2) (h3 : InR x3) (h4 : InR x4) (h5 : InR x5) (h6 : InR x6) (h7 : InR x7) (h8 : InR x8) : AK X 2 123 [iv x1, iv x2, iv x3, iv x4, iv x5, iv x6, iv x7, iv x8] J sw lg x A (wouldQ A x1 x2 x3 x4 x5 x6 x7 x8) := by
  have no : ¬ wouldR x1 x2 x3 x4 x5 x6 x7 x8 → QK J sw lg x A (wouldQ A x1 x2 x3 x4 x5 x6 x7 x8) (.inr 2) (mj (m_up J 0 18 (J 0 18 + 1)) sw lg (x + 1)) := fun h => QK.r2 hG bA (wouldQ_n h)
  unfold wouldR at no
  have hl := lA_or sw
  refine AK.of mt_123 (b_123_0 (by omega) ⟨h1, fun c => no (by omega), fun a1 => ⟨fun b1 => ⟨h2, fun c => no (by omega), fun a2 => ⟨fun b2 => ⟨h3, fun c => no (by omega), fun a3 => ⟨fun b3 => ⟨h4, fun c => no (by omega), fun a4 => ⟨fun b4 => ⟨h5, fun c => no (by omega), fun a5 => ⟨fun b5 => ⟨h6, fun c => no (by omega), fun a6 => ⟨fun b6 => ⟨h7, fun c => no (by omega), fun a7 => ⟨fun b7 => ⟨h8, fun c => no (by omega), fun a8 => ⟨fun b8 => ?_, fun c => no (by omega)⟩⟩, fun c => no (by omega)⟩⟩, fun c => no (by omega)⟩⟩, fun c => no (by omega)⟩⟩, fun c => no (by omega)⟩⟩, fun c => no (by omega)⟩⟩, fun c => no (by omega)⟩⟩, fun c => no (by omega)⟩⟩)
  have hb : ∀ z ∈ [x1, x2, x3, x4, x5, x6, x7, x8], 0 ≤ z ∧ z ≤ 2000 := by
    simp only [List.mem_cons, List.not_mem_nil, or_false, forall_eq_or_imp, forall_eq]
    omega
  refine ex1 (e_32 (T := aT A) (f := fac x1 x2 x3 x4 x5 x6 x7 x8) (clA sw) ⟨?_, fun k hk => ?_⟩ bA.2.2.1 (fun i hi => ?_) (fac_b hb)) (fun J1 hf => QK.ok hG bA (FC.law (sw := sw) (fun c q1 q2 => ?_)) (wouldQ_y ⟨⟨a1, b1⟩, ⟨a2, b2⟩, ⟨a3, b3⟩, ⟨a4, b4⟩, ⟨a5, b5⟩, ⟨a6, b6⟩, ⟨a7, b7⟩, a8, b8⟩))
  · simp [m_up]; exact hG.2.1.1
  · simp [m_up]; exact hG.2.1.2 k hk
  · rcases lt8 hi with rfl | rfl | rfl | rfl | rfl | rfl | rfl | rfl <;> simp [m_up, fac]
  · rw [hf c q2]; simp only [up_r q1]
theorem rq_would (hG : GM J A) (bA : ABd A) (h1 : InR x1) (h2 : InR x2) (h3 : InR x3) (h4 : InR x4) (h5 : InR x5) (h6 : InR x6) (h7 : InR x7) (h8 : InR x8) : AM X 4 233 [iv x1, iv x2, iv x3, iv x4, iv x5, iv x6, iv x7, iv x8] J sw lg x A (wouldQ A x1 x2 x3 x4 x5 x6 x7 x8) cdS := by
  have no : ¬ wouldR x1 x2 x3 x4 x5 x6 x7 x8 → QM J sw lg x A (wouldQ A x1 x2 x3 x4 x5 x6 x7 x8) cdS (.inl (some (iv 0))) (mj (m_up (m_up (m_up J 542 0 0) 542 0 1) 543 1 (J 543 1 + 1)) sw lg x) := fun h => QM.r2 hG (wouldQ_n h) rfl
  unfold wouldR at no
  refine AM.of mt_233 (b_233_0 (by omega) ⟨h1, fun c => no (by omega), fun a1 => ⟨fun c => no (by omega), fun b1 => ⟨h2, fun c => no (by omega), fun a2 => ⟨fun c => no (by omega), fun b2 => ⟨h3, fun c => no (by omega), fun a3 => ⟨fun c => no (by omega), fun b3 => ⟨h4, fun c => no (by omega), fun a4 => ⟨fun c => no (by omega), fun b4 => ⟨h5, fun c => no (by omega), fun a5 => ⟨fun c => no (by omega), fun b5 => ⟨h6, fun c => no (by omega), fun a6 => ⟨fun c => no (by omega), fun b6 => ⟨h7, fun c => no (by omega), fun a7 => ⟨fun c => no (by omega), fun b7 => ⟨h8, fun c => no (by omega), fun a8 => ⟨fun c => no (by omega), fun b8 => ?_⟩⟩⟩⟩⟩⟩⟩⟩⟩⟩⟩⟩⟩⟩⟩⟩)
  have hb : ∀ z ∈ [x1, x2, x3, x4, x5, x6, x7, x8], 0 ≤ z ∧ z ≤ 2000 := by
    simp only [List.mem_cons, List.not_mem_nil, or_false, forall_eq_or_imp, forall_eq]
    omega
  have hG1 := hG.fq (FQ.up0 (w := 0))
  exact ex1 (e_206 hG1.2.1 bA.2.2.1 hb) (fun J1 hf => QM.ok hG (FQ.up0.tr (FQ.of (fun c q => by unfold scM at q; exact hf c (by omega) (by omega)))) (by rw [hf 542 (by decide) (by decide)]; exact up_eq _ _ _ _) rfl (wouldQ_y ⟨⟨a1, b1⟩, ⟨a2, b2⟩, ⟨a3, b3⟩, ⟨a4, b4⟩, ⟨a5, b5⟩, ⟨a6, b6⟩, ⟨a7, b7⟩, a8, b8⟩))
/-- the most worn -/
def wstA (A : AT) : Int × Int := mostF (fun _ => true) (fun p => aS A (30 + p)) (vn (aV A))
def worstQ (A : AT) (w : Int) : Nat × Int := if w < 0 ∨ 1 < w then (2, 0) else (0, if (wstA A).1 = -1 then -1 else if w = 0 then (wstA A).1 else (wstA A).2)
theorem bits_n {n : Nat} (h : n ≤ 9) : bShl 1 (n : Int) - 1 = ((2 ^ n - 1 : Nat) : Int) := by
  have := Nat.two_pow_pos n
  rw [q_shl n (by omega)]
  omega
theorem kq_worst (hG : GK J sw A) (bA : ABd A) (hw : InR w) : AK X 2 137 [iv w] J sw lg x A (worstQ A w) := by
  have v3 := bA.1.2.2.1
  have bs := SOk.b bA
  have hS := hG.2.2.2.1
  have hp := Nat.two_pow_pos (vn (aV A))
  have hp9 : 2 ^ vn (aV A) ≤ 512 := show _ ≤ 2 ^ 9 from Nat.pow_le_pow_right (by decide) v3
  refine AK.of mt_137 (b_137_0 (by omega) ?_)
  rw [hG.1.1.2.2.1, bits_n v3]
  refine ⟨hw, fun c => QK.r2 hG bA (if_pos (by omega)), fun c1 => ⟨fun c2 => ?_, fun c => QK.r2 hG bA (if_pos (by omega))⟩⟩
  have e0 : mostF (2 ^ vn (aV A) - 1).testBit (fun p => aS A (30 + p)) (vn (aV A)) = wstA A := mostF_congr (fun k hk => by rw [Nat.testBit_two_pow_sub_one]; simp [hk])
  have ix := mostF_ix (fun _ => true) (fun p => aS A (30 + p)) (vn (aV A))
  have ix' : -1 ≤ (wstA A).1 ∧ (wstA A).1 < vn (aV A) := ix
  have hv := (mostF_v (p := fun _ => true) (f := fun p => aS A (30 + p)) (n := vn (aV A))).2
  have hE := e_59 (X := X) (sw := sw) (lg := lg) (x := x) (t := 2 ^ vn (aV A) - 1) (f := fun p => aS A (30 + p)) c_41 (cvA sw) (by omega) hG.1.1.2.2.1 v3 (fun p hp => hS.2.2.2.2.1 p (by omega)) (fun p hp => bs.2.2.2.1 p (by omega))
  rw [e0] at hE
  refine ⟨_, J, hE, by omega, fun c => ⟨fun c3 => ⟨by omega, ?_⟩, fun c3 => ?_⟩, fun c => ?_⟩
  · have f0 : J 46 ((wstA A).1).toNat = (wstA A).2 := by
      rw [hS.2.2.2.2.1 _ (by omega)]; exact (hv c).symm
    exact QK.ok' hG bA FC.rf (by unfold worstQ; rw [if_neg (by omega), if_neg c, if_neg c3]) f0
  · exact QK.ok hG bA FC.rf (by unfold worstQ; rw [if_neg (by omega), if_neg c, if_pos c3])
  · exact QK.ok hG bA FC.rf (by unfold worstQ; rw [if_neg (by omega), if_pos c])
theorem rq_worst (hG : GM J A) (bA : ABd A) (hw : InR w) : AM X 1 263 [iv w] J sw lg x A (worstQ A w) cdS := by
  have v3 := bA.1.2.2.1
  have bs := SOk.b bA
  have hG1 := hG.fq (FQ.up0 (w := 0))
  have hS := hG1.2.2.2.1
  have h0 : m_up J 542 0 0 542 0 = 0 := up_eq _ _ _ _
  refine AM.of mt_263 (b_263_0 (by omega) ⟨hw, fun c => QM.r2 hG (if_pos (by omega)) rfl, fun c1 => ⟨fun c => QM.r2 hG (if_pos (by omega)) rfl, fun c2 => ?_⟩⟩)
  have ix := mostF_ix (fun _ => true) (fun p => aS A (30 + p)) (vn (aV A))
  have ix' : -1 ≤ (wstA A).1 ∧ (wstA A).1 < vn (aV A) := ix
  have hv := (mostF_v (p := fun _ => true) (f := fun p => aS A (30 + p)) (n := vn (aV A))).2
  have hE : EE X 0 262 [.ref 542, iv 30] (mj (m_up J 542 0 0) sw lg x) (.inl (some (iv (wstA A).1))) (mj (m_up J 542 0 0) sw lg x) := e_262 (o := 30) (f := fun p => aS A (30 + p)) (by decide) hG1.1.1.2.2.1 v3 (fun p hp => hS (30 + p) (by omega)) (fun p hp => bs.2.2.2.1 p (by omega))
  refine ⟨_, _, hE, fun c3 => ?_, fun c3 => ⟨by omega, fun c => ⟨by omega, ?_⟩, fun c => ?_⟩⟩
  · have hy : worstQ A w = (0, if (wstA A).1 = -1 then -1 else if w = 0 then (wstA A).1 else (wstA A).2) := if_neg (by omega)
    refine QM.ok' (cd := cdS) hG FQ.up0 h0 rfl hy ?_
    by_cases q : (wstA A).1 = -1
    · rw [if_pos q]; exact q
    · rw [if_neg q, if_pos c3]
  · have f0 : m_up J 542 0 0 561 (30 + (wstA A).1).toNat = (wstA A).2 := by
      rw [show (30 + (wstA A).1).toNat = 30 + ((wstA A).1).toNat by omega, hS _ (by omega)]; exact (hv c).symm
    have hy : worstQ A w = (0, (wstA A).2) := by unfold worstQ; rw [if_neg (by omega), if_neg c, if_neg c3]
    exact QM.ok' (cd := cdS) hG FQ.up0 h0 rfl hy f0
  · have hy : worstQ A w = (0, -1) := by unfold worstQ; rw [if_neg (by omega), if_pos c]
    exact QM.ok' (cd := cdS) hG FQ.up0 h0 rfl hy c
def ridgesQ (A : AT) (w : Int) : Nat × Int := if w < 0 ∨ 1 < w then (2, 0) else (0, if w = 0 then sumF (fun p => aS A (39 + p)) (vn (aV A)) else (mostF (fun _ => true) (fun p => aS A (39 + p)) (vn (aV A))).1)
theorem kq_ridges (hG : GK J sw A) (bA : ABd A) (hw : InR w) : AK X 2 140 [iv w] J sw lg x A (ridgesQ A w) := by
  have v3 := bA.1.2.2.1
  have bs := SOk.b bA
  have hS := hG.2.2.2.1
  refine AK.of mt_140 (b_140_0 (by omega) ⟨hw, fun c => QK.r2 hG bA (if_pos (by omega)), fun c1 => ⟨fun c2 => ⟨fun c3 => ?_, fun c3 => ?_⟩, fun c => QK.r2 hG bA (if_pos (by omega))⟩⟩)
  · exact ⟨_, J, e_60 (f := fun p => aS A (39 + p)) c_41 (cvA sw) hG.1.1.2.2.1 v3 (fun p hp => hS.2.2.2.2.2.1 p (by omega)) (fun p hp => bs.2.2.2.2.1 p (by omega)), QK.ok hG bA FC.rf (by unfold ridgesQ; rw [if_neg (by omega), if_neg c3])⟩
  · exact ⟨_, J, e_62 (f := fun p => aS A (39 + p)) c_41 (cvA sw) hG.1.1.2.2.1 v3 (fun p hp => hS.2.2.2.2.2.1 p (by omega)), QK.ok hG bA FC.rf (by unfold ridgesQ; rw [if_neg (by omega), if_pos c3])⟩
theorem rq_ridges (hG : GM J A) (bA : ABd A) (hw : InR w) : AM X 2 264 [iv w] J sw lg x A (ridgesQ A w) cdS := by
  have v3 := bA.1.2.2.1
  have bs := SOk.b bA
  refine AM.of mt_264 (b_264_0 (by omega) ⟨hw, fun c => QM.r2 hG (if_pos (by omega)) rfl, fun c1 => ⟨fun c => QM.r2 hG (if_pos (by omega)) rfl, fun c2 => ?_⟩⟩)
  refine takeM hG (fun J1 hS hf h0 hG2 => ⟨fun c3 => ?_, fun c3 => ?_⟩)
  · exact ⟨_, J1, e_262 (o := 39) (f := fun p => aS A (39 + p)) (by decide) hG2.1.1.2.2.1 v3 (fun p hp => hG2.2.2.2.1 (39 + p) (by omega)) (fun p hp => bs.2.2.2.2.1 p (by omega)), QM.ok hG hf h0 rfl (by unfold ridgesQ; rw [if_neg (by omega), if_neg c3])⟩
  · exact ⟨_, J1, e_220 (o := 39) (f := fun p => aS A (39 + p)) hG2.1.1.2.2.1 v3 (by decide) (fun p hp => hS (39 + p) (by omega)), QM.ok hG hf h0 rfl (by unfold ridgesQ; rw [if_neg (by omega), if_pos c3])⟩
end Q3
