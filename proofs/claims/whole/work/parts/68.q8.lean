/-! the questions of generations and spans -/
section Q8
variable {X : Nat × (Nat → Int32)} {J : Nat → Nat → Int} {sw : Bool × Bool × Bool} {lg : Nat → Nat → Int64} {x : Nat} {A : AT} {u w t q x1 x2 x3 x4 x5 : Int}
def gsA (A : AT) (q sd : Int) (n : Nat) : Nat → Int := (gnA (aV A) (aT A) q sd (aS A) n).2
def htA (V : VT) (s : Nat → Int) : Nat := bitF (fun p => decide (vtk V p ≤ s p)) (ve V)
def genQ (A : AT) (x1 x2 x3 x4 : Int) : Nat × Int := if (x2 < 0 ∨ 16 < x2) ∨ (x3 < 1 ∨ 96 < x3) ∨ x4 < 0 ∨ 3 < x4 then (2, 0) else (0, if x4 = 0 then sumF (fun p => gsA A x2 x1 x3.toNat (30 + p)) (vn (aV A)) else if x4 = 1 then sumF (fun p => gsA A x2 x1 x3.toNat (39 + p)) (vn (aV A)) else if x4 = 2 then (htA (aV A) (gsA A x2 x1 x3.toNat) : Int) else gsA A x2 x1 x3.toNat 48)
theorem liveK {P : (Nat → Nat → Int) → Prop} {n : Nat} {sd : Int} (hG : GK J sw A) (bA' : ABd A) (hn : n ≤ 96) (hq : InR q) (k : ∀ J1, SV J1 48 (gsA A q sd n) → FL (lA sw) J J1 → VK J1 (vA sw) (aV A) → P J1) : ∃ J1, EE X 5 158 [.ref 0, iv sd, iv q, iv (n : Int)] (mj J sw lg x) (.inl none) (mj J1 sw lg x) ∧ P J1 :=
  ex0 (e_158 hG.1.1 bA'.1 hG.2.1 bA'.2.2.1 hG.2.2.2.1 (SOk.b bA') bA'.2.2.2.2.1.2.1 hn hq) (fun J1 h => k J1 h.1 h.2 (h.2.vk (cvA sw) (clA sw) hG.1.1))
theorem kq_gen (hG : GK J sw A) (bA' : ABd A) (h2 : InR x2) (h3 : InR x3) (h4 : InR x4) : AK X 6 141 [iv x1, iv x2, iv x3, iv x4] J sw lg x A (genQ A x1 x2 x3 x4) := by
  have v1 := bA'.1.1
  have v3 := bA'.1.2.2.1
  refine AK.of mt_141 (b_141_0 (by omega) ⟨h2, fun c => QK.r2 hG bA' (if_pos (by omega)), fun c1 => ⟨fun c2 => ⟨h3, fun c => QK.r2 hG bA' (if_pos (by omega)), fun c3 => ⟨fun c4 => ⟨h4, fun c => QK.r2 hG bA' (if_pos (by omega)), fun c5 => ⟨fun c6 => ?_, fun c => QK.r2 hG bA' (if_pos (by omega))⟩⟩, fun c => QK.r2 hG bA' (if_pos (by omega))⟩⟩, fun c => QK.r2 hG bA' (if_pos (by omega))⟩⟩)
  obtain ⟨n, rfl⟩ : ∃ e : Nat, x3 = (e : Int) := ⟨x3.toNat, by omega⟩
  have bi : SBd (vn (aV A)) (gsA A x2 x1 n) := (gnA_b (T := aT A) (q := x2) (sd := x1) bA'.1 (SOk.b bA') n).1
  refine liveK hG bA' (by omega) h2 (fun J1 hS hF hV => ⟨fun c => ?_, fun c => ?_, fun c => ?_, fun c => ?_⟩)
  · exact ⟨_, J1, e_61 (f := fun p => gsA A x2 x1 n (30 + p)) c_48 (cvA sw) hV.2.2.1 v3 (fun p hp => hS.2.2.2.2.1 p (by omega)), QK.ok hG bA' (FC.fl hF) (by unfold genQ; rw [if_neg (by omega), if_pos c]; rfl)⟩
  · exact ⟨_, J1, e_62 (f := fun p => gsA A x2 x1 n (39 + p)) c_48 (cvA sw) hV.2.2.1 v3 (fun p hp => hS.2.2.2.2.2.1 p (by omega)), QK.ok hG bA' (FC.fl hF) (by unfold genQ; rw [if_neg (by omega), if_neg (by omega), if_pos c]; rfl)⟩
  · exact ⟨_, J1, e_65 (f := gsA A x2 x1 n) (g := vtk (aV A)) c_48 (cvA sw) hV.1 v1 (fun p hp => hS.1 p (by omega)) (fun p hp => hV.2.2.2.2.1 p hp) (fun p hp => by have := bi.1 p (by omega); have := bA'.1.2.2.2.2.2.1 p hp; omega), QK.ok hG bA' (FC.fl hF) (by unfold genQ; rw [if_neg (by omega), if_neg (by omega), if_neg (by omega), if_pos c]; rfl)⟩
  · exact QK.ok' hG bA' (FC.fl hF) (by unfold genQ; rw [if_neg (by omega), if_neg (by omega), if_neg (by omega), if_neg (by omega)]; rfl) hS.2.2.2.2.2.2.2.2
theorem liveM {P : (Nat → Nat → Int) → Prop} {n : Nat} {sd : Int} {J0 : Nat → Nat → Int} (hG : GM J0 A) (bA' : ABd A) (hn : n ≤ 96) (hq : InR q) (k : ∀ J1, MV J1 562 (gsA A q sd n) → FN J0 J1 → VM J1 (aV A) → P J1) : ∃ J1, EE X 6 266 [.ref 542, iv sd, iv q, iv (n : Int)] (mj J0 sw lg x) (.inl none) (mj J1 sw lg x) ∧ P J1 :=
  ex0 (e_266 hG.1.1 bA'.1 hG.2.1 bA'.2.2.1 hG.2.2.2.1 (SOk.b bA') bA'.2.2.2.2.1.2.1 hn hq) (fun J1 h => k J1 h.1 h.2 (h.2.vm hG.1.1))
theorem rq_gen (hG : GM J A) (bA' : ABd A) (h2 : InR x2) (h3 : InR x3) (h4 : InR x4) : AM X 7 268 [iv x1, iv x2, iv x3, iv x4] J sw lg x A (genQ A x1 x2 x3 x4) cdS := by
  have v1 := bA'.1.1
  have v3 := bA'.1.2.2.1
  refine AM.of mt_268 (b_268_0 (by omega) ⟨h2, fun c => QM.r2 hG (if_pos (by omega)) rfl, fun c1 => ⟨fun c => QM.r2 hG (if_pos (by omega)) rfl, fun c2 => ⟨h3, fun c => QM.r2 hG (if_pos (by omega)) rfl, fun c3 => ⟨fun c => QM.r2 hG (if_pos (by omega)) rfl, fun c4 => ⟨h4, fun c => QM.r2 hG (if_pos (by omega)) rfl, fun c5 => ⟨fun c => QM.r2 hG (if_pos (by omega)) rfl, fun c6 => ?_⟩⟩⟩⟩⟩⟩)
  obtain ⟨n, rfl⟩ : ∃ e : Nat, x3 = (e : Int) := ⟨x3.toNat, by omega⟩
  have bi : SBd (vn (aV A)) (gsA A x2 x1 n) := (gnA_b (T := aT A) (q := x2) (sd := x1) bA'.1 (SOk.b bA') n).1
  refine liveM (hG.fq (FQ.up0 (w := 0))) bA' (by omega) h2 (fun J1 hS hF hV => ?_)
  have hf : FQ J J1 := FQ.up0.tr (FQ.fn hF)
  have h0 : J1 542 0 = 0 := by rw [hF.2 0 (by decide)]; exact up_eq _ _ _ _
  refine ⟨fun c => ⟨fun c' => ?_, fun c' => ?_⟩, fun c => ⟨fun c' => ?_, fun c' => ?_⟩⟩
  · exact QM.ok' (cd := cdS) hG hf h0 rfl (show genQ A x1 x2 (n : Int) x4 = (0, gsA A x2 x1 n 48) by unfold genQ; rw [if_neg (by omega), if_neg (by omega), if_neg (by omega), if_neg (by omega)]; rfl) (hS 48 (by omega))
  · exact ⟨_, J1, e_221 (f := gsA A x2 x1 n) (g := vtk (aV A)) hV.1 v1 (fun p hp => hS p (by omega)) (fun p hp => hV.2.2.2.2.2.1 p hp) (fun p hp => by have := bi.1 p (by omega); have := bA'.1.2.2.2.2.2.1 p hp; omega), QM.ok hG hf h0 rfl (by unfold genQ; rw [if_neg (by omega), if_neg (by omega), if_neg (by omega), if_pos c']; rfl)⟩
  · exact ⟨_, J1, e_220 (o := 39) (f := fun p => gsA A x2 x1 n (39 + p)) hV.2.2.1 v3 (by decide) (fun p hp => hS (39 + p) (by omega)), QM.ok hG hf h0 rfl (by unfold genQ; rw [if_neg (by omega), if_neg (by omega), if_pos (by omega)]; rfl)⟩
  · exact ⟨_, J1, e_220 (o := 30) (f := fun p => gsA A x2 x1 n (30 + p)) hV.2.2.1 v3 (by decide) (fun p hp => hS (30 + p) (by omega)), QM.ok hG hf h0 rfl (by unfold genQ; rw [if_neg (by omega), if_pos c']; rfl)⟩
def leF (f : Nat → Int) : Nat → Int
  | 0 => 2147483647
  | k + 1 => min (leF f k) (f k)
def mxF (f : Nat → Int) : Nat → Int
  | 0 => 0
  | k + 1 => max (mxF f k) (f k)
theorem leF_b {f : Nat → Int} (h : ∀ i, 0 ≤ f i ∧ f i ≤ 1000) : ∀ k, 0 ≤ leF f k ∧ leF f k ≤ 2147483647
  | 0 => ⟨show (0 : Int) ≤ 2147483647 by decide, show (2147483647 : Int) ≤ 2147483647 by decide⟩
  | k + 1 => by have := leF_b h k; have := h k; unfold leF; omega
theorem mxF_b {f : Nat → Int} (h : ∀ i, 0 ≤ f i ∧ f i ≤ 1000) : ∀ k, 0 ≤ mxF f k ∧ mxF f k ≤ 1000
  | 0 => ⟨show (0 : Int) ≤ 0 by decide, show (0 : Int) ≤ 1000 by decide⟩
  | k + 1 => by have := mxF_b h k; have := h k; unfold mxF; omega
def spW (A : AT) (q sd : Int) (n i : Nat) : Int := sumF (fun p => gsA A q (sd + i) n (30 + p)) (vn (aV A))
def spH (A : AT) (q sd : Int) (n i : Nat) : Bool := decide (htA (aV A) (gsA A q (sd + i) n) = 2 ^ ve (aV A) - 1)
def spanQ (A : AT) (x1 x2 x3 x4 x5 : Int) : Nat × Int := if (x2 < 1 ∨ 20 < x2) ∨ (x3 < 0 ∨ 16 < x3) ∨ (x4 < 1 ∨ 96 < x4) ∨ x5 < 0 ∨ 2 < x5 then (2, 0) else (0, if x5 = 0 then leF (spW A x3 x1 x4.toNat) x2.toNat else if x5 = 1 then mxF (spW A x3 x1 x4.toNat) x2.toNat else (cntF (spH A x3 x1 x4.toNat) x2.toNat : Nat))
theorem spW_b {n : Nat} (bA' : ABd A) : ∀ i, 0 ≤ spW A q u n i ∧ spW A q u n i ≤ 1000 := by
  intro i
  have v3 := bA'.1.2.2.1
  have bi := (gnA_b (T := aT A) (q := q) (sd := u + i) bA'.1 (SOk.b bA') n).1
  have := sumF_b (f := fun p => gsA A q (u + i) n (30 + p)) (n := vn (aV A)) (fun k hk => bi.2.2.2.1 k (by omega))
  unfold spW
  omega
theorem bits_e {n : Nat} (h : n ≤ 6) : bShl 1 (n : Int) - 1 = ((2 ^ n - 1 : Nat) : Int) := bits_n (by omega)
theorem kq_span (hG : GK J sw A) (bA' : ABd A) (h2 : InR x2) (h3 : InR x3) (h4 : InR x4) (h5 : InR x5) : AK X 6 142 [iv x1, iv x2, iv x3, iv x4, iv x5] J sw lg x A (spanQ A x1 x2 x3 x4 x5) := by
  have v1 := bA'.1.1
  have v3 := bA'.1.2.2.1
  have hp := Nat.two_pow_pos (ve (aV A))
  have hp6 : 2 ^ ve (aV A) ≤ 64 := show _ ≤ 2 ^ 6 from Nat.pow_le_pow_right (by decide) v1
  refine AK.of mt_142 (b_142_0 (by omega) ⟨h2, fun c => QK.r2 hG bA' (if_pos (by omega)), fun c1 => ⟨fun c2 => ⟨h3, fun c => QK.r2 hG bA' (if_pos (by omega)), fun c3 => ⟨fun c4 => ⟨h4, fun c => QK.r2 hG bA' (if_pos (by omega)), fun c5 => ⟨fun c6 => ⟨h5, fun c => QK.r2 hG bA' (if_pos (by omega)), fun c7 => ⟨fun c8 => ?_, fun c => QK.r2 hG bA' (if_pos (by omega))⟩⟩, fun c => QK.r2 hG bA' (if_pos (by omega))⟩⟩, fun c => QK.r2 hG bA' (if_pos (by omega))⟩⟩, fun c => QK.r2 hG bA' (if_pos (by omega))⟩⟩)
  obtain ⟨n, rfl⟩ : ∃ e : Nat, x4 = (e : Int) := ⟨x4.toNat, by omega⟩
  obtain ⟨m, rfl⟩ : ∃ e : Nat, x2 = (e : Int) := ⟨x2.toNat, by omega⟩
  have wb := spW_b (A := A) (q := x3) (u := x1) (n := n) bA'
  have lb := leF_b wb
  have mb := mxF_b wb
  refine lp (P := fun k => ∀ (J' : Nat → Nat → Int) (o10 : Option Value), FL (lA sw) J J' → VV X 6 142 (47, [some (.ref 0), some (iv x1), some (iv (m : Int)), some (iv x3), some (iv (n : Int)), some (iv x5), some (iv (leF (spW A x3 x1 n) k)), some (iv (mxF (spW A x3 x1 n) k)), some (iv (cntF (spH A x3 x1 n) k : Nat)), some (iv k), o10], [], mj J' sw lg x) (fun o M => QK J sw lg x A (spanQ A x1 (m : Int) x3 (n : Int) x5) o M)) m ?_ ?_ 0 (Nat.zero_le _) J _ FL.rf
  · intro J' o10 hF
    refine b_142_47 (by omega) ⟨by omega, by omega, fun _ => ⟨h5, fun n0 => ⟨fun n1 => ?_, fun c => ?_⟩, fun c => ?_⟩, fun c => by omega⟩
    · exact QK.ok hG bA' (FC.fl hF) (by unfold spanQ; rw [if_neg (by omega), if_neg n0, if_neg n1]; rfl)
    · exact QK.ok hG bA' (FC.fl hF) (by unfold spanQ; rw [if_neg (by omega), if_neg n0, if_pos c]; rfl)
    · exact QK.ok hG bA' (FC.fl hF) (by unfold spanQ; rw [if_neg (by omega), if_pos c]; rfl)
  · intro k hk ih J' o10 hF
    have bi : SBd (vn (aV A)) (gsA A x3 (x1 + k) n) := (gnA_b (T := aT A) (q := x3) (sd := x1 + k) bA'.1 (SOk.b bA') n).1
    have hG' := hG.fc bA' (FC.fl hF)
    refine b_142_47 (by omega) ⟨by omega, by omega, fun c => by omega, fun _ => liveK hG' bA' (by omega) h3 (fun J1 hS1 hF1 hV1 => ?_)⟩
    have hb : htA (aV A) (gsA A x3 (x1 + k) n) < 2 ^ ve (aV A) := bitF_lt _ _
    have := lb k
    have := mb k
    have w1 := wb k
    have ew : sumF (fun p => gsA A x3 (x1 + k) n (30 + p)) (vn (aV A)) = spW A x3 x1 n k := rfl
    have eh : ((bitF (fun p => decide (vtk (aV A) p ≤ gsA A x3 (x1 + k) n p)) (ve (aV A)) : Nat) : Int) = (htA (aV A) (gsA A x3 (x1 + k) n) : Nat) := rfl
    have E1 := e_61 (X := X) (sw := sw) (lg := lg) (x := x) (f := fun p => gsA A x3 (x1 + k) n (30 + p)) c_48 (cvA sw) hV1.2.2.1 v3 (fun p hp => hS1.2.2.2.2.1 p (by omega))
    have E2 := e_65 (X := X) (sw := sw) (lg := lg) (x := x) (f := gsA A x3 (x1 + k) n) (g := vtk (aV A)) c_48 (cvA sw) hV1.1 v1 (fun p hp => hS1.1 p (by omega)) (fun p hp => hV1.2.2.2.2.1 p hp) (fun p hp => by have := bi.1 p (by omega); have := bA'.1.2.2.2.2.2.1 p hp; omega)
    rw [ew] at E1
    rw [eh] at E2
    refine ⟨_, J1, E1, by omega, by omega, by omega, _, J1, E2, by omega, ?_⟩
    rw [hV1.1, bits_e v1]
    have nxt := ih J1 (some (iv (spW A x3 x1 n k))) (hF.tr hF1)
    refine ⟨by omega, fun c => ?_, fun c => ?_⟩
    · rw [cntF, if_neg (by unfold spH; rw [decide_eq_true_eq]; omega)] at nxt; exact nxt
    · rw [cntF, if_pos (by unfold spH; rw [decide_eq_true_eq]; omega)] at nxt; exact nxt
theorem rq_span (hG : GM J A) (bA' : ABd A) (h2 : InR x2) (h3 : InR x3) (h4 : InR x4) (h5 : InR x5) : AM X 7 269 [iv x1, iv x2, iv x3, iv x4, iv x5] J sw lg x A (spanQ A x1 x2 x3 x4 x5) cdS := by
  have v1 := bA'.1.1
  have v3 := bA'.1.2.2.1
  have hp := Nat.two_pow_pos (ve (aV A))
  have hp6 : 2 ^ ve (aV A) ≤ 64 := show _ ≤ 2 ^ 6 from Nat.pow_le_pow_right (by decide) v1
  refine AM.of mt_269 (b_269_0 (by omega) ⟨h2, fun c => QM.r2 hG (if_pos (by omega)) rfl, fun c1 => ⟨fun c => QM.r2 hG (if_pos (by omega)) rfl, fun c2 => ⟨h3, fun c => QM.r2 hG (if_pos (by omega)) rfl, fun c3 => ⟨fun c => QM.r2 hG (if_pos (by omega)) rfl, fun c4 => ⟨h4, fun c => QM.r2 hG (if_pos (by omega)) rfl, fun c5 => ⟨fun c => QM.r2 hG (if_pos (by omega)) rfl, fun c6 => ⟨h5, fun c => QM.r2 hG (if_pos (by omega)) rfl, fun c7 => ⟨fun c => QM.r2 hG (if_pos (by omega)) rfl, fun c8 => ?_⟩⟩⟩⟩⟩⟩⟩⟩)
  obtain ⟨n, rfl⟩ : ∃ e : Nat, x4 = (e : Int) := ⟨x4.toNat, by omega⟩
  obtain ⟨m, rfl⟩ : ∃ e : Nat, x2 = (e : Int) := ⟨x2.toNat, by omega⟩
  have wb := spW_b (A := A) (q := x3) (u := x1) (n := n) bA'
  have lb := leF_b wb
  have mb := mxF_b wb
  have hG1 := hG.fq (FQ.up0 (w := 0))
  refine lp (P := fun k => ∀ (J' : Nat → Nat → Int) (f : Int) (o10 : Option Value), f = (if k = 0 then -1 else leF (spW A x3 x1 n) k) → FN (m_up J 542 0 0) J' → VV X 7 269 (62, [some (.ref 542), some (iv x1), some (iv (m : Int)), some (iv x3), some (iv (n : Int)), some (iv x5), some (iv f), some (iv (mxF (spW A x3 x1 n) k)), some (iv (cntF (spH A x3 x1 n) k : Nat)), some (iv k), o10], [], mj J' sw lg x) (fun o M => QM J sw lg x A (spanQ A x1 (m : Int) x3 (n : Int) x5) cdS o M)) m ?_ ?_ 0 (Nat.zero_le _) _ (-1) _ rfl FN.rf
  · intro J' f o10 hf1 hF
    have hf : FQ J J' := FQ.up0.tr (FQ.fn hF)
    have h0 : J' 542 0 = 0 := by rw [hF.2 0 (by decide)]; exact up_eq _ _ _ _
    rw [if_neg (by omega)] at hf1
    refine b_269_62 (by omega) ⟨by omega, by omega, fun _ => ⟨h5, fun n0 => ⟨fun n1 => ?_, fun c => ?_⟩, fun c => ?_⟩, fun c => by omega⟩
    · exact QM.ok hG hf h0 rfl (by unfold spanQ; rw [if_neg (by omega), if_neg n0, if_neg n1]; rfl)
    · exact QM.ok hG hf h0 rfl (by unfold spanQ; rw [if_neg (by omega), if_neg n0, if_pos c]; rfl)
    · exact QM.ok' (cd := cdS) hG hf h0 rfl (show spanQ A x1 (m : Int) x3 (n : Int) x5 = (0, leF (spW A x3 x1 n) m) by unfold spanQ; rw [if_neg (by omega), if_pos c]; rfl) hf1
  · intro k hk ih J' f o10 hf1 hF
    have bi : SBd (vn (aV A)) (gsA A x3 (x1 + k) n) := (gnA_b (T := aT A) (q := x3) (sd := x1 + k) bA'.1 (SOk.b bA') n).1
    have hG' := hG1.fq (FQ.fn hF)
    have hb : htA (aV A) (gsA A x3 (x1 + k) n) < 2 ^ ve (aV A) := bitF_lt _ _
    have lbk := lb k
    have mbk := mb k
    have w1 := wb k
    have hfb : InR f := by rw [hf1]; split <;> omega
    have hfe : f = -1 ↔ k = 0 := by
      rw [hf1]
      split
      · rename_i z; exact ⟨fun _ => z, fun _ => rfl⟩
      · exact ⟨by omega, by omega⟩
    refine b_269_62 (by omega) ⟨by omega, by omega, fun c => by omega, fun _ => liveM hG' bA' (by omega) h3 (fun J1 hS1 hF1 hV1 => ?_)⟩
    have ew : sumF (fun p => gsA A x3 (x1 + k) n (30 + p)) (vn (aV A)) = spW A x3 x1 n k := rfl
    have eh : ((bitF (fun p => decide (vtk (aV A) p ≤ gsA A x3 (x1 + k) n p)) (ve (aV A)) : Nat) : Int) = (htA (aV A) (gsA A x3 (x1 + k) n) : Nat) := rfl
    have E1 := e_220 (X := X) (sw := sw) (lg := lg) (x := x) (o := 30) (f := fun p => gsA A x3 (x1 + k) n (30 + p)) hV1.2.2.1 v3 (by decide) (fun p hp => hS1 (30 + p) (by omega))
    have E2 := e_221 (X := X) (sw := sw) (lg := lg) (x := x) (f := gsA A x3 (x1 + k) n) (g := vtk (aV A)) hV1.1 v1 (fun p hp => hS1 p (by omega)) (fun p hp => hV1.2.2.2.2.2.1 p hp) (fun p hp => by have := bi.1 p (by omega); have := bA'.1.2.2.2.2.2.1 p hp; omega)
    rw [ew] at E1
    rw [eh] at E2
    have le1 : leF (spW A x3 x1 n) (k + 1) = min (leF (spW A x3 x1 n) k) (spW A x3 x1 n k) := rfl
    have mx1 : mxF (spW A x3 x1 n) (k + 1) = max (mxF (spW A x3 x1 n) k) (spW A x3 x1 n k) := rfl
    have le0 : k = 0 → leF (spW A x3 x1 n) k = 2147483647 := fun z => by rw [z]; rfl
    -- behind the choice of least and most
    have tail : ∀ (f2 g2 : Int), f2 = leF (spW A x3 x1 n) (k + 1) → g2 = mxF (spW A x3 x1 n) (k + 1) → ∃ (c5 : Int) (J4 : Nat → Nat → Int), EE X 1 221 [.ref 542] (mj J1 sw lg x) (.inl (some (iv c5))) (mj J4 sw lg x) ∧ InR c5 ∧ InR ((bShl 1 (J4 542 24)) - 1) ∧ (¬ c5 = (bShl 1 (J4 542 24)) - 1 → VV X 7 269 (62, [some (.ref 542), some (iv x1), some (iv (m : Int)), some (iv x3), some (iv (n : Int)), some (iv x5), some (iv f2), some (iv g2), some (iv (cntF (spH A x3 x1 n) k : Nat)), some (iv ((k : Int) + 1)), some (iv (spW A x3 x1 n k))], [], mj J4 sw lg x) (fun o M => QM J sw lg x A (spanQ A x1 (m : Int) x3 (n : Int) x5) cdS o M)) ∧ (c5 = (bShl 1 (J4 542 24)) - 1 → VV X 7 269 (62, [some (.ref 542), some (iv x1), some (iv (m : Int)), some (iv x3), some (iv (n : Int)), some (iv x5), some (iv f2), some (iv g2), some (iv ((cntF (spH A x3 x1 n) k : Nat) + 1)), some (iv ((k : Int) + 1)), some (iv (spW A x3 x1 n k))], [], mj J4 sw lg x) (fun o M => QM J sw lg x A (spanQ A x1 (m : Int) x3 (n : Int) x5) cdS o M)) := by
      intro f2 g2 e1 e2
      refine ⟨_, J1, E2, by omega, ?_⟩
      rw [hV1.1, bits_e v1]
      have nxt := ih J1 f2 (some (iv (spW A x3 x1 n k))) (by rw [if_neg (by omega)]; exact e1) (hF.tr hF1)
      rw [← e2] at nxt
      refine ⟨by omega, fun c => ?_, fun c => ?_⟩
      · rw [cntF, if_neg (by unfold spH; rw [decide_eq_true_eq]; omega)] at nxt; exact nxt
      · rw [cntF, if_pos (by unfold spH; rw [decide_eq_true_eq]; omega)] at nxt; exact nxt
    refine ⟨_, J1, E1, hfb, fun c => ⟨by omega, by omega, fun c' => tail _ _ ?_ ?_, fun c' => tail _ _ ?_ ?_⟩, fun c => ⟨by omega, fun c' => ⟨by omega, fun c'' => tail _ _ ?_ ?_, fun c'' => tail _ _ ?_ ?_⟩, fun c' => ⟨by omega, fun c'' => tail _ _ ?_ ?_, fun c'' => tail _ _ ?_ ?_⟩⟩⟩
    · have := le0 (hfe.mp c); omega
    · omega
    · have := le0 (hfe.mp c); omega
    · omega
    · rw [if_neg (fun z => c (hfe.mpr z))] at hf1; omega
    · omega
    · rw [if_neg (fun z => c (hfe.mpr z))] at hf1; omega
    · omega
    · rw [if_neg (fun z => c (hfe.mpr z))] at hf1; omega
    · omega
    · rw [if_neg (fun z => c (hfe.mpr z))] at hf1; omega
    · omega
end Q8
