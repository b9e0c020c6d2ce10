/-! the questions that look at one thing -/
section Q1
variable {X : Nat × (Nat → Int32)} {J : Nat → Nat → Int} {sw : Bool × Bool × Bool} {lg : Nat → Nat → Int64} {x : Nat} {A : AT} {u w t : Int}
theorem SOk.b {A : AT} (h : ABd A) : SBd (vn (aV A)) (aS A) := h.2.2.2.2.1.1
theorem SOk.d {A : AT} (h : ABd A) : 0 ≤ aS A 49 ∧ aS A 49 ≤ 2000 := by have := h.2.2.2.2.1.2.1; omega
def faultQ (A : AT) : Nat × Int := (0, aF A)
theorem kq_fault (hG : GK J sw A) (bA : ABd A) : AK X 0 115 [] J sw lg x A (faultQ A) := AK.of mt_115 (b_115_0 (QK.ok' hG bA FC.rf rfl hG.2.2.2.2.2.2.2.1))
theorem rq_fault (hG : GM J A) : AM X 0 178 [] J sw lg x A (faultQ A) cdS := AM.of mt_178 (b_178_0 (QM.ok' hG FQ.up0 (up_eq _ _ _ _) rfl rfl hG.2.2.2.2.2.2.2.1))
def statusQ (A : AT) (w : Int) : Nat × Int := (0, if w = 0 then aR0 A else if w = 1 then aR1 A else -1)
theorem kq_status (hG : GK J sw A) (bA : ABd A) (hw : InR w) : AK X 0 145 [iv w] J sw lg x A (statusQ A w) := by
  refine AK.of mt_145 (b_145_0 ⟨hw, fun c => ⟨fun c2 => ?_, fun c2 => ?_⟩, fun c => ?_⟩)
  · exact QK.ok hG bA FC.rf (by unfold statusQ; rw [if_neg c, if_neg c2])
  · exact QK.ok' hG bA FC.rf (by unfold statusQ; rw [if_neg c, if_pos c2]) hG.2.2.2.2.2.2.2.2.2.2
  · exact QK.ok' hG bA FC.rf (by unfold statusQ; rw [if_pos c]) hG.2.2.2.2.2.2.2.2.2.1
theorem rq_status (hG : GM J A) (hw : InR w) : AM X 1 274 [iv w] J sw lg x A (statusQ A w) cdS := by
  have h0 : m_up J 542 0 0 542 0 = 0 := up_eq _ _ _ _
  refine AM.of mt_274 (b_274_0 (by omega) ⟨hw, fun c => ?_, fun c => ⟨fun c2 => ?_, fun c2 => ⟨by omega, ?_⟩⟩⟩)
  · exact QM.ok hG FQ.up0 h0 rfl (by unfold statusQ; rw [if_neg (by omega), if_neg (by omega)])
  · exact QM.ok hG FQ.up0 h0 rfl (by unfold statusQ; rw [if_neg (by omega), if_neg (by omega)])
  · have : w = 0 ∨ w = 1 := by omega
    rcases this with rfl | rfl
    · exact QM.ok' hG FQ.up0 h0 rfl rfl hG.2.2.2.2.2.2.2.2.2.1
    · exact QM.ok' hG FQ.up0 h0 rfl rfl hG.2.2.2.2.2.2.2.2.2.2
def countQ (A : AT) (w : Int) : Nat × Int := (0, if w = 0 then (aIn A : Int) else if w = 1 then (aTn A : Int) else if w = 2 then (aPn A : Int) else -1)
theorem kq_count (hG : GK J sw A) (bA : ABd A) (hw : InR w) : AK X 0 146 [iv w] J sw lg x A (countQ A w) := by
  refine AK.of mt_146 (b_146_0 ⟨hw, fun c => ?_, fun c => ?_, fun c => ?_, fun c => ?_⟩)
  · exact QK.ok' hG bA FC.rf (by unfold countQ; rw [if_pos c]) hG.2.2.2.2.2.1.1
  · exact QK.ok' hG bA FC.rf (by unfold countQ; rw [if_neg (by omega), if_pos c]) hG.2.2.2.2.2.2.1.1
  · exact QK.ok' hG bA FC.rf (by unfold countQ; rw [if_neg (by omega), if_neg (by omega), if_pos c]) hG.2.2.2.2.1.1
  · exact QK.ok hG bA FC.rf (by unfold countQ; rw [if_neg (by omega), if_neg (by omega), if_neg (by omega)])
theorem rq_count (hG : GM J A) (hw : InR w) : AM X 0 275 [iv w] J sw lg x A (countQ A w) cdS := by
  have h0 : m_up J 542 0 0 542 0 = 0 := up_eq _ _ _ _
  refine AM.of mt_275 (b_275_0 ⟨hw, fun c => ⟨fun c2 => ⟨fun c3 => ?_, fun c3 => ?_⟩, fun c2 => ?_⟩, fun c => ?_⟩)
  · exact QM.ok hG FQ.up0 h0 rfl (by unfold countQ; rw [if_neg c, if_neg c2, if_neg c3])
  · exact QM.ok' hG FQ.up0 h0 rfl (by unfold countQ; rw [if_neg c, if_neg c2, if_pos c3]) hG.2.2.2.2.1.1
  · exact QM.ok' hG FQ.up0 h0 rfl (by unfold countQ; rw [if_neg c, if_pos c2]) hG.2.2.2.2.2.2.1.1
  · exact QM.ok' hG FQ.up0 h0 rfl (by unfold countQ; rw [if_pos c]) hG.2.2.2.2.2.1.1
/-- what told answers -/
def toldA (A : AT) (w : Int) : Int :=
  if w = 0 then (ve (aV A) : Int) else if w = 1 then (vh (aV A) : Int) else if w = 2 then (vn (aV A) : Int) else if w = 3 then (vp (aV A) : Int) else if w = 4 then aS A 49 else if w = 5 then aS A 48 else if w = 6 then (bitF (fun p => decide (vtk (aV A) p ≤ aS A p)) (ve (aV A)) : Nat) else if w = 7 then (bitF (fun p => decide (¬ aS A (12 + p) = -1)) (ve (aV A)) : Nat) else if w = 8 then (bitF (fun h => decide (aS A (18 + h) = 1)) 6 : Nat) else if w = 9 then sumF (fun p => aS A (30 + p)) (vn (aV A)) else if w = 10 then (aBn A : Int) else aRs A
def toldQ (A : AT) (w : Int) : Nat × Int := if w < 0 ∨ 11 < w then (2, 0) else (0, toldA A w)
theorem toldQ_y {w : Int} (h : ¬ (w < 0 ∨ 11 < w)) : toldQ A w = (0, toldA A w) := if_neg h
theorem kq_told (hG : GK J sw A) (bA : ABd A) (hw : InR w) : AK X 2 117 [iv w] J sw lg x A (toldQ A w) := by
  have bs := SOk.b bA
  have v1 := bA.1.1
  have v3 := bA.1.2.2.1
  have hS := hG.2.2.2.1
  refine AK.of mt_117 (b_117_0 (by omega) ⟨hw, fun c => ?_, fun c => ?_, fun c => ?_, fun c => ?_, fun c => ?_, fun c => ?_, fun c => ?_, fun c => ?_, fun c => ?_, fun c => ?_, fun c => ?_, fun c => ?_, fun c => QK.r2 hG bA (if_pos c)⟩)
  · subst c; exact QK.ok' hG bA FC.rf (toldQ_y (by decide)) hG.1.1.1
  · subst c; exact QK.ok' hG bA FC.rf (toldQ_y (by decide)) hG.1.1.2.1
  · subst c; exact QK.ok' hG bA FC.rf (toldQ_y (by decide)) hG.1.1.2.2.1
  · subst c; exact QK.ok' hG bA FC.rf (toldQ_y (by decide)) hG.1.2.1
  · subst c; exact QK.ok' hG bA FC.rf (toldQ_y (by decide)) hS.2.2.2.2.2.2.2.1
  · subst c; exact QK.ok' hG bA FC.rf (toldQ_y (by decide)) hS.2.2.2.2.2.2.2.2
  · subst c
    exact ⟨_, J, e_65 c_41 (cvA sw) hG.1.1.1 v1 (fun p hp => hS.1 p (by omega)) (fun p hp => hG.1.1.2.2.2.2.1 p hp) (fun p hp => by have := bs.1 p (by omega); have := bA.1.2.2.2.2.2.1 p hp; omega), QK.ok hG bA FC.rf (toldQ_y (by decide))⟩
  · subst c
    exact ⟨_, J, e_66 (f := fun p => aS A (12 + p)) c_41 (cvA sw) hG.1.1.1 v1 (fun p hp => hS.2.2.1 p (by omega)) (fun p hp => by have := bs.2.1 p (by omega); omega), QK.ok hG bA FC.rf (toldQ_y (by decide))⟩
  · subst c; exact QK.ok' hG bA FC.rf (toldQ_y (by decide)) hS.2.2.2.2.2.2.1
  · subst c
    exact ⟨_, J, e_61 (f := fun p => aS A (30 + p)) c_41 (cvA sw) hG.1.1.2.2.1 v3 (fun p hp => hS.2.2.2.2.1 p (by omega)), QK.ok hG bA FC.rf (toldQ_y (by decide))⟩
  · subst c; exact QK.ok' hG bA FC.rf (toldQ_y (by decide)) hG.2.2.1.1
  · subst c; exact QK.ok' hG bA FC.rf (toldQ_y (by decide)) hG.2.2.2.2.2.2.2.2.1
theorem q_sb {b p : Nat} (hb : b = 0 ∨ b = 1) (hp : p < 31) : bShl (b : Int) (p : Int) = ((if b = 1 then 2 ^ p else 0 : Nat) : Int) := by
  rcases hb with rfl | rfl
  · have : ∀ p : Nat, p < 31 → bShl ((0 : Nat) : Int) (p : Int) = 0 := by decide +kernel
    rw [this p hp]; rfl
  · exact q_shl p hp
theorem e_223 {s : Nat → Int} {n : Nat} (hn : J 542 25 = (n : Int)) (h6 : n ≤ 6) (hs : ∀ p, p < n → J 562 (18 + p) = s (18 + p)) (hb : ∀ p, p < n → s (18 + p) = 0 ∨ s (18 + p) = 1) : EE X 0 223 [.ref 542] (mj J sw lg x) (.inl (some (iv (bitF (fun h => decide (s (18 + h) = 1)) n : Nat)))) (mj J sw lg x) := by
  refine EE.of mt_223 (b_223_0 ?_)
  refine lp (P := fun k => VV X 0 223 (4, [some (.ref 542), some (iv (bitF (fun h => decide (s (18 + h) = 1)) k : Nat)), some (iv k)], [], mj J sw lg x) _) n ?_ ?_ 0 (Nat.zero_le _)
  · exact b_223_4 ⟨by omega, by omega, fun _ => ⟨rfl, rfl⟩, fun c => by omega⟩
  · intro k hk ih
    have e : J 562 (18 + (k : Int)).toNat = s (18 + k) := hs k hk
    refine b_223_4 ⟨by omega, by omega, fun c => by omega, fun _ => ⟨by omega, ?_⟩⟩
    rw [e]
    rcases hb k hk with z | z
    · rw [z, show bShl 0 (k : Int) = 0 from q_sb (b := 0) (Or.inl rfl) (by omega), bitF_z (by omega) (by simp [z])]; exact ih
    · rw [z, bitF_y (by omega) (by simp [z])]; exact ih
theorem bitF_ext {p : Nat → Bool} {n : Nat} : ∀ m, (∀ k, n ≤ k → k < n + m → p k = false) → bitF p (n + m) = bitF p n
  | 0, _ => rfl
  | m + 1, h => by
    show bitF p (n + m + 1) = _
    rw [bitF_n (by rw [h (n + m) (by omega) (by omega)]; decide)]
    exact bitF_ext m (fun k a b => h k a (by omega))
theorem rq_told (hG : GM J A) (bA : ABd A) (hw : InR w) : AM X 2 224 [iv w] J sw lg x A (toldQ A w) cdS := by
  have bs := SOk.b bA
  have v1 := bA.1.1
  have v2 := bA.1.2.1
  have v3 := bA.1.2.2.1
  refine AM.of mt_224 (b_224_0 (by omega) ⟨hw, fun c => QM.r2 hG (if_pos (Or.inl c)) rfl, fun c1 => ⟨fun c => QM.r2 hG (if_pos (Or.inr c)) rfl, fun c2 => ?_⟩⟩)
  have hy := toldQ_y (A := A) (w := w) (by omega)
  have hG1 := hG.fq (FQ.up0 (w := 0))
  refine ex0 (e_204 hG1.2.2.2.1) (fun J1 hh => ?_)
  have hf : FQ J J1 := FQ.up0.tr (FQ.fm hh.2)
  have h0 : J1 542 0 = 0 := by rw [hh.2 542 (by decide)]; exact up_eq _ _ _ _
  have hG2 := hG.fq hf
  have hS := hh.1
  refine ⟨fun c3 => ⟨fun c4 => ⟨fun c5 => ⟨fun c6 => ⟨fun c7 => ?_, fun c7 => ?_⟩, fun c6 => ?_⟩, fun c5 => ?_⟩, fun c4 => ⟨fun c5 => ⟨fun c6 => ⟨fun c7 => ?_, fun c7 => ?_⟩, fun c6 => ?_⟩, fun c5 => ?_⟩⟩, fun c3 => ⟨fun c4 => ⟨fun c5 => ⟨fun c6 => ?_, fun c6 => ?_⟩, fun c5 => ?_⟩, fun c4 => ?_⟩⟩
  · have : w = 11 := by omega
    subst this; exact QM.ok' hG hf h0 rfl hy hG2.2.2.2.2.2.2.2.2.1
  · subst c7; exact QM.ok' hG hf h0 rfl hy hG2.2.2.1.1
  · subst c6
    exact ⟨_, J1, e_220 (o := 30) (f := fun p => aS A (30 + p)) hG2.1.1.2.2.1 v3 (by decide) (fun p hp => hS (30 + p) (by omega)), QM.ok hG hf h0 rfl hy⟩
  · subst c5
    have e1 : bitF (fun h => decide (aS A (18 + h) = 1)) 6 = bitF (fun h => decide (aS A (18 + h) = 1)) (vh (aV A)) := by
      have := bitF_ext (p := fun h => decide (aS A (18 + h) = 1)) (n := vh (aV A)) (6 - vh (aV A)) (fun k a b => by rw [bA.2.2.2.2.1.2.2 k a (by omega)]; rfl)
      rw [show vh (aV A) + (6 - vh (aV A)) = 6 by omega] at this
      exact this
    refine ⟨_, J1, e_223 (s := aS A) hG2.1.1.2.1 v2 (fun p hp => hS (18 + p) (by omega)) (fun p hp => bs.2.2.1 p (by omega)), QM.ok' hG hf h0 rfl hy ?_⟩
    show _ = ((bitF (fun h => decide (aS A (18 + h) = 1)) 6 : Nat) : Int)
    rw [e1]
  · have : w = 7 := by omega
    subst this
    refine ⟨_, J1, e_222 (t := -1) (f := fun p => aS A (12 + p)) (by decide) hG2.1.1.1 v1 (fun p hp => hS (12 + p) (by omega)) (fun p hp => by have := bs.2.1 p (by omega); omega), QM.ok' hG hf h0 rfl hy ?_⟩
    show _ = ((bitF (fun p => decide (¬ aS A (12 + p) = -1)) (ve (aV A)) : Nat) : Int)
    refine congrArg (fun z : Nat => (z : Int)) (bitF_congr (fun k hk => ?_))
    simp
  · subst c7
    exact ⟨_, J1, e_221 hG2.1.1.1 v1 (fun p hp => hS p (by omega)) (fun p hp => hG2.1.1.2.2.2.2.2.1 p hp) (fun p hp => by have := bs.1 p (by omega); have := bA.1.2.2.2.2.2.1 p hp; omega), QM.ok hG hf h0 rfl hy⟩
  · subst c6; exact QM.ok' hG hf h0 rfl hy (hS 48 (by omega))
  · subst c5; exact QM.ok' hG hf h0 rfl hy (hS 49 (by omega))
  · have : w = 3 := by omega
    subst this; exact QM.ok' hG hf h0 rfl hy hG2.1.1.2.2.2.1
  · subst c6; exact QM.ok' hG hf h0 rfl hy hG2.1.1.2.2.1
  · subst c5; exact QM.ok' hG hf h0 rfl hy hG2.1.1.2.1
  · subst c4; exact QM.ok' hG hf h0 rfl hy hG2.1.1.1
/-- an egg -/
def eggA (A : AT) (e : Nat) (w : Int) : Int := if w = 0 then vtk (aV A) e else if w = 1 then aS A e else if w = 2 then aS A (6 + e) else if w = 3 then aS A (12 + e) else if w = 4 then (if aS A e < 2 * aS A (6 + e) then 1 else 0) else max 0 (vtk (aV A) e - aS A e)
def eggQ (A : AT) (u w : Int) : Nat × Int := if u < 0 ∨ (ve (aV A) : Int) ≤ u then (1, 0) else if w < 0 ∨ 5 < w then (2, 0) else (0, eggA A u.toNat w)
theorem kq_egg (hG : GK J sw A) (bA : ABd A) (hu : InR u) (hw : InR w) : AK X 2 118 [iv u, iv w] J sw lg x A (eggQ A u w) := by
  have bs := SOk.b bA
  have v1 := bA.1.1
  have hS := hG.2.2.2.1
  refine AK.of mt_118 (b_118_0 (by omega) ?_)
  rw [hG.1.1.1]
  refine ⟨hu, fun c => QK.r1 hG bA (if_pos (Or.inl c)), fun c1 => ⟨by omega, fun c2 => ?_, fun c => QK.r1 hG bA (if_pos (Or.inr c))⟩⟩
  obtain ⟨e, rfl⟩ : ∃ e : Nat, u = (e : Int) := ⟨u.toNat, by omega⟩
  have hy : ∀ w : Int, ¬ (w < 0 ∨ 5 < w) → eggQ A (e : Int) w = (0, eggA A e w) := fun w hw => by unfold eggQ; rw [if_neg (by omega), if_neg hw]; rfl
  have f0 : J 42 (e : Int).toNat = aS A e := hS.1 e (by omega)
  have f1 : J 43 (e : Int).toNat = aS A (6 + e) := hS.2.1 e (by omega)
  have f2 : J 44 (e : Int).toNat = aS A (12 + e) := hS.2.2.1 e (by omega)
  have f3 : J (vA sw + 1) (e : Int).toNat = vtk (aV A) e := hG.1.1.2.2.2.2.1 e (by omega)
  have b1 := bs.1 e (by omega)
  have b2 := bA.1.2.2.2.2.2.1 e (by omega)
  rw [f0, f1, f2, f3]
  refine ⟨hw, fun c => ⟨by omega, ?_⟩, fun c => ⟨by omega, ?_⟩, fun c => ⟨by omega, ?_⟩, fun c => ⟨by omega, ?_⟩, fun c => ⟨by omega, by omega, by omega, fun c3 => ?_, fun c3 => ?_⟩, fun c => ⟨by omega, by omega, ?_⟩, fun c => QK.r2 hG bA (by unfold eggQ; rw [if_neg (by omega), if_pos c])⟩
  · subst c; exact QK.ok hG bA FC.rf (hy _ (by decide))
  · subst c; exact QK.ok hG bA FC.rf (hy _ (by decide))
  · subst c; exact QK.ok hG bA FC.rf (hy _ (by decide))
  · subst c; exact QK.ok hG bA FC.rf (hy _ (by decide))
  · subst c; exact QK.ok' hG bA FC.rf (hy _ (by decide)) (by simp [eggA]; omega)
  · subst c; exact QK.ok' hG bA FC.rf (hy _ (by decide)) (by simp [eggA]; omega)
  · subst c; exact QK.ok hG bA FC.rf (hy _ (by decide))
theorem rq_egg (hG : GM J A) (bA : ABd A) (hu : InR u) (hw : InR w) : AM X 2 228 [iv u, iv w] J sw lg x A (eggQ A u w) cdB := by
  have bs := SOk.b bA
  have v1 := bA.1.1
  refine AM.of mt_228 (b_228_0 (by omega) ?_)
  rw [hG.1.1.1]
  refine ⟨hu, fun c => QM.r1 hG (if_pos (Or.inl c)) rfl, fun c1 => ⟨by omega, fun c => QM.r1 hG (if_pos (Or.inr (by omega))) rfl, fun c2 => ⟨hw, fun c => QM.r2 hG (by unfold eggQ; rw [if_neg (by omega), if_pos (Or.inl c)]) rfl, fun c3 => ⟨fun c => QM.r2 hG (by unfold eggQ; rw [if_neg (by omega), if_pos (Or.inr c)]) rfl, fun c4 => ?_⟩⟩⟩⟩
  obtain ⟨e, rfl⟩ : ∃ e : Nat, u = (e : Int) := ⟨u.toNat, by omega⟩
  have hy : eggQ A (e : Int) w = (0, eggA A e w) := by unfold eggQ; rw [if_neg (by omega), if_neg (by omega)]; rfl
  have hG1 := hG.fq (FQ.up0 (w := 0))
  refine ex0 (e_204 hG1.2.2.2.1) (fun J1 hh => ?_)
  have hf : FQ J J1 := FQ.up0.tr (FQ.fm hh.2)
  have h0 : J1 542 0 = 0 := by rw [hh.2 542 (by decide)]; exact up_eq _ _ _ _
  have hG2 := hG.fq hf
  have hS := hh.1
  have f0 : J1 562 (e : Int).toNat = aS A e := hS e (by omega)
  have f1 : J1 562 (6 + (e : Int)).toNat = aS A (6 + e) := hS (6 + e) (by omega)
  have f2 : J1 562 (12 + (e : Int)).toNat = aS A (12 + e) := hS (12 + e) (by omega)
  have f3 : J1 549 (e : Int).toNat = vtk (aV A) e := hG2.1.1.2.2.2.2.2.1 e (by omega)
  have b1 := bs.1 e (by omega)
  have b2 := bA.1.2.2.2.2.2.1 e (by omega)
  rw [f0, f1, f2, f3]
  refine ⟨fun c => ⟨fun c5 => ⟨by omega, by omega, by omega, by omega, fun c6 => ?_, fun c6 => ?_⟩, fun c5 => ⟨by omega, by omega, by omega, by omega, fun c6 => ?_, fun c6 => ?_⟩⟩, fun c => ⟨fun c5 => ⟨fun c6 => ⟨fun c7 => ⟨by omega, ?_⟩, fun c7 => ⟨by omega, ?_⟩⟩, fun c6 => ⟨by omega, ?_⟩⟩, fun c5 => ⟨by omega, ?_⟩⟩⟩
  · have : w = 5 := by omega
    subst this; exact QM.ok' hG hf h0 rfl hy (by simp [eggA]; omega)
  · have : w = 5 := by omega
    subst this; exact QM.ok' hG hf h0 rfl hy (by simp [eggA]; omega)
  · subst c5; exact QM.ok' hG hf h0 rfl hy (by simp [eggA]; omega)
  · subst c5; exact QM.ok' hG hf h0 rfl hy (by simp [eggA]; omega)
  · have : w = 3 := by omega
    subst this; exact QM.ok hG hf h0 rfl hy
  · subst c7; exact QM.ok hG hf h0 rfl hy
  · subst c6; exact QM.ok hG hf h0 rfl hy
  · subst c5; exact QM.ok hG hf h0 rfl hy
/-- a hand -/
def handA (A : AT) (h : Nat) (w : Int) : Int := if w = 0 then van (aV A) h else if w = 1 then aS A (18 + h) else aS A (24 + h)
def handQ (A : AT) (u w : Int) : Nat × Int := if u < 0 ∨ (vh (aV A) : Int) ≤ u then (1, 0) else if w < 0 ∨ 2 < w then (2, 0) else (0, handA A u.toNat w)
theorem kq_hand (hG : GK J sw A) (bA : ABd A) (hu : InR u) (hw : InR w) : AK X 2 119 [iv u, iv w] J sw lg x A (handQ A u w) := by
  have bs := SOk.b bA
  have v1 := bA.1.2.1
  have hS := hG.2.2.2.1
  refine AK.of mt_119 (b_119_0 (by omega) ?_)
  rw [hG.1.1.2.1]
  refine ⟨hu, fun c => QK.r1 hG bA (if_pos (Or.inl c)), fun c1 => ⟨by omega, fun c2 => ?_, fun c => QK.r1 hG bA (if_pos (Or.inr c))⟩⟩
  obtain ⟨e, rfl⟩ : ∃ e : Nat, u = (e : Int) := ⟨u.toNat, by omega⟩
  have hy : ∀ w : Int, ¬ (w < 0 ∨ 2 < w) → handQ A (e : Int) w = (0, handA A e w) := fun w hw => by unfold handQ; rw [if_neg (by omega), if_neg hw]; rfl
  have f0 : J 45 (e : Int).toNat = aS A (24 + e) := hS.2.2.2.1 e (by omega)
  have f1 : J (vA sw + 2) (e : Int).toNat = van (aV A) e := hG.1.1.2.2.2.2.2.1 e (by omega)
  have b1 := bs.2.2.1 e (by omega)
  rw [f0, f1, SV_tb hS bs.2.2.1 (by omega)]
  refine ⟨hw, fun c => ⟨by omega, ?_⟩, fun c => ⟨fun c3 => ?_, fun c3 => ?_⟩, fun c => ⟨by omega, ?_⟩, fun c => QK.r2 hG bA (by unfold handQ; rw [if_neg (by omega), if_pos c])⟩
  · subst c; exact QK.ok hG bA FC.rf (hy _ (by decide))
  · subst c; exact QK.ok' hG bA FC.rf (hy _ (by decide)) (by simp [handA]; omega)
  · subst c; exact QK.ok' hG bA FC.rf (hy _ (by decide)) (by simp [handA]; omega)
  · subst c; exact QK.ok hG bA FC.rf (hy _ (by decide))
theorem rq_hand (hG : GM J A) (bA : ABd A) (hu : InR u) (hw : InR w) : AM X 2 229 [iv u, iv w] J sw lg x A (handQ A u w) cdB := by
  have v1 := bA.1.2.1
  refine AM.of mt_229 (b_229_0 (by omega) ?_)
  rw [hG.1.1.2.1]
  refine ⟨hu, fun c => QM.r1 hG (if_pos (Or.inl c)) rfl, fun c1 => ⟨by omega, fun c => QM.r1 hG (if_pos (Or.inr (by omega))) rfl, fun c2 => ⟨hw, fun c => QM.r2 hG (by unfold handQ; rw [if_neg (by omega), if_pos (Or.inl c)]) rfl, fun c3 => ⟨fun c => QM.r2 hG (by unfold handQ; rw [if_neg (by omega), if_pos (Or.inr c)]) rfl, fun c4 => ?_⟩⟩⟩⟩
  obtain ⟨e, rfl⟩ : ∃ e : Nat, u = (e : Int) := ⟨u.toNat, by omega⟩
  have hy : handQ A (e : Int) w = (0, handA A e w) := by unfold handQ; rw [if_neg (by omega), if_neg (by omega)]; rfl
  have h0 : m_up J 542 0 0 542 0 = 0 := up_eq _ _ _ _
  have hS := hG.2.2.2.1
  have f0 : J 561 (24 + (e : Int)).toNat = aS A (24 + e) := hS (24 + e) (by omega)
  have f1 : J 561 (18 + (e : Int)).toNat = aS A (18 + e) := hS (18 + e) (by omega)
  have f3 : J 550 (e : Int).toNat = van (aV A) e := hG.1.1.2.2.2.2.2.2.1 e (by omega)
  rw [f0, f1, f3]
  refine ⟨fun c => ⟨fun c5 => ⟨by omega, ?_⟩, fun c5 => ⟨by omega, ?_⟩⟩, fun c => ⟨by omega, ?_⟩⟩
  · have : w = 2 := by omega
    subst this; exact QM.ok hG FQ.up0 h0 rfl hy
  · subst c5; exact QM.ok hG FQ.up0 h0 rfl hy
  · subst c; exact QM.ok hG FQ.up0 h0 rfl hy
end Q1
