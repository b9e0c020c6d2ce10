/-! questions of a hole, a path, a darn -/
section Q2
variable {X : Nat × (Nat → Int32)} {J : Nat → Nat → Int} {sw : Bool × Bool × Bool} {lg : Nat → Nat → Int64} {x : Nat} {A : AT} {u w t : Int}
/-- the row taken for a question -/
theorem takeM {P : (Nat → Nat → Int) → Prop} (hG : GM J A) (k : ∀ J1, MV J1 562 (aS A) → FQ J J1 → J1 542 0 = 0 → GM J1 A → P J1) : ∃ J1, EE X 1 204 [.ref 542] (mj (m_up J 542 0 0) sw lg x) (.inl none) (mj J1 sw lg x) ∧ P J1 := by
  have hG1 := hG.fq (FQ.up0 (w := 0))
  refine ex0 (e_204 hG1.2.2.2.1) (fun J1 hh => ?_)
  have hf : FQ J J1 := FQ.up0.tr (FQ.fm hh.2)
  exact k J1 hh.1 hf (by rw [hh.2 542 (by decide)]; exact up_eq _ _ _ _) (hG.fq hf)
def holeA (A : AT) (p : Nat) (w : Int) : Int := if w = 0 then aS A (30 + p) else if w = 1 then aS A (39 + p) else if w = 2 then aW A p else if w = 3 then (vnr (aV A) p : Nat) else (bitF (fun e => decide (aS A (12 + e) = (p : Int))) (ve (aV A)) : Nat)
def holeQ (A : AT) (u w : Int) : Nat × Int := if u < 0 ∨ (vn (aV A) : Int) ≤ u then (1, 0) else if w < 0 ∨ 4 < w then (2, 0) else (0, holeA A u.toNat w)
theorem kq_hole (hG : GK J sw A) (bA : ABd A) (hu : InR u) (hw : InR w) : AK X 2 120 [iv u, iv w] J sw lg x A (holeQ A u w) := by
  have bs := SOk.b bA
  have v1 := bA.1.1
  have v3 := bA.1.2.2.1
  have hS := hG.2.2.2.1
  refine AK.of mt_120 (b_120_0 (by omega) ?_)
  rw [hG.1.1.2.2.1]
  refine ⟨hu, fun c => QK.r1 hG bA (if_pos (Or.inl c)), fun c1 => ⟨by omega, fun c2 => ?_, fun c => QK.r1 hG bA (if_pos (Or.inr c))⟩⟩
  obtain ⟨p, rfl⟩ : ∃ p : Nat, u = (p : Int) := ⟨u.toNat, by omega⟩
  have hy : ∀ w : Int, ¬ (w < 0 ∨ 4 < w) → holeQ A (p : Int) w = (0, holeA A p w) := fun w hw => by unfold holeQ; rw [if_neg (by omega), if_neg hw]; rfl
  have f0 : J 46 (p : Int).toNat = aS A (30 + p) := hS.2.2.2.2.1 p (by omega)
  have f1 : J 47 (p : Int).toNat = aS A (39 + p) := hS.2.2.2.2.2.1 p (by omega)
  have f2 : J (vA sw + 3) (p : Int).toNat = aW A p := hG.1.2.2.1 p (by omega)
  have f3 : J (vA sw + 4) (p : Int).toNat = (vnr (aV A) p : Nat) := hG.1.1.2.2.2.2.2.2 p (by omega)
  rw [f0, f1, f2, f3]
  refine ⟨hw, fun c => ⟨by omega, ?_⟩, fun c => ⟨by omega, ?_⟩, fun c => ⟨by omega, ?_⟩, fun c => ⟨by omega, ?_⟩, fun c => ?_, fun c => QK.r2 hG bA (by unfold holeQ; rw [if_neg (by omega), if_pos c])⟩
  · subst c; exact QK.ok hG bA FC.rf (hy _ (by decide))
  · subst c; exact QK.ok hG bA FC.rf (hy _ (by decide))
  · subst c; exact QK.ok hG bA FC.rf (hy _ (by decide))
  · subst c; exact QK.ok hG bA FC.rf (hy _ (by decide))
  · subst c
    exact ⟨_, J, e_67 (t := (p : Int)) (f := fun e => aS A (12 + e)) c_41 (cvA sw) (by omega) hG.1.1.1 v1 (fun e he => hS.2.2.1 e (by omega)) (fun e he => by have := bs.2.1 e (by omega); omega), QK.ok hG bA FC.rf (hy _ (by decide))⟩
theorem rq_hole (hG : GM J A) (bA : ABd A) (hu : InR u) (hw : InR w) : AM X 2 230 [iv u, iv w] J sw lg x A (holeQ A u w) cdB := by
  have bs := SOk.b bA
  have v1 := bA.1.1
  have v3 := bA.1.2.2.1
  refine AM.of mt_230 (b_230_0 (by omega) ?_)
  rw [hG.1.1.2.2.1]
  refine ⟨hu, fun c => QM.r1 hG (if_pos (Or.inl c)) rfl, fun c1 => ⟨by omega, fun c => QM.r1 hG (if_pos (Or.inr (by omega))) rfl, fun c2 => ⟨hw, fun c => QM.r2 hG (by unfold holeQ; rw [if_neg (by omega), if_pos (Or.inl c)]) rfl, fun c3 => ⟨fun c => QM.r2 hG (by unfold holeQ; rw [if_neg (by omega), if_pos (Or.inr c)]) rfl, fun c4 => ?_⟩⟩⟩⟩
  obtain ⟨p, rfl⟩ : ∃ p : Nat, u = (p : Int) := ⟨u.toNat, by omega⟩
  have hy : holeQ A (p : Int) w = (0, holeA A p w) := by unfold holeQ; rw [if_neg (by omega), if_neg (by omega)]; rfl
  refine takeM hG (fun J1 hS hf h0 hG2 => ?_)
  have f0 : J1 562 (30 + (p : Int)).toNat = aS A (30 + p) := hS (30 + p) (by omega)
  have f1 : J1 562 (39 + (p : Int)).toNat = aS A (39 + p) := hS (39 + p) (by omega)
  have f2 : J1 551 (p : Int).toNat = aW A p := hG2.1.2 p (by omega)
  rw [f0, f1, f2]
  refine ⟨fun n0 => ⟨fun n1 => ⟨fun n2 => ⟨fun n3 => ?_, fun c => ?_⟩, fun c => ⟨by omega, ?_⟩⟩, fun c => ⟨by omega, ?_⟩⟩, fun c => ⟨by omega, ?_⟩⟩
  · have : w = 4 := by omega
    subst this
    refine ⟨_, J1, e_222 (t := (p : Int)) (f := fun e => aS A (12 + e)) (by omega) hG2.1.1.1 v1 (fun e he => hS (12 + e) (by omega)) (fun e he => by have := bs.2.1 e (by omega); omega), QM.ok' hG hf h0 rfl hy ?_⟩
    show _ = ((bitF (fun e => decide (aS A (12 + e) = (p : Int))) (ve (aV A)) : Nat) : Int)
    refine congrArg (fun z : Nat => (z : Int)) (bitF_congr (fun k hk => ?_))
    apply decide_eq_decide.mpr
    constructor
    · rintro ⟨_, q | q⟩
      · omega
      · exact q
    · intro q
      exact ⟨by omega, Or.inr q⟩
  · subst c; exact ⟨_, J1, e_205' hG2.1.1 bA.1 p (by omega), QM.ok hG hf h0 rfl hy⟩
  · subst c; exact QM.ok hG hf h0 rfl hy
  · subst c; exact QM.ok hG hf h0 rfl hy
  · subst c; exact QM.ok hG hf h0 rfl hy
def pathQ (A : AT) (u w : Int) : Nat × Int := if u < 0 ∨ (vp (aV A) : Int) ≤ u then (1, 0) else if w < 0 ∨ 1 < w then (2, 0) else (0, vg (aV A) (2 * u.toNat + w.toNat))
theorem kq_path (hG : GK J sw A) (bA : ABd A) (hu : InR u) (hw : InR w) : AK X 1 121 [iv u, iv w] J sw lg x A (pathQ A u w) := by
  have v4 := bA.1.2.2.2.1
  refine AK.of mt_121 (b_121_0 (by omega) ?_)
  rw [hG.1.2.1]
  refine ⟨hu, fun c => QK.r1 hG bA (if_pos (Or.inl c)), fun c1 => ⟨by omega, fun c2 => ?_, fun c => QK.r1 hG bA (if_pos (Or.inr c))⟩⟩
  obtain ⟨p, rfl⟩ : ∃ p : Nat, u = (p : Int) := ⟨u.toNat, by omega⟩
  have hy : ∀ w : Int, ¬ (w < 0 ∨ 1 < w) → pathQ A (p : Int) w = (0, vg (aV A) (2 * p + w.toNat)) := fun w hw => by unfold pathQ; rw [if_neg (by omega), if_neg hw]; rfl
  have ff := hG.1.2.2.2 p (by omega)
  have f0 : J (vA sw + 5) (p : Int).toNat = vg (aV A) (2 * p) := ff.1
  have f1 : J (vA sw + 6) (p : Int).toNat = vg (aV A) (2 * p + 1) := ff.2
  rw [f0, f1]
  refine ⟨hw, fun c => ⟨by omega, ?_⟩, fun c => ⟨by omega, ?_⟩, fun c => QK.r2 hG bA (by unfold pathQ; rw [if_neg (by omega), if_pos (by omega)])⟩
  · subst c; exact QK.ok hG bA FC.rf (hy _ (by decide))
  · subst c; exact QK.ok hG bA FC.rf (hy _ (by decide))
theorem rq_path (hG : GM J A) (bA : ABd A) (hu : InR u) (hw : InR w) : AM X 1 231 [iv u, iv w] J sw lg x A (pathQ A u w) cdB := by
  have v4 := bA.1.2.2.2.1
  refine AM.of mt_231 (b_231_0 (by omega) ?_)
  rw [hG.1.1.2.2.2.1]
  refine ⟨hu, fun c => QM.r1 hG (if_pos (Or.inl c)) rfl, fun c1 => ⟨by omega, fun c => QM.r1 hG (if_pos (Or.inr (by omega))) rfl, fun c2 => ⟨hw, fun c => QM.r2 hG (by unfold pathQ; rw [if_neg (by omega), if_pos (Or.inl c)]) rfl, fun c3 => ⟨fun c => QM.r2 hG (by unfold pathQ; rw [if_neg (by omega), if_pos (Or.inr c)]) rfl, fun c4 => ⟨by omega, ?_⟩⟩⟩⟩⟩
  have hy : pathQ A u w = (0, vg (aV A) (2 * u.toNat + w.toNat)) := by unfold pathQ; rw [if_neg (by omega), if_neg (by omega)]
  have f0 : J 552 (2 * u + w).toNat = vg (aV A) (2 * u.toNat + w.toNat) := by
    rw [show (2 * u + w).toNat = 2 * u.toNat + w.toNat by omega]
    exact hG.1.1.2.2.2.2.2.2.2 _ (by omega)
  exact QM.ok' hG FQ.up0 (up_eq _ _ _ _) rfl hy f0
def mendQ (A : AT) (u w t : Int) : Nat × Int := if (u < 0 ∨ (vh (aV A) : Int) ≤ u) ∨ (w < 0 ∨ (ve (aV A) : Int) ≤ w) ∨ t < 0 ∨ (vn (aV A) : Int) ≤ t then (1, 0) else (0, mendA (aV A) (aT A) (aS A) u.toNat w.toNat t.toNat)
theorem kq_mend (hG : GK J sw A) (bA : ABd A) (hu : InR u) (hw : InR w) (ht : InR t) : AK X 3 122 [iv u, iv w, iv t] J sw lg x A (mendQ A u w t) := by
  have v1 := bA.1.1
  have v2 := bA.1.2.1
  have v3 := bA.1.2.2.1
  refine AK.of mt_122 (b_122_0 (by omega) ?_)
  rw [hG.1.1.1, hG.1.1.2.1, hG.1.1.2.2.1]
  refine ⟨hu, fun c => QK.r1 hG bA (if_pos (by omega)), fun c1 => ⟨by omega, fun c2 => ⟨hw, fun c => QK.r1 hG bA (if_pos (by omega)), fun c3 => ⟨by omega, fun c4 => ⟨ht, fun c => QK.r1 hG bA (if_pos (by omega)), fun c5 => ⟨by omega, fun c6 => ?_, fun c => QK.r1 hG bA (if_pos (by omega))⟩⟩, fun c => QK.r1 hG bA (if_pos (by omega))⟩⟩, fun c => QK.r1 hG bA (if_pos (by omega))⟩⟩
  obtain ⟨h, rfl⟩ : ∃ e : Nat, u = (e : Int) := ⟨u.toNat, by omega⟩
  obtain ⟨e, rfl⟩ : ∃ e : Nat, w = (e : Int) := ⟨w.toNat, by omega⟩
  obtain ⟨p, rfl⟩ : ∃ e : Nat, t = (e : Int) := ⟨t.toNat, by omega⟩
  exact ex1 (e_48 c_41 (cvA sw) (clA sw) hG.1.1 bA.1 hG.2.1 bA.2.2.1 hG.2.2.2.1 (SOk.b bA) (SOk.d bA) (show h < _ by omega) (show e < _ by omega) (show p < _ by omega)) (fun J1 hf => QK.ok hG bA (FC.law hf) (if_neg (by omega)))
theorem rq_mend (hG : GM J A) (bA : ABd A) (hu : InR u) (hw : InR w) (ht : InR t) : AM X 5 232 [iv u, iv w, iv t] J sw lg x A (mendQ A u w t) cdS := by
  have v1 := bA.1.1
  have v2 := bA.1.2.1
  have v3 := bA.1.2.2.1
  refine AM.of mt_232 (b_232_0 (by omega) ?_)
  rw [hG.1.1.1, hG.1.1.2.1, hG.1.1.2.2.1]
  refine ⟨hu, fun c => QM.r1 hG (if_pos (by omega)) rfl, fun c1 => ⟨by omega, fun c => QM.r1 hG (if_pos (by omega)) rfl, fun c2 => ⟨hw, fun c => QM.r1 hG (if_pos (by omega)) rfl, fun c3 => ⟨by omega, fun c => QM.r1 hG (if_pos (by omega)) rfl, fun c4 => ⟨ht, fun c => QM.r1 hG (if_pos (by omega)) rfl, fun c5 => ⟨by omega, fun c => QM.r1 hG (if_pos (by omega)) rfl, fun c6 => ?_⟩⟩⟩⟩⟩⟩
  obtain ⟨h, rfl⟩ : ∃ e : Nat, u = (e : Int) := ⟨u.toNat, by omega⟩
  obtain ⟨e, rfl⟩ : ∃ e : Nat, w = (e : Int) := ⟨w.toNat, by omega⟩
  obtain ⟨p, rfl⟩ : ∃ e : Nat, t = (e : Int) := ⟨t.toNat, by omega⟩
  refine takeM hG (fun J1 hS hf h0 hG2 => ?_)
  exact ex1 (e_207 hG2.1.1 bA.1 hG2.2.1 bA.2.2.1 hS (SOk.b bA) (SOk.d bA) (show h < _ by omega) (show e < _ by omega) (show p < _ by omega)) (fun J2 hf2 => QM.ok hG (hf.tr (FQ.of (fun c q => by unfold scM at q; exact hf2 c (by omega) (by omega)))) (by rw [hf2 542 (by decide) (by decide)]; exact h0) rfl (if_neg (by omega)))
def canQ (A : AT) (u w t : Int) : Nat × Int := if (u < 0 ∨ (vh (aV A) : Int) ≤ u) ∨ (w < 0 ∨ (ve (aV A) : Int) ≤ w) ∨ t < 0 ∨ (vn (aV A) : Int) ≤ t then (1, 0) else (0, if 0 < aS A 48 ∧ aS A w.toNat < vtk (aV A) w.toNat ∧ aS A (18 + u.toNat) = 0 ∧ 0 < aS A (30 + t.toNat) then 1 else 0)
theorem kq_can (hG : GK J sw A) (bA : ABd A) (hu : InR u) (hw : InR w) (ht : InR t) : AK X 2 124 [iv u, iv w, iv t] J sw lg x A (canQ A u w t) := by
  have v1 := bA.1.1
  have v2 := bA.1.2.1
  have v3 := bA.1.2.2.1
  have bs := SOk.b bA
  have hS := hG.2.2.2.1
  refine AK.of mt_124 (b_124_0 (by omega) ?_)
  rw [hG.1.1.1, hG.1.1.2.1, hG.1.1.2.2.1]
  refine ⟨hu, fun c => QK.r1 hG bA (if_pos (by omega)), fun c1 => ⟨by omega, fun c2 => ⟨hw, fun c => QK.r1 hG bA (if_pos (by omega)), fun c3 => ⟨by omega, fun c4 => ⟨ht, fun c => QK.r1 hG bA (if_pos (by omega)), fun c5 => ⟨by omega, fun c6 => ?_, fun c => QK.r1 hG bA (if_pos (by omega))⟩⟩, fun c => QK.r1 hG bA (if_pos (by omega))⟩⟩, fun c => QK.r1 hG bA (if_pos (by omega))⟩⟩
  obtain ⟨h, rfl⟩ : ∃ e : Nat, u = (e : Int) := ⟨u.toNat, by omega⟩
  obtain ⟨e, rfl⟩ : ∃ e : Nat, w = (e : Int) := ⟨w.toNat, by omega⟩
  obtain ⟨p, rfl⟩ : ∃ e : Nat, t = (e : Int) := ⟨t.toNat, by omega⟩
  have hy : canQ A (h : Int) (e : Int) (p : Int) = (0, if 0 < aS A 48 ∧ aS A e < vtk (aV A) e ∧ aS A (18 + h) = 0 ∧ 0 < aS A (30 + p) then 1 else 0) := if_neg (by omega)
  have f0 : J 42 (e : Int).toNat = aS A e := hS.1 e (by omega)
  have f1 : J (vA sw + 1) (e : Int).toNat = vtk (aV A) e := hG.1.1.2.2.2.2.1 e (by omega)
  have f2 : J 46 (p : Int).toNat = aS A (30 + p) := hS.2.2.2.2.1 p (by omega)
  have f4 : J 41 8 = aS A 48 := hS.2.2.2.2.2.2.2.2
  have b1 := bs.1 e (by omega)
  have b2 := bA.1.2.2.2.2.2.1 e (by omega)
  have b3 := bs.2.2.2.1 p (by omega)
  have b5 := bs.2.2.2.2.2
  rw [f0, f1, f2, f4, SV_tb hS bs.2.2.1 (show h < 6 by omega)]
  refine ⟨by omega, fun c => ?_, fun d1 => ⟨by omega, by omega, by omega, fun d2 => ⟨fun d3 => ⟨by omega, by omega, fun c => ?_, fun d4 => ?_⟩, fun c => ?_⟩, fun c => ?_⟩⟩
  · exact QK.ok' hG bA FC.rf hy (by rw [if_neg (by omega)])
  · exact QK.ok' hG bA FC.rf hy (by rw [if_neg (by omega)])
  · exact QK.ok' hG bA FC.rf hy (by rw [if_pos ⟨d1, d2, d3, d4⟩])
  · exact QK.ok' hG bA FC.rf hy (by rw [if_neg (by omega)])
  · exact QK.ok' hG bA FC.rf hy (by rw [if_neg (by omega)])
end Q2
