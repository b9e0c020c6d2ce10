/-! the village's text: what it tells; the class reads it -/
def tw (i : Nat) : List Int32 := mT.getD i []
theorem nst {i : Nat} (h : i < 43) : m_nstr mT (m_scr + 1 + i) = some (tw i) := by
  unfold m_nstr tw
  rw [if_neg (by omega), show m_scr + 1 + i - m_scr - 1 = i by omega, List.getD_eq_getElem?_getD]
  have : i < mT.length := h
  rw [List.getElem?_eq_getElem this]; rfl
theorem tw_l : ∀ i, i < 43 → lts (tw i) = true := by decide +kernel
theorem tw_n {i : Nat} (h : i < 43) : (tw i).length < 1000 := by have := (lts_g (tw_l i h)).1; omega
theorem bz0 {b : Bool} (h : bI b = 0) : ¬ b = true := by intro z; rw [z] at h; exact absurd h (by decide)
theorem bz1 {b : Bool} (h : ¬ bI b = 0) : b = true := by cases b; exact absurd rfl h; rfl
theorem bzR (b : Bool) : InR (bI b) := by cases b <;> decide
/-- village, wear and wool as told so far -/
abbrev VB : Type := VT × (Nat → Int) × Int
def vb0 (g0 : Nat → Int) : VB := (((0, 0, 0, 0), 0, (fun _ => 0), (fun _ => 0), g0), (fun _ => 0), 12)
def kdV (tp : Nat → Int) (b e : Nat) : Int := if wIs tp b e (tw 0) = true then 0 else if wIs tp b e (tw 1) = true then 1 else if wIs tp b e (tw 2) = true then 2 else if wIs tp b e (tw 3) = true then 3 else if wIs tp b e (tw 4) = true then 4 else if wIs tp b e (tw 5) = true then 5 else -1
theorem kdV_b (tp : Nat → Int) (b e : Nat) : -1 ≤ kdV tp b e ∧ kdV tp b e ≤ 5 := by unfold kdV; repeat' split <;> omega
abbrev fulC (V : VT) (k : Int) : Prop := (k = 0 ∧ 6 ≤ ve V) ∨ (k = 1 ∧ 6 ≤ vh V) ∨ (k = 2 ∧ 9 ≤ vn V) ∨ (k = 3 ∧ 14 ≤ vp V)
def loV (k : Int) : Int := if k = 0 ∨ k = 5 then 1 else 0
def hiV (k : Int) : Int := if k = 0 then 20 else if k = 1 then 9 else if k = 2 then 60 else 99
def addV (B : VB) (k v : Int) : VB :=
  if k = 0 then (((ve B.1 + 1, vh B.1, vn B.1, vp B.1), vmo B.1, up1 (vtk B.1) (ve B.1) v, van B.1, vg B.1), B.2.1, B.2.2)
  else if k = 1 then (((ve B.1, vh B.1 + 1, vn B.1, vp B.1), vmo B.1, vtk B.1, up1 (van B.1) (vh B.1) v, vg B.1), B.2.1, B.2.2)
  else if k = 2 then (((ve B.1, vh B.1, vn B.1 + 1, vp B.1), vmo B.1, vtk B.1, van B.1, vg B.1), up1 B.2.1 (vn B.1) v, B.2.2)
  else if k = 4 then (B.1, B.2.1, v)
  else (((ve B.1, vh B.1, vn B.1, vp B.1), v, vtk B.1, van B.1, vg B.1), B.2.1, B.2.2)
def addP (B : VB) (p q : Int) : VB := (((ve B.1, vh B.1, vn B.1, vp B.1 + 1), vmo B.1, vtk B.1, van B.1, up1 (up1 (vg B.1) (2 * vp B.1) p) (2 * vp B.1 + 1) q), B.2.1, B.2.2)
def oneR (tp : Nat → Int) (n a : Nat) (k : Int) (B : VB) : RS × VB := (nmR tp n a (loV k) (hiV k), addV B k (nmV tp n a))
def pthR (tp : Nat → Int) (n a : Nat) (B : VB) : RS × VB :=
  if (nmR tp n a 0 ((vn B.1 : Int) - 1)).1.1 = 0 then
    (if (nmR tp n (nmR tp n a 0 ((vn B.1 : Int) - 1)).2 0 ((vn B.1 : Int) - 1)).1.1 = 0 then
      (if nmV tp n a = nmV tp n (nmR tp n a 0 ((vn B.1 : Int) - 1)).2 ∨ (vnr B.1 (nmV tp n a).toNat).testBit (nmV tp n (nmR tp n a 0 ((vn B.1 : Int) - 1)).2).toNat = true then (((2, sk tp n (nmR tp n a 0 ((vn B.1 : Int) - 1)).2), 0), B)
       else (nmR tp n (nmR tp n a 0 ((vn B.1 : Int) - 1)).2 0 ((vn B.1 : Int) - 1), addP B (nmV tp n a) (nmV tp n (nmR tp n a 0 ((vn B.1 : Int) - 1)).2)))
     else (nmR tp n (nmR tp n a 0 ((vn B.1 : Int) - 1)).2 0 ((vn B.1 : Int) - 1), B))
  else (nmR tp n a 0 ((vn B.1 : Int) - 1), B)
def clR (tp : Nat → Int) (n : Nat) (tm : Bool) (a : Nat) (B : VB) : RS × VB :=
  if kdV tp (sk tp n a) (wd tp n (sk tp n a)) = -1 then (((1, sk tp n a), 0), B)
  else if tm = true ∨ fulC B.1 (kdV tp (sk tp n a) (wd tp n (sk tp n a))) then (((3, sk tp n a), 0), B)
  else if kdV tp (sk tp n a) (wd tp n (sk tp n a)) = 3 then pthR tp n (wd tp n (sk tp n a)) B
  else oneR tp n (wd tp n (sk tp n a)) (kdV tp (sk tp n a) (wd tp n (sk tp n a))) B
/-- the clauses, f of them at most -/
def vlR (tp : Nat → Int) (n : Nat) : Nat → Nat → VB → RS × VB
  | 0, a, B => (((0, 0), a), B)
  | f + 1, a, B =>
    if n ≤ sk tp n a then (((0, 0), sk tp n a), B)
    else if (clR tp n (decide (f = 0)) a B).1.1.1 = 0 then
      (if (sgR tp n (clR tp n (decide (f = 0)) a B).1.2 59).1.1 = 0 then vlR tp n f (sgR tp n (clR tp n (decide (f = 0)) a B).1.2 59).2 (clR tp n (decide (f = 0)) a B).2
       else (sgR tp n (clR tp n (decide (f = 0)) a B).1.2 59, B))
    else clR tp n (decide (f = 0)) a B
def VBB (B : VB) : Prop := VBd B.1 ∧ (∀ p, p < vn B.1 → 0 ≤ B.2.1 p ∧ B.2.1 p ≤ 60) ∧ 0 ≤ B.2.2 ∧ B.2.2 ≤ 99
theorem VBB_0 (g0 : Nat → Int) : VBB (vb0 g0) := ⟨⟨by show 0 ≤ 6; decide, by show 0 ≤ 6; decide, by show 0 ≤ 9; decide, by show 0 ≤ 14; decide, by show (0 : Int) ≤ 0 ∧ (0 : Int) ≤ 99; decide, fun k h => absurd h (Nat.not_lt_zero _), fun k h => absurd h (Nat.not_lt_zero _), fun k h => absurd h (Nat.not_lt_zero _)⟩, fun k h => absurd h (Nat.not_lt_zero _), by show (0 : Int) ≤ 12; decide, by show (12 : Int) ≤ 99; decide⟩
theorem VBB_add {B : VB} {k v : Int} (h : VBB B) (hk : 0 ≤ k ∧ k ≤ 5 ∧ ¬ k = 3) (hf : ¬ fulC B.1 k) (hv : loV k ≤ v ∧ v ≤ hiV k) : VBB (addV B k v) := by
  obtain ⟨⟨h1, h2, h3, h4, h5, h6, h7, h8⟩, h9, h10⟩ := h
  unfold fulC at hf
  unfold loV hiV at hv
  unfold addV
  by_cases c0 : k = 0
  · subst c0
    rw [if_pos rfl]
    refine ⟨⟨by show ve B.1 + 1 ≤ 6; omega, h2, h3, h4, h5, fun i hi => ?_, h7, h8⟩, h9, h10⟩
    show 1 ≤ up1 (vtk B.1) (ve B.1) v i ∧ up1 (vtk B.1) (ve B.1) v i ≤ 20
    have hi' : i < ve B.1 + 1 := hi
    by_cases z : i = ve B.1
    · rw [z, up1_eq]; simpa using hv
    · rw [up1_ne z]; exact h6 i (by omega)
  · rw [if_neg c0]
    by_cases c1 : k = 1
    · subst c1
      rw [if_pos rfl]
      refine ⟨⟨h1, by show vh B.1 + 1 ≤ 6; omega, h3, h4, h5, h6, fun i hi => ?_, h8⟩, h9, h10⟩
      show 0 ≤ up1 (van B.1) (vh B.1) v i ∧ up1 (van B.1) (vh B.1) v i ≤ 9
      have hi' : i < vh B.1 + 1 := hi
      by_cases z : i = vh B.1
      · rw [z, up1_eq]; simpa using hv
      · rw [up1_ne z]; exact h7 i (by omega)
    · rw [if_neg c1]
      by_cases c2 : k = 2
      · subst c2
        rw [if_pos rfl]
        refine ⟨⟨h1, h2, by show vn B.1 + 1 ≤ 9; omega, h4, h5, h6, h7, fun i hi => ?_⟩, fun i hi => ?_, h10⟩
        · have := h8 i hi
          show 0 ≤ vg B.1 (2 * i) ∧ vg B.1 (2 * i) < ((vn B.1 + 1 : Nat) : Int) ∧ 0 ≤ vg B.1 (2 * i + 1) ∧ vg B.1 (2 * i + 1) < ((vn B.1 + 1 : Nat) : Int)
          omega
        · show 0 ≤ up1 B.2.1 (vn B.1) v i ∧ up1 B.2.1 (vn B.1) v i ≤ 60
          have hi' : i < vn B.1 + 1 := hi
          by_cases z : i = vn B.1
          · rw [z, up1_eq]; simpa using hv
          · rw [up1_ne z]; exact h9 i (by omega)
      · rw [if_neg c2]
        by_cases c4 : k = 4
        · subst c4
          rw [if_pos rfl]
          refine ⟨⟨h1, h2, h3, h4, h5, h6, h7, h8⟩, h9, ?_⟩
          simpa using hv
        · rw [if_neg c4]
          have : k = 5 := by omega
          subst this
          refine ⟨⟨h1, h2, h3, h4, ?_, h6, h7, h8⟩, h9, h10⟩
          show 0 ≤ v ∧ v ≤ 99
          simp at hv
          omega
theorem VBB_pth {B : VB} {p q : Int} (h : VBB B) (hf : vp B.1 < 14) (hp : 0 ≤ p ∧ p < vn B.1) (hq : 0 ≤ q ∧ q < vn B.1) : VBB (addP B p q) := by
  obtain ⟨⟨h1, h2, h3, h4, h5, h6, h7, h8⟩, h9, h10⟩ := h
  refine ⟨⟨h1, h2, h3, by show vp B.1 + 1 ≤ 14; omega, h5, h6, h7, fun i hi => ?_⟩, h9, h10⟩
  have hi' : i < vp B.1 + 1 := hi
  show 0 ≤ up1 (up1 (vg B.1) (2 * vp B.1) p) (2 * vp B.1 + 1) q (2 * i) ∧ up1 (up1 (vg B.1) (2 * vp B.1) p) (2 * vp B.1 + 1) q (2 * i) < vn B.1 ∧ 0 ≤ up1 (up1 (vg B.1) (2 * vp B.1) p) (2 * vp B.1 + 1) q (2 * i + 1) ∧ up1 (up1 (vg B.1) (2 * vp B.1) p) (2 * vp B.1 + 1) q (2 * i + 1) < vn B.1
  by_cases z : i = vp B.1
  · subst z
    rw [up1_ne (by omega), up1_eq, up1_eq]
    omega
  · rw [up1_ne (by omega), up1_ne (by omega), up1_ne (by omega), up1_ne (by omega)]
    exact h8 i (by omega)
section Nm
variable {tp : Nat → Int} {n a : Nat} {lo hi : Int}
theorem nm_ok (ha : a ≤ n) (h : (nmR tp n a lo hi).1.1 = 0) : (nmR tp n a lo hi).2 ≤ n ∧ lo ≤ nmV tp n a ∧ nmV tp n a ≤ hi ∧ a < (nmR tp n a lo hi).2 := by
  unfold nmR at h ⊢
  have h1 : sk tp n a ≤ n := sc_ub ha
  have h2 : a ≤ sk tp n a := sc_le
  by_cases q : sk tp n a < n ∧ isD (tp (sk tp n a)) = true
  · rw [if_pos q] at h ⊢
    by_cases q2 : lo ≤ nmV tp n a ∧ nmV tp n a ≤ hi
    · rw [if_pos q2] at h ⊢
      refine ⟨sc_ub h1, q2.1, q2.2, ?_⟩
      show a < dg tp n (sk tp n a)
      have h3 : dg tp n (sk tp n a) = dg tp n (sk tp n a + 1) := sc_y q.1 q.2
      have h4 : sk tp n a + 1 ≤ dg tp n (sk tp n a + 1) := sc_le
      omega
    · rw [if_neg q2] at h
      exact absurd (show (2 : Nat) = 0 from h) (by decide)
  · rw [if_neg q] at h
    exact absurd (show (1 : Nat) = 0 from h) (by decide)
theorem nm_no (h : ¬ (nmR tp n a lo hi).1.1 = 0) : (nmR tp n a lo hi).1.2 = sk tp n a ∧ ((nmR tp n a lo hi).1.1 = 1 ∨ (nmR tp n a lo hi).1.1 = 2) := by
  unfold nmR at h ⊢
  by_cases q : sk tp n a < n ∧ isD (tp (sk tp n a)) = true
  · rw [if_pos q] at h ⊢
    by_cases q2 : lo ≤ nmV tp n a ∧ nmV tp n a ≤ hi
    · rw [if_pos q2] at h; exact absurd rfl h
    · rw [if_neg q2]; exact ⟨rfl, Or.inr rfl⟩
  · rw [if_neg q]; exact ⟨rfl, Or.inl rfl⟩
theorem sg_ok {c : Int} (ha : a ≤ n) (h : (sgR tp n a c).1.1 = 0) : (sgR tp n a c).2 ≤ n ∧ a < (sgR tp n a c).2 := by
  unfold sgR at h ⊢
  have h1 : sk tp n a ≤ n := sc_ub ha
  have h2 : a ≤ sk tp n a := sc_le
  by_cases q : sk tp n a < n ∧ tp (sk tp n a) = c
  · rw [if_pos q]; exact ⟨by show sk tp n a + 1 ≤ n; omega, by show a < sk tp n a + 1; omega⟩
  · rw [if_neg q] at h; exact absurd (show (1 : Nat) = 0 from h) (by decide)
theorem sg_no {c : Int} (h : ¬ (sgR tp n a c).1.1 = 0) : (sgR tp n a c).1.2 = sk tp n a ∧ (sgR tp n a c).1.1 = 1 := by
  unfold sgR at h ⊢
  by_cases q : sk tp n a < n ∧ tp (sk tp n a) = c
  · rw [if_pos q] at h; exact absurd rfl h
  · rw [if_neg q]; exact ⟨rfl, rfl⟩
end Nm
theorem nearF_c {g g' : Nat → Int} {p : Int} : ∀ k, (∀ i, i < 2 * k → g i = g' i) → nearF g p k = nearF g' p k
  | 0, _ => rfl
  | k + 1, h => by rw [nearF, nearF, nearF_c k (fun i hi => h i (by omega)), h (2 * k) (by omega), h (2 * k + 1) (by omega)]
theorem nearF_tb {g : Nat → Int} {p : Int} {q : Nat} : ∀ k, (nearF g p k).testBit q = true ↔ ∃ i, i < k ∧ ((g (2 * i) = p ∧ (g (2 * i + 1)).toNat = q) ∨ (g (2 * i + 1) = p ∧ (g (2 * i)).toNat = q))
  | 0 => by simp [nearF]
  | k + 1 => by
    have ih := nearF_tb (g := g) (p := p) (q := q) k
    rw [nearF, Nat.testBit_or, Nat.testBit_or, Bool.or_eq_true, Bool.or_eq_true, ih]
    have t : ∀ (c : Prop) [Decidable c] (m : Nat), (if c then 2 ^ m else 0 : Nat).testBit q = true ↔ c ∧ m = q := by
      intro c _ m
      by_cases z : c
      · rw [if_pos z, Nat.testBit_two_pow, decide_eq_true_eq]; exact ⟨fun h => ⟨z, h⟩, fun h => h.2⟩
      · rw [if_neg z, Nat.zero_testBit]; exact ⟨fun h => absurd h (by decide), fun h => absurd h.1 z⟩
    rw [t, t]
    constructor
    · rintro ((⟨i, hi, h⟩ | h) | h)
      · exact ⟨i, by omega, h⟩
      · exact ⟨k, by omega, Or.inl h⟩
      · exact ⟨k, by omega, Or.inr h⟩
    · rintro ⟨i, hi, h⟩
      by_cases z : i = k
      · subst z
        rcases h with h | h
        · exact Or.inl (Or.inr h)
        · exact Or.inr h
      · exact Or.inl (Or.inl ⟨i, by omega, h⟩)
theorem vnr_pth (B : VB) (p q : Int) (x : Nat) : vnr (addP B p q).1 x = (vnr B.1 x ||| (if p = (x : Int) then 2 ^ q.toNat else 0)) ||| (if q = (x : Int) then 2 ^ p.toNat else 0) := by
  show nearF (up1 (up1 (vg B.1) (2 * vp B.1) p) (2 * vp B.1 + 1) q) (x : Int) (vp B.1 + 1) = _
  rw [nearF, nearF_c (g' := vg B.1) (vp B.1) (fun i hi => by rw [up1_ne (by omega), up1_ne (by omega)]), up1_eq, up1_ne (by omega), up1_eq]
  rfl
theorem vnr_add (B : VB) (k v : Int) (x : Nat) : vnr (addV B k v).1 x = vnr B.1 x := by
  unfold addV
  (repeat' split) <;> rfl
