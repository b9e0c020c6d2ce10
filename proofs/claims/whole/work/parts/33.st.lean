/-! a state as a row of 50 numbers in the reference's order: heels 0, hooks 6, at 12, busy 18, often 24, wear 30, ridge 39, wool 48, day 49; of the class's cells at a, of a row c -/
def SV (J : Nat → Nat → Int) (a : Nat) (s : Nat → Int) : Prop :=
  (∀ k, k < 6 → J (a + 1) k = s k) ∧ (∀ k, k < 6 → J (a + 2) k = s (6 + k)) ∧ (∀ k, k < 6 → J (a + 3) k = s (12 + k)) ∧ (∀ k, k < 6 → J (a + 4) k = s (24 + k)) ∧ (∀ k, k < 9 → J (a + 5) k = s (30 + k)) ∧ (∀ k, k < 9 → J (a + 6) k = s (39 + k)) ∧ J a 6 = (bitF (fun h => decide (s (18 + h) = 1)) 6 : Int) ∧ J a 7 = s 49 ∧ J a 8 = s 48
def MV (J : Nat → Nat → Int) (c : Nat) (s : Nat → Int) : Prop := ∀ k, k < 50 → J c k = s k
theorem MV_up {J : Nat → Nat → Int} {c : Nat} {s : Nat → Int} (h : MV J c s) (k : Nat) (v : Int) : MV (m_up J c k v) c (up1 s k v) := by
  intro i hi
  by_cases q : i = k
  · subst q; rw [up_eq, up1_eq]
  · rw [up_nk q, up1_ne q]; exact h i hi
theorem MV_ne {J : Nat → Nat → Int} {c c' : Nat} {s : Nat → Int} (h : MV J c s) (k : Nat) (v : Int) (hc : c ≠ c') : MV (m_up J c' k v) c s := by
  intro i hi
  rw [up_na hc]; exact h i hi
theorem bf_c {s t : Nat → Int} (h : ∀ k, k < 6 → s (18 + k) = t (18 + k)) : (bitF (fun h => decide (s (18 + h) = 1)) 6 : Int) = (bitF (fun h => decide (t (18 + h) = 1)) 6 : Int) := congrArg (fun z : Nat => (z : Int)) (bitF_congr (fun k hk => by rw [h k hk]))
section SVu
variable {J : Nat → Nat → Int} {a : Nat} {s : Nat → Int}
theorem SV_heels (h : SV J a s) {p : Nat} (hp : p < 6) (v : Int) : SV (m_up J (a + 1) p v) a (up1 s p v) := by
  obtain ⟨h1, h2, h3, h4, h5, h6, h7, h8, h9⟩ := h
  refine ⟨fun k hk => ?_, fun k hk => ?_, fun k hk => ?_, fun k hk => ?_, fun k hk => ?_, fun k hk => ?_, ?_, ?_, ?_⟩
  · by_cases q : k = p
    · subst q; rw [up_eq, up1_eq]
    · rw [up_nk q, up1_ne (by omega)]; exact h1 k hk
  · rw [up_na (by omega), up1_ne (by omega)]; exact h2 k hk
  · rw [up_na (by omega), up1_ne (by omega)]; exact h3 k hk
  · rw [up_na (by omega), up1_ne (by omega)]; exact h4 k hk
  · rw [up_na (by omega), up1_ne (by omega)]; exact h5 k hk
  · rw [up_na (by omega), up1_ne (by omega)]; exact h6 k hk
  · rw [up_na (by omega), h7]; exact bf_c (fun k hk => by rw [up1_ne (by omega)])
  · rw [up_na (by omega), up1_ne (by omega)]; exact h8
  · rw [up_na (by omega), up1_ne (by omega)]; exact h9
theorem SV_hooks (h : SV J a s) {p : Nat} (hp : p < 6) (v : Int) : SV (m_up J (a + 2) p v) a (up1 s (6 + p) v) := by
  obtain ⟨h1, h2, h3, h4, h5, h6, h7, h8, h9⟩ := h
  refine ⟨fun k hk => ?_, fun k hk => ?_, fun k hk => ?_, fun k hk => ?_, fun k hk => ?_, fun k hk => ?_, ?_, ?_, ?_⟩
  · rw [up_na (by omega), up1_ne (by omega)]; exact h1 k hk
  · by_cases q : k = p
    · subst q; rw [up_eq, up1_eq]
    · rw [up_nk q, up1_ne (by omega)]; exact h2 k hk
  · rw [up_na (by omega), up1_ne (by omega)]; exact h3 k hk
  · rw [up_na (by omega), up1_ne (by omega)]; exact h4 k hk
  · rw [up_na (by omega), up1_ne (by omega)]; exact h5 k hk
  · rw [up_na (by omega), up1_ne (by omega)]; exact h6 k hk
  · rw [up_na (by omega), h7]; exact bf_c (fun k hk => by rw [up1_ne (by omega)])
  · rw [up_na (by omega), up1_ne (by omega)]; exact h8
  · rw [up_na (by omega), up1_ne (by omega)]; exact h9
theorem SV_at (h : SV J a s) {p : Nat} (hp : p < 6) (v : Int) : SV (m_up J (a + 3) p v) a (up1 s (12 + p) v) := by
  obtain ⟨h1, h2, h3, h4, h5, h6, h7, h8, h9⟩ := h
  refine ⟨fun k hk => ?_, fun k hk => ?_, fun k hk => ?_, fun k hk => ?_, fun k hk => ?_, fun k hk => ?_, ?_, ?_, ?_⟩
  · rw [up_na (by omega), up1_ne (by omega)]; exact h1 k hk
  · rw [up_na (by omega), up1_ne (by omega)]; exact h2 k hk
  · by_cases q : k = p
    · subst q; rw [up_eq, up1_eq]
    · rw [up_nk q, up1_ne (by omega)]; exact h3 k hk
  · rw [up_na (by omega), up1_ne (by omega)]; exact h4 k hk
  · rw [up_na (by omega), up1_ne (by omega)]; exact h5 k hk
  · rw [up_na (by omega), up1_ne (by omega)]; exact h6 k hk
  · rw [up_na (by omega), h7]; exact bf_c (fun k hk => by rw [up1_ne (by omega)])
  · rw [up_na (by omega), up1_ne (by omega)]; exact h8
  · rw [up_na (by omega), up1_ne (by omega)]; exact h9
theorem SV_darns (h : SV J a s) {p : Nat} (hp : p < 6) (v : Int) : SV (m_up J (a + 4) p v) a (up1 s (24 + p) v) := by
  obtain ⟨h1, h2, h3, h4, h5, h6, h7, h8, h9⟩ := h
  refine ⟨fun k hk => ?_, fun k hk => ?_, fun k hk => ?_, fun k hk => ?_, fun k hk => ?_, fun k hk => ?_, ?_, ?_, ?_⟩
  · rw [up_na (by omega), up1_ne (by omega)]; exact h1 k hk
  · rw [up_na (by omega), up1_ne (by omega)]; exact h2 k hk
  · rw [up_na (by omega), up1_ne (by omega)]; exact h3 k hk
  · by_cases q : k = p
    · subst q; rw [up_eq, up1_eq]
    · rw [up_nk q, up1_ne (by omega)]; exact h4 k hk
  · rw [up_na (by omega), up1_ne (by omega)]; exact h5 k hk
  · rw [up_na (by omega), up1_ne (by omega)]; exact h6 k hk
  · rw [up_na (by omega), h7]; exact bf_c (fun k hk => by rw [up1_ne (by omega)])
  · rw [up_na (by omega), up1_ne (by omega)]; exact h8
  · rw [up_na (by omega), up1_ne (by omega)]; exact h9
theorem SV_wear (h : SV J a s) {p : Nat} (hp : p < 9) (v : Int) : SV (m_up J (a + 5) p v) a (up1 s (30 + p) v) := by
  obtain ⟨h1, h2, h3, h4, h5, h6, h7, h8, h9⟩ := h
  refine ⟨fun k hk => ?_, fun k hk => ?_, fun k hk => ?_, fun k hk => ?_, fun k hk => ?_, fun k hk => ?_, ?_, ?_, ?_⟩
  · rw [up_na (by omega), up1_ne (by omega)]; exact h1 k hk
  · rw [up_na (by omega), up1_ne (by omega)]; exact h2 k hk
  · rw [up_na (by omega), up1_ne (by omega)]; exact h3 k hk
  · rw [up_na (by omega), up1_ne (by omega)]; exact h4 k hk
  · by_cases q : k = p
    · subst q; rw [up_eq, up1_eq]
    · rw [up_nk q, up1_ne (by omega)]; exact h5 k hk
  · rw [up_na (by omega), up1_ne (by omega)]; exact h6 k hk
  · rw [up_na (by omega), h7]; exact bf_c (fun k hk => by rw [up1_ne (by omega)])
  · rw [up_na (by omega), up1_ne (by omega)]; exact h8
  · rw [up_na (by omega), up1_ne (by omega)]; exact h9
theorem SV_ridge (h : SV J a s) {p : Nat} (hp : p < 9) (v : Int) : SV (m_up J (a + 6) p v) a (up1 s (39 + p) v) := by
  obtain ⟨h1, h2, h3, h4, h5, h6, h7, h8, h9⟩ := h
  refine ⟨fun k hk => ?_, fun k hk => ?_, fun k hk => ?_, fun k hk => ?_, fun k hk => ?_, fun k hk => ?_, ?_, ?_, ?_⟩
  · rw [up_na (by omega), up1_ne (by omega)]; exact h1 k hk
  · rw [up_na (by omega), up1_ne (by omega)]; exact h2 k hk
  · rw [up_na (by omega), up1_ne (by omega)]; exact h3 k hk
  · rw [up_na (by omega), up1_ne (by omega)]; exact h4 k hk
  · rw [up_na (by omega), up1_ne (by omega)]; exact h5 k hk
  · by_cases q : k = p
    · subst q; rw [up_eq, up1_eq]
    · rw [up_nk q, up1_ne (by omega)]; exact h6 k hk
  · rw [up_na (by omega), h7]; exact bf_c (fun k hk => by rw [up1_ne (by omega)])
  · rw [up_na (by omega), up1_ne (by omega)]; exact h8
  · rw [up_na (by omega), up1_ne (by omega)]; exact h9
theorem SV_wool (h : SV J a s) (v : Int) : SV (m_up J a 8 v) a (up1 s 48 v) := by
  obtain ⟨h1, h2, h3, h4, h5, h6, h7, h8, h9⟩ := h
  refine ⟨fun k hk => ?_, fun k hk => ?_, fun k hk => ?_, fun k hk => ?_, fun k hk => ?_, fun k hk => ?_, ?_, ?_, ?_⟩
  · rw [up_na (by omega), up1_ne (by omega)]; exact h1 k hk
  · rw [up_na (by omega), up1_ne (by omega)]; exact h2 k hk
  · rw [up_na (by omega), up1_ne (by omega)]; exact h3 k hk
  · rw [up_na (by omega), up1_ne (by omega)]; exact h4 k hk
  · rw [up_na (by omega), up1_ne (by omega)]; exact h5 k hk
  · rw [up_na (by omega), up1_ne (by omega)]; exact h6 k hk
  · rw [up_nk (by decide), h7]; exact bf_c (fun k hk => by rw [up1_ne (by omega)])
  · rw [up_nk (by decide), up1_ne (by decide)]; exact h8
  · rw [up_eq, up1_eq]
theorem SV_day (h : SV J a s) (v : Int) : SV (m_up J a 7 v) a (up1 s 49 v) := by
  obtain ⟨h1, h2, h3, h4, h5, h6, h7, h8, h9⟩ := h
  refine ⟨fun k hk => ?_, fun k hk => ?_, fun k hk => ?_, fun k hk => ?_, fun k hk => ?_, fun k hk => ?_, ?_, ?_, ?_⟩
  · rw [up_na (by omega), up1_ne (by omega)]; exact h1 k hk
  · rw [up_na (by omega), up1_ne (by omega)]; exact h2 k hk
  · rw [up_na (by omega), up1_ne (by omega)]; exact h3 k hk
  · rw [up_na (by omega), up1_ne (by omega)]; exact h4 k hk
  · rw [up_na (by omega), up1_ne (by omega)]; exact h5 k hk
  · rw [up_na (by omega), up1_ne (by omega)]; exact h6 k hk
  · rw [up_nk (by decide), h7]; exact bf_c (fun k hk => by rw [up1_ne (by omega)])
  · rw [up_eq, up1_eq]
  · rw [up_nk (by decide), up1_ne (by decide)]; exact h9
def clrB (s : Nat → Int) : Nat → Int := fun i => if 18 ≤ i ∧ i < 24 then 0 else s i
theorem clrB_ne {s : Nat → Int} {i : Nat} (h : ¬ (18 ≤ i ∧ i < 24)) : clrB s i = s i := if_neg h
theorem bitF_0 (p : Nat → Bool) : ∀ n, (∀ k, k < n → p k = false) → bitF p n = 0
  | 0, _ => rfl
  | n + 1, h => by rw [bitF_n (by rw [h n (by omega)]; decide)]; exact bitF_0 p n (fun k hk => h k (by omega))
theorem SV_clr (h : SV J a s) : SV (m_up J a 6 0) a (clrB s) := by
  obtain ⟨h1, h2, h3, h4, h5, h6, h7, h8, h9⟩ := h
  refine ⟨fun k hk => ?_, fun k hk => ?_, fun k hk => ?_, fun k hk => ?_, fun k hk => ?_, fun k hk => ?_, ?_, ?_, ?_⟩
  · rw [up_na (by omega), clrB_ne (by omega)]; exact h1 k hk
  · rw [up_na (by omega), clrB_ne (by omega)]; exact h2 k hk
  · rw [up_na (by omega), clrB_ne (by omega)]; exact h3 k hk
  · rw [up_na (by omega), clrB_ne (by omega)]; exact h4 k hk
  · rw [up_na (by omega), clrB_ne (by omega)]; exact h5 k hk
  · rw [up_na (by omega), clrB_ne (by omega)]; exact h6 k hk
  · rw [up_eq, bitF_0]
    · rfl
    · intro k hk
      rw [clrB, if_pos (by omega)]; rfl
  · rw [up_nk (by decide), clrB_ne (by omega)]; exact h8
  · rw [up_nk (by decide), clrB_ne (by omega)]; exact h9
theorem SV_busy (h : SV J a s) {p : Nat} (hp : p < 6) : SV (m_up J a 6 (bOr (J a 6) (bShl 1 (p : Int)))) a (up1 s (18 + p) 1) := by
  obtain ⟨h1, h2, h3, h4, h5, h6, h7, h8, h9⟩ := h
  refine ⟨fun k hk => ?_, fun k hk => ?_, fun k hk => ?_, fun k hk => ?_, fun k hk => ?_, fun k hk => ?_, ?_, ?_, ?_⟩
  · rw [up_na (by omega), up1_ne (by omega)]; exact h1 k hk
  · rw [up_na (by omega), up1_ne (by omega)]; exact h2 k hk
  · rw [up_na (by omega), up1_ne (by omega)]; exact h3 k hk
  · rw [up_na (by omega), up1_ne (by omega)]; exact h4 k hk
  · rw [up_na (by omega), up1_ne (by omega)]; exact h5 k hk
  · rw [up_na (by omega), up1_ne (by omega)]; exact h6 k hk
  · have hb := bitF_31 (fun h => decide (s (18 + h) = 1)) (n := 6) (by decide)
    rw [up_eq, h7, q_shl p (by omega), q_or hb (show 2 ^ p < 2 ^ 31 from Nat.pow_lt_pow_right (by decide) (by omega))]
    refine congrArg (fun z : Nat => (z : Int)) ?_
    apply Nat.eq_of_testBit_eq
    intro i
    rw [Nat.testBit_or, bitF_tb, bitF_tb, Nat.testBit_two_pow]
    by_cases q : i = p
    · subst q; rw [up1_eq]; simp [hp]
    · rw [up1_ne (by omega)]; simp [Ne.symm q]
  · rw [up_nk (by decide), up1_ne (by omega)]; exact h8
  · rw [up_nk (by decide), up1_ne (by omega)]; exact h9
theorem SV_tb (h : SV J a s) (hb : ∀ k, k < 6 → s (18 + k) = 0 ∨ s (18 + k) = 1) {p : Nat} (hp : p < 6) : bAnd (bShr (J a 6) (p : Int)) 1 = s (18 + p) := by
  rw [h.2.2.2.2.2.2.1, q_bit (bitF_31 _ (by decide)) (by omega), bitF_tb]
  rcases hb p hp with q | q
  · rw [q]; simp [hp]
  · rw [q]; simp [hp]
theorem SV_fr {J' : Nat → Nat → Int} (h : SV J a s) (hf : ∀ c, a ≤ c → c ≤ a + 6 → J' c = J c) : SV J' a s := by
  obtain ⟨h1, h2, h3, h4, h5, h6, h7, h8, h9⟩ := h
  refine ⟨fun k hk => ?_, fun k hk => ?_, fun k hk => ?_, fun k hk => ?_, fun k hk => ?_, fun k hk => ?_, ?_, ?_, ?_⟩
  · rw [hf _ (by omega) (by omega)]; exact h1 k hk
  · rw [hf _ (by omega) (by omega)]; exact h2 k hk
  · rw [hf _ (by omega) (by omega)]; exact h3 k hk
  · rw [hf _ (by omega) (by omega)]; exact h4 k hk
  · rw [hf _ (by omega) (by omega)]; exact h5 k hk
  · rw [hf _ (by omega) (by omega)]; exact h6 k hk
  · rw [hf _ (by omega) (by omega)]; exact h7
  · rw [hf _ (by omega) (by omega)]; exact h8
  · rw [hf _ (by omega) (by omega)]; exact h9
end SVu
theorem MV_fr {J J' : Nat → Nat → Int} {c : Nat} {s : Nat → Int} (h : MV J c s) (hf : J' c = J c) : MV J' c s := by
  intro k hk
  rw [hf]; exact h k hk
/-- what a state keeps to, in a village of n holes -/
def SBd (n : Nat) (s : Nat → Int) : Prop := (∀ k, k < 6 → 0 ≤ s (6 + k) ∧ s (6 + k) ≤ s k ∧ s k ≤ 20) ∧ (∀ k, k < 6 → -1 ≤ s (12 + k) ∧ s (12 + k) < n) ∧ (∀ k, k < 6 → s (18 + k) = 0 ∨ s (18 + k) = 1) ∧ (∀ k, k < 9 → 0 ≤ s (30 + k) ∧ s (30 + k) ≤ 99) ∧ (∀ k, k < 9 → 0 ≤ s (39 + k) ∧ s (39 + k) ≤ 99) ∧ 0 ≤ s 48 ∧ s 48 ≤ 99
/-- a village: eggs, hands, holes, paths; moths; takes, anger, the paths' row -/
abbrev VT : Type := (Nat × Nat × Nat × Nat) × Int × (Nat → Int) × (Nat → Int) × (Nat → Int)
def ve (V : VT) : Nat := V.1.1
def vh (V : VT) : Nat := V.1.2.1
def vn (V : VT) : Nat := V.1.2.2.1
def vp (V : VT) : Nat := V.1.2.2.2
def vmo (V : VT) : Int := V.2.1
def vtk (V : VT) : Nat → Int := V.2.2.1
def van (V : VT) : Nat → Int := V.2.2.2.1
def vg (V : VT) : Nat → Int := V.2.2.2.2
def vnr (V : VT) (p : Nat) : Nat := nearF (vg V) (p : Int) (vp V)
def VBd (V : VT) : Prop := ve V ≤ 6 ∧ vh V ≤ 6 ∧ vn V ≤ 9 ∧ vp V ≤ 14 ∧ (0 ≤ vmo V ∧ vmo V ≤ 99) ∧ (∀ k, k < ve V → 1 ≤ vtk V k ∧ vtk V k ≤ 20) ∧ (∀ k, k < vh V → 0 ≤ van V k ∧ van V k ≤ 9) ∧ (∀ i, i < vp V → 0 ≤ vg V (2 * i) ∧ vg V (2 * i) < vn V ∧ 0 ≤ vg V (2 * i + 1) ∧ vg V (2 * i + 1) < vn V)
def VK (J : Nat → Nat → Int) (v : Nat) (V : VT) : Prop := J v 0 = ve V ∧ J v 1 = vh V ∧ J v 2 = vn V ∧ J v 5 = vmo V ∧ (∀ k, k < ve V → J (v + 1) k = vtk V k) ∧ (∀ k, k < vh V → J (v + 2) k = van V k) ∧ (∀ p, p < vn V → J (v + 4) p = (vnr V p : Int))
def VM (J : Nat → Nat → Int) (V : VT) : Prop := J 542 24 = ve V ∧ J 542 25 = vh V ∧ J 542 26 = vn V ∧ J 542 27 = vp V ∧ J 542 28 = vmo V ∧ (∀ k, k < ve V → J 549 k = vtk V k) ∧ (∀ k, k < vh V → J 550 k = van V k) ∧ (∀ i, i < 28 → J 552 i = vg V i)
theorem vnr_lt {V : VT} (h : VBd V) (p : Nat) : vnr V p < 2 ^ vn V := nearF_lt h.2.2.2.2.2.2.2
theorem vnr_31 {V : VT} (h : VBd V) (p : Nat) : vnr V p < 2147483648 := Nat.lt_of_lt_of_le (vnr_lt h p) (show 2 ^ vn V ≤ 2 ^ 31 from Nat.pow_le_pow_right (by decide) (by have := h.2.2.1; omega))
