/-! what work does to a state, over its row of numbers; what it keeps to -/
theorem up1_self (f : Nat → Int) (k : Nat) : up1 f k (f k) = f := by
  funext i
  unfold up1
  split
  · rename_i h; rw [h]
  · rfl
theorem up1_comm (f : Nat → Int) {i j : Nat} (u v : Int) (h : i ≠ j) : up1 (up1 f i u) j v = up1 (up1 f j v) i u := by
  funext k
  unfold up1
  by_cases q : k = i
  · subst q; simp [h]
  · simp [q]
theorem up_r {J : Nat → Nat → Int} {a c k : Nat} {v : Int} (h : c ≠ a) : m_up J a k v c = J c := funext fun _ => up_na h
theorem mostF_ix (p : Nat → Bool) (f : Nat → Int) : ∀ n, -1 ≤ (mostF p f n).1 ∧ (mostF p f n).1 < n
  | 0 => ⟨show (-1 : Int) ≤ -1 by decide, show (-1 : Int) < 0 by decide⟩
  | n + 1 => by
    have := mostF_ix p f n
    unfold mostF
    split
    · constructor <;> simp <;> omega
    · omega
theorem mostF_2 {p : Nat → Bool} {f : Nat → Int} : ∀ {n : Nat}, (∀ k, k < n → 0 ≤ f k ∧ f k ≤ 99) → 0 ≤ (mostF p f n).2 ∧ (mostF p f n).2 ≤ 99
  | 0, _ => ⟨show (0 : Int) ≤ 0 by decide, show (0 : Int) ≤ 99 by decide⟩
  | n + 1, h => by
    have h1 := mostF_2 (p := p) (fun k hk => h k (by omega) : ∀ k, k < n → _)
    have h2 := h n (by omega)
    unfold mostF
    split
    · exact h2
    · exact h1
theorem mostF_v {p : Nat → Bool} {f : Nat → Int} : ∀ {n : Nat}, ((mostF p f n).1 = -1 → (mostF p f n).2 = 0) ∧ (¬ (mostF p f n).1 = -1 → (mostF p f n).2 = f (mostF p f n).1.toNat)
  | 0 => ⟨fun _ => rfl, fun h => absurd rfl h⟩
  | n + 1 => by
    have h1 := mostF_v (p := p) (f := f) (n := n)
    unfold mostF
    split
    · exact ⟨fun h => by have h : (n : Int) = -1 := h; omega, fun _ => rfl⟩
    · exact h1
section SB
variable {n : Nat} {s : Nat → Int}
theorem SBd_at (h : SBd n s) {p : Nat} {v : Int} (hp : p < 6) (hv : -1 ≤ v ∧ v < n) : SBd n (up1 s (12 + p) v) := by
  refine ⟨?_, ?_, ?_, ?_, ?_, ?_⟩
  · intro k hk; rw [up1_ne (by omega), up1_ne (by omega)]; exact h.1 k hk
  · intro k hk
    by_cases q : k = p
    · subst q; rw [up1_eq]; exact hv
    · rw [up1_ne (by omega)]; exact h.2.1 k hk
  · intro k hk; rw [up1_ne (by omega)]; exact h.2.2.1 k hk
  · intro k hk; rw [up1_ne (by omega)]; exact h.2.2.2.1 k hk
  · intro k hk; rw [up1_ne (by omega)]; exact h.2.2.2.2.1 k hk
  · rw [up1_ne (by omega)]; exact h.2.2.2.2.2
theorem SBd_busy (h : SBd n s) {p : Nat} {v : Int} (hp : p < 6) (hv : v = 0 ∨ v = 1) : SBd n (up1 s (18 + p) v) := by
  refine ⟨?_, ?_, ?_, ?_, ?_, ?_⟩
  · intro k hk; rw [up1_ne (by omega), up1_ne (by omega)]; exact h.1 k hk
  · intro k hk; rw [up1_ne (by omega)]; exact h.2.1 k hk
  · intro k hk
    by_cases q : k = p
    · subst q; rw [up1_eq]; exact hv
    · rw [up1_ne (by omega)]; exact h.2.2.1 k hk
  · intro k hk; rw [up1_ne (by omega)]; exact h.2.2.2.1 k hk
  · intro k hk; rw [up1_ne (by omega)]; exact h.2.2.2.2.1 k hk
  · rw [up1_ne (by omega)]; exact h.2.2.2.2.2
theorem SBd_wear (h : SBd n s) {p : Nat} {v : Int} (hp : p < 9) (hv : 0 ≤ v ∧ v ≤ 99) : SBd n (up1 s (30 + p) v) := by
  refine ⟨?_, ?_, ?_, ?_, ?_, ?_⟩
  · intro k hk; rw [up1_ne (by omega), up1_ne (by omega)]; exact h.1 k hk
  · intro k hk; rw [up1_ne (by omega)]; exact h.2.1 k hk
  · intro k hk; rw [up1_ne (by omega)]; exact h.2.2.1 k hk
  · intro k hk
    by_cases q : k = p
    · subst q; rw [up1_eq]; exact hv
    · rw [up1_ne (by omega)]; exact h.2.2.2.1 k hk
  · intro k hk; rw [up1_ne (by omega)]; exact h.2.2.2.2.1 k hk
  · rw [up1_ne (by omega)]; exact h.2.2.2.2.2
theorem SBd_ridge (h : SBd n s) {p : Nat} {v : Int} (hp : p < 9) (hv : 0 ≤ v ∧ v ≤ 99) : SBd n (up1 s (39 + p) v) := by
  refine ⟨?_, ?_, ?_, ?_, ?_, ?_⟩
  · intro k hk; rw [up1_ne (by omega), up1_ne (by omega)]; exact h.1 k hk
  · intro k hk; rw [up1_ne (by omega)]; exact h.2.1 k hk
  · intro k hk; rw [up1_ne (by omega)]; exact h.2.2.1 k hk
  · intro k hk; rw [up1_ne (by omega)]; exact h.2.2.2.1 k hk
  · intro k hk
    by_cases q : k = p
    · subst q; rw [up1_eq]; exact hv
    · rw [up1_ne (by omega)]; exact h.2.2.2.2.1 k hk
  · rw [up1_ne (by omega)]; exact h.2.2.2.2.2
theorem SBd_wool (h : SBd n s) {v : Int} (hv : 0 ≤ v ∧ v ≤ 99) : SBd n (up1 s 48 v) := by
  refine ⟨?_, ?_, ?_, ?_, ?_, ?_⟩
  · intro k hk; rw [up1_ne (by omega), up1_ne (by omega)]; exact h.1 k hk
  · intro k hk; rw [up1_ne (by omega)]; exact h.2.1 k hk
  · intro k hk; rw [up1_ne (by omega)]; exact h.2.2.1 k hk
  · intro k hk; rw [up1_ne (by omega)]; exact h.2.2.2.1 k hk
  · intro k hk; rw [up1_ne (by omega)]; exact h.2.2.2.2.1 k hk
  · rw [up1_eq]; exact hv
theorem SBd_any (h : SBd n s) {k : Nat} {v : Int} (hk : 24 ≤ k ∧ k < 30 ∨ k = 49) : SBd n (up1 s k v) := by
  refine ⟨?_, ?_, ?_, ?_, ?_, ?_⟩
  · intro j hj; rw [up1_ne (by omega), up1_ne (by omega)]; exact h.1 j hj
  · intro j hj; rw [up1_ne (by omega)]; exact h.2.1 j hj
  · intro j hj; rw [up1_ne (by omega)]; exact h.2.2.1 j hj
  · intro j hj; rw [up1_ne (by omega)]; exact h.2.2.2.1 j hj
  · intro j hj; rw [up1_ne (by omega)]; exact h.2.2.2.2.1 j hj
  · rw [up1_ne (by omega)]; exact h.2.2.2.2.2
theorem SBd_heels (h : SBd n s) {p : Nat} {v : Int} (hp : p < 6) (hv : s p ≤ v ∧ v ≤ 20) : SBd n (up1 s p v) := by
  refine ⟨?_, ?_, ?_, ?_, ?_, ?_⟩
  · intro k hk
    have h1 := h.1 k hk
    by_cases q : k = p
    · subst q; rw [up1_eq, up1_ne (by omega)]; omega
    · rw [up1_ne (by omega), up1_ne (by omega)]; exact h1
  · intro k hk; rw [up1_ne (by omega)]; exact h.2.1 k hk
  · intro k hk; rw [up1_ne (by omega)]; exact h.2.2.1 k hk
  · intro k hk; rw [up1_ne (by omega)]; exact h.2.2.2.1 k hk
  · intro k hk; rw [up1_ne (by omega)]; exact h.2.2.2.2.1 k hk
  · rw [up1_ne (by omega)]; exact h.2.2.2.2.2
theorem SBd_hooks (h : SBd n s) {p : Nat} {v : Int} (hp : p < 6) (hv : 0 ≤ v ∧ v ≤ s p) : SBd n (up1 s (6 + p) v) := by
  refine ⟨?_, ?_, ?_, ?_, ?_, ?_⟩
  · intro k hk
    have h1 := h.1 k hk
    by_cases q : k = p
    · subst q; rw [up1_eq, up1_ne (by omega)]; omega
    · rw [up1_ne (by omega), up1_ne (by omega)]; exact h1
  · intro k hk; rw [up1_ne (by omega)]; exact h.2.1 k hk
  · intro k hk; rw [up1_ne (by omega)]; exact h.2.2.1 k hk
  · intro k hk; rw [up1_ne (by omega)]; exact h.2.2.2.1 k hk
  · intro k hk; rw [up1_ne (by omega)]; exact h.2.2.2.2.1 k hk
  · rw [up1_ne (by omega)]; exact h.2.2.2.2.2
theorem SBd_clr (h : SBd n s) : SBd n (clrB s) := by
  refine ⟨?_, ?_, ?_, ?_, ?_, ?_⟩
  · intro k hk; rw [clrB_ne (by omega), clrB_ne (by omega)]; exact h.1 k hk
  · intro k hk; rw [clrB_ne (by omega)]; exact h.2.1 k hk
  · intro k hk; rw [clrB, if_pos (by omega)]; exact Or.inl rfl
  · intro k hk; rw [clrB_ne (by omega)]; exact h.2.2.2.1 k hk
  · intro k hk; rw [clrB_ne (by omega)]; exact h.2.2.2.2.1 k hk
  · rw [clrB_ne (by omega)]; exact h.2.2.2.2.2
end SB
/-- what an egg that is out does in a day -/
def act1 (s : Nat → Int) (e p : Nat) : Nat → Int := if s e < 2 * s (6 + e) then up1 s (30 + p) (min 99 (s (30 + p) + 2)) else if 0 < s (30 + p) then up1 s (30 + p) (s (30 + p) - 1) else up1 s (39 + p) (min 99 (s (39 + p) + 1))
def act2 (V : VT) (s : Nat → Int) (p : Nat) : Int := (mostF (vnr V p).testBit (fun o => s (30 + o)) (vn V)).1
def act3 (V : VT) (s : Nat → Int) (e p : Nat) : Nat → Int := if act2 V s p = -1 then s else up1 s (12 + e) (act2 V s p)
def actA (V : VT) (s : Nat → Int) (e : Nat) : Nat → Int := if s (12 + e) = -1 then s else if 0 < act1 s e (s (12 + e)).toNat (30 + (s (12 + e)).toNat) then act1 s e (s (12 + e)).toNat else act3 V (act1 s e (s (12 + e)).toNat) e (s (12 + e)).toNat
def actsA (V : VT) (s : Nat → Int) : Nat → Nat → Int
  | 0 => s
  | k + 1 => actA V (actsA V s k) k
def mothA (s : Nat → Int) : Nat → Nat → Int
  | 0 => s
  | k + 1 => up1 (mothA s k) (30 + k) (min 99 (mothA s k (30 + k) + 1))
def pass1 (V : VT) (s : Nat → Int) : Nat → Int := up1 (actsA V s (ve V)) 49 (actsA V s (ve V) 49 + 1)
def passA (V : VT) (s : Nat → Int) : Nat → Int := clrB (if 0 < vmo V ∧ pass1 V s 49 % vmo V = 0 then mothA (pass1 V s) (vn V) else pass1 V s)
section SB2
variable {V : VT} {s : Nat → Int} {e p : Nat}
theorem SBd_act1 (h : SBd (vn V) s) (hp : p < 9) : SBd (vn V) (act1 s e p) := by
  have h4 := h.2.2.2.1 p hp
  have h5 := h.2.2.2.2.1 p hp
  unfold act1
  split
  · exact SBd_wear h hp (by omega)
  · split
    · exact SBd_wear h hp (by omega)
    · exact SBd_ridge h hp (by omega)
theorem act1_at {i : Nat} (hi : i < 30 ∨ i = 48 ∨ i = 49) (hp : p < 9) : act1 s e p i = s i := by
  unfold act1
  split
  · exact up1_ne (by omega)
  · split
    · exact up1_ne (by omega)
    · exact up1_ne (by omega)
theorem SBd_act (h : SBd (vn V) s) (hV : VBd V) (he : e < 6) : SBd (vn V) (actA V s e) := by
  have h2 := h.2.1 e he
  have h9 := hV.2.2.1
  unfold actA
  split
  · exact h
  · have hp : (s (12 + e)).toNat < 9 := by omega
    split
    · exact SBd_act1 h hp
    · unfold act3
      split
      · exact SBd_act1 h hp
      · exact SBd_at (SBd_act1 h hp) he (mostF_ix _ _ _)
theorem act_day (hV : VBd V) (h : SBd (vn V) s) (he : e < 6) : actA V s e 49 = s 49 := by
  have h2 := h.2.1 e he
  have h9 := hV.2.2.1
  unfold actA
  split
  · rfl
  · have hp : (s (12 + e)).toNat < 9 := by omega
    split
    · exact act1_at (by omega) hp
    · unfold act3
      split
      · exact act1_at (by omega) hp
      · rw [up1_ne (by omega)]; exact act1_at (by omega) hp
theorem SBd_acts (h : SBd (vn V) s) (hV : VBd V) : ∀ k, k ≤ 6 → SBd (vn V) (actsA V s k) ∧ actsA V s k 49 = s 49
  | 0, _ => ⟨h, rfl⟩
  | k + 1, hk => by
    have h1 := SBd_acts h hV k (by omega)
    exact ⟨SBd_act h1.1 hV (by omega), (act_day hV h1.1 (by omega)).trans h1.2⟩
theorem SBd_moth {n : Nat} (h : SBd n s) : ∀ k, k ≤ 9 → SBd n (mothA s k) ∧ mothA s k 49 = s 49
  | 0, _ => ⟨h, rfl⟩
  | k + 1, hk => by
    have h1 := SBd_moth h k (by omega)
    have h2 := h1.1.2.2.2.1 k (by omega)
    exact ⟨SBd_wear h1.1 (by omega) (by omega), (up1_ne (by omega)).trans h1.2⟩
theorem SBd_pass (h : SBd (vn V) s) (hV : VBd V) : SBd (vn V) (passA V s) ∧ passA V s 49 = s 49 + 1 := by
  have h1 := SBd_acts h hV (ve V) hV.1
  have h2 : SBd (vn V) (pass1 V s) := SBd_any h1.1 (by omega)
  have h3 : pass1 V s 49 = s 49 + 1 := by unfold pass1; rw [up1_eq, h1.2]
  have h4 := SBd_moth h2 (vn V) hV.2.2.1
  unfold passA
  refine ⟨SBd_clr ?_, ?_⟩
  · split
    · exact h4.1
    · exact h2
  · rw [clrB_ne (by omega)]
    split
    · rw [h4.2, h3]
    · exact h3
end SB2
def fcts (V : VT) (s : Nat → Int) (h e p : Nat) : Nat → Int := fac (s e) (van V h) (s (30 + p)) (s (39 + p)) (s 48) (s (6 + e)) (s 49) (h : Int)
def mendA (V : VT) (T : LT) (s : Nat → Int) (h e p : Nat) : Int := mendL T (fcts V s h e p)
def canA (V : VT) (s : Nat → Int) (h e p : Nat) : Prop := 0 < s 48 ∧ s e < vtk V e ∧ s (18 + h) = 0 ∧ 0 < s (30 + p)
def darn1 (V : VT) (T : LT) (s : Nat → Int) (h e p : Nat) : Nat → Int := up1 (up1 (up1 (up1 s (30 + p) (max 0 (s (30 + p) - mendA V T s h e p))) (39 + p) (min 99 (s (39 + p) + max 0 (mendA V T s h e p - s (30 + p))))) 48 (s 48 - 1)) e (s e + 1)
def darnS (V : VT) (T : LT) (s : Nat → Int) (h e p : Nat) : Nat → Int := up1 (up1 (up1 (darn1 V T s h e p) (6 + e) (s (6 + e) + (if van V h < 5 then 0 else 1))) (18 + h) 1) (24 + h) (s (24 + h) + 1)
def letA (V : VT) (s : Nat → Int) (e p : Nat) : Int × (Nat → Int) := if s e < vtk V e ∨ s (12 + e) = (p : Int) then (0, s) else (1, up1 s (12 + e) (p : Int))
def callA (s : Nat → Int) (e : Nat) : Int × (Nat → Int) := if s (12 + e) = -1 then (0, s) else (1, up1 s (12 + e) (-1))
def unpickA (s : Nat → Int) (p : Nat) : Int × (Nat → Int) := if s (39 + p) = 0 then (0, s) else (1, up1 (up1 (up1 s (30 + p) (min 99 (s (30 + p) + s (39 + p)))) (39 + p) 0) 48 (min 99 (s 48 + s (39 + p) / 2)))
def shearA (s : Nat → Int) (a : Int) : Int × (Nat → Int) := if s 48 = 99 then (0, s) else (1, up1 s 48 (min 99 (s 48 + a)))
def dayA (V : VT) (s : Nat → Int) : Int × (Nat → Int) := if s 49 = 600 then (0, s) else (1, passA V s)
theorem canA_dec (V : VT) (s : Nat → Int) (h e p : Nat) : canA V s h e p ∨ ¬ canA V s h e p := Classical.em _
section SB3
variable {V : VT} {T : LT} {s : Nat → Int} {h e p : Nat}
theorem fcts_b (hV : VBd V) (hs : SBd (vn V) s) (hd : 0 ≤ s 49 ∧ s 49 ≤ 2000) (hh : h < vh V) (he : e < ve V) (hp : p < vn V) : ∀ z ∈ [s e, van V h, s (30 + p), s (39 + p), s 48, s (6 + e), s 49, (h : Int)], 0 ≤ z ∧ z ≤ 2000 := by
  have b1 := hs.1 e (by have := hV.1; omega)
  have b2 := hV.2.2.2.2.2.2.1 h hh
  have b3 := hs.2.2.2.1 p (by have := hV.2.2.1; omega)
  have b4 := hs.2.2.2.2.1 p (by have := hV.2.2.1; omega)
  have b5 := hs.2.2.2.2.2
  have b6 := hV.2.1
  simp only [List.mem_cons, List.not_mem_nil, or_false, forall_eq_or_imp, forall_eq]
  omega
theorem SBd_darn (hV : VBd V) (hs : SBd (vn V) s) (hh : h < vh V) (he : e < ve V) (hp : p < vn V) (hc : canA V s h e p) : SBd (vn V) (darnS V T s h e p) := by
  have v1 := hV.1
  have v2 := hV.2.1
  have v3 := hV.2.2.1
  have m := mendL_b T (fcts V s h e p)
  have b1 := hs.1 e (by omega)
  have b3 := hs.2.2.2.1 p (by omega)
  have b4 := hs.2.2.2.2.1 p (by omega)
  have b5 := hs.2.2.2.2.2
  have b6 := hV.2.2.2.2.2.1 e he
  obtain ⟨c1, c2, c3, c4⟩ := hc
  have m' : 0 ≤ mendA V T s h e p ∧ mendA V T s h e p ≤ 20 := m
  have s1 : SBd (vn V) (up1 s (30 + p) (max 0 (s (30 + p) - mendA V T s h e p))) := SBd_wear hs (by omega) (by omega)
  have s2 := SBd_ridge s1 (p := p) (v := min 99 (s (39 + p) + max 0 (mendA V T s h e p - s (30 + p)))) (by omega) (by omega)
  have s3 := SBd_wool s2 (v := s 48 - 1) (by omega)
  have s4 : SBd (vn V) (darn1 V T s h e p) := SBd_heels s3 (p := e) (v := s e + 1) (by omega) (by rw [up1_ne (by omega), up1_ne (by omega), up1_ne (by omega)]; omega)
  have e4 : darn1 V T s h e p e = s e + 1 := up1_eq _ _ _
  have s5 := SBd_hooks s4 (p := e) (v := s (6 + e) + (if van V h < 5 then 0 else 1)) (by omega) (by rw [e4]; split <;> omega)
  exact SBd_any (SBd_busy s5 (by omega) (Or.inr rfl)) (by omega)
theorem darn_day (hp : p < 9) (he : e < 6) (hh : h < 6) : darnS V T s h e p 49 = s 49 := by
  unfold darnS darn1
  rw [up1_ne (by omega), up1_ne (by omega), up1_ne (by omega), up1_ne (by omega), up1_ne (by omega), up1_ne (by omega), up1_ne (by omega)]
end SB3
