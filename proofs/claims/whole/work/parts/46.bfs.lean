/-! a search by layers, of any graph; the holes that hang together -/
def Rn (nx : Nat → Nat → Option Nat) (H s0 : Nat) : Nat → Nat → Prop
  | 0, t => t = s0
  | n + 1, t => ∃ u p, Rn nx H s0 n u ∧ p < H ∧ nx u p = some t
def Dist (nx : Nat → Nat → Option Nat) (H s0 : Nat) (acc : Nat → Prop) (r : Int) : Prop := (∃ n t, r = ((n : Nat) : Int) ∧ Rn nx H s0 n t ∧ acc t ∧ ∀ m t', m < n → Rn nx H s0 m t' → ¬ acc t') ∨ (r = -1 ∧ ∀ m t', Rn nx H s0 m t' → ¬ acc t')
def cntF (p : Nat → Bool) : Nat → Nat
  | 0 => 0
  | n + 1 => if p n then cntF p n + 1 else cntF p n
theorem cntF_le (p : Nat → Bool) : ∀ n, cntF p n ≤ n
  | 0 => Nat.le_refl _
  | n + 1 => by have := cntF_le p n; unfold cntF; split <;> omega
theorem cntF_congr {p q : Nat → Bool} : ∀ {n : Nat}, (∀ k, k < n → p k = q k) → cntF p n = cntF q n
  | 0, _ => rfl
  | n + 1, h => by unfold cntF; rw [h n (by omega), cntF_congr (fun k hk => h k (by omega))]
theorem cntF_lt {p : Nat → Bool} : ∀ {n u : Nat}, u < n → p u = false → cntF p n < n
  | 0, u, h, _ => absurd h (Nat.not_lt_zero u)
  | n + 1, u, h, hp => by
    unfold cntF
    by_cases q : u = n
    · subst q; rw [hp]; have := cntF_le p u; simp; omega
    · have := cntF_lt (n := n) (u := u) (by omega) hp
      split <;> omega
theorem cntF_up {p q : Nat → Bool} : ∀ {n u : Nat}, u < n → p u = false → q u = true → (∀ k, k ≠ u → q k = p k) → cntF q n = cntF p n + 1
  | 0, u, h, _, _, _ => absurd h (Nat.not_lt_zero u)
  | n + 1, u, h, hp, hq, he => by
    unfold cntF
    by_cases z : u = n
    · subst z; rw [hp, hq, cntF_congr (fun k hk => he k (by omega))]; simp
    · rw [he n (by omega), cntF_up (n := n) (by omega) hp hq he]
      split <;> omega
theorem cntF_mono {p q : Nat → Bool} : ∀ {n : Nat}, (∀ k, k < n → p k = true → q k = true) → cntF p n ≤ cntF q n
  | 0, _ => Nat.le_refl _
  | n + 1, h => by
    have ih := cntF_mono (fun k hk => h k (by omega) : ∀ k, k < n → _)
    have h1 := h n (by omega)
    unfold cntF
    by_cases a : p n = true
    · rw [if_pos a, if_pos (h1 a)]; omega
    · rw [if_neg a]; split <;> omega
theorem cntF_sub {p q : Nat → Bool} : ∀ {n u : Nat}, (∀ k, k < n → p k = true → q k = true) → u < n → p u = false → q u = true → cntF p n < cntF q n
  | 0, u, _, h, _, _ => absurd h (Nat.not_lt_zero u)
  | n + 1, u, h, hu, hp, hq => by
    have im := cntF_mono (fun k hk => h k (by omega) : ∀ k, k < n → _)
    have h1 := h n (by omega)
    unfold cntF
    by_cases z : u = n
    · subst z; rw [hp, hq]; simp; omega
    · have ih := cntF_sub (n := n) (u := u) (fun k hk => h k (by omega)) (by omega) hp hq
      by_cases a : p n = true
      · rw [if_pos a, if_pos (h1 a)]; omega
      · rw [if_neg a]; split <;> omega
def upN (q : Nat → Nat) (m t : Nat) : Nat → Nat := fun j => if j = m then t else q j
section BF
variable {nx : Nat → Nat → Option Nat} {H N s0 : Nat} {acc : Nat → Prop} {far : Nat → Int} {q : Nat → Nat} {m i p : Nat}
/-- the search so far: i looked at, of the next one p neighbours -/
def BI (nx : Nat → Nat → Option Nat) (H N s0 : Nat) (acc : Nat → Prop) (far : Nat → Int) (q : Nat → Nat) (m i p : Nat) : Prop :=
  (∀ j, j < m → q j < N ∧ 0 ≤ far (q j) ∧ far (q j) ≤ j ∧ Rn nx H s0 (far (q j)).toNat (q j)) ∧ (∀ u, u < N → far u = -1 ∨ ∃ j, j < m ∧ q j = u) ∧ (∀ j k, j ≤ k → k < m → far (q j) ≤ far (q k)) ∧ (∀ k, i < m → k < m → far (q k) ≤ far (q i) + 1) ∧
  (∀ j t p', j < i → p' < H → nx (q j) p' = some t → ¬ far t = -1 ∧ far t ≤ far (q j) + 1) ∧ (i < m → ∀ t p', p' < p → nx (q i) p' = some t → ¬ far t = -1 ∧ far t ≤ far (q i) + 1) ∧ (∀ j, j < i → ¬ acc (q j)) ∧ (0 < m ∧ q 0 = s0 ∧ far s0 = 0) ∧ m = cntF (fun u => decide (¬ far u = -1)) N ∧ i ≤ m
theorem BI_0 (h : BI nx H N s0 acc far q m i p) : BI nx H N s0 acc far q m i 0 := by
  obtain ⟨h1, h2, h3, h4, h5, h6, h7, h8, h9, h10⟩ := h
  exact ⟨h1, h2, h3, h4, h5, fun _ t p' hp => absurd hp (Nat.not_lt_zero _), h7, h8, h9, h10⟩
theorem BI_next (h : BI nx H N s0 acc far q m i H) (hi : i < m) (ha : ¬ acc (q i)) : BI nx H N s0 acc far q m (i + 1) 0 := by
  obtain ⟨h1, h2, h3, h4, h5, h6, h7, h8, h9, h10⟩ := h
  refine ⟨h1, h2, h3, fun k a b => ?_, fun j t p' hj hp hn => ?_, fun _ t p' hp => absurd hp (Nat.not_lt_zero _), fun j hj => ?_, h8, h9, by omega⟩
  · have := h3 i (i + 1) (by omega) a
    have := h4 k hi b
    omega
  · rcases Nat.lt_or_ge j i with z | z
    · exact h5 j t p' z hp hn
    · have : j = i := by omega
      subst this
      exact h6 hi t p' hp hn
  · rcases Nat.lt_or_ge j i with z | z
    · exact h7 j z
    · have : j = i := by omega
      subst this
      exact ha
theorem BI_skip (h : BI nx H N s0 acc far q m i p) (hn : ∀ t, nx (q i) p = some t → ¬ far t = -1 ∧ t < N) : BI nx H N s0 acc far q m i (p + 1) := by
  obtain ⟨h1, h2, h3, h4, h5, h6, h7, h8, h9, h10⟩ := h
  refine ⟨h1, h2, h3, h4, h5, fun hi t p' hp ht => ?_, h7, h8, h9, h10⟩
  rcases Nat.lt_or_ge p' p with z | z
  · exact h6 hi t p' z ht
  · have : p' = p := by omega
    subst this
    obtain ⟨w1, w2⟩ := hn t ht
    refine ⟨w1, ?_⟩
    rcases h2 t w2 with z2 | ⟨j, hj, rfl⟩
    · exact absurd z2 w1
    · exact h4 j hi hj
theorem BI_add (h : BI nx H N s0 acc far q m i p) (hi : i < m) (hp : p < H) {t : Nat} (hn : nx (q i) p = some t) (ht : t < N) (hf : far t = -1) : BI nx H N s0 acc (up1 far t (far (q i) + 1)) (upN q m t) (m + 1) i (p + 1) ∧ m < N := by
  obtain ⟨h1, h2, h3, h4, h5, h6, h7, h8, h9, h10⟩ := h
  have hq : ∀ j, j < m → q j ≠ t := fun j hj e => by have := (h1 j hj).2.1; rw [e, hf] at this; omega
  have hq' : ∀ j, j < m → up1 far t (far (q i) + 1) (q j) = far (q j) := fun j hj => up1_ne (hq j hj)
  have hqi := h1 i hi
  have hjm : ∀ j, j < m → upN q m t j = q j := fun j hj => if_neg (by omega)
  have hmm : upN q m t m = t := if_pos rfl
  have hc : cntF (fun u => decide (¬ up1 far t (far (q i) + 1) u = -1)) N = cntF (fun u => decide (¬ far u = -1)) N + 1 := by
    refine cntF_up (u := t) ht (by simp [hf]) ?_ (fun k hk => by rw [up1_ne hk])
    rw [up1_eq]; simp; omega
  have hlt : m < N := by rw [h9]; exact cntF_lt ht (by simp [hf])
  refine ⟨⟨fun j hj => ?_, fun u hu => ?_, fun j k hjk hk => ?_, fun k a b => ?_, fun j t' p' hj hp' hn' => ?_, fun a t' p' hp' hn' => ?_, fun j hj => ?_, ⟨by omega, ?_, ?_⟩, ?_, by omega⟩, hlt⟩
  · rcases Nat.lt_or_ge j m with z | z
    · rw [hjm j z, hq' j z]; have := h1 j z; exact ⟨this.1, this.2.1, by omega, this.2.2.2⟩
    · have : j = m := by omega
      subst this
      rw [hmm, up1_eq]
      refine ⟨ht, by omega, by omega, ?_⟩
      rw [show (far (q i) + 1).toNat = (far (q i)).toNat + 1 by omega]
      exact ⟨q i, p, hqi.2.2.2, hp, hn⟩
  · by_cases z : u = t
    · subst z; exact Or.inr ⟨m, by omega, hmm⟩
    · rw [up1_ne z]
      rcases h2 u hu with w | ⟨j, hj, w⟩
      · exact Or.inl w
      · exact Or.inr ⟨j, by omega, by rw [hjm j hj]; exact w⟩
  · rcases Nat.lt_or_ge k m with z | z
    · rw [hjm k z, hjm j (by omega), hq' k z, hq' j (by omega)]; exact h3 j k hjk z
    · have : k = m := by omega
      subst this
      rw [hmm, up1_eq]
      rcases Nat.lt_or_ge j k with z2 | z2
      · rw [hjm j z2, hq' j z2]; exact h4 j hi z2
      · have : j = k := by omega
        subst this
        rw [hmm, up1_eq]; omega
  · rw [hjm i hi, hq' i hi]
    rcases Nat.lt_or_ge k m with z | z
    · rw [hjm k z, hq' k z]; exact h4 k hi z
    · have : k = m := by omega
      subst this
      rw [hmm, up1_eq]; omega
  · rw [hjm j (by omega)] at hn'
    rw [hjm j (by omega), hq' j (by omega)]
    have w := h5 j t' p' hj hp' hn'
    rw [up1_ne (by intro e; rw [e] at w; exact w.1 hf)]
    exact w
  · rw [hjm i hi] at hn'
    rw [hjm i hi, hq' i hi]
    rcases Nat.lt_or_ge p' p with z | z
    · have w := h6 hi t' p' z hn'
      rw [up1_ne (by intro e; rw [e] at w; exact w.1 hf)]
      exact w
    · have : p' = p := by omega
      subst this
      rw [hn] at hn'
      cases hn'
      rw [up1_eq]; omega
  · rw [hjm j (by omega)]; exact h7 j hj
  · rw [hjm 0 h8.1]; exact h8.2.1
  · rw [up1_ne (by intro e; rw [← e] at hf; omega)]; exact h8.2.2
  · rw [hc, ← h9]
theorem BI_claim (h : BI nx H N s0 acc far q m i 0) (hN : ∀ n t, Rn nx H s0 n t → t < N) : ∀ n t, Rn nx H s0 n t → (∃ j, j < m ∧ q j = t ∧ far t ≤ n) ∨ ∃ j, i ≤ j ∧ j < m ∧ far (q j) < n := by
  intro n
  have h8 := h.2.2.2.2.2.2.2.1
  induction n with
  | zero => intro t ht; left; refine ⟨0, h8.1, h8.2.1.trans ht.symm, ?_⟩; rw [show t = s0 from ht, h8.2.2]; exact Int.le_refl _
  | succ n ih =>
    intro t ht
    have htN := hN _ _ ht
    obtain ⟨u, p, hu, hp, hn⟩ := ht
    rcases ih u hu with ⟨j, hj, e, hf⟩ | ⟨j, a, b, c⟩
    · subst e
      rcases Nat.lt_or_ge j i with z | z
      · left
        have w := h.2.2.2.2.1 j t p z hp hn
        rcases h.2.1 t htN with z2 | ⟨k, hk, e⟩
        · exact absurd z2 w.1
        · exact ⟨k, hk, e, by have := w.2; omega⟩
      · right
        exact ⟨j, z, hj, by omega⟩
    · right
      exact ⟨j, a, b, by omega⟩
theorem BI_acc (h : BI nx H N s0 acc far q m i 0) (hN : ∀ n t, Rn nx H s0 n t → t < N) (hi : i < m) (ha : acc (q i)) : Dist nx H s0 acc (far (q i)) := by
  have h1 := h.1 i hi
  left
  refine ⟨(far (q i)).toNat, q i, by omega, h1.2.2.2, ha, fun k t hk ht hacc => ?_⟩
  rcases BI_claim h hN k t ht with ⟨j, hj, e, hf⟩ | ⟨j, a, b, c⟩
  · subst e
    rcases Nat.lt_or_ge j i with z | z
    · exact h.2.2.2.2.2.2.1 j z hacc
    · have := h.2.2.1 i j z hj
      omega
  · have := h.2.2.1 i j a b
    omega
theorem BI_end (h : BI nx H N s0 acc far q m m 0) (hN : ∀ n t, Rn nx H s0 n t → t < N) : Dist nx H s0 acc (-1) := by
  right
  refine ⟨rfl, fun k t ht hacc => ?_⟩
  rcases BI_claim h hN k t ht with ⟨j, hj, e, hf⟩ | ⟨j, a, b, c⟩
  · subst e; exact h.2.2.2.2.2.2.1 j hj hacc
  · omega
theorem BI_start (hs : s0 < N) (hf : far s0 = 0) (ho : ∀ u, u < N → u ≠ s0 → far u = -1) (hq : q 0 = s0) : BI nx H N s0 acc far q 1 0 0 := by
  have hc : cntF (fun u => decide (¬ far u = -1)) N = cntF (fun _ => false) N + 1 := by
    have : cntF (fun u => decide (¬ far u = -1)) N = cntF (fun u => decide (u = s0)) N := cntF_congr (fun k hk => by
      by_cases z : k = s0
      · subst z; simp [hf]
      · simp [ho k hk z, z])
    rw [this]
    exact cntF_up hs rfl (by simp) (fun k hk => by simp [hk])
  have h0 : cntF (fun _ => false) N = 0 := by
    have : ∀ n, cntF (fun _ => false) n = 0 := fun n => by
      induction n with
      | zero => rfl
      | succ n ih => unfold cntF; simp [ih]
    exact this N
  refine ⟨fun j hj => ?_, fun u hu => ?_, fun j k a b => ?_, fun k a b => ?_, fun j t p' hj => absurd hj (Nat.not_lt_zero _), fun _ t p' hp => absurd hp (Nat.not_lt_zero _), fun j hj => absurd hj (Nat.not_lt_zero _), ⟨by omega, hq, hf⟩, by omega, by omega⟩
  · have : j = 0 := by omega
    subst this
    rw [hq, hf]
    exact ⟨hs, by decide, by decide, rfl⟩
  · by_cases z : u = s0
    · subst z; exact Or.inr ⟨0, by omega, hq⟩
    · exact Or.inl (ho u hu z)
  · have : j = k := by omega
    subst this; omega
  · have : k = 0 := by omega
    subst this; omega
end BF
theorem Dist_map {nx1 nx2 : Nat → Nat → Option Nat} {H s1 s2 : Nat} {a1 a2 : Nat → Prop} {r1 r2 : Int} (f : Nat → Nat) (I : Nat → Prop) (h0 : I s1) (hs : f s1 = s2) (hI : ∀ u p t, I u → p < H → nx1 u p = some t → I t) (hn : ∀ u p, I u → p < H → nx2 (f u) p = (nx1 u p).map f) (ha : ∀ u, I u → (a2 (f u) ↔ a1 u)) (d1 : Dist nx1 H s1 a1 r1) (d2 : Dist nx2 H s2 a2 r2) : r1 = r2 := by
  have k1 : ∀ n t, Rn nx1 H s1 n t → I t ∧ Rn nx2 H s2 n (f t) := by
    intro n
    induction n with
    | zero => intro t ht; rw [show t = s1 from ht]; exact ⟨h0, hs⟩
    | succ n ih =>
      intro t ht
      obtain ⟨u, p, hu, hp, hx⟩ := ht
      have := ih u hu
      exact ⟨hI u p t this.1 hp hx, f u, p, this.2, hp, by rw [hn u p this.1 hp, hx]; rfl⟩
  have k2 : ∀ n v, Rn nx2 H s2 n v → ∃ t, Rn nx1 H s1 n t ∧ f t = v := by
    intro n
    induction n with
    | zero => intro v hv; exact ⟨s1, rfl, hs.trans (show v = s2 from hv).symm⟩
    | succ n ih =>
      intro v hv
      obtain ⟨u, p, hu, hp, hx⟩ := hv
      obtain ⟨t, ht, rfl⟩ := ih u hu
      rw [hn t p (k1 n t ht).1 hp] at hx
      obtain ⟨w, hw, rfl⟩ := Option.map_eq_some_iff.mp hx
      exact ⟨w, ⟨t, p, ht, hp, hw⟩, rfl⟩
  have up : ∀ n t, Rn nx1 H s1 n t → a1 t → ∃ v, Rn nx2 H s2 n v ∧ a2 v := fun n t ht h => ⟨f t, (k1 n t ht).2, (ha t (k1 n t ht).1).mpr h⟩
  have dn : ∀ n v, Rn nx2 H s2 n v → a2 v → ∃ t, Rn nx1 H s1 n t ∧ a1 t := fun n v hv h => by
    obtain ⟨t, ht, rfl⟩ := k2 n v hv
    exact ⟨t, ht, (ha t (k1 n t ht).1).mp h⟩
  rcases d1 with ⟨n1, t1, e1, b1, c1, m1⟩ | ⟨e1, m1⟩
  · obtain ⟨v, hv, hav⟩ := up n1 t1 b1 c1
    rcases d2 with ⟨n2, t2, e2, b2, c2, m2⟩ | ⟨e2, m2⟩
    · obtain ⟨t, ht, hat⟩ := dn n2 t2 b2 c2
      have q1 : ¬ n1 < n2 := fun z => m2 n1 v z hv hav
      have q2 : ¬ n2 < n1 := fun z => m1 n2 t z ht hat
      omega
    · exact absurd hav (m2 n1 v hv)
  · rcases d2 with ⟨n2, t2, e2, b2, c2, m2⟩ | ⟨e2, m2⟩
    · obtain ⟨t, ht, hat⟩ := dn n2 t2 b2 c2
      exact absurd hat (m1 n2 t ht)
    · omega
/-- a set of holes, and all that lie by one of them -/
def grdF (nr : Nat → Nat) (t : Nat) : Nat → Nat
  | 0 => t
  | k + 1 => if t.testBit k then grdF nr t k ||| nr k else grdF nr t k
theorem grdF_tb (nr : Nat → Nat) (t i : Nat) : ∀ n, (grdF nr t n).testBit i = true ↔ t.testBit i = true ∨ ∃ p, p < n ∧ t.testBit p = true ∧ (nr p).testBit i = true
  | 0 => by
    show t.testBit i = true ↔ _
    constructor
    · exact Or.inl
    · rintro (h | ⟨p, h, _⟩)
      · exact h
      · exact absurd h (Nat.not_lt_zero _)
  | n + 1 => by
    have ih := grdF_tb nr t i n
    unfold grdF
    split
    · rename_i h
      rw [Nat.testBit_or, Bool.or_eq_true, ih]
      constructor
      · rintro ((a | ⟨p, a, b, c⟩) | a)
        · exact Or.inl a
        · exact Or.inr ⟨p, by omega, b, c⟩
        · exact Or.inr ⟨n, by omega, h, a⟩
      · rintro (a | ⟨p, a, b, c⟩)
        · exact Or.inl (Or.inl a)
        · by_cases z : p = n
          · subst z; exact Or.inr c
          · exact Or.inl (Or.inr ⟨p, by omega, b, c⟩)
    · rename_i h
      rw [ih]
      constructor
      · rintro (a | ⟨p, a, b, c⟩)
        · exact Or.inl a
        · exact Or.inr ⟨p, by omega, b, c⟩
      · rintro (a | ⟨p, a, b, c⟩)
        · exact Or.inl a
        · by_cases z : p = n
          · subst z; exact absurd b h
          · exact Or.inr ⟨p, by omega, b, c⟩
theorem grdF_lt {nr : Nat → Nat} {t H : Nat} (ht : t < 2 ^ H) (hr : ∀ p, nr p < 2 ^ H) : ∀ n, grdF nr t n < 2 ^ H
  | 0 => ht
  | n + 1 => by
    have := grdF_lt ht hr n
    unfold grdF
    split
    · exact or_lt this (hr n)
    · exact this
def itF (f : Nat → Nat) (t : Nat) : Nat → Nat
  | 0 => t
  | k + 1 => f (itF f t k)
theorem itF_stab {f : Nat → Nat} {t j : Nat} (h : itF f t (j + 1) = itF f t j) : ∀ k, itF f t (j + k) = itF f t j
  | 0 => rfl
  | k + 1 => by
    show f (itF f t (j + k)) = _
    rw [itF_stab h k]; exact h
/-- a set that grows among H holes stands still before the H-th time -/
theorem grd_stab {nr : Nat → Nat} {t H : Nat} (ht : t < 2 ^ H) (hr : ∀ p, nr p < 2 ^ H) (h0 : ∃ i, t.testBit i = true) : ∃ j, j < H ∧ ∀ k, itF (fun u => grdF nr u H) t (j + k) = itF (fun u => grdF nr u H) t j := by
  have hlt : ∀ k, itF (fun u => grdF nr u H) t k < 2 ^ H := fun k => by
    induction k with
    | zero => exact ht
    | succ k ih => exact grdF_lt ih hr H
  have key : ∀ n, (∃ j, j < n ∧ itF (fun u => grdF nr u H) t (j + 1) = itF (fun u => grdF nr u H) t j) ∨ n + 1 ≤ cntF (fun i => (itF (fun u => grdF nr u H) t n).testBit i) H := by
    intro n
    induction n with
    | zero =>
      right
      obtain ⟨i, hi⟩ := h0
      have hiH : i < H := by
        rcases Nat.lt_or_ge i H with z | z
        · exact z
        · exfalso
          have := Nat.testBit_lt_two_pow (Nat.lt_of_lt_of_le ht (Nat.pow_le_pow_right (by decide) z) : t < 2 ^ i)
          rw [hi] at this; cases this
      have := cntF_sub (p := fun _ => false) (q := fun i => t.testBit i) (n := H) (u := i) (fun k _ h => by cases h) hiH rfl hi
      show 0 + 1 ≤ cntF (fun i => t.testBit i) H
      omega
    | succ n ih =>
      rcases ih with ⟨j, hj, e⟩ | hc
      · exact Or.inl ⟨j, by omega, e⟩
      · by_cases e : itF (fun u => grdF nr u H) t (n + 1) = itF (fun u => grdF nr u H) t n
        · exact Or.inl ⟨n, by omega, e⟩
        · right
          have sub : ∀ i, (itF (fun u => grdF nr u H) t n).testBit i = true → (itF (fun u => grdF nr u H) t (n + 1)).testBit i = true := fun i hi => (grdF_tb nr _ i H).mpr (Or.inl hi)
          obtain ⟨i, hi1, hi2⟩ : ∃ i, (itF (fun u => grdF nr u H) t n).testBit i = false ∧ (itF (fun u => grdF nr u H) t (n + 1)).testBit i = true := by
            apply Classical.byContradiction
            intro no
            apply e
            apply Nat.eq_of_testBit_eq
            intro i
            cases a : (itF (fun u => grdF nr u H) t n).testBit i
            · cases b : (itF (fun u => grdF nr u H) t (n + 1)).testBit i
              · rfl
              · exact absurd ⟨i, a, b⟩ no
            · exact sub i a
          have hiH : i < H := by
            rcases Nat.lt_or_ge i H with z | z
            · exact z
            · exfalso
              have := Nat.testBit_lt_two_pow (Nat.lt_of_lt_of_le (hlt (n + 1)) (Nat.pow_le_pow_right (by decide) z) : _ < 2 ^ i)
              rw [hi2] at this; cases this
          have := cntF_sub (p := fun i => (itF (fun u => grdF nr u H) t n).testBit i) (q := fun i => (itF (fun u => grdF nr u H) t (n + 1)).testBit i) (n := H) (u := i) (fun k _ h => sub k h) hiH hi1 hi2
          omega
  rcases key H with ⟨j, hj, e⟩ | hc
  · exact ⟨j, hj, itF_stab e⟩
  · have := cntF_le (fun i => (itF (fun u => grdF nr u H) t H).testBit i) H
    omega
