/-! whose darn it was, the hole to look at next: both sides -/
def allF (p : Nat → Bool) : Nat → Bool
  | 0 => true
  | n + 1 => allF p n && p n
theorem allF_iff {p : Nat → Bool} : ∀ {n : Nat}, allF p n = true ↔ ∀ k, k < n → p k = true
  | 0 => ⟨fun _ k h => absurd h (Nat.not_lt_zero k), fun _ => rfl⟩
  | n + 1 => by
    unfold allF
    rw [Bool.and_eq_true, allF_iff (n := n)]
    constructor
    · rintro ⟨h1, h2⟩ k hk
      by_cases q : k = n
      · subst q; exact h2
      · exact h1 k (by omega)
    · intro h
      exact ⟨fun k hk => h k (by omega), h n (by omega)⟩
/-- what a darn would leave -/
def leftA (V : VT) (T : LT) (s : Nat → Int) (h e p : Nat) : Int := max 0 (s (30 + p) - mendA V T s h e p)
def fitA (V : VT) (T : LT) (s bk : Nat → Int) (h e : Nat) : Bool := allF (fun p => decide (bk p = -1 ∨ leftA V T s h e p = bk p)) (vn V)
theorem fitA_iff {V : VT} {T : LT} {s bk : Nat → Int} {h e : Nat} : fitA V T s bk h e = true ↔ ∀ p, p < vn V → bk p = -1 ∨ leftA V T s h e p = bk p := by
  unfold fitA
  rw [allF_iff]
  simp only [decide_eq_true_eq]
theorem mendA_b (V : VT) (T : LT) (s : Nat → Int) (h e p : Nat) : 0 ≤ mendA V T s h e p ∧ mendA V T s h e p ≤ 20 := mendL_b T _
theorem leftA_b {V : VT} {T : LT} {s : Nat → Int} {h e p : Nat} (hp : 0 ≤ s (30 + p) ∧ s (30 + p) ≤ 99) : 0 ≤ leftA V T s h e p ∧ leftA V T s h e p ≤ 99 := by
  have := mendA_b V T s h e p
  unfold leftA
  omega
/-- the pairs of hand and egg in one row -/
def prA (V : VT) (T : LT) (s bk : Nat → Int) (i : Nat) : Bool := decide (i / 6 < vh V ∧ i % 6 < ve V) && fitA V T s bk (i / 6) (i % 6)
def ffF (P : Nat → Bool) : Nat → Int
  | 0 => -1
  | k + 1 => if ffF P k = -1 ∧ P k = true then (k : Int) else ffF P k
theorem ffF_b (P : Nat → Bool) : ∀ k, -1 ≤ ffF P k ∧ ffF P k < k
  | 0 => ⟨show (-1 : Int) ≤ -1 by decide, show (-1 : Int) < 0 by decide⟩
  | k + 1 => by
    have := ffF_b P k
    unfold ffF
    split <;> omega
theorem ffF_hit {P : Nat → Bool} {k : Nat} (h0 : ffF P k = -1) (h1 : P k = true) : ∀ m, ffF P (k + 1 + m) = (k : Int)
  | 0 => by show ffF P (k + 1) = _; rw [ffF, if_pos ⟨h0, h1⟩]
  | m + 1 => by
    have := ffF_hit h0 h1 m
    show ffF P (k + 1 + m + 1) = _
    rw [ffF, if_neg (by rw [this]; omega)]
    exact this
def cvP (r : Int) : Int := if r = -1 then -1 else r / 6 * 10 + r % 6
theorem cntF_skip {P : Nat → Bool} {k : Nat} : ∀ m, (∀ i, k ≤ i → i < k + m → P i = false) → cntF P (k + m) = cntF P k ∧ ffF P (k + m) = ffF P k
  | 0, _ => ⟨rfl, rfl⟩
  | m + 1, h => by
    have ih := cntF_skip m (fun i a b => h i a (by omega))
    have h1 := h (k + m) (by omega) (by omega)
    show cntF P (k + m + 1) = _ ∧ ffF P (k + m + 1) = _
    rw [cntF, ffF, h1, if_neg (by decide), if_neg (by intro z; exact absurd z.2 (by decide))]
    exact ih
/-- how many are left at the worst -/
def tlF (P : Nat → Bool) (lf : Nat → Int) (k : Nat) (v : Nat) : Nat := cntF (fun i => P i && decide (lf i = (v : Int))) k
def moF (P : Nat → Bool) (lf : Nat → Int) : Nat → Int
  | 0 => 0
  | k + 1 => if P k = true then max (moF P lf k) (tlF P lf k (lf k).toNat + 1) else moF P lf k
theorem moF_b (P : Nat → Bool) (lf : Nat → Int) : ∀ k, 0 ≤ moF P lf k ∧ moF P lf k ≤ k
  | 0 => ⟨show (0 : Int) ≤ 0 by decide, show (0 : Int) ≤ 0 by decide⟩
  | k + 1 => by
    have := moF_b P lf k
    have := cntF_le (fun i => P i && decide (lf i = ((lf k).toNat : Int))) k
    unfold moF tlF
    split <;> omega
theorem moF_skip {P : Nat → Bool} {lf : Nat → Int} {k : Nat} : ∀ m, (∀ i, k ≤ i → i < k + m → P i = false) → moF P lf (k + m) = moF P lf k ∧ ∀ v, tlF P lf (k + m) v = tlF P lf k v
  | 0, _ => ⟨rfl, fun _ => rfl⟩
  | m + 1, h => by
    have ih := moF_skip (lf := lf) m (fun i a b => h i a (by omega))
    have h1 := h (k + m) (by omega) (by omega)
    constructor
    · show moF P lf (k + m + 1) = _
      rw [moF, h1, if_neg (by decide)]
      exact ih.1
    · intro v
      show tlF P lf (k + m + 1) v = _
      rw [← ih.2 v]
      unfold tlF
      rw [cntF, h1, Bool.false_and, if_neg (by decide)]
theorem tlF_y {P : Nat → Bool} {lf : Nat → Int} {k : Nat} (h : P k = true) (hl : 0 ≤ lf k) (v : Nat) : tlF P lf (k + 1) v = if v = (lf k).toNat then tlF P lf k v + 1 else tlF P lf k v := by
  unfold tlF
  rw [cntF, h, Bool.true_and]
  by_cases q : v = (lf k).toNat
  · rw [if_pos q, if_pos (by simp; omega)]
  · rw [if_neg q, if_neg (by simp; omega)]
theorem tlF_n {P : Nat → Bool} {lf : Nat → Int} {k : Nat} (h : P k = false) (v : Nat) : tlF P lf (k + 1) v = tlF P lf k v := by
  unfold tlF
  rw [cntF, h, Bool.false_and, if_neg (by decide)]
def lwA (V : VT) (T : LT) (s bk : Nat → Int) (p : Nat) : Int := moF (prA V T s bk) (fun i => leftA V T s (i / 6) (i % 6) p) 36
def lkF (V : VT) (T : LT) (s bk : Nat → Int) : Nat → Int × Int
  | 0 => (-1, -1)
  | k + 1 => if bk k = -1 ∧ ((lkF V T s bk k).1 = -1 ∨ lwA V T s bk k < (lkF V T s bk k).2) then ((k : Int), lwA V T s bk k) else lkF V T s bk k
theorem lkF_b (V : VT) (T : LT) (s bk : Nat → Int) : ∀ k, (-1 ≤ (lkF V T s bk k).1 ∧ (lkF V T s bk k).1 < k) ∧ -1 ≤ (lkF V T s bk k).2 ∧ (lkF V T s bk k).2 ≤ 36
  | 0 => ⟨⟨show (-1 : Int) ≤ -1 by decide, show (-1 : Int) < 0 by decide⟩, show (-1 : Int) ≤ -1 by decide, show (-1 : Int) ≤ 36 by decide⟩
  | k + 1 => by
    have h1 := lkF_b V T s bk k
    have h2 := moF_b (prA V T s bk) (fun i => leftA V T s (i / 6) (i % 6) k) 36
    unfold lkF
    split
    · unfold lwA; constructor
      · constructor <;> simp <;> omega
      · simp only; omega
    · omega
/-- a book: of the class's cells at b; of the reference's row -/
def BC (J : Nat → Nat → Int) (b n bn : Nat) (bk : Nat → Int) : Prop := J b 0 = (bn : Int) ∧ J b 3 = (bitF (fun p => decide (¬ bk p = -1)) 9 : Int) ∧ (∀ i, i < bn → ∃ p : Nat, p < n ∧ J (b + 1) i = (p : Int) ∧ J (b + 2) i = bk p ∧ ¬ bk p = -1) ∧ ∀ p, p < 9 → ¬ bk p = -1 → ∃ i, i < bn ∧ J (b + 1) i = (p : Int)
def BBd (n bn : Nat) (bk : Nat → Int) : Prop := bn ≤ 8 ∧ (∀ p, -1 ≤ bk p ∧ bk p ≤ 99) ∧ ∀ p, n ≤ p → bk p = -1
def BM (J : Nat → Nat → Int) (bn : Nat) (bk : Nat → Int) : Prop := J 542 50 = (bn : Int) ∧ ∀ p, p < 9 → J 565 p = bk p
theorem BC_cg {J J' : Nat → Nat → Int} {b n bn : Nat} {bk : Nat → Int} (h : BC J b n bn bk) (h0 : J' b 0 = J b 0) (h3 : J' b 3 = J b 3) (h1 : J' (b + 1) = J (b + 1)) (h2 : J' (b + 2) = J (b + 2)) : BC J' b n bn bk := by
  unfold BC
  rw [h0, h1, h2, h3]
  exact h
section FI
variable {X : Nat × (Nat → Int32)} {J : Nat → Nat → Int} {sw : Bool × Bool × Bool} {lg : Nat → Nat → Int64} {x a b v l h e p bn : Nat} {T : LT} {V : VT} {s bk : Nat → Int}
theorem e_5 (h0 : SH[b]? = some (5, 9)) (h1 : SH[a]? = some (11, 9)) (h2 : SH[v]? = some (14, 12)) (h3 : SH[l]? = some (8, 4)) (hV : VK J v V) (bV : VBd V) (hT : LK J l T) (wf : LWF T) (hs : SV J a s) (bs : SBd (vn V) s) (hd : 0 ≤ s 49 ∧ s 49 ≤ 2000) (hB : BC J b (vn V) bn bk) (bB : BBd (vn V) bn bk) (hh : h < vh V) (he : e < ve V) : ∃ J', EE X 4 5 [.ref b, .ref a, .ref v, .ref l, iv (h : Int), iv (e : Int)] (mj J sw lg x) (.inl (some (iv (if fitA V T s bk h e = true then 1 else 0)))) (mj J' sw lg x) ∧ ∀ c, c ≠ l + 2 → c ≠ l + 3 → J' c = J c := by
  have n0 := bnd_0 h0
  have n1 := bnd_6 h1
  have n2 := bnd_9 h2
  have n3 := bnd_3 h3
  have v3 := bV.2.2.1
  have b8 := bB.1
  refine EE.ex (O := fun _ => .inl (some (iv (if fitA V T s bk h e = true then 1 else 0)))) (F := fun J' => mj J' sw lg x) mt_5 (b_5_0 h0 h1 h2 h3 (by omega) ?_)
  have key := lp (P := fun k => ∀ J' : Nat → Nat → Int, (∀ c, c ≠ l + 2 → c ≠ l + 3 → J' c = J c) → (∀ i, i < k → ∀ p : Nat, J (b + 1) i = (p : Int) → leftA V T s h e p = bk p) → VV X 4 5 (3, [some (.ref b), some (.ref a), some (.ref v), some (.ref l), some (iv (h : Int)), some (iv (e : Int)), some (iv k)], [], mj J' sw lg x) (fun o M => ∃ z, o = .inl (some (iv (if fitA V T s bk h e = true then 1 else 0))) ∧ M = mj z sw lg x ∧ ∀ c, c ≠ l + 2 → c ≠ l + 3 → z c = J c)) bn ?_ ?_ 0 (Nat.zero_le _)
  · exact key J (fun _ _ _ => rfl) (fun i hi => absurd hi (Nat.not_lt_zero _))
  · intro J' hfr hok
    have e0 : J' b 0 = (bn : Int) := by rw [hfr b (by omega) (by omega)]; exact hB.1
    refine b_5_3 h0 h1 h2 h3 (by omega) ?_
    rw [e0]
    refine ⟨by omega, by omega, fun _ => ⟨J', ?_, rfl, hfr⟩, fun c => by omega⟩
    rw [if_pos (fitA_iff.mpr (fun p hp => ?_))]
    by_cases q : bk p = -1
    · exact Or.inl q
    · obtain ⟨i, hi, e1⟩ := hB.2.2.2 p (by omega) q
      exact Or.inr (hok i hi p e1)
  · intro k hk ih J' hfr hok
    have e0 : J' b 0 = (bn : Int) := by rw [hfr b (by omega) (by omega)]; exact hB.1
    obtain ⟨p, hp, e1, e2, e3⟩ := hB.2.2.1 k hk
    have e1' : J' (b + 1) (k : Int).toNat = (p : Int) := by rw [hfr (b + 1) (by omega) (by omega)]; exact e1
    have hs' : SV J' a s := SV_fr hs (fun c q1 q2 => hfr c (by omega) (by omega))
    have f2 : J' (a + 5) p = s (30 + p) := hs'.2.2.2.2.1 p (by omega)
    have b3 := bs.2.2.2.1 p (by omega)
    have mb := mendA_b V T s h e p
    have bb := bB.2.1 p
    refine b_5_3 h0 h1 h2 h3 (by omega) ?_
    rw [e0, e1', Int.toNat_natCast p, f2]
    refine ⟨by omega, by omega, fun c => by omega, fun _ => ⟨by omega, by omega, ex1 (e_48 h1 h2 h3 (VK_cg hV (fun c q1 q2 => hfr c (by omega) (by omega))) bV (LK_cg hT (hfr l (by omega) (by omega)) (hfr (l + 1) (by omega) (by omega))) wf hs' bs hd hh he hp) (fun J1 hf1 => ?_)⟩⟩
    have hfr1 : ∀ c, c ≠ l + 2 → c ≠ l + 3 → J1 c = J c := fun c q1 q2 => (hf1 c q1 q2).trans (hfr c q1 q2)
    have e2' : J1 (b + 2) (k : Int).toNat = bk p := by rw [hfr1 (b + 2) (by omega) (by omega)]; exact e2
    rw [e2']
    refine ⟨by omega, by omega, by omega, fun c => ih J1 hfr1 (fun i hi p' hp' => ?_), fun c => ⟨J1, ?_, rfl, hfr1⟩⟩
    · by_cases q : i = k
      · subst q
        have : p' = p := by rw [e1] at hp'; omega
        subst this
        exact c
      · exact hok i (by omega) p' hp'
    · rw [if_neg]
      intro z
      rcases fitA_iff.mp z p hp with w | w
      · exact e3 w
      · exact c w
/-- what is fixed while pairs are looked for -/
def CF (J : Nat → Nat → Int) (a b v l : Nat) (V : VT) (T : LT) (s : Nat → Int) (bn : Nat) (bk : Nat → Int) : Prop := VK J v V ∧ LK J l T ∧ SV J a s ∧ BC J b (vn V) bn bk
/-- nothing has changed but what looking for pairs uses -/
def FB (b l : Nat) (J J' : Nat → Nat → Int) : Prop := (∀ c, c ≠ l + 2 → c ≠ l + 3 → c ≠ b → c ≠ b + 3 → c ≠ b + 4 → J' c = J c) ∧ ∀ k, k < 6 → J' b k = J b k
theorem FB.tr {b l : Nat} {J J1 J2 : Nat → Nat → Int} (h1 : FB b l J J1) (h2 : FB b l J1 J2) : FB b l J J2 := ⟨fun c q1 q2 q3 q4 q5 => (h2.1 c q1 q2 q3 q4 q5).trans (h1.1 c q1 q2 q3 q4 q5), fun k hk => (h2.2 k hk).trans (h1.2 k hk)⟩
theorem FB.rf {b l : Nat} {J : Nat → Nat → Int} : FB b l J J := ⟨fun _ _ _ _ _ _ => rfl, fun _ _ => rfl⟩
theorem FB.law {b l : Nat} {J J' : Nat → Nat → Int} (h0 : SH[b]? = some (5, 9)) (h3 : SH[l]? = some (8, 4)) (h : ∀ c, c ≠ l + 2 → c ≠ l + 3 → J' c = J c) : FB b l J J' := by
  have n0 := bnd_0 h0
  have n3 := bnd_3 h3
  exact ⟨fun c q1 q2 _ _ _ => h c q1 q2, fun k hk => by rw [h b (by omega) (by omega)]⟩
theorem FB.up3 {b l k : Nat} {J : Nat → Nat → Int} {w : Int} : FB b l J (m_up J (b + 3) k w) := ⟨fun c q1 q2 q3 q4 q5 => up_r q4, fun k hk => up_na (by omega)⟩
theorem FB.up4 {b l k : Nat} {J : Nat → Nat → Int} {w : Int} : FB b l J (m_up J (b + 4) k w) := ⟨fun c q1 q2 q3 q4 q5 => up_r q5, fun k hk => up_na (by omega)⟩
theorem FB.upb {b l k : Nat} {J : Nat → Nat → Int} {w : Int} (hk : 6 ≤ k) : FB b l J (m_up J b k w) := ⟨fun c q1 q2 q3 q4 q5 => up_r q3, fun i hi => up_nk (by omega)⟩
theorem CF.fr {J J' : Nat → Nat → Int} (h : CF J a b v l V T s bn bk) (h0 : SH[b]? = some (5, 9)) (h1 : SH[a]? = some (11, 9)) (h2 : SH[v]? = some (14, 12)) (h3 : SH[l]? = some (8, 4)) (hf : FB b l J J') : CF J' a b v l V T s bn bk := by
  have n0 := bnd_0 h0
  have n1 := bnd_6 h1
  have n2 := bnd_9 h2
  have n3 := bnd_3 h3
  refine ⟨VK_cg h.1 (fun c q1 q2 => hf.1 c (by omega) (by omega) (by omega) (by omega) (by omega)), LK_cg h.2.1 (hf.1 l (by omega) (by omega) (by omega) (by omega) (by omega)) (hf.1 (l + 1) (by omega) (by omega) (by omega) (by omega) (by omega)), SV_fr h.2.2.1 (fun c q1 q2 => hf.1 c (by omega) (by omega) (by omega) (by omega) (by omega)), BC_cg h.2.2.2 (hf.2 0 (by omega)) (hf.2 3 (by omega)) (hf.1 (b + 1) (by omega) (by omega) (by omega) (by omega) (by omega)) (hf.1 (b + 2) (by omega) (by omega) (by omega) (by omega) (by omega))⟩
theorem pr_i {V : VT} {T : LT} {s bk : Nat → Int} {h e : Nat} (he : e < 6) : prA V T s bk (6 * h + e) = (decide (h < vh V ∧ e < ve V) && fitA V T s bk h e) := by
  unfold prA
  rw [show (6 * h + e) / 6 = h by omega, show (6 * h + e) % 6 = e by omega]
theorem pr_y {V : VT} {T : LT} {s bk : Nat → Int} {h e : Nat} (he : e < 6) (h1 : h < vh V) (h2 : e < ve V) : prA V T s bk (6 * h + e) = fitA V T s bk h e := by
  rw [pr_i he, decide_eq_true (show h < vh V ∧ e < ve V from ⟨h1, h2⟩), Bool.true_and]
theorem pr_n {V : VT} {T : LT} {s bk : Nat → Int} {h e : Nat} (he : e < 6) (hq : ¬ (h < vh V ∧ e < ve V)) : prA V T s bk (6 * h + e) = false := by
  rw [pr_i he, decide_eq_false hq, Bool.false_and]
def bI (b : Bool) : Int := if b = true then 1 else 0
/-- the pairs found up to k -/
def PF (J : Nat → Nat → Int) (b k : Nat) (P : Nat → Bool) : Prop := J b 6 = (cntF P k : Nat) ∧ ∀ i, i < k → J (b + 3) i = bI (P i)
theorem PF_n {J : Nat → Nat → Int} {b k : Nat} {P : Nat → Bool} (h : PF J b k P) (hP : P k = false) : PF (m_up J (b + 3) k 0) b (k + 1) P := by
  refine ⟨?_, fun i hi => ?_⟩
  · rw [up_na (by omega), cntF, hP]; exact h.1
  · by_cases q : i = k
    · subst q; rw [up_eq, hP]; rfl
    · rw [up_nk q]; exact h.2 i (by omega)
theorem PF_y {J : Nat → Nat → Int} {b k : Nat} {P : Nat → Bool} (h : PF J b k P) (hP : P k = true) : PF (m_up (m_up J (b + 3) k 1) b 6 (J b 6 + 1)) b (k + 1) P := by
  refine ⟨?_, fun i hi => ?_⟩
  · rw [up_eq, h.1, cntF, hP]; simp
  · rw [up_na (by omega)]
    by_cases q : i = k
    · subst q; rw [up_eq, hP]; rfl
    · rw [up_nk q]; exact h.2 i (by omega)
theorem e_4 (h0 : SH[b]? = some (5, 9)) (h1 : SH[a]? = some (11, 9)) (h2 : SH[v]? = some (14, 12)) (h3 : SH[l]? = some (8, 4)) (hC : CF J a b v l V T s bn bk) (bV : VBd V) (wf : LWF T) (bs : SBd (vn V) s) (hd : 0 ≤ s 49 ∧ s 49 ≤ 2000) (bB : BBd (vn V) bn bk) : ∃ J', EE X 5 4 [.ref b, .ref a, .ref v, .ref l] (mj J sw lg x) (.inl none) (mj J' sw lg x) ∧ PF J' b 36 (prA V T s bk) ∧ FB b l J J' := by
  have n0 := bnd_0 h0
  have n3 := bnd_3 h3
  have v1 := bV.1
  have v2 := bV.2.1
  refine EE.ex (O := fun _ => .inl none) (F := fun J' => mj J' sw lg x) mt_4 (b_4_0 h0 h1 h2 h3 (by omega) ?_)
  have key := lp (P := fun k => ∀ (J' : Nat → Nat → Int) (o5 o6 : Option Value), PF J' b (6 * k) (prA V T s bk) → FB b l J J' → VV X 5 4 (8, [some (.ref b), some (.ref a), some (.ref v), some (.ref l), some (iv k), o5, o6], [], mj J' sw lg x) (fun o M => ∃ z, o = .inl none ∧ M = mj z sw lg x ∧ PF z b 36 (prA V T s bk) ∧ FB b l J z)) 6 ?_ ?_ 0 (Nat.zero_le _)
  · exact key _ _ _ ⟨up_eq _ _ _ _, fun i hi => absurd hi (Nat.not_lt_zero _)⟩ (FB.upb (by decide))
  · intro J' o5 o6 hP hF
    exact b_4_8 h0 h1 h2 h3 (by omega) ⟨by decide, fun _ => ⟨J', rfl, rfl, hP, hF⟩, fun c => absurd c (by decide)⟩
  · intro k hk ih J' o5 o6 hP hF
    refine b_4_8 h0 h1 h2 h3 (by omega) ⟨by omega, fun c => by omega, fun _ => ?_⟩
    refine lp (P := fun i => ∀ (J' : Nat → Nat → Int) (o6 : Option Value), PF J' b (6 * k + i) (prA V T s bk) → FB b l J J' → VV X 5 4 (18, [some (.ref b), some (.ref a), some (.ref v), some (.ref l), some (iv k), some (iv i), o6], [], mj J' sw lg x) (fun o M => ∃ z, o = .inl none ∧ M = mj z sw lg x ∧ PF z b 36 (prA V T s bk) ∧ FB b l J z)) 6 ?_ ?_ 0 (Nat.zero_le _) J' o6 hP hF
    · intro J' o6 hP hF
      exact b_4_18 h0 h1 h2 h3 (by omega) ⟨by decide, fun _ => ih J' _ _ hP hF, fun c => absurd c (by decide)⟩
    · intro i hi ih2 J' o6 hP hF
      have hC' := hC.fr h0 h1 h2 h3 hF
      have ix : ((k : Int) * 6 + i).toNat = 6 * k + i := by omega
      refine b_4_18 h0 h1 h2 h3 (by omega) ?_
      rw [hC'.1.1, hC'.1.2.1, ix]
      refine ⟨by omega, fun c => by omega, fun _ => ⟨by omega, by omega, fun c => ⟨by omega, ?_⟩, fun c => ⟨by omega, fun c2 => ⟨by omega, ?_⟩, fun c2 => ?_⟩⟩⟩
      · exact ih2 _ _ (PF_n hP (pr_n hi (by omega))) (hF.tr FB.up3)
      · exact ih2 _ _ (PF_n hP (pr_n hi (by omega))) (hF.tr FB.up3)
      · have hp := pr_y (V := V) (T := T) (s := s) (bk := bk) (h := k) hi (by omega) (by omega)
        refine ex1 (e_5 h0 h1 h2 h3 hC'.1 bV hC'.2.1 wf hC'.2.2.1 bs hd hC'.2.2.2 bB (show k < vh V by omega) (show i < ve V by omega)) (fun J1 hf1 => ?_)
        have hF1 : FB b l J' J1 := FB.law h0 h3 hf1
        have hP1 : PF J1 b (6 * k + i) (prA V T s bk) := ⟨by rw [hf1 b (by omega) (by omega)]; exact hP.1, fun j hj => by rw [hf1 (b + 3) (by omega) (by omega)]; exact hP.2 j hj⟩
        by_cases z : fitA V T s bk k i = true
        · rw [if_pos z]
          rw [z] at hp
          exact ⟨by decide, fun c => absurd c (by decide), fun _ => ⟨by omega, ih2 _ _ (PF_y hP1 hp) (((hF.tr hF1).tr FB.up3).tr (FB.upb (by decide)))⟩⟩
        · rw [if_neg z]
          rw [Bool.not_eq_true] at z
          rw [z] at hp
          exact ⟨by decide, fun _ => ⟨by omega, ih2 _ _ (PF_n hP1 hp) ((hF.tr hF1).tr FB.up3)⟩, fun c => absurd rfl c⟩
theorem e_6 {P : Nat → Bool} (h0 : SH[b]? = some (5, 9)) (hP : ∀ i, i < 36 → J (b + 3) i = bI (P i)) : EE X 0 6 [.ref b] (mj J sw lg x) (.inl (some (iv (cvP (ffF P 36))))) (mj J sw lg x) := by
  refine EE.of mt_6 (b_6_0 h0 ?_)
  refine lp (P := fun k => ffF P k = -1 → VV X 0 6 (2, [some (.ref b), some (iv k)], [], mj J sw lg x) _) 36 ?_ ?_ 0 (Nat.zero_le _) rfl
  · intro hf
    refine b_6_2 h0 ⟨by decide, fun _ => ⟨?_, rfl⟩, fun c => absurd c (by decide)⟩
    rw [hf]; rfl
  · intro k hk ih hf
    have e1 : J (b + 3) (k : Int).toNat = bI (P k) := hP k hk
    refine b_6_2 h0 ⟨by omega, fun c => by omega, fun _ => ⟨by omega, ?_⟩⟩
    rw [e1]
    cases hq : P k
    · refine ⟨by decide, fun _ => ih ?_, fun c => absurd rfl c⟩
      rw [ffF, if_neg (by rw [hq]; intro z; exact absurd z.2 (by decide))]; exact hf
    · refine ⟨by decide, fun c => absurd c (by decide), fun _ => ⟨?_, rfl⟩⟩
      have := ffF_hit hf hq (36 - (k + 1))
      rw [show k + 1 + (36 - (k + 1)) = 36 by omega] at this
      rw [this, cvP, if_neg (by omega), q_divI (by omega) (by omega) (by decide) (by decide), q_remI (by omega) (by omega) (by decide) (by decide)]
end FI
