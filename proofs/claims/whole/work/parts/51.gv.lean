/-! which hand for which hole: both sides fill the same table -/
def foldG (base : Int) (g nx : Nat → Int) (set : Nat) : Nat → Int
  | 0 => base
  | k + 1 => if set.testBit k then foldG base g nx set k else max (foldG base g nx set k) (g k + nx (set ||| 2 ^ k))
def mgF (n H : Nat) (G : Nat → Nat → Int) (by_ : Nat → Int) : Nat → Nat → Int
  | 0, _ => 0
  | r + 1, set => if by_ (H - (r + 1)) = 0 then foldG (mgF n H G by_ r set) (G (H - (r + 1))) (mgF n H G by_ r) set n else mgF n H G by_ r set
theorem foldG_b {base : Int} {g nx : Nat → Int} {set : Nat} {B : Int} (hb : 0 ≤ base ∧ base ≤ B) (hg : ∀ k set, 0 ≤ g k + nx set ∧ g k + nx set ≤ B) : ∀ k, 0 ≤ foldG base g nx set k ∧ foldG base g nx set k ≤ B
  | 0 => hb
  | k + 1 => by
    have := foldG_b hb hg (set := set) k
    have := hg k (set ||| 2 ^ k)
    unfold foldG
    split <;> omega
theorem mgF_b {n H : Nat} {G : Nat → Nat → Int} {by_ : Nat → Int} (hG : ∀ h p, 0 ≤ G h p ∧ G h p ≤ 20) : ∀ r set, 0 ≤ mgF n H G by_ r set ∧ mgF n H G by_ r set ≤ 20 * r
  | 0, _ => ⟨Int.le_refl _, by show (0 : Int) ≤ 20 * (0 : Nat); omega⟩
  | r + 1, set => by
    have ih := mgF_b (n := n) (H := H) (by_ := by_) hG r
    unfold mgF
    split
    · refine foldG_b ?_ (fun k set => ?_) n
      · have := ih set; omega
      · have := ih set; have := hG (H - (r + 1)) k; omega
    · have := ih set; omega
def gainA (V : VT) (T : LT) (s : Nat → Int) (e h p : Nat) : Int := min (max 0 (s (30 + p))) (mendA V T s h e p)
theorem gainA_b (V : VT) (T : LT) (s : Nat → Int) (e h p : Nat) : 0 ≤ gainA V T s e h p ∧ gainA V T s e h p ≤ 20 := by
  have : 0 ≤ mendA V T s h e p ∧ mendA V T s h e p ≤ 20 := mendL_b T _
  unfold gainA
  omega
/-- the most that hands h and on can take off, with set given ahead -/
def mostA (V : VT) (T : LT) (s : Nat → Int) (e h set : Nat) : Int := mgF (vn V) (vh V) (gainA V T s e) (fun i => s (18 + i)) (vh V - h) set
theorem mostA_b (V : VT) (T : LT) (s : Nat → Int) (e h set : Nat) : 0 ≤ mostA V T s e h set ∧ mostA V T s e h set ≤ 20 * (vh V) := by
  have := mgF_b (n := vn V) (H := vh V) (by_ := fun i => s (18 + i)) (gainA_b V T s e) (vh V - h) set
  unfold mostA
  omega
theorem mostA_end (V : VT) (T : LT) (s : Nat → Int) (e set : Nat) : mostA V T s e (vh V) set = 0 := by unfold mostA; rw [Nat.sub_self]; rfl
theorem mostA_st {V : VT} {T : LT} {s : Nat → Int} {e h set : Nat} (hh : h < vh V) : mostA V T s e h set = if s (18 + h) = 0 then foldG (mostA V T s e (h + 1) set) (gainA V T s e h) (mostA V T s e (h + 1)) set (vn V) else mostA V T s e (h + 1) set := by
  obtain ⟨r, hr⟩ : ∃ r, vh V - h = r + 1 := ⟨vh V - h - 1, by omega⟩
  have e1 : vh V - (h + 1) = r := by omega
  have e2 : vh V - (r + 1) = h := by omega
  unfold mostA
  rw [hr, e1]
  show (if s (18 + (vh V - (r + 1))) = 0 then foldG _ (gainA V T s e (vh V - (r + 1))) _ set (vn V) else _) = _
  rw [e2]
/-- the first of those from k on -/
def frF (P : Nat → Bool) : Nat → Nat → Int
  | _, 0 => -1
  | k, m + 1 => if P k then (k : Int) else frF P (k + 1) m
theorem frF_b (P : Nat → Bool) : ∀ m k, frF P k m = -1 ∨ (∃ q : Nat, frF P k m = (q : Int) ∧ k ≤ q ∧ q < k + m ∧ P q = true)
  | 0, _ => Or.inl rfl
  | m + 1, k => by
    unfold frF
    split
    · exact Or.inr ⟨k, rfl, Nat.le_refl _, by omega, by assumption⟩
    · rcases frF_b P m (k + 1) with h | ⟨q, h1, h2, h3, h4⟩
      · exact Or.inl h
      · exact Or.inr ⟨q, h1, by omega, by omega, h4⟩
def mayA (V : VT) (T : LT) (s : Nat → Int) (e h set p : Nat) : Bool := decide (set.testBit p = false ∧ gainA V T s e h p + mostA V T s e (h + 1) (set ||| 2 ^ p) = mostA V T s e h set)
def gvA (V : VT) (T : LT) (s : Nat → Int) (e h set : Nat) : Int := if s (18 + h) = 0 then frF (mayA V T s e h set) 0 (vn V) else -1
def gvS (V : VT) (T : LT) (s : Nat → Int) (e : Nat) : Nat → Nat
  | 0 => 0
  | h + 1 => if gvA V T s e h (gvS V T s e h) = -1 then gvS V T s e h else gvS V T s e h ||| 2 ^ (gvA V T s e h (gvS V T s e h)).toNat
theorem cnt_or {a p : Nat} : cntF (a ||| 2 ^ p).testBit 9 ≤ cntF a.testBit 9 + 1 := by
  have key : ∀ n, cntF (a ||| 2 ^ p).testBit n ≤ cntF a.testBit n + (if p < n then 1 else 0) := by
    intro n
    induction n with
    | zero => exact Nat.zero_le _
    | succ n ih =>
      unfold cntF
      rw [Nat.testBit_or, Nat.testBit_two_pow]
      by_cases q : p = n
      · subst q
        rw [if_neg (Nat.lt_irrefl p)] at ih
        rw [if_pos (show p < p + 1 by omega)]
        cases a.testBit p <;> simp <;> omega
      · have e : (a.testBit n || decide (p = n)) = a.testBit n := by simp [q]
        rw [e]
        by_cases q2 : p < n
        · rw [if_pos q2] at ih; rw [if_pos (show p < n + 1 by omega)]; split <;> omega
        · rw [if_neg q2] at ih; rw [if_neg (show ¬ p < n + 1 by omega)]; split <;> omega
  have := key 9
  split at this <;> omega
theorem gvA_r {V : VT} {T : LT} {s : Nat → Int} {e h set : Nat} : gvA V T s e h set = -1 ∨ ∃ q : Nat, gvA V T s e h set = (q : Int) ∧ q < vn V := by
  unfold gvA
  split
  · rcases frF_b (mayA V T s e h set) (vn V) 0 with z | ⟨q, h1, _, h3, _⟩
    · exact Or.inl z
    · exact Or.inr ⟨q, h1, by omega⟩
  · exact Or.inl rfl
theorem gvS_b {V : VT} {T : LT} {s : Nat → Int} {e : Nat} : ∀ h, gvS V T s e h < 2 ^ vn V ∧ cntF (gvS V T s e h).testBit 9 ≤ h
  | 0 => ⟨Nat.two_pow_pos _, by
    have : cntF (0 : Nat).testBit 9 = 0 := by decide
    show cntF (0 : Nat).testBit 9 ≤ 0
    omega⟩
  | h + 1 => by
    have ih := gvS_b (V := V) (T := T) (s := s) (e := e) h
    unfold gvS
    split
    · exact ⟨ih.1, by omega⟩
    · rename_i hne
      rcases gvA_r (V := V) (T := T) (s := s) (e := e) (h := h) (set := gvS V T s e h) with z | ⟨q, z, hq⟩
      · exact absurd z hne
      · rw [z, Int.toNat_natCast]
        have := cnt_or (a := gvS V T s e h) (p := q)
        exact ⟨or_lt ih.1 (Nat.pow_lt_pow_right (by decide) hq), by omega⟩
theorem q_idx {h set : Nat} (hh : h < 9) (hs : set < 512) : bOr (bShl (h : Int) 9) (set : Int) = ((h * 512 + set : Nat) : Int) := by
  rw [q_sh9 h hh, q_or (by omega) (by omega), or_add hs]
theorem q_idx2 {h set p : Nat} (hh : h < 9) (hs : set < 512) (hp : p < 9) : bOr (bOr (bShl (h : Int) 9) (set : Int)) (bShl 1 (p : Int)) = ((h * 512 + (set ||| 2 ^ p) : Nat) : Int) := by
  have h1 := pow_512 hp
  rw [q_idx hh hs, q_shl p (by omega), q_or (by omega) (by omega), ← or_add hs, Nat.or_assoc, or_add (or_512 hs h1)]
section GV
variable {X : Nat × (Nat → Int32)} {J : Nat → Nat → Int} {sw : Bool × Bool × Bool} {lg : Nat → Nat → Int64} {x a v l e h p set : Nat} {V : VT} {T : LT} {s : Nat → Int}
/-- the class's tables from hand h on -/
def GT (J : Nat → Nat → Int) (V : VT) (T : LT) (s : Nat → Int) (e h : Nat) : Prop := (∀ i p, i < vh V → p < vn V → J 537 (i * 9 + p) = gainA V T s e i p) ∧ ∀ i set, h ≤ i → i ≤ vh V → set < 2 ^ vn V → (cntF set.testBit 9 ≤ i ∨ i = vh V) → J 538 (i * 512 + set) = mostA V T s e i set
theorem e_12 (bV : VBd V) (hG : ∀ p, p < vn V → J 537 (h * 9 + p) = gainA V T s e h p) (hM : J 538 ((h + 1) * 512 + (set ||| 2 ^ p)) = mostA V T s e (h + 1) (set ||| 2 ^ p)) (hh : h < vh V) (hp : p < vn V) (hs : set < 2 ^ vn V) : EE X 0 12 [.ref 536, iv (h : Int), iv (p : Int), iv (set : Int)] (mj J sw lg x) (.inl (some (iv (gainA V T s e h p + mostA V T s e (h + 1) (set ||| 2 ^ p))))) (mj J sw lg x) := by
  have h6 := bV.2.1
  have h9 := bV.2.2.1
  have hp9 : 2 ^ vn V ≤ 512 := show 2 ^ vn V ≤ 2 ^ 9 from Nat.pow_le_pow_right (by decide) h9
  have h1 := pow_512 (p := p) (by omega)
  have h2 := or_512 (a := set) (b := 2 ^ p) (by omega) h1
  refine EE.of mt_12 (b_12_0 ?_)
  rw [q_shl p (by omega), q_or (by omega) (by omega), show ((h : Int) * 9 + p).toNat = h * 9 + p by omega, show (((h : Int) + 1) * 512 + ((set ||| 2 ^ p : Nat) : Int)).toNat = (h + 1) * 512 + (set ||| 2 ^ p) by omega, hG p hp, hM]
  exact ⟨by omega, by omega, rfl, rfl⟩
theorem e_11 (h1 : SH[a]? = some (11, 9)) (h2 : SH[v]? = some (14, 12)) (hV : VK J v V) (bV : VBd V) (hS : SV J a s) (bs : SBd (vn V) s) (hT : GT J V T s e (h + 1)) (hh : h < vh V) (hs : set < 2 ^ vn V) (hc : cntF set.testBit 9 ≤ h) : EE X 1 11 [.ref 536, .ref a, .ref v, iv (h : Int), iv (set : Int)] (mj J sw lg x) (.inl (some (iv (mostA V T s e h set)))) (mj J sw lg x) := by
  have h6 := bV.2.1
  have h9 := bV.2.2.1
  have hp9 : 2 ^ vn V ≤ 512 := show 2 ^ vn V ≤ 2 ^ 9 from Nat.pow_le_pow_right (by decide) h9
  have e0 : J 538 (((h : Int) + 1) * 512 + (set : Int)).toNat = mostA V T s e (h + 1) set := by
    rw [show (((h : Int) + 1) * 512 + (set : Int)).toNat = (h + 1) * 512 + set by omega]
    exact hT.2 (h + 1) set (Nat.le_refl _) (by omega) hs (Or.inl (by omega))
  refine EE.of mt_11 (b_11_0 h1 h2 (by omega) ?_)
  rw [e0, SV_tb hS bs.2.2.1 (by omega), mostA_st hh]
  refine ⟨by omega, fun c => ?_, fun c => ⟨by rw [if_neg c], rfl⟩⟩
  rw [if_pos c]
  have hbm : ∀ k, 0 ≤ foldG (mostA V T s e (h + 1) set) (gainA V T s e h) (mostA V T s e (h + 1)) set k ∧ foldG (mostA V T s e (h + 1) set) (gainA V T s e h) (mostA V T s e (h + 1)) set k ≤ 200 := by
    intro k
    refine foldG_b (by have := mostA_b V T s e (h + 1) set; omega) (fun k set => ?_) k
    have := mostA_b V T s e (h + 1) set
    have := gainA_b V T s e h k
    omega
  refine lp (P := fun k => VV X 1 11 (31, [some (.ref 536), some (.ref a), some (.ref v), some (iv (h : Int)), some (iv (set : Int)), some (iv (foldG (mostA V T s e (h + 1) set) (gainA V T s e h) (mostA V T s e (h + 1)) set k)), some (iv k)], [], mj J sw lg x) _) (vn V) ?_ ?_ 0 (Nat.zero_le _)
  · refine b_11_31 h2 (by omega) ?_
    rw [hV.2.2.1]
    exact ⟨by omega, by omega, fun _ => ⟨rfl, rfl⟩, fun c => by omega⟩
  · intro k hk ih
    refine b_11_31 h2 (by omega) ?_
    rw [hV.2.2.1, q_bit (by omega) (by omega)]
    refine ⟨by omega, by omega, fun c => by omega, fun _ => ⟨fun c2 => ?_, fun c2 => ?_⟩⟩
    · have z : set.testBit k = true := by
        cases z : set.testBit k
        · rw [z] at c2; exact absurd rfl c2
        · rfl
      rw [foldG, if_pos z] at ih; exact ih
    · have z : ¬ set.testBit k = true := by intro z; rw [if_pos z] at c2; omega
      have hc2 := cnt_or (a := set) (p := k)
      have hlt : set ||| 2 ^ k < 2 ^ vn V := or_lt hs (Nat.pow_lt_pow_right (by decide) hk)
      have hb := hbm k
      have g1 := gainA_b V T s e h k
      have g2 := mostA_b V T s e (h + 1) (set ||| 2 ^ k)
      refine ⟨_, J, e_12 bV (fun p hp => hT.1 h p hh hp) (hT.2 (h + 1) _ (Nat.le_refl _) (by omega) hlt (Or.inl (by omega))) hh hk hs, by omega, by omega, ?_⟩
      rw [foldG, if_neg z] at ih; exact ih
theorem e_15 (h1 : SH[a]? = some (11, 9)) (h2 : SH[v]? = some (14, 12)) (hV : VK J v V) (bV : VBd V) (hS : SV J a s) (bs : SBd (vn V) s) (hT : GT J V T s e 0) (hh : h < vh V) (hs : set < 2 ^ vn V) (hc : cntF set.testBit 9 ≤ h) : EE X 1 15 [.ref 536, .ref a, .ref v, iv (h : Int), iv (set : Int)] (mj J sw lg x) (.inl (some (iv (gvA V T s e h set)))) (mj J sw lg x) := by
  have h6 := bV.2.1
  have h9 := bV.2.2.1
  have hp9 : 2 ^ vn V ≤ 512 := show 2 ^ vn V ≤ 2 ^ 9 from Nat.pow_le_pow_right (by decide) h9
  refine EE.of mt_15 (b_15_0 h1 h2 (by omega) ?_)
  rw [SV_tb hS bs.2.2.1 (by omega)]
  unfold gvA
  refine ⟨fun c => ?_, fun c => ⟨by rw [if_neg c], rfl⟩⟩
  rw [if_pos c]
  refine lp (P := fun k => VV X 1 15 (13, [some (.ref 536), some (.ref a), some (.ref v), some (iv (h : Int)), some (iv (set : Int)), some (iv k)], [], mj J sw lg x) (fun o1 M1 => o1 = .inl (some (iv (frF (mayA V T s e h set) k (vn V - k)))) ∧ M1 = mj J sw lg x)) (vn V) ?_ ?_ 0 (Nat.zero_le _)
  · refine b_15_13 h2 (by omega) ?_
    rw [hV.2.2.1, Nat.sub_self]
    exact ⟨by omega, by omega, fun _ => ⟨rfl, rfl⟩, fun c => by omega⟩
  · intro k hk ih
    obtain ⟨m, hm⟩ : ∃ m, vn V - k = m + 1 := ⟨vn V - k - 1, by omega⟩
    rw [show vn V - (k + 1) = m by omega] at ih
    rw [hm]
    refine b_15_13 h2 (by omega) ?_
    rw [hV.2.2.1, q_bit (by omega) (by omega)]
    refine ⟨by omega, by omega, fun c => by omega, fun _ => ⟨fun c2 => ?_, fun c2 => ?_⟩⟩
    · rw [frF, if_neg (by unfold mayA; simp only [decide_eq_true_eq]; intro z; rw [z.1] at c2; exact c2 rfl)]; exact ih
    · have z : set.testBit k = false := by
        cases z : set.testBit k
        · rfl
        · rw [z] at c2; exact absurd c2 (by decide)
      have hc2 := cnt_or (a := set) (p := k)
      have hlt : set ||| 2 ^ k < 2 ^ vn V := or_lt hs (Nat.pow_lt_pow_right (by decide) hk)
      have g1 := gainA_b V T s e h k
      have g2 := mostA_b V T s e (h + 1) (set ||| 2 ^ k)
      have g3 := mostA_b V T s e h set
      have e0 : J 538 ((h : Int) * 512 + (set : Int)).toNat = mostA V T s e h set := by
        rw [show ((h : Int) * 512 + (set : Int)).toNat = h * 512 + set by omega]
        exact hT.2 h set (Nat.zero_le _) (by omega) hs (Or.inl hc)
      refine ⟨_, J, e_12 bV (fun p hp => hT.1 h p hh hp) (hT.2 (h + 1) _ (Nat.zero_le _) (by omega) hlt (Or.inl (by omega))) hh hk hs, by omega, by omega, ?_⟩
      rw [e0]
      refine ⟨by omega, fun c3 => ?_, fun c3 => ?_⟩
      · rw [frF, if_neg (by unfold mayA; simp only [decide_eq_true_eq]; intro w; exact c3 w.2)]; exact ih
      · rw [frF, if_pos (by unfold mayA; simp only [decide_eq_true_eq]; exact ⟨z, c3⟩)]; exact ⟨rfl, rfl⟩
theorem e_14 (h1 : SH[a]? = some (11, 9)) (h2 : SH[v]? = some (14, 12)) (hV : VK J v V) (bV : VBd V) (hS : SV J a s) (bs : SBd (vn V) s) (hT : GT J V T s e 0) (hh : h < vh V) : EE X 2 14 [.ref 536, .ref a, .ref v, iv (h : Int)] (mj J sw lg x) (.inl (some (iv (gvA V T s e h (gvS V T s e h))))) (mj J sw lg x) := by
  have h6 := bV.2.1
  have h9 := bV.2.2.1
  have hp9 : 2 ^ vn V ≤ 512 := show 2 ^ vn V ≤ 2 ^ 9 from Nat.pow_le_pow_right (by decide) h9
  refine EE.of mt_14 (b_14_0 h1 h2 (by omega) ?_)
  have key := lp (P := fun i => ∀ g : Int, (0 < i → g = gvA V T s e (i - 1) (gvS V T s e (i - 1))) → VV X 2 14 (9, [some (.ref 536), some (.ref a), some (.ref v), some (iv (h : Int)), some (iv (gvS V T s e i : Nat)), some (iv g), some (iv i)], [], mj J sw lg x) (fun o1 M1 => o1 = .inl (some (iv (gvA V T s e h (gvS V T s e h)))) ∧ M1 = mj J sw lg x)) (h + 1) ?_ ?_ 0 (Nat.zero_le _)
  · exact key (-1) (fun z => absurd z (Nat.lt_irrefl 0))
  · intro g hg
    have := hg (by omega)
    rw [Nat.add_sub_cancel] at this
    subst this
    exact b_14_9 h1 h2 (by omega) ⟨by omega, by omega, fun _ => ⟨rfl, rfl⟩, fun c => by omega⟩
  · intro i hi ih g hg
    have hb := gvS_b (V := V) (T := T) (s := s) (e := e) i
    refine b_14_9 h1 h2 (by omega) ?_
    rw [hV.2.1]
    refine ⟨by omega, by omega, fun c => by omega, fun _ => ⟨by omega, fun c => by omega, fun _ => ⟨_, J, e_15 h1 h2 hV bV hS bs hT (by omega) hb.1 hb.2, ?_⟩⟩⟩
    rcases gvA_r (V := V) (T := T) (s := s) (e := e) (h := i) (set := gvS V T s e i) with z | ⟨q, z, hq⟩
    · refine ⟨by omega, fun c => ?_, fun c => absurd z c⟩
      have := ih (gvA V T s e i (gvS V T s e i)) (fun _ => by rw [Nat.add_sub_cancel])
      rw [gvS, if_pos z] at this; exact this
    · refine ⟨by omega, fun c => by omega, fun c => ?_⟩
      have := ih (gvA V T s e i (gvS V T s e i)) (fun _ => by rw [Nat.add_sub_cancel])
      have h1' := pow_512 (p := q) (by omega)
      rw [gvS, if_neg c, z, Int.toNat_natCast] at this
      rw [z, q_shl q (by omega), q_or (by omega) (by omega)]
      exact this
end GV
