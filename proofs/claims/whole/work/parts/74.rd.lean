/-! texts read: blanks, words, numbers, signs -/
def scF (tp : Nat → Int) (P : Int → Bool) (n : Nat) : Nat → Nat → Nat
  | 0, a => a
  | f + 1, a => if a < n ∧ P (tp a) = true then scF tp P n f (a + 1) else a
/-- the first place from a on where P ends -/
def sc (tp : Nat → Int) (P : Int → Bool) (n a : Nat) : Nat := scF tp P n (n - a) a
theorem sc_y {tp : Nat → Int} {P : Int → Bool} {n a : Nat} (h : a < n) (hp : P (tp a) = true) : sc tp P n a = sc tp P n (a + 1) := by
  unfold sc
  obtain ⟨m, hm⟩ : ∃ m, n - a = m + 1 := ⟨n - a - 1, by omega⟩
  rw [hm, scF, if_pos ⟨h, hp⟩, show n - (a + 1) = m by omega]
theorem sc_n {tp : Nat → Int} {P : Int → Bool} {n a : Nat} (h : ¬ (a < n ∧ P (tp a) = true)) : sc tp P n a = a := by
  unfold sc
  cases hm : n - a with
  | zero => rfl
  | succ m => rw [scF, if_neg h]
theorem sc_all {tp : Nat → Int} {P : Int → Bool} {n : Nat} : ∀ m a, n - a = m → a ≤ sc tp P n a ∧ (a ≤ n → sc tp P n a ≤ n) ∧ ¬ (sc tp P n a < n ∧ P (tp (sc tp P n a)) = true) ∧ ∀ k, a ≤ k → k < sc tp P n a → k < n ∧ P (tp k) = true := by
  intro m
  induction m with
  | zero =>
    intro a ha
    rw [sc_n (by omega)]
    exact ⟨Nat.le_refl _, fun h => h, by omega, fun k h1 h2 => by omega⟩
  | succ m ih =>
    intro a ha
    by_cases q : a < n ∧ P (tp a) = true
    · rw [sc_y q.1 q.2]
      have := ih (a + 1) (by omega)
      refine ⟨by omega, fun _ => this.2.1 (by omega), this.2.2.1, fun k h1 h2 => ?_⟩
      by_cases z : k = a
      · subst z; exact q
      · exact this.2.2.2 k (by omega) h2
    · rw [sc_n q]
      exact ⟨Nat.le_refl _, fun h => h, q, fun k h1 h2 => by omega⟩
section Sc
variable {tp : Nat → Int} {P : Int → Bool} {n a : Nat}
theorem sc_le : a ≤ sc tp P n a := (sc_all _ a rfl).1
theorem sc_ub (h : a ≤ n) : sc tp P n a ≤ n := (sc_all _ a rfl).2.1 h
theorem sc_end : ¬ (sc tp P n a < n ∧ P (tp (sc tp P n a)) = true) := (sc_all _ a rfl).2.2.1
theorem sc_in {k : Nat} (h1 : a ≤ k) (h2 : k < sc tp P n a) : k < n ∧ P (tp k) = true := (sc_all _ a rfl).2.2.2 k h1 h2
theorem sc_idem : sc tp P n (sc tp P n a) = sc tp P n a := sc_n sc_end
end Sc
def isB (z : Int) : Bool := decide (z = 32)
def isL (z : Int) : Bool := decide (97 ≤ z ∧ z ≤ 122)
def isD (z : Int) : Bool := decide (48 ≤ z ∧ z ≤ 57)
abbrev sk (tp : Nat → Int) (n a : Nat) : Nat := sc tp isB n a
abbrev wd (tp : Nat → Int) (n a : Nat) : Nat := sc tp isL n a
abbrev dg (tp : Nat → Int) (n a : Nat) : Nat := sc tp isD n a
/-- how a reading ends: a fault (kind, place), or none (kind 0) and the place behind it -/
abbrev RS : Type := (Nat × Nat) × Nat
def okI (R : RS) : Int := if R.1.1 = 0 then 1 else 0
/-- the text lies in the class's tape, read up to a -/
def TX (J : Nat → Nat → Int) (n : Nat) (tp : Nat → Int) (a : Nat) : Prop := J 1 2 = (n : Int) ∧ J 1 3 = (a : Int) ∧ ∀ k, k < 600 → J 2 k = tp k
def FX (J J' : Nat → Nat → Int) : Prop := (∀ c, c ≠ 1 → J' c = J c) ∧ ∀ k, k < 3 → J' 1 k = J 1 k
def TR (J' : Nat → Nat → Int) (R : RS) : Prop := (R.1.1 = 0 → J' 1 3 = (R.2 : Int)) ∧ (¬ R.1.1 = 0 → J' 1 6 = (R.1.1 : Int) ∧ J' 1 7 = (R.1.2 : Int))
/-- in the reference's -/
def TY (J : Nat → Nat → Int) (n : Nat) (tp : Nat → Int) (a : Nat) : Prop := J 542 3 = (n : Int) ∧ J 542 4 = (a : Int) ∧ (∀ k, k < 600 → J 544 k = tp k) ∧ J 542 5 = -1
def FY (J J' : Nat → Nat → Int) : Prop := (∀ c, c ≠ 542 → J' c = J c) ∧ ∀ k, k ≠ 4 → k ≠ 5 → k ≠ 6 → J' 542 k = J 542 k
def MR (J' : Nat → Nat → Int) (R : RS) : Prop := (R.1.1 = 0 → J' 542 5 = -1 ∧ J' 542 4 = (R.2 : Int)) ∧ (¬ R.1.1 = 0 → J' 542 5 = (R.1.2 : Int) ∧ J' 542 6 = (R.1.1 : Int))
theorem FX.rf {J : Nat → Nat → Int} : FX J J := ⟨fun _ _ => rfl, fun _ _ => rfl⟩
theorem FX.tr {J J1 J2 : Nat → Nat → Int} (h1 : FX J J1) (h2 : FX J1 J2) : FX J J2 := ⟨fun c q => (h2.1 c q).trans (h1.1 c q), fun k q => (h2.2 k q).trans (h1.2 k q)⟩
theorem FX.up {J : Nat → Nat → Int} {k : Nat} {w : Int} (hk : 3 ≤ k) : FX J (m_up J 1 k w) := ⟨fun c q => up_r q, fun i hi => up_nk (by omega)⟩
theorem FY.rf {J : Nat → Nat → Int} : FY J J := ⟨fun _ _ => rfl, fun _ _ _ _ => rfl⟩
theorem FY.tr {J J1 J2 : Nat → Nat → Int} (h1 : FY J J1) (h2 : FY J1 J2) : FY J J2 := ⟨fun c q => (h2.1 c q).trans (h1.1 c q), fun k q r t => (h2.2 k q r t).trans (h1.2 k q r t)⟩
theorem FY.up {J : Nat → Nat → Int} {k : Nat} {w : Int} (hk : k = 4 ∨ k = 5 ∨ k = 6) : FY J (m_up J 542 k w) := ⟨fun c q => up_r q, fun i a b c => up_nk (by omega)⟩
theorem TX.fr {J J' : Nat → Nat → Int} {n a b : Nat} {tp : Nat → Int} (h : TX J n tp a) (hf : FX J J') (h3 : J' 1 3 = (b : Int)) : TX J' n tp b := ⟨by rw [hf.2 2 (by decide)]; exact h.1, h3, fun k hk => by rw [hf.1 2 (by decide)]; exact h.2.2 k hk⟩
theorem TY.fr {J J' : Nat → Nat → Int} {n a b : Nat} {tp : Nat → Int} (h : TY J n tp a) (hf : FY J J') (h4 : J' 542 4 = (b : Int)) (h5 : J' 542 5 = -1) : TY J' n tp b := ⟨by rw [hf.2 3 (by decide) (by decide) (by decide)]; exact h.1, h4, fun k hk => by rw [hf.1 544 (by decide)]; exact h.2.2.1 k hk, h5⟩
/-- a text as it may be -/
def TB (n : Nat) (tp : Nat → Int) : Prop := n ≤ 600 ∧ ∀ k, 0 ≤ tp k ∧ tp k ≤ 255
def nxc (tp : Nat → Int) (n b : Nat) : Int := if b < n then tp b else -1
def nxm (tp : Nat → Int) (n b : Nat) : Int := if b < n then tp b else 0
section Rd
variable {X : Nat × (Nat → Int32)} {J : Nat → Nat → Int} {sw : Bool × Bool × Bool} {lg : Nat → Nat → Int64} {x n a : Nat} {tp : Nat → Int}
theorem nxc_b (hB : TB n tp) (b : Nat) : -1 ≤ nxc tp n b ∧ nxc tp n b ≤ 255 := by have := hB.2 b; unfold nxc; split <;> omega
theorem nxm_b (hB : TB n tp) (b : Nat) : 0 ≤ nxm tp n b ∧ nxm tp n b ≤ 255 := by have := hB.2 b; unfold nxm; split <;> omega
/-- only the place has changed -/
def F3 (J J' : Nat → Nat → Int) (b : Nat) : Prop := J' 1 3 = (b : Int) ∧ (∀ k, k ≠ 3 → J' 1 k = J 1 k) ∧ ∀ c, c ≠ 1 → J' c = J c
theorem F3.fx {J' : Nat → Nat → Int} {b : Nat} (h : F3 J J' b) : FX J J' := ⟨h.2.2, fun k hk => h.2.1 k (by omega)⟩
theorem e_85 (hT : TX J n tp a) (hB : TB n tp) (ha : a ≤ n) : ∃ J', EE X 0 85 [.ref 1] (mj J sw lg x) (.inl (some (iv (nxc tp n (sk tp n a))))) (mj J' sw lg x) ∧ F3 J J' (sk tp n a) := by
  have hn := hB.1
  refine EE.ex (O := fun _ => .inl (some (iv (nxc tp n (sk tp n a))))) (F := fun J' => mj J' sw lg x) mt_85 ?_
  have key : ∀ m b (J' : Nat → Nat → Int), n - b = m → b ≤ n → sk tp n b = sk tp n a → F3 J J' b → VV X 0 85 (0, [some (.ref 1)], [], mj J' sw lg x) (fun o M => ∃ z, o = .inl (some (iv (nxc tp n (sk tp n a)))) ∧ M = mj z sw lg x ∧ F3 J z (sk tp n a)) := by
    intro m
    induction m with
    | zero =>
      intro b J' hm hb hs hF
      have hT' := hT.fr hF.fx hF.1
      have hbs : sk tp n a = b := by rw [← hs]; exact sc_n (by omega)
      refine b_85_0 ?_
      rw [hT'.1, hT'.2.1]
      refine ⟨by omega, by omega, fun _ => b_85_38 ?_, fun c => by omega⟩
      rw [hT'.1, hT'.2.1]
      refine ⟨by omega, by omega, fun _ => ⟨J', ?_, rfl, by rw [hbs]; exact hF⟩, fun c => by omega⟩
      rw [hbs]; unfold nxc; rw [if_neg (by omega)]
    | succ m ih =>
      intro b J' hm hb hs hF
      have hT' := hT.fr hF.fx hF.1
      have e : J' 2 (b : Int).toNat = tp b := hT'.2.2 b (by omega)
      have hbb := hB.2 b
      refine b_85_0 ?_
      rw [hT'.1, hT'.2.1, e]
      refine ⟨by omega, by omega, fun c => by omega, fun _ => ⟨by omega, by omega, fun c => b_85_38 ?_, fun c => ?_⟩⟩
      · have hbs : sk tp n a = b := by rw [← hs]; exact sc_n (by unfold isB; simp; omega)
        rw [hT'.1, hT'.2.1, e]
        refine ⟨by omega, by omega, fun c => by omega, fun _ => ⟨by omega, J', ?_, rfl, by rw [hbs]; exact hF⟩⟩
        rw [hbs]; unfold nxc; rw [if_pos (by omega)]
      · refine ih (b + 1) _ (by omega) (by omega) ?_ ⟨by rw [up_eq]; omega, fun k hk => by rw [up_nk hk]; exact hF.2.1 k hk, fun c hc => by rw [up_r hc]; exact hF.2.2 c hc⟩
        rw [← hs]; exact (sc_y (by omega) (by unfold isB; simp [c])).symm
  exact key _ a J rfl ha rfl ⟨hT.2.1, fun _ _ => rfl, fun _ _ => rfl⟩
def sgR (tp : Nat → Int) (n a : Nat) (c : Int) : RS := if sk tp n a < n ∧ tp (sk tp n a) = c then ((0, 0), sk tp n a + 1) else ((1, sk tp n a), 0)
theorem e_87 {c : Int} (hT : TX J n tp a) (hB : TB n tp) (ha : a ≤ n) (hc : 0 < c ∧ c < 256) : ∃ J', EE X 1 87 [.ref 1, iv c] (mj J sw lg x) (.inl (some (iv (okI (sgR tp n a c))))) (mj J' sw lg x) ∧ TR J' (sgR tp n a c) ∧ FX J J' := by
  refine EE.ex (O := fun _ => .inl (some (iv (okI (sgR tp n a c))))) (F := fun J' => mj J' sw lg x) mt_87 (b_87_0 (by omega) ?_)
  refine ex1 (e_85 hT hB ha) (fun J1 h1 => ?_)
  have := nxc_b hB (sk tp n a)
  rw [h1.1]
  refine ⟨by omega, by omega, fun q => ?_, fun q => ?_⟩
  · have hr : sgR tp n a c = ((0, 0), sk tp n a + 1) := if_pos (by unfold nxc at q; split at q <;> omega)
    rw [hr]
    exact ⟨_, rfl, rfl, ⟨fun _ => by rw [up_eq]; omega, fun z => absurd rfl z⟩, h1.fx.tr (FX.up (by decide))⟩
  · have hr : sgR tp n a c = ((1, sk tp n a), 0) := if_neg (by unfold nxc at q; split at q <;> omega)
    rw [hr]
    exact ⟨_, rfl, rfl, ⟨fun z => absurd (show (1 : Nat) = 0 from z) (by decide), fun _ => ⟨by rw [up_nk (by decide), up_eq]; rfl, up_eq _ _ _ _⟩⟩, (h1.fx.tr (FX.up (by decide))).tr (FX.up (by decide))⟩
theorem e_88 (hT : TX J n tp a) (hB : TB n tp) (ha : a ≤ n) : ∃ J', EE X 1 88 [.ref 1] (mj J sw lg x) (.inl none) (mj J' sw lg x) ∧ (J' 1 3 = (wd tp n (sk tp n a) : Nat) ∧ J' 1 4 = (sk tp n a : Nat)) ∧ FX J J' := by
  have hn := hB.1
  refine EE.ex (O := fun _ => .inl none) (F := fun J' => mj J' sw lg x) mt_88 (b_88_0 (by omega) ?_)
  refine ex1 (e_85 hT hB ha) (fun J1 h1 => ?_)
  have hs : sk tp n a ≤ n := sc_ub ha
  rw [h1.1]
  have key : ∀ m b (J' : Nat → Nat → Int), n - b = m → b ≤ n → wd tp n b = wd tp n (sk tp n a) → J' 1 3 = (b : Int) → J' 1 4 = (sk tp n a : Nat) → FX J J' → VV X 1 88 (13, [some (.ref 1)], [], mj J' sw lg x) (fun o M => ∃ z, o = .inl none ∧ M = mj z sw lg x ∧ (z 1 3 = (wd tp n (sk tp n a) : Nat) ∧ z 1 4 = (sk tp n a : Nat)) ∧ FX J z) := by
    intro m
    induction m with
    | zero =>
      intro b J' hm hb hs h3 h4 hF
      have hT' := hT.fr hF h3
      have hbs : wd tp n (sk tp n a) = b := by rw [← hs]; exact sc_n (by omega)
      refine b_88_13 (by omega) ?_
      rw [hT'.1, hT'.2.1]
      exact ⟨by omega, by omega, fun _ => ⟨J', rfl, rfl, ⟨by rw [hbs]; exact h3, h4⟩, hF⟩, fun c => by omega⟩
    | succ m ih =>
      intro b J' hm hb hs h3 h4 hF
      have hT' := hT.fr hF h3
      have e : J' 2 (b : Int).toNat = tp b := hT'.2.2 b (by omega)
      have hbb := hB.2 b
      have fin : ¬ (97 ≤ tp b ∧ tp b ≤ 122) → ∃ z, (.inl none : Option Value ⊕ Nat) = .inl none ∧ mj J' sw lg x = mj z sw lg x ∧ (z 1 3 = (wd tp n (sk tp n a) : Nat) ∧ z 1 4 = (sk tp n a : Nat)) ∧ FX J z := fun q => by
        have hbs : wd tp n (sk tp n a) = b := by rw [← hs]; exact sc_n (by unfold isL; simp; omega)
        exact ⟨J', rfl, rfl, ⟨by rw [hbs]; exact h3, h4⟩, hF⟩
      refine b_88_13 (by omega) ?_
      rw [hT'.1, hT'.2.1, e]
      refine ⟨by omega, by omega, fun c => by omega, fun _ => ⟨by omega, by omega, fun c => fin (by omega), fun c1 => ⟨fun c => fin (by omega), fun c2 => ?_⟩⟩⟩
      clear fin
      refine ih (b + 1) (m_up J' 1 3 ((b : Int) + 1)) (by omega) (by omega) ?_ (by rw [up_eq]; omega) (by rw [up_nk (by decide)]; exact h4) (hF.tr (FX.up (by decide)))
      rw [← hs]; exact (sc_y (by omega) (by unfold isL; simp; omega)).symm
  refine key _ (sk tp n a) _ rfl hs rfl ?_ (up_eq _ _ _ _) (h1.fx.tr (FX.up (by decide)))
  rw [up_nk (by decide)]; exact h1.1
/-- the word from b to e is this text -/
def wIs (tp : Nat → Int) (b e : Nat) (t : List Int32) : Bool := decide (e - b = t.length) && allF (fun i => decide (tp (b + i) = (t.getD i 0).toInt)) t.length
theorem getD_some {t : List Int32} {i : Nat} (h : i < t.length) : t[i]? = some (t.getD i 0) := by
  rw [List.getD_eq_getElem?_getD, List.getElem?_eq_getElem h]; rfl
theorem e_89 {r b e : Nat} {t : List Int32} (ht : m_nstr mT r = some t) (hl : t.length < 1000) (h3 : J 1 3 = (e : Int)) (h4 : J 1 4 = (b : Int)) (hbe : b ≤ e) (he : e ≤ 600) (hB : TB n tp) (hb : ∀ k, k < 600 → J 2 k = tp k) : EE X 0 89 [.ref 1, .ref r] (mj J sw lg x) (.inl (some (iv (bI (wIs tp b e t))))) (mj J sw lg x) := by
  refine EE.of mt_89 (b_89_0 ht ?_)
  rw [h3, h4]
  refine ⟨by omega, by omega, fun c => ?_, fun c => ⟨?_, rfl⟩⟩
  · have hd : decide (e - b = t.length) = true := decide_eq_true (by omega)
    have hw : wIs tp b e t = allF (fun i => decide (tp (b + i) = (t.getD i 0).toInt)) t.length := by unfold wIs; rw [hd, Bool.true_and]
    rw [hw]
    refine lp (P := fun k => allF (fun i => decide (tp (b + i) = (t.getD i 0).toInt)) k = true → VV X 0 89 (20, [some (.ref 1), some (.ref r), some (iv k)], [], mj J sw lg x) _) t.length ?_ ?_ 0 (Nat.zero_le _) rfl
    · intro hk
      refine b_89_20 ht ⟨by omega, by omega, fun _ => ⟨?_, rfl⟩, fun c => by omega⟩
      rw [hk]; rfl
    · intro k hk ih hall
      have e2 : J 2 ((b : Int) + (k : Int)).toNat = tp (b + k) := by rw [show ((b : Int) + (k : Int)).toNat = b + k by omega]; exact hb _ (by omega)
      have hbb := hB.2 (b + k)
      refine b_89_20 ht ?_
      rw [h4, e2, Int.toNat_natCast]
      refine ⟨by omega, by omega, fun c => by omega, fun _ => ⟨by omega, by omega, t.getD k 0, getD_some hk, by omega, inT _, fun c => ih ?_, fun c => ⟨?_, rfl⟩⟩⟩
      · rw [allF, hall, Bool.true_and]; exact decide_eq_true c
      · have : allF (fun i => decide (tp (b + i) = (t.getD i 0).toInt)) t.length = false := by
          rw [Bool.eq_false_iff]
          intro z
          have := allF_iff.mp z k hk
          rw [decide_eq_true_eq] at this
          exact c this
        rw [this]; rfl
  · unfold wIs
    rw [decide_eq_false (by omega), Bool.false_and]; rfl
theorem e_90 (hT : TX J n tp a) (hB : TB n tp) (ha : a ≤ n) : EE X 0 90 [.ref 1] (mj J sw lg x) (.inl (some (iv (if a < n ∧ isD (tp a) = true then 1 else 0)))) (mj J sw lg x) := by
  have hn := hB.1
  refine EE.of mt_90 (b_90_0 ?_)
  rw [hT.1, hT.2.1]
  by_cases q : a < n
  · have e : J 2 (a : Int).toNat = tp a := hT.2.2 a (by omega)
    have hbb := hB.2 a
    by_cases q1 : a ≤ 600
    · rw [e]
      unfold isD
      refine ⟨by omega, by omega, fun c => by omega, fun _ => ⟨by omega, by omega, fun c => ⟨?_, rfl⟩, fun c => ⟨fun c2 => ⟨?_, rfl⟩, fun c2 => ⟨?_, rfl⟩⟩⟩⟩
      · rw [if_neg (by simp; omega)]
      · rw [if_neg (by simp; omega)]
      · rw [if_pos (by simp; omega)]
    · omega
  · refine ⟨by omega, by omega, fun _ => ⟨?_, rfl⟩, fun c => by omega⟩
    rw [if_neg (by omega)]
/-- the number from b on, k digits, held low -/
def nvF (tp : Nat → Int) (b : Nat) : Nat → Int
  | 0 => 0
  | k + 1 => min 10000 (nvF tp b k * 10 + tp (b + k) - 48)
def nmV (tp : Nat → Int) (n a : Nat) : Int := nvF tp (sk tp n a) (dg tp n (sk tp n a) - sk tp n a)
def nmR (tp : Nat → Int) (n a : Nat) (lo hi : Int) : RS := if sk tp n a < n ∧ isD (tp (sk tp n a)) = true then (if lo ≤ nmV tp n a ∧ nmV tp n a ≤ hi then ((0, 0), dg tp n (sk tp n a)) else ((2, sk tp n a), 0)) else ((1, sk tp n a), 0)
theorem nvF_b {b : Nat} : ∀ k, (∀ i, i < k → isD (tp (b + i)) = true) → 0 ≤ nvF tp b k ∧ nvF tp b k ≤ 10000
  | 0, _ => ⟨show (0 : Int) ≤ 0 by decide, show (0 : Int) ≤ 10000 by decide⟩
  | k + 1, h => by
    have h1 := nvF_b k (fun i hi => h i (by omega))
    have h2 := h k (by omega)
    unfold isD at h2
    rw [decide_eq_true_eq] at h2
    unfold nvF
    omega
theorem e_91 {lo hi : Int} (hT : TX J n tp a) (hB : TB n tp) (ha : a ≤ n) (hlo : InR lo) (hhi : InR hi) : ∃ J', EE X 1 91 [.ref 1, iv lo, iv hi] (mj J sw lg x) (.inl (some (iv (okI (nmR tp n a lo hi))))) (mj J' sw lg x) ∧ (TR J' (nmR tp n a lo hi) ∧ ((nmR tp n a lo hi).1.1 = 0 → J' 1 5 = nmV tp n a) ∧ J' 1 4 = (sk tp n a : Nat)) ∧ FX J J' := by
  have hn := hB.1
  refine EE.ex (O := fun _ => .inl (some (iv (okI (nmR tp n a lo hi))))) (F := fun J' => mj J' sw lg x) mt_91 (b_91_0 (by omega) ?_)
  refine ex1 (e_85 hT hB ha) (fun J1 h1 => ?_)
  have hs : sk tp n a ≤ n := sc_ub ha
  have F2 : FX J (m_up (m_up J1 1 4 (J1 1 3)) 1 5 0) := (h1.fx.tr (FX.up (by decide))).tr (FX.up (by decide))
  have T2 : TX (m_up (m_up J1 1 4 (J1 1 3)) 1 5 0) n tp (sk tp n a) := hT.fr F2 (by rw [up_nk (by decide), up_nk (by decide)]; exact h1.1)
  have g4 : m_up (m_up J1 1 4 (J1 1 3)) 1 5 0 1 4 = (sk tp n a : Nat) := by rw [up_nk (by decide), up_eq]; exact h1.1
  refine ⟨_, _, e_90 T2 hB hs, ?_⟩
  by_cases q : sk tp n a < n ∧ isD (tp (sk tp n a)) = true
  · rw [if_pos q]
    refine ⟨by decide, fun _ => ?_, fun c => absurd c (by decide)⟩
    have key : ∀ m b (J' : Nat → Nat → Int), n - b = m → sk tp n a ≤ b → b ≤ n → dg tp n b = dg tp n (sk tp n a) → J' 1 3 = (b : Int) → J' 1 4 = (sk tp n a : Nat) → J' 1 5 = nvF tp (sk tp n a) (b - sk tp n a) → (∀ i, i < b - sk tp n a → isD (tp (sk tp n a + i)) = true) → FX J J' → VV X 1 91 (35, [some (.ref 1), some (iv lo), some (iv hi)], [], mj J' sw lg x) (fun o M => ∃ z, o = .inl (some (iv (okI (nmR tp n a lo hi)))) ∧ M = mj z sw lg x ∧ (TR z (nmR tp n a lo hi) ∧ ((nmR tp n a lo hi).1.1 = 0 → z 1 5 = nmV tp n a) ∧ z 1 4 = (sk tp n a : Nat)) ∧ FX J z) := by
      intro m
      induction m with
      | zero =>
        intro b J' hm hsb hb hd h3 h4 h5 hdig hF
        have hT' := hT.fr hF h3
        have hbs : dg tp n (sk tp n a) = b := by rw [← hd]; exact sc_n (by omega)
        have h5' : J' 1 5 = nmV tp n a := by rw [h5]; unfold nmV; rw [hbs]
        have vb := nvF_b (tp := tp) (b := sk tp n a) _ hdig
        rw [← h5] at vb
        refine b_91_35 (by omega) ?_
        rw [hT'.1, hT'.2.1]
        refine ⟨by omega, by omega, fun _ => b_91_96 (by omega) ?_, fun c => by omega⟩
        refine ⟨by omega, hlo, fun c => ?_, fun c => ⟨hhi, fun c2 => ?_, fun c2 => ?_⟩⟩
        · have hr : nmR tp n a lo hi = ((2, sk tp n a), 0) := by unfold nmR; rw [if_pos q, if_neg (by omega)]
          rw [hr]
          exact ⟨_, rfl, rfl, ⟨⟨fun z => absurd (show (2 : Nat) = 0 from z) (by decide), fun _ => ⟨by rw [up_nk (by decide), up_eq]; rfl, by rw [up_eq]; exact h4⟩⟩, fun z => absurd (show (2 : Nat) = 0 from z) (by decide), by rw [up_nk (by decide), up_nk (by decide)]; exact h4⟩, (hF.tr (FX.up (by decide))).tr (FX.up (by decide))⟩
        · have hr : nmR tp n a lo hi = ((0, 0), dg tp n (sk tp n a)) := by unfold nmR; rw [if_pos q, if_pos (by omega)]
          rw [hr]
          exact ⟨J', rfl, rfl, ⟨⟨fun _ => by rw [h3, hbs], fun z => absurd rfl z⟩, fun _ => h5', h4⟩, hF⟩
        · have hr : nmR tp n a lo hi = ((2, sk tp n a), 0) := by unfold nmR; rw [if_pos q, if_neg (by omega)]
          rw [hr]
          exact ⟨_, rfl, rfl, ⟨⟨fun z => absurd (show (2 : Nat) = 0 from z) (by decide), fun _ => ⟨by rw [up_nk (by decide), up_eq]; rfl, by rw [up_eq]; exact h4⟩⟩, fun z => absurd (show (2 : Nat) = 0 from z) (by decide), by rw [up_nk (by decide), up_nk (by decide)]; exact h4⟩, (hF.tr (FX.up (by decide))).tr (FX.up (by decide))⟩
      | succ m ih =>
        intro b J' hm hsb hb hd h3 h4 h5 hdig hF
        have hT' := hT.fr hF h3
        have e : J' 2 (b : Int).toNat = tp b := hT'.2.2 b (by omega)
        have hbb := hB.2 b
        have vb := nvF_b (tp := tp) (b := sk tp n a) _ hdig
        rw [← h5] at vb
        refine b_91_35 (by omega) ?_
        rw [hT'.1, hT'.2.1]
        refine ⟨by omega, by omega, fun c => by omega, fun _ => ⟨_, _, e_90 hT' hB hb, ?_⟩⟩
        by_cases q2 : b < n ∧ isD (tp b) = true
        · rw [if_pos q2, hT'.2.1, e]
          have q3 := q2.2
          unfold isD at q3
          rw [decide_eq_true_eq] at q3
          refine ⟨by decide, fun c => absurd c (by decide), fun _ => ⟨by omega, by omega, ?_⟩⟩
          refine ih (b + 1) (m_up (m_up J' 1 5 (min 10000 (J' 1 5 * 10 + tp b - 48))) 1 3 ((b : Int) + 1)) (by omega) (by omega) (by omega) ?_ (by rw [up_eq]; omega) (by rw [up_nk (by decide), up_nk (by decide)]; exact h4) ?_ (fun i hi' => ?_) ((hF.tr (FX.up (by decide))).tr (FX.up (by decide)))
          · rw [← hd]; exact (sc_y q2.1 q2.2).symm
          · rw [up_nk (by decide), up_eq, h5, show b + 1 - sk tp n a = (b - sk tp n a) + 1 by omega, nvF, show sk tp n a + (b - sk tp n a) = b by omega]
          · by_cases z : i < b - sk tp n a
            · exact hdig i z
            · rw [show sk tp n a + i = b by omega]; exact q2.2
        · rw [if_neg q2]
          have hbs : dg tp n (sk tp n a) = b := by rw [← hd]; exact sc_n q2
          have h5' : J' 1 5 = nmV tp n a := by rw [h5]; unfold nmV; rw [hbs]
          refine ⟨by decide, fun _ => b_91_96 (by omega) ?_, fun c => absurd rfl c⟩
          refine ⟨by omega, hlo, fun c => ?_, fun c => ⟨hhi, fun c2 => ?_, fun c2 => ?_⟩⟩
          · have hr : nmR tp n a lo hi = ((2, sk tp n a), 0) := by unfold nmR; rw [if_pos q, if_neg (by omega)]
            rw [hr]
            exact ⟨_, rfl, rfl, ⟨⟨fun z => absurd (show (2 : Nat) = 0 from z) (by decide), fun _ => ⟨by rw [up_nk (by decide), up_eq]; rfl, by rw [up_eq]; exact h4⟩⟩, fun z => absurd (show (2 : Nat) = 0 from z) (by decide), by rw [up_nk (by decide), up_nk (by decide)]; exact h4⟩, (hF.tr (FX.up (by decide))).tr (FX.up (by decide))⟩
          · have hr : nmR tp n a lo hi = ((0, 0), dg tp n (sk tp n a)) := by unfold nmR; rw [if_pos q, if_pos (by omega)]
            rw [hr]
            exact ⟨J', rfl, rfl, ⟨⟨fun _ => by rw [h3, hbs], fun z => absurd rfl z⟩, fun _ => h5', h4⟩, hF⟩
          · have hr : nmR tp n a lo hi = ((2, sk tp n a), 0) := by unfold nmR; rw [if_pos q, if_neg (by omega)]
            rw [hr]
            exact ⟨_, rfl, rfl, ⟨⟨fun z => absurd (show (2 : Nat) = 0 from z) (by decide), fun _ => ⟨by rw [up_nk (by decide), up_eq]; rfl, by rw [up_eq]; exact h4⟩⟩, fun z => absurd (show (2 : Nat) = 0 from z) (by decide), by rw [up_nk (by decide), up_nk (by decide)]; exact h4⟩, (hF.tr (FX.up (by decide))).tr (FX.up (by decide))⟩
    exact key _ (sk tp n a) _ rfl (Nat.le_refl _) hs rfl T2.2.1 g4 (by rw [up_eq, Nat.sub_self]; rfl) (fun i hi' => by omega) F2
  · rw [if_neg q]
    have hr : nmR tp n a lo hi = ((1, sk tp n a), 0) := by unfold nmR; rw [if_neg q]
    rw [hr]
    refine ⟨by decide, fun c => absurd rfl c, fun _ => ⟨_, rfl, rfl, ⟨⟨fun z => absurd (show (1 : Nat) = 0 from z) (by decide), fun _ => ⟨by rw [up_nk (by decide), up_eq]; rfl, by rw [up_eq]; exact T2.2.1⟩⟩, fun z => absurd (show (1 : Nat) = 0 from z) (by decide), by rw [up_nk (by decide), up_nk (by decide)]; exact g4⟩, (F2.tr (FX.up (by decide))).tr (FX.up (by decide))⟩⟩
end Rd
