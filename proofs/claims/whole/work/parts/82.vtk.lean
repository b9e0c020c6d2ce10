/-! the class takes a village: all of the call -/
/-- how all begins in a village -/
def stV (B : VB) : Nat → Int := fun k => if 12 ≤ k ∧ k < 18 then -1 else if 30 ≤ k ∧ k < 39 then (if k - 30 < vn B.1 then B.2.1 (k - 30) else 0) else if k = 48 then B.2.2 else 0
theorem stV_0 {B : VB} {k : Nat} (h : ¬ (12 ≤ k ∧ k < 18)) (h1 : ¬ (30 ≤ k ∧ k < 39)) (h2 : ¬ k = 48) : stV B k = 0 := by unfold stV; rw [if_neg h, if_neg h1, if_neg h2]
theorem stV_1 {B : VB} {k : Nat} (h : 12 ≤ k ∧ k < 18) : stV B k = -1 := by unfold stV; rw [if_pos h]
theorem stV_2 {B : VB} {k : Nat} (h : k < 9) : stV B (30 + k) = if k < vn B.1 then B.2.1 k else 0 := by unfold stV; rw [if_neg (by omega), if_pos (by omega), show 30 + k - 30 = k by omega]
theorem stV_3 {B : VB} : stV B 48 = B.2.2 := by unfold stV; rw [if_neg (by omega), if_neg (by omega), if_pos rfl]
theorem SOk_st {B : VB} (bB : VBB B) : SOk B.1 (stV B) := by
  refine ⟨⟨fun k hk => ?_, fun k hk => ?_, fun k hk => ?_, fun k hk => ?_, fun k hk => ?_, ?_⟩, ?_, fun k h1 h2 => stV_0 (by omega) (by omega) (by omega)⟩
  · rw [stV_0 (by omega) (by omega) (by omega), stV_0 (by omega) (by omega) (by omega)]; decide
  · rw [stV_1 (by omega)]; omega
  · rw [stV_0 (by omega) (by omega) (by omega)]; exact Or.inl rfl
  · rw [stV_2 hk]
    split
    · rename_i q
      have := bB.2.1 k q
      omega
    · omega
  · rw [stV_0 (by omega) (by omega) (by omega)]; omega
  · rw [stV_3]; exact bB.2.2
  · rw [stV_0 (by omega) (by omega) (by omega)]; omega
/-- a village taken -/
def aNew (A : AT) (B : VB) : AT := ((B.1, B.2.1), (0, (fun _ => 0), fun _ => 0), (0, fun _ => -1), stV B, (0, aPs A), (0, aIs A, aIw A, aIp A), (0, aTp A), -1, 0, aR0 A, aR1 A)
/-- a text taken, and a fault in it -/
def aRd (A : AT) (f : Int) : AT := (A.1, A.2.1, A.2.2.1, A.2.2.2.1, A.2.2.2.2.1, A.2.2.2.2.2.1, (0, aTp A), f, aRs A, aR0 A, aR1 A)
theorem ABd_rd {A : AT} {f : Int} (h : ABd A) (hf : -1 ≤ f ∧ f ≤ 600) : ABd (aRd A f) := by
  obtain ⟨b1, b2, b3, b4, b5, b6, b7, b8, b9, b10⟩ := h
  exact ⟨b1, b2, b3, b4, b5, b6, b7, ⟨Nat.zero_le _, b8.2⟩, hf, b10⟩
theorem ABd_new {A : AT} {B : VB} (h : ABd A) (bB : VBB B) : ABd (aNew A B) := by
  obtain ⟨b1, b2, b3, b4, b5, b6, b7, b8, b9, b10⟩ := h
  refine ⟨bB.1, bB.2.1, ⟨Nat.zero_le _, fun k hk => absurd hk (Nat.not_lt_zero _), fun hk => absurd hk (Nat.lt_irrefl _)⟩, ⟨Nat.zero_le _, fun p => ?_, fun p _ => rfl⟩, SOk_st bB, ⟨Nat.zero_le _, fun i hi => absurd hi (Nat.not_lt_zero _)⟩, ⟨Nat.zero_le _, fun i hi => absurd hi (Nat.not_lt_zero _)⟩, ⟨Nat.zero_le _, b8.2⟩, ?_, ?_⟩
  · show (-1 : Int) ≤ -1 ∧ (-1 : Int) ≤ 99; decide
  · show (-1 : Int) ≤ -1 ∧ (-1 : Int) ≤ 600; decide
  · show (0 : Int) ≤ 0 ∧ (0 : Int) ≤ 200; decide
def vilT (A : AT) (g0 : Nat → Int) (n : Int) : RS × VB := vlR (aTp A) n.toNat 61 0 (vb0 g0)
/-- n bytes may be taken, of m at most -/
abbrev mayT (A : AT) (m n : Int) : Prop := 0 ≤ n ∧ n ≤ m ∧ n ≤ (aTn A : Int)
def vilK (A : AT) (n : Int) : Nat := if mayT A 600 n then 0 else 2
def vilR (A : AT) (g0 : Nat → Int) (n : Int) : Int := if mayT A 600 n then (if (vilT A g0 n).1.1.1 = 0 then (vn (vilT A g0 n).2.1 : Int) else ((vilT A g0 n).1.1.1 : Int) - 10) else 0
def vilA (A : AT) (g0 : Nat → Int) (n : Int) : AT := if mayT A 600 n then (if (vilT A g0 n).1.1.1 = 0 then aNew A (vilT A g0 n).2 else aRd A ((vilT A g0 n).1.1.2 : Int)) else af A 2
section Vt
variable {X : Nat × (Nat → Int32)} {J : Nat → Nat → Int} {sw : Bool × Bool × Bool} {lg : Nat → Nat → Int64} {x n a v : Nat} {tp : Nat → Int} {B : VB} {A : AT}
theorem TB_A (h : ABd A) {n : Int} (hm : mayT A 600 n) : TB n.toNat (aTp A) := ⟨by omega, h.2.2.2.2.2.2.2.1.2⟩
theorem ABd_vil (h : ABd A) (g0 : Nat → Int) (n : Int) : ABd (vilA A g0 n) := by
  unfold vilA
  split
  · rename_i hm
    have hb := vl_B (tp := aTp A) (n := n.toNat) 61 0 (vb0 g0) (Nat.zero_le _) (VBB_0 g0)
    split
    · rename_i q; exact ABd_new h (hb.1 q)
    · rename_i q
      have hp : (vilT A g0 n).1.1.2 ≤ n.toNat := (hb.2 q).2
      exact ABd_rd h (by omega)
  · exact ABd_af h 2
theorem e_43 (h0 : SH[a]? = some (11, 9)) (h1 : SH[v]? = some (14, 12)) (hS : VS J v B) (bB : VBB B) : ∃ J', EE X 0 43 [.ref a, .ref v] (mj J sw lg x) (.inl none) (mj J' sw lg x) ∧ SV J' a (stV B) ∧ ∀ c, ¬ (a ≤ c ∧ c ≤ a + 6) → J' c = J c := by
  have ha := bnd_6 h0
  have hv := bnd_9 h1
  have b3 := bB.1.2.2.1
  refine EE.ex (O := fun _ => .inl none) (F := fun J' => mj J' sw lg x) mt_43 (b_43_0 h0 h1 ?_)
  refine lp (P := fun i => ∀ J' : Nat → Nat → Int, (∀ k, k < i → J' (a + 1) k = 0 ∧ J' (a + 2) k = 0 ∧ J' (a + 3) k = -1) → (∀ c, ¬ (a ≤ c ∧ c ≤ a + 6) → J' c = J c) → VV X 0 43 (2, [some (.ref a), some (.ref v), some (iv i)], [], mj J' sw lg x) (fun o M => ∃ z, o = .inl none ∧ M = mj z sw lg x ∧ SV z a (stV B) ∧ ∀ c, ¬ (a ≤ c ∧ c ≤ a + 6) → z c = J c)) 6 ?_ ?_ 0 (by decide) J (fun k hk => absurd hk (Nat.not_lt_zero _)) (fun _ _ => rfl)
  · intro J1 g1 f1
    refine b_43_2 h0 h1 ⟨by decide, fun _ => ?_, fun c => absurd c (by decide)⟩
    refine lp (P := fun i => ∀ J' : Nat → Nat → Int, (∀ k, k < i → J' (a + 4) k = 0) → (∀ k, k < 6 → J' (a + 1) k = 0 ∧ J' (a + 2) k = 0 ∧ J' (a + 3) k = -1) → (∀ c, ¬ (a ≤ c ∧ c ≤ a + 6) → J' c = J c) → VV X 0 43 (37, [some (.ref a), some (.ref v), some (iv i)], [], mj J' sw lg x) (fun o M => ∃ z, o = .inl none ∧ M = mj z sw lg x ∧ SV z a (stV B) ∧ ∀ c, ¬ (a ≤ c ∧ c ≤ a + 6) → z c = J c)) 6 ?_ ?_ 0 (by decide) J1 (fun k hk => absurd hk (Nat.not_lt_zero _)) g1 f1
    · intro J2 g2 g1 f2
      refine b_43_37 h0 h1 ⟨by decide, fun _ => ?_, fun c => absurd c (by decide)⟩
      refine lp (P := fun i => ∀ J' : Nat → Nat → Int, (∀ k, k < i → J' (a + 5) k = stV B (30 + k) ∧ J' (a + 6) k = 0) → (∀ k, k < 6 → J' (a + 4) k = 0) → (∀ k, k < 6 → J' (a + 1) k = 0 ∧ J' (a + 2) k = 0 ∧ J' (a + 3) k = -1) → (∀ c, ¬ (a ≤ c ∧ c ≤ a + 6) → J' c = J c) → VV X 0 43 (58, [some (.ref a), some (.ref v), some (iv i)], [], mj J' sw lg x) (fun o M => ∃ z, o = .inl none ∧ M = mj z sw lg x ∧ SV z a (stV B) ∧ ∀ c, ¬ (a ≤ c ∧ c ≤ a + 6) → z c = J c)) 9 ?_ ?_ 0 (by decide) J2 (fun k hk => absurd hk (Nat.not_lt_zero _)) g2 g1 f2
      · intro J3 g3 g2 g1 f3
        have hS3 := hS.cg (J' := J3) (fun c q1 q2 => f3 c (by omega))
        refine b_43_58 h0 h1 ⟨by decide, fun _ => ?_, fun c => absurd c (by decide)⟩
        refine ⟨_, rfl, rfl, ⟨fun k hk => ?_, fun k hk => ?_, fun k hk => ?_, fun k hk => ?_, fun k hk => ?_, fun k hk => ?_, ?_, ?_, ?_⟩, fun c hc => ?_⟩
        · rw [up_na (by omega), up_na (by omega), up_na (by omega), stV_0 (by omega) (by omega) (by omega)]; exact (g1 k hk).1
        · rw [up_na (by omega), up_na (by omega), up_na (by omega), stV_0 (by omega) (by omega) (by omega)]; exact (g1 k hk).2.1
        · rw [up_na (by omega), up_na (by omega), up_na (by omega), stV_1 (by omega)]; exact (g1 k hk).2.2
        · rw [up_na (by omega), up_na (by omega), up_na (by omega), stV_0 (by omega) (by omega) (by omega)]; exact g2 k hk
        · rw [up_na (by omega), up_na (by omega), up_na (by omega)]; exact (g3 k hk).1
        · rw [up_na (by omega), up_na (by omega), up_na (by omega), stV_0 (by omega) (by omega) (by omega)]; exact (g3 k hk).2
        · rw [up_nk (by decide), up_nk (by decide), up_eq, bitF_0]
          · rfl
          · intro k hk
            rw [stV_0 (by omega) (by omega) (by omega)]; rfl
        · rw [up_nk (by decide), up_eq, stV_0 (by omega) (by omega) (by omega)]
        · rw [up_eq, stV_3]; exact hS3.2.1
        · rw [up_r (by omega), up_r (by omega), up_r (by omega)]; exact f3 c hc
      · intro i hi ih J3 g3 g2 g1 f3
        have hS3 := hS.cg (J' := J3) (fun c q1 q2 => f3 c (by omega))
        have nxt : ∀ w : Int, w = stV B (30 + i) → VV X 0 43 (58, [some (.ref a), some (.ref v), some (iv ((i : Int) + 1))], [], mj (m_up (m_up J3 (a + 5) i w) (a + 6) i 0) sw lg x) (fun o M => ∃ z, o = .inl none ∧ M = mj z sw lg x ∧ SV z a (stV B) ∧ ∀ c, ¬ (a ≤ c ∧ c ≤ a + 6) → z c = J c) := by
          intro w hw
          refine ih _ (fun k hk => ?_) (fun k hk => ?_) (fun k hk => ?_) (fun c hc => ?_)
          · rw [up_na (show a + 5 ≠ a + 6 by omega)]
            by_cases z : k = i
            · subst z; rw [up_eq, up_eq]; exact ⟨hw, rfl⟩
            · rw [up_nk z, up_nk z, up_na (by omega)]; exact g3 k (by omega)
          · rw [up_na (by omega), up_na (by omega)]; exact g2 k hk
          · rw [up_na (by omega), up_na (by omega), up_na (by omega), up_na (by omega), up_na (by omega), up_na (by omega)]; exact g1 k hk
          · rw [up_r (by omega), up_r (by omega)]; exact f3 c hc
        refine b_43_58 h0 h1 ?_
        rw [hS3.1.1.2.2.1, Int.toNat_natCast]
        refine ⟨by clear nxt ih; omega, fun c => by clear nxt ih; omega, fun _ => ⟨by clear nxt ih; omega, fun c => ⟨by clear nxt ih; omega, nxt 0 ?_⟩, fun c => ⟨by clear nxt ih; omega, nxt _ ?_⟩⟩⟩
        · rw [stV_2 hi, if_neg (by clear nxt ih; omega)]
        · rw [stV_2 hi, if_pos (by clear nxt ih; omega)]; exact hS3.1.2.2.1 i (by clear nxt ih; omega)
    · intro i hi ih J2 g2 g1 f2
      refine b_43_37 h0 h1 ⟨by omega, fun c => by omega, fun _ => ⟨by omega, ih _ (fun k hk => ?_) (fun k hk => ?_) (fun c hc => ?_)⟩⟩
      · rw [Int.toNat_natCast]
        by_cases z : k = i
        · subst z; exact up_eq _ _ _ _
        · rw [up_nk z]; exact g2 k (by omega)
      · rw [up_na (by omega), up_na (by omega), up_na (by omega)]; exact g1 k hk
      · rw [up_r (by omega)]; exact f2 c hc
  · intro i hi ih J1 g1 f1
    refine b_43_2 h0 h1 ⟨by omega, fun c => by omega, fun _ => ⟨by omega, ih _ (fun k hk => ?_) (fun c hc => ?_)⟩⟩
    · rw [Int.toNat_natCast, up_na (show a + 1 ≠ a + 3 by omega), up_na (show a + 1 ≠ a + 2 by omega), up_na (show a + 2 ≠ a + 3 by omega)]
      by_cases z : k = i
      · subst z; rw [up_eq, up_eq, up_eq]; exact ⟨rfl, rfl, rfl⟩
      · simp only [up_nk z]; exact g1 k (by omega)
    · rw [up_r (by omega), up_r (by omega), up_r (by omega)]; exact f1 c hc
theorem GK.rd {J' : Nat → Nat → Int} {f : Int} (h : GK J sw A) (bA' : ABd A) (hf : ∀ c, c ≠ 0 → c ≠ 1 → ¬ (vB sw ≤ c ∧ c ≤ vB sw + 6) → ¬ (lB sw ≤ c ∧ c ≤ lB sw + 3) → ¬ (bB sw ≤ c ∧ c ≤ bB sw + 4) → ¬ (35 ≤ c ∧ c ≤ 40) → c < 542 → J' c = J c) (h0 : ∀ k, k ≠ 1 → J' 0 k = J 0 k) (h1 : J' 0 1 = f) (h2 : J' 1 1 = 0) : GK J' sw (aRd A f) := by
  have q : (vA sw = 3 ∧ vB sw = 10) ∨ (vA sw = 10 ∧ vB sw = 3) := by unfold vA vB; split <;> simp
  have q2 : (lA sw = 17 ∧ lB sw = 21) ∨ (lA sw = 21 ∧ lB sw = 17) := by unfold lA lB; split <;> simp
  have q3 : (bA sw = 25 ∧ bB sw = 30) ∨ (bA sw = 30 ∧ bB sw = 25) := by unfold bA bB; split <;> simp
  obtain ⟨g1, g2, g3, g4, g5, g6, g7, g8⟩ := h
  have b2 := bA'.2.2.2.2.2.2.1
  have hg : ∀ c, (vA sw ≤ c ∧ c ≤ vA sw + 6) ∨ (lA sw ≤ c ∧ c ≤ lA sw + 3) ∨ (bA sw ≤ c ∧ c ≤ bA sw + 4) ∨ (41 ≤ c ∧ c < 542) ∨ c = 2 → J' c = J c := fun c hc => hf c (by omega) (by omega) (by omega) (by omega) (by omega) (by omega) (by omega)
  refine ⟨KV_cg g1 (fun c _ _ => hg c (by omega)), LK_cg g2 (hg _ (by omega)) (hg _ (by omega)), BC_fr g3 (fun k _ => by rw [hg _ (by omega)]) (hg _ (by omega)) (hg _ (by omega)), SV_fr g4 (fun c _ _ => hg c (by omega)), KP_cg bA'.2.2.2.2.2.1.1 g5 (hg _ (by omega)) (fun c _ _ => hg c (by omega)), KI_cg b2.1 (fun i hi => (b2.2 i hi).2.1) g6 (hg _ (by omega)) (fun c _ _ => hg c (by omega)), ⟨h2, fun k hk => by rw [hg 2 (by omega)]; exact g7.2 k hk⟩, h1, ?_, ?_, ?_⟩
  · rw [h0 16 (by decide)]; exact g8.2.1
  · rw [h0 17 (by decide)]; exact g8.2.2.1
  · rw [h0 18 (by decide)]; exact g8.2.2.2
/-- the text taken: what changes before it is read -/
def tk (J : Nat → Nat → Int) (n m : Int) : Nat → Nat → Int := m_up (m_up (m_up (m_up (m_up (m_up (m_up J 1 2 (min n m)) 1 1 0) 1 3 0) 1 4 0) 1 6 0) 1 7 (-1)) 0 1 (-1)
theorem tk_0 {J : Nat → Nat → Int} {n m : Int} {k : Nat} (h : k ≠ 1) : tk J n m 0 k = J 0 k := by
  unfold tk
  rw [up_nk h, up_na (by decide), up_na (by decide), up_na (by decide), up_na (by decide), up_na (by decide), up_na (by decide)]
theorem tk_c {J : Nat → Nat → Int} {n m : Int} {c : Nat} (h0 : c ≠ 0) (h1 : c ≠ 1) : tk J n m c = J c := by
  unfold tk
  rw [up_r h0, up_r h1, up_r h1, up_r h1, up_r h1, up_r h1, up_r h1]
theorem tk_tx {m : Int} (hk : KT J a tp) (h : 0 ≤ m ∧ m ≤ (a : Int)) : TX (tk J m (J 1 1)) m.toNat tp 0 ∧ tk J m (J 1 1) 1 1 = 0 ∧ tk J m (J 1 1) 0 1 = -1 := by
  refine ⟨⟨?_, ?_, fun k hk' => ?_⟩, ?_, ?_⟩
  · unfold tk
    rw [up_na (by decide), up_nk (by decide), up_nk (by decide), up_nk (by decide), up_nk (by decide), up_nk (by decide), up_eq, hk.1]; omega
  · unfold tk
    rw [up_na (by decide), up_nk (by decide), up_nk (by decide), up_nk (by decide), up_eq]; rfl
  · rw [tk_c (by decide) (by decide)]; exact hk.2 k hk'
  · unfold tk
    rw [up_na (by decide), up_nk (by decide), up_nk (by decide), up_nk (by decide), up_nk (by decide), up_eq]
  · unfold tk
    exact up_eq _ _ _ _
theorem kc_village (hG : GK J sw A) (bA' : ABd A) (g0 : Nat → Int) {n : Int} (hn : InR n) : CK X 5 111 [iv n] J sw lg x (vilK A n) (vilR A g0 n) (vilA A g0 n) := by
  suffices H : ∃ z : (Nat → Nat → Int) × (Bool × Bool × Bool), EE X 5 111 [.ref 0, iv n] (mj J sw lg x) (oc (vilK A n, vilR A g0 n)) (mj z.1 z.2 lg (xc x (vilK A n, vilR A g0 n))) ∧ GK z.1 z.2 (vilA A g0 n) ∧ ∀ c, 542 ≤ c → z.1 c = J c from by
    obtain ⟨z, h⟩ := H
    exact ⟨z.1, z.2, h⟩
  have ht := bA'.2.2.2.2.2.2.2.1.1
  have h7 := hG.2.2.2.2.2.2.1
  refine EE.ex (O := fun _ => oc (vilK A n, vilR A g0 n)) (F := fun z : (Nat → Nat → Int) × (Bool × Bool × Bool) => mj z.1 z.2 lg (xc x (vilK A n, vilR A g0 n))) mt_111 (b_111_0 (by omega) ?_)
  have no : ¬ mayT A 600 n → ∃ z : (Nat → Nat → Int) × (Bool × Bool × Bool), (.inr 2 : Option Value ⊕ Nat) = oc (vilK A n, vilR A g0 n) ∧ mj (m_up J 0 18 (J 0 18 + 1)) sw lg (x + 1) = mj z.1 z.2 lg (xc x (vilK A n, vilR A g0 n)) ∧ GK z.1 z.2 (vilA A g0 n) ∧ ∀ c, 542 ≤ c → z.1 c = J c := by
    intro hm
    have e1 : vilK A n = 2 := if_neg hm
    have e2 : vilA A g0 n = af A 2 := if_neg hm
    rw [e1, e2]
    exact ⟨(m_up J 0 18 (J 0 18 + 1), sw), rfl, rfl, hG.r2 bA', fun c hc => up_r (by omega)⟩
  have e11 := h7.1
  refine ⟨by rw [e11]; clear no; omega, hn, fun c => no (fun z => by have := z.1; clear no; omega), fun c => ⟨by rw [e11]; clear no; omega, fun c2 => ?_, fun c2 => no (fun z => by rw [e11] at c2; clear no; omega)⟩⟩
  clear no
  rw [e11] at c2
  have hm : mayT A 600 n := ⟨c, by omega, by omega⟩
  have eK : vilK A n = 0 := if_pos hm
  have eR : vilR A g0 n = if (vilT A g0 n).1.1.1 = 0 then (vn (vilT A g0 n).2.1 : Int) else ((vilT A g0 n).1.1.1 : Int) - 10 := if_pos hm
  have eA : vilA A g0 n = if (vilT A g0 n).1.1.1 = 0 then aNew A (vilT A g0 n).2 else aRd A ((vilT A g0 n).1.1.2 : Int) := if_pos hm
  rw [eK, eR, eA]
  have hT := tk_tx (m := n) h7 ⟨c, by omega⟩
  have hvB := bnd_9 (cvB sw)
  refine ex1 (e_94 (cvB sw) hT.1 (TB_A bA' hm) g0) (fun J1 h1 => ?_)
  have hb := vl_B (tp := aTp A) (n := n.toNat) 61 0 (vb0 g0) (Nat.zero_le _) (VBB_0 g0)
  change VR _ _ _ (vilT A g0 n) at h1
  change ((vilT A g0 n).1.1.1 = 0 → VBB (vilT A g0 n).2) ∧ flt n.toNat (vilT A g0 n).1 at hb
  change InR (okI (vilT A g0 n).1) ∧ (¬ okI (vilT A g0 n).1 = 0 → _) ∧ (okI (vilT A g0 n).1 = 0 → _)
  generalize vilT A g0 n = R at *
  obtain ⟨t1, s1', f1⟩ := h1
  have q : (vA sw = 3 ∧ vB sw = 10) ∨ (vA sw = 10 ∧ vB sw = 3) := by unfold vA vB; split <;> simp
  have q2 : (lA sw = 17 ∧ lB sw = 21) ∨ (lA sw = 21 ∧ lB sw = 17) := by unfold lA lB; split <;> simp
  have q3 : (bA sw = 25 ∧ bB sw = 30) ∨ (bA sw = 30 ∧ bB sw = 25) := by unfold bA bB; split <;> simp
  refine ⟨okI_R _, fun c3 => ?_, fun c3 => ?_⟩
  · have z := okI_1 c3
    rw [if_pos z, if_pos z]
    have bB := hb.1 z
    have hS := s1' z
    refine b_111_27 (b_111_45 (by omega) ?_)
    have ev : vA (s1 sw) = vB sw := by obtain ⟨a, b, c⟩ := sw; cases a <;> rfl
    have el : lA (s1 sw) = lA sw := rfl
    have eb : bA (s1 sw) = bA sw := rfl
    rw [ev, el, eb]
    have hS2 : VS (m_up (m_up (m_up (m_up (m_up (m_up J1 (lA sw) 1 0) (bA sw) 0 0) (bA sw) 3 0) 56 1 0) 170 2 0) 0 16 0) (vB sw) R.2 := hS.cg (fun c p1 p2 => by rw [up_r (by omega), up_r (by omega), up_r (by omega), up_r (by omega), up_r (by omega), up_r (by omega)])
    refine ex0 (e_43 c_41 (cvB sw) hS2 bB) (fun J2 h2 => ?_)
    have f2 := h2.2
    have ec : ∀ c, ¬ (41 ≤ c ∧ c ≤ 47) → c ≠ lA sw → c ≠ bA sw → c ≠ 56 → c ≠ 170 → c ≠ 0 → J2 c = J1 c := fun c p0 p1 p2 p3 p4 p5 => by rw [f2 c (by omega), up_r p5, up_r p4, up_r p3, up_r p2, up_r p2, up_r p1]
    have hS3 := hS2.cg (J' := J2) (fun c p1 p2 => f2 c (by omega))
    refine ⟨(J2, s1 sw), ?_, rfl, ⟨?_, ?_, ?_, h2.1, ?_, ?_, ?_, ?_⟩, fun c hc => ?_⟩
    · rw [hS3.1.1.2.2.1]; rfl
    · show KV J2 (vA (s1 sw)) R.2.1 R.2.2.1
      rw [ev]; exact hS3.1
    · show LK J2 (lA sw) _
      refine ⟨?_, fun k hk => absurd hk (Nat.not_lt_zero _)⟩
      rw [f2 _ (by omega), up_na (by omega), up_na (by omega), up_na (by omega), up_na (by omega), up_na (by omega), up_eq]; rfl
    · show BC J2 (bA sw) _ _ _
      refine ⟨?_, ?_, fun i hi => absurd hi (Nat.not_lt_zero _), fun p _ hp => absurd rfl hp⟩
      · rw [f2 _ (by omega), up_na (by omega), up_na (by omega), up_na (by omega), up_nk (by decide), up_eq]; rfl
      · have e : bitF (fun p => decide ¬aBk (aNew A R.2) p = -1) 9 = 0 := bitF_0 _ _ (fun k _ => by show decide (¬ (-1 : Int) = -1) = false; decide)
        rw [f2 _ (by omega), up_na (by omega), up_na (by omega), up_na (by omega), up_eq, e]; rfl
    · show KP J2 56 0 _
      refine ⟨?_, fun i hi => absurd hi (Nat.not_lt_zero _)⟩
      rw [f2 _ (by omega), up_na (by omega), up_na (by omega), up_eq]; rfl
    · show KI J2 0 _ _ _
      refine ⟨?_, fun i hi => absurd hi (Nat.not_lt_zero _)⟩
      rw [f2 _ (by omega), up_na (by omega), up_eq]; rfl
    · show KT J2 0 (aTp A)
      refine ⟨?_, fun k hk => ?_⟩
      · rw [ec 1 (by omega) (by omega) (by omega) (by omega) (by omega) (by omega), f1.2 1 (by decide)]; exact hT.2.1
      · rw [ec 2 (by omega) (by omega) (by omega) (by omega) (by omega) (by omega), f1.1 2 (by decide) (by omega)]; exact hT.1.2.2 k hk
    · show KZ J2 (-1) 0 (aR0 A) (aR1 A)
      have e0 : ∀ k, k ≠ 16 → J2 0 k = tk J n (J 1 1) 0 k := fun k hk => by
        rw [f2 0 (by omega), up_nk hk, up_na (by omega), up_na (by omega), up_na (by omega), up_na (by omega), up_na (by omega), f1.1 0 (by decide) (by omega)]
      refine ⟨by rw [e0 1 (by decide)]; exact hT.2.2, ?_, ?_, ?_⟩
      · rw [f2 0 (by omega), up_eq]
      · rw [e0 17 (by decide), tk_0 (by decide)]; exact hG.2.2.2.2.2.2.2.2.2.1
      · rw [e0 18 (by decide), tk_0 (by decide)]; exact hG.2.2.2.2.2.2.2.2.2.2
    · show J2 c = J c
      rw [ec c (by omega) (by omega) (by omega) (by omega) (by omega) (by omega), f1.1 c (by omega) (by omega)]
      exact tk_c (by omega) (by omega)
  · have z := okI_0 c3
    rw [if_neg z, if_neg z]
    have t2 := t1.2 z
    rw [t2.1, t2.2]
    have ec : ∀ c, c ≠ 0 → c ≠ 1 → ¬ (vB sw ≤ c ∧ c ≤ vB sw + 6) → m_up J1 0 1 (R.1.1.2 : Int) c = J c := fun c p0 p1 p2 => by rw [up_r p0, f1.1 c p1 p2]; exact tk_c p0 p1
    refine ⟨(m_up J1 0 1 (R.1.1.2 : Int), sw), rfl, rfl, ?_, fun c hc => ec c (by omega) (by omega) (by omega)⟩
    show GK (m_up J1 0 1 (R.1.1.2 : Int)) sw _
    refine hG.rd bA' (fun c p0 p1 p2 _ _ _ _ => ec c p0 p1 p2) (fun k hk => ?_) (up_eq _ _ _ _) ?_
    · rw [up_nk hk, f1.1 0 (by decide) (by omega)]; exact tk_0 hk
    · rw [up_na (by decide), f1.2 1 (by decide)]; exact hT.2.1
end Vt
