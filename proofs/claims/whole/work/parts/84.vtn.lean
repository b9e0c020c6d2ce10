/-! the reference takes a village: all of the call -/
section Vw
variable {X : Nat × (Nat → Int32)} {J : Nat → Nat → Int} {sw : Bool × Bool × Bool} {lg : Nat → Nat → Int64} {x n a : Nat} {tp : Nat → Int} {B : VB} {A : AT}
/-- what is set when a village is taken -/
def SG (J J' : Nat → Nat → Int) (B : VB) : Prop := (VM J' B.1 ∧ ∀ p, p < vn B.1 → J' 551 p = B.2.1 p) ∧ (J' 542 35 = 0 ∧ J' 542 50 = 0 ∧ J' 542 40 = 0 ∧ J' 542 59 = 0 ∧ J' 542 41 = 0) ∧ (∀ p, p < 9 → J' 565 p = -1) ∧ MV J' 561 (stV B) ∧ (∀ c, c ≠ 542 → ¬ (549 ≤ c ∧ c ≤ 552) → c ≠ 561 → c ≠ 565 → J' c = J c) ∧ ∀ k, ¬ (24 ≤ k ∧ k ≤ 28) → k ≠ 35 → k ≠ 50 → k ≠ 40 → k ≠ 59 → k ≠ 41 → J' 542 k = J 542 k
theorem e_181 (hV : VN J B) (bB : VBB B) : ∃ J', EE X 1 181 [.ref 542] (mj J sw lg x) (.inl none) (mj J' sw lg x) ∧ SG J J' B := by
  obtain ⟨⟨b1, b2, b3, b4, -⟩, -⟩ := bB
  obtain ⟨⟨k1, k2, k3, k4, k5, k6⟩, k7, k8, k9, k10⟩ := hV
  refine EE.ex (O := fun _ => .inl none) (F := fun J' => mj J' sw lg x) mt_181 (b_181_0 (by omega) ?_)
  have fr : ∀ c, c ≠ 542 → m_up (m_up (m_up (m_up (m_up J 542 24 (J 542 18)) 542 25 (J 542 19)) 542 26 (J 542 20)) 542 27 (J 542 21)) 542 28 (J 542 23) c = J c := fun c h => by rw [up_r h, up_r h, up_r h, up_r h, up_r h]
  have fk : ∀ k, ¬ (24 ≤ k ∧ k ≤ 28) → m_up (m_up (m_up (m_up (m_up J 542 24 (J 542 18)) 542 25 (J 542 19)) 542 26 (J 542 20)) 542 27 (J 542 21)) 542 28 (J 542 23) 542 k = J 542 k := fun k h => by rw [up_nk (by omega), up_nk (by omega), up_nk (by omega), up_nk (by omega), up_nk (by omega)]
  have f4 : m_up (m_up (m_up (m_up (m_up J 542 24 (J 542 18)) 542 25 (J 542 19)) 542 26 (J 542 20)) 542 27 (J 542 21)) 542 28 (J 542 23) 542 24 = ve B.1 ∧ m_up (m_up (m_up (m_up (m_up J 542 24 (J 542 18)) 542 25 (J 542 19)) 542 26 (J 542 20)) 542 27 (J 542 21)) 542 28 (J 542 23) 542 25 = vh B.1 ∧ m_up (m_up (m_up (m_up (m_up J 542 24 (J 542 18)) 542 25 (J 542 19)) 542 26 (J 542 20)) 542 27 (J 542 21)) 542 28 (J 542 23) 542 26 = vn B.1 ∧ m_up (m_up (m_up (m_up (m_up J 542 24 (J 542 18)) 542 25 (J 542 19)) 542 26 (J 542 20)) 542 27 (J 542 21)) 542 28 (J 542 23) 542 27 = vp B.1 ∧ m_up (m_up (m_up (m_up (m_up J 542 24 (J 542 18)) 542 25 (J 542 19)) 542 26 (J 542 20)) 542 27 (J 542 21)) 542 28 (J 542 23) 542 28 = vmo B.1 := by
    refine ⟨?_, ?_, ?_, ?_, ?_⟩
    · rw [up_nk (by decide), up_nk (by decide), up_nk (by decide), up_nk (by decide), up_eq]; exact k1
    · rw [up_nk (by decide), up_nk (by decide), up_nk (by decide), up_eq]; exact k2
    · rw [up_nk (by decide), up_nk (by decide), up_eq]; exact k3
    · rw [up_nk (by decide), up_eq]; exact k4
    · rw [up_eq]; exact k6
  generalize m_up (m_up (m_up (m_up (m_up J 542 24 (J 542 18)) 542 25 (J 542 19)) 542 26 (J 542 20)) 542 27 (J 542 21)) 542 28 (J 542 23) = J0 at *
  refine ex0 (e_179 (n := 6) c_545 c_549 (by decide) (by decide) (by decide) (by decide) (by decide)) (fun J1 h1 => ?_)
  refine ex0 (e_179 (n := 6) c_546 c_550 (by decide) (by decide) (by decide) (by decide) (by decide)) (fun J2 h2 => ?_)
  refine ex0 (e_179 (n := 9) c_547 c_551 (by decide) (by decide) (by decide) (by decide) (by decide)) (fun J3 h3 => ?_)
  refine ex0 (e_179 (n := 28) c_548 c_552 (by decide) (by decide) (by decide) (by decide) (by decide)) (fun J4 h4 => ?_)
  have g0 : ∀ c, ¬ (549 ≤ c ∧ c ≤ 552) → J4 c = J0 c := fun c h => by rw [h4.2.2 c (by omega), h3.2.2 c (by omega), h2.2.2 c (by omega), h1.2.2 c (by omega)]
  have g49 : ∀ k, k < 6 → J4 549 k = J 545 k := fun k h => by rw [h4.2.2 549 (by decide), h3.2.2 549 (by decide), h2.2.2 549 (by decide), h1.1 k h, fr 545 (by decide)]
  have g50 : ∀ k, k < 6 → J4 550 k = J 546 k := fun k h => by rw [h4.2.2 550 (by decide), h3.2.2 550 (by decide), h2.1 k h, h1.2.2 546 (by decide), fr 546 (by decide)]
  have g51 : ∀ k, k < 9 → J4 551 k = J 547 k := fun k h => by rw [h4.2.2 551 (by decide), h3.1 k h, h2.2.2 547 (by decide), h1.2.2 547 (by decide), fr 547 (by decide)]
  have g52 : ∀ k, k < 28 → J4 552 k = J 548 k := fun k h => by rw [h4.1 k h, h3.2.2 548 (by decide), h2.2.2 548 (by decide), h1.2.2 548 (by decide), fr 548 (by decide)]
  clear h1 h2 h3 h4
  -- from here on: the fields, then the rows 565 and 561
  have hF : ∀ J' : Nat → Nat → Int, (∀ c, c ≠ 561 → c ≠ 565 → J' c = m_up (m_up (m_up (m_up (m_up J4 542 35 0) 542 50 0) 542 40 0) 542 59 0) 542 41 0 c) → (∀ p, p < 9 → J' 565 p = -1) → MV J' 561 (stV B) → SG J J' B := by
    intro J' hc h65 h61
    have a0 : ∀ k, ¬ (24 ≤ k ∧ k ≤ 28) → k ≠ 35 → k ≠ 50 → k ≠ 40 → k ≠ 59 → k ≠ 41 → J' 542 k = J 542 k := fun k q q1 q2 q3 q4 q5 => by rw [hc 542 (by decide) (by decide), up_nk q5, up_nk q4, up_nk q3, up_nk q2, up_nk q1, g0 542 (by decide), fk k q]
    have a1 : ∀ k, 24 ≤ k ∧ k ≤ 28 → J' 542 k = J0 542 k := fun k q => by rw [hc 542 (by decide) (by decide), up_nk (by omega), up_nk (by omega), up_nk (by omega), up_nk (by omega), up_nk (by omega), g0 542 (by decide)]
    have a2 : ∀ c, c ≠ 542 → c ≠ 561 → c ≠ 565 → J' c = J4 c := fun c q q1 q2 => by rw [hc c q1 q2, up_r q, up_r q, up_r q, up_r q, up_r q]
    refine ⟨⟨⟨by rw [a1 24 (by decide)]; exact f4.1, by rw [a1 25 (by decide)]; exact f4.2.1, by rw [a1 26 (by decide)]; exact f4.2.2.1, by rw [a1 27 (by decide)]; exact f4.2.2.2.1, by rw [a1 28 (by decide)]; exact f4.2.2.2.2, fun k hk => ?_, fun k hk => ?_, fun k hk => ?_⟩, fun p hp => ?_⟩, ⟨?_, ?_, ?_, ?_, ?_⟩, h65, h61, fun c q1 q2 q3 q4 => ?_, a0⟩
    · rw [a2 549 (by decide) (by decide) (by decide), g49 k (by omega)]; exact k7 k hk
    · rw [a2 550 (by decide) (by decide) (by decide), g50 k (by omega)]; exact k8 k hk
    · rw [a2 552 (by decide) (by decide) (by decide), g52 k hk]; exact k10 k hk
    · rw [a2 551 (by decide) (by decide) (by decide), g51 p (by omega)]; exact k9 p hp
    · rw [hc 542 (by decide) (by decide), up_nk (by decide), up_nk (by decide), up_nk (by decide), up_nk (by decide), up_eq]
    · rw [hc 542 (by decide) (by decide), up_nk (by decide), up_nk (by decide), up_nk (by decide), up_eq]
    · rw [hc 542 (by decide) (by decide), up_nk (by decide), up_nk (by decide), up_eq]
    · rw [hc 542 (by decide) (by decide), up_nk (by decide), up_eq]
    · rw [hc 542 (by decide) (by decide), up_eq]
    · rw [a2 c q1 q3 q4, g0 c q2]; exact fr c q1
  have e26 : m_up (m_up (m_up (m_up (m_up J4 542 35 0) 542 50 0) 542 40 0) 542 59 0) 542 41 0 542 26 = vn B.1 := by rw [up_nk (by decide), up_nk (by decide), up_nk (by decide), up_nk (by decide), up_nk (by decide), g0 542 (by decide)]; exact f4.2.2.1
  have e22 : m_up (m_up (m_up (m_up (m_up J4 542 35 0) 542 50 0) 542 40 0) 542 59 0) 542 41 0 542 22 = B.2.2 := by rw [up_nk (by decide), up_nk (by decide), up_nk (by decide), up_nk (by decide), up_nk (by decide), g0 542 (by decide), fk 22 (by decide)]; exact k5
  have e47 : ∀ p, p < vn B.1 → m_up (m_up (m_up (m_up (m_up J4 542 35 0) 542 50 0) 542 40 0) 542 59 0) 542 41 0 547 p = B.2.1 p := fun p hp => by rw [up_na (by decide), up_na (by decide), up_na (by decide), up_na (by decide), up_na (by decide), g0 547 (by decide), fr 547 (by decide)]; exact k9 p hp
  generalize m_up (m_up (m_up (m_up (m_up J4 542 35 0) 542 50 0) 542 40 0) 542 59 0) 542 41 0 = J5 at *
  clear g0 g49 g50 g51 g52 fr fk f4
  refine lp (P := fun i => ∀ J' : Nat → Nat → Int, (∀ c, c ≠ 561 → c ≠ 565 → J' c = J5 c) → (∀ p, p < i → J' 565 p = -1) → VV X 1 181 (123, [some (.ref 542), some (iv i)], [], mj J' sw lg x) (fun o M => ∃ z, o = .inl none ∧ M = mj z sw lg x ∧ SG J z B)) 9 ?_ ?_ 0 (by decide) J5 (fun _ _ _ => rfl) (fun p hp => absurd hp (Nat.not_lt_zero _))
  · intro J' hc h65
    refine b_181_123 (by omega) ⟨by decide, fun _ => ?_, fun c => absurd c (by decide)⟩
    refine lp (P := fun i => ∀ J' : Nat → Nat → Int, (∀ c, c ≠ 561 → c ≠ 565 → J' c = J5 c) → (∀ p, p < 9 → J' 565 p = -1) → (∀ k, k < i → J' 561 k = 0) → VV X 1 181 (144, [some (.ref 542), some (iv i)], [], mj J' sw lg x) (fun o M => ∃ z, o = .inl none ∧ M = mj z sw lg x ∧ SG J z B)) 50 ?_ ?_ 0 (by decide) J' hc h65 (fun p hp => absurd hp (Nat.not_lt_zero _))
    · intro J' hc h65 h61
      refine b_181_144 (by omega) ⟨by decide, fun _ => ?_, fun c => absurd c (by decide)⟩
      refine lp (P := fun i => ∀ J' : Nat → Nat → Int, (∀ c, c ≠ 561 → c ≠ 565 → J' c = J5 c) → (∀ p, p < 9 → J' 565 p = -1) → (∀ k, k < 50 → J' 561 k = if 12 ≤ k ∧ k < 12 + i then -1 else 0) → VV X 1 181 (165, [some (.ref 542), some (iv i)], [], mj J' sw lg x) (fun o M => ∃ z, o = .inl none ∧ M = mj z sw lg x ∧ SG J z B)) 6 ?_ ?_ 0 (by decide) J' hc h65 (fun k hk => by rw [if_neg (by omega)]; exact h61 k hk)
      · intro J' hc h65 h61
        refine b_181_165 (by omega) ⟨by decide, fun _ => ?_, fun c => absurd c (by decide)⟩
        refine lp (P := fun i => ∀ J' : Nat → Nat → Int, (∀ c, c ≠ 561 → c ≠ 565 → J' c = J5 c) → (∀ p, p < 9 → J' 565 p = -1) → (∀ k, k < 50 → J' 561 k = if 12 ≤ k ∧ k < 18 then -1 else if 30 ≤ k ∧ k < 30 + i then B.2.1 (k - 30) else 0) → VV X 1 181 (189, [some (.ref 542), some (iv i)], [], mj J' sw lg x) (fun o M => ∃ z, o = .inl none ∧ M = mj z sw lg x ∧ SG J z B)) (vn B.1) ?_ ?_ 0 (Nat.zero_le _) J' hc h65 (fun k hk => by rw [h61 k hk, if_neg (show ¬ (30 ≤ k ∧ k < 30 + 0) by omega)])
        · intro J' hc h65 h61
          have q26 : J' 542 26 = vn B.1 := by rw [hc 542 (by decide) (by decide)]; exact e26
          have q22 : J' 542 22 = B.2.2 := by rw [hc 542 (by decide) (by decide)]; exact e22
          refine b_181_189 (by omega) ?_
          rw [q26, q22]
          refine ⟨by omega, by omega, fun _ => ⟨_, rfl, rfl, hF _ (fun c q1 q2 => by rw [up_r q1]; exact hc c q1 q2) (fun p hp => by rw [up_na (by decide)]; exact h65 p hp) (fun k hk => ?_)⟩, fun c => by omega⟩
          by_cases y : k = 48
          · rw [y, up_eq, stV_3]
          · rw [up_nk y, h61 k hk]
            by_cases y1 : 12 ≤ k ∧ k < 18
            · rw [if_pos y1, stV_1 y1]
            · rw [if_neg y1]
              by_cases y2 : 30 ≤ k ∧ k < 39
              · obtain ⟨j, rfl⟩ : ∃ j, k = 30 + j := ⟨k - 30, by omega⟩
                rw [stV_2 (by omega), show 30 + j - 30 = j by omega]
                by_cases y3 : j < vn B.1
                · rw [if_pos (by omega), if_pos y3]
                · rw [if_neg (by omega), if_neg y3]
              · rw [stV_0 y1 y2 y, if_neg (by omega)]
        · intro i hi ih J' hc h65 h61
          have q26 : J' 542 26 = vn B.1 := by rw [hc 542 (by decide) (by decide)]; exact e26
          have q47 : J' 547 (i : Int).toNat = B.2.1 i := by rw [Int.toNat_natCast, hc 547 (by decide) (by decide)]; exact e47 i hi
          refine b_181_189 (by omega) ?_
          rw [q26, q47, show (30 + (i : Int)).toNat = 30 + i by omega]
          refine ⟨by omega, by omega, fun c => by omega, fun _ => ⟨by omega, by omega, ih _ (fun c q1 q2 => by rw [up_r q1]; exact hc c q1 q2) (fun p hp => by rw [up_na (by decide)]; exact h65 p hp) (fun k hk => ?_)⟩⟩
          by_cases y : k = 30 + i
          · rw [y, up_eq, if_neg (by omega), if_pos (by omega), show 30 + i - 30 = i by omega]
          · rw [up_nk y, h61 k hk]
            by_cases y1 : 12 ≤ k ∧ k < 18
            · rw [if_pos y1, if_pos y1]
            · rw [if_neg y1, if_neg y1]
              by_cases y2 : 30 ≤ k ∧ k < 30 + i
              · rw [if_pos y2, if_pos (by omega)]
              · rw [if_neg y2, if_neg (by omega)]
      · intro i hi ih J' hc h65 h61
        refine b_181_165 (by omega) ?_
        rw [show (12 + (i : Int)).toNat = 12 + i by omega]
        refine ⟨by omega, fun c => by omega, fun _ => ⟨by omega, ih _ (fun c q1 q2 => by rw [up_r q1]; exact hc c q1 q2) (fun p hp => by rw [up_na (by decide)]; exact h65 p hp) (fun k hk => ?_)⟩⟩
        by_cases y : k = 12 + i
        · rw [y, up_eq, if_pos (by omega)]
        · rw [up_nk y, h61 k hk]
          by_cases y1 : 12 ≤ k ∧ k < 12 + i
          · rw [if_pos y1, if_pos (by omega)]
          · rw [if_neg y1, if_neg (by omega)]
    · intro i hi ih J' hc h65 h61
      refine b_181_144 (by omega) ⟨by omega, fun c => by omega, fun _ => ⟨by omega, ih _ (fun c q1 q2 => by rw [up_r q1]; exact hc c q1 q2) (fun p hp => by rw [up_na (by decide)]; exact h65 p hp) (fun k hk => ?_)⟩⟩
      rw [Int.toNat_natCast]
      by_cases y : k = i
      · rw [y, up_eq]
      · rw [up_nk y]; exact h61 k (by omega)
  · intro i hi ih J' hc h65
    refine b_181_123 (by omega) ⟨by omega, fun c => by omega, fun _ => ⟨by omega, ih _ (fun c q1 q2 => by rw [up_r q2]; exact hc c q1 q2) (fun k hk => ?_)⟩⟩
    rw [Int.toNat_natCast]
    by_cases y : k = i
    · rw [y, up_eq]
    · rw [up_nk y]; exact h65 k (by omega)
/-- the cells that the reference's picture is made of -/
def gmc (c : Nat) : Prop := c = 543 ∨ c = 544 ∨ (549 ≤ c ∧ c ≤ 552) ∨ c = 555 ∨ c = 556 ∨ c = 561 ∨ c = 563 ∨ c = 565 ∨ c = 572
theorem GM.rd {J' : Nat → Nat → Int} {f : Int} (h : GM J A) (hf : ∀ c, gmc c → J' c = J c) (hk : ∀ k, (24 ≤ k ∧ k ≤ 28) ∨ k = 35 ∨ k = 40 ∨ k = 41 ∨ k = 50 ∨ k = 59 → J' 542 k = J 542 k) (h2 : J' 542 2 = 0) (h8 : J' 542 8 = f) : GM J' (aRd A f) := by
  obtain ⟨g1, g2, g3, g4, g5, g6, g7, g8⟩ := h
  obtain ⟨k1, k2, k3, k4, k5, k6, k7, k8⟩ := g1.1
  refine ⟨⟨⟨?_, ?_, ?_, ?_, ?_, fun k q => ?_, fun k q => ?_, fun k q => ?_⟩, fun p hp => ?_⟩, LM_cf g2 (hk 35 (by omega)) (hf _ (by unfold gmc; omega)) (hf _ (by unfold gmc; omega)), BM_cg g3 (hk 50 (by omega)) (hf _ (by unfold gmc; omega)), MV_fr g4 (hf _ (by unfold gmc; omega)), ?_, ?_, ⟨h2, fun k hk' => ?_⟩, h8, ?_, ?_⟩
  · rw [hk 24 (by omega)]; exact k1
  · rw [hk 25 (by omega)]; exact k2
  · rw [hk 26 (by omega)]; exact k3
  · rw [hk 27 (by omega)]; exact k4
  · rw [hk 28 (by omega)]; exact k5
  · rw [hf 549 (by unfold gmc; omega)]; exact k6 k q
  · rw [hf 550 (by unfold gmc; omega)]; exact k7 k q
  · rw [hf 552 (by unfold gmc; omega)]; exact k8 k q
  · rw [hf 551 (by unfold gmc; omega)]; exact g1.2 p hp
  · unfold MP; rw [hf 563 (by unfold gmc; omega), hk 40 (by omega)]; exact g5
  · unfold MI; rw [hf 572 (by unfold gmc; omega), hk 59 (by omega)]; exact g6
  · rw [hf 544 (by unfold gmc; omega)]; exact g7.2 k hk'
  · rw [hk 41 (by omega)]; exact g8.2.1
  · rw [hf 543 (by unfold gmc; omega)]; exact g8.2.2
theorem rc_village (hG : GM J A) (bA' : ABd A) {n : Int} (hn : InR n) : CM X 4 186 [iv n] J sw lg x (vilK A n) (vilR A (J 548) n) cdS (vilA A (J 548) n) := by
  have ht := bA'.2.2.2.2.2.2.2.1.1
  have h7 := hG.2.2.2.2.2.2.1
  refine EE.ex (O := fun z : (Nat → Nat → Int) × Int => .inl (some (iv z.2))) (F := fun z => mj z.1 sw lg x) mt_186 (b_186_0 (by omega) ?_)
  have no : ¬ mayT A 600 n → ∃ z : (Nat → Nat → Int) × Int, (.inl (some (iv 0)) : Option Value ⊕ Nat) = .inl (some (iv z.2)) ∧ mj (m_up (m_up (m_up J 542 0 0) 542 0 1) 543 1 (J 543 1 + 1)) sw lg x = mj z.1 sw lg x ∧ (vilK A n = 0 → z.2 = vilR A (J 548) n) ∧ z.1 542 0 = cdS (vilK A n) ∧ GM z.1 (vilA A (J 548) n) ∧ ∀ c, c < 542 ∨ 573 ≤ c → z.1 c = J c := by
    intro hm
    have e1 : vilK A n = 2 := if_neg hm
    have e2 : vilA A (J 548) n = af A 2 := if_neg hm
    rw [e1, e2]
    obtain ⟨z, h1, h2, -, h4, h5, h6⟩ := QM.r2 (sw := sw) (lg := lg) (x := x) (q := (2, 0)) (cd := cdS) (t := 1) (w := 0) hG rfl rfl
    exact ⟨z, h1, h2, fun y => absurd y (by decide), h4, h5, h6⟩
  rw [h7.1]
  refine ⟨hn, fun c => no (fun z => by have := z.1; clear no; omega), fun c => ⟨by clear no; omega, fun c2 => no (fun z => by clear no; omega), fun c2 => ?_⟩⟩
  clear no
  have hm : mayT A 600 n := ⟨c, by omega, by omega⟩
  have eK : vilK A n = 0 := if_pos hm
  have eR : vilR A (J 548) n = if (vilT A (J 548) n).1.1.1 = 0 then (vn (vilT A (J 548) n).2.1 : Int) else ((vilT A (J 548) n).1.1.1 : Int) - 10 := if_pos hm
  have eA : vilA A (J 548) n = if (vilT A (J 548) n).1.1.1 = 0 then aNew A (vilT A (J 548) n).2 else aRd A ((vilT A (J 548) n).1.1.2 : Int) := if_pos hm
  rw [eK, eR, eA]
  have tB := TB_A bA' hm
  have hb := vl_B (tp := aTp A) (n := n.toNat) 61 0 (vb0 (J 548)) (Nat.zero_le _) (VBB_0 (J 548))
  have fc : ∀ c, c ≠ 542 → m_up (m_up (m_up (m_up (m_up (m_up (m_up (m_up (m_up (m_up (m_up (m_up (m_up J 542 0 0) 542 2 0) 542 8 (-1)) 542 3 n) 542 4 0) 542 5 (-1)) 542 7 0) 542 18 0) 542 19 0) 542 20 0) 542 21 0) 542 22 12) 542 23 0 c = J c := fun c h => by rw [up_r h, up_r h, up_r h, up_r h, up_r h, up_r h, up_r h, up_r h, up_r h, up_r h, up_r h, up_r h, up_r h]
  have fk : ∀ k, k ≠ 0 → k ≠ 2 → k ≠ 8 → ¬ (3 ≤ k ∧ k ≤ 7) → ¬ (18 ≤ k ∧ k ≤ 23) → m_up (m_up (m_up (m_up (m_up (m_up (m_up (m_up (m_up (m_up (m_up (m_up (m_up J 542 0 0) 542 2 0) 542 8 (-1)) 542 3 n) 542 4 0) 542 5 (-1)) 542 7 0) 542 18 0) 542 19 0) 542 20 0) 542 21 0) 542 22 12) 542 23 0 542 k = J 542 k := fun k h1 h2 h3 h4 h5 => by rw [up_nk (by omega), up_nk (by omega), up_nk (by omega), up_nk (by omega), up_nk (by omega), up_nk (by omega), up_nk (by omega), up_nk (by omega), up_nk (by omega), up_nk (by omega), up_nk (by omega), up_nk (by omega), up_nk (by omega)]
  have ff : (fun J0 : Nat → Nat → Int => (J0 542 0 = 0 ∧ J0 542 2 = 0 ∧ J0 542 3 = n ∧ J0 542 4 = 0 ∧ J0 542 5 = -1) ∧ J0 542 18 = 0 ∧ J0 542 19 = 0 ∧ J0 542 20 = 0 ∧ J0 542 21 = 0 ∧ J0 542 22 = 12 ∧ J0 542 23 = 0) (m_up (m_up (m_up (m_up (m_up (m_up (m_up (m_up (m_up (m_up (m_up (m_up (m_up J 542 0 0) 542 2 0) 542 8 (-1)) 542 3 n) 542 4 0) 542 5 (-1)) 542 7 0) 542 18 0) 542 19 0) 542 20 0) 542 21 0) 542 22 12) 542 23 0) := by
    simp [m_up]
  generalize m_up (m_up (m_up (m_up (m_up (m_up (m_up (m_up (m_up (m_up (m_up (m_up (m_up J 542 0 0) 542 2 0) 542 8 (-1)) 542 3 n) 542 4 0) 542 5 (-1)) 542 7 0) 542 18 0) 542 19 0) 542 20 0) 542 21 0) 542 22 12) 542 23 0 = J0 at *
  obtain ⟨⟨a0, a2, a3, a4, a5⟩, a18, a19, a20, a21, a22, a23⟩ := ff
  refine v_186 (J := J0) (n := n.toNat) (tp := aTp A) (R := vilT A (J 548) n) tB ?_ 61 0 0 (vb0 (J 548)) J0 _ rfl (by decide) (Nat.zero_le _) (VBB_0 _) rfl ⟨by rw [a3]; omega, a4, fun k hk => by rw [fc 544 (by decide)]; exact h7.2 k hk, a5⟩ ⟨⟨a18, a19, a20, a21, a22, a23⟩, fun k hk => absurd hk (Nat.not_lt_zero _), fun k hk => absurd hk (Nat.not_lt_zero _), fun k hk => absurd hk (Nat.not_lt_zero _), fun k hk => by rw [fc 548 (by decide)]; rfl⟩ FNV.rf
  intro J1 x2 o3 h1
  change ((vilT A (J 548) n).1.1.1 = 0 → VBB (vilT A (J 548) n).2) ∧ flt n.toNat (vilT A (J 548) n).1 at hb
  generalize vilT A (J 548) n = R at *
  obtain ⟨t1, v1, f1⟩ := h1
  refine b_186_136 (by omega) ?_
  by_cases z : R.1.1.1 = 0
  · have e5 := (t1.1 z).1
    have hV := v1 z
    have bB := hb.1 z
    rw [if_pos z, if_pos z]
    refine ex1 (e_177 (by rw [e5]; decide)) (fun J2 h2 => ?_)
    subst h2
    rw [e5, if_pos rfl, up_nk (by decide), e5]
    refine ⟨by decide, fun y => absurd rfl y, fun _ => ?_⟩
    have hV2 : VN (m_up J1 542 8 (-1)) R.2 := by
      obtain ⟨⟨k1, k2, k3, k4, k5, k6⟩, k7, k8, k9, k10⟩ := hV
      refine ⟨⟨by rw [up_nk (by decide)]; exact k1, by rw [up_nk (by decide)]; exact k2, by rw [up_nk (by decide)]; exact k3, by rw [up_nk (by decide)]; exact k4, by rw [up_nk (by decide)]; exact k5, by rw [up_nk (by decide)]; exact k6⟩, fun k hk => ?_, fun k hk => ?_, fun k hk => ?_, fun k hk => ?_⟩
      · rw [up_na (by decide)]; exact k7 k hk
      · rw [up_na (by decide)]; exact k8 k hk
      · rw [up_na (by decide)]; exact k9 k hk
      · rw [up_na (by decide)]; exact k10 k hk
    refine ex0 (e_181 hV2 bB) (fun J3 h3 => ?_)
    obtain ⟨hv, ⟨q35, q50, q40, q59, q41⟩, q65, q61, fc3, fk3⟩ := h3
    have ec : ∀ c, c ≠ 542 → ¬ (545 ≤ c ∧ c ≤ 552) → c ≠ 561 → c ≠ 565 → J3 c = J c := fun c p1 p2 p3 p4 => by rw [fc3 c p1 (by omega) p3 p4, up_r p1, f1.1 c p1 (by omega)]; exact fc c p1
    refine ⟨(J3, (vn R.2.1 : Int)), ?_, rfl, fun _ => rfl, ?_, ⟨hv, ⟨q35, fun k hk => absurd hk (Nat.not_lt_zero _)⟩, ⟨q50, q65⟩, q61, ⟨q40, fun i hi => absurd hi (Nat.not_lt_zero _)⟩, ⟨q59, fun i hi => absurd hi (Nat.not_lt_zero _)⟩, ⟨?_, fun k hk => ?_⟩, ?_, q41, ?_⟩, fun c hc => ec c (by omega) (by omega) (by omega) (by omega)⟩
    · rw [hV.1.2.2.1]
    · show J3 542 0 = 0
      rw [fk3 0 (by decide) (by decide) (by decide) (by decide) (by decide) (by decide), up_nk (by decide), f1.2 0 (by decide) (by decide)]; exact a0
    · show J3 542 2 = 0
      rw [fk3 2 (by decide) (by decide) (by decide) (by decide) (by decide) (by decide), up_nk (by decide), f1.2 2 (by decide) (by decide)]; exact a2
    · show J3 544 k = aTp A k
      rw [ec 544 (by decide) (by decide) (by decide) (by decide)]; exact h7.2 k hk
    · show J3 542 8 = -1
      rw [fk3 8 (by decide) (by decide) (by decide) (by decide) (by decide) (by decide)]; exact up_eq _ _ _ _
    · show J3 543 0 = aR0 A ∧ J3 543 1 = aR1 A
      rw [ec 543 (by decide) (by decide) (by decide) (by decide)]; exact hG.2.2.2.2.2.2.2.2.2
  · have e5 := (t1.2 z).1
    have fb := hb.2 z
    rw [if_neg z, if_neg z]
    refine ex1 (e_177 (by rw [e5]; omega)) (fun J2 h2 => ?_)
    subst h2
    rw [e5, if_neg (by omega), up_nk (by decide), e5]
    refine ⟨by omega, fun _ => ?_, fun y => by omega⟩
    rw [(t1.2 z).2]
    have ec : ∀ c, c ≠ 542 → ¬ (545 ≤ c ∧ c ≤ 548) → m_up J1 542 8 (R.1.1.2 : Int) c = J c := fun c p1 p2 => by rw [up_r p1, f1.1 c p1 p2]; exact fc c p1
    have ek : ∀ k, k ≠ 8 → ¬ (4 ≤ k ∧ k ≤ 6) → ¬ (18 ≤ k ∧ k ≤ 23) → m_up J1 542 8 (R.1.1.2 : Int) 542 k = J0 542 k := fun k p1 p2 p3 => by rw [up_nk p1]; exact f1.2 k p2 p3
    refine ⟨(m_up J1 542 8 (R.1.1.2 : Int), (R.1.1.1 : Int) - 10), rfl, rfl, fun _ => rfl, ?_, ?_, fun c hc => ec c (by omega) (by omega)⟩
    · show m_up J1 542 8 (R.1.1.2 : Int) 542 0 = 0
      rw [ek 0 (by decide) (by decide) (by decide)]; exact a0
    · show GM (m_up J1 542 8 (R.1.1.2 : Int)) _
      refine hG.rd (fun c hc => ec c (by unfold gmc at hc; omega) (by unfold gmc at hc; omega)) (fun k hk => ?_) ?_ (up_eq _ _ _ _)
      · rw [ek k (by omega) (by omega) (by omega)]; exact fk k (by omega) (by omega) (by omega) (by omega) (by omega)
      · rw [ek 2 (by decide) (by decide) (by decide)]; exact a2
end Vw
