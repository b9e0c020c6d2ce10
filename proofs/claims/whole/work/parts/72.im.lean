/-! undo, image, restore -/
section Im
variable {X : Nat × (Nat → Int32)} {J : Nat → Nat → Int} {sw : Bool × Bool × Bool} {lg : Nat → Nat → Int64} {x : Nat} {A : AT}
set_option maxRecDepth 100000 in
theorem sh56 : ∀ i, i < 16 → SH[58 + 7 * i]? = some (11, 9) := by decide +kernel
/-- all that work changes, put anew: now, past, images, refused steps -/
def aAll (A : AT) (s : Nat → Int) (pn : Nat) (ps : Nat → Nat → Int) (im : Nat × (Nat → Nat → Int) × (Nat → Nat) × (Nat → Nat → Nat → Int)) (rs : Int) : AT := (A.1, A.2.1, A.2.2.1, s, (pn, ps), im, A.2.2.2.2.2.2.1, aF A, rs, aR0 A, aR1 A)
def aIm (A : AT) : Nat × (Nat → Nat → Int) × (Nat → Nat) × (Nat → Nat → Nat → Int) := A.2.2.2.2.2.1
/-- what lies outside the states: village, law, book, tape, counts but one -/
theorem GK.all {J' : Nat → Nat → Int} {s : Nat → Int} {pn n : Nat} {ps is : Nat → Nat → Int} {iw : Nat → Nat} {ip : Nat → Nat → Nat → Int} {rs : Int} (h : GK J sw A) (hf : ∀ c, c < 35 → c ≠ 0 → J' c = J c) (h0 : ∀ k, k ≠ 16 → J' 0 k = J 0 k) (hr : J' 0 16 = rs) (hs : SV J' 41 s) (hp : KP J' 56 pn ps) (hi : KI J' n is iw ip) : GK J' sw (aAll A s pn ps (n, is, iw, ip) rs) := by
  have q1 := vA_or sw
  have q2 := lA_or sw
  have q3 := bA_or sw
  obtain ⟨g1, g2, g3, g4, g5, g6, g7, g8⟩ := h
  refine ⟨KV_cg g1 (fun c _ _ => hf c (by omega) (by omega)), LK_cg g2 (hf _ (by omega) (by omega)) (hf _ (by omega) (by omega)), BC_fr g3 (fun k _ => by rw [hf _ (by omega) (by omega)]) (hf _ (by omega) (by omega)) (hf _ (by omega) (by omega)), hs, hp, hi, KT_cg g7 (by rw [hf 1 (by decide) (by decide)]) (hf _ (by decide) (by decide)), ?_, hr, ?_, ?_⟩
  · rw [h0 1 (by decide)]; exact g8.1
  · rw [h0 17 (by decide)]; exact g8.2.2.1
  · rw [h0 18 (by decide)]; exact g8.2.2.2
def undoA (A : AT) : AT := if aPn A = 0 then A else aAll A (aPs A (aPn A - 1)) (aPn A - 1) (aPs A) (aIm A) 0
def undoR (A : AT) : Int := if aPn A = 0 then -1 else ((aPn A - 1 : Nat) : Int)
theorem kc_undo (hG : GK J sw A) (bA' : ABd A) : CK X 2 116 [] J sw lg x 0 (undoR A) (undoA A) := by
  have hp := bA'.2.2.2.2.2.1.1
  have hi := bA'.2.2.2.2.2.2.1
  have h5 := hG.2.2.2.2.1
  suffices H : ∃ z, EE X 2 116 [.ref 0] (mj J sw lg x) (.inl (some (iv (undoR A)))) (mj z sw lg x) ∧ GK z sw (undoA A) ∧ ∀ c, 542 ≤ c → z c = J c from by
    obtain ⟨z, h1, h2, h3⟩ := H
    exact ⟨z, sw, h1, h2, h3⟩
  refine EE.ex (O := fun _ => .inl (some (iv (undoR A)))) (F := fun z => mj z sw lg x) mt_116 (b_116_0 (by omega) ?_)
  rw [h5.1]
  refine ⟨by omega, fun c0 => ⟨by omega, ?_⟩, fun c0 => ⟨J, ?_, rfl, ?_, fun _ _ => rfl⟩⟩
  · obtain ⟨m, hm⟩ : ∃ m, aPn A = m + 1 := ⟨aPn A - 1, by omega⟩
    have em : (((aPn A : Nat) : Int) - 1).toNat = m := by omega
    have ea : 56 + 1 + (1 + 7 * m) = 58 + 7 * m := by omega
    rw [em, ea]
    have hs : SV (m_up J 56 1 ((aPn A : Int) - 1)) (58 + 7 * m) (aPs A m) := SV_fr (h5.2 m (by omega)) (fun c _ _ => up_r (by omega))
    refine ex0 (e_44 c_41 (sh56 m (by omega)) (by omega) hs) (fun J1 h1 => ?_)
    have hf : ∀ c, ¬ (41 ≤ c ∧ c ≤ 47) → J1 c = m_up J 56 1 ((aPn A : Int) - 1) c := fun c hc => h1.2 c (by omega)
    have hf2 : ∀ c, ¬ (41 ≤ c ∧ c ≤ 47) → c ≠ 56 → c ≠ 0 → m_up J1 0 16 0 c = J c := fun c a b d => by rw [up_r d, hf c a, up_r b]
    refine ⟨_, ?_, rfl, ?_, fun c hc => hf2 c (by omega) (by omega) (by omega)⟩
    · rw [hf 56 (by omega), up_eq]; unfold undoR; rw [if_neg (by omega), show ((aPn A - 1 : Nat) : Int) = (aPn A : Int) - 1 by omega]
    · unfold undoA
      rw [if_neg (by omega), show aPn A - 1 = m by omega]
      refine hG.all (fun c a b => hf2 c (by omega) (by omega) b) (fun k hk => by rw [up_nk hk, hf 0 (by omega), up_na (by decide)]) (up_eq _ _ _ _) (SV_fr h1.1 (fun c _ _ => up_r (by omega))) ⟨?_, fun i hi' => ?_⟩ (KI_cg hi.1 (fun i hi' => (hi.2 i hi').2.1) hG.2.2.2.2.2.1 (hf2 _ (by omega) (by omega) (by omega)) (fun c _ _ => hf2 c (by omega) (by omega) (by omega)))
      · rw [up_na (by decide), hf 56 (by omega), up_eq]; omega
      · exact SV_fr (h5.2 i (by omega)) (fun c _ _ => hf2 c (by omega) (by omega) (by omega))
  · unfold undoR; rw [if_pos (by omega)]
  · unfold undoA; rw [if_pos (by omega)]; exact hG
/-- the reference, the same -/
theorem GM.all {J' : Nat → Nat → Int} {s : Nat → Int} {pn n : Nat} {ps is : Nat → Nat → Int} {iw : Nat → Nat} {ip : Nat → Nat → Nat → Int} {rs : Int} (h : GM J A) (hf : ∀ c, c ≠ 542 → c ≠ 561 → c ≠ 562 → c ≠ 557 → c ≠ 558 → c ≠ 559 → c ≠ 560 → c ≠ 563 → c ≠ 572 → J' c = J c) (hk : ∀ k, k = 2 ∨ k = 8 ∨ (24 ≤ k ∧ k ≤ 28) ∨ k = 35 ∨ k = 50 → J' 542 k = J 542 k) (hr : J' 542 41 = rs) (hs : MV J' 561 s) (hp : MP J' pn ps) (hi : MI J' n is iw ip) : GM J' (aAll A s pn ps (n, is, iw, ip) rs) := by
  obtain ⟨g1, g2, g3, g4, g5, g6, g7, g8⟩ := h
  obtain ⟨k1, k2, k3, k4, k5, k6, k7, k8⟩ := g1.1
  refine ⟨⟨⟨?_, ?_, ?_, ?_, ?_, fun k q => ?_, fun k q => ?_, fun k q => ?_⟩, fun p hp => ?_⟩, LM_cf g2 (hk 35 (by omega)) (hf _ (by omega) (by omega) (by omega) (by omega) (by omega) (by omega) (by omega) (by omega) (by omega)) (hf _ (by omega) (by omega) (by omega) (by omega) (by omega) (by omega) (by omega) (by omega) (by omega)), BM_cg g3 (hk 50 (by omega)) (hf _ (by omega) (by omega) (by omega) (by omega) (by omega) (by omega) (by omega) (by omega) (by omega)), hs, hp, hi, ?_, ?_, hr, ?_⟩
  · rw [hk 24 (by omega)]; exact k1
  · rw [hk 25 (by omega)]; exact k2
  · rw [hk 26 (by omega)]; exact k3
  · rw [hk 27 (by omega)]; exact k4
  · rw [hk 28 (by omega)]; exact k5
  · rw [hf 549 (by omega) (by omega) (by omega) (by omega) (by omega) (by omega) (by omega) (by omega) (by omega)]; exact k6 k q
  · rw [hf 550 (by omega) (by omega) (by omega) (by omega) (by omega) (by omega) (by omega) (by omega) (by omega)]; exact k7 k q
  · rw [hf 552 (by omega) (by omega) (by omega) (by omega) (by omega) (by omega) (by omega) (by omega) (by omega)]; exact k8 k q
  · rw [hf 551 (by omega) (by omega) (by omega) (by omega) (by omega) (by omega) (by omega) (by omega) (by omega)]; exact g1.2 p hp
  · unfold MTp; rw [hf 544 (by omega) (by omega) (by omega) (by omega) (by omega) (by omega) (by omega) (by omega) (by omega), hk 2 (by omega)]; exact g7
  · rw [hk 8 (by omega)]; exact g8.1
  · rw [hf 543 (by omega) (by omega) (by omega) (by omega) (by omega) (by omega) (by omega) (by omega) (by omega)]; exact g8.2.2
theorem rc_undo (hG : GM J A) (bA' : ABd A) : CM X 0 219 [] J sw lg x 0 (undoR A) cdS (undoA A) := by
  have hp := bA'.2.2.2.2.2.1.1
  have h5 := hG.2.2.2.2.1
  refine EE.ex (O := fun z : (Nat → Nat → Int) × Int => .inl (some (iv z.2))) (F := fun z => mj z.1 sw lg x) mt_219 (b_219_0 ?_)
  rw [h5.1]
  refine ⟨by omega, fun c0 => ?_, fun c0 => ⟨(m_up J 542 0 0, -1), rfl, rfl, fun _ => by unfold undoR; rw [if_pos (by omega)], (show m_up J 542 0 0 542 0 = 0 from up_eq _ _ _ _), ?_, fun c hc => up_r (show c ≠ 542 by omega)⟩⟩
  · obtain ⟨m, hm⟩ : ∃ m, aPn A = m + 1 := ⟨aPn A - 1, by omega⟩
    rw [show (aPn A : Int) - 1 = (m : Int) by omega]
    refine lp (P := fun i => ∀ (J' : Nat → Nat → Int), (∀ k, k < i → J' 561 k = aPs A m k) → (∀ c, c ≠ 561 → J' c = m_up (m_up J 542 0 0) 542 40 (m : Int) c) → VV X 0 219 (26, [some (.ref 542), some (iv i)], [], mj J' sw lg x) _) 50 ?_ ?_ 0 (Nat.zero_le _) _ (fun k hk => absurd hk (Nat.not_lt_zero _)) (fun _ _ => rfl)
    · intro J' h1 hf
      have e40 : J' 542 40 = (m : Int) := by rw [hf 542 (by decide)]; exact up_eq _ _ _ _
      have e0 : J' 542 0 = 0 := by rw [hf 542 (by decide), up_nk (by decide)]; exact up_eq _ _ _ _
      have hf2 : ∀ c, c ≠ 542 → c ≠ 561 → m_up J' 542 41 0 c = J c := fun c a b => by rw [up_r a, hf c b, up_r a, up_r a]
      refine b_219_26 ⟨by decide, fun _ => ⟨(m_up J' 542 41 0, J' 542 40), rfl, rfl, fun _ => ?_, ?_, ?_, fun c hc => hf2 c (by omega) (by omega)⟩, fun c => absurd c (by decide)⟩
      · show J' 542 40 = _
        rw [e40]; unfold undoR; rw [if_neg (by omega), show aPn A - 1 = m by omega]
      · show m_up J' 542 41 0 542 0 = 0
        rw [up_nk (by decide)]; exact e0
      · unfold undoA
        rw [if_neg (by omega), show aPn A - 1 = m by omega]
        have hk2 : ∀ k, k ≠ 0 → k ≠ 40 → k ≠ 41 → m_up J' 542 41 0 542 k = J 542 k := fun k a b c => by rw [up_nk c, hf 542 (by decide), up_nk b, up_nk a]
        show GM (m_up J' 542 41 0) _
        refine hG.all (fun c a b _ _ _ _ _ _ _ => hf2 c a b) (fun k hk => hk2 k (by omega) (by omega) (by omega)) (up_eq _ _ _ _) (fun k hk => by rw [up_na (by decide)]; exact h1 k hk) ⟨by rw [up_nk (by decide)]; exact e40, fun i hi k hk => ?_⟩ ⟨?_, fun i hi => ?_⟩
        · rw [hf2 563 (by decide) (by decide)]; exact h5.2 i (by omega) k hk
        · show m_up J' 542 41 0 542 59 = _
          rw [hk2 59 (by decide) (by decide) (by decide)]; exact hG.2.2.2.2.2.1.1
        · show (∀ k, k < 50 → m_up J' 542 41 0 572 _ = _) ∧ _
          rw [hf2 572 (by decide) (by decide)]; exact hG.2.2.2.2.2.1.2 i hi
    · intro i hi ih J' h1 hf
      have e40 : J' 542 40 = (m : Int) := by rw [hf 542 (by decide)]; exact up_eq _ _ _ _
      have e63 : J' 563 (50 * (m : Int) + (i : Int)).toNat = aPs A m i := by
        rw [show (50 * (m : Int) + (i : Int)).toNat = 50 * m + i by omega, hf 563 (by decide), up_na (by decide), up_na (by decide)]
        exact h5.2 m (by omega) i hi
      refine b_219_26 ?_
      rw [e40, e63]
      refine ⟨by omega, fun c => by omega, fun _ => ⟨by omega, by omega, ih _ (fun k hk => ?_) (fun c q => by rw [up_r q]; exact hf c q)⟩⟩
      show m_up J' 561 i _ 561 k = _
      by_cases q : k = i
      · subst q; exact up_eq _ _ _ _
      · rw [up_nk q]; exact h1 k (by omega)
  · unfold undoA; rw [if_pos (by omega)]; exact hG.fq FQ.up0
theorem ABd_undo (bA' : ABd A) : ABd (undoA A) := by
  unfold undoA
  split
  · exact bA'
  · obtain ⟨b1, b2, b3, b4, b5, b6, b7, b8, b9, b10⟩ := bA'
    exact ⟨b1, b2, b3, b4, b6.2 (aPn A - 1) (by omega), ⟨by show aPn A - 1 ≤ 16; omega, fun i hi => b6.2 i (by have : i < aPn A - 1 := hi; omega)⟩, b7, b8, b9, by show (0 : Int) ≤ 0 ∧ (0 : Int) ≤ 200; omega⟩
/-! rows of states copied -/
theorem e_39 {a b pn : Nat} {ps : Nat → Nat → Int} (h0 : SH[a]? = some (9, 2)) (h1 : SH[b]? = some (9, 2)) (hab : a + 113 < b ∨ b + 113 < a) (hp : KP J b pn ps) (hn : pn ≤ 16) : ∃ J', EE X 1 39 [.ref a, .ref b] (mj J sw lg x) (.inl none) (mj J' sw lg x) ∧ KP J' a pn ps ∧ ∀ c, ¬ (a ≤ c ∧ c ≤ a + 113) → J' c = J c := by
  refine EE.ex (O := fun _ => .inl none) (F := fun J' => mj J' sw lg x) mt_39 (b_39_0 h0 h1 (by omega) ?_)
  have s0 := (shP a (SH_lt h0) h0).2
  have s1 := (shP b (SH_lt h1) h1).2
  refine lp (P := fun k => ∀ J' : Nat → Nat → Int, (∀ i, i < k → SV J' (a + 2 + 7 * i) (ps i)) → (∀ c, ¬ (a ≤ c ∧ c ≤ a + 113) → J' c = J c) → VV X 1 39 (2, [some (.ref a), some (.ref b), some (iv k)], [], mj J' sw lg x) (fun o M => ∃ z, o = .inl none ∧ M = mj z sw lg x ∧ KP z a pn ps ∧ ∀ c, ¬ (a ≤ c ∧ c ≤ a + 113) → z c = J c)) pn ?_ ?_ 0 (Nat.zero_le _) J (fun i hi => absurd hi (Nat.not_lt_zero _)) (fun _ _ => rfl)
  · intro J' hs hf
    have e1 : J' b 1 = (pn : Int) := by rw [hf b (by omega)]; exact hp.1
    refine b_39_2 h0 h1 (by omega) ?_
    rw [e1]
    exact ⟨by omega, by omega, fun _ => ⟨_, rfl, rfl, ⟨up_eq _ _ _ _, fun i hi => SV_fr (hs i hi) (fun c _ _ => up_r (by omega))⟩, fun c hc => by rw [up_r (by omega)]; exact hf c hc⟩, fun c => by omega⟩
  · intro k hk ih J' hs hf
    have e1 : J' b 1 = (pn : Int) := by rw [hf b (by omega)]; exact hp.1
    refine b_39_2 h0 h1 (by omega) ?_
    rw [e1, Int.toNat_natCast]
    have hb : SV J' (b + 1 + (1 + 7 * k)) (ps k) := by
      rw [show b + 1 + (1 + 7 * k) = b + 2 + 7 * k by omega]
      exact SV_fr (hp.2 k hk) (fun c _ _ => hf c (by omega))
    refine ⟨by omega, by omega, fun c => by omega, fun _ => ⟨by omega, ex0 (e_44 (s0 k (by omega)) (s1 k (by omega)) (by omega) hb) (fun J1 h1 => ih J1 (fun i hi => ?_) (fun c hc => ?_))⟩⟩
    · by_cases q : i = k
      · subst q
        have := h1.1
        rw [show a + 1 + (1 + 7 * i) = a + 2 + 7 * i by omega] at this
        exact this
      · exact SV_fr (hs i (by omega)) (fun c _ _ => h1.2 c (by omega))
    · rw [h1.2 c (by omega)]; exact hf c hc
def imageA (A : AT) : AT := if aIn A = 3 then A else aAll A (aS A) (aPn A) (aPs A) (aIn A + 1, (fun i => if i = aIn A then aS A else aIs A i), (fun i => if i = aIn A then aPn A else aIw A i), (fun i => if i = aIn A then aPs A else aIp A i)) (aRs A)
def imageR (A : AT) : Int := if aIn A = 3 then -1 else ((aIn A + 1 : Nat) : Int)
theorem kc_image (hG : GK J sw A) (bA' : ABd A) : CK X 3 143 [] J sw lg x 0 (imageR A) (imageA A) := by
  have hp := bA'.2.2.2.2.2.1.1
  have hi := bA'.2.2.2.2.2.2.1
  have h6 := hG.2.2.2.2.2.1
  suffices H : ∃ z, EE X 3 143 [.ref 0] (mj J sw lg x) (.inl (some (iv (imageR A)))) (mj z sw lg x) ∧ GK z sw (imageA A) ∧ ∀ c, 542 ≤ c → z c = J c from by
    obtain ⟨z, h1, h2, h3⟩ := H
    exact ⟨z, sw, h1, h2, h3⟩
  refine EE.ex (O := fun _ => .inl (some (iv (imageR A)))) (F := fun z => mj z sw lg x) mt_143 (b_143_0 (by omega) ?_)
  rw [h6.1]
  refine ⟨by omega, fun c0 => ⟨by omega, ?_⟩, fun c0 => ⟨J, ?_, rfl, ?_, fun _ _ => rfl⟩⟩
  · obtain ⟨n, hn⟩ : ∃ n, aIn A = n := ⟨_, rfl⟩
    rw [hn, Int.toNat_natCast]
    have sI := shI0 n (by omega)
    refine ex0 (e_44 sI.1 c_41 (by omega) hG.2.2.2.1) (fun J1 h1 => ?_)
    have e1 : J1 170 2 = (n : Int) := by rw [h1.2 170 (by omega), h6.1, hn]
    rw [e1, Int.toNat_natCast]
    have hpK : KP J1 56 (aPn A) (aPs A) := KP_cg hp hG.2.2.2.2.1 (h1.2 _ (by omega)) (fun c _ _ => h1.2 c (by omega))
    refine ⟨by omega, ex0 (e_39 sI.2 c_56 (by omega) hpK hp) (fun J2 h2 => ?_)⟩
    have e2 : J2 170 2 = (n : Int) := by rw [h2.2 170 (by omega)]; exact e1
    rw [e2]
    have hf : ∀ c, ¬ (173 + 121 * n ≤ c ∧ c ≤ 173 + 121 * n + 120) → c ≠ 170 → m_up J2 170 2 ((n : Int) + 1) c = J c := fun c a b => by rw [up_r b, h2.2 c (by omega), h1.2 c (by omega)]
    refine ⟨_, ?_, rfl, ?_, fun c hc => hf c (by omega) (by omega)⟩
    · unfold imageR; rw [if_neg (by omega), hn]; rfl
    · unfold imageA
      rw [if_neg (by omega), hn]
      refine hG.all (fun c a b => hf c (by omega) (by omega)) (fun k hk => by rw [hf 0 (by omega) (by omega)]) (by rw [hf 0 (by omega) (by omega)]; exact hG.2.2.2.2.2.2.2.2.1) (SV_fr hG.2.2.2.1 (fun c _ _ => hf c (by omega) (by omega))) (KP_cg hp hG.2.2.2.2.1 (hf _ (by omega) (by omega)) (fun c _ _ => hf c (by omega) (by omega))) ⟨up_eq _ _ _ _, fun i hi' => ?_⟩
      dsimp only
      by_cases q : i = n
      · subst q
        rw [if_pos rfl, if_pos rfl, if_pos rfl]
        exact ⟨SV_fr h1.1 (fun c _ _ => by rw [up_r (by omega), h2.2 c (by omega)]), KP_cg hp h2.1 (up_r (by omega)) (fun c _ _ => up_r (by omega))⟩
      · rw [if_neg q, if_neg q, if_neg q]
        have hi2 := h6.2 i (by omega)
        exact ⟨SV_fr hi2.1 (fun c _ _ => hf c (by omega) (by omega)), KP_cg (hi.2 i (by omega)).2.1 hi2.2 (hf _ (by omega) (by omega)) (fun c _ _ => hf c (by omega) (by omega))⟩
  · unfold imageR; rw [if_pos (by omega)]
  · unfold imageA; rw [if_pos (by omega)]; exact hG
def restoreA (A : AT) : AT := if aIn A = 0 then A else aAll A (aIs A (aIn A - 1)) (aIw A (aIn A - 1)) (aIp A (aIn A - 1)) (aIn A - 1, aIs A, aIw A, aIp A) 0
def restoreR (A : AT) : Int := if aIn A = 0 then -1 else ((aIn A - 1 : Nat) : Int)
theorem kc_restore (hG : GK J sw A) (bA' : ABd A) : CK X 3 144 [] J sw lg x 0 (restoreR A) (restoreA A) := by
  have hi := bA'.2.2.2.2.2.2.1
  have h6 := hG.2.2.2.2.2.1
  suffices H : ∃ z, EE X 3 144 [.ref 0] (mj J sw lg x) (.inl (some (iv (restoreR A)))) (mj z sw lg x) ∧ GK z sw (restoreA A) ∧ ∀ c, 542 ≤ c → z c = J c from by
    obtain ⟨z, h1, h2, h3⟩ := H
    exact ⟨z, sw, h1, h2, h3⟩
  refine EE.ex (O := fun _ => .inl (some (iv (restoreR A)))) (F := fun z => mj z sw lg x) mt_144 (b_144_0 (by omega) ?_)
  rw [h6.1]
  refine ⟨by omega, fun c0 => ⟨by omega, ?_⟩, fun c0 => ⟨J, ?_, rfl, ?_, fun _ _ => rfl⟩⟩
  · obtain ⟨n, hn⟩ : ∃ n, aIn A = n + 1 := ⟨aIn A - 1, by omega⟩
    rw [show (((aIn A : Nat) : Int) - 1).toNat = n by omega, show ((aIn A : Nat) : Int) - 1 = (n : Int) by omega]
    have sI := shI0 n (by omega)
    have hn2 := h6.2 n (by omega)
    have hb2 := hi.2 n (by omega)
    refine ex0 (e_44 c_41 sI.1 (by omega) (SV_fr hn2.1 (fun c _ _ => up_r (by omega)))) (fun J1 h1 => ?_)
    have e1 : J1 170 2 = (n : Int) := by rw [h1.2 170 (by omega)]; exact up_eq _ _ _ _
    rw [e1, Int.toNat_natCast]
    have hpK : KP J1 (180 + 121 * n) (aIw A n) (aIp A n) := KP_cg hb2.2.1 hn2.2 (by rw [h1.2 _ (by omega), up_r (by omega)]) (fun c _ _ => by rw [h1.2 c (by omega), up_r (by omega)])
    refine ⟨by omega, ex0 (e_39 c_56 sI.2 (by omega) hpK hb2.2.1) (fun J2 h2 => ?_)⟩
    have e2 : J2 170 2 = (n : Int) := by rw [h2.2 170 (by omega)]; exact e1
    rw [e2]
    have hf : ∀ c, ¬ (41 ≤ c ∧ c ≤ 47) → ¬ (56 ≤ c ∧ c ≤ 169) → c ≠ 170 → c ≠ 0 → m_up J2 0 16 0 c = J c := fun c a b d e => by rw [up_r e, h2.2 c (by omega), h1.2 c (by omega), up_r d]
    refine ⟨_, ?_, rfl, ?_, fun c hc => hf c (by omega) (by omega) (by omega) (by omega)⟩
    · unfold restoreR; rw [if_neg (by omega), show aIn A - 1 = n by omega]
    · unfold restoreA
      rw [if_neg (by omega), show aIn A - 1 = n by omega]
      refine hG.all (fun c a b => hf c (by omega) (by omega) (by omega) b) (fun k hk => by rw [up_nk hk, h2.2 0 (by omega), h1.2 0 (by omega), up_na (by decide)]) (up_eq _ _ _ _) (SV_fr h1.1 (fun c _ _ => by rw [up_r (by omega), h2.2 c (by omega)])) (KP_cg hb2.2.1 h2.1 (up_r (by omega)) (fun c _ _ => up_r (by omega))) ⟨by rw [up_na (by decide)]; exact e2, fun i hi' => ?_⟩
      have hi2 := h6.2 i (by omega)
      exact ⟨SV_fr hi2.1 (fun c _ _ => hf c (by omega) (by omega) (by omega) (by omega)), KP_cg (hi.2 i (by omega)).2.1 hi2.2 (hf _ (by omega) (by omega) (by omega) (by omega)) (fun c _ _ => hf c (by omega) (by omega) (by omega) (by omega))⟩
  · unfold restoreR; rw [if_pos (by omega)]
  · unfold restoreA; rw [if_pos (by omega)]; exact hG
theorem ABd_image (bA' : ABd A) : ABd (imageA A) := by
  unfold imageA
  split
  · exact bA'
  · obtain ⟨b1, b2, b3, b4, b5, b6, b7, b8, b9, b10⟩ := bA'
    refine ⟨b1, b2, b3, b4, b5, b6, ⟨by show aIn A + 1 ≤ 3; omega, fun i hi => ?_⟩, b8, b9, b10⟩
    have hi' : i < aIn A + 1 := hi
    show SOk (aV A) ((fun i => if i = aIn A then aS A else aIs A i) i) ∧ (fun i => if i = aIn A then aPn A else aIw A i) i ≤ 16 ∧ ∀ j, j < (fun i => if i = aIn A then aPn A else aIw A i) i → SOk (aV A) ((fun i => if i = aIn A then aPs A else aIp A i) i j)
    dsimp only
    by_cases q : i = aIn A
    · rw [if_pos q, if_pos q, if_pos q]; exact ⟨b5, b6⟩
    · rw [if_neg q, if_neg q, if_neg q]; exact b7.2 i (by omega)
theorem ABd_restore (bA' : ABd A) : ABd (restoreA A) := by
  unfold restoreA
  split
  · exact bA'
  · obtain ⟨b1, b2, b3, b4, b5, b6, b7, b8, b9, b10⟩ := bA'
    have h := b7.2 (aIn A - 1) (by omega)
    exact ⟨b1, b2, b3, b4, h.1, h.2, ⟨by show aIn A - 1 ≤ 3; omega, fun i hi => b7.2 i (by have : i < aIn A - 1 := hi; omega)⟩, b8, b9, by show (0 : Int) ≤ 0 ∧ (0 : Int) ≤ 200; omega⟩
/-! the reference's image -/
theorem e_270k {r n0 : Nat} {q m : Nat} (h2 : SH[r]? = some (0, n0)) (hr : r ≠ 572) (hn0 : n0 ≤ 100000) (hm : m ≤ n0) (hq : q + m ≤ 2553) : ∃ J', EE X 0 270 [.ref 542, iv (q : Int), .ref r, iv (m : Int), iv 1] (mj J sw lg x) (.inl (some (iv ((q : Int) + m)))) (mj J' sw lg x) ∧ (∀ k, k < m → J' 572 (q + k) = J r k) ∧ (∀ k, k < q ∨ q + m ≤ k → J' 572 k = J 572 k) ∧ ∀ c, c ≠ 572 → J' c = J c := by
  refine EE.ex (O := fun _ => .inl (some (iv ((q : Int) + m)))) (F := fun J' => mj J' sw lg x) mt_270 (b_270_0 h2 (by omega) ?_)
  refine lp (P := fun i => ∀ J' : Nat → Nat → Int, (∀ k, k < i → J' 572 (q + k) = J r k) → (∀ k, k < q ∨ q + i ≤ k → J' 572 k = J 572 k) → (∀ c, c ≠ 572 → J' c = J c) → VV X 0 270 (3, [some (.ref 542), some (iv (q : Int)), some (.ref r), some (iv (m : Int)), some (iv 1), some (iv i)], [], mj J' sw lg x) _) m ?_ ?_ 0 (Nat.zero_le _) J (fun k hk => absurd hk (Nat.not_lt_zero _)) (fun _ _ => rfl) (fun _ _ => rfl)
  · intro J' h1 h3 hf
    exact b_270_3 h2 (by omega) ⟨by omega, by omega, fun _ => ⟨J', rfl, rfl, h1, h3, hf⟩, fun c => by omega⟩
  · intro i hi ih J' h1 h3 hf
    refine b_270_3 h2 (by omega) ?_
    rw [show ((q : Int) + (i : Int)).toNat = q + i by omega, Int.toNat_natCast]
    refine ⟨by omega, by omega, fun c => by omega, fun _ => ⟨by decide, fun c => absurd c (by decide), fun _ => ⟨by omega, by omega, ih _ (fun k hk => ?_) (fun k hk => ?_) (fun c hc => by rw [up_r hc]; exact hf c hc)⟩⟩⟩
    · by_cases z : k = i
      · subst z; rw [up_eq, hf r hr]
      · rw [up_nk (by omega)]; exact h1 k (by omega)
    · rw [up_nk (by omega)]; exact h3 k (by omega)
theorem e_270r {r n0 : Nat} {q m : Nat} (h2 : SH[r]? = some (0, n0)) (hr : r ≠ 572) (hn0 : n0 ≤ 100000) (hm : m ≤ n0) (hq : q + m ≤ 2553) : ∃ J', EE X 0 270 [.ref 542, iv (q : Int), .ref r, iv (m : Int), iv 0] (mj J sw lg x) (.inl (some (iv ((q : Int) + m)))) (mj J' sw lg x) ∧ (∀ k, k < m → J' r k = J 572 (q + k)) ∧ ∀ c, c ≠ r → J' c = J c := by
  refine EE.ex (O := fun _ => .inl (some (iv ((q : Int) + m)))) (F := fun J' => mj J' sw lg x) mt_270 (b_270_0 h2 (by omega) ?_)
  refine lp (P := fun i => ∀ J' : Nat → Nat → Int, (∀ k, k < i → J' r k = J 572 (q + k)) → (∀ c, c ≠ r → J' c = J c) → VV X 0 270 (3, [some (.ref 542), some (iv (q : Int)), some (.ref r), some (iv (m : Int)), some (iv 0), some (iv i)], [], mj J' sw lg x) _) m ?_ ?_ 0 (Nat.zero_le _) J (fun k hk => absurd hk (Nat.not_lt_zero _)) (fun _ _ => rfl)
  · intro J' h1 hf
    exact b_270_3 h2 (by omega) ⟨by omega, by omega, fun _ => ⟨J', rfl, rfl, h1, hf⟩, fun c => by omega⟩
  · intro i hi ih J' h1 hf
    refine b_270_3 h2 (by omega) ?_
    rw [show ((q : Int) + (i : Int)).toNat = q + i by omega, Int.toNat_natCast]
    refine ⟨by omega, by omega, fun c => by omega, fun _ => ⟨by decide, fun _ => ⟨by omega, by omega, ih _ (fun k hk => ?_) (fun c hc => by rw [up_r hc]; exact hf c hc)⟩, fun c => absurd rfl c⟩⟩
    by_cases z : k = i
    · subst z; rw [up_eq, hf 572 (Ne.symm hr)]
    · rw [up_nk z]; exact h1 k (by omega)
theorem rc_image (hG : GM J A) (bA' : ABd A) : CM X 2 272 [] J sw lg x 0 (imageR A) cdS (imageA A) := by
  have hp := bA'.2.2.2.2.2.1.1
  have hi := bA'.2.2.2.2.2.2.1
  have h6 := hG.2.2.2.2.2.1
  have h5 := hG.2.2.2.2.1
  refine EE.ex (O := fun z : (Nat → Nat → Int) × Int => .inl (some (iv z.2))) (F := fun z => mj z.1 sw lg x) mt_272 (b_272_0 (by omega) ?_)
  rw [h6.1]
  refine ⟨by omega, fun c0 => ?_, fun c0 => ⟨(m_up J 542 0 0, -1), rfl, rfl, fun _ => by unfold imageR; rw [if_pos (by omega)], (show m_up J 542 0 0 542 0 = 0 from up_eq _ _ _ _), ?_, fun c hc => up_r (show c ≠ 542 by omega)⟩⟩
  · obtain ⟨n, hn⟩ : ∃ n, aIn A = n := ⟨_, rfl⟩
    rw [hn, show 851 * (n : Int) = ((851 * n : Nat) : Int) by omega]
    refine ex1 (e_270k (r := 561) (m := 50) c_561 (by decide) (by decide) (by decide) (by omega)) (fun J1 h1 => ?_)
    rw [show ((851 * n : Nat) : Int) + ((50 : Nat) : Int) = ((851 * n + 50 : Nat) : Int) by omega]
    refine ex1 (e_270k (r := 563) (m := 800) c_563 (by decide) (by decide) (by decide) (by omega)) (fun J3 h3 => ?_)
    rw [show (((851 * n + 50 : Nat) : Int) + ((800 : Nat) : Int)).toNat = 851 * n + 850 by omega]
    have hf0 : ∀ c, c ≠ 572 → J3 c = m_up J 542 0 0 c := fun c hc => (h3.2.2 c hc).trans (h1.2.2 c hc)
    have e59 : J3 542 59 = (n : Int) := by rw [hf0 542 (by decide), up_nk (by decide), h6.1, hn]
    have e40 : J3 542 40 = (aPn A : Int) := by rw [hf0 542 (by decide), up_nk (by decide)]; exact h5.1
    rw [e59, e40]
    refine ⟨by omega, ⟨(m_up (m_up J3 572 (851 * n + 850) (aPn A : Int)) 542 59 ((n : Int) + 1), (n : Int) + 1), rfl, rfl, fun _ => ?_, ?_, ?_, fun c hc => ?_⟩⟩
    · show (n : Int) + 1 = _
      unfold imageR; rw [if_neg (by omega), hn]; rfl
    · show m_up (m_up J3 572 (851 * n + 850) (aPn A : Int)) 542 59 ((n : Int) + 1) 542 0 = 0
      rw [up_nk (by decide), up_na (by decide), hf0 542 (by decide)]; exact up_eq _ _ _ _
    · unfold imageA
      rw [if_neg (by omega), hn]
      have hf : ∀ c, c ≠ 542 → c ≠ 572 → m_up (m_up J3 572 (851 * n + 850) (aPn A : Int)) 542 59 ((n : Int) + 1) c = J c := fun c a b => by rw [up_r a, up_r b, hf0 c b, up_r a]
      have hk : ∀ k, k ≠ 0 → k ≠ 59 → m_up (m_up J3 572 (851 * n + 850) (aPn A : Int)) 542 59 ((n : Int) + 1) 542 k = J 542 k := fun k a b => by rw [up_nk b, up_na (by decide), hf0 542 (by decide), up_nk a]
      have h72 : ∀ k, m_up (m_up J3 572 (851 * n + 850) (aPn A : Int)) 542 59 ((n : Int) + 1) 572 k = if k = 851 * n + 850 then (aPn A : Int) else J3 572 k := fun k => by
        rw [up_na (by decide)]
        by_cases z : k = 851 * n + 850
        · rw [if_pos z, z, up_eq]
        · rw [if_neg z, up_nk z]
      show GM (m_up (m_up J3 572 (851 * n + 850) (aPn A : Int)) 542 59 ((n : Int) + 1)) _
      refine hG.all (fun c a _ _ _ _ _ _ _ b => hf c a b) (fun k hk' => hk k (by omega) (by omega)) (by rw [hk 41 (by decide) (by decide)]; exact hG.2.2.2.2.2.2.2.2.1) (MV_fr hG.2.2.2.1 (hf 561 (by decide) (by decide))) ⟨by rw [hk 40 (by decide) (by decide)]; exact h5.1, fun i hi' k hk' => by rw [hf 563 (by decide) (by decide)]; exact h5.2 i hi' k hk'⟩ ⟨?_, fun i hi' => ?_⟩
      · show m_up _ 542 59 ((n : Int) + 1) 542 59 = ((n + 1 : Nat) : Int)
        rw [up_eq]; rfl
      · have lo : ∀ k, k < 851 * n → J3 572 k = J 572 k := fun k hk' => by rw [h3.2.1 k (by omega), h1.2.1 k (by omega), up_na (by decide)]
        dsimp only
        by_cases q : i = n
        · subst q
          rw [if_pos rfl, if_pos rfl, if_pos rfl]
          refine ⟨fun k hk' => ?_, fun j hj k hk' => ?_, ?_⟩
          · rw [h72, if_neg (by omega), h3.2.1 _ (by omega), h1.1 k hk', up_na (by decide)]; exact hG.2.2.2.1 k hk'
          · rw [h72, if_neg (by omega), h3.1 (50 * j + k) (by omega), h1.2.2 563 (by decide), up_na (by decide)]; exact h5.2 j hj k hk'
          · rw [h72, if_pos rfl]
        · rw [if_neg q, if_neg q, if_neg q]
          have hi2 := h6.2 i (by omega)
          have hw := (hi.2 i (by omega)).2.1
          refine ⟨fun k hk' => ?_, fun j hj k hk' => ?_, ?_⟩
          · rw [h72, if_neg (by omega), lo _ (by omega)]; exact hi2.1 k hk'
          · rw [h72, if_neg (by omega), lo _ (by omega)]; exact hi2.2.1 j hj k hk'
          · rw [h72, if_neg (by omega), lo _ (by omega)]; exact hi2.2.2
    · show m_up (m_up J3 572 (851 * n + 850) (aPn A : Int)) 542 59 ((n : Int) + 1) c = J c
      rw [up_r (by omega), up_r (by omega), hf0 c (by omega), up_r (by omega)]
  · unfold imageA; rw [if_pos (by omega)]; exact hG.fq FQ.up0
theorem rc_restore (hG : GM J A) (bA' : ABd A) : CM X 2 273 [] J sw lg x 0 (restoreR A) cdS (restoreA A) := by
  have hi := bA'.2.2.2.2.2.2.1
  have h6 := hG.2.2.2.2.2.1
  have h5 := hG.2.2.2.2.1
  refine EE.ex (O := fun z : (Nat → Nat → Int) × Int => .inl (some (iv z.2))) (F := fun z => mj z.1 sw lg x) mt_273 (b_273_0 (by omega) ?_)
  rw [h6.1]
  refine ⟨by omega, fun c0 => ?_, fun c0 => ⟨(m_up J 542 0 0, -1), rfl, rfl, fun _ => by unfold restoreR; rw [if_pos (by omega)], (show m_up J 542 0 0 542 0 = 0 from up_eq _ _ _ _), ?_, fun c hc => up_r (show c ≠ 542 by omega)⟩⟩
  · obtain ⟨n, hn⟩ : ∃ n, aIn A = n + 1 := ⟨aIn A - 1, by omega⟩
    have hn2 := h6.2 n (by omega)
    have hw := (hi.2 n (by omega)).2.1
    rw [show (aIn A : Int) - 1 = (n : Int) by omega, show 851 * (n : Int) = ((851 * n : Nat) : Int) by omega]
    refine ex1 (e_270r (r := 561) (m := 50) c_561 (by decide) (by decide) (by decide) (by omega)) (fun J1 h1 => ?_)
    rw [show ((851 * n : Nat) : Int) + ((50 : Nat) : Int) = ((851 * n + 50 : Nat) : Int) by omega]
    refine ex1 (e_270r (r := 563) (m := 800) c_563 (by decide) (by decide) (by decide) (by omega)) (fun J3 h3 => ?_)
    rw [show (((851 * n + 50 : Nat) : Int) + ((800 : Nat) : Int)).toNat = 851 * n + 850 by omega]
    have hf0 : ∀ c, c ≠ 561 → c ≠ 563 → J3 c = m_up (m_up J 542 0 0) 542 59 (n : Int) c := fun c a b => (h3.2 c b).trans (h1.2 c a)
    have e59 : J3 542 59 = (n : Int) := by rw [hf0 542 (by decide) (by decide)]; exact up_eq _ _ _ _
    have e72 : J3 572 = J 572 := by rw [hf0 572 (by decide) (by decide), up_r (by decide), up_r (by decide)]
    rw [e59, e72, hn2.2.2]
    refine ⟨by omega, ⟨(m_up (m_up J3 542 40 (aIw A n : Int)) 542 41 0, (n : Int)), rfl, rfl, fun _ => ?_, ?_, ?_, fun c hc => ?_⟩⟩
    · show (n : Int) = _
      unfold restoreR; rw [if_neg (by omega), show aIn A - 1 = n by omega]
    · show m_up (m_up J3 542 40 (aIw A n : Int)) 542 41 0 542 0 = 0
      rw [up_nk (by decide), up_nk (by decide), hf0 542 (by decide) (by decide), up_nk (by decide)]; exact up_eq _ _ _ _
    · unfold restoreA
      rw [if_neg (by omega), show aIn A - 1 = n by omega]
      have hf : ∀ c, c ≠ 542 → c ≠ 561 → c ≠ 563 → m_up (m_up J3 542 40 (aIw A n : Int)) 542 41 0 c = J c := fun c a b d => by rw [up_r a, up_r a, hf0 c b d, up_r a, up_r a]
      have hk : ∀ k, k ≠ 0 → k ≠ 59 → k ≠ 40 → k ≠ 41 → m_up (m_up J3 542 40 (aIw A n : Int)) 542 41 0 542 k = J 542 k := fun k a b d e => by rw [up_nk e, up_nk d, hf0 542 (by decide) (by decide), up_nk b, up_nk a]
      show GM (m_up (m_up J3 542 40 (aIw A n : Int)) 542 41 0) _
      refine hG.all (fun c a b _ _ _ _ _ d _ => hf c a b d) (fun k hk' => hk k (by omega) (by omega) (by omega) (by omega)) (up_eq _ _ _ _) (fun k hk' => ?_) ⟨by rw [up_nk (by decide)]; exact up_eq _ _ _ _, fun i hi' k hk' => ?_⟩ ⟨?_, fun i hi' => ?_⟩
      · rw [up_na (by decide), up_na (by decide), h3.2 561 (by decide), h1.1 k hk', up_na (by decide), up_na (by decide)]; exact hn2.1 k hk'
      · rw [up_na (by decide), up_na (by decide), h3.1 (50 * i + k) (by omega), h1.2 572 (by decide), up_na (by decide), up_na (by decide)]; exact hn2.2.1 i hi' k hk'
      · show m_up (m_up J3 542 40 (aIw A n : Int)) 542 41 0 542 59 = _
        rw [up_nk (by decide), up_nk (by decide)]; exact e59
      · show (∀ k, k < 50 → m_up (m_up J3 542 40 (aIw A n : Int)) 542 41 0 572 _ = _) ∧ _
        rw [hf 572 (by decide) (by decide) (by decide)]; exact h6.2 i (by omega)
    · show m_up (m_up J3 542 40 (aIw A n : Int)) 542 41 0 c = J c
      rw [up_r (by omega), up_r (by omega), hf0 c (by omega) (by omega), up_r (by omega), up_r (by omega)]
  · unfold restoreA; rw [if_pos (by omega)]; exact hG.fq FQ.up0
end Im
