/-! calls that change: feed, undo, image, restore -/
/-- the class's call: kind, answer, what it holds then -/
def CK (X : Nat × (Nat → Int32)) (d y : Nat) (As : List Value) (J : Nat → Nat → Int) (sw : Bool × Bool × Bool) (lg : Nat → Nat → Int64) (x : Nat) (k : Nat) (r : Int) (A' : AT) : Prop := ∃ z sw', EE X d y (.ref 0 :: As) (mj J sw lg x) (oc (k, r)) (mj z sw' lg (xc x (k, r))) ∧ GK z sw' A' ∧ ∀ c, 542 ≤ c → z c = J c
def CM (X : Nat × (Nat → Int32)) (d y : Nat) (As : List Value) (J : Nat → Nat → Int) (sw : Bool × Bool × Bool) (lg : Nat → Nat → Int64) (x : Nat) (k : Nat) (r : Int) (cd : Nat → Int) (A' : AT) : Prop := ∃ z : (Nat → Nat → Int) × Int, EE X d y (.ref 542 :: As) (mj J sw lg x) (.inl (some (iv z.2))) (mj z.1 sw lg x) ∧ (k = 0 → z.2 = r) ∧ z.1 542 0 = cd k ∧ GM z.1 A' ∧ ∀ c, c < 542 ∨ 573 ≤ c → z.1 c = J c
theorem AK.ck {X : Nat × (Nat → Int32)} {d y : Nat} {As : List Value} {J : Nat → Nat → Int} {sw : Bool × Bool × Bool} {lg : Nat → Nat → Int64} {x : Nat} {A : AT} {q : Nat × Int} (h : AK X d y As J sw lg x A q) : CK X d y As J sw lg x q.1 q.2 (af A q.1) := by
  obtain ⟨z, h1, h2, h3⟩ := h
  exact ⟨z, sw, h1, h2, h3⟩
theorem AM.cm {X : Nat × (Nat → Int32)} {d y : Nat} {As : List Value} {J : Nat → Nat → Int} {sw : Bool × Bool × Bool} {lg : Nat → Nat → Int64} {x : Nat} {A : AT} {q : Nat × Int} {cd : Nat → Int} (h : AM X d y As J sw lg x A q cd) : CM X d y As J sw lg x q.1 q.2 cd (af A q.1) := h
section Ch
variable {X : Nat × (Nat → Int32)} {J : Nat → Nat → Int} {sw : Bool × Bool × Bool} {lg : Nat → Nat → Int64} {x : Nat} {A : AT}
theorem and_8 (z : Int) : 0 ≤ bAnd z 255 ∧ bAnd z 255 ≤ 255 := by
  unfold bAnd
  have h : (Int32.ofInt z &&& Int32.ofInt 255) = nI ((Int32.ofInt z).toBitVec.toNat &&& 255) := by
    apply bt_ext
    intro i hi
    unfold bt
    rw [Int32.toBitVec_and, BitVec.getLsbD_and]
    show ((Int32.ofInt z).toBitVec.getLsbD i && bt (nI 255) i) = bt (nI _) i
    rw [bt_nI, bt_nI, Nat.testBit_and]
    simp only [hi, decide_true, Bool.true_and]
    rw [BitVec.testBit_toNat]
  have h2 : (Int32.ofInt z).toBitVec.toNat &&& 255 ≤ 255 := Nat.and_le_right
  rw [h, nI_toI (by omega)]
  omega
def byt (v : Int) (i : Nat) : Int := bAnd (bShr v (24 - 8 * (i : Int))) 255
def pck (a b c d e : Int) (i : Nat) : Int := if i = 0 then a else if i = 1 then b else if i = 2 then c else if i = 3 then d else e
def fdA (tp : Nat → Int) (n : Nat) (a b c d e : Int) (m : Nat) : Nat → Int := fun k => if n ≤ k ∧ k < n + m then byt (pck a b c d e ((k - n) / 4)) ((k - n) % 4) else tp k
/-- the tape's four bytes more -/
def PutT (J J' : Nat → Nat → Int) (m : Nat) (v : Int) : Prop := J' 1 1 = ((m + 4 : Nat) : Int) ∧ (∀ k, J' 2 k = if m ≤ k ∧ k < m + 4 then byt v (k - m) else J 2 k) ∧ ∀ c, c ≠ 1 → c ≠ 2 → J' c = J c
theorem e_82 {m : Nat} {v : Int} (hm : J 1 1 = (m : Int)) (h6 : m + 4 ≤ 600) : ∃ J', EE X 0 82 [.ref 1, iv v] (mj J sw lg x) (.inl none) (mj J' sw lg x) ∧ PutT J J' m v := by
  refine EE.ex (O := fun _ => .inl none) (F := fun J' => mj J' sw lg x) mt_82 (b_82_0 ?_)
  refine lp (P := fun i => ∀ (J' : Nat → Nat → Int) (s : Int), s = 24 - 8 * (i : Int) → J' 1 1 = ((m + i : Nat) : Int) → (∀ k, J' 2 k = if m ≤ k ∧ k < m + i then byt v (k - m) else J 2 k) → (∀ c, c ≠ 1 → c ≠ 2 → J' c = J c) → VV X 0 82 (3, [some (.ref 1), some (iv v), some (iv s)], [], mj J' sw lg x) (fun o M => ∃ z, o = .inl none ∧ M = mj z sw lg x ∧ PutT J z m v)) 4 ?_ ?_ 0 (by decide) J 24 rfl hm (fun k => by rw [if_neg (by omega)]) (fun _ _ _ => rfl)
  · intro J' s hs h1 h2 hf
    exact b_82_3 ⟨by omega, fun _ => ⟨J', rfl, rfl, h1, h2, hf⟩, fun c => by omega⟩
  · intro i hi ih J' s hs h1 h2 hf
    refine b_82_3 ?_
    rw [h1, Int.toNat_natCast]
    refine ⟨by omega, fun c => by omega, fun _ => ⟨by omega, fun c => by omega, fun _ => ⟨by omega, ?_⟩⟩⟩
    refine ih _ _ (by omega) (by rw [up_eq]; omega) (fun k => ?_) (fun c q1 q2 => by rw [up_r q1, up_r q2]; exact hf c q1 q2)
    rw [up_na (by decide)]
    by_cases q : k = m + i
    · subst q
      rw [up_eq, if_pos (by omega), show m + i - m = i by omega, hs]; rfl
    · rw [up_nk q, h2 k]
      by_cases z : m ≤ k ∧ k < m + i
      · rw [if_pos z, if_pos (by omega)]
      · rw [if_neg z, if_neg (by omega)]
/-- with another tape -/
def aTape (A : AT) (n : Nat) (tp : Nat → Int) : AT := (A.1, A.2.1, A.2.2.1, A.2.2.2.1, A.2.2.2.2.1, A.2.2.2.2.2.1, (n, tp), A.2.2.2.2.2.2.2)
theorem GK.tape {J' : Nat → Nat → Int} {n : Nat} {tp : Nat → Int} (h : GK J sw A) (bA' : ABd A) (hf : ∀ c, c ≠ 1 → c ≠ 2 → J' c = J c) (h1 : J' 1 1 = (n : Int)) (h2 : ∀ k, k < 600 → J' 2 k = tp k) : GK J' sw (aTape A n tp) := by
  have q1 := vA_or sw
  have q2 := lA_or sw
  have q3 := bA_or sw
  obtain ⟨g1, g2, g3, g4, g5, g6, g7, g8⟩ := h
  have b2 := bA'.2.2.2.2.2.2.1
  exact ⟨KV_cg g1 (fun c _ _ => hf c (by omega) (by omega)), LK_cg g2 (hf _ (by omega) (by omega)) (hf _ (by omega) (by omega)), BC_fr g3 (fun k _ => by rw [hf _ (by omega) (by omega)]) (hf _ (by omega) (by omega)) (hf _ (by omega) (by omega)), SV_fr g4 (fun c _ _ => hf c (by omega) (by omega)), KP_cg bA'.2.2.2.2.2.1.1 g5 (hf _ (by omega) (by omega)) (fun c _ _ => hf c (by omega) (by omega)), KI_cg b2.1 (fun i hi => (b2.2 i hi).2.1) g6 (hf _ (by omega) (by omega)) (fun c _ _ => hf c (by omega) (by omega)), ⟨h1, h2⟩, KZ_cg g8 (hf _ (by omega) (by omega))⟩
def feedA (A : AT) (a b c d e : Int) : AT := if aTn A + 20 ≤ 600 then aTape A (aTn A + 20) (fdA (aTp A) (aTn A) a b c d e 20) else A
def feedR (A : AT) : Int := if aTn A + 20 ≤ 600 then ((aTn A + 20 : Nat) : Int) else -1
theorem fdA_s {tp tp' : Nat → Int} {n m : Nat} {a b c d e v : Int} (h : ∀ k, tp' k = if n + m ≤ k ∧ k < n + m + 4 then byt v (k - (n + m)) else fdA tp n a b c d e m k) (hm : m % 4 = 0) (hv : v = pck a b c d e (m / 4)) : ∀ k, tp' k = fdA tp n a b c d e (m + 4) k := by
  intro k
  rw [h k]
  unfold fdA
  by_cases q : n + m ≤ k ∧ k < n + m + 4
  · rw [if_pos q, if_pos (by omega), hv, show (k - n) / 4 = m / 4 by omega, show (k - n) % 4 = k - (n + m) by omega]
  · rw [if_neg q]
    by_cases z : n ≤ k ∧ k < n + m
    · rw [if_pos z, if_pos (by omega)]
    · rw [if_neg z, if_neg (by omega)]
theorem kc_feed (hG : GK J sw A) (bA' : ABd A) {a b c d e : Int} : CK X 1 110 [iv a, iv b, iv c, iv d, iv e] J sw lg x 0 (feedR A) (feedA A a b c d e) := by
  have ht := bA'.2.2.2.2.2.2.2.1.1
  have h7 := hG.2.2.2.2.2.2.1
  suffices H : ∃ z, EE X 1 110 [.ref 0, iv a, iv b, iv c, iv d, iv e] (mj J sw lg x) (.inl (some (iv (feedR A)))) (mj z sw lg x) ∧ GK z sw (feedA A a b c d e) ∧ ∀ c, 542 ≤ c → z c = J c from by
    obtain ⟨z, h1, h2, h3⟩ := H
    exact ⟨z, sw, h1, h2, h3⟩
  refine EE.ex (O := fun _ => .inl (some (iv (feedR A)))) (F := fun z => mj z sw lg x) mt_110 (b_110_0 (by omega) ?_)
  rw [h7.1]
  refine ⟨by omega, fun c0 => ?_, fun c0 => ⟨J, ?_, rfl, ?_, fun _ _ => rfl⟩⟩
  · have f0 : ∀ k, J 2 k = fdA (J 2) (aTn A) a b c d e 0 k := fun k => by unfold fdA; rw [if_neg (by omega)]
    refine ex0 (e_82 (m := aTn A) h7.1 (by omega)) (fun J1 h1 => ?_)
    have g1 := fdA_s (tp := J 2) (tp' := J1 2) (n := aTn A) (a := a) (b := b) (c := c) (d := d) (e := e) (m := 0) (fun k => by rw [← f0 k]; exact h1.2.1 k) rfl rfl
    refine ex0 (e_82 (m := aTn A + 4) h1.1 (by omega)) (fun J2 h2 => ?_)
    have g2 := fdA_s (tp := J 2) (tp' := J2 2) (n := aTn A) (a := a) (b := b) (c := c) (d := d) (e := e) (m := 4) (fun k => by rw [← g1 k]; exact h2.2.1 k) rfl rfl
    refine ex0 (e_82 (m := aTn A + 8) h2.1 (by omega)) (fun J3 h3 => ?_)
    have g3 := fdA_s (tp := J 2) (tp' := J3 2) (n := aTn A) (a := a) (b := b) (c := c) (d := d) (e := e) (m := 8) (fun k => by rw [← g2 k]; exact h3.2.1 k) rfl rfl
    refine ex0 (e_82 (m := aTn A + 12) h3.1 (by omega)) (fun J4 h4 => ?_)
    have g4 := fdA_s (tp := J 2) (tp' := J4 2) (n := aTn A) (a := a) (b := b) (c := c) (d := d) (e := e) (m := 12) (fun k => by rw [← g3 k]; exact h4.2.1 k) rfl rfl
    refine ex0 (e_82 (m := aTn A + 16) h4.1 (by omega)) (fun J5 h5 => ?_)
    have g5 := fdA_s (tp := J 2) (tp' := J5 2) (n := aTn A) (a := a) (b := b) (c := c) (d := d) (e := e) (m := 16) (fun k => by rw [← g4 k]; exact h5.2.1 k) rfl rfl
    have hf : ∀ c, c ≠ 1 → c ≠ 2 → J5 c = J c := fun c q1 q2 => (h5.2.2 c q1 q2).trans ((h4.2.2 c q1 q2).trans ((h3.2.2 c q1 q2).trans ((h2.2.2 c q1 q2).trans (h1.2.2 c q1 q2))))
    refine ⟨J5, ?_, rfl, ?_, fun c hc => hf c (by omega) (by omega)⟩
    · rw [h5.1]; unfold feedR; rw [if_pos (by omega)]
    · unfold feedA
      rw [if_pos (by omega)]
      refine hG.tape bA' hf h5.1 (fun k hk => ?_)
      rw [g5 k]
      unfold fdA
      split
      · rfl
      · exact h7.2 k hk
  · unfold feedR; rw [if_neg (by omega)]
  · unfold feedA; rw [if_neg (by omega)]; exact hG
theorem GM.tape {J' : Nat → Nat → Int} {n : Nat} {tp : Nat → Int} (h : GM J A) (hf : ∀ c, c ≠ 542 → c ≠ 544 → J' c = J c) (hk : ∀ k, k ≠ 0 → k ≠ 2 → J' 542 k = J 542 k) (h1 : J' 542 2 = (n : Int)) (h2 : ∀ k, k < 600 → J' 544 k = tp k) : GM J' (aTape A n tp) := by
  obtain ⟨g1, g2, g3, g4, g5, g6, g7, g8⟩ := h
  obtain ⟨k1, k2, k3, k4, k5, k6, k7, k8⟩ := g1.1
  refine ⟨⟨⟨?_, ?_, ?_, ?_, ?_, fun k q => ?_, fun k q => ?_, fun k q => ?_⟩, fun p hp => by rw [hf 551 (by decide) (by decide)]; exact g1.2 p hp⟩, LM_cf g2 (hk 35 (by decide) (by decide)) (hf _ (by decide) (by decide)) (hf _ (by decide) (by decide)), BM_cg g3 (hk 50 (by decide) (by decide)) (hf _ (by decide) (by decide)), MV_fr g4 (hf _ (by decide) (by decide)), ?_, ?_, ⟨h1, h2⟩, ?_⟩
  · rw [hk 24 (by decide) (by decide)]; exact k1
  · rw [hk 25 (by decide) (by decide)]; exact k2
  · rw [hk 26 (by decide) (by decide)]; exact k3
  · rw [hk 27 (by decide) (by decide)]; exact k4
  · rw [hk 28 (by decide) (by decide)]; exact k5
  · rw [hf 549 (by decide) (by decide)]; exact k6 k q
  · rw [hf 550 (by decide) (by decide)]; exact k7 k q
  · rw [hf 552 (by decide) (by decide)]; exact k8 k q
  · unfold MP; rw [hf 563 (by decide) (by decide), hk 40 (by decide) (by decide)]; exact g5
  · unfold MI; rw [hf 572 (by decide) (by decide), hk 59 (by decide) (by decide)]; exact g6
  · unfold MZ; rw [hf 543 (by decide) (by decide), hk 8 (by decide) (by decide), hk 41 (by decide) (by decide)]; exact g8
theorem rc_feed (hG : GM J A) (bA' : ABd A) {a b c d e : Int} : CM X 0 164 [iv a, iv b, iv c, iv d, iv e] J sw lg x 0 (feedR A) cdS (feedA A a b c d e) := by
  have ht := bA'.2.2.2.2.2.2.2.1.1
  have h7 := hG.2.2.2.2.2.2.1
  refine EE.ex (O := fun z : (Nat → Nat → Int) × Int => .inl (some (iv z.2))) (F := fun z => mj z.1 sw lg x) mt_164 (b_164_0 ?_)
  rw [h7.1]
  refine ⟨by omega, fun c0 => ?_, fun c0 => ⟨(m_up J 542 0 0, -1), rfl, rfl, fun _ => by unfold feedR; rw [if_neg (by omega)], (show m_up J 542 0 0 542 0 = 0 from up_eq _ _ _ _), ?_, fun c hc => up_r (show c ≠ 542 by omega)⟩⟩
  · refine lp (P := fun i => ∀ (J' : Nat → Nat → Int) (o7 : Option Value), J' 542 2 = ((aTn A + i : Nat) : Int) → (∀ k, k < 600 → J' 544 k = fdA (aTp A) (aTn A) a b c d e i k) → (∀ c, c ≠ 542 → c ≠ 544 → J' c = J c) → (∀ k, k ≠ 0 → k ≠ 2 → J' 542 k = J 542 k) → J' 542 0 = 0 → VV X 0 164 (23, [some (.ref 542), some (iv a), some (iv b), some (iv c), some (iv d), some (iv e), some (iv i), o7], [], mj J' sw lg x) _) 20 ?_ ?_ 0 (Nat.zero_le _) _ _ ?_ ?_ ?_ ?_ ?_
    · intro J' o7 h1 h2 hf hk h0
      refine b_164_23 ⟨by decide, fun _ => ⟨(J', J' 542 2), rfl, rfl, fun _ => ?_, h0, ?_, fun c hc => hf c (by omega) (by omega)⟩, fun c => absurd c (by decide)⟩
      · show J' 542 2 = _
        rw [h1]; unfold feedR; rw [if_pos (by omega)]
      · unfold feedA; rw [if_pos (by omega)]; exact hG.tape hf hk h1 h2
    · intro i hi ih J' o7 h1 h2 hf hk h0
      have dr : bRem (i : Int) 4 = ((i % 4 : Nat) : Int) := by rw [q_remI (by omega) (by omega) (by decide) (by decide)]; omega
      have step : ∀ (v : Int) (o7 : Option Value), v = pck a b c d e (i / 4) → VV X 0 164 (23, [some (.ref 542), some (iv a), some (iv b), some (iv c), some (iv d), some (iv e), some (iv ((i : Int) + 1)), o7], [], mj (m_up (m_up J' 544 (aTn A + i) (bAnd (bShr v (24 - 8 * ((i % 4 : Nat) : Int))) 255)) 542 2 (((aTn A + i : Nat) : Int) + 1)) sw lg x) (fun o M1 => ∃ z : (Nat → Nat → Int) × Int, o = .inl (some (iv z.2)) ∧ M1 = mj z.1 sw lg x ∧ (0 = 0 → z.2 = feedR A) ∧ z.1 542 0 = cdS 0 ∧ GM z.1 (feedA A a b c d e) ∧ ∀ c, c < 542 ∨ 573 ≤ c → z.1 c = J c) := by
        intro v o7 hv
        refine ih _ _ (by rw [up_eq]; omega) (fun k hk' => ?_) (fun c q1 q2 => by rw [up_r q1, up_r q2]; exact hf c q1 q2) (fun k q1 q2 => by rw [up_nk q2, up_na (by decide)]; exact hk k q1 q2) (by rw [up_nk (by decide), up_na (by decide)]; exact h0)
        rw [up_na (by decide)]
        by_cases q : k = aTn A + i
        · subst q
          rw [up_eq]
          unfold fdA
          rw [if_pos (by omega), hv, show aTn A + i - aTn A = i by omega]; rfl
        · rw [up_nk q, h2 k hk']
          unfold fdA
          by_cases z : aTn A ≤ k ∧ k < aTn A + i
          · rw [if_pos z, if_pos (by omega)]
          · rw [if_neg z, if_neg (by omega)]
      refine b_164_23 ?_
      rw [h1, Int.toNat_natCast, dr]
      refine ⟨by omega, fun c => by omega, fun _ => ⟨fun c1 => ⟨fun c2 => ⟨fun c3 => ⟨fun c4 => ⟨by omega, step _ _ ?_⟩, fun c4 => ⟨by omega, step _ _ ?_⟩⟩, fun c3 => ⟨by omega, step _ _ ?_⟩⟩, fun c2 => ⟨by omega, step _ _ ?_⟩⟩, fun c1 => ⟨by omega, step _ _ ?_⟩⟩⟩
      · unfold pck; rw [if_neg (by omega), if_neg (by omega), if_neg (by omega), if_neg (by omega)]
      · unfold pck; rw [if_neg (by omega), if_neg (by omega), if_neg (by omega), if_pos (by omega)]
      · unfold pck; rw [if_neg (by omega), if_neg (by omega), if_pos (by omega)]
      · unfold pck; rw [if_neg (by omega), if_pos (by omega)]
      · unfold pck; rw [if_pos (by omega)]
    · rw [up_nk (by decide)]; exact h7.1
    · intro k hk'
      rw [up_na (by decide), h7.2 k hk']
      unfold fdA
      rw [if_neg (by omega)]
    · intro c q1 q2; exact up_r q1
    · intro k q1 q2; exact up_nk q1
    · exact up_eq _ _ _ _
  · unfold feedA; rw [if_neg (by omega)]; exact hG.fq FQ.up0
theorem ABd_feed {a b c d e : Int} (bA' : ABd A) : ABd (feedA A a b c d e) := by
  unfold feedA
  split
  · obtain ⟨b1, b2, b3, b4, b5, b6, b7, b8, b9⟩ := bA'
    refine ⟨b1, b2, b3, b4, b5, b6, b7, ⟨by assumption, fun k => ?_⟩, b9⟩
    show 0 ≤ fdA (aTp A) (aTn A) a b c d e 20 k ∧ fdA (aTp A) (aTn A) a b c d e 20 k ≤ 255
    unfold fdA
    split
    · exact and_8 _
    · exact b8.2 k
  · exact bA'
end Ch
