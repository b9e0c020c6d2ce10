/-! the book taken: both sides -/
/-- a book taken -/
def aBok (A : AT) (B : BB) : AT := (A.1, A.2.1, B, A.2.2.2.1, A.2.2.2.2.1, A.2.2.2.2.2.1, (0, aTp A), -1, aRs A, aR0 A, aR1 A)
def bokT (A : AT) (n : Int) : RS × BB := bkR (aTp A) n.toNat (vn (aV A)) 9 0 b00
def bokK (A : AT) (n : Int) : Nat := if mayT A 60 n then 0 else 2
def bokR (A : AT) (n : Int) : Int := if mayT A 60 n then (if (bokT A n).1.1.1 = 0 then ((bokT A n).2.1 : Int) else ((bokT A n).1.1.1 : Int) - 10) else 0
def bokA (A : AT) (n : Int) : AT := if mayT A 60 n then (if (bokT A n).1.1.1 = 0 then aBok A (bokT A n).2 else aRd A ((bokT A n).1.1.2 : Int)) else af A 2
theorem BBd_00 (v : Nat) : BBd v b00.1 b00.2 := ⟨show 0 ≤ 8 by decide, fun p => show (-1 : Int) ≤ -1 ∧ (-1 : Int) ≤ 99 by decide, fun p _ => rfl⟩
section Bt
variable {X : Nat × (Nat → Int32)} {J : Nat → Nat → Int} {sw : Bool × Bool × Bool} {lg : Nat → Nat → Int64} {x n a v b : Nat} {tp : Nat → Int} {A : AT}
theorem bok_b (h : ABd A) (n : Int) : ((bokT A n).1.1.1 = 0 → BBd (vn (aV A)) (bokT A n).2.1 (bokT A n).2.2) ∧ flt n.toNat (bokT A n).1 := bk_b h.1.2.2.1 9 0 b00 (Nat.zero_le _) (BBd_00 _)
theorem ABd_bok (h : ABd A) (n : Int) : ABd (bokA A n) := by
  unfold bokA
  split
  · rename_i hm
    have hb := bok_b h n
    split
    · rename_i q
      obtain ⟨b1, b2, b3, b4, b5, b6, b7, b8, b9, b10⟩ := h
      exact ⟨b1, b2, b3, hb.1 q, b5, b6, b7, ⟨Nat.zero_le _, b8.2⟩, show (-1 : Int) ≤ -1 ∧ (-1 : Int) ≤ 600 by decide, b10⟩
    · rename_i q
      have hp := (hb.2 q).2
      exact ABd_rd h (by omega)
  · exact ABd_af h 2
theorem TB_B (h : ABd A) {m n : Int} (hm : mayT A m n) (h6 : m ≤ 600) : TB n.toNat (aTp A) := ⟨by omega, h.2.2.2.2.2.2.2.1.2⟩
/-- a text taken, and all well -/
theorem GK.rd' {J' : Nat → Nat → Int} (h : GK J sw A) (bA' : ABd A) (hf : ∀ c, c ≠ 0 → c ≠ 1 → ¬ (vB sw ≤ c ∧ c ≤ vB sw + 6) → ¬ (lB sw ≤ c ∧ c ≤ lB sw + 3) → ¬ (bB sw ≤ c ∧ c ≤ bB sw + 4) → ¬ (35 ≤ c ∧ c ≤ 40) → c < 542 → J' c = J c) (h0 : ∀ k, k ≠ 1 → J' 0 k = J 0 k) (h1 : J' 0 1 = -1) (h2 : J' 1 1 = 0) : GK J' sw (aRd A (-1)) := h.rd bA' hf h0 h1 h2
theorem kc_book (hG : GK J sw A) (bA' : ABd A) {n : Int} (hn : InR n) : CK X 4 114 [iv n] J sw lg x (bokK A n) (bokR A n) (bokA A n) := by
  suffices H : ∃ z : (Nat → Nat → Int) × (Bool × Bool × Bool), EE X 4 114 [.ref 0, iv n] (mj J sw lg x) (oc (bokK A n, bokR A n)) (mj z.1 z.2 lg (xc x (bokK A n, bokR A n))) ∧ GK z.1 z.2 (bokA A n) ∧ ∀ c, 542 ≤ c → z.1 c = J c from by
    obtain ⟨z, h⟩ := H
    exact ⟨z.1, z.2, h⟩
  have ht := bA'.2.2.2.2.2.2.2.1.1
  have h7 := hG.2.2.2.2.2.2.1
  refine EE.ex (O := fun _ => oc (bokK A n, bokR A n)) (F := fun z : (Nat → Nat → Int) × (Bool × Bool × Bool) => mj z.1 z.2 lg (xc x (bokK A n, bokR A n))) mt_114 (b_114_0 (by omega) ?_)
  have no : ¬ mayT A 60 n → ∃ z : (Nat → Nat → Int) × (Bool × Bool × Bool), (.inr 2 : Option Value ⊕ Nat) = oc (bokK A n, bokR A n) ∧ mj (m_up J 0 18 (J 0 18 + 1)) sw lg (x + 1) = mj z.1 z.2 lg (xc x (bokK A n, bokR A n)) ∧ GK z.1 z.2 (bokA A n) ∧ ∀ c, 542 ≤ c → z.1 c = J c := by
    intro hm
    have e1 : bokK A n = 2 := if_neg hm
    have e2 : bokA A n = af A 2 := if_neg hm
    rw [e1, e2]
    exact ⟨(m_up J 0 18 (J 0 18 + 1), sw), rfl, rfl, hG.r2 bA', fun c hc => up_r (by omega)⟩
  have e11 := h7.1
  refine ⟨by rw [e11]; clear no; omega, hn, fun c => no (fun z => by have := z.1; clear no; omega), fun c => ⟨by rw [e11]; clear no; omega, fun c2 => ?_, fun c2 => no (fun z => by rw [e11] at c2; clear no; omega)⟩⟩
  clear no
  rw [e11] at c2
  have hm : mayT A 60 n := ⟨c, by omega, by omega⟩
  have eK : bokK A n = 0 := if_pos hm
  have eR : bokR A n = if (bokT A n).1.1.1 = 0 then ((bokT A n).2.1 : Int) else ((bokT A n).1.1.1 : Int) - 10 := if_pos hm
  have eA : bokA A n = if (bokT A n).1.1.1 = 0 then aBok A (bokT A n).2 else aRd A ((bokT A n).1.1.2 : Int) := if_pos hm
  rw [eK, eR, eA]
  have hT := tk_tx (m := n) h7 ⟨c, by omega⟩
  have ev := hG.1.1.2.2.1
  rw [ev]
  refine ex1 (e_2 (cbB sw) hT.1 (TB_B bA' hm (by decide)) bA'.1.2.2.1) (fun J1 h1 => ?_)
  change TR J1 (bokT A n).1 ∧ ((bokT A n).1.1.1 = 0 → BC J1 (bB sw) (vn (aV A)) (bokT A n).2.1 (bokT A n).2.2) ∧ _ at h1
  change InR (okI (bokT A n).1) ∧ (¬ okI (bokT A n).1 = 0 → _) ∧ (okI (bokT A n).1 = 0 → _)
  have hb := bok_b bA' n
  generalize bokT A n = R at *
  obtain ⟨t1, s1', f1⟩ := h1
  have q : (vA sw = 3 ∧ vB sw = 10) ∨ (vA sw = 10 ∧ vB sw = 3) := by unfold vA vB; split <;> simp
  have q2 : (lA sw = 17 ∧ lB sw = 21) ∨ (lA sw = 21 ∧ lB sw = 17) := by unfold lA lB; split <;> simp
  have q3 : (bA sw = 25 ∧ bB sw = 30) ∨ (bA sw = 30 ∧ bB sw = 25) := by unfold bA bB; split <;> simp
  have ec : ∀ c, c ≠ 0 → c ≠ 1 → ¬ (bB sw ≤ c ∧ c ≤ bB sw + 4) → J1 c = J c := fun c p0 p1 p2 => by rw [f1.1 c p1 p2]; exact tk_c p0 p1
  have e0 : ∀ k, k ≠ 1 → J1 0 k = J 0 k := fun k hk => by rw [f1.1 0 (by decide) (by omega)]; exact tk_0 hk
  have e1 : J1 1 1 = 0 := by rw [f1.2 1 (by decide)]; exact hT.2.1
  have e01 : J1 0 1 = -1 := by rw [f1.1 0 (by decide) (by omega)]; exact hT.2.2
  refine ⟨okI_R _, fun c3 => ?_, fun c3 => ?_⟩
  · have z := okI_1 c3
    rw [if_pos z, if_pos z]
    refine b_114_33 (b_114_51 (by omega) ?_)
    have eb : bA (s3 sw) = bB sw := by obtain ⟨a, b, c⟩ := sw; cases c <;> rfl
    rw [eb]
    have hC := s1' z
    obtain ⟨g1, g2, g3, g4, g5, g6, g7, g8⟩ := hG.rd' bA' (fun c p0 p1 _ _ p2 _ _ => ec c p0 p1 p2) e0 e01 e1
    refine ⟨(J1, s3 sw), by rw [hC.1]; rfl, rfl, ⟨g1, g2, ?_, g4, g5, g6, g7, g8⟩, fun c hc => ec c (by omega) (by omega) (by omega)⟩
    show BC J1 (bA (s3 sw)) (vn (aV A)) R.2.1 R.2.2
    rw [eb]; exact hC
  · have z := okI_0 c3
    rw [if_neg z, if_neg z, (t1.2 z).1, (t1.2 z).2]
    refine ⟨(m_up J1 0 1 (R.1.1.2 : Int), sw), rfl, rfl, ?_, fun c hc => by show m_up J1 0 1 _ c = J c; rw [up_r (by omega)]; exact ec c (by omega) (by omega) (by omega)⟩
    show GK (m_up J1 0 1 (R.1.1.2 : Int)) sw _
    refine hG.rd bA' (fun c p0 p1 _ _ p2 _ _ => by rw [up_r p0]; exact ec c p0 p1 p2) (fun k hk => by rw [up_nk hk]; exact e0 k hk) (up_eq _ _ _ _) (by rw [up_na (by decide)]; exact e1)
/-- the reference's lines -/
def FB4 (J J' : Nat → Nat → Int) : Prop := (∀ c, c ≠ 542 → c ≠ 564 → J' c = J c) ∧ ∀ k, ¬ (4 ≤ k ∧ k ≤ 6) → J' 542 k = J 542 k
theorem FB4.tr {J J1 J2 : Nat → Nat → Int} (h1 : FB4 J J1) (h2 : FB4 J1 J2) : FB4 J J2 := ⟨fun c q r => (h2.1 c q r).trans (h1.1 c q r), fun k q => (h2.2 k q).trans (h1.2 k q)⟩
theorem FY.fb4 {J J' : Nat → Nat → Int} (h : FY J J') : FB4 J J' := ⟨fun c q _ => h.1 c q, fun k q => h.2 k (by omega) (by omega) (by omega)⟩
theorem FB4.up {J : Nat → Nat → Int} {k : Nat} {w : Int} : FB4 J (m_up J 564 k w) := ⟨fun c _ q => up_r q, fun k _ => up_na (by decide)⟩
def BN (J : Nat → Nat → Int) (bk : Nat → Int) : Prop := ∀ p, p < 9 → J 564 p = bk p
theorem BN.fy {J J' : Nat → Nat → Int} {bk : Nat → Int} (h : BN J bk) (hf : FY J J') : BN J' bk := fun p hp => by rw [hf.1 564 (by decide)]; exact h p hp
theorem v_218 {x1 : Int} {K : (Option Value ⊕ Nat) → mM → Prop} {R : RS × BB} (hB : TB n tp) (hv : v ≤ 9) (h26 : J 542 26 = (v : Int)) (H : ∀ (J' : Nat → Nat → Int) (x2 : Int) (o3 o4 o5 : Option Value), MR J' R.1 → (R.1.1.1 = 0 → BN J' R.2.2 ∧ x2 = (R.2.1 : Int)) → FB4 J J' → VV X 3 218 (180, [some (.ref 542), some (iv x1), some (iv x2), o3, o4, o5], [], mj J' sw lg x) K) :
    ∀ f a (i : Nat) (bk : Nat → Int) (J' : Nat → Nat → Int) (o3 o4 o5 : Option Value), i + f = 9 → a ≤ n → BBd v i bk → bkR tp n v f a (i, bk) = R → TY J' n tp a → BN J' bk → FB4 J J' → VV X 3 218 (67, [some (.ref 542), some (iv x1), some (iv (i : Int)), o3, o4, o5], [], mj J' sw lg x) K := by
  have hn6 := hB.1
  -- where a fault stands, the line's rest does nothing
  have rest : ∀ (Q : RS) (bb : BB) (J' : Nat → Nat → Int) (x2 x3 x4 : Int) (o5 : Option Value), ¬ Q.1.1 = 0 → Q.1.2 ≤ n → R = (Q, bb) → MR J' Q → FB4 J J' → VV X 3 218 (140, [some (.ref 542), some (iv x1), some (iv x2), some (iv x3), some (iv x4), o5], [], mj J' sw lg x) K := by
    intro Q bb J' x2 x3 x4 o5 hQ hn hR hM hF
    have e5 := (hM.2 hQ).1
    refine b_218_140 (by omega) ⟨_, _, e_173f e5 ⟨by clear H; omega, by clear H; omega⟩, _, e_174f e5 ⟨by clear H; omega, by clear H; omega⟩, ?_⟩
    rw [e5]
    exact ⟨by clear H; omega, fun _ => H J' _ _ _ _ (by rw [hR]; exact hM) (fun z => by rw [hR] at z; exact absurd z hQ) hF, fun z => by clear H; omega⟩
  have rest2 : ∀ (Q : RS) (bb : BB) (J' : Nat → Nat → Int) (x2 x3 x4 : Int) (o5 : Option Value), ¬ Q.1.1 = 0 → Q.1.2 ≤ n → R = (Q, bb) → MR J' Q → FB4 J J' → VV X 3 218 (121, [some (.ref 542), some (iv x1), some (iv x2), some (iv x3), some (iv x4), o5], [], mj J' sw lg x) K := by
    intro Q bb J' x2 x3 x4 o5 hQ hn hR hM hF
    have e5 := (hM.2 hQ).1
    refine b_218_121 (by omega) ?_
    rw [e5]
    exact ⟨by clear H rest; omega, fun _ => rest Q bb J' _ _ _ _ hQ hn hR hM hF, fun z => by clear H rest; omega⟩
  intro f
  induction f with
  | zero => intro a i bk J' o3 o4 o5 hi ha bB; exact absurd bB.1 (by clear H rest rest2; omega)
  | succ f ih =>
    intro a i bk J' o3 o4 o5 hi ha bB hE hT hN hF
    have lb := ln_b (tp := tp) (B := (i, bk)) ha hv bB
    rw [bkR] at hE
    have hs : sk tp n a ≤ n := sc_ub ha
    refine b_218_67 (by omega) ?_
    rw [hT.2.2.2]
    refine ⟨by decide, fun z => absurd rfl z, fun _ => ?_⟩
    refine ex1 (e_167 hT.tz hB ha) (fun J1 h1 => ?_)
    have T1 := h1.ty hT
    have N1 := hN.fy h1.fy
    have F1 := hF.tr h1.fy.fb4
    rw [T1.1, T1.2.1]
    refine ⟨by clear H rest rest2 ih; omega, by clear H rest rest2 ih; omega, fun c => ?_, fun c => ?_⟩
    · rw [if_pos (by clear H rest rest2 ih; omega)] at hE
      refine H J1 _ _ _ _ ?_ ?_ F1
      · rw [← hE]; exact ⟨fun _ => ⟨T1.2.2.2, T1.2.1⟩, fun z => absurd rfl z⟩
      · rw [← hE]; exact fun _ => ⟨N1, rfl⟩
    · rw [if_neg (by clear H rest rest2 ih; omega)] at hE
      refine ex1 (e_167 T1.tz hB hs) (fun J2 h2 => ?_)
      rw [sk_sk] at h2
      have T2 := h2.ty T1
      have N2 := N1.fy h2.fy
      have F2 := F1.tr h2.fy.fb4
      rw [F2.2 26 (by decide), h26, T2.2.1]
      refine ex1 (e_173 T2 hB hs (by decide) (by clear H rest rest2 ih; omega)) (fun J3 h3 => ?_)
      rw [nmR_sk] at h3
      rw [nmR_sk, nmV_sk]
      obtain ⟨t3, f3, -⟩ := h3
      have N3 := N2.fy f3
      have F3 := F2.tr f3.fb4
      have fl1 := nm_f (tp := tp) (lo := 0) (hi := (v : Int) - 1) ha
      unfold lnR at hE lb
      generalize hR1 : nmR tp n a 0 ((v : Int) - 1) = R1 at *
      by_cases z1 : R1.1.1 = 0
      · rw [if_pos z1] at hE lb ⊢
        have m1 := nm_ok (tp := tp) (lo := 0) (hi := (v : Int) - 1) ha (by rw [hR1]; exact z1)
        rw [hR1] at m1
        have T3 : TY J3 n tp R1.2 := T2.fr f3 (t3.1 z1).2 (t3.1 z1).1
        obtain ⟨p, hp⟩ : ∃ p : Nat, nmV tp n a = (p : Int) := ⟨(nmV tp n a).toNat, by clear H rest rest2 ih; omega⟩
        have pv : p < v := by clear H rest rest2 ih; omega
        rw [hp] at hE lb ⊢
        rw [Int.toNat_natCast] at hE lb
        refine b_218_97 (by omega) ?_
        have e4 : J3 564 (p : Int).toNat = bk p := N3 p (by clear H rest rest2 ih; omega)
        have bp := bB.2.1 p
        rw [T3.2.2.2, e4]
        refine ⟨by decide, fun z => absurd rfl z, fun _ => ⟨by clear H rest rest2 ih; omega, by clear H rest rest2 ih; omega, fun c2 => ?_, fun c2 => ?_⟩⟩
        · rw [if_neg (show ¬ ¬ (i, bk).2 p = -1 from fun z => z c2)] at hE lb
          refine b_218_121 (by omega) ?_
          rw [T3.2.2.2]
          refine ⟨by decide, fun z => absurd rfl z, fun _ => ⟨by clear H rest rest2 ih; omega, fun c3 => ?_, fun c3 => ?_⟩⟩
          · have b1 := bB.1
            rw [if_neg (show ¬ 8 ≤ (i, bk).1 by show ¬ 8 ≤ i; clear H rest rest2 ih; omega)] at hE lb
            refine b_218_140 (by omega) ?_
            refine ex1 (e_173 T3 hB m1.1 (by decide) (by decide)) (fun J5 h5 => ?_)
            obtain ⟨t5, f5, -⟩ := h5
            have N5 := N3.fy f5
            have F5 := F3.tr f5.fb4
            have fl2 := nm_f (tp := tp) (lo := 0) (hi := 99) m1.1
            generalize hR2 : nmR tp n R1.2 0 99 = R2 at *
            by_cases z2 : R2.1.1 = 0
            · rw [if_pos z2] at hE lb ⊢
              have m2 := nm_ok (tp := tp) (lo := 0) (hi := 99) m1.1 (by rw [hR2]; exact z2)
              rw [hR2] at m2
              have T5 : TY J5 n tp R2.2 := T3.fr f5 (t5.1 z2).2 (t5.1 z2).1
              refine ex0 (e_174 T5 hB m2.1 (by decide)) (fun J7 h7 => ?_)
              have N7 := N5.fy h7.2
              have F7 := F5.tr h7.2.fb4
              have fl3 := sg_f (tp := tp) (c := 59) m2.1
              generalize hR3 : sgR tp n R2.2 59 = R3 at *
              by_cases z3 : R3.1.1 = 0
              · rw [if_pos z3] at hE
                have lb2 := lb.1 z3
                rw [(h7.1.1 z3).1]
                refine ⟨by decide, fun z => absurd rfl z, fun _ => b_218_165 (by omega) ⟨by clear H rest rest2 ih; omega, ?_⟩⟩
                refine ih _ (i + 1) _ (m_up J7 564 (p : Int).toNat (nmV tp n R1.2)) _ _ _ (by clear H rest rest2 ih; omega) lb2.1 lb2.2.2 hE ?_ ?_ (F7.tr FB4.up)
                · have T7 := T5.fr h7.2 (h7.1.1 z3).2 (h7.1.1 z3).1
                  exact ⟨by rw [up_na (by decide)]; exact T7.1, by rw [up_na (by decide)]; exact T7.2.1, fun k hk => by rw [up_na (by decide)]; exact T7.2.2.1 k hk, by rw [up_na (by decide)]; exact T7.2.2.2⟩
                · intro k hk
                  show m_up J7 564 p _ 564 k = up1 bk p _ k
                  by_cases y : k = p
                  · rw [y, up_eq, up1_eq]
                  · rw [up_nk y, up1_ne y]; exact N7 k hk
              · rw [if_neg z3] at hE
                have fb := (fl3 z3).2
                rw [(h7.1.2 z3).1]
                refine ⟨by clear H rest rest2 ih; omega, fun _ => H J7 _ _ _ _ ?_ ?_ F7, fun z => by clear H rest rest2 ih; omega⟩
                · rw [← hE]; exact h7.1
                · rw [← hE]; exact fun z => absurd z z3
            · rw [if_neg z2] at hE
              rw [if_neg z2] at hE ⊢
              have fb := (fl2 z2).2
              have e5 := (t5.2 z2).1
              refine ⟨_, e_174f e5 ⟨by clear H rest rest2 ih; omega, by clear H rest rest2 ih; omega⟩, ?_⟩
              rw [e5]
              refine ⟨by clear H rest rest2 ih; omega, fun _ => H J5 _ _ _ _ ?_ ?_ F5, fun z => by clear H rest rest2 ih; omega⟩
              · rw [← hE]; exact t5
              · rw [← hE]; exact fun z => absurd z z2
          · rw [if_pos (show 8 ≤ (i, bk).1 by show 8 ≤ i; clear H rest rest2 ih; omega), if_neg (show ¬ (3 : Nat) = 0 by decide)] at hE
            refine ex0 (e_166 T3.2.2.2) (fun J7 h7 => ?_)
            exact rest ((3, sk tp n a), 0) (i, bk) J7 _ _ _ _ (show ¬ (3 : Nat) = 0 by decide) hs hE.symm ⟨fun y => absurd (show (3 : Nat) = 0 from y) (by decide), fun _ => ⟨h7.1.1, h7.1.2⟩⟩ (F3.tr h7.2.1.fb4)
        · rw [if_pos (show ¬ (i, bk).2 p = -1 from c2), if_neg (show ¬ (2 : Nat) = 0 by decide)] at hE
          refine ex0 (e_166 T3.2.2.2) (fun J7 h7 => ?_)
          exact rest2 ((2, sk tp n a), 0) (i, bk) J7 _ _ _ _ (show ¬ (2 : Nat) = 0 by decide) hs hE.symm ⟨fun y => absurd (show (2 : Nat) = 0 from y) (by decide), fun _ => ⟨h7.1.1, h7.1.2⟩⟩ (F3.tr h7.2.1.fb4)
      · rw [if_neg z1] at hE
        rw [if_neg z1] at hE ⊢
        have fb := (fl1 z1).2
        have e5 := (t3.2 z1).1
        refine b_218_97 (by omega) ?_
        rw [e5]
        exact ⟨by clear H rest rest2 ih; omega, fun _ => rest2 R1 (i, bk) J3 _ _ _ _ z1 fb hE.symm t3 F3, fun z => by clear H rest rest2 ih; omega⟩
theorem rc_book (hG : GM J A) (bA' : ABd A) {n : Int} (hn : InR n) : CM X 3 218 [iv n] J sw lg x (bokK A n) (bokR A n) cdS (bokA A n) := by
  have ht := bA'.2.2.2.2.2.2.2.1.1
  have h7 := hG.2.2.2.2.2.2.1
  refine EE.ex (O := fun z : (Nat → Nat → Int) × Int => .inl (some (iv z.2))) (F := fun z => mj z.1 sw lg x) mt_218 (b_218_0 (by omega) ?_)
  have no : ¬ mayT A 60 n → ∃ z : (Nat → Nat → Int) × Int, (.inl (some (iv 0)) : Option Value ⊕ Nat) = .inl (some (iv z.2)) ∧ mj (m_up (m_up (m_up J 542 0 0) 542 0 1) 543 1 (J 543 1 + 1)) sw lg x = mj z.1 sw lg x ∧ (bokK A n = 0 → z.2 = bokR A n) ∧ z.1 542 0 = cdS (bokK A n) ∧ GM z.1 (bokA A n) ∧ ∀ c, c < 542 ∨ 573 ≤ c → z.1 c = J c := by
    intro hm
    have e1 : bokK A n = 2 := if_neg hm
    have e2 : bokA A n = af A 2 := if_neg hm
    rw [e1, e2]
    obtain ⟨z, h1, h2, -, h4, h5, h6⟩ := QM.r2 (sw := sw) (lg := lg) (x := x) (q := (2, 0)) (cd := cdS) (t := 1) (w := 0) hG rfl rfl
    exact ⟨z, h1, h2, fun y => absurd y (by decide), h4, h5, h6⟩
  rw [h7.1]
  refine ⟨hn, fun c => no (fun z => by have := z.1; clear no; omega), fun c => ⟨by clear no; omega, fun c2 => no (fun z => by clear no; omega), fun c2 => ⟨fun c3 => no (fun z => by clear no; omega), fun c3 => ?_⟩⟩⟩
  clear no
  have hm : mayT A 60 n := ⟨c, c3, c2⟩
  have eK : bokK A n = 0 := if_pos hm
  have eR : bokR A n = if (bokT A n).1.1.1 = 0 then ((bokT A n).2.1 : Int) else ((bokT A n).1.1.1 : Int) - 10 := if_pos hm
  have eA : bokA A n = if (bokT A n).1.1.1 = 0 then aBok A (bokT A n).2 else aRd A ((bokT A n).1.1.2 : Int) := if_pos hm
  rw [eK, eR, eA]
  have tB := TB_B bA' hm (by decide)
  have fc : ∀ c, c ≠ 542 → m_up (m_up (m_up (m_up (m_up (m_up (m_up J 542 0 0) 542 2 0) 542 8 (-1)) 542 3 n) 542 4 0) 542 5 (-1)) 542 7 0 c = J c := fun c h => by rw [up_r h, up_r h, up_r h, up_r h, up_r h, up_r h, up_r h]
  have fk : ∀ k, k ≠ 0 → k ≠ 2 → k ≠ 8 → ¬ (3 ≤ k ∧ k ≤ 7) → m_up (m_up (m_up (m_up (m_up (m_up (m_up J 542 0 0) 542 2 0) 542 8 (-1)) 542 3 n) 542 4 0) 542 5 (-1)) 542 7 0 542 k = J 542 k := fun k h1 h2 h3 h4 => by rw [up_nk (by omega), up_nk (by omega), up_nk (by omega), up_nk (by omega), up_nk (by omega), up_nk (by omega), up_nk (by omega)]
  have ff : (fun J0 : Nat → Nat → Int => J0 542 0 = 0 ∧ J0 542 2 = 0 ∧ J0 542 3 = n ∧ J0 542 4 = 0 ∧ J0 542 5 = -1) (m_up (m_up (m_up (m_up (m_up (m_up (m_up J 542 0 0) 542 2 0) 542 8 (-1)) 542 3 n) 542 4 0) 542 5 (-1)) 542 7 0) := by
    simp [m_up]
  generalize m_up (m_up (m_up (m_up (m_up (m_up (m_up J 542 0 0) 542 2 0) 542 8 (-1)) 542 3 n) 542 4 0) 542 5 (-1)) 542 7 0 = J0 at *
  obtain ⟨a0, a2, a3, a4, a5⟩ := ff
  have hb := bok_b bA' n
  refine lp (P := fun i => ∀ J' : Nat → Nat → Int, (∀ p, p < i → J' 564 p = -1) → (∀ c, c ≠ 564 → J' c = J0 c) → VV X 3 218 (46, [some (.ref 542), some (iv n), some (iv i), _, _, _], [], mj J' sw lg x) _) 9 ?_ ?_ 0 (by decide) J0 (fun p hp => absurd hp (Nat.not_lt_zero _)) (fun _ _ => rfl)
  · intro J' h64 hc
    have FJ : FB4 J0 J' := ⟨fun c _ q => hc c q, fun k _ => by rw [hc 542 (by decide)]⟩
    refine b_218_46 (by omega) ⟨by decide, fun _ => ?_, fun c => absurd c (by decide)⟩
    refine v_218 (J := J0) (n := n.toNat) (tp := aTp A) (v := vn (aV A)) (R := bokT A n) tB bA'.1.2.2.1 (by rw [fk 26 (by decide) (by decide) (by decide) (by decide)]; exact hG.1.1.2.2.1) ?_ 9 0 0 (fun _ => -1) J' _ _ _ rfl (Nat.zero_le _) (BBd_00 _) rfl ⟨by rw [hc 542 (by decide), a3]; omega, by rw [hc 542 (by decide)]; exact a4, fun k hk => by rw [hc 544 (by decide), fc 544 (by decide)]; exact h7.2 k hk, by rw [hc 542 (by decide)]; exact a5⟩ h64 FJ
    intro J1 x2 o3 o4 o5 t1 v1 f1
    generalize bokT A n = R at *
    refine b_218_180 (by omega) ?_
    have ec : ∀ c, c ≠ 542 → c ≠ 564 → J1 c = J c := fun c p1 p2 => by rw [f1.1 c p1 p2]; exact fc c p1
    by_cases z : R.1.1.1 = 0
    · have e5 := (t1.1 z).1
      obtain ⟨hN, rfl⟩ := v1 z
      rw [if_pos z, if_pos z]
      refine ex1 (e_177 (by rw [e5]; decide)) (fun J2 h2 => ?_)
      subst h2
      rw [e5, if_pos rfl, up_nk (by decide), e5]
      refine ⟨by decide, fun _ => ?_, fun y => absurd rfl y⟩
      refine ex0 (e_179 (n := 9) c_564 c_565 (by decide) (by decide) (by decide) (by decide) (by decide)) (fun J3 h3 => ?_)
      have ek : ∀ k, k ≠ 8 → k ≠ 50 → ¬ (4 ≤ k ∧ k ≤ 6) → J3 542 k = J0 542 k := fun k p1 p2 p3 => by rw [h3.2.2 542 (by decide), up_nk p2, up_nk p1]; exact f1.2 k p3
      have ec3 : ∀ c, c ≠ 542 → c ≠ 564 → c ≠ 565 → J3 c = J c := fun c p1 p2 p3 => by rw [h3.2.2 c p3, up_r p1, up_r p1]; exact ec c p1 p2
      have e50 : J3 542 50 = (R.2.1 : Int) := by rw [h3.2.2 542 (by decide)]; exact up_eq _ _ _ _
      refine ⟨(J3, (R.2.1 : Int)), rfl, rfl, fun _ => rfl, by show J3 542 0 = 0; rw [ek 0 (by decide) (by decide) (by decide)]; exact a0, ?_, fun c hc => ec3 c (by omega) (by omega) (by omega)⟩
      show GM J3 (aBok A R.2)
      obtain ⟨g1, g2, g3, g4, g5, g6, g7, g8⟩ := hG
      have hk : ∀ k, k ≠ 0 → k ≠ 2 → k ≠ 8 → k ≠ 50 → ¬ (3 ≤ k ∧ k ≤ 7) → J3 542 k = J 542 k := fun k p0 p1 p2 p3 p4 => by rw [ek k p2 p3 (by omega)]; exact fk k p0 p1 p2 p4
      obtain ⟨k1, k2, k3, k4, k5, k6, k7, k8⟩ := g1.1
      refine ⟨⟨⟨?_, ?_, ?_, ?_, ?_, fun k q => ?_, fun k q => ?_, fun k q => ?_⟩, fun p hp => ?_⟩, LM_cf g2 (hk 35 (by decide) (by decide) (by decide) (by decide) (by decide)) (ec3 _ (by decide) (by decide) (by decide)) (ec3 _ (by decide) (by decide) (by decide)), ⟨e50, fun p hp => ?_⟩, MV_fr g4 (ec3 _ (by decide) (by decide) (by decide)), ?_, ?_, ⟨?_, fun k hk' => ?_⟩, ?_, ?_, ?_⟩
      · rw [hk 24 (by decide) (by decide) (by decide) (by decide) (by decide)]; exact k1
      · rw [hk 25 (by decide) (by decide) (by decide) (by decide) (by decide)]; exact k2
      · rw [hk 26 (by decide) (by decide) (by decide) (by decide) (by decide)]; exact k3
      · rw [hk 27 (by decide) (by decide) (by decide) (by decide) (by decide)]; exact k4
      · rw [hk 28 (by decide) (by decide) (by decide) (by decide) (by decide)]; exact k5
      · rw [ec3 549 (by decide) (by decide) (by decide)]; exact k6 k q
      · rw [ec3 550 (by decide) (by decide) (by decide)]; exact k7 k q
      · rw [ec3 552 (by decide) (by decide) (by decide)]; exact k8 k q
      · rw [ec3 551 (by decide) (by decide) (by decide)]; exact g1.2 p hp
      · rw [h3.1 p hp, up_na (by decide), up_na (by decide)]; exact hN p hp
      · unfold MP; rw [ec3 563 (by decide) (by decide) (by decide), hk 40 (by decide) (by decide) (by decide) (by decide) (by decide)]; exact g5
      · unfold MI; rw [ec3 572 (by decide) (by decide) (by decide), hk 59 (by decide) (by decide) (by decide) (by decide) (by decide)]; exact g6
      · show J3 542 2 = 0
        rw [ek 2 (by decide) (by decide) (by decide)]; exact a2
      · rw [ec3 544 (by decide) (by decide) (by decide)]; exact g7.2 k hk'
      · show J3 542 8 = -1
        rw [h3.2.2 542 (by decide), up_nk (by decide)]; exact up_eq _ _ _ _
      · rw [hk 41 (by decide) (by decide) (by decide) (by decide) (by decide)]; exact g8.2.1
      · rw [ec3 543 (by decide) (by decide) (by decide)]; exact g8.2.2
    · have e5 := (t1.2 z).1
      have fb := hb.2 z
      rw [if_neg z, if_neg z]
      refine ex1 (e_177 (by rw [e5]; omega)) (fun J2 h2 => ?_)
      subst h2
      rw [e5, if_neg (by omega), up_nk (by decide), e5]
      refine ⟨by omega, fun y => by omega, fun _ => ?_⟩
      rw [(t1.2 z).2]
      have ek : ∀ k, k ≠ 8 → ¬ (4 ≤ k ∧ k ≤ 6) → m_up J1 542 8 (R.1.1.2 : Int) 542 k = J0 542 k := fun k p1 p2 => by rw [up_nk p1]; exact f1.2 k p2
      refine ⟨(m_up J1 542 8 (R.1.1.2 : Int), (R.1.1.1 : Int) - 10), rfl, rfl, fun _ => rfl, ?_, ?_, fun c hc => by show m_up J1 542 8 _ c = J c; rw [up_r (by omega)]; exact ec c (by omega) (by omega)⟩
      · show m_up J1 542 8 (R.1.1.2 : Int) 542 0 = 0
        rw [ek 0 (by decide) (by decide)]; exact a0
      · show GM (m_up J1 542 8 (R.1.1.2 : Int)) _
        refine hG.rd (fun c hc => by rw [up_r (by unfold gmc at hc; omega)]; exact ec c (by unfold gmc at hc; omega) (by unfold gmc at hc; omega)) (fun k hk => ?_) ?_ (up_eq _ _ _ _)
        · rw [ek k (by omega) (by omega)]; exact fk k (by omega) (by omega) (by omega) (by omega)
        · rw [ek 2 (by decide) (by decide)]; exact a2
  · intro i hi ih J' h64 hc
    refine b_218_46 (by omega) ⟨by omega, fun c => by omega, fun _ => ⟨by omega, ih _ (fun k hk => ?_) (fun c q => by rw [up_r q]; exact hc c q)⟩⟩
    rw [Int.toNat_natCast]
    by_cases y : k = i
    · rw [y, up_eq]
    · rw [up_nk y]; exact h64 k (by omega)
end Bt
