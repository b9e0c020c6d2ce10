/-! the book read -/
abbrev BB : Type := Nat × (Nat → Int)
def lnR (tp : Nat → Int) (n v a : Nat) (B : BB) : RS × BB :=
  if (nmR tp n a 0 ((v : Int) - 1)).1.1 = 0 then
    (if ¬ B.2 (nmV tp n a).toNat = -1 then (((2, sk tp n a), 0), B)
     else if 8 ≤ B.1 then (((3, sk tp n a), 0), B)
     else if (nmR tp n (nmR tp n a 0 ((v : Int) - 1)).2 0 99).1.1 = 0 then
       (sgR tp n (nmR tp n (nmR tp n a 0 ((v : Int) - 1)).2 0 99).2 59, (B.1 + 1, up1 B.2 (nmV tp n a).toNat (nmV tp n (nmR tp n a 0 ((v : Int) - 1)).2)))
     else (nmR tp n (nmR tp n a 0 ((v : Int) - 1)).2 0 99, B))
  else (nmR tp n a 0 ((v : Int) - 1), B)
def bkR (tp : Nat → Int) (n v : Nat) : Nat → Nat → BB → RS × BB
  | 0, a, B => (((0, 0), a), B)
  | f + 1, a, B =>
    if n ≤ sk tp n a then (((0, 0), sk tp n a), B)
    else if (lnR tp n v a B).1.1.1 = 0 then bkR tp n v f (lnR tp n v a B).1.2 (lnR tp n v a B).2
    else lnR tp n v a B
section Bp
variable {tp : Nat → Int} {n a v : Nat} {B : BB}
theorem lnR_sk : lnR tp n v (sk tp n a) B = lnR tp n v a B := by unfold lnR; rw [nmR_sk, nmV_sk, sk_sk]
theorem ln_b (ha : a ≤ n) (hv : v ≤ 9) (bB : BBd v B.1 B.2) : ((lnR tp n v a B).1.1.1 = 0 → (lnR tp n v a B).1.2 ≤ n ∧ (lnR tp n v a B).2.1 = B.1 + 1 ∧ BBd v (lnR tp n v a B).2.1 (lnR tp n v a B).2.2) ∧ flt n (lnR tp n v a B).1 := by
  have hs : sk tp n a ≤ n := sc_ub ha
  unfold lnR
  by_cases q1 : (nmR tp n a 0 ((v : Int) - 1)).1.1 = 0
  · rw [if_pos q1]
    have m1 := nm_ok ha q1
    by_cases q2 : ¬ B.2 (nmV tp n a).toNat = -1
    · rw [if_pos q2]
      exact ⟨fun z => absurd (show (2 : Nat) = 0 from z) (by decide), fun _ => ⟨show 1 ≤ 2 ∧ 2 ≤ 3 by decide, hs⟩⟩
    · rw [if_neg q2]
      by_cases q3 : 8 ≤ B.1
      · rw [if_pos q3]
        exact ⟨fun z => absurd (show (3 : Nat) = 0 from z) (by decide), fun _ => ⟨show 1 ≤ 3 ∧ 3 ≤ 3 by decide, hs⟩⟩
      · rw [if_neg q3]
        by_cases q4 : (nmR tp n (nmR tp n a 0 ((v : Int) - 1)).2 0 99).1.1 = 0
        · rw [if_pos q4]
          have m2 := nm_ok m1.1 q4
          refine ⟨fun z => ⟨(sg_ok m2.1 z).1, rfl, ?_, fun p => ?_, fun p hp => ?_⟩, sg_f m2.1⟩
          · show B.1 + 1 ≤ 8; omega
          · show -1 ≤ up1 B.2 (nmV tp n a).toNat _ p ∧ up1 B.2 (nmV tp n a).toNat _ p ≤ 99
            by_cases y : p = (nmV tp n a).toNat
            · rw [y, up1_eq]; omega
            · rw [up1_ne y]; exact bB.2.1 p
          · show up1 B.2 (nmV tp n a).toNat _ p = -1
            rw [up1_ne (by omega)]; exact bB.2.2 p hp
        · rw [if_neg q4]
          exact ⟨fun z => absurd z q4, nm_f m1.1⟩
  · rw [if_neg q1]
    exact ⟨fun z => absurd z q1, nm_f ha⟩
theorem bk_b (hv : v ≤ 9) : ∀ f a B, a ≤ n → BBd v B.1 B.2 → ((bkR tp n v f a B).1.1.1 = 0 → BBd v (bkR tp n v f a B).2.1 (bkR tp n v f a B).2.2) ∧ flt n (bkR tp n v f a B).1
  | 0, a, B, _, bB => ⟨fun _ => bB, fun z => absurd rfl z⟩
  | f + 1, a, B, ha, bB => by
    have lb := ln_b (tp := tp) ha hv bB
    rw [bkR]
    split
    · exact ⟨fun _ => bB, fun z => absurd rfl z⟩
    · split
      · rename_i q
        exact bk_b hv f _ _ (lb.1 q).1 (lb.1 q).2.2
      · rename_i q
        exact ⟨fun z => absurd z q, lb.2⟩
end Bp
def FBk (b : Nat) (J J' : Nat → Nat → Int) : Prop := (∀ c, c ≠ 1 → ¬ (b ≤ c ∧ c ≤ b + 4) → J' c = J c) ∧ ∀ k, k < 3 → J' 1 k = J 1 k
theorem FX.fbk {b : Nat} {J J' : Nat → Nat → Int} (h : FX J J') : FBk b J J' := ⟨fun c q _ => h.1 c q, h.2⟩
theorem FBk.tr {v : Nat} {J J1 J2 : Nat → Nat → Int} (h1 : FBk v J J1) (h2 : FBk v J1 J2) : FBk v J J2 := ⟨fun c q r => (h2.1 c q r).trans (h1.1 c q r), fun k q => (h2.2 k q).trans (h1.2 k q)⟩
theorem FBk.up {v c k : Nat} {w : Int} {J : Nat → Nat → Int} (hc : v ≤ c ∧ c ≤ v + 4) (hv : 3 ≤ v) : FBk v J (m_up J c k w) := ⟨fun i a b => up_r (by intro z; subst z; exact b hc), fun i _ => up_na (by omega)⟩
theorem FBk.tx {v n a b : Nat} {J J' : Nat → Nat → Int} {tp : Nat → Int} (hv : 3 ≤ v) (h : FBk v J J') (hT : TX J n tp a) (h3 : J' 1 3 = (b : Int)) : TX J' n tp b := ⟨by rw [h.2 2 (by decide)]; exact hT.1, h3, fun k hk => by rw [h.1 2 (by decide) (by omega)]; exact hT.2.2 k hk⟩
theorem BC.fx {J J' : Nat → Nat → Int} {b n bn : Nat} {bk : Nat → Int} (h : BC J b n bn bk) (hb : 3 ≤ b) (hf : FX J J') : BC J' b n bn bk := BC_fr h (fun k _ => by rw [hf.1 b (by omega)]) (hf.1 _ (by omega)) (hf.1 _ (by omega))
/-- a line more in the class's book -/
theorem BC.add {J : Nat → Nat → Int} {b n bn p : Nat} {bk : Nat → Int} {w : Int} (h : BC J b n bn bk) (hp : p < n) (hn : n ≤ 9) (hbk : bk p = -1) (hw : 0 ≤ w) : BC (m_up (m_up (m_up (m_up J (b + 1) bn (p : Int)) (b + 2) bn w) b 0 ((bn : Int) + 1)) b 3 (bOr (J b 3) (bShl 1 (p : Int)))) b n (bn + 1) (up1 bk p w) := by
  obtain ⟨h1, h2, h3, h4⟩ := h
  refine ⟨by rw [up_nk (by decide), up_eq]; rfl, ?_, fun i hi => ?_, fun q hq hne => ?_⟩
  · have hb := bitF_31 (fun p => decide (¬ bk p = -1)) (n := 9) (by decide)
    rw [up_eq, h2, q_shl p (by omega), q_or hb (show 2 ^ p < 2 ^ 31 from Nat.pow_lt_pow_right (by decide) (by omega))]
    refine congrArg (fun z : Nat => (z : Int)) ?_
    apply Nat.eq_of_testBit_eq
    intro i
    rw [Nat.testBit_or, bitF_tb, bitF_tb, Nat.testBit_two_pow]
    by_cases q : i = p
    · subst q
      rw [up1_eq]
      have : ¬ w = -1 := by omega
      simp [this]
      omega
    · rw [up1_ne q]; simp [Ne.symm q]
  · by_cases z : i = bn
    · subst z
      refine ⟨p, hp, ?_, ?_, ?_⟩
      · rw [up_na (by omega), up_na (by omega), up_na (by omega), up_eq]
      · rw [up_na (by omega), up_na (by omega), up_eq, up1_eq]
      · rw [up1_eq]; omega
    · obtain ⟨q, g1, g2, g3, g4⟩ := h3 i (by omega)
      have qp : q ≠ p := fun y => g4 (by rw [y]; exact hbk)
      refine ⟨q, g1, ?_, ?_, ?_⟩
      · rw [up_na (by omega), up_na (by omega), up_na (by omega), up_nk z]; exact g2
      · rw [up_na (by omega), up_na (by omega), up_nk z, up_na (by omega), up1_ne qp]; exact g3
      · rw [up1_ne qp]; exact g4
  · by_cases z : q = p
    · subst z
      exact ⟨bn, by omega, by rw [up_na (by omega), up_na (by omega), up_na (by omega), up_eq]⟩
    · rw [up1_ne z] at hne
      obtain ⟨i, hi, g⟩ := h4 q hq hne
      exact ⟨i, by omega, by rw [up_na (by omega), up_na (by omega), up_na (by omega), up_nk (by omega)]; exact g⟩
section Bk
variable {X : Nat × (Nat → Int32)} {J : Nat → Nat → Int} {sw : Bool × Bool × Bool} {lg : Nat → Nat → Int64} {x n a v b : Nat} {tp : Nat → Int} {A : AT}
def b00 : BB := (0, fun _ => -1)
theorem e_2 (h0 : SH[b]? = some (5, 9)) (hT : TX J n tp 0) (hB : TB n tp) (hv : v ≤ 9) : ∃ J', EE X 3 2 [.ref b, .ref 1, iv (v : Int)] (mj J sw lg x) (.inl (some (iv (okI (bkR tp n v 9 0 b00).1)))) (mj J' sw lg x) ∧ TR J' (bkR tp n v 9 0 b00).1 ∧ ((bkR tp n v 9 0 b00).1.1.1 = 0 → BC J' b v (bkR tp n v 9 0 b00).2.1 (bkR tp n v 9 0 b00).2.2) ∧ FBk b J J' := by
  have hb := bnd_0 h0
  refine EE.ex (O := fun _ => .inl (some (iv (okI (bkR tp n v 9 0 b00).1)))) (F := fun J' => mj J' sw lg x) mt_2 (b_2_0 h0 (by omega) ?_)
  have F1 : FBk b J (m_up (m_up J b 0 0) b 3 0) := (FBk.up (by omega) (by omega)).tr (FBk.up (by omega) (by omega))
  have key : ∀ f a (i : Nat) (bk : Nat → Int) (J' : Nat → Nat → Int), i + f = 9 → a ≤ n → BBd v i bk → bkR tp n v f a (i, bk) = bkR tp n v 9 0 b00 → TX J' n tp a → BC J' b v i bk → FBk b J J' → VV X 3 2 (6, [some (.ref b), some (.ref 1), some (iv (v : Int)), some (iv (i : Int))], [], mj J' sw lg x) (fun o M => ∃ z, o = .inl (some (iv (okI (bkR tp n v 9 0 b00).1))) ∧ M = mj z sw lg x ∧ TR z (bkR tp n v 9 0 b00).1 ∧ ((bkR tp n v 9 0 b00).1.1.1 = 0 → BC z b v (bkR tp n v 9 0 b00).2.1 (bkR tp n v 9 0 b00).2.2) ∧ FBk b J z) := by
    intro f
    induction f with
    | zero =>
      intro a i bk J' hi ha bB hE hT' hC hF
      exact absurd bB.1 (by omega)
    | succ f ih =>
      intro a i bk J' hi ha bB hE hT' hC hF
      have lb := ln_b (tp := tp) (B := (i, bk)) ha hv bB
      rw [bkR] at hE
      have hs : sk tp n a ≤ n := sc_ub ha
      have nb := nxc_b hB (sk tp n a)
      refine b_2_6 h0 (by omega) ⟨by omega, fun c => by omega, fun _ => ?_⟩
      refine ex1 (e_85 hT' hB ha) (fun J2 h2 => ?_)
      have T2 := hT'.fr h2.fx h2.1
      have hC2 := hC.fx (by omega) h2.fx
      have F2 := hF.tr h2.fx.fbk
      refine ⟨by omega, fun c => ?_, fun c => ?_⟩
      · have hlt : ¬ n ≤ sk tp n a := fun z => c (by unfold nxc; rw [if_neg (by omega)])
        rw [if_neg hlt] at hE
        refine ex1 (e_91 T2 hB hs (by decide) (by omega)) (fun J3 h3 => ?_)
        rw [nmR_sk, nmV_sk, sk_sk] at h3
        rw [nmR_sk]
        obtain ⟨⟨t3, v3, s3'⟩, f3⟩ := h3
        have hC3 := hC2.fx (by omega) f3
        have F3 := F2.tr f3.fbk
        unfold lnR at hE lb
        generalize hR1 : nmR tp n a 0 ((v : Int) - 1) = R1 at *
        refine ⟨okI_R _, fun c2 => ?_, fun c2 => ?_⟩
        · have z1 := okI_1 c2
          rw [if_pos z1] at hE lb
          have m1 := nm_ok (tp := tp) (lo := 0) (hi := (v : Int) - 1) ha (by rw [hR1]; exact z1)
          rw [hR1] at m1
          have T3 := T2.fr f3 (t3.1 z1)
          rw [v3 z1]
          obtain ⟨p, hp⟩ : ∃ p : Nat, nmV tp n a = (p : Int) := ⟨(nmV tp n a).toNat, by clear ih; omega⟩
          have pv : p < v := by clear ih; omega
          have ebit : bAnd (bShr (J3 b 3) (p : Int)) 1 = if ¬ bk p = -1 then 1 else 0 := by
            rw [hC3.2.1, q_bit (bitF_31 _ (by decide)) (by omega), bitF_tb]
            by_cases y : bk p = -1
            · simp [y]
            · simp [y]; clear ih; omega
          rw [hp] at hE lb ⊢
          rw [Int.toNat_natCast] at hE lb
          rw [ebit, hC3.1]
          refine ⟨fun c3 => ⟨by clear ih; omega, fun c4 => ?_, fun c4 => ?_⟩, fun c3 => ?_⟩
          · have nb1 : ¬ ¬ bk p = -1 := fun z => by rw [if_pos z] at c3; exact absurd c3 (by decide)
            have nb2 : bk p = -1 := Decidable.byContradiction nb1
            rw [if_neg (show ¬ ¬ (i, bk).2 p = -1 from nb1), if_neg (show ¬ 8 ≤ (i, bk).1 by show ¬ 8 ≤ i; clear ih; omega)] at hE lb
            refine ex1 (e_91 T3 hB m1.1 (by decide) (by decide)) (fun J5 h5 => ?_)
            obtain ⟨⟨t5, v5, -⟩, f5⟩ := h5
            have hC5 := hC3.fx (by omega) f5
            have F5 := F3.tr f5.fbk
            generalize hR2 : nmR tp n R1.2 0 99 = R2 at *
            refine ⟨okI_R _, fun c5 => ?_, fun c5 => ?_⟩
            · have z2 := okI_1 c5
              rw [if_pos z2] at hE lb
              have m2 := nm_ok (tp := tp) (lo := 0) (hi := 99) m1.1 (by rw [hR2]; exact z2)
              rw [hR2] at m2
              have T5 := T3.fr f5 (t5.1 z2)
              have hA := hC5.add pv hv nb2 (show 0 ≤ nmV tp n R1.2 by clear ih; omega)
              rw [hC5.1, v5 z2, Int.toNat_natCast]
              refine ⟨by clear ih; omega, ?_⟩
              have F6 : FBk b J (m_up (m_up (m_up (m_up J5 (b + 1) i (p : Int)) (b + 2) i (nmV tp n R1.2)) b 0 ((i : Int) + 1)) b 3 (bOr (J5 b 3) (bShl 1 (p : Int)))) := F5.tr ((((FBk.up (by omega) (by omega)).tr (FBk.up (by omega) (by omega))).tr (FBk.up (by omega) (by omega))).tr (FBk.up (by omega) (by omega)))
              have T6 : TX (m_up (m_up (m_up (m_up J5 (b + 1) i (p : Int)) (b + 2) i (nmV tp n R1.2)) b 0 ((i : Int) + 1)) b 3 (bOr (J5 b 3) (bShl 1 (p : Int)))) n tp R2.2 := F6.tx (by omega) hT (by rw [up_na (by omega), up_na (by omega), up_na (by omega), up_na (by omega)]; exact t5.1 z2)
              refine ex1 (e_87 T6 hB m2.1 (by decide)) (fun J7 h7 => ?_)
              generalize hR3 : sgR tp n R2.2 59 = R3 at *
              refine ⟨okI_z _, okI_R _, fun c6 => ?_, fun c6 => ?_⟩
              · have z3 := okI_1 c6
                rw [if_pos z3] at hE
                have lb2 := lb.1 z3
                exact ih _ (i + 1) _ J7 (by clear ih; omega) lb2.1 lb2.2.2 hE (T6.fr h7.2 (h7.1.1 z3)) (hA.fx (by omega) h7.2) (F6.tr h7.2.fbk)
              · have z3 := okI_0 c6
                rw [if_neg z3] at hE
                rw [← hE]
                exact ⟨J7, by rw [c6], rfl, h7.1, fun z => absurd z z3, F6.tr h7.2.fbk⟩
            · have z2 := okI_0 c5
              rw [if_neg z2] at hE
              rw [if_neg z2] at hE
              rw [← hE]
              exact ⟨J5, by rw [c5], rfl, t5, fun z => absurd z z2, F5⟩
          · have nb1 : ¬ ¬ bk p = -1 := fun z => by rw [if_pos z] at c3; exact absurd c3 (by decide)
            rw [if_neg (show ¬ ¬ (i, bk).2 p = -1 from nb1), if_pos (show 8 ≤ (i, bk).1 by show 8 ≤ i; clear ih; omega), if_neg (show ¬ (3 : Nat) = 0 by decide)] at hE
            rw [← hE]
            exact ⟨_, rfl, rfl, ⟨fun z => absurd (show (3 : Nat) = 0 from z) (by decide), fun _ => ⟨by rw [up_nk (by decide), up_eq]; rfl, by rw [up_eq]; exact s3'⟩⟩, fun z => absurd (show (3 : Nat) = 0 from z) (by decide), (F3.tr (FX.up (by decide)).fbk).tr (FX.up (by decide)).fbk⟩
          · have nb1 : ¬ bk p = -1 := Decidable.byContradiction fun z => by rw [if_neg z] at c3; exact absurd rfl c3
            rw [if_pos (show ¬ (i, bk).2 p = -1 from nb1), if_neg (show ¬ (2 : Nat) = 0 by decide)] at hE
            rw [← hE]
            exact ⟨_, rfl, rfl, ⟨fun z => absurd (show (2 : Nat) = 0 from z) (by decide), fun _ => ⟨by rw [up_nk (by decide), up_eq]; rfl, by rw [up_eq]; exact s3'⟩⟩, fun z => absurd (show (2 : Nat) = 0 from z) (by decide), (F3.tr (FX.up (by decide)).fbk).tr (FX.up (by decide)).fbk⟩
        · have z1 := okI_0 c2
          rw [if_neg z1] at hE
          rw [if_neg z1] at hE
          rw [← hE]
          exact ⟨J3, by rw [c2], rfl, t3, fun z => absurd z z1, F3⟩
      · have hle : n ≤ sk tp n a := by
          unfold nxc at c
          have := hB.2 (sk tp n a)
          split at c <;> omega
        rw [if_pos hle] at hE
        rw [← hE]
        exact ⟨J2, rfl, rfl, ⟨fun _ => h2.1, fun z => absurd rfl z⟩, fun _ => hC2, F2⟩
  refine key 9 0 0 (fun _ => -1) _ rfl (Nat.zero_le _) ⟨by decide, fun p => show (-1 : Int) ≤ -1 ∧ (-1 : Int) ≤ 99 by decide, fun p _ => rfl⟩ rfl (F1.tx (by omega) hT (by rw [up_na (by omega), up_na (by omega)]; exact hT.2.1)) ⟨?_, ?_, fun i hi => absurd hi (Nat.not_lt_zero _), fun p _ hp => absurd rfl hp⟩ F1
  · rw [up_nk (by decide), up_eq]; rfl
  · have e : bitF (fun p => decide ¬(fun _ : Nat => (-1 : Int)) p = -1) 9 = 0 := bitF_0 _ _ (fun k _ => by show decide (¬ (-1 : Int) = -1) = false; decide)
    rw [up_eq, e]; rfl
end Bk
