/-! the hole to look at next: the class; both questions of the reference -/
section LO
variable {X : Nat × (Nat → Int32)} {J : Nat → Nat → Int} {sw : Bool × Bool × Bool} {lg : Nat → Nat → Int64} {x a b v l h e p bn : Nat} {T : LT} {V : VT} {s bk : Nat → Int}
theorem prA_hv {i : Nat} (hq : prA V T s bk i = true) : i / 6 < vh V ∧ i % 6 < ve V := by
  unfold prA at hq
  rw [Bool.and_eq_true, decide_eq_true_eq] at hq
  exact hq.1
theorem e_8 (h0 : SH[b]? = some (5, 9)) (h1 : SH[a]? = some (11, 9)) (h2 : SH[v]? = some (14, 12)) (h3 : SH[l]? = some (8, 4)) (hC : CF J a b v l V T s bn bk) (bV : VBd V) (wf : LWF T) (bs : SBd (vn V) s) (hd : 0 ≤ s 49 ∧ s 49 ≤ 2000) (hP : ∀ i, i < 36 → J (b + 3) i = bI (prA V T s bk i)) (hp : p < vn V) : ∃ J', EE X 4 8 [.ref b, .ref a, .ref v, .ref l, iv (p : Int)] (mj J sw lg x) (.inl (some (iv (lwA V T s bk p)))) (mj J' sw lg x) ∧ ∀ c, c ≠ l + 2 → c ≠ l + 3 → c ≠ b + 4 → J' c = J c := by
  have n0 := bnd_0 h0
  have n1 := bnd_6 h1
  have n3 := bnd_3 h3
  have v3 := bV.2.2.1
  have b3 := bs.2.2.2.1 p (by omega)
  have hFB : ∀ J' : Nat → Nat → Int, (∀ c, c ≠ l + 2 → c ≠ l + 3 → c ≠ b + 4 → J' c = J c) → FB b l J J' := fun J' hf => ⟨fun c q1 q2 _ _ q5 => hf c q1 q2 q5, fun k _ => by rw [hf b (by omega) (by omega) (by omega)]⟩
  refine EE.ex (O := fun _ => .inl (some (iv (lwA V T s bk p)))) (F := fun J' => mj J' sw lg x) mt_8 (b_8_0 h0 h1 h2 h3 (by omega) ?_)
  have key := lp (P := fun k => ∀ (J' : Nat → Nat → Int) (o7 : Option Value), (∀ w, w < 100 → J' (b + 4) w = (tlF (prA V T s bk) (fun i => leftA V T s (i / 6) (i % 6) p) k w : Nat)) → (∀ c, c ≠ l + 2 → c ≠ l + 3 → c ≠ b + 4 → J' c = J c) → VV X 4 8 (33, [some (.ref b), some (.ref a), some (.ref v), some (.ref l), some (iv (p : Int)), some (iv (moF (prA V T s bk) (fun i => leftA V T s (i / 6) (i % 6) p) k)), some (iv k), o7], [], mj J' sw lg x) (fun o M => ∃ z, o = .inl (some (iv (lwA V T s bk p))) ∧ M = mj z sw lg x ∧ ∀ c, c ≠ l + 2 → c ≠ l + 3 → c ≠ b + 4 → z c = J c)) 36 ?_ ?_ 0 (Nat.zero_le _)
  · refine lp (P := fun k => ∀ (J' : Nat → Nat → Int), (∀ w, w < k → J' (b + 4) w = 0) → (∀ c, c ≠ l + 2 → c ≠ l + 3 → c ≠ b + 4 → J' c = J c) → VV X 4 8 (3, [some (.ref b), some (.ref a), some (.ref v), some (.ref l), some (iv (p : Int)), some (iv k), none, none], [], mj J' sw lg x) _) 100 ?_ ?_ 0 (Nat.zero_le _) J (fun w hw => absurd hw (Nat.not_lt_zero _)) (fun _ _ _ _ => rfl)
    · intro J' hz hf
      exact b_8_3 h0 h1 h2 h3 (by omega) ⟨by decide, fun _ => key J' _ (fun w hw => hz w hw) hf, fun c => absurd c (by decide)⟩
    · intro k hk ih J' hz hf
      refine b_8_3 h0 h1 h2 h3 (by omega) ⟨by omega, fun c => by omega, fun _ => ⟨by omega, ih _ (fun w hw => ?_) (fun c q1 q2 q3 => by rw [up_r q3]; exact hf c q1 q2 q3)⟩⟩
      show m_up J' (b + 4) k 0 (b + 4) w = 0
      by_cases q : w = k
      · subst q; exact up_eq _ _ _ _
      · rw [up_nk q]; exact hz w (by omega)
  · intro J' o7 ht hf
    exact b_8_33 h0 h1 h2 h3 (by omega) ⟨by decide, fun _ => ⟨J', rfl, rfl, hf⟩, fun c => absurd c (by decide)⟩
  · intro k hk ih J' o7 ht hf
    have e3 : J' (b + 3) (k : Int).toNat = bI (prA V T s bk k) := by rw [hf (b + 3) (by omega) (by omega) (by omega)]; exact hP k hk
    have hmo := moF_b (prA V T s bk) (fun i => leftA V T s (i / 6) (i % 6) p) k
    refine b_8_33 h0 h1 h2 h3 (by omega) ⟨by omega, fun c => by omega, fun _ => ⟨by omega, ?_⟩⟩
    rw [e3]
    cases hq : prA V T s bk k
    · refine ⟨by decide, fun _ => ?_, fun c => absurd rfl c⟩
      have := ih J' o7 (fun w hw => by rw [ht w hw, tlF_n hq]) hf
      rw [moF, hq, if_neg (by decide)] at this
      exact this
    · have hv := prA_hv hq
      have hC' := hC.fr h0 h1 h2 h3 (hFB J' hf)
      have hlb := leftA_b (V := V) (T := T) (h := k / 6) (e := k % 6) b3
      have f2 : J' (a + 5) (p : Int).toNat = s (30 + p) := hC'.2.2.1.2.2.2.2.1 p (by omega)
      rw [f2, q_divI (by omega) (by omega) (by decide) (by decide), q_remI (by omega) (by omega) (by decide) (by decide)]
      refine ⟨by decide, fun c => absurd c (by decide), fun _ => ⟨by omega, ?_⟩⟩
      have H := e_48 (X := X) (sw := sw) (lg := lg) (x := x) h1 h2 h3 hC'.1 bV hC'.2.1 wf hC'.2.2.1 bs hd hv.1 hv.2 hp
      rw [show ((k / 6 : Nat) : Int) = (k : Int) / 6 by omega, show ((k % 6 : Nat) : Int) = (k : Int) % 6 by omega] at H
      refine ex1 H (fun J1 hf1 => ?_)
      have mb := mendA_b V T s (k / 6) (k % 6) p
      have el : max 0 (s (30 + p) - mendA V T s (k / 6) (k % 6) p) = leftA V T s (k / 6) (k % 6) p := rfl
      rw [el]
      have hfr1 : ∀ c, c ≠ l + 2 → c ≠ l + 3 → c ≠ b + 4 → J1 c = J c := fun c q1 q2 q3 => (hf1 c q1 q2).trans (hf c q1 q2 q3)
      have et : J1 (b + 4) (leftA V T s (k / 6) (k % 6) p).toNat = (tlF (prA V T s bk) (fun i => leftA V T s (i / 6) (i % 6) p) k (leftA V T s (k / 6) (k % 6) p).toNat : Nat) := by
        rw [hf1 (b + 4) (by omega) (by omega)]; exact ht _ (by omega)
      have hcl := cntF_le (fun i => prA V T s bk i && decide (leftA V T s (i / 6) (i % 6) p = (((leftA V T s (k / 6) (k % 6) p).toNat : Nat) : Int))) k
      rw [et]
      have htb : tlF (prA V T s bk) (fun i => leftA V T s (i / 6) (i % 6) p) k (leftA V T s (k / 6) (k % 6) p).toNat ≤ k := hcl
      refine ⟨by omega, by omega, fun c => by omega, fun _ => ⟨fun c => by omega, fun _ => ⟨by omega, by omega, by omega, ?_⟩⟩⟩
      have := ih (m_up J1 (b + 4) (leftA V T s (k / 6) (k % 6) p).toNat ((tlF (prA V T s bk) (fun i => leftA V T s (i / 6) (i % 6) p) k (leftA V T s (k / 6) (k % 6) p).toNat : Nat) + 1)) (some (iv (leftA V T s (k / 6) (k % 6) p))) (fun w hw => by
        rw [tlF_y hq (show 0 ≤ leftA V T s (k / 6) (k % 6) p from hlb.1)]
        by_cases q : w = (leftA V T s (k / 6) (k % 6) p).toNat
        · rw [if_pos q, q, up_eq]; omega
        · rw [if_neg q, up_nk q, hf1 (b + 4) (by omega) (by omega)]; exact ht w hw) (fun c q1 q2 q3 => by rw [up_r q3]; exact hfr1 c q1 q2 q3)
      rw [moF, hq, if_pos rfl] at this
      exact this
theorem bkbit {i : Nat} (hi : i < 9) : bAnd (bShr ((bitF (fun p => decide (¬ bk p = -1)) 9 : Nat) : Int) (i : Int)) 1 = if bk i = -1 then 0 else 1 := by
  rw [q_bit (bitF_31 _ (by decide)) (by omega), bitF_tb]
  by_cases q : bk i = -1
  · simp [q]
  · simp [q, hi]
theorem e_7 (h0 : SH[b]? = some (5, 9)) (h1 : SH[a]? = some (11, 9)) (h2 : SH[v]? = some (14, 12)) (h3 : SH[l]? = some (8, 4)) (hC : CF J a b v l V T s bn bk) (bV : VBd V) (wf : LWF T) (bs : SBd (vn V) s) (hd : 0 ≤ s 49 ∧ s 49 ≤ 2000) (hP : ∀ i, i < 36 → J (b + 3) i = bI (prA V T s bk i)) : ∃ J', EE X 5 7 [.ref b, .ref a, .ref v, .ref l] (mj J sw lg x) (.inl none) (mj J' sw lg x) ∧ (J' b 7 = (lkF V T s bk (vn V)).1 ∧ J' b 8 = (lkF V T s bk (vn V)).2) ∧ FB b l J J' := by
  have n0 := bnd_0 h0
  have n3 := bnd_3 h3
  have v3 := bV.2.2.1
  refine EE.ex (O := fun _ => .inl none) (F := fun J' => mj J' sw lg x) mt_7 (b_7_0 h0 h1 h2 h3 (by omega) ?_)
  refine lp (P := fun k => ∀ (J' : Nat → Nat → Int) (o5 : Option Value), J' b 7 = (lkF V T s bk k).1 → J' b 8 = (lkF V T s bk k).2 → (∀ i, i < 36 → J' (b + 3) i = bI (prA V T s bk i)) → FB b l J J' → VV X 5 7 (13, [some (.ref b), some (.ref a), some (.ref v), some (.ref l), some (iv k), o5], [], mj J' sw lg x) (fun o M => ∃ z, o = .inl none ∧ M = mj z sw lg x ∧ (z b 7 = (lkF V T s bk (vn V)).1 ∧ z b 8 = (lkF V T s bk (vn V)).2) ∧ FB b l J z)) (vn V) ?_ ?_ 0 (Nat.zero_le _) _ _ ?_ ?_ ?_ ?_
  · intro J' o5 e7 e8 hP' hF
    have hC' := hC.fr h0 h1 h2 h3 hF
    refine b_7_13 h0 h1 h2 h3 (by omega) ?_
    rw [hC'.1.2.2.1]
    exact ⟨by omega, by omega, fun _ => ⟨J', rfl, rfl, ⟨e7, e8⟩, hF⟩, fun c => by omega⟩
  · intro k hk ih J' o5 e7 e8 hP' hF
    have hC' := hC.fr h0 h1 h2 h3 hF
    have lb := lkF_b V T s bk k
    have mb := moF_b (prA V T s bk) (fun i => leftA V T s (i / 6) (i % 6) k) 36
    have mb' : 0 ≤ lwA V T s bk k ∧ lwA V T s bk k ≤ 36 := mb
    refine b_7_13 h0 h1 h2 h3 (by omega) ?_
    rw [hC'.1.2.2.1, hC'.2.2.2.2.1, bkbit (bk := bk) (by omega)]
    refine ⟨by omega, by omega, fun c => by omega, fun _ => ⟨fun c => ?_, fun c => ?_⟩⟩
    · have z : ¬ bk k = -1 := by intro z; rw [if_pos z] at c; exact c rfl
      refine ih J' o5 ?_ ?_ hP' hF
      · rw [lkF, if_neg (fun w => z w.1)]; exact e7
      · rw [lkF, if_neg (fun w => z w.1)]; exact e8
    · have z : bk k = -1 := by
        by_cases z : bk k = -1
        · exact z
        · rw [if_neg z] at c; exact absurd c (by decide)
      refine ex1 (e_8 h0 h1 h2 h3 hC' bV wf bs hd hP' hk) (fun J1 hf1 => ?_)
      have g7 : J1 b 7 = (lkF V T s bk k).1 := by rw [hf1 b (by omega) (by omega) (by omega)]; exact e7
      have g8 : J1 b 8 = (lkF V T s bk k).2 := by rw [hf1 b (by omega) (by omega) (by omega)]; exact e8
      have hP1 : ∀ i, i < 36 → J1 (b + 3) i = bI (prA V T s bk i) := fun i hi => by rw [hf1 (b + 3) (by omega) (by omega) (by omega)]; exact hP' i hi
      have hF1 : FB b l J J1 := hF.tr ⟨fun c q1 q2 _ _ q5 => hf1 c q1 q2 q5, fun i hi => by rw [hf1 b (by omega) (by omega) (by omega)]⟩
      have yes : bk k = -1 ∧ ((lkF V T s bk k).1 = -1 ∨ lwA V T s bk k < (lkF V T s bk k).2) → VV X 5 7 (13, [some (.ref b), some (.ref a), some (.ref v), some (.ref l), some (iv ((k : Int) + 1)), some (iv (lwA V T s bk k))], [], mj (m_up (m_up J1 b 7 (k : Int)) b 8 (lwA V T s bk k)) sw lg x) (fun o M => ∃ z, o = .inl none ∧ M = mj z sw lg x ∧ (z b 7 = (lkF V T s bk (vn V)).1 ∧ z b 8 = (lkF V T s bk (vn V)).2) ∧ FB b l J z) := by
        intro w
        refine ih _ _ ?_ ?_ (fun i hi => ?_) ((hF1.tr (FB.upb (by decide))).tr (FB.upb (by decide)))
        · rw [lkF, if_pos w, up_nk (by decide), up_eq]
        · rw [lkF, if_pos w, up_eq]
        · rw [up_na (by omega), up_na (by omega)]; exact hP1 i hi
      rw [g7, g8]
      refine ⟨by omega, fun c2 => yes ⟨z, Or.inl c2⟩, fun c2 => ⟨by omega, by omega, fun c3 => ?_, fun c3 => yes ⟨z, Or.inr c3⟩⟩⟩
      refine ih J1 _ ?_ ?_ hP1 hF1
      · rw [lkF, if_neg (by intro w; rcases w.2 with q | q; exact c2 q; omega)]; exact g7
      · rw [lkF, if_neg (by intro w; rcases w.2 with q | q; exact c2 q; omega)]; exact g8
  · rw [up_nk (by decide), up_eq]; rfl
  · rw [up_eq]; rfl
  · intro i hi; rw [up_na (by omega), up_na (by omega)]; exact hP i hi
  · exact (FB.upb (by decide)).tr (FB.upb (by decide))
/-! the reference -/
/-- what the reference's questions look at -/
def MF (J : Nat → Nat → Int) (V : VT) (T : LT) (s : Nat → Int) (bn : Nat) (bk : Nat → Int) : Prop := VM J V ∧ LM J T ∧ MV J 562 s ∧ BM J bn bk
theorem LM_cf {J J' : Nat → Nat → Int} {T : LT} (h : LM J T) (h0 : J' 542 35 = J 542 35) (h1 : J' 555 = J 555) (h2 : J' 556 = J 556) : LM J' T := by
  unfold LM
  rw [h0, h1, h2]
  exact h
theorem BM_cg {J J' : Nat → Nat → Int} {bn : Nat} {bk : Nat → Int} (h : BM J bn bk) (h0 : J' 542 50 = J 542 50) (h1 : J' 565 = J 565) : BM J' bn bk := by
  unfold BM
  rw [h0, h1]
  exact h
theorem MF.fr {J J' : Nat → Nat → Int} (h : MF J V T s bn bk) (hf : ∀ c, c ≠ 557 → c ≠ 558 → c ≠ 571 → J' c = J c) : MF J' V T s bn bk :=
  ⟨VM_fr h.1 (fun c hc => hf c (by omega) (by omega) (by omega)), LM_cf h.2.1 (by rw [hf 542 (by decide) (by decide) (by decide)]) (hf 555 (by decide) (by decide) (by decide)) (hf 556 (by decide) (by decide) (by decide)), MV_fr h.2.2.1 (hf 562 (by decide) (by decide) (by decide)), BM_cg h.2.2.2 (by rw [hf 542 (by decide) (by decide) (by decide)]) (hf 565 (by decide) (by decide) (by decide))⟩
theorem e_251 (hM : MF J V T s bn bk) (bV : VBd V) (wf : LWF T) (bs : SBd (vn V) s) (hd : 0 ≤ s 49 ∧ s 49 ≤ 2000) (hh : h < vh V) (he : e < ve V) (hp : p < vn V) : ∃ J', EE X 5 251 [.ref 542, iv (h : Int), iv (e : Int), iv (p : Int)] (mj J sw lg x) (.inl (some (iv (leftA V T s h e p)))) (mj J' sw lg x) ∧ ∀ c, c ≠ 557 → c ≠ 558 → J' c = J c := by
  have v3 := bV.2.2.1
  have b3 := bs.2.2.2.1 p (by omega)
  have mb := mendA_b V T s h e p
  have f2 : J 562 (30 + (p : Int)).toNat = s (30 + p) := hM.2.2.1 (30 + p) (by omega)
  refine EE.ex (O := fun _ => .inl (some (iv (leftA V T s h e p)))) (F := fun J' => mj J' sw lg x) mt_251 (b_251_0 (by omega) ⟨by omega, ?_⟩)
  rw [f2]
  refine ex1 (e_207 hM.1 bV hM.2.1 wf hM.2.2.1 bs hd hh he hp) (fun J1 hf => ⟨_, J1, e_210 (by omega), J1, ?_, rfl, hf⟩)
  rw [show max 0 (min 99 (s (30 + p) - mendA V T s h e p)) = leftA V T s h e p by unfold leftA; omega]
theorem e_252 (hM : MF J V T s bn bk) (bV : VBd V) (wf : LWF T) (bs : SBd (vn V) s) (hd : 0 ≤ s 49 ∧ s 49 ≤ 2000) (bB : BBd (vn V) bn bk) (hh : h < vh V) (he : e < ve V) : ∃ J', EE X 6 252 [.ref 542, iv (h : Int), iv (e : Int)] (mj J sw lg x) (.inl (some (iv (bI (fitA V T s bk h e))))) (mj J' sw lg x) ∧ ∀ c, c ≠ 557 → c ≠ 558 → J' c = J c := by
  have v3 := bV.2.2.1
  refine EE.ex (O := fun _ => .inl (some (iv (bI (fitA V T s bk h e))))) (F := fun J' => mj J' sw lg x) mt_252 (b_252_0 (by omega) ?_)
  refine lp (P := fun k => ∀ J' : Nat → Nat → Int, (∀ c, c ≠ 557 → c ≠ 558 → J' c = J c) → VV X 6 252 (5, [some (.ref 542), some (iv (h : Int)), some (iv (e : Int)), some (iv (bI (allF (fun p => decide (bk p = -1 ∨ leftA V T s h e p = bk p)) k))), some (iv k)], [], mj J' sw lg x) (fun o M => ∃ z, o = .inl (some (iv (bI (fitA V T s bk h e)))) ∧ M = mj z sw lg x ∧ ∀ c, c ≠ 557 → c ≠ 558 → z c = J c)) (vn V) ?_ ?_ 0 (Nat.zero_le _) J (fun _ _ _ => rfl)
  · intro J' hf
    have hM' := hM.fr (fun c q1 q2 _ => hf c q1 q2)
    refine b_252_5 (by omega) ?_
    rw [hM'.1.2.2.1]
    refine ⟨by omega, by omega, fun _ => ⟨by unfold bI; split <;> simp, J', rfl, rfl, hf⟩, fun c => by omega⟩
  · intro k hk ih J' hf
    have hM' := hM.fr (fun c q1 q2 _ => hf c q1 q2)
    have e5 : J' 565 (k : Int).toNat = bk k := hM'.2.2.2.2 k (by omega)
    have bb := bB.2.1 k
    have b3 := bs.2.2.2.1 k (by omega)
    have hlb := leftA_b (V := V) (T := T) (h := h) (e := e) b3
    refine b_252_5 (by omega) ?_
    rw [hM'.1.2.2.1, e5]
    refine ⟨by omega, by omega, fun c => by omega, fun _ => ⟨by unfold bI; split <;> decide, fun c => ?_, fun c => ⟨by omega, by omega, fun c2 => ?_, fun c2 => ?_⟩⟩⟩
    · have z : allF (fun p => decide (bk p = -1 ∨ leftA V T s h e p = bk p)) k = false := by
        cases z : allF (fun p => decide (bk p = -1 ∨ leftA V T s h e p = bk p)) k
        · rfl
        · rw [z] at c; exact absurd c (by decide)
      have := ih J' hf
      rw [allF, z, Bool.false_and] at this
      exact this
    · have z : allF (fun p => decide (bk p = -1 ∨ leftA V T s h e p = bk p)) k = true := by
        cases z : allF (fun p => decide (bk p = -1 ∨ leftA V T s h e p = bk p)) k
        · rw [z] at c; exact absurd rfl c
        · rfl
      have := ih J' hf
      rw [allF, z, Bool.true_and, decide_eq_true (Or.inl c2)] at this
      exact this
    · have z : allF (fun p => decide (bk p = -1 ∨ leftA V T s h e p = bk p)) k = true := by
        cases z : allF (fun p => decide (bk p = -1 ∨ leftA V T s h e p = bk p)) k
        · rw [z] at c; exact absurd rfl c
        · rfl
      refine ex1 (e_251 hM' bV wf bs hd hh he hk) (fun J1 hf1 => ?_)
      have hf2 : ∀ c, c ≠ 557 → c ≠ 558 → J1 c = J c := fun c q1 q2 => (hf1 c q1 q2).trans (hf c q1 q2)
      have e6 : J1 565 (k : Int).toNat = bk k := by rw [hf1 565 (by decide) (by decide)]; exact e5
      have := ih J1 hf2
      rw [allF, z, Bool.true_and] at this
      rw [e6]
      refine ⟨by omega, by omega, fun c3 => ?_, fun c3 => ?_⟩
      · rw [decide_eq_false (by intro w; rcases w with w | w; exact c2 w; exact c3 w)] at this
        exact this
      · rw [decide_eq_true (Or.inr c3)] at this
        exact this
theorem e_254 (hM : MF J V T s bn bk) (bV : VBd V) (wf : LWF T) (bs : SBd (vn V) s) (hd : 0 ≤ s 49 ∧ s 49 ≤ 2000) (bB : BBd (vn V) bn bk) (hp : p < vn V) : ∃ J', EE X 7 254 [.ref 542, iv (p : Int)] (mj J sw lg x) (.inl (some (iv (lwA V T s bk p)))) (mj J' sw lg x) ∧ ∀ c, c ≠ 557 → c ≠ 558 → c ≠ 571 → J' c = J c := by
  have v1 := bV.1
  have v2 := bV.2.1
  have v3 := bV.2.2.1
  have b3 := bs.2.2.2.1 p (by omega)
  refine EE.ex (O := fun _ => .inl (some (iv (lwA V T s bk p)))) (F := fun J' => mj J' sw lg x) mt_254 (b_254_0 (by omega) ?_)
  have key := lp (P := fun k => ∀ (J' : Nat → Nat → Int) (o4 o5 : Option Value), (∀ w, w < 100 → J' 571 w = (tlF (prA V T s bk) (fun i => leftA V T s (i / 6) (i % 6) p) (6 * k) w : Nat)) → (∀ c, c ≠ 557 → c ≠ 558 → c ≠ 571 → J' c = J c) → VV X 7 254 (25, [some (.ref 542), some (iv (p : Int)), some (iv (moF (prA V T s bk) (fun i => leftA V T s (i / 6) (i % 6) p) (6 * k))), some (iv k), o4, o5], [], mj J' sw lg x) (fun o M => ∃ z, o = .inl (some (iv (lwA V T s bk p))) ∧ M = mj z sw lg x ∧ ∀ c, c ≠ 557 → c ≠ 558 → c ≠ 571 → z c = J c)) (vh V) ?_ ?_ 0 (Nat.zero_le _)
  · refine lp (P := fun k => ∀ (J' : Nat → Nat → Int), (∀ w, w < k → J' 571 w = 0) → (∀ c, c ≠ 557 → c ≠ 558 → c ≠ 571 → J' c = J c) → VV X 7 254 (2, [some (.ref 542), some (iv (p : Int)), some (iv k), none, none, none], [], mj J' sw lg x) _) 100 ?_ ?_ 0 (Nat.zero_le _) J (fun w hw => absurd hw (Nat.not_lt_zero _)) (fun _ _ _ _ => rfl)
    · intro J' hz hf
      exact b_254_2 (by omega) ⟨by decide, fun _ => key J' _ _ (fun w hw => hz w hw) hf, fun c => absurd c (by decide)⟩
    · intro k hk ih J' hz hf
      refine b_254_2 (by omega) ⟨by omega, fun c => by omega, fun _ => ⟨by omega, ih _ (fun w hw => ?_) (fun c q1 q2 q3 => by rw [up_r q3]; exact hf c q1 q2 q3)⟩⟩
      show m_up J' 571 k 0 571 w = 0
      by_cases q : w = k
      · subst q; exact up_eq _ _ _ _
      · rw [up_nk q]; exact hz w (by omega)
  · intro J' o4 o5 ht hf
    have hM' := hM.fr hf
    refine b_254_25 (by omega) ?_
    rw [hM'.1.2.1]
    refine ⟨by omega, by omega, fun _ => ⟨J', ?_, rfl, hf⟩, fun c => by omega⟩
    have := (moF_skip (P := prA V T s bk) (lf := fun i => leftA V T s (i / 6) (i % 6) p) (k := 6 * vh V) (36 - 6 * vh V) (fun i q1 q2 => by unfold prA; rw [decide_eq_false (by omega), Bool.false_and])).1
    rw [show 6 * vh V + (36 - 6 * vh V) = 36 by omega] at this
    unfold lwA
    rw [this]
  · intro k hk ih J' o4 o5 ht hf
    have hM' := hM.fr hf
    refine b_254_25 (by omega) ?_
    rw [hM'.1.2.1]
    refine ⟨by omega, by omega, fun c => by omega, fun _ => ?_⟩
    refine lp (P := fun i => ∀ (J' : Nat → Nat → Int) (o5 : Option Value), (∀ w, w < 100 → J' 571 w = (tlF (prA V T s bk) (fun i => leftA V T s (i / 6) (i % 6) p) (6 * k + i) w : Nat)) → (∀ c, c ≠ 557 → c ≠ 558 → c ≠ 571 → J' c = J c) → VV X 7 254 (36, [some (.ref 542), some (iv (p : Int)), some (iv (moF (prA V T s bk) (fun i => leftA V T s (i / 6) (i % 6) p) (6 * k + i))), some (iv k), some (iv i), o5], [], mj J' sw lg x) _) (ve V) ?_ ?_ 0 (Nat.zero_le _) J' o5 ht hf
    · intro J' o5 ht hf
      have hM' := hM.fr hf
      have sk := moF_skip (P := prA V T s bk) (lf := fun i => leftA V T s (i / 6) (i % 6) p) (k := 6 * k + ve V) (6 - ve V) (fun i q1 q2 => by
        obtain ⟨j, rfl⟩ : ∃ j, i = 6 * k + j := ⟨i - 6 * k, by omega⟩
        exact pr_n (by omega) (by omega))
      rw [show 6 * k + ve V + (6 - ve V) = 6 * (k + 1) by omega] at sk
      refine b_254_36 (by omega) ?_
      rw [hM'.1.1]
      refine ⟨by omega, by omega, fun _ => ?_, fun c => by omega⟩
      have := ih J' (some (iv (ve V : Int))) o5 (fun w hw => by rw [sk.2]; exact ht w hw) hf
      rw [sk.1] at this
      exact this
    · intro i hi ih2 J' o5 ht hf
      have hM' := hM.fr hf
      have hp2 := pr_y (V := V) (T := T) (s := s) (bk := bk) (h := k) (e := i) (by omega) hk hi
      have hmo := moF_b (prA V T s bk) (fun i => leftA V T s (i / 6) (i % 6) p) (6 * k + i)
      refine b_254_36 (by omega) ?_
      rw [hM'.1.1]
      refine ⟨by omega, by omega, fun c => by omega, fun _ => ex1 (e_252 hM' bV wf bs hd bB hk hi) (fun J1 hf1 => ?_)⟩
      have hf2 : ∀ c, c ≠ 557 → c ≠ 558 → c ≠ 571 → J1 c = J c := fun c q1 q2 q3 => (hf1 c q1 q2).trans (hf c q1 q2 q3)
      have ht1 : ∀ w, w < 100 → J1 571 w = (tlF (prA V T s bk) (fun i => leftA V T s (i / 6) (i % 6) p) (6 * k + i) w : Nat) := fun w hw => by rw [hf1 571 (by decide) (by decide)]; exact ht w hw
      have hlb := leftA_b (V := V) (T := T) (h := k) (e := i) b3
      cases hq : fitA V T s bk k i
      · rw [hq] at hp2
        refine ⟨by decide, fun c => absurd rfl c, fun _ => ?_⟩
        have := ih2 J1 o5 (fun w hw => by show _ = ((tlF _ _ (6 * k + i + 1) w : Nat) : Int); rw [tlF_n hp2]; exact ht1 w hw) hf2
        rw [show 6 * k + (i + 1) = 6 * k + i + 1 from rfl, moF, hp2, if_neg (by decide)] at this
        exact this
      · rw [hq] at hp2
        refine ⟨by decide, fun _ => ex1 (e_251 (hM.fr hf2) bV wf bs hd hk hi hp) (fun J3 hf3 => ?_), fun c => absurd c (by decide)⟩
        have e4 : leftA V T s ((6 * k + i) / 6) ((6 * k + i) % 6) p = leftA V T s k i p := by rw [show (6 * k + i) / 6 = k by omega, show (6 * k + i) % 6 = i by omega]
        have et : J3 571 (leftA V T s k i p).toNat = (tlF (prA V T s bk) (fun i => leftA V T s (i / 6) (i % 6) p) (6 * k + i) (leftA V T s k i p).toNat : Nat) := by rw [hf3 571 (by decide) (by decide)]; exact ht1 _ (by omega)
        have hcl : tlF (prA V T s bk) (fun i => leftA V T s (i / 6) (i % 6) p) (6 * k + i) (leftA V T s k i p).toNat ≤ 6 * k + i := cntF_le _ _
        have nxt := ih2 (m_up J3 571 (leftA V T s k i p).toNat ((tlF (prA V T s bk) (fun i => leftA V T s (i / 6) (i % 6) p) (6 * k + i) (leftA V T s k i p).toNat : Nat) + 1)) (some (iv (leftA V T s k i p))) (fun w hw => by
          show _ = ((tlF _ _ (6 * k + i + 1) w : Nat) : Int)
          rw [tlF_y hp2 (by show 0 ≤ leftA V T s ((6 * k + i) / 6) ((6 * k + i) % 6) p; rw [e4]; exact hlb.1)]
          simp only [e4]
          by_cases q : w = (leftA V T s k i p).toNat
          · rw [if_pos q, q, up_eq]; omega
          · rw [if_neg q, up_nk q, hf3 571 (by decide) (by decide)]; exact ht1 w hw) (fun c q1 q2 q3 => by rw [up_r q3, hf3 c q1 q2]; exact hf2 c q1 q2 q3)
        rw [show 6 * k + (i + 1) = 6 * k + i + 1 from rfl, moF, hp2, if_pos rfl] at nxt
        simp only [e4] at nxt
        rw [et]
        refine ⟨by omega, by omega, by omega, fun c => ?_, fun c => ?_⟩
        · rw [show max (moF (prA V T s bk) (fun i => leftA V T s (i / 6) (i % 6) p) (6 * k + i)) ((tlF (prA V T s bk) (fun i => leftA V T s (i / 6) (i % 6) p) (6 * k + i) (leftA V T s k i p).toNat : Nat) + 1) = moF (prA V T s bk) (fun i => leftA V T s (i / 6) (i % 6) p) (6 * k + i) by omega] at nxt
          exact nxt
        · rw [show max (moF (prA V T s bk) (fun i => leftA V T s (i / 6) (i % 6) p) (6 * k + i)) ((tlF (prA V T s bk) (fun i => leftA V T s (i / 6) (i % 6) p) (6 * k + i) (leftA V T s k i p).toNat : Nat) + 1) = (tlF (prA V T s bk) (fun i => leftA V T s (i / 6) (i % 6) p) (6 * k + i) (leftA V T s k i p).toNat : Nat) + 1 by omega] at nxt
          exact nxt
end LO
