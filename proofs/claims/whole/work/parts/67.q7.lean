/-! generations, spans -/
theorem sumF_b {f : Nat → Int} : ∀ {n : Nat}, (∀ k, k < n → 0 ≤ f k ∧ f k ≤ 99) → 0 ≤ sumF f n ∧ sumF f n ≤ 99 * n
  | 0, _ => ⟨Int.le_refl _, by show (0 : Int) ≤ 99 * (0 : Nat); omega⟩
  | n + 1, h => by
    have := sumF_b (fun k hk => h k (by omega) : ∀ k, k < n → _)
    have := h n (by omega)
    unfold sumF
    omega
section Q7
variable {X : Nat × (Nat → Int32)} {J : Nat → Nat → Int} {sw : Bool × Bool × Bool} {lg : Nat → Nat → Int64} {x l v : Nat} {A : AT} {u w t q sd : Int} {V : VT} {T : LT} {s : Nat → Int}
/-- nothing but the state asked, the seed and what the law reckons with has changed -/
def FL (l : Nat) (J J' : Nat → Nat → Int) : Prop := ∀ c, ¬ (48 ≤ c ∧ c ≤ 55) → c ≠ l + 2 → c ≠ l + 3 → J' c = J c
theorem FL.tr {J1 J2 : Nat → Nat → Int} (h1 : FL l J J1) (h2 : FL l J1 J2) : FL l J J2 := fun c a b d => (h2 c a b d).trans (h1 c a b d)
theorem FL.rf : FL l J J := fun _ _ _ _ => rfl
theorem FL.up {w : Int} : FL l J (m_up J 55 0 w) := fun c h _ _ => up_r (by omega)
theorem FL.sl {J1 : Nat → Nat → Int} (h : FSL 48 l J J1) : FL l J J1 := fun c a b d => h c (by omega) b d
theorem FL.st {J1 : Nat → Nat → Int} (h : FSt 48 J J1) : FL l J J1 := fun c a b d => h c (by omega)
theorem FL.vk {J1 : Nat → Nat → Int} (h : FL l J J1) (h1 : SH[v]? = some (14, 12)) (h2 : SH[l]? = some (8, 4)) (hV : VK J v V) : VK J1 v V := by
  have a := bnd_9 h1
  have b := bnd_3 h2
  exact VK_cg hV (fun c q1 q2 => h c (by omega) (by omega) (by omega))
theorem FL.lk {J1 : Nat → Nat → Int} (h : FL l J J1) (h2 : SH[l]? = some (8, 4)) (hT : LK J l T) : LK J1 l T := by
  have b := bnd_3 h2
  exact LK_cg hT (h l (by omega) (by omega) (by omega)) (h (l + 1) (by omega) (by omega) (by omega))
theorem FC.fl {J' : Nat → Nat → Int} (h : FL (lA sw) J J') : FC J J' := FC.of (fun c q => by
  have := lA_or sw
  unfold scK at q
  exact h c (by omega) (by omega) (by omega))
theorem e_159 (hV : VK J (vA sw) V) (bV : VBd V) (hT : LK J (lA sw) T) (wf : LWF T) (hS : SV J 48 s) (bs : SBd (vn V) s) (hd : 0 ≤ s 49 ∧ s 49 ≤ 2000) (hsd : J 55 0 = sd) (hp : 0 < vh V ∧ 0 < ve V ∧ 0 < vn V) (hq : InR q) : ∃ J', EE X 4 159 [.ref 0, iv q] (mj J sw lg x) (.inl none) (mj J' sw lg x) ∧ (SV J' 48 (gdA V T q (sd, s)).2 ∧ J' 55 0 = (gdA V T q (sd, s)).1) ∧ FL (lA sw) J J' := by
  have v1 := bV.1
  have v2 := bV.2.1
  have v3 := bV.2.2.1
  have q1 := vA_or sw
  have q2 := lA_or sw
  refine EE.ex (O := fun _ => .inl none) (F := fun J' => mj J' sw lg x) mt_159 (b_159_0 (by omega) ?_)
  rw [hV.2.1]
  refine ⟨_, _, e_41 hsd hp.1 (by omega), ?_⟩
  have hV1 : VK (m_up J 55 0 (nxS sd)) (vA sw) V := FL.up.vk (cvA sw) (clA sw) hV
  rw [hV1.1]
  refine ⟨_, _, e_41 (up_eq _ _ _ _) hp.2.1 (by omega), ?_⟩
  have F2 : FL (lA sw) J (m_up (m_up J 55 0 (nxS sd)) 55 0 (nxS (nxS sd))) := FL.up.tr FL.up
  rw [(F2.vk (cvA sw) (clA sw) hV).2.2.1]
  refine ⟨_, _, e_41 (up_eq _ _ _ _) hp.2.2 (by omega), ?_⟩
  have F3 : FL (lA sw) J (m_up (m_up (m_up J 55 0 (nxS sd)) 55 0 (nxS (nxS sd))) 55 0 (nxS (nxS (nxS sd)))) := F2.tr FL.up
  have S3 : SV (m_up (m_up (m_up J 55 0 (nxS sd)) 55 0 (nxS (nxS sd))) 55 0 (nxS (nxS (nxS sd)))) 48 s := SV_fr hS (fun c a b => by rw [up_r (by omega), up_r (by omega), up_r (by omega)])
  have e3 : (m_up (m_up (m_up J 55 0 (nxS sd)) 55 0 (nxS (nxS sd))) 55 0 (nxS (nxS (nxS sd)))) 55 0 = nxS (nxS (nxS sd)) := up_eq _ _ _ _
  generalize hJ3 : m_up (m_up (m_up J 55 0 (nxS sd)) 55 0 (nxS (nxS sd))) 55 0 (nxS (nxS (nxS sd))) = J3 at F3 S3 e3 ⊢
  have h1 := drV_lt (s := sd) hp.1
  have h2 := drV_lt (s := nxS sd) hp.2.1
  have h3 := drV_lt (s := nxS (nxS sd)) hp.2.2
  have d1 := darnA_b (T := T) bV bs h1 h2 h3
  refine ex1 (e_51 c_48 (cvA sw) (clA sw) (F3.vk (cvA sw) (clA sw) hV) bV (F3.lk (clA sw) hT) wf S3 bs hd h1 h2 h3) (fun J4 h4 => ?_)
  have F4 : FL (lA sw) J J4 := F3.tr (FL.sl h4.2)
  have e4 : J4 55 0 = nxS (nxS (nxS sd)) := by rw [h4.2 55 (by omega) (by omega) (by omega)]; exact e3
  refine ⟨_, _, e_41 (n := 16) e4 (by decide) (by decide), ?_⟩
  have F5 : FL (lA sw) J (m_up J4 55 0 (nxS (nxS (nxS (nxS sd))))) := F4.tr FL.up
  have S5 : SV (m_up J4 55 0 (nxS (nxS (nxS (nxS sd))))) 48 (darnA V T s (drV sd (vh V)) (drV (nxS sd) (ve V)) (drV (nxS (nxS sd)) (vn V))).2 := SV_fr h4.1 (fun c a b => up_r (by omega))
  have h6 := drV_lt (s := nxS (nxS (nxS sd))) (n := 16) (by decide)
  refine ⟨by omega, hq, fun c => ⟨_, rfl, rfl, ⟨?_, up_eq _ _ _ _⟩, F5⟩, fun c => ex1 (e_52 c_48 (cvA sw) (F5.vk (cvA sw) (clA sw) hV) bV S5 d1.1 h2 h3) (fun J6 h6 => ⟨J6, rfl, rfl, ⟨?_, ?_⟩, F5.tr (FL.st h6.2)⟩)⟩
  · unfold gdA
    dsimp only
    rw [if_neg (by omega)]
    exact S5
  · unfold gdA
    dsimp only
    rw [if_pos c]
    exact h6.1
  · rw [h6.2 55 (by omega)]; exact up_eq _ _ _ _
theorem e_158 {n : Nat} (hV : VK J (vA sw) V) (bV : VBd V) (hT : LK J (lA sw) T) (wf : LWF T) (hS : SV J 41 s) (bs : SBd (vn V) s) (hd : 0 ≤ s 49 ∧ s 49 ≤ 600) (hn : n ≤ 96) (hq : InR q) : ∃ J', EE X 5 158 [.ref 0, iv sd, iv q, iv (n : Int)] (mj J sw lg x) (.inl none) (mj J' sw lg x) ∧ SV J' 48 (gnA V T q sd s n).2 ∧ FL (lA sw) J J' := by
  have v1 := bV.1
  have v2 := bV.2.1
  have v3 := bV.2.2.1
  have q1 := vA_or sw
  have q2 := lA_or sw
  refine EE.ex (O := fun _ => .inl none) (F := fun J' => mj J' sw lg x) mt_158 (b_158_0 (by omega) ?_)
  refine ex0 (e_44 c_48 c_41 (by decide) hS) (fun J1 h1 => ?_)
  have F1 : FL (lA sw) J J1 := FL.st h1.2
  have hV1 := F1.vk (cvA sw) (clA sw) hV
  rw [hV1.1, hV1.2.1, hV1.2.2.1]
  have key : ∀ b : Int, (b = 1 ∧ (0 < vh V ∧ 0 < ve V ∧ 0 < vn V)) ∨ (b = 0 ∧ ¬ (0 < vh V ∧ 0 < ve V ∧ 0 < vn V)) → VV X 5 158 (59, [some (.ref 0), some (iv sd), some (iv q), some (iv (n : Int)), some (iv b), some (iv 0)], [], mj (m_up J1 55 0 sd) sw lg x) (fun o M => ∃ z, o = .inl none ∧ M = mj z sw lg x ∧ SV z 48 (gnA V T q sd s n).2 ∧ FL (lA sw) J z) := by
    intro b hb
    refine lp (P := fun k => ∀ J', SV J' 48 (gnA V T q sd s k).2 → J' 55 0 = (gnA V T q sd s k).1 → FL (lA sw) J J' → VV X 5 158 (59, [some (.ref 0), some (iv sd), some (iv q), some (iv (n : Int)), some (iv b), some (iv k)], [], mj J' sw lg x) (fun o M => ∃ z, o = .inl none ∧ M = mj z sw lg x ∧ SV z 48 (gnA V T q sd s n).2 ∧ FL (lA sw) J z)) n ?_ ?_ 0 (Nat.zero_le _) _ (SV_fr h1.1 (fun c a b => up_r (by omega))) (up_eq _ _ _ _) (F1.tr FL.up)
    · intro J' hS' he hF
      exact b_158_59 (by omega) ⟨by omega, by omega, fun _ => ⟨J', rfl, rfl, hS', hF⟩, fun c => by omega⟩
    · intro k hk ih J' hS' he hF
      have bi := gnA_b (T := T) (q := q) (sd := sd) bV bs k
      have hV' := hF.vk (cvA sw) (clA sw) hV
      refine b_158_59 (by omega) ⟨by omega, by omega, fun c => by omega, fun _ => ⟨by omega, fun c => ?_, fun c => ?_⟩⟩
      · have hp : ¬ (0 < vh V ∧ 0 < ve V ∧ 0 < vn V) := by rcases hb with z | z; omega; exact z.2
        refine ex0 (e_57 c_48 (cvA sw) hV' bV hS' bi.1 (by omega)) (fun J2 h2 => ih J2 ?_ ?_ (hF.tr (FL.st h2.2)))
        · rw [gnA, if_neg hp]; exact h2.1
        · rw [gnA, if_neg hp, h2.2 55 (by omega)]; exact he
      · have hp : 0 < vh V ∧ 0 < ve V ∧ 0 < vn V := by rcases hb with z | z; exact z.2; omega
        refine ex0 (e_159 hV' bV (hF.lk (clA sw) hT) wf hS' bi.1 (by omega) he hp hq) (fun J2 h2 => ?_)
        have F2 := hF.tr h2.2
        have gb := gdA_b (T := T) (q := q) (z := ((gnA V T q sd s k).1, (gnA V T q sd s k).2)) bV bi.1 hp
        have ge : (gdA V T q ((gnA V T q sd s k).1, (gnA V T q sd s k).2)).2 49 = (gnA V T q sd s k).2 49 := gb.2
        refine ex0 (e_57 c_48 (cvA sw) (F2.vk (cvA sw) (clA sw) hV) bV h2.1.1 gb.1 (by rw [ge]; omega)) (fun J3 h3 => ih J3 ?_ ?_ (F2.tr (FL.st h3.2)))
        · rw [gnA, if_pos hp]; exact h3.1
        · rw [gnA, if_pos hp, h3.2 55 (by omega)]; exact h2.1.2
  refine ⟨by omega, fun c => key 0 (Or.inr ⟨rfl, by omega⟩), fun c1 => ⟨by omega, fun c => key 0 (Or.inr ⟨rfl, by omega⟩), fun c2 => ⟨by omega, fun c => key 0 (Or.inr ⟨rfl, by omega⟩), fun c3 => key 1 (Or.inl ⟨rfl, by omega, by omega, by omega⟩)⟩⟩⟩
/-- nothing of the reference but the row, the seed and what the law reckons with has changed -/
def FN (J J' : Nat → Nat → Int) : Prop := (∀ c, c ≠ 542 → c ≠ 562 → c ≠ 557 → c ≠ 558 → J' c = J c) ∧ ∀ k, k ≠ 57 → J' 542 k = J 542 k
theorem FN.rf : FN J J := ⟨fun _ _ _ _ _ => rfl, fun _ _ => rfl⟩
theorem FN.tr {J1 J2 : Nat → Nat → Int} (h1 : FN J J1) (h2 : FN J1 J2) : FN J J2 := ⟨fun c a b d e => (h2.1 c a b d e).trans (h1.1 c a b d e), fun k hk => (h2.2 k hk).trans (h1.2 k hk)⟩
theorem FN.up {w : Int} : FN J (m_up J 542 57 w) := ⟨fun c a _ _ _ => up_r a, fun k hk => up_nk hk⟩
theorem FN.ml {J1 : Nat → Nat → Int} (h : FML J J1) : FN J J1 := ⟨fun c _ b d e => h c b d e, fun k _ => by rw [h 542 (by decide) (by decide) (by decide)]⟩
theorem FN.fm {J1 : Nat → Nat → Int} (h : FM J J1) : FN J J1 := FN.ml h.ml
theorem FN.vm {J1 : Nat → Nat → Int} (h : FN J J1) (hV : VM J V) : VM J1 V := by
  obtain ⟨k1, k2, k3, k4, k5, k6, k7, k8⟩ := hV
  refine ⟨?_, ?_, ?_, ?_, ?_, fun k hk => ?_, fun k hk => ?_, fun k hk => ?_⟩
  · rw [h.2 24 (by decide)]; exact k1
  · rw [h.2 25 (by decide)]; exact k2
  · rw [h.2 26 (by decide)]; exact k3
  · rw [h.2 27 (by decide)]; exact k4
  · rw [h.2 28 (by decide)]; exact k5
  · rw [h.1 549 (by decide) (by decide) (by decide) (by decide)]; exact k6 k hk
  · rw [h.1 550 (by decide) (by decide) (by decide) (by decide)]; exact k7 k hk
  · rw [h.1 552 (by decide) (by decide) (by decide) (by decide)]; exact k8 k hk
theorem FN.lm {J1 : Nat → Nat → Int} (h : FN J J1) (hT : LM J T) : LM J1 T := LM_cf hT (h.2 35 (by decide)) (h.1 555 (by decide) (by decide) (by decide) (by decide)) (h.1 556 (by decide) (by decide) (by decide) (by decide))
theorem FQ.fn {J' : Nat → Nat → Int} (h : FN J J') : FQ J J' := ⟨fun c q1 q2 => by unfold scM at q1; exact h.1 c q2 (by omega) (by omega) (by omega), fun k _ q2 => h.2 k q2⟩
theorem e_266 {n : Nat} (hV : VM J V) (bV : VBd V) (hT : LM J T) (wf : LWF T) (hS : MV J 561 s) (bs : SBd (vn V) s) (hd : 0 ≤ s 49 ∧ s 49 ≤ 600) (hn : n ≤ 96) (hq : InR q) : ∃ J', EE X 6 266 [.ref 542, iv sd, iv q, iv (n : Int)] (mj J sw lg x) (.inl none) (mj J' sw lg x) ∧ MV J' 562 (gnA V T q sd s n).2 ∧ FN J J' := by
  have v1 := bV.1
  have v2 := bV.2.1
  have v3 := bV.2.2.1
  refine EE.ex (O := fun _ => .inl none) (F := fun J' => mj J' sw lg x) mt_266 (b_266_0 (by omega) ?_)
  refine ex0 (e_204 hS) (fun J1 h1 => ?_)
  have F1 : FN J J1 := FN.fm h1.2
  have hV1 := F1.vm hV
  rw [hV1.1, hV1.2.1, hV1.2.2.1]
  have key : ∀ b : Int, (b = 1 ∧ (0 < vh V ∧ 0 < ve V ∧ 0 < vn V)) ∨ (b = 0 ∧ ¬ (0 < vh V ∧ 0 < ve V ∧ 0 < vn V)) → VV X 6 266 (40, [some (.ref 542), some (iv sd), some (iv q), some (iv (n : Int)), some (iv b), some (iv 0), none, none, none], [], mj (m_up J1 542 57 sd) sw lg x) (fun o M => ∃ z, o = .inl none ∧ M = mj z sw lg x ∧ MV z 562 (gnA V T q sd s n).2 ∧ FN J z) := by
    intro b hb
    refine lp (P := fun k => ∀ J' (o6 o7 o8 : Option Value), MV J' 562 (gnA V T q sd s k).2 → J' 542 57 = (gnA V T q sd s k).1 → FN J J' → VV X 6 266 (40, [some (.ref 542), some (iv sd), some (iv q), some (iv (n : Int)), some (iv b), some (iv k), o6, o7, o8], [], mj J' sw lg x) (fun o M => ∃ z, o = .inl none ∧ M = mj z sw lg x ∧ MV z 562 (gnA V T q sd s n).2 ∧ FN J z)) n ?_ ?_ 0 (Nat.zero_le _) _ _ _ _ (MV_ne h1.1 _ _ (by decide)) (up_eq _ _ _ _) (F1.tr FN.up)
    · intro J' o6 o7 o8 hS' he hF
      exact b_266_40 (by omega) ⟨by omega, by omega, fun _ => ⟨J', rfl, rfl, hS', hF⟩, fun c => by omega⟩
    · intro k hk ih J' o6 o7 o8 hS' he hF
      have bi := gnA_b (T := T) (q := q) (sd := sd) bV bs k
      have hV' := hF.vm hV
      refine b_266_40 (by omega) ⟨by omega, by omega, fun c => by omega, fun _ => ⟨by omega, fun c => ?_, fun c => ?_⟩⟩
      · have hp : ¬ (0 < vh V ∧ 0 < ve V ∧ 0 < vn V) := by rcases hb with z | z; omega; exact z.2
        refine ex0 (e_216 hV' bV hS' bi.1 (by omega)) (fun J2 h2 => ih J2 _ _ _ ?_ ?_ (hF.tr (FN.fm h2.2)))
        · rw [gnA, if_neg hp]; exact h2.1
        · rw [gnA, if_neg hp, h2.2 542 (by omega)]; exact he
      · have hp : 0 < vh V ∧ 0 < ve V ∧ 0 < vn V := by rcases hb with z | z; exact z.2; omega
        have gb := gdA_b (T := T) (q := q) (z := ((gnA V T q sd s k).1, (gnA V T q sd s k).2)) bV bi.1 hp
        have ge : (gdA V T q ((gnA V T q sd s k).1, (gnA V T q sd s k).2)).2 49 = (gnA V T q sd s k).2 49 := gb.2
        generalize hs0 : (gnA V T q sd s k).1 = sd0 at he gb ge
        generalize hs1 : (gnA V T q sd s k).2 = s0 at hS' gb ge bi
        have h1 := drV_lt (s := sd0) hp.1
        have h2 := drV_lt (s := nxS sd0) hp.2.1
        have h3 := drV_lt (s := nxS (nxS sd0)) hp.2.2
        have d1 := darnA_b (T := T) bV bi.1 h1 h2 h3
        have gn : gnA V T q sd s (k + 1) = ((gdA V T q (sd0, s0)).1, passA V (gdA V T q (sd0, s0)).2) := by
          rw [gnA, if_pos hp, ← hs0, ← hs1]
        rw [hV'.2.1]
        refine ⟨_, _, e_265 he hp.1 (by omega), ?_⟩
        have G1 : FN J (m_up J' 542 57 (nxS sd0)) := hF.tr FN.up
        rw [(G1.vm hV).1]
        refine ⟨_, _, e_265 (up_eq _ _ _ _) hp.2.1 (by omega), ?_⟩
        have G2 := G1.tr (FN.up (w := nxS (nxS sd0)))
        rw [(G2.vm hV).2.2.1]
        refine ⟨_, _, e_265 (up_eq _ _ _ _) hp.2.2 (by omega), ?_⟩
        have G3 := G2.tr (FN.up (w := nxS (nxS (nxS sd0))))
        have S3 := MV_ne (MV_ne (MV_ne hS' 57 (nxS sd0) (show 562 ≠ 542 by decide)) 57 (nxS (nxS sd0)) (show 562 ≠ 542 by decide)) 57 (nxS (nxS (nxS sd0))) (show 562 ≠ 542 by decide)
        have e3 : (m_up (m_up (m_up J' 542 57 (nxS sd0)) 542 57 (nxS (nxS sd0))) 542 57 (nxS (nxS (nxS sd0)))) 542 57 = nxS (nxS (nxS sd0)) := up_eq _ _ _ _
        generalize m_up (m_up (m_up J' 542 57 (nxS sd0)) 542 57 (nxS (nxS sd0))) 542 57 (nxS (nxS (nxS sd0))) = J3 at G3 S3 e3 ⊢
        obtain ⟨J4, r4, hr4, hE4, hF4⟩ := e_212 (X := X) (sw := sw) (lg := lg) (x := x) (G3.vm hV) bV (G3.lm hT) wf S3 bi.1 (show 0 ≤ s0 49 ∧ s0 49 ≤ 2000 by omega) h1 h2 h3
        have S4 : MV J4 562 (darnA V T s0 (drV sd0 (vh V)) (drV (nxS sd0) (ve V)) (drV (nxS (nxS sd0)) (vn V))).2 := by
          rcases hr4 with ⟨hc, _, hm⟩ | ⟨hc, _, hm⟩
          · rw [darnA_y hc]; exact hm
          · rw [darnA_n hc]; exact hm
        have G4 := G3.tr (FN.ml hF4)
        have e4 : J4 542 57 = nxS (nxS (nxS sd0)) := by rw [hF4 542 (by decide) (by decide) (by decide)]; exact e3
        refine ⟨_, J4, hE4, _, _, e_265 (n := 16) e4 (by decide) (by decide), ?_⟩
        have G5 := G4.tr (FN.up (w := nxS (nxS (nxS (nxS sd0)))))
        have S5 := MV_ne S4 57 (nxS (nxS (nxS (nxS sd0)))) (show 562 ≠ 542 by decide)
        have e5 : (m_up J4 542 57 (nxS (nxS (nxS (nxS sd0))))) 542 57 = nxS (nxS (nxS (nxS sd0))) := up_eq _ _ _ _
        generalize m_up J4 542 57 (nxS (nxS (nxS (nxS sd0)))) = J5 at G5 S5 e5 ⊢
        have h6 := drV_lt (s := nxS (nxS (nxS sd0))) (n := 16) (by decide)
        refine ⟨by omega, hq, fun c => ?_, fun c => ?_⟩
        · have gq : gdA V T q (sd0, s0) = (nxS (nxS (nxS (nxS sd0))), (darnA V T s0 (drV sd0 (vh V)) (drV (nxS sd0) (ve V)) (drV (nxS (nxS sd0)) (vn V))).2) := by
            unfold gdA; dsimp only; rw [if_neg (by omega)]
          refine ex0 (e_216 (G5.vm hV) bV S5 d1.1 (by rw [d1.2]; omega)) (fun J6 h6 => ih J6 _ _ _ ?_ ?_ (G5.tr (FN.fm h6.2)))
          · rw [gn, gq]; exact h6.1
          · rw [gn, gq, h6.2 542 (by decide)]; exact e5
        · have gq : gdA V T q (sd0, s0) = (nxS (nxS (nxS (nxS sd0))), (letA V (darnA V T s0 (drV sd0 (vh V)) (drV (nxS sd0) (ve V)) (drV (nxS (nxS sd0)) (vn V))).2 (drV (nxS sd0) (ve V)) (drV (nxS (nxS sd0)) (vn V))).2) := by
            unfold gdA; dsimp only; rw [if_pos c]
          have l1 := letA_b bV d1.1 h2 h3
          refine ex1 (e_213 (G5.vm hV) bV S5 d1.1 h2 h3) (fun J6 h6 => ?_)
          have G6 := G5.tr (FN.fm h6.2)
          refine ex0 (e_216 (G6.vm hV) bV h6.1 l1.1 (by rw [l1.2, d1.2]; omega)) (fun J7 h7 => ih J7 _ _ _ ?_ ?_ (G6.tr (FN.fm h7.2)))
          · rw [gn, gq]; exact h7.1
          · rw [gn, gq, h7.2 542 (by decide), h6.2 542 (by decide)]; exact e5
  refine ⟨by omega, fun c => key 0 (Or.inr ⟨rfl, by omega⟩), fun c1 => ⟨by omega, fun c => key 0 (Or.inr ⟨rfl, by omega⟩), fun c2 => ⟨by omega, fun c => key 0 (Or.inr ⟨rfl, by omega⟩), fun c3 => key 1 (Or.inl ⟨rfl, by omega, by omega, by omega⟩)⟩⟩⟩
end Q7
