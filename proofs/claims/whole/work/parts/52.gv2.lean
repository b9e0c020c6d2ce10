/-! which hand for which hole: the tables filled -/
section GW
variable {X : Nat × (Nat → Int32)} {J : Nat → Nat → Int} {sw : Bool × Bool × Bool} {lg : Nat → Nat → Int64} {x a v l e h p set : Nat} {V : VT} {T : LT} {s : Nat → Int}
theorem LK_cg {J J' : Nat → Nat → Int} {l : Nat} {T : LT} (hT : LK J l T) (h0 : J' l = J l) (h1 : J' (l + 1) = J (l + 1)) : LK J' l T := ⟨by rw [h0]; exact hT.1, fun k hk => by rw [h1]; exact hT.2 k hk⟩
theorem LM_cg {J J' : Nat → Nat → Int} {T : LT} (hT : LM J T) (h0 : J' 542 35 = J 542 35) (h1 : J' 555 = J 555) (h2 : J' 556 = J 556) : LM J' T := ⟨by rw [h0]; exact hT.1, fun k hk => by rw [h1, h2]; exact hT.2 k hk⟩
def FG (l : Nat) (J J' : Nat → Nat → Int) : Prop := ∀ c, c ≠ l + 2 → c ≠ l + 3 → c ≠ 537 → c ≠ 538 → J' c = J c
set_option maxHeartbeats 1000000 in
theorem e_10 (h1 : SH[a]? = some (11, 9)) (h2 : SH[v]? = some (14, 12)) (h3 : SH[l]? = some (8, 4)) (hV : VK J v V) (bV : VBd V) (hT : LK J l T) (wf : LWF T) (hS : SV J a s) (bs : SBd (vn V) s) (hd : 0 ≤ s 49 ∧ s 49 ≤ 2000) (he : e < ve V) : ∃ J', EE X 3 10 [.ref 536, .ref a, .ref v, .ref l, iv (e : Int)] (mj J sw lg x) (.inl none) (mj J' sw lg x) ∧ GT J' V T s e 0 ∧ FG l J J' := by
  have h6 := bV.2.1
  have h9 := bV.2.2.1
  have hp9 : 2 ^ vn V ≤ 512 := show 2 ^ vn V ≤ 2 ^ 9 from Nat.pow_le_pow_right (by decide) h9
  have hp0 := Nat.two_pow_pos (vn V)
  have ba := bnd_6 h1
  have bv := bnd_9 h2
  have bl := bnd_3 h3
  have fS : ∀ J', FG l J J' → SV J' a s := fun J' hF => SV_fr hS (fun c q1 q2 => hF c (by omega) (by omega) (by omega) (by omega))
  have fV : ∀ J', FG l J J' → VK J' v V := fun J' hF => VK_cg hV (fun c q1 q2 => hF c (by omega) (by omega) (by omega) (by omega))
  have fT : ∀ J', FG l J J' → LK J' l T := fun J' hF => LK_cg hT (hF _ (by omega) (by omega) (by omega) (by omega)) (hF _ (by omega) (by omega) (by omega) (by omega))
  refine EE.ex (O := fun _ => .inl none) (F := fun J' => mj J' sw lg x) mt_10 (b_10_0 h1 h2 h3 (by omega) ?_)
  -- the table, from the last hand back
  have tab := lp (P := fun r => ∀ (J' : Nat → Nat → Int) (xx : Int) (o3 o7 : Option Value), xx = (vh V : Int) - 1 - r → GT J' V T s e (vh V - r) → FG l J J' → VV X 3 10 (120, [some (.ref 536), some (.ref a), some (.ref v), o3, some (iv (e : Int)), some (iv ((2 ^ vn V : Nat) : Int)), some (iv xx), o7], [], mj J' sw lg x) (fun o M => ∃ z, o = .inl none ∧ M = mj z sw lg x ∧ GT z V T s e 0 ∧ FG l J z)) (vh V) ?_ ?_ 0 (Nat.zero_le _)
  · -- the row behind the last hand
    have zero := lp (P := fun k => ∀ (J' : Nat → Nat → Int) (o3 o7 : Option Value), (∀ i p, i < vh V → p < vn V → J' 537 (i * 9 + p) = gainA V T s e i p) → (∀ q, q < k → J' 538 (vh V * 512 + q) = 0) → FG l J J' → VV X 3 10 (82, [some (.ref 536), some (.ref a), some (.ref v), o3, some (iv (e : Int)), some (iv ((2 ^ vn V : Nat) : Int)), some (iv k), o7], [], mj J' sw lg x) (fun o M => ∃ z, o = .inl none ∧ M = mj z sw lg x ∧ GT z V T s e 0 ∧ FG l J z)) (2 ^ vn V) ?_ ?_ 0 (Nat.zero_le _)
    · -- what each hand would take off each hole
      have gains := lp (P := fun i => ∀ (J' : Nat → Nat → Int) (o6 o7 : Option Value), (∀ i' p, i' < i → p < vn V → J' 537 (i' * 9 + p) = gainA V T s e i' p) → FG l J J' → VV X 3 10 (3, [some (.ref 536), some (.ref a), some (.ref v), some (.ref l), some (iv (e : Int)), some (iv i), o6, o7], [], mj J' sw lg x) (fun o M => ∃ z, o = .inl none ∧ M = mj z sw lg x ∧ GT z V T s e 0 ∧ FG l J z)) (vh V) ?_ ?_ 0 (Nat.zero_le _)
      · exact gains J _ _ (fun i' p hi => absurd hi (Nat.not_lt_zero _)) (fun _ _ _ _ _ => rfl)
      · intro J' o6 o7 hg hF
        have hV' := fV J' hF
        refine b_10_3 h1 h2 h3 (by omega) ?_
        rw [hV'.2.1, hV'.2.2.1, q_shl (vn V) (by omega)]
        exact ⟨by omega, by omega, fun _ => zero J' _ _ hg (fun q hq => absurd hq (Nat.not_lt_zero _)) hF, fun c => by omega⟩
      · intro i hi ih J' o6 o7 hg hF
        have hV' := fV J' hF
        refine b_10_3 h1 h2 h3 (by omega) ?_
        rw [hV'.2.1]
        refine ⟨by omega, by omega, fun c => by omega, fun _ => ?_⟩
        have inner := lp (P := fun p => ∀ (J' : Nat → Nat → Int) (o7 : Option Value), (∀ i' p', (i' < i ∨ i' = i ∧ p' < p) → p' < vn V → J' 537 (i' * 9 + p') = gainA V T s e i' p') → FG l J J' → VV X 3 10 (15, [some (.ref 536), some (.ref a), some (.ref v), some (.ref l), some (iv (e : Int)), some (iv i), some (iv p), o7], [], mj J' sw lg x) (fun o M => ∃ z, o = .inl none ∧ M = mj z sw lg x ∧ GT z V T s e 0 ∧ FG l J z)) (vn V) ?_ ?_ 0 (Nat.zero_le _)
        · exact inner J' _ (fun i' p' h p2 => hg i' p' (by omega) p2) hF
        · intro J' o7 hg hF
          have hV' := fV J' hF
          refine b_10_15 h1 h2 h3 (by omega) ?_
          rw [hV'.2.2.1]
          exact ⟨by omega, by omega, fun _ => ih J' _ _ (fun i' p' h hp => hg i' p' (by omega) hp) hF, fun c => by omega⟩
        · intro p hp ih2 J' o7 hg hF
          have hV' := fV J' hF
          have hS' := fS J' hF
          have hT' := fT J' hF
          have bw := bs.2.2.2.1 p (by omega)
          have ew : J' (a + 5) (p : Int).toNat = s (30 + p) := hS'.2.2.2.2.1 p (by omega)
          have mb : 0 ≤ mendA V T s i e p ∧ mendA V T s i e p ≤ 20 := mendL_b T _
          refine b_10_15 h1 h2 h3 (by omega) ?_
          rw [hV'.2.2.1, ew]
          refine ⟨by omega, by omega, fun c => by omega, fun _ => ⟨by omega, ex1 (e_48 h1 h2 h3 hV' bV hT' wf hS' bs hd hi he hp) (fun J1 hfr => ⟨by omega, by omega, by omega, ?_⟩)⟩⟩
          rw [show ((i : Int) * 9 + p).toNat = i * 9 + p by omega]
          refine ih2 _ _ (fun i' p' h hp' => ?_) (fun c q1 q2 q3 q4 => by rw [up_r q3, hfr c q1 q2]; exact hF c q1 q2 q3 q4)
          by_cases z : i' * 9 + p' = i * 9 + p
          · have : i' = i ∧ p' = p := by omega
            obtain ⟨rfl, rfl⟩ := this
            rw [up_eq]
            unfold gainA
            omega
          · rw [up_nk z, hfr 537 (by omega) (by omega)]
            exact hg i' p' (by omega) hp'
    · intro J' o3 o7 hg hz hF
      have hV' := fV J' hF
      refine b_10_82 h1 h2 (by omega) ?_
      rw [hV'.2.1]
      refine ⟨by omega, by omega, fun _ => tab J' _ _ _ (by omega) ⟨hg, fun i set q1 q2 q3 q4 => ?_⟩ hF, fun c => by omega⟩
      have : i = vh V := by omega
      subst this
      rw [mostA_end]; exact hz set q3
    · intro k hk ih J' o3 o7 hg hz hF
      have hV' := fV J' hF
      refine b_10_82 h1 h2 (by omega) ?_
      rw [hV'.2.1, show ((vh V : Int) * 512 + k).toNat = vh V * 512 + k by omega]
      refine ⟨by omega, by omega, fun c => by omega, fun _ => ⟨by omega, ih _ _ _ (fun i p q1 q2 => by rw [up_na (by decide)]; exact hg i p q1 q2) (fun q hq => ?_) (fun c q1 q2 q3 q4 => by rw [up_r q4]; exact hF c q1 q2 q3 q4)⟩⟩
      by_cases z : q = k
      · subst z; rw [up_eq]
      · rw [up_nk (by omega)]; exact hz q (by omega)
  · intro J' xx o3 o7 hx hG hF
    rw [Nat.sub_self] at hG
    exact b_10_120 h1 h2 (by omega) ⟨by omega, fun _ => ⟨J', rfl, rfl, hG, hF⟩, fun c => by omega⟩
  · intro r hr ih J' xx o3 o7 hx hG hF
    obtain ⟨h, hh⟩ : ∃ h, h = vh V - (r + 1) := ⟨_, rfl⟩
    have hxx : xx = (h : Int) := by omega
    have hh1 : vh V - r = h + 1 := by omega
    rw [hh1] at hG
    rw [hxx]
    refine b_10_120 h1 h2 (by omega) ⟨by omega, fun c => by omega, fun _ => ?_⟩
    have inner := lp (P := fun k => ∀ (J' : Nat → Nat → Int), GT J' V T s e (h + 1) → (∀ q, q < k → cntF q.testBit 9 ≤ h → J' 538 (h * 512 + q) = mostA V T s e h q) → FG l J J' → VV X 3 10 (128, [some (.ref 536), some (.ref a), some (.ref v), o3, some (iv (e : Int)), some (iv ((2 ^ vn V : Nat) : Int)), some (iv (h : Int)), some (iv k)], [], mj J' sw lg x) (fun o M => ∃ z, o = .inl none ∧ M = mj z sw lg x ∧ GT z V T s e 0 ∧ FG l J z)) (2 ^ vn V) ?_ ?_ 0 (Nat.zero_le _)
    · exact inner J' hG (fun q hq => absurd hq (Nat.not_lt_zero _)) hF
    · intro J' hG hq hF
      refine b_10_128 h1 h2 (by omega) ⟨by omega, by omega, fun _ => ih J' _ _ _ (by omega) ⟨hG.1, fun i set q1 q2 q3 q4 => ?_⟩ hF, fun c => by omega⟩
      by_cases z : i = h
      · subst z; exact hq set q3 (by omega)
      · exact hG.2 i set (by omega) q2 q3 q4
    · intro k hk ih2 J' hG hq hF
      have hc := cntF_le k.testBit 9
      refine b_10_128 h1 h2 (by omega) ⟨by omega, by omega, fun c => by omega, fun _ => ⟨_, J', e_276 (by omega), by omega, by omega, fun c => ?_, fun c => ⟨_, J', e_11 (T := T) (e := e) h1 h2 (fV J' hF) bV (fS J' hF) bs hG (by omega) hk (by omega), by omega, ?_⟩⟩⟩
      · exact ih2 J' hG (fun q hq1 hq2 => hq q (by
          by_cases z : q = k
          · subst z; omega
          · omega) hq2) hF
      · rw [show ((h : Int) * 512 + k).toNat = h * 512 + k by omega]
        refine ih2 _ ⟨fun i p q1 q2 => by rw [up_na (by decide)]; exact hG.1 i p q1 q2, fun i set q1 q2 q3 q4 => ?_⟩ (fun q q1 q2 => ?_) (fun c q1 q2 q3 q4 => by rw [up_r q4]; exact hF c q1 q2 q3 q4)
        · rw [up_nk (by omega)]; exact hG.2 i set q1 q2 q3 q4
        · by_cases z : q = k
          · subst z; rw [up_eq]
          · rw [up_nk (by omega)]; exact hq q (by omega) q2
def FH (J J' : Nat → Nat → Int) : Prop := ∀ c, c ≠ 562 → c ≠ 557 → c ≠ 558 → c ≠ 566 → c ≠ 567 → c ≠ 568 → J' c = J c
/-- the reference's tables from hand h on -/
def RT (J : Nat → Nat → Int) (V : VT) (T : LT) (s : Nat → Int) (e h : Nat) : Prop := (∀ i p, i < vh V → p < vn V → J 567 (9 * i + p) = gainA V T s e i p) ∧ ∀ i set, h ≤ i → i ≤ vh V → set < 2 ^ vn V → J 566 (i * 512 + set) = mostA V T s e i set
theorem e_240 (bV : VBd V) (hG : RT J V T s e (h + 1)) (hh : h < vh V) (hp : p < vn V) (hs : set < 2 ^ vn V) : EE X 0 240 [.ref 542, iv (h : Int), iv (p : Int), iv (set : Int)] (mj J sw lg x) (.inl (some (iv (gainA V T s e h p + mostA V T s e (h + 1) (set ||| 2 ^ p))))) (mj J sw lg x) := by
  have h6 := bV.2.1
  have h9 := bV.2.2.1
  have hp9 : 2 ^ vn V ≤ 512 := show 2 ^ vn V ≤ 2 ^ 9 from Nat.pow_le_pow_right (by decide) h9
  have h1 := pow_512 (p := p) (by omega)
  have h2 := or_512 (a := set) (b := 2 ^ p) (by omega) h1
  have h3 : set ||| 2 ^ p < 2 ^ vn V := or_lt hs (Nat.pow_lt_pow_right (by decide) hp)
  refine EE.of mt_240 (b_240_0 ?_)
  rw [show (h : Int) + 1 = ((h + 1 : Nat) : Int) by omega, q_idx2 (by omega) (by omega) (by omega), Int.toNat_natCast, show (9 * (h : Int) + p).toNat = 9 * h + p by omega, hG.1 h p hh hp, hG.2 (h + 1) _ (Nat.le_refl _) (by omega) h3]
  exact ⟨by omega, by omega, rfl, rfl⟩
set_option maxHeartbeats 1000000 in
theorem e_239 (hV0 : VM J V) (bV : VBd V) (hT0 : LM J T) (wf : LWF T) (hs0 : MV J 561 s) (bs : SBd (vn V) s) (hd : 0 ≤ s 49 ∧ s 49 ≤ 2000) (he : e < ve V) : ∃ J', EE X 5 239 [.ref 542, iv (e : Int)] (mj J sw lg x) (.inl none) (mj J' sw lg x) ∧ J' 566 0 = mostA V T s e 0 0 ∧ (∀ h, h < vh V → J' 568 h = gvA V T s e h (gvS V T s e h)) ∧ FH J J' := by
  have h6 := bV.2.1
  have h9 := bV.2.2.1
  have hp9 : 2 ^ vn V ≤ 512 := show 2 ^ vn V ≤ 2 ^ 9 from Nat.pow_le_pow_right (by decide) h9
  have hp0 := Nat.two_pow_pos (vn V)
  refine EE.ex (O := fun _ => .inl none) (F := fun J' => mj J' sw lg x) mt_239 (b_239_0 (by omega) ?_)
  refine ex0 (e_204 hs0) (fun JA hA => ?_)
  have fV : ∀ J', FH J J' → VM J' V := fun J' hF => VM_fr hV0 (fun c hc => hF c (by omega) (by omega) (by omega) (by omega) (by omega) (by omega))
  have fT : ∀ J', FH J J' → LM J' T := fun J' hF => LM_cg hT0 (by rw [hF 542 (by decide) (by decide) (by decide) (by decide) (by decide) (by decide)]) (hF _ (by decide) (by decide) (by decide) (by decide) (by decide) (by decide)) (hF _ (by decide) (by decide) (by decide) (by decide) (by decide) (by decide))
  -- the hands in a row
  have give := lp (P := fun h => ∀ (J' : Nat → Nat → Int) (o4 o5 : Option Value), RT J' V T s e 0 → MV J' 562 s → (∀ i, i < h → J' 568 i = gvA V T s e i (gvS V T s e i)) → FH J J' → VV X 5 239 (242, [some (.ref 542), some (iv (e : Int)), some (iv (gvS V T s e h : Nat)), some (iv h), o4, o5], [], mj J' sw lg x) (fun o M => ∃ z, o = .inl none ∧ M = mj z sw lg x ∧ z 566 0 = mostA V T s e 0 0 ∧ (∀ h, h < vh V → z 568 h = gvA V T s e h (gvS V T s e h)) ∧ FH J z)) (vh V) ?_ ?_ 0 (Nat.zero_le _)
  · -- the table
    have tab := lp (P := fun r => ∀ (J' : Nat → Nat → Int) (xx : Int) (o3 o4 o5 : Option Value), xx = (vh V : Int) - 1 - r → RT J' V T s e (vh V - r) → MV J' 562 s → FH J J' → VV X 5 239 (124, [some (.ref 542), some (iv (e : Int)), some (iv xx), o3, o4, o5], [], mj J' sw lg x) (fun o M => ∃ z, o = .inl none ∧ M = mj z sw lg x ∧ z 566 0 = mostA V T s e 0 0 ∧ (∀ h, h < vh V → z 568 h = gvA V T s e h (gvS V T s e h)) ∧ FH J z)) (vh V) ?_ ?_ 0 (Nat.zero_le _)
    · have zero := lp (P := fun k => ∀ (J' : Nat → Nat → Int) (o3 o4 o5 : Option Value), (∀ i p, i < vh V → p < vn V → J' 567 (9 * i + p) = gainA V T s e i p) → (∀ q, q < k → J' 566 (vh V * 512 + q) = 0) → MV J' 562 s → FH J J' → VV X 5 239 (86, [some (.ref 542), some (iv (e : Int)), some (iv k), o3, o4, o5], [], mj J' sw lg x) (fun o M => ∃ z, o = .inl none ∧ M = mj z sw lg x ∧ z 566 0 = mostA V T s e 0 0 ∧ (∀ h, h < vh V → z 568 h = gvA V T s e h (gvS V T s e h)) ∧ FH J z)) (2 ^ vn V) ?_ ?_ 0 (Nat.zero_le _)
      · have gains := lp (P := fun i => ∀ (J' : Nat → Nat → Int) (o3 o4 o5 : Option Value), (∀ i' p, i' < i → p < vn V → J' 567 (9 * i' + p) = gainA V T s e i' p) → MV J' 562 s → FH J J' → VV X 5 239 (6, [some (.ref 542), some (iv (e : Int)), some (iv i), o3, o4, o5], [], mj J' sw lg x) (fun o M => ∃ z, o = .inl none ∧ M = mj z sw lg x ∧ z 566 0 = mostA V T s e 0 0 ∧ (∀ h, h < vh V → z 568 h = gvA V T s e h (gvS V T s e h)) ∧ FH J z)) (vh V) ?_ ?_ 0 (Nat.zero_le _)
        · exact gains JA _ _ _ (fun i' p hi => absurd hi (Nat.not_lt_zero _)) hA.1 (fun c q1 _ _ _ _ _ => hA.2 c q1)
        · intro J' o3 o4 o5 hg hs hF
          have hV' := fV J' hF
          refine b_239_6 (by omega) ?_
          rw [hV'.2.1]
          exact ⟨by omega, by omega, fun _ => zero J' _ _ _ hg (fun q hq => absurd hq (Nat.not_lt_zero _)) hs hF, fun c => by omega⟩
        · intro i hi ih J' o3 o4 o5 hg hs hF
          have hV' := fV J' hF
          refine b_239_6 (by omega) ?_
          rw [hV'.2.1]
          refine ⟨by omega, by omega, fun c => by omega, fun _ => ?_⟩
          have inner := lp (P := fun p => ∀ (J' : Nat → Nat → Int) (o4 o5 : Option Value), (∀ i' p', (i' < i ∨ i' = i ∧ p' < p) → p' < vn V → J' 567 (9 * i' + p') = gainA V T s e i' p') → MV J' 562 s → FH J J' → VV X 5 239 (16, [some (.ref 542), some (iv (e : Int)), some (iv i), some (iv p), o4, o5], [], mj J' sw lg x) (fun o M => ∃ z, o = .inl none ∧ M = mj z sw lg x ∧ z 566 0 = mostA V T s e 0 0 ∧ (∀ h, h < vh V → z 568 h = gvA V T s e h (gvS V T s e h)) ∧ FH J z)) (vn V) ?_ ?_ 0 (Nat.zero_le _)
          · exact inner J' _ _ (fun i' p' h p2 => hg i' p' (by omega) p2) hs hF
          · intro J' o4 o5 hg hs hF
            have hV' := fV J' hF
            refine b_239_16 (by omega) ?_
            rw [hV'.2.2.1]
            exact ⟨by omega, by omega, fun _ => ih J' _ _ _ (fun i' p' h hp => hg i' p' (by omega) hp) hs hF, fun c => by omega⟩
          · intro p hp ih2 J' o4 o5 hg hs hF
            have hV' := fV J' hF
            have hT' := fT J' hF
            have bw := bs.2.2.2.1 p (by omega)
            have mb : 0 ≤ mendA V T s i e p ∧ mendA V T s i e p ≤ 20 := mendL_b T _
            refine b_239_16 (by omega) ?_
            rw [hV'.2.2.1]
            refine ⟨by omega, by omega, fun c => by omega, fun _ => ex1 (e_207 hV' bV hT' wf hs bs hd hi he hp) (fun J1 hfr => ?_)⟩
            have hs1 : MV J1 562 s := MV_fr hs (hfr 562 (by decide) (by decide))
            have ew : J1 562 (30 + (p : Int)).toNat = s (30 + p) := hs1 (30 + p) (by omega)
            rw [ew, show (9 * (i : Int) + p).toNat = 9 * i + p by omega]
            have go : ∀ w o4, w = gainA V T s e i p → VV X 5 239 (16, [some (.ref 542), some (iv (e : Int)), some (iv i), some (iv ((p : Int) + 1)), o4, o5], [], mj (m_up J1 567 (9 * i + p) w) sw lg x) (fun o M => ∃ z, o = .inl none ∧ M = mj z sw lg x ∧ z 566 0 = mostA V T s e 0 0 ∧ (∀ h, h < vh V → z 568 h = gvA V T s e h (gvS V T s e h)) ∧ FH J z) := by
              intro w o4 hw
              refine ih2 _ _ _ (fun i' p' h hp' => ?_) (MV_ne hs1 _ _ (by decide)) (fun c q1 q2 q3 q4 q5 q6 => by rw [up_r q5, hfr c q2 q3]; exact hF c q1 q2 q3 q4 q5 q6)
              by_cases z : 9 * i' + p' = 9 * i + p
              · have : i' = i ∧ p' = p := by omega
                obtain ⟨rfl, rfl⟩ := this
                rw [up_eq]; exact hw
              · rw [up_nk z, hfr 567 (by decide) (by decide)]
                exact hg i' p' (by omega) hp'
            exact ⟨by omega, by omega, by omega, fun c => ⟨by omega, go _ _ (by unfold gainA; omega)⟩, fun c => ⟨by omega, go _ _ (by unfold gainA; omega)⟩⟩
      · intro J' o3 o4 o5 hg hz hs hF
        have hV' := fV J' hF
        refine b_239_86 (by omega) ?_
        rw [hV'.2.1, hV'.2.2.1, q_shl (vn V) (by omega)]
        refine ⟨by omega, fun _ => tab J' _ _ _ _ (by omega) ⟨hg, fun i set q1 q2 q3 => ?_⟩ hs hF, fun c => by omega⟩
        have : i = vh V := by omega
        subst this
        rw [mostA_end]; exact hz set q3
      · intro k hk ih J' o3 o4 o5 hg hz hs hF
        have hV' := fV J' hF
        refine b_239_86 (by omega) ?_
        rw [hV'.2.1, hV'.2.2.1, q_shl (vn V) (by omega), q_idx (by omega) (by omega), Int.toNat_natCast]
        refine ⟨by omega, fun c => by omega, fun _ => ⟨by omega, ih _ _ _ _ (fun i p q1 q2 => by rw [up_na (by decide)]; exact hg i p q1 q2) (fun q hq => ?_) (MV_ne hs _ _ (by decide)) (fun c q1 q2 q3 q4 q5 q6 => by rw [up_r q4]; exact hF c q1 q2 q3 q4 q5 q6)⟩⟩
        by_cases z : q = k
        · subst z; rw [up_eq]
        · rw [up_nk (by omega)]; exact hz q (by omega)
    · intro J' xx o3 o4 o5 hx hG hs hF
      rw [Nat.sub_self] at hG
      exact b_239_124 (by omega) ⟨by omega, fun _ => give J' _ _ hG hs (fun i hi => absurd hi (Nat.not_lt_zero _)) hF, fun c => by omega⟩
    · intro r hr ih J' xx o3 o4 o5 hx hG hs hF
      obtain ⟨h, hh⟩ : ∃ h, h = vh V - (r + 1) := ⟨_, rfl⟩
      have hxx : xx = (h : Int) := by omega
      have hh1 : vh V - r = h + 1 := by omega
      rw [hh1] at hG
      rw [hxx]
      refine b_239_124 (by omega) ⟨by omega, fun c => by omega, fun _ => ?_⟩
      have inner := lp (P := fun k => ∀ (J' : Nat → Nat → Int) (o4 o5 : Option Value), RT J' V T s e (h + 1) → (∀ q, q < k → J' 566 (h * 512 + q) = mostA V T s e h q) → MV J' 562 s → FH J J' → VV X 5 239 (130, [some (.ref 542), some (iv (e : Int)), some (iv (h : Int)), some (iv k), o4, o5], [], mj J' sw lg x) (fun o M => ∃ z, o = .inl none ∧ M = mj z sw lg x ∧ z 566 0 = mostA V T s e 0 0 ∧ (∀ h, h < vh V → z 568 h = gvA V T s e h (gvS V T s e h)) ∧ FH J z)) (2 ^ vn V) ?_ ?_ 0 (Nat.zero_le _)
      · exact inner J' _ _ hG (fun q hq => absurd hq (Nat.not_lt_zero _)) hs hF
      · intro J' o4 o5 hG hq hs hF
        have hV' := fV J' hF
        refine b_239_130 (by omega) ?_
        rw [hV'.2.2.1, q_shl (vn V) (by omega)]
        refine ⟨by omega, fun _ => ih J' _ _ _ _ (by omega) ⟨hG.1, fun i set q1 q2 q3 => ?_⟩ hs hF, fun c => by omega⟩
        by_cases z : i = h
        · subst z; exact hq set q3
        · exact hG.2 i set (by omega) q2 q3
      · intro k hk ih2 J' o4 o5 hG hq hs hF
        have hV' := fV J' hF
        have hbusy : J' 562 (18 + (h : Int)).toNat = s (18 + h) := hs (18 + h) (by omega)
        have hbb := bs.2.2.1 h (by omega)
        have e1 : J' 566 ((h + 1) * 512 + k) = mostA V T s e (h + 1) k := hG.2 (h + 1) k (Nat.le_refl _) (by omega) hk
        have done : ∀ w o5, w = mostA V T s e h k → VV X 5 239 (130, [some (.ref 542), some (iv (e : Int)), some (iv (h : Int)), some (iv ((k : Int) + 1)), some (iv w), o5], [], mj (m_up J' 566 (h * 512 + k) w) sw lg x) (fun o M => ∃ z, o = .inl none ∧ M = mj z sw lg x ∧ z 566 0 = mostA V T s e 0 0 ∧ (∀ h, h < vh V → z 568 h = gvA V T s e h (gvS V T s e h)) ∧ FH J z) := by
          intro w o5 hw
          refine ih2 _ _ _ ⟨fun i p q1 q2 => by rw [up_na (by decide)]; exact hG.1 i p q1 q2, fun i set q1 q2 q3 => ?_⟩ (fun q hq1 => ?_) (MV_ne hs _ _ (by decide)) (fun c q1 q2 q3 q4 q5 q6 => by rw [up_r q4]; exact hF c q1 q2 q3 q4 q5 q6)
          · rw [up_nk (by omega)]; exact hG.2 i set q1 q2 q3
          · by_cases z : q = k
            · subst z; rw [up_eq]; exact hw
            · rw [up_nk (by omega)]; exact hq q (by omega)
        refine b_239_130 (by omega) ?_
        rw [hV'.2.2.1, q_shl (vn V) (by omega), show (h : Int) + 1 = ((h + 1 : Nat) : Int) by omega, q_idx (by omega) (by omega), Int.toNat_natCast, e1]
        refine ⟨by omega, fun c => by omega, fun _ => ⟨by omega, ?_⟩⟩
        by_cases hb : s (18 + h) = 0
        · have hst : mostA V T s e h k = foldG (mostA V T s e (h + 1) k) (gainA V T s e h) (mostA V T s e (h + 1)) k (vn V) := by rw [mostA_st (by omega), if_pos hb]
          have hbm : ∀ i, 0 ≤ foldG (mostA V T s e (h + 1) k) (gainA V T s e h) (mostA V T s e (h + 1)) k i ∧ foldG (mostA V T s e (h + 1) k) (gainA V T s e h) (mostA V T s e (h + 1)) k i ≤ 200 := by
            intro i
            refine foldG_b (by have := mostA_b V T s e (h + 1) k; omega) (fun k set => ?_) i
            have := mostA_b V T s e (h + 1) set
            have := gainA_b V T s e h k
            omega
          refine lp (P := fun p => VV X 5 239 (158, [some (.ref 542), some (iv (e : Int)), some (iv (h : Int)), some (iv (k : Int)), some (iv (foldG (mostA V T s e (h + 1) k) (gainA V T s e h) (mostA V T s e (h + 1)) k p)), some (iv p)], [], mj J' sw lg x) _) (vn V) ?_ ?_ 0 (Nat.zero_le _)
          · refine b_239_158 (by omega) ?_
            rw [hV'.2.2.1, q_idx (by omega) (by omega), Int.toNat_natCast]
            exact ⟨by omega, by omega, fun _ => ⟨by omega, done _ _ hst.symm⟩, fun c => by omega⟩
          · intro p hp ih3
            have hb0 := hbm p
            have g1 := gainA_b V T s e h p
            have g2 := mostA_b V T s e (h + 1) (k ||| 2 ^ p)
            refine b_239_158 (by omega) ?_
            rw [hV'.2.2.1, hbusy, q_bit (by omega) (by omega)]
            refine ⟨by omega, by omega, fun c => by omega, fun _ => ⟨by omega, by omega, fun c => absurd hb c, fun _ => ⟨fun c2 => ?_, fun c2 => ⟨_, J', e_240 (T := T) (e := e) bV hG (by omega) hp hk, by omega, by omega, fun c3 => ?_, fun c3 => ⟨_, J', e_240 (T := T) (e := e) bV hG (by omega) hp hk, ?_⟩⟩⟩⟩⟩
            · have z : k.testBit p = true := by
                cases z : k.testBit p
                · rw [z] at c2; exact absurd rfl c2
                · rfl
              rw [foldG, if_pos z] at ih3; exact ih3
            · rw [foldG, if_neg (by intro z; rw [if_pos z] at c2; omega), show max (foldG (mostA V T s e (h + 1) k) (gainA V T s e h) (mostA V T s e (h + 1)) k p) (gainA V T s e h p + mostA V T s e (h + 1) (k ||| 2 ^ p)) = foldG (mostA V T s e (h + 1) k) (gainA V T s e h) (mostA V T s e (h + 1)) k p by omega] at ih3
              exact ih3
            · rw [foldG, if_neg (by intro z; rw [if_pos z] at c2; omega), show max (foldG (mostA V T s e (h + 1) k) (gainA V T s e h) (mostA V T s e (h + 1)) k p) (gainA V T s e h p + mostA V T s e (h + 1) (k ||| 2 ^ p)) = gainA V T s e h p + mostA V T s e (h + 1) (k ||| 2 ^ p) by omega] at ih3
              exact ih3
        · have hst : mostA V T s e h k = mostA V T s e (h + 1) k := by rw [mostA_st (by omega), if_neg hb]
          refine b_239_158 (by omega) ?_
          rw [hV'.2.2.1, hbusy, q_idx (by omega) (by omega), Int.toNat_natCast]
          exact ⟨by decide, by omega, fun _ => ⟨by omega, done _ _ hst.symm⟩, fun _ => ⟨by omega, by omega, fun _ => ⟨by omega, done _ _ hst.symm⟩, fun c => absurd c hb⟩⟩
  · intro J' o4 o5 hG hs hg hF
    have hV' := fV J' hF
    refine b_239_242 (by omega) ?_
    rw [hV'.2.1]
    refine ⟨by omega, by omega, fun _ => ⟨J', rfl, rfl, ?_, hg, hF⟩, fun c => by omega⟩
    have := hG.2 0 0 (Nat.le_refl _) (Nat.zero_le _) hp0
    exact this
  · intro h hh ih J' o4 o5 hG hs hg hF
    have hV' := fV J' hF
    have hbS := gvS_b (V := V) (T := T) (s := s) (e := e) h
    have hbb := bs.2.2.1 h (by omega)
    refine b_239_242 (by omega) ?_
    rw [hV'.2.1, hV'.2.2.1]
    refine ⟨by omega, by omega, fun c => by omega, fun _ => ⟨by omega, ?_⟩⟩
    rw [Int.toNat_natCast]
    -- behind the hand
    have fin : ∀ (J2 : Nat → Nat → Int) (x4 : Int) (o5 : Option Value), RT J2 V T s e 0 → MV J2 562 s → (∀ i, i < h + 1 → J2 568 i = gvA V T s e i (gvS V T s e i)) → FH J J2 → InR (J2 568 h) ∧ (J2 568 h = (-1) → VV X 5 239 (242, [some (.ref 542), some (iv (e : Int)), some (iv (gvS V T s e h : Nat)), some (iv ((h : Int) + 1)), some (iv x4), o5], [], mj J2 sw lg x) (fun o M => ∃ z, o = .inl none ∧ M = mj z sw lg x ∧ z 566 0 = mostA V T s e 0 0 ∧ (∀ h, h < vh V → z 568 h = gvA V T s e h (gvS V T s e h)) ∧ FH J z)) ∧ (¬ J2 568 h = (-1) → VV X 5 239 (242, [some (.ref 542), some (iv (e : Int)), some (iv (bOr (gvS V T s e h : Nat) (bShl 1 (J2 568 h)))), some (iv ((h : Int) + 1)), some (iv x4), o5], [], mj J2 sw lg x) (fun o M => ∃ z, o = .inl none ∧ M = mj z sw lg x ∧ z 566 0 = mostA V T s e 0 0 ∧ (∀ h, h < vh V → z 568 h = gvA V T s e h (gvS V T s e h)) ∧ FH J z)) := by
      intro J2 x4 o5 hG2 hs2 hg2 hF2
      have eh := hg2 h (by omega)
      have nxt := ih J2 (some (iv x4)) o5 hG2 hs2 hg2 hF2
      rw [eh]
      rcases gvA_r (V := V) (T := T) (s := s) (e := e) (h := h) (set := gvS V T s e h) with z | ⟨q, z, hq⟩
      · rw [gvS, if_pos z] at nxt
        exact ⟨by omega, fun _ => nxt, fun c => absurd z c⟩
      · have h1' := pow_512 (p := q) (by omega)
        rw [gvS, if_neg (by omega), z, Int.toNat_natCast] at nxt
        rw [z, q_shl q (by omega), q_or (by omega) (by omega)]
        exact ⟨by omega, fun c => by omega, fun _ => nxt⟩
    have hG1 : ∀ w, RT (m_up J' 568 h w) V T s e 0 := fun w => ⟨fun i p q1 q2 => by rw [up_na (by decide)]; exact hG.1 i p q1 q2, fun i set q1 q2 q3 => by rw [up_na (by decide)]; exact hG.2 i set q1 q2 q3⟩
    by_cases hb : s (18 + h) = 0
    · have hgv : gvA V T s e h (gvS V T s e h) = frF (mayA V T s e h (gvS V T s e h)) 0 (vn V) := by unfold gvA; rw [if_pos hb]
      have scan := lp (P := fun r => ∀ (J2 : Nat → Nat → Int) (xx : Int) (o5 : Option Value), xx = (vn V : Int) - 1 - r → RT J2 V T s e 0 → MV J2 562 s → (∀ i, i < h → J2 568 i = gvA V T s e i (gvS V T s e i)) → J2 568 h = frF (mayA V T s e h (gvS V T s e h)) (vn V - r) r → FH J J2 → VV X 5 239 (265, [some (.ref 542), some (iv (e : Int)), some (iv (gvS V T s e h : Nat)), some (iv (h : Int)), some (iv xx), o5], [], mj J2 sw lg x) (fun o M => ∃ z, o = .inl none ∧ M = mj z sw lg x ∧ z 566 0 = mostA V T s e 0 0 ∧ (∀ h, h < vh V → z 568 h = gvA V T s e h (gvS V T s e h)) ∧ FH J z)) (vn V) ?_ ?_ 0 (Nat.zero_le _)
      · refine scan _ _ _ (by omega) (hG1 _) (MV_ne hs _ _ (by decide)) (fun i hi => by rw [up_nk (by omega)]; exact hg i hi) (up_eq _ _ _ _) (fun c q1 q2 q3 q4 q5 q6 => by rw [up_r q6]; exact hF c q1 q2 q3 q4 q5 q6)
      · intro J2 xx o5 hx hG2 hs2 hg2 hgh hF2
        rw [Nat.sub_self, ← hgv] at hgh
        have f := fin J2 xx o5 hG2 hs2 (fun i hi => by
          by_cases z : i = h
          · subst z; exact hgh
          · exact hg2 i (by omega)) hF2
        refine b_239_265 (by omega) ?_
        rw [Int.toNat_natCast]
        exact ⟨by omega, fun _ => ⟨by omega, f.1, f.2.1, f.2.2⟩, fun c => by omega⟩
      · intro r hr ih2 J2 xx o5 hx hG2 hs2 hg2 hgh hF2
        obtain ⟨p, hp⟩ : ∃ p, p = vn V - (r + 1) := ⟨_, rfl⟩
        have hxx : xx = (p : Int) := by omega
        have hpr : vn V - r = p + 1 := by omega
        rw [hpr] at hgh
        rw [hxx]
        have hbusy : J2 562 (18 + (h : Int)).toNat = s (18 + h) := hs2 (18 + h) (by omega)
        have e0 : J2 566 (h * 512 + gvS V T s e h) = mostA V T s e h (gvS V T s e h) := hG2.2 h _ (Nat.zero_le _) (by omega) hbS.1
        have g1 := gainA_b V T s e h p
        have g2 := mostA_b V T s e (h + 1) (gvS V T s e h ||| 2 ^ p)
        have g3 := mostA_b V T s e h (gvS V T s e h)
        refine b_239_265 (by omega) ?_
        rw [hbusy, q_bit (by omega) (by omega), q_idx (by omega) (by omega), Int.toNat_natCast, Int.toNat_natCast]
        refine ⟨by omega, fun c => by omega, fun _ => ⟨by omega, by omega, fun c => absurd hb c, fun _ => ⟨fun c2 => ?_, fun c2 => ⟨_, J2, e_240 (T := T) (e := e) bV ⟨hG2.1, fun i set q1 q2 q3 => hG2.2 i set (Nat.zero_le _) q2 q3⟩ (by omega) (by omega) hbS.1, by omega, by omega, ?_⟩⟩⟩⟩
        · refine ih2 J2 _ _ (by omega) hG2 hs2 hg2 ?_ hF2
          rw [← hp, frF, if_neg (by unfold mayA; simp only [decide_eq_true_eq]; intro z; rw [z.1] at c2; exact c2 rfl)]
          exact hgh
        · have z : (gvS V T s e h).testBit p = false := by
            cases z : (gvS V T s e h).testBit p
            · rfl
            · rw [z] at c2; exact absurd c2 (by decide)
          rw [e0]
          refine ⟨by omega, fun c3 => ?_, fun c3 => ⟨by omega, ?_⟩⟩
          · refine ih2 J2 _ _ (by omega) hG2 hs2 hg2 ?_ hF2
            rw [← hp, frF, if_neg (by unfold mayA; simp only [decide_eq_true_eq]; intro w; exact c3 w.2)]
            exact hgh
          · refine ih2 _ _ _ (by omega) ⟨fun i p q1 q2 => by rw [up_na (by decide)]; exact hG2.1 i p q1 q2, fun i set q1 q2 q3 => by rw [up_na (by decide)]; exact hG2.2 i set q1 q2 q3⟩ (MV_ne hs2 _ _ (by decide)) (fun i hi => by rw [up_nk (by omega)]; exact hg2 i hi) ?_ (fun c q1 q2 q3 q4 q5 q6 => by rw [up_r q6]; exact hF2 c q1 q2 q3 q4 q5 q6)
            rw [up_eq, ← hp, frF, if_pos (by unfold mayA; simp only [decide_eq_true_eq]; exact ⟨z, c3⟩)]
    · have hgv : gvA V T s e h (gvS V T s e h) = -1 := by unfold gvA; rw [if_neg hb]
      have hs1 : MV (m_up J' 568 h (-1)) 562 s := MV_ne hs _ _ (by decide)
      have hbusy : m_up J' 568 h (-1) 562 (18 + (h : Int)).toNat = s (18 + h) := hs1 (18 + h) (by omega)
      have f := fun (x4 : Int) => fin (m_up J' 568 h (-1)) x4 o5 (hG1 _) hs1 (fun i hi => by
        by_cases z : i = h
        · subst z; rw [up_eq]; exact hgv.symm
        · rw [up_nk z]; exact hg i (by omega)) (fun c q1 q2 q3 q4 q5 q6 => by rw [up_r q6]; exact hF c q1 q2 q3 q4 q5 q6)
      refine b_239_265 (by omega) ?_
      rw [hbusy, Int.toNat_natCast]
      have f1 := f ((vn V : Int) - 1)
      exact ⟨by omega, fun _ => ⟨by omega, f1.1, f1.2.1, f1.2.2⟩, fun _ => ⟨by omega, by omega, fun _ => ⟨by omega, f1.1, f1.2.1, f1.2.2⟩, fun c => absurd c hb⟩⟩
end GW
