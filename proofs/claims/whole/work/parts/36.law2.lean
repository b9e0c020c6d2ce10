/-! the law reckoned: both sides -/
section LW2
variable {X : Nat × (Nat → Int32)} {J : Nat → Nat → Int} {sw : Bool × Bool × Bool} {lg : Nat → Nat → Int64} {x l : Nat} {T : LT} {f : Nat → Int}
theorem base_b (hb : ∀ i, i < 8 → 0 ≤ f i ∧ f i ≤ 2000) : InR (3 + bDiv (f 0) 2 - bDiv (f 1) 3) := by
  have h0 := hb 0 (by decide)
  have h1 := hb 1 (by decide)
  rw [q_divI (by omega) (by omega) (by decide) (by decide), q_divI (by omega) (by omega) (by decide) (by decide)]
  omega
theorem q_and7 : ∀ o : Nat, o < 8 → bAnd (o : Int) 7 = (o : Int) := by decide +kernel
theorem e_32 (h0 : SH[l]? = some (8, 4)) (hT : LK J l T) (wf : LWF T) (hf : ∀ i, i < 8 → J (l + 2) i = f i) (hb : ∀ i, i < 8 → 0 ≤ f i ∧ f i ≤ 2000) : ∃ J', EE X 1 32 [.ref l] (mj J sw lg x) (.inl (some (iv (mendL T f)))) (mj J' sw lg x) ∧ ∀ c, c ≠ l + 3 → J' c = J c := by
  refine EE.ex (O := fun _ => .inl (some (iv (mendL T f)))) (F := fun J' => mj J' sw lg x) mt_32 (b_32_0 h0 (by omega) ?_)
  have hn := wf.1
  have hr := runL_b T wf f hb
  have key := lp (P := fun k => ∀ (J' : Nat → Nat → Int) (o3 : Option Value), (∀ c, c ≠ l + 3 → J' c = J c) → (∀ i, i < dpL T k → J' (l + 3) i = runL T f k i) → (T.1 = 0 → J' (l + 3) 0 = 3 + bDiv (f 0) 2 - bDiv (f 1) 3) → VV X 1 32 (29, [some (.ref l), some (iv (dpL T k : Nat)), some (iv k), o3], [], mj J' sw lg x) (fun o M => ∃ z, o = .inl (some (iv (mendL T f))) ∧ M = mj z sw lg x ∧ ∀ c, c ≠ l + 3 → z c = J c)) T.1 ?_ ?_ 0 (Nat.zero_le _)
  · refine key _ _ (fun c hc => ?_) (fun i hi => absurd hi (Nat.not_lt_zero i)) (fun _ => ?_)
    · funext i; exact up_na hc
    · rw [up_eq, hf 0 (by decide), hf 1 (by decide)]
  · intro J' o3 hfr hrow hz
    have e1 : J' l 1 = (T.1 : Int) := by rw [hfr l (by omega)]; exact hT.1
    refine b_32_29 h0 (by omega) ?_
    rw [e1]
    have hv : InR (J' (l + 3) 0) ∧ max 0 (min 20 (J' (l + 3) 0)) = mendL T f := by
      by_cases q : T.1 = 0
      · rw [hz q]
        refine ⟨base_b hb, ?_⟩
        unfold mendL clamp
        rw [if_pos q]
      · have := wf.2.2 (by omega)
        rw [hrow 0 (by omega)]
        refine ⟨hr T.1 (Nat.le_refl _) 0, ?_⟩
        unfold mendL clamp
        rw [if_neg q]
    refine ⟨by omega, by omega, fun _ => ⟨hv.1, by have := hv.1; omega, J', ?_, rfl, hfr⟩, fun c => by omega⟩
    rw [hv.2]
  · intro k hk ih J' o3 hfr hrow hz
    have e1 : J' l 1 = (T.1 : Int) := by rw [hfr l (by omega)]; exact hT.1
    have e2 : J' (l + 1) (k : Int).toNat = enL (T.2.1 k) (T.2.2 k) := by rw [hfr (l + 1) (by omega)]; exact hT.2 k hk
    have hd := dpL_le T wf k (by omega)
    refine b_32_29 h0 (by omega) ?_
    rw [e1, e2]
    rcases wf.2.1 k hk with ⟨w0, wo, wd⟩ | ⟨w1, wo, wd⟩ | ⟨w2, wd⟩
    · have en : enL (T.2.1 k) (T.2.2 k) = T.2.2 k := by unfold enL; rw [if_pos w0]
      have d1 : dpL T (k + 1) = dpL T k + 1 := by rw [dpL, if_pos (by omega)]
      have r1 : runL T f (k + 1) = up1 (runL T f k) (dpL T k) (T.2.2 k) := by rw [runL, if_pos w0]
      rw [en]
      refine ⟨by omega, by omega, fun c => by omega, fun _ => ⟨by omega, by omega, fun _ => ⟨by omega, fun c => by omega, fun _ => ⟨fun c => by omega, fun _ => ⟨by omega, ?_⟩⟩⟩, fun c => by omega⟩⟩
      have h := ih (m_up J' (l + 3) (dpL T k) (T.2.2 k)) (some (iv (T.2.2 k))) (fun c hc => by rw [← hfr c hc]; funext i; exact up_na hc) (fun i hi => by
        rw [r1]
        by_cases q : i = dpL T k
        · subst q; rw [up_eq, up1_eq]
        · rw [up_nk q, up1_ne q]; exact hrow i (by omega)) (fun z => by omega)
      rw [d1] at h
      exact h
    · have en : enL (T.2.1 k) (T.2.2 k) = 1000 + T.2.2 k := by unfold enL; rw [if_neg (by omega), if_pos w1]
      have d1 : dpL T (k + 1) = dpL T k + 1 := by rw [dpL, if_pos (by omega)]
      have r1 : runL T f (k + 1) = up1 (runL T f k) (dpL T k) (f (T.2.2 k).toNat) := by rw [runL, if_neg (by omega), if_pos w1]
      have a7 : bAnd (1000 + T.2.2 k - 1000) 7 = T.2.2 k := by
        have := q_and7 (T.2.2 k).toNat (by omega)
        rw [Int.toNat_of_nonneg (by omega)] at this
        rw [show 1000 + T.2.2 k - 1000 = T.2.2 k by omega]; exact this
      have e3 : J' (l + 2) (T.2.2 k).toNat = f (T.2.2 k).toNat := by rw [hfr (l + 2) (by omega)]; exact hf _ (by omega)
      rw [en, a7, e3]
      refine ⟨by omega, by omega, fun c => by omega, fun _ => ⟨by omega, by omega, fun _ => ⟨by omega, fun c => by omega, fun _ => ⟨fun _ => ⟨by omega, by omega, ?_⟩, fun c => by omega⟩⟩, fun c => by omega⟩⟩
      have h := ih (m_up J' (l + 3) (dpL T k) (f (T.2.2 k).toNat)) (some (iv (1000 + T.2.2 k))) (fun c hc => by rw [← hfr c hc]; funext i; exact up_na hc) (fun i hi => by
        rw [r1]
        by_cases q : i = dpL T k
        · subst q; rw [up_eq, up1_eq]
        · rw [up_nk q, up1_ne q]; exact hrow i (by omega)) (fun z => by omega)
      rw [d1] at h
      exact h
    · have en : enL (T.2.1 k) (T.2.2 k) = 2000 + deed (T.2.1 k) := by unfold enL; rw [if_neg (by omega), if_neg (by omega)]
      have dd : 0 ≤ deed (T.2.1 k) ∧ deed (T.2.1 k) ≤ 6 := by unfold deed; split <;> (try split) <;> (try split) <;> omega
      have d1 : dpL T (k + 1) = dpL T k - 1 := by rw [dpL, if_neg (by omega)]
      have r1 : runL T f (k + 1) = up1 (runL T f k) (dpL T k - 2) (opF (T.2.1 k) (runL T f k (dpL T k - 2)) (runL T f k (dpL T k - 1))) := by rw [runL, if_neg (by omega), if_neg (by omega)]
      have t2 : ((dpL T k : Nat) - 2 : Int).toNat = dpL T k - 2 := by omega
      have t1 : ((dpL T k : Nat) - 1 : Int).toNat = dpL T k - 1 := by omega
      rw [en, t2, t1, hrow (dpL T k - 2) (by omega), hrow (dpL T k - 1) (by omega), show 2000 + deed (T.2.1 k) - 2000 = deed (T.2.1 k) by omega]
      refine ⟨by omega, by omega, fun c => by omega, fun _ => ⟨by omega, by omega, fun c => by omega, fun _ => ⟨by omega, fun c => by omega, fun _ => ⟨by omega, by omega, _, _, e_33 w2 (hr k (by omega) _) (hr k (by omega) _), ?_⟩⟩⟩⟩
      have h := ih (m_up J' (l + 3) (dpL T k - 2) (opF (T.2.1 k) (runL T f k (dpL T k - 2)) (runL T f k (dpL T k - 1)))) (some (iv (2000 + deed (T.2.1 k)))) (fun c hc => by rw [← hfr c hc]; funext i; exact up_na hc) (fun i hi => by
        rw [r1]
        by_cases q : i = dpL T k - 2
        · subst q; rw [up_eq, up1_eq]
        · rw [up_nk q, up1_ne q]; exact hrow i (by omega)) (fun z => by omega)
      rw [show ((dpL T (k + 1) : Nat) : Int) = (dpL T k : Int) + (-1) by omega] at h
      exact h
theorem e_195 (hT : LM J T) (wf : LWF T) (h0 : 0 < T.1) (hf : ∀ i, i < 8 → J 558 i = f i) (hb : ∀ i, i < 8 → 0 ≤ f i ∧ f i ≤ 2000) : ∃ J', EE X 1 195 [.ref 542] (mj J sw lg x) (.inl (some (iv (runL T f T.1 0)))) (mj J' sw lg x) ∧ ∀ c, c ≠ 557 → J' c = J c := by
  refine EE.ex (O := fun _ => .inl (some (iv (runL T f T.1 0)))) (F := fun J' => mj J' sw lg x) mt_195 (b_195_0 (by omega) ?_)
  have hn := wf.1
  have hr := runL_b T wf f hb
  have key := lp (P := fun k => ∀ (J' : Nat → Nat → Int) (o3 : Option Value), (∀ c, c ≠ 557 → J' c = J c) → (∀ i, i < dpL T k → J' 557 i = runL T f k i) → VV X 1 195 (4, [some (.ref 542), some (iv (dpL T k : Nat)), some (iv k), o3], [], mj J' sw lg x) (fun o M => ∃ z, o = .inl (some (iv (runL T f T.1 0))) ∧ M = mj z sw lg x ∧ ∀ c, c ≠ 557 → z c = J c)) T.1 ?_ ?_ 0 (Nat.zero_le _)
  · exact key _ _ (fun c hc => rfl) (fun i hi => absurd hi (Nat.not_lt_zero i))
  · intro J' o3 hfr hrow
    have e1 : J' 542 35 = (T.1 : Int) := by rw [hfr 542 (by omega)]; exact hT.1
    refine b_195_4 (by omega) ?_
    rw [e1]
    have := wf.2.2 h0
    refine ⟨by omega, by omega, fun _ => ⟨J', ?_, rfl, hfr⟩, fun c => by omega⟩
    rw [hrow 0 (by omega)]
  · intro k hk ih J' o3 hfr hrow
    have e1 : J' 542 35 = (T.1 : Int) := by rw [hfr 542 (by omega)]; exact hT.1
    have e2 : J' 555 (k : Int).toNat = T.2.1 k := by rw [hfr 555 (by omega)]; exact (hT.2 k hk).1
    have e3 : J' 556 (k : Int).toNat = T.2.2 k := by rw [hfr 556 (by omega)]; exact (hT.2 k hk).2
    have hd := dpL_le T wf k (by omega)
    refine b_195_4 (by omega) ?_
    rw [e1, e2, e3]
    rcases wf.2.1 k hk with ⟨w0, wo, wd⟩ | ⟨w1, wo, wd⟩ | ⟨w2, wd⟩
    · have d1 : dpL T (k + 1) = dpL T k + 1 := by rw [dpL, if_pos (by omega)]
      have r1 : runL T f (k + 1) = up1 (runL T f k) (dpL T k) (T.2.2 k) := by rw [runL, if_pos w0]
      refine ⟨by omega, by omega, fun c => by omega, fun _ => ⟨by omega, by omega, fun c => by omega, fun _ => ⟨fun c => absurd w0 c, fun _ => ⟨by omega, ?_⟩⟩⟩⟩
      have h := ih (m_up J' 557 (dpL T k) (T.2.2 k)) (some (iv (T.2.1 k))) (fun c hc => by rw [← hfr c hc]; funext i; exact up_na hc) (fun i hi => by
        rw [r1]
        by_cases q : i = dpL T k
        · subst q; rw [up_eq, up1_eq]
        · rw [up_nk q, up1_ne q]; exact hrow i (by omega))
      rw [d1] at h
      exact h
    · have d1 : dpL T (k + 1) = dpL T k + 1 := by rw [dpL, if_pos (by omega)]
      have r1 : runL T f (k + 1) = up1 (runL T f k) (dpL T k) (f (T.2.2 k).toNat) := by rw [runL, if_neg (by omega), if_pos w1]
      have e4 : J' 558 (T.2.2 k).toNat = f (T.2.2 k).toNat := by rw [hfr 558 (by omega)]; exact hf _ (by omega)
      rw [e4]
      refine ⟨by omega, by omega, fun c => by omega, fun _ => ⟨by omega, by omega, fun c => by omega, fun _ => ⟨fun _ => ⟨by omega, by omega, ?_⟩, fun c => by omega⟩⟩⟩
      have h := ih (m_up J' 557 (dpL T k) (f (T.2.2 k).toNat)) (some (iv (T.2.1 k))) (fun c hc => by rw [← hfr c hc]; funext i; exact up_na hc) (fun i hi => by
        rw [r1]
        by_cases q : i = dpL T k
        · subst q; rw [up_eq, up1_eq]
        · rw [up_nk q, up1_ne q]; exact hrow i (by omega))
      rw [d1] at h
      exact h
    · have d1 : dpL T (k + 1) = dpL T k - 1 := by rw [dpL, if_neg (by omega)]
      have r1 : runL T f (k + 1) = up1 (runL T f k) (dpL T k - 2) (opF (T.2.1 k) (runL T f k (dpL T k - 2)) (runL T f k (dpL T k - 1))) := by rw [runL, if_neg (by omega), if_neg (by omega)]
      have t2 : ((dpL T k : Nat) + (-1) - 1 : Int).toNat = dpL T k - 2 := by omega
      have t1 : ((dpL T k : Nat) + (-1) : Int).toNat = dpL T k - 1 := by omega
      rw [t2, t1, hrow (dpL T k - 2) (by omega), hrow (dpL T k - 1) (by omega)]
      refine ⟨by omega, by omega, fun c => by omega, fun _ => ⟨by omega, by omega, fun _ => ⟨by omega, by omega, _, _, e_196 w2 (hr k (by omega) _) (hr k (by omega) _), ?_⟩, fun c => by omega⟩⟩
      have h := ih (m_up J' 557 (dpL T k - 2) (opF (T.2.1 k) (runL T f k (dpL T k - 2)) (runL T f k (dpL T k - 1)))) (some (iv (T.2.1 k))) (fun c hc => by rw [← hfr c hc]; funext i; exact up_na hc) (fun i hi => by
        rw [r1]
        by_cases q : i = dpL T k - 2
        · subst q; rw [up_eq, up1_eq]
        · rw [up_nk q, up1_ne q]; exact hrow i (by omega))
      rw [show ((dpL T (k + 1) : Nat) : Int) = (dpL T k : Int) + (-1) by omega] at h
      exact h
theorem e_197 (hT : LM J T) (wf : LWF T) (hf : ∀ i, i < 8 → J 558 i = f i) (hb : ∀ i, i < 8 → 0 ≤ f i ∧ f i ≤ 2000) : ∃ J', EE X 2 197 [.ref 542] (mj J sw lg x) (.inl (some (iv (mendL T f)))) (mj J' sw lg x) ∧ ∀ c, c ≠ 557 → J' c = J c := by
  refine EE.ex (O := fun _ => .inl (some (iv (mendL T f)))) (F := fun J' => mj J' sw lg x) mt_197 (b_197_0 (by omega) ?_)
  rw [hT.1]
  have hn := wf.1
  refine ⟨by omega, fun q => ?_, fun q => ?_⟩
  · have q1 : ¬ T.1 = 0 := by omega
    obtain ⟨J1, he, hfr⟩ := e_195 (X := X) (sw := sw) (lg := lg) (x := x) hT wf (by omega) hf hb
    have hr := runL_b T wf f hb T.1 (Nat.le_refl _) 0
    refine ⟨_, J1, he, hr, fun c => ⟨fun c2 => ⟨J1, ?_, rfl, hfr⟩, fun c2 => ⟨J1, ?_, rfl, hfr⟩⟩, fun c => ⟨J1, ?_, rfl, hfr⟩⟩
    · rw [mendL, if_neg q1, show clamp (runL T f T.1 0) = runL T f T.1 0 by unfold clamp; omega]
    · rw [mendL, if_neg q1, show clamp (runL T f T.1 0) = 20 by unfold clamp; omega]
    · rw [mendL, if_neg q1, show clamp (runL T f T.1 0) = 0 by unfold clamp; omega]
  · have q1 : T.1 = 0 := by omega
    rw [hf 0 (by decide), hf 1 (by decide)]
    have hr := base_b hb
    refine ⟨hr, fun c => ⟨fun c2 => ⟨J, ?_, rfl, fun _ _ => rfl⟩, fun c2 => ⟨J, ?_, rfl, fun _ _ => rfl⟩⟩, fun c => ⟨J, ?_, rfl, fun _ _ => rfl⟩⟩
    · rw [mendL, if_pos q1, show clamp (3 + bDiv (f 0) 2 - bDiv (f 1) 3) = 3 + bDiv (f 0) 2 - bDiv (f 1) 3 by unfold clamp; omega]
    · rw [mendL, if_pos q1, show clamp (3 + bDiv (f 0) 2 - bDiv (f 1) 3) = 20 by unfold clamp; omega]
    · rw [mendL, if_pos q1, show clamp (3 + bDiv (f 0) 2 - bDiv (f 1) 3) = 0 by unfold clamp; omega]
/-- eight facts -/
def fac (a b c d e g h i : Int) : Nat → Int := fun k => if k = 0 then a else if k = 1 then b else if k = 2 then c else if k = 3 then d else if k = 4 then e else if k = 5 then g else if k = 6 then h else i
theorem lt8 {i : Nat} (h : i < 8) : i = 0 ∨ i = 1 ∨ i = 2 ∨ i = 3 ∨ i = 4 ∨ i = 5 ∨ i = 6 ∨ i = 7 := by omega
theorem fac_b {a b c d e g h i : Int} (p : ∀ z ∈ [a, b, c, d, e, g, h, i], 0 ≤ z ∧ z ≤ 2000) : ∀ k, k < 8 → 0 ≤ fac a b c d e g h i k ∧ fac a b c d e g h i k ≤ 2000 := by
  simp only [List.mem_cons, List.not_mem_nil, or_false, forall_eq_or_imp, forall_eq] at p
  intro k hk
  rcases lt8 hk with rfl | rfl | rfl | rfl | rfl | rfl | rfl | rfl <;> simp only [fac] <;> simp <;> omega
theorem e_206 {a b c d e g h i : Int} (hT : LM J T) (wf : LWF T) (hb : ∀ z ∈ [a, b, c, d, e, g, h, i], 0 ≤ z ∧ z ≤ 2000) : ∃ J', EE X 3 206 [.ref 542, iv a, iv b, iv c, iv d, iv e, iv g, iv h, iv i] (mj J sw lg x) (.inl (some (iv (mendL T (fac a b c d e g h i))))) (mj J' sw lg x) ∧ ∀ c, c ≠ 557 → c ≠ 558 → J' c = J c := by
  refine EE.ex (O := fun _ => .inl (some (iv (mendL T (fac a b c d e g h i))))) (F := fun J' => mj J' sw lg x) mt_206 (b_206_0 (by omega) ?_)
  obtain ⟨J1, he, hfr⟩ := e_197 (X := X) (sw := sw) (lg := lg) (x := x) (T := T) (f := fac a b c d e g h i) (J := m_up (m_up (m_up (m_up (m_up (m_up (m_up (m_up J 558 0 a) 558 1 b) 558 2 c) 558 3 d) 558 4 e) 558 5 g) 558 6 h) 558 7 i) (by
    refine ⟨by simp [m_up]; exact hT.1, fun k hk => ?_⟩
    simp [m_up]; exact hT.2 k hk) wf (by
    intro k hk
    rcases lt8 hk with rfl | rfl | rfl | rfl | rfl | rfl | rfl | rfl <;> simp [m_up, fac]) (fac_b hb)
  refine ⟨_, J1, he, J1, rfl, rfl, fun c h1 h2 => ?_⟩
  rw [hfr c h1]
  funext k
  simp [m_up, h2]
end LW2
