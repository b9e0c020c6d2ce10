/-! rounds and ways: both sides are the same search -/
def nxW (V : VT) (tg u p : Nat) : Option Nat := if (vnr V (u / 512)).testBit p then some (p * 512 + (u % 512 ||| (2 ^ p &&& tg))) else none
theorem and_tg {p tg : Nat} (ht : tg < 512) : 2 ^ p &&& tg < 512 := Nat.lt_of_le_of_lt Nat.and_le_right ht
theorem or_512 {a b : Nat} (ha : a < 512) (hb : b < 512) : a ||| b < 512 := show _ < 2 ^ 9 from or_lt (show a < 2 ^ 9 from ha) (show b < 2 ^ 9 from hb)
theorem nxW_lt {V : VT} {tg u p t : Nat} (ht : tg < 512) (hp : p < vn V) (h : nxW V tg u p = some t) : t < vn V * 512 ∧ t / 512 = p ∧ t % 512 = (u % 512 ||| (2 ^ p &&& tg)) := by
  unfold nxW at h
  split at h
  · cases h
    have := or_512 (a := u % 512) (Nat.mod_lt _ (by decide)) (and_tg (p := p) ht)
    omega
  · cases h
theorem RnW_lt {V : VT} {tg s0 : Nat} (ht : tg < 512) (h0 : s0 < vn V * 512) : ∀ n t, Rn (nxW V tg) (vn V) s0 n t → t < vn V * 512 := by
  intro n
  cases n with
  | zero => intro t h; rw [show t = s0 from h]; exact h0
  | succ n => intro t h; obtain ⟨u, p, _, hp, hx⟩ := h; exact (nxW_lt ht hp hx).1
section RD
variable {X : Nat × (Nat → Int32)} {J : Nat → Nat → Int} {sw : Bool × Bool × Bool} {lg : Nat → Nat → Int64} {x a b v n : Nat} {V : VT} {s : Nat → Int}
theorem e_104 {p t m : Nat} {k : Int} (hp : p < 9) (ht : t < 512) (hm : J 539 2 = (m : Int)) (hf : InR (J 540 (p * 512 + t))) (hml : J 540 (p * 512 + t) = -1 → m < 4608) (hm2 : m ≤ 4608) : EE X 0 104 [.ref 539, iv (p : Int), iv (t : Int), iv k] (mj J sw lg x) (.inl none) (mj (if J 540 (p * 512 + t) = -1 then m_up (m_up (m_up J 540 (p * 512 + t) k) 541 m ((p : Int) * 512 + t)) 539 2 (m + 1) else J) sw lg x) := by
  have e : ((p : Int) * 512 + t).toNat = p * 512 + t := by omega
  refine EE.of mt_104 (b_104_0 ?_)
  rw [e, hm]
  refine ⟨by omega, fun c => by omega, fun _ => ⟨fun c => by omega, fun _ => ⟨by omega, hf, fun c => ⟨rfl, by rw [if_neg c]⟩, fun c => ⟨by omega, fun c2 => ?_, fun c2 => ⟨by omega, rfl, by rw [if_pos c]; rfl⟩⟩⟩⟩⟩
  have := hml c
  omega
theorem e_103 {h tg : Nat} (h1 : SH[v]? = some (14, 12)) (hV : VK J v V) (bV : VBd V) (hh : h < vn V) (ht : tg < 512) : ∃ z : (Nat → Nat → Int) × Int, EE X 1 103 [.ref 539, .ref v, iv (tg : Int), iv (h : Int)] (mj J sw lg x) (.inl (some (iv z.2))) (mj z.1 sw lg x) ∧ Dist (nxW V tg) (vn V) (h * 512 + (2 ^ h &&& tg)) (fun u => u % 512 = tg) z.2 ∧ ∀ c, c ≠ 539 → c ≠ 540 → c ≠ 541 → z.1 c = J c := by
  have h9 := bV.2.2.1
  have hvb := bnd_9 h1
  have hs0 : h * 512 + (2 ^ h &&& tg) < vn V * 512 := by have := and_tg (p := h) ht; omega
  have hN := RnW_lt (V := V) (s0 := h * 512 + (2 ^ h &&& tg)) ht hs0
  refine EE.ex (O := fun z : (Nat → Nat → Int) × Int => .inl (some (iv z.2))) (F := fun z => mj z.1 sw lg x) mt_103 (b_103_0 h1 (by omega) ?_)
  rw [hV.2.2.1]
  -- the search's loop
  have outer := lp (P := fun i => ∀ (J' : Nat → Nat → Int) (far : Nat → Int) (q : Nat → Nat) (m : Nat) (o3 o4 o6 o7 o8 : Int) (O6 O7 O8 : Option Value), BI (nxW V tg) (vn V) (vn V * 512) (h * 512 + (2 ^ h &&& tg)) (fun u => u % 512 = tg) far q m i 0 → (∀ u, u < vn V * 512 → J' 540 u = far u) → (∀ j, j < m → J' 541 j = (q j : Nat)) → J' 539 2 = (m : Nat) → (∀ c, c ≠ 539 → c ≠ 540 → c ≠ 541 → J' c = J c) → VV X 1 103 (53, [some (.ref 539), some (.ref v), some (iv (tg : Int)), some (iv o3), some (iv o4), some (iv i), O6, O7, O8], [], mj J' sw lg x) (fun o M => ∃ z : (Nat → Nat → Int) × Int, o = .inl (some (iv z.2)) ∧ M = mj z.1 sw lg x ∧ Dist (nxW V tg) (vn V) (h * 512 + (2 ^ h &&& tg)) (fun u => u % 512 = tg) z.2 ∧ ∀ c, c ≠ 539 → c ≠ 540 → c ≠ 541 → z.1 c = J c)) (vn V * 512) ?_ ?_ 0 (Nat.zero_le _)
  · -- the rows made empty
    have init := lp (P := fun k => ∀ J', (∀ u, u < k → J' 540 u = -1) → (∀ c, c ≠ 539 → c ≠ 540 → c ≠ 541 → J' c = J c) → VV X 1 103 (13, [some (.ref 539), some (.ref v), some (iv (tg : Int)), some (iv (h : Int)), some (iv ((vn V : Int) * 512)), some (iv k), none, none, none], [], mj J' sw lg x) (fun o M => ∃ z : (Nat → Nat → Int) × Int, o = .inl (some (iv z.2)) ∧ M = mj z.1 sw lg x ∧ Dist (nxW V tg) (vn V) (h * 512 + (2 ^ h &&& tg)) (fun u => u % 512 = tg) z.2 ∧ ∀ c, c ≠ 539 → c ≠ 540 → c ≠ 541 → z.1 c = J c)) (vn V * 512) ?_ ?_ 0 (Nat.zero_le _)
    · exact init J (fun u hu => absurd hu (Nat.not_lt_zero _)) (fun _ _ _ _ => rfl)
    · intro J' hz hfr
      refine b_103_13 h1 (by omega) ⟨by omega, by omega, fun _ => ?_, fun c => by omega⟩
      have hq : bAnd (bShl 1 (h : Int)) (tg : Int) = ((2 ^ h &&& tg : Nat) : Int) := by
        rw [q_shl h (by omega), q_and (show 2 ^ h < 2 ^ 31 from Nat.pow_lt_pow_right (by decide) (by omega))]
      have e0 : m_up J' 539 2 0 540 (h * 512 + (2 ^ h &&& tg)) = -1 := (up_na (by decide)).trans (hz _ hs0)
      rw [hq]
      refine ⟨_, e_104 (m := 0) (by omega) (and_tg ht) (up_eq _ _ _ _) (by rw [e0]; decide) (fun _ => by decide) (by decide), ?_⟩
      rw [if_pos e0]
      refine outer _ (up1 (fun _ => -1) (h * 512 + (2 ^ h &&& tg)) 0) (fun _ => h * 512 + (2 ^ h &&& tg)) 1 _ _ 0 0 0 _ _ _ (BI_start hs0 (up1_eq _ _ _) (fun u _ hu => up1_ne hu) rfl) (fun u hu => ?_) (fun j hj => ?_) (up_eq _ _ _ _) (fun c q1 q2 q3 => ?_)
      · rw [up_na (by decide), up_na (by decide)]
        by_cases z : u = h * 512 + (2 ^ h &&& tg)
        · subst z; rw [up_eq, up1_eq]
        · rw [up_nk z, up1_ne z, up_na (by decide)]; exact hz u hu
      · have : j = 0 := by omega
        subst this
        rw [up_na (by decide), up_eq]
        omega
      · rw [up_r q1, up_r q3, up_r q2, up_r q1]; exact hfr c q1 q2 q3
    · intro k hk ih J' hz hfr
      refine b_103_13 h1 (by omega) ⟨by omega, by omega, fun c => by omega, fun _ => ⟨by omega, ?_⟩⟩
      refine ih _ (fun u hu => ?_) (fun c q1 q2 q3 => by rw [up_r q2]; exact hfr c q1 q2 q3)
      show m_up J' 540 k (-1) 540 u = -1
      by_cases z : u = k
      · subst z; rw [up_eq]
      · rw [up_nk z]; exact hz u (by omega)
  · intro J' far q m o3 o4 o6 o7 o8 O6 O7 O8 hB hf hq hm hfr
    have hmN : m ≤ vn V * 512 := by rw [hB.2.2.2.2.2.2.2.2.1]; exact cntF_le _ _
    have him := hB.2.2.2.2.2.2.2.2.2
    have hmi : m = vn V * 512 := by omega
    refine b_103_53 h1 (by omega) ?_
    rw [hm]
    refine ⟨by omega, by omega, fun _ => ⟨(J', -1), rfl, rfl, ?_, hfr⟩, fun c => by omega⟩
    rw [← hmi] at hB
    rw [hmi] at hB
    have hB2 : BI (nxW V tg) (vn V) (vn V * 512) (h * 512 + (2 ^ h &&& tg)) (fun u => u % 512 = tg) far q m m 0 := by rw [hmi]; exact hB
    exact BI_end hB2 hN
  · intro i hi ih J' far q m o3 o4 o6 o7 o8 O6 O7 O8 hB hf hq hm hfr
    have hmN : m ≤ vn V * 512 := by rw [hB.2.2.2.2.2.2.2.2.1]; exact cntF_le _ _
    have him := hB.2.2.2.2.2.2.2.2.2
    refine b_103_53 h1 (by omega) ?_
    rw [hm]
    refine ⟨by omega, by omega, fun c => ⟨(J', -1), rfl, rfl, ?_, hfr⟩, fun c => ⟨fun c2 => by omega, fun _ => ⟨by omega, by omega, ?_⟩⟩⟩
    · have hmi : m = i := by omega
      subst hmi
      exact BI_end hB hN
    have him2 : i < m := by omega
    have hqi := hB.1 i him2
    have eq1 : J' 541 (i : Int).toNat = (q i : Nat) := hq i him2
    rw [eq1, q_remI (by omega) (by omega) (by decide) (by decide), q_divI (by omega) (by omega) (by decide) (by decide)]
    refine ⟨fun ca => ?_, fun ca => ⟨by omega, (J', far (q i)), ?_, rfl, BI_acc hB hN him2 (by omega), hfr⟩⟩
    · -- the neighbours
      have hna : ¬ q i % 512 = tg := by omega
      have inner := lp (P := fun p => ∀ (J2 : Nat → Nat → Int) (far2 : Nat → Int) (q2 : Nat → Nat) (m2 : Nat), BI (nxW V tg) (vn V) (vn V * 512) (h * 512 + (2 ^ h &&& tg)) (fun u => u % 512 = tg) far2 q2 m2 i p → q2 i = q i → i < m2 → (∀ u, u < vn V * 512 → J2 540 u = far2 u) → (∀ j, j < m2 → J2 541 j = (q2 j : Nat)) → J2 539 2 = (m2 : Nat) → (∀ c, c ≠ 539 → c ≠ 540 → c ≠ 541 → J2 c = J c) → VV X 1 103 (120, [some (.ref 539), some (.ref v), some (iv (tg : Int)), some (iv o3), some (iv o4), some (iv i), some (iv ((q i : Int) / 512)), some (iv ((q i : Int) % 512)), some (iv p)], [], mj J2 sw lg x) (fun o M => ∃ z : (Nat → Nat → Int) × Int, o = .inl (some (iv z.2)) ∧ M = mj z.1 sw lg x ∧ Dist (nxW V tg) (vn V) (h * 512 + (2 ^ h &&& tg)) (fun u => u % 512 = tg) z.2 ∧ ∀ c, c ≠ 539 → c ≠ 540 → c ≠ 541 → z.1 c = J c)) (vn V) ?_ ?_ 0 (Nat.zero_le _)
      · exact inner J' far q m hB rfl him2 hf hq hm hfr
      · intro J2 far2 q2 m2 hB2 hqe hi2 hf2 hq2 hm2 hfr2
        have hV2 := VK_cg hV (fun c a b => hfr2 c (by omega) (by omega) (by omega))
        refine b_103_120 h1 (by omega) ?_
        rw [hV2.2.2.1]
        refine ⟨by omega, by omega, fun _ => ?_, fun c => by omega⟩
        exact ih J2 far2 q2 m2 _ _ 0 0 0 _ _ _ (BI_next hB2 hi2 (by rw [hqe]; exact hna)) hf2 hq2 hm2 hfr2
      · intro p hp ih2 J2 far2 q2 m2 hB2 hqe hi2 hf2 hq2 hm2 hfr2
        have hV2 := VK_cg hV (fun c a b => hfr2 c (by omega) (by omega) (by omega))
        have hm2N : m2 ≤ vn V * 512 := by rw [hB2.2.2.2.2.2.2.2.2.1]; exact cntF_le _ _
        have hat : q i / 512 < vn V := by omega
        have e1 : J2 (v + 4) ((q i : Int) / 512).toNat = (vnr V (q i / 512) : Nat) := by
          rw [show ((q i : Int) / 512).toNat = q i / 512 by omega]
          exact hV2.2.2.2.2.2.2 _ hat
        have hqi2 := hB2.1 i hi2
        have e2 : J2 541 (i : Int).toNat = (q i : Nat) := by have := hq2 i hi2; rw [hqe] at this; exact this
        refine b_103_120 h1 (by omega) ?_
        rw [hV2.2.2.1, e1, q_bit (vnr_31 bV _) (by omega), e2, Int.toNat_natCast]
        refine ⟨by omega, by omega, fun c => by omega, fun _ => ⟨by omega, fun c => ?_, fun c => ⟨by omega, by omega, ?_⟩⟩⟩
        · refine ih2 J2 far2 q2 m2 (BI_skip hB2 (fun t htt => ?_)) hqe hi2 hf2 hq2 hm2 hfr2
          exfalso
          rw [hqe] at htt
          unfold nxW at htt
          cases z : (vnr V (q i / 512)).testBit p
          · rw [z] at htt; exact absurd htt (by simp)
          · rw [z] at c; exact absurd c (by decide)
        · have hbit : (vnr V (q i / 512)).testBit p = true := by
            cases z : (vnr V (q i / 512)).testBit p
            · rw [z] at c; exact absurd rfl c
            · rfl
          have hn : nxW V tg (q2 i) p = some (p * 512 + (q i % 512 ||| (2 ^ p &&& tg))) := by unfold nxW; rw [hqe, if_pos hbit]
          have hlt := nxW_lt ht hp hn
          have hseen : bOr ((q i : Int) % 512) (bAnd (bShl 1 (p : Int)) (tg : Int)) = ((q i % 512 ||| (2 ^ p &&& tg) : Nat) : Int) := by
            have hpp : 2 ^ p < 2 ^ 31 := Nat.pow_lt_pow_right (by decide) (by omega)
            have h3 := and_tg (p := p) ht
            rw [q_shl p (by omega), q_and hpp, show ((q i : Int) % 512) = ((q i % 512 : Nat) : Int) by omega, q_or (by omega) (by omega)]
          have hsl : (q i % 512 ||| (2 ^ p &&& tg)) < 512 := or_512 (Nat.mod_lt _ (by decide)) (and_tg ht)
          have hfu := hf2 _ hlt.1
          have hrange : -1 ≤ far2 (p * 512 + (q i % 512 ||| (2 ^ p &&& tg))) ∧ far2 (p * 512 + (q i % 512 ||| (2 ^ p &&& tg))) ≤ 4608 := by
            rcases hB2.2.1 _ hlt.1 with z | ⟨j, hj, e⟩
            · omega
            · have := hB2.1 j hj
              rw [e] at this
              omega
          rw [hseen, hf2 (q i) (by omega)]
          refine ⟨_, e_104 (m := m2) (by omega) hsl hm2 (by rw [hfu]; omega) (fun z => ?_) (by omega), ?_⟩
          · rw [hfu] at z
            have := (BI_add hB2 hi2 hp hn hlt.1 z).2
            omega
          · rw [hfu]
            by_cases z : far2 (p * 512 + (q i % 512 ||| (2 ^ p &&& tg))) = -1
            · rw [if_pos z]
              have hadd := BI_add hB2 hi2 hp hn hlt.1 z
              refine ih2 _ _ _ _ hadd.1 (by unfold upN; rw [if_neg (by omega)]; exact hqe) (by omega) (fun u hu => ?_) (fun j hj => ?_) (by rw [up_eq]; omega) (fun c q1 q2 q3 => ?_)
              · rw [up_na (by decide), up_na (by decide), hqe]
                by_cases w : u = p * 512 + (q i % 512 ||| (2 ^ p &&& tg))
                · subst w; rw [up_eq, up1_eq]
                · rw [up_nk w, up1_ne w]; exact hf2 u hu
              · rw [up_na (by decide)]
                unfold upN
                by_cases w : j = m2
                · subst w; rw [up_eq, if_pos rfl]; omega
                · rw [up_nk w, if_neg w, up_na (by decide)]; exact hq2 j (by omega)
              · rw [up_r q1, up_r q3, up_r q2]; exact hfr2 c q1 q2 q3
            · rw [if_neg z]
              refine ih2 J2 far2 q2 m2 (BI_skip hB2 (fun t htt => ?_)) hqe hi2 hf2 hq2 hm2 hfr2
              rw [hn] at htt
              cases htt
              exact ⟨z, hlt.1⟩
    · show (Sum.inl (some (iv (J' 540 (q i : Int).toNat))) : Option Value ⊕ Nat) = _
      rw [Int.toNat_natCast, hf (q i) hqi.1]
end RD
