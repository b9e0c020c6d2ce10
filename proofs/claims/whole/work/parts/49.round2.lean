/-! rounds and ways: the reference's side, and that both find the same -/
theorem q_sh9 : ∀ h : Nat, h < 9 → bShl (h : Int) 9 = ((h * 512 : Nat) : Int) := by decide +kernel
theorem or_add {p t : Nat} (ht : t < 512) : p * 512 ||| t = p * 512 + t := by
  have := Nat.two_pow_add_eq_or_of_lt (i := 9) (b := t) ht p
  rw [Nat.mul_comm p 512]
  exact this.symm
theorem and_511 (u : Nat) : u &&& 511 = u % 512 := Nat.and_two_pow_sub_one_eq_mod u 9
theorem pow_511 {p : Nat} (hp : p < 9) : 2 ^ p &&& 511 = 2 ^ p := by
  rw [and_511]
  exact Nat.mod_eq_of_lt (show 2 ^ p < 2 ^ 9 from Nat.pow_lt_pow_right (by decide) hp)
theorem pow_512 {p : Nat} (hp : p < 9) : 2 ^ p < 512 := show 2 ^ p < 2 ^ 9 from Nat.pow_lt_pow_right (by decide) hp
theorem q_home {h : Nat} (hh : h < 9) : bOr (bShl (h : Int) 9) (bShl 1 (h : Int)) = ((h * 512 + (2 ^ h &&& 511) : Nat) : Int) := by
  have := pow_512 hh
  rw [q_sh9 h hh, q_shl h (by omega), q_or (by omega) (by omega), or_add this, pow_511 hh]
theorem q_next {p t : Nat} (hp : p < 9) (ht : t < 512) : bOr (bOr (bShl (p : Int) 9) (t : Int)) (bShl 1 (p : Int)) = ((p * 512 + (t ||| (2 ^ p &&& 511)) : Nat) : Int) := by
  have h1 := pow_512 hp
  have h2 : p * 512 ||| t < 2 ^ 31 := by rw [or_add ht]; omega
  rw [q_sh9 p hp, q_shl p (by omega), q_or (by omega) (by omega), q_or h2 (by omega), Nat.or_assoc, or_add (or_512 ht h1), pow_511 hp]
theorem VM_0 {J : Nat → Nat → Int} {V : VT} (hV : VM J V) : VM (m_up J 542 0 0) V := by
  obtain ⟨k1, k2, k3, k4, k5, k6, k7, k8⟩ := hV
  exact ⟨(up_nk (by decide)).trans k1, (up_nk (by decide)).trans k2, (up_nk (by decide)).trans k3, (up_nk (by decide)).trans k4, (up_nk (by decide)).trans k5, fun k hk => (up_na (by decide)).trans (k6 k hk), fun k hk => (up_na (by decide)).trans (k7 k hk), fun k hk => (up_na (by decide)).trans (k8 k hk)⟩
section R2
variable {X : Nat × (Nat → Int32)} {J : Nat → Nat → Int} {sw : Bool × Bool × Bool} {lg : Nat → Nat → Int64} {x a b v n : Nat} {V : VT} {s : Nat → Int}
theorem e_245 {h w : Nat} (hV0 : VM J V) (bV : VBd V) (hs0 : MV J 561 s) (bs : SBd (vn V) s) (hh : h < vn V) (hw : w = bitF (fun p => decide (0 < s (30 + p))) (vn V)) : ∃ z : (Nat → Nat → Int) × Int, EE X 2 245 [.ref 542, iv (h : Int)] (mj J sw lg x) (.inl (some (iv z.2))) (mj z.1 sw lg x) ∧ Dist (nxW V 511) (vn V) (h * 512 + (2 ^ h &&& 511)) (fun u => bAnd (w : Int) (bXor ((u % 512 : Nat) : Int) (-1)) = 0) z.2 ∧ ∀ c, c ≠ 569 → c ≠ 570 → z.1 c = m_up J 542 0 0 c := by
  have h9 := bV.2.2.1
  have hV := VM_0 hV0
  have hs : MV (m_up J 542 0 0) 561 s := MV_ne hs0 0 0 (by decide)
  have hS0 : h * 512 + (2 ^ h &&& 511) < vn V * 512 := by have := and_tg (p := h) (show 511 < 512 by decide); omega
  have hN := RnW_lt (V := V) (tg := 511) (s0 := h * 512 + (2 ^ h &&& 511)) (by decide) hS0
  refine EE.ex (O := fun z : (Nat → Nat → Int) × Int => .inl (some (iv z.2))) (F := fun z => mj z.1 sw lg x) mt_245 (b_245_0 (by omega) ?_)
  rw [hV0.2.2.1]
  refine ⟨by omega, fun c => by omega, fun _ => ⟨by omega, fun c => by omega, fun _ => ?_⟩⟩
  generalize m_up J 542 0 0 = J0 at hV hs
  have outer := lp (P := fun i => ∀ (J' : Nat → Nat → Int) (far : Nat → Int) (q : Nat → Nat) (m : Nat) (o1 o2 : Int) (O5 O6 O7 O8 : Option Value), BI (nxW V 511) (vn V) (vn V * 512) (h * 512 + (2 ^ h &&& 511)) (fun u => bAnd (w : Int) (bXor ((u % 512 : Nat) : Int) (-1)) = 0) far q m i 0 → (∀ u, u < vn V * 512 → J' 569 u = far u) → (∀ j, j < m → J' 570 j = (q j : Nat)) → (∀ c, c ≠ 569 → c ≠ 570 → J' c = J0 c) → VV X 2 245 (66, [some (.ref 542), some (iv o1), some (iv o2), some (iv (m : Nat)), some (iv i), O5, O6, O7, O8], [], mj J' sw lg x) (fun o M => ∃ z : (Nat → Nat → Int) × Int, o = .inl (some (iv z.2)) ∧ M = mj z.1 sw lg x ∧ Dist (nxW V 511) (vn V) (h * 512 + (2 ^ h &&& 511)) (fun u => bAnd (w : Int) (bXor ((u % 512 : Nat) : Int) (-1)) = 0) z.2 ∧ ∀ c, c ≠ 569 → c ≠ 570 → z.1 c = J0 c)) (vn V * 512) ?_ ?_ 0 (Nat.zero_le _)
  · have init := lp (P := fun k => ∀ J', (∀ u, u < k → J' 569 u = -1) → (∀ c, c ≠ 569 → c ≠ 570 → J' c = J0 c) → VV X 2 245 (18, [some (.ref 542), some (iv (h : Int)), some (iv k), none, none, none, none, none, none], [], mj J' sw lg x) (fun o M => ∃ z : (Nat → Nat → Int) × Int, o = .inl (some (iv z.2)) ∧ M = mj z.1 sw lg x ∧ Dist (nxW V 511) (vn V) (h * 512 + (2 ^ h &&& 511)) (fun u => bAnd (w : Int) (bXor ((u % 512 : Nat) : Int) (-1)) = 0) z.2 ∧ ∀ c, c ≠ 569 → c ≠ 570 → z.1 c = J0 c)) 4608 ?_ ?_ 0 (Nat.zero_le _)
    · exact init J0 (fun u hu => absurd hu (Nat.not_lt_zero _)) (fun _ _ _ => rfl)
    · intro J' hz hfr
      refine b_245_18 (by omega) ?_
      rw [q_home (by omega), Int.toNat_natCast]
      refine ⟨by decide, fun _ => ⟨by omega, ?_⟩, fun c => absurd c (by decide)⟩
      refine outer _ (up1 (fun _ => -1) (h * 512 + (2 ^ h &&& 511)) 0) (fun _ => h * 512 + (2 ^ h &&& 511)) 1 _ _ _ _ _ _ (BI_start hS0 (up1_eq _ _ _) (fun u _ hu => up1_ne hu) rfl) (fun u hu => ?_) (fun j hj => ?_) (fun c q1 q2 => ?_)
      · rw [up_na (by decide)]
        by_cases z : u = h * 512 + (2 ^ h &&& 511)
        · subst z; rw [up_eq, up1_eq]
        · rw [up_nk z, up1_ne z]; exact hz u (by omega)
      · have : j = 0 := by omega
        subst this
        rw [up_eq]
      · rw [up_r q2, up_r q1]; exact hfr c q1 q2
    · intro k hk ih J' hz hfr
      refine b_245_18 (by omega) ⟨by omega, fun c => by omega, fun _ => ⟨by omega, ?_⟩⟩
      refine ih _ (fun u hu => ?_) (fun c q1 q2 => by rw [up_r q1]; exact hfr c q1 q2)
      show m_up J' 569 k (-1) 569 u = -1
      by_cases z : u = k
      · subst z; rw [up_eq]
      · rw [up_nk z]; exact hz u (by omega)
  · intro J' far q m o1 o2 O5 O6 O7 O8 hB hf hq hfr
    have hmN : m ≤ vn V * 512 := by rw [hB.2.2.2.2.2.2.2.2.1]; exact cntF_le _ _
    have him := hB.2.2.2.2.2.2.2.2.2
    have hmi : m = vn V * 512 := by omega
    refine b_245_66 (by omega) ⟨by omega, by omega, fun _ => ⟨(J', -1), rfl, rfl, ?_, hfr⟩, fun c => by omega⟩
    have hB2 : BI (nxW V 511) (vn V) (vn V * 512) (h * 512 + (2 ^ h &&& 511)) (fun u => bAnd (w : Int) (bXor ((u % 512 : Nat) : Int) (-1)) = 0) far q m m 0 := by
      have := hB
      rw [← hmi] at this
      rw [hmi] at this ⊢
      exact this
    exact BI_end hB2 hN
  · intro i hi ih J' far q m o1 o2 O5 O6 O7 O8 hB hf hq hfr
    have hmN : m ≤ vn V * 512 := by rw [hB.2.2.2.2.2.2.2.2.1]; exact cntF_le _ _
    have him := hB.2.2.2.2.2.2.2.2.2
    have hV' : VM J' V := VM_fr hV (fun c hc => hfr c (by omega) (by omega))
    have hs' : MV J' 561 s := MV_fr hs (hfr 561 (by decide) (by decide))
    refine b_245_66 (by omega) ⟨by omega, by omega, fun c => ⟨(J', -1), rfl, rfl, ?_, hfr⟩, fun c => ⟨by omega, _, J', e_244' hV' bV hs' bs, ?_⟩⟩
    · have hmi : m = i := by omega
      subst hmi
      exact BI_end hB hN
    have him2 : i < m := by omega
    have hqi := hB.1 i him2
    have eq1 : J' 570 (i : Int).toNat = (q i : Nat) := hq i him2
    have e511 : bAnd ((q i : Nat) : Int) 511 = ((q i % 512 : Nat) : Int) := by
      have := q_and (a := q i) (b := 511) (by omega)
      rw [and_511] at this
      exact this
    have eshr : bShr ((q i : Nat) : Int) 9 = ((q i / 512 : Nat) : Int) := by
      have := q_shr (b := q i) (p := 9) (by omega) (by decide)
      rw [Nat.shiftRight_eq_div_pow] at this
      exact this
    rw [← hw, eq1, e511, eshr, Int.toNat_natCast]
    refine ⟨fun ca => ⟨_, J', e_205' hV' bV _ (by omega), ?_⟩, fun ca => ⟨by omega, (J', far (q i)), ?_, rfl, BI_acc hB hN him2 ca, hfr⟩⟩
    · have inner := lp (P := fun p => ∀ (J2 : Nat → Nat → Int) (far2 : Nat → Int) (q2 : Nat → Nat) (m2 : Nat) (O8 : Option Value), BI (nxW V 511) (vn V) (vn V * 512) (h * 512 + (2 ^ h &&& 511)) (fun u => bAnd (w : Int) (bXor ((u % 512 : Nat) : Int) (-1)) = 0) far2 q2 m2 i p → q2 i = q i → i < m2 → (∀ u, u < vn V * 512 → J2 569 u = far2 u) → (∀ j, j < m2 → J2 570 j = (q2 j : Nat)) → (∀ c, c ≠ 569 → c ≠ 570 → J2 c = J0 c) → VV X 2 245 (129, [some (.ref 542), some (iv o1), some (iv o2), some (iv (m2 : Nat)), some (iv i), some (iv ((q i % 512 : Nat) : Int)), some (iv (vnr V (q i / 512) : Nat)), some (iv p), O8], [], mj J2 sw lg x) (fun o M => ∃ z : (Nat → Nat → Int) × Int, o = .inl (some (iv z.2)) ∧ M = mj z.1 sw lg x ∧ Dist (nxW V 511) (vn V) (h * 512 + (2 ^ h &&& 511)) (fun u => bAnd (w : Int) (bXor ((u % 512 : Nat) : Int) (-1)) = 0) z.2 ∧ ∀ c, c ≠ 569 → c ≠ 570 → z.1 c = J0 c)) (vn V) ?_ ?_ 0 (Nat.zero_le _)
      · exact inner J' far q m _ hB rfl him2 hf hq hfr
      · intro J2 far2 q2 m2 O8 hB2 hqe hi2 hf2 hq2 hfr2
        have hV2 : VM J2 V := VM_fr hV (fun c hc => hfr2 c (by omega) (by omega))
        refine b_245_129 (by omega) ?_
        rw [hV2.2.2.1]
        refine ⟨by omega, by omega, fun _ => ?_, fun c => by omega⟩
        exact ih J2 far2 q2 m2 _ _ _ _ _ _ (BI_next hB2 hi2 (by rw [hqe]; exact ca)) hf2 hq2 hfr2
      · intro p hp ih2 J2 far2 q2 m2 O8 hB2 hqe hi2 hf2 hq2 hfr2
        have hV2 : VM J2 V := VM_fr hV (fun c hc => hfr2 c (by omega) (by omega))
        have hm2N : m2 ≤ vn V * 512 := by rw [hB2.2.2.2.2.2.2.2.2.1]; exact cntF_le _ _
        have hqi2 := hB2.1 i hi2
        have e2 : J2 570 (i : Int).toNat = (q i : Nat) := by have := hq2 i hi2; rw [hqe] at this; exact this
        refine b_245_129 (by omega) ?_
        rw [hV2.2.2.1, q_bit (vnr_31 bV _) (by omega), q_next (by omega) (Nat.mod_lt _ (by decide)), e2, Int.toNat_natCast, Int.toNat_natCast]
        refine ⟨by omega, by omega, fun c => by omega, fun _ => ⟨fun c => ?_, fun c => ?_⟩⟩
        · refine ih2 J2 far2 q2 m2 _ (BI_skip hB2 (fun t htt => ?_)) hqe hi2 hf2 hq2 hfr2
          exfalso
          rw [hqe] at htt
          unfold nxW at htt
          cases z : (vnr V (q i / 512)).testBit p
          · rw [z] at htt; exact absurd htt (by simp)
          · rw [z] at c; exact absurd c (by decide)
        · have hbit : (vnr V (q i / 512)).testBit p = true := by
            cases z : (vnr V (q i / 512)).testBit p
            · rw [z] at c; exact absurd rfl c
            · rfl
          have hn : nxW V 511 (q2 i) p = some (p * 512 + (q i % 512 ||| (2 ^ p &&& 511))) := by unfold nxW; rw [hqe, if_pos hbit]
          have hlt := nxW_lt (by decide) hp hn
          have hfu := hf2 _ hlt.1
          have hrange : -1 ≤ far2 (p * 512 + (q i % 512 ||| (2 ^ p &&& 511))) ∧ far2 (p * 512 + (q i % 512 ||| (2 ^ p &&& 511))) ≤ 4608 := by
            rcases hB2.2.1 _ hlt.1 with z | ⟨j, hj, e⟩
            · omega
            · have := hB2.1 j hj
              rw [e] at this
              omega
          have hl1 := hlt.1
          rw [hfu, hf2 (q i) (by omega)]
          refine ⟨by omega, by omega, fun z => ⟨by omega, by omega, ?_, ?_⟩, fun z => ?_⟩
          · have := (BI_add hB2 hi2 hp hn hlt.1 z).2
            omega
          · have hadd := BI_add hB2 hi2 hp hn hlt.1 z
            rw [Int.toNat_natCast]
            refine ih2 _ _ _ (m2 + 1) _ hadd.1 (by unfold upN; rw [if_neg (by omega)]; exact hqe) (by omega) (fun u hu => ?_) (fun j hj => ?_) (fun c q1 q2 => ?_)
            · rw [up_na (by decide), hqe]
              by_cases w : u = p * 512 + (q i % 512 ||| (2 ^ p &&& 511))
              · subst w; rw [up_eq, up1_eq]
              · rw [up_nk w, up1_ne w]; exact hf2 u hu
            · unfold upN
              by_cases w : j = m2
              · subst w; rw [up_eq, if_pos rfl]
              · rw [up_nk w, if_neg w, up_na (by decide)]; exact hq2 j (by omega)
            · rw [up_r q2, up_r q1]; exact hfr2 c q1 q2
          · refine ih2 J2 far2 q2 m2 _ (BI_skip hB2 (fun t htt => ?_)) hqe hi2 hf2 hq2 hfr2
            rw [hn] at htt
            cases htt
            exact ⟨z, hlt.1⟩
    · show (Sum.inl (some (iv (J' 569 (q i)))) : Option Value ⊕ Nat) = _
      rw [hf (q i) hqi.1]
end R2
theorem round_eq {V : VT} {w h : Nat} {r1 r2 : Int} (h9 : vn V ≤ 9) (hw : w < 512) (hh : h < vn V) (d1 : Dist (nxW V w) (vn V) (h * 512 + (2 ^ h &&& w)) (fun u => u % 512 = w) r1) (d2 : Dist (nxW V 511) (vn V) (h * 512 + (2 ^ h &&& 511)) (fun u => bAnd (w : Int) (bXor ((u % 512 : Nat) : Int) (-1)) = 0) r2) : r1 = r2 := by
  have hb : ∀ t, t &&& w < 512 := fun t => Nat.lt_of_le_of_lt Nat.and_le_right hw
  refine (Dist_map (fun u => u / 512 * 512 + (u % 512 &&& w)) (fun _ => True) trivial ?_ (fun _ _ _ _ _ _ => trivial) (fun u p _ hp => ?_) (fun u _ => ?_) d2 d1).symm
  · rw [pow_511 (by omega)]
    have := pow_512 (p := h) (by omega)
    have h00 := Nat.two_pow_pos h
    rw [show (h * 512 + 2 ^ h) / 512 = h by omega, show (h * 512 + 2 ^ h) % 512 = 2 ^ h by omega]
  · have b1 := hb (u % 512)
    have b2 : (u % 512 ||| 2 ^ p) < 512 := or_512 (Nat.mod_lt _ (by decide)) (pow_512 (by omega))
    unfold nxW
    rw [show (u / 512 * 512 + (u % 512 &&& w)) / 512 = u / 512 by omega, show (u / 512 * 512 + (u % 512 &&& w)) % 512 = (u % 512 &&& w) by omega, pow_511 (by omega)]
    split
    · show some _ = some ((p * 512 + (u % 512 ||| 2 ^ p)) / 512 * 512 + ((p * 512 + (u % 512 ||| 2 ^ p)) % 512 &&& w))
      rw [show (p * 512 + (u % 512 ||| 2 ^ p)) / 512 = p by omega, show (p * 512 + (u % 512 ||| 2 ^ p)) % 512 = (u % 512 ||| 2 ^ p) by omega, Nat.and_or_distrib_right]
    · rfl
  · have b1 := hb (u % 512)
    show (u / 512 * 512 + (u % 512 &&& w)) % 512 = w ↔ _
    rw [show (u / 512 * 512 + (u % 512 &&& w)) % 512 = (u % 512 &&& w) by omega, q_sub0 (by omega)]
    constructor
    · intro e i hi
      rw [← e, Nat.testBit_and, Bool.and_eq_true] at hi
      exact hi.1
    · intro e
      apply Nat.eq_of_testBit_eq
      intro i
      rw [Nat.testBit_and]
      cases z : w.testBit i
      · simp
      · rw [e i z]; rfl
/-! ways -/
def nxH (V : VT) (g p : Nat) : Option Nat := if (vnr V g).testBit p then some p else none
theorem tb_lt {a n i : Nat} (ha : a < 2 ^ n) (h : a.testBit i = true) : i < n := by
  rcases Nat.lt_or_ge i n with z | z
  · exact z
  · exfalso
    have := Nat.testBit_lt_two_pow (Nat.lt_of_lt_of_le ha (Nat.pow_le_pow_right (by decide) z) : a < 2 ^ i)
    rw [h] at this; cases this
theorem hg_tb {V : VT} (bV : VBd V) {h : Nat} (hh : h < vn V) (k : Nat) : ∀ g, (hgF V h k).testBit g = true ↔ ∃ m, m ≤ k ∧ Rn (nxH V) (vn V) h m g := by
  induction k with
  | zero =>
    intro g
    show (2 ^ h).testBit g = true ↔ _
    rw [Nat.testBit_two_pow]
    constructor
    · intro e; exact ⟨0, Nat.le_refl _, (show g = h from (of_decide_eq_true e).symm)⟩
    · rintro ⟨m, hm, hr⟩
      have : m = 0 := by omega
      subst this
      have : g = h := hr
      subst this; simp
  | succ k ih =>
    intro g
    show (grdF (vnr V) (hgF V h k) (vn V)).testBit g = true ↔ _
    rw [grdF_tb]
    constructor
    · rintro (a | ⟨p, hp, a, b⟩)
      · obtain ⟨m, hm, hr⟩ := (ih g).mp a; exact ⟨m, by omega, hr⟩
      · obtain ⟨m, hm, hr⟩ := (ih p).mp a
        exact ⟨m + 1, by omega, p, g, hr, tb_lt (vnr_lt bV p) b, by unfold nxH; rw [if_pos b]⟩
    · rintro ⟨m, hm, hr⟩
      rcases Nat.lt_or_ge k m with z | z
      · obtain ⟨m', rfl⟩ : ∃ m', m = m' + 1 := ⟨m - 1, by omega⟩
        obtain ⟨u, p, hu, hp, hx⟩ := hr
        unfold nxH at hx
        split at hx
        · rename_i hb
          cases hx
          have hub := (ih u).mpr ⟨m', by omega, hu⟩
          exact Or.inr ⟨u, tb_lt (hgF_lt bV hh k) hub, hub, hb⟩
        · cases hx
      · exact Or.inl ((ih g).mpr ⟨m, z, hr⟩)
theorem wy_B {V : VT} {h o : Nat} (ho : o < 9) (h9 : vn V ≤ 9) (hh : h < vn V) : ∀ n u, Rn (nxW V (2 ^ o)) (vn V) (h * 512 + (2 ^ h &&& 2 ^ o)) n u → Rn (nxH V) (vn V) h n (u / 512) ∧ (u % 512 = 0 ∨ (u % 512 = 2 ^ o ∧ ∃ m, m ≤ n ∧ Rn (nxH V) (vn V) h m o)) := by
  have hpo := pow_512 ho
  have hand : ∀ p, (2 ^ p &&& 2 ^ o = 0 ∧ p ≠ o) ∨ (2 ^ p &&& 2 ^ o = 2 ^ o ∧ p = o) := by
    intro p
    by_cases z : p = o
    · subst z; exact Or.inr ⟨Nat.and_self _, rfl⟩
    · left
      refine ⟨?_, z⟩
      apply Nat.eq_of_testBit_eq
      intro i
      rw [Nat.testBit_and, Nat.testBit_two_pow, Nat.testBit_two_pow, Nat.zero_testBit]
      by_cases a : p = i
      · subst a; simp [Ne.symm z]
      · simp [a]
  intro n
  induction n with
  | zero =>
    intro u hu
    have e : u = h * 512 + (2 ^ h &&& 2 ^ o) := hu
    rcases hand h with ⟨z, _⟩ | ⟨z, rfl⟩
    · rw [z] at e
      refine ⟨show u / 512 = h by omega, Or.inl (by omega)⟩
    · rw [z] at e
      exact ⟨show u / 512 = h by omega, Or.inr ⟨by omega, 0, Nat.le_refl _, rfl⟩⟩
  | succ n ih =>
    intro t ht
    obtain ⟨u, p, hu, hp, hx⟩ := ht
    obtain ⟨i1, i2⟩ := ih u hu
    have hl := nxW_lt hpo hp hx
    have hbit : (vnr V (u / 512)).testBit p = true := by
      unfold nxW at hx
      split at hx
      · assumption
      · cases hx
    have hstep : Rn (nxH V) (vn V) h (n + 1) p := ⟨u / 512, p, i1, hp, by unfold nxH; rw [if_pos hbit]⟩
    rw [hl.2.1, hl.2.2]
    refine ⟨hstep, ?_⟩
    rcases hand p with ⟨z, _⟩ | ⟨z, rfl⟩
    · rw [z, Nat.or_zero]
      rcases i2 with e | ⟨e, m, hm, hr⟩
      · exact Or.inl e
      · exact Or.inr ⟨e, m, by omega, hr⟩
    · rw [z]
      refine Or.inr ⟨?_, n + 1, Nat.le_refl _, hstep⟩
      rcases i2 with e | ⟨e, _⟩
      · rw [e, Nat.zero_or]
      · rw [e, Nat.or_self]
theorem wy_C {V : VT} {h o : Nat} (ho : o < 9) (h9 : vn V ≤ 9) (hh : h < vn V) : ∀ n g, Rn (nxH V) (vn V) h n g → ∃ u, Rn (nxW V (2 ^ o)) (vn V) (h * 512 + (2 ^ h &&& 2 ^ o)) n u ∧ u / 512 = g ∧ (g = o → (u % 512).testBit o = true) := by
  have hpo := pow_512 ho
  intro n
  induction n with
  | zero =>
    intro g hg
    have e : g = h := hg
    subst e
    have := and_tg (p := g) hpo
    refine ⟨_, rfl, by omega, fun e => ?_⟩
    subst e
    rw [show (g * 512 + (2 ^ g &&& 2 ^ g)) % 512 = (2 ^ g &&& 2 ^ g) by omega, Nat.and_self, Nat.testBit_two_pow]; simp
  | succ n ih =>
    intro g hg
    obtain ⟨u, p, hu, hp, hx⟩ := hg
    obtain ⟨t, ht, rfl, _⟩ := ih u hu
    have hbit : (vnr V (t / 512)).testBit p = true ∧ p = g := by
      unfold nxH at hx
      split at hx
      · cases hx; exact ⟨by assumption, rfl⟩
      · cases hx
    obtain ⟨hb, rfl⟩ := hbit
    have hn : nxW V (2 ^ o) t p = some (p * 512 + (t % 512 ||| (2 ^ p &&& 2 ^ o))) := by unfold nxW; rw [if_pos hb]
    have hl := nxW_lt hpo hp hn
    refine ⟨_, ⟨t, p, ht, hp, hn⟩, hl.2.1, fun e => ?_⟩
    subst e
    rw [hl.2.2, Nat.testBit_or, Nat.and_self, Nat.testBit_two_pow]; simp
/-- the reference's way: the first n at which the other hole is among those reached -/
def wayF (V : VT) (h o : Nat) : Nat → Int → Int
  | 0, r => r
  | k + 1, r => wayF V h o k (if (hgF V h k).testBit o then (k : Int) else r)
theorem way_dist {V : VT} (bV : VBd V) {h o n : Nat} (hh : h < vn V) (ho : o < vn V) (hy : (hgF V h n).testBit o = true) (hm : ∀ m, m < n → ¬ (hgF V h m).testBit o = true) : Dist (nxW V (2 ^ o)) (vn V) (h * 512 + (2 ^ h &&& 2 ^ o)) (fun u => u % 512 = 2 ^ o) (n : Int) := by
  have h9 := bV.2.2.1
  left
  obtain ⟨m, hmn, hr⟩ := (hg_tb bV hh n o).mp hy
  have hmn2 : m = n := by
    rcases Nat.lt_or_ge m n with z | z
    · exact absurd ((hg_tb bV hh m o).mpr ⟨m, Nat.le_refl _, hr⟩) (hm m z)
    · omega
  subst hmn2
  obtain ⟨u, hu, _, hb⟩ := wy_C (o := o) (by omega) h9 hh m o hr
  have hu2 := (wy_B (by omega) h9 hh m u hu).2
  refine ⟨m, u, rfl, hu, ?_, fun k t hk ht hacc => ?_⟩
  · rcases hu2 with e | ⟨e, _⟩
    · have := hb rfl
      rw [e, Nat.zero_testBit] at this
      cases this
    · exact e
  · rcases (wy_B (by omega) h9 hh k t ht).2 with e | ⟨_, j, hj, hr2⟩
    · have hacc' : t % 512 = 2 ^ o := hacc
      have := Nat.two_pow_pos o
      omega
    · exact hm j (by omega) ((hg_tb bV hh j o).mpr ⟨j, Nat.le_refl _, hr2⟩)
theorem way_none {V : VT} (bV : VBd V) {h o : Nat} (hh : h < vn V) (ho : o < vn V) (hm : ∀ m, m < 9 → ¬ (hgF V h m).testBit o = true) : Dist (nxW V (2 ^ o)) (vn V) (h * 512 + (2 ^ h &&& 2 ^ o)) (fun u => u % 512 = 2 ^ o) (-1) := by
  have h9 := bV.2.2.1
  right
  refine ⟨rfl, fun k t ht hacc => ?_⟩
  have hacc' : t % 512 = 2 ^ o := hacc
  rcases (wy_B (by omega) h9 hh k t ht).2 with e | ⟨_, j, hj, hr2⟩
  · have := Nat.two_pow_pos o
    omega
  · have hbit := (hg_tb bV hh j o).mpr ⟨j, Nat.le_refl _, hr2⟩
    obtain ⟨i, hi, hk⟩ := grd_stab (t := 2 ^ h) (H := vn V) (Nat.pow_lt_pow_right (by decide) hh) (vnr_lt bV) ⟨h, by rw [Nat.testBit_two_pow]; simp⟩
    rcases Nat.lt_or_ge j 9 with z | z
    · exact hm j z hbit
    · have e := hk (j - i)
      rw [show i + (j - i) = j by omega] at e
      have e2 : hgF V h j = hgF V h i := e
      rw [e2] at hbit
      exact hm i (by omega) hbit
theorem e_249 {X : Nat × (Nat → Int32)} {J : Nat → Nat → Int} {sw : Bool × Bool × Bool} {lg : Nat → Nat → Int64} {x : Nat} {V : VT} {h o : Nat} (hV0 : VM J V) (bV : VBd V) (hh : h < vn V) (ho : o < vn V) : ∃ r : Int, EE X 2 249 [.ref 542, iv (h : Int), iv (o : Int)] (mj J sw lg x) (.inl (some (iv r))) (mj (m_up J 542 0 0) sw lg x) ∧ Dist (nxW V (2 ^ o)) (vn V) (h * 512 + (2 ^ h &&& 2 ^ o)) (fun u => u % 512 = 2 ^ o) r := by
  have h9 := bV.2.2.1
  have hV := VM_0 hV0
  have hp9 : 2 ^ vn V ≤ 512 := show 2 ^ vn V ≤ 2 ^ 9 from Nat.pow_le_pow_right (by decide) h9
  refine EE.ex (O := fun r : Int => .inl (some (iv r))) (F := fun _ => mj (m_up J 542 0 0) sw lg x) mt_249 (b_249_0 (by omega) ?_)
  rw [hV0.2.2.1, q_shl h (by omega)]
  refine ⟨by omega, fun c => by omega, fun _ => ⟨by omega, fun c => by omega, fun _ => ⟨by omega, fun c => by omega, fun _ => ⟨fun c => by omega, fun _ => ?_⟩⟩⟩⟩
  have key := lp (P := fun k => (∀ m, m < k → ¬ (hgF V h m).testBit o = true) → VV X 2 249 (32, [some (.ref 542), some (iv (h : Int)), some (iv (o : Int)), some (iv (hgF V h k : Nat)), some (iv k)], [], mj (m_up J 542 0 0) sw lg x) (fun o1 M => ∃ z : Int, o1 = .inl (some (iv z)) ∧ M = mj (m_up J 542 0 0) sw lg x ∧ Dist (nxW V (2 ^ o)) (vn V) (h * 512 + (2 ^ h &&& 2 ^ o)) (fun u => u % 512 = 2 ^ o) z)) 9 ?_ ?_ 0 (by decide)
  · exact key (fun m hm => absurd hm (Nat.not_lt_zero _))
  · intro hno
    exact b_249_32 (by omega) ⟨by decide, fun _ => ⟨-1, rfl, rfl, way_none bV hh ho hno⟩, fun c => absurd c (by decide)⟩
  · intro k hk ih hno
    have hlt := hgF_lt bV hh k
    refine b_249_32 (by omega) ?_
    rw [q_bit (by omega) (by omega)]
    refine ⟨by omega, fun c => by omega, fun _ => ⟨fun c => ⟨_, _, e_247 hV bV hlt, ?_⟩, fun c => ⟨(k : Int), rfl, rfl, way_dist bV hh ho ?_ hno⟩⟩⟩
    · refine ih (fun m hm => ?_)
      rcases Nat.lt_or_ge m k with z | z
      · exact hno m z
      · have : m = k := by omega
        subst this
        intro z2
        rw [if_pos z2] at c; exact c rfl
    · cases z : (hgF V h k).testBit o
      · rw [z] at c; exact absurd c (by decide)
      · rfl
theorem Dist_uni {nx : Nat → Nat → Option Nat} {H s0 : Nat} {acc : Nat → Prop} {r1 r2 : Int} (d1 : Dist nx H s0 acc r1) (d2 : Dist nx H s0 acc r2) : r1 = r2 := Dist_map (fun u => u) (fun _ => True) trivial rfl (fun _ _ _ _ _ _ => trivial) (fun u p _ _ => by cases nx u p <;> rfl) (fun _ _ => Iff.rfl) d1 d2
