/-! copies; the holes that hang together, guards, ways: both sides -/
def bcX (x0 : Int) : Int := bAnd (((bAnd (((bAnd (x0 - (bAnd (bUsh x0 1) 1431655765)) 858993459) + (bAnd (bUsh (x0 - (bAnd (bUsh x0 1) 1431655765)) 2) 858993459)) + (bUsh ((bAnd (x0 - (bAnd (bUsh x0 1) 1431655765)) 858993459) + (bAnd (bUsh (x0 - (bAnd (bUsh x0 1) 1431655765)) 2) 858993459)) 4)) 252645135) + (bUsh (bAnd (((bAnd (x0 - (bAnd (bUsh x0 1) 1431655765)) 858993459) + (bAnd (bUsh (x0 - (bAnd (bUsh x0 1) 1431655765)) 2) 858993459)) + (bUsh ((bAnd (x0 - (bAnd (bUsh x0 1) 1431655765)) 858993459) + (bAnd (bUsh (x0 - (bAnd (bUsh x0 1) 1431655765)) 2) 858993459)) 4)) 252645135) 8)) + (bUsh ((bAnd (((bAnd (x0 - (bAnd (bUsh x0 1) 1431655765)) 858993459) + (bAnd (bUsh (x0 - (bAnd (bUsh x0 1) 1431655765)) 2) 858993459)) + (bUsh ((bAnd (x0 - (bAnd (bUsh x0 1) 1431655765)) 858993459) + (bAnd (bUsh (x0 - (bAnd (bUsh x0 1) 1431655765)) 2) 858993459)) 4)) 252645135) + (bUsh (bAnd (((bAnd (x0 - (bAnd (bUsh x0 1) 1431655765)) 858993459) + (bAnd (bUsh (x0 - (bAnd (bUsh x0 1) 1431655765)) 2) 858993459)) + (bUsh ((bAnd (x0 - (bAnd (bUsh x0 1) 1431655765)) 858993459) + (bAnd (bUsh (x0 - (bAnd (bUsh x0 1) 1431655765)) 2) 858993459)) 4)) 252645135) 8)) 16)) 63
set_option maxRecDepth 100000 in
theorem bcX_512 : ∀ n : Nat, n < 512 → bcX (n : Int) = (cntF n.testBit 9 : Nat) := by decide +kernel
theorem VK_cg {J J' : Nat → Nat → Int} {v : Nat} {V : VT} (h : VK J v V) (hf : ∀ c, v ≤ c → c ≤ v + 6 → J' c = J c) : VK J' v V := by
  obtain ⟨k1, k2, k3, k4, k5, k6, k7⟩ := h
  refine ⟨?_, ?_, ?_, ?_, fun k hk => ?_, fun k hk => ?_, fun k hk => ?_⟩
  · rw [hf _ (by omega) (by omega)]; exact k1
  · rw [hf _ (by omega) (by omega)]; exact k2
  · rw [hf _ (by omega) (by omega)]; exact k3
  · rw [hf _ (by omega) (by omega)]; exact k4
  · rw [hf _ (by omega) (by omega)]; exact k5 k hk
  · rw [hf _ (by omega) (by omega)]; exact k6 k hk
  · rw [hf _ (by omega) (by omega)]; exact k7 k hk
section CP
variable {X : Nat × (Nat → Int32)} {J : Nat → Nat → Int} {sw : Bool × Bool × Bool} {lg : Nat → Nat → Int64} {x a b v n : Nat} {V : VT} {s : Nat → Int}
theorem e_44 (h0 : SH[a]? = some (11, 9)) (h1 : SH[b]? = some (11, 9)) (hne : a ≠ b) (hs : SV J b s) : ∃ J', EE X 0 44 [.ref a, .ref b] (mj J sw lg x) (.inl none) (mj J' sw lg x) ∧ SV J' a s ∧ FSt a J J' := by
  have hap := sh_apart h0 h1 hne
  refine EE.ex (O := fun _ => .inl none) (F := fun J' => mj J' sw lg x) mt_44 (b_44_0 h0 h1 ?_)
  intro J1 e1 J2 e2 J3 e3 J4 e4 J5 e5 J6 e6
  have f1 : ∀ c, c ≠ a + 1 → J1 c = J c := fun c hc => by rw [e1]; exact row_r hc
  have f2 : ∀ c, c ≠ a + 2 → J2 c = J1 c := fun c hc => by rw [e2]; exact row_r hc
  have f3 : ∀ c, c ≠ a + 3 → J3 c = J2 c := fun c hc => by rw [e3]; exact row_r hc
  have f4 : ∀ c, c ≠ a + 4 → J4 c = J3 c := fun c hc => by rw [e4]; exact row_r hc
  have f5 : ∀ c, c ≠ a + 5 → J5 c = J4 c := fun c hc => by rw [e5]; exact row_r hc
  have f6 : ∀ c, c ≠ a + 6 → J6 c = J5 c := fun c hc => by rw [e6]; exact row_r hc
  have g1 : ∀ k, k < 6 → J1 (a + 1) k = J (b + 1) k := fun k hk => by rw [e1, row_e, cp_at hk]
  have g2 : ∀ k, k < 6 → J2 (a + 2) k = J1 (b + 2) k := fun k hk => by rw [e2, row_e, cp_at hk]
  have g3 : ∀ k, k < 6 → J3 (a + 3) k = J2 (b + 3) k := fun k hk => by rw [e3, row_e, cp_at hk]
  have g4 : ∀ k, k < 6 → J4 (a + 4) k = J3 (b + 4) k := fun k hk => by rw [e4, row_e, cp_at hk]
  have g5 : ∀ k, k < 9 → J5 (a + 5) k = J4 (b + 5) k := fun k hk => by rw [e5, row_e, cp_at hk]
  have g6 : ∀ k, k < 9 → J6 (a + 6) k = J5 (b + 6) k := fun k hk => by rw [e6, row_e, cp_at hk]
  obtain ⟨s1, s2, s3, s4, s5, s6, s7, s8, s9⟩ := hs
  have eb : J6 b = J b := by rw [f6 b (by omega), f5 b (by omega), f4 b (by omega), f3 b (by omega), f2 b (by omega), f1 b (by omega)]
  refine ⟨_, rfl, rfl, ⟨fun k hk => ?_, fun k hk => ?_, fun k hk => ?_, fun k hk => ?_, fun k hk => ?_, fun k hk => ?_, ?_, ?_, ?_⟩, fun c hc => ?_⟩
  · rw [up_r (by omega), up_r (by omega), up_r (by omega), f6 _ (by omega), f5 _ (by omega), f4 _ (by omega), f3 _ (by omega), f2 _ (by omega), g1 k hk]; exact s1 k hk
  · rw [up_r (by omega), up_r (by omega), up_r (by omega), f6 _ (by omega), f5 _ (by omega), f4 _ (by omega), f3 _ (by omega), g2 k hk, f1 _ (by omega)]; exact s2 k hk
  · rw [up_r (by omega), up_r (by omega), up_r (by omega), f6 _ (by omega), f5 _ (by omega), f4 _ (by omega), g3 k hk, f2 _ (by omega), f1 _ (by omega)]; exact s3 k hk
  · rw [up_r (by omega), up_r (by omega), up_r (by omega), f6 _ (by omega), f5 _ (by omega), g4 k hk, f3 _ (by omega), f2 _ (by omega), f1 _ (by omega)]; exact s4 k hk
  · rw [up_r (by omega), up_r (by omega), up_r (by omega), f6 _ (by omega), g5 k hk, f4 _ (by omega), f3 _ (by omega), f2 _ (by omega), f1 _ (by omega)]; exact s5 k hk
  · rw [up_r (by omega), up_r (by omega), up_r (by omega), g6 k hk, f5 _ (by omega), f4 _ (by omega), f3 _ (by omega), f2 _ (by omega), f1 _ (by omega)]; exact s6 k hk
  · rw [up_nk (by decide), up_nk (by decide), up_eq, eb]; exact s7
  · rw [up_nk (by decide), up_eq, up_r (show b ≠ a by omega), eb]; exact s8
  · rw [up_eq, up_r (show b ≠ a by omega), up_r (show b ≠ a by omega), eb]; exact s9
  · rw [up_r (by omega), up_r (by omega), up_r (by omega), f6 _ (by omega), f5 _ (by omega), f4 _ (by omega), f3 _ (by omega), f2 _ (by omega), f1 _ (by omega)]
theorem e_179 {n1 n2 : Nat} (h1 : SH[a]? = some (0, n1)) (h2 : SH[b]? = some (0, n2)) (hne : a ≠ b) (hn1 : n ≤ n1) (hn2 : n ≤ n2) (hb1 : n1 ≤ 100000) (hb2 : n2 ≤ 100000) : ∃ J', EE X 0 179 [.ref 542, .ref a, .ref b, iv (n : Int)] (mj J sw lg x) (.inl none) (mj J' sw lg x) ∧ (∀ k, k < n → J' b k = J a k) ∧ (∀ k, n ≤ k → J' b k = J b k) ∧ ∀ c, c ≠ b → J' c = J c := by
  refine EE.ex (O := fun _ => .inl none) (F := fun J' => mj J' sw lg x) mt_179 (b_179_0 h1 (by omega) h2 (by omega) ?_)
  have key := lp (P := fun k => ∀ J', (∀ i, i < k → J' b i = J a i) → (∀ i, k ≤ i → J' b i = J b i) → (∀ c, c ≠ b → J' c = J c) → VV X 0 179 (3, [some (.ref 542), some (.ref a), some (.ref b), some (iv (n : Int)), some (iv k)], [], mj J' sw lg x) (fun o M => ∃ z, o = .inl none ∧ M = mj z sw lg x ∧ (∀ k, k < n → z b k = J a k) ∧ (∀ k, n ≤ k → z b k = J b k) ∧ ∀ c, c ≠ b → z c = J c)) n ?_ ?_ 0 (Nat.zero_le _)
  · exact key J (fun i hi => absurd hi (Nat.not_lt_zero _)) (fun _ _ => rfl) (fun _ _ => rfl)
  · intro J' q1 q2 q3
    exact b_179_3 h1 (by omega) h2 (by omega) ⟨by omega, by omega, fun _ => ⟨J', rfl, rfl, q1, q2, q3⟩, fun c => by omega⟩
  · intro k hk ih J' q1 q2 q3
    refine b_179_3 h1 (by omega) h2 (by omega) ⟨by omega, by omega, fun c => by omega, fun _ => ⟨by omega, by omega, ?_⟩⟩
    refine ih _ (fun i hi => ?_) (fun i hi => ?_) (fun c hc => by rw [up_r hc]; exact q3 c hc)
    · show m_up J' b k (J' a k) b i = _
      by_cases z : i = k
      · subst z; rw [up_eq, q3 a hne]
      · rw [up_nk z]; exact q1 i (by omega)
    · show m_up J' b k (J' a k) b i = _
      rw [up_nk (by omega)]; exact q2 i (by omega)
theorem e_204 (hs : MV J 561 s) : ∃ J', EE X 1 204 [.ref 542] (mj J sw lg x) (.inl none) (mj J' sw lg x) ∧ MV J' 562 s ∧ FM J J' := by
  refine EE.ex (O := fun _ => .inl none) (F := fun J' => mj J' sw lg x) mt_204 (b_204_0 (by omega) ?_)
  exact ex0 (e_179 (n := 50) c_561 c_562 (by decide) (by decide) (by decide) (by decide) (by decide)) (fun J1 h => ⟨J1, rfl, rfl, fun k hk => (h.1 k hk).trans (hs k hk), h.2.2⟩)
theorem e_276 (hn : n < 512) : EE X 0 276 [iv (n : Int)] (mj J sw lg x) (.inl (some (iv (cntF n.testBit 9 : Nat)))) (mj J sw lg x) := by
  refine EE.of mt_276 (b_276_0 ⟨?_, rfl⟩)
  rw [← bcX_512 n hn]
  rfl
theorem e_246 (hn : n < 512) : EE X 0 246 [iv (n : Int)] (mj J sw lg x) (.inl (some (iv (cntF n.testBit 9 : Nat)))) (mj J sw lg x) := by
  refine EE.of mt_246 (b_246_0 ?_)
  refine lp (P := fun k => VV X 0 246 (4, [some (iv (n : Int)), some (iv (cntF n.testBit k : Nat)), some (iv k)], [], mj J sw lg x) _) 9 ?_ ?_ 0 (by decide)
  · exact b_246_4 ⟨by decide, fun _ => ⟨rfl, rfl⟩, fun c => absurd c (by decide)⟩
  · intro k hk ih
    refine b_246_4 ⟨by omega, fun c => by omega, fun _ => ?_⟩
    rw [q_bit (by omega) (by omega)]
    have e : (cntF n.testBit k : Int) + (if n.testBit k then 1 else 0) = (cntF n.testBit (k + 1) : Nat) := by
      rw [cntF]; split <;> omega
    rw [e]; exact ih
theorem e_106 {t : Nat} (h0 : SH[v]? = some (14, 12)) (hV : VK J v V) (bV : VBd V) (ht : t < 2 ^ vn V) : EE X 0 106 [.ref v, iv (t : Int)] (mj J sw lg x) (.inl (some (iv (grdF (vnr V) t (vn V) : Nat)))) (mj J sw lg x) := by
  have h9 := bV.2.2.1
  have hp : 2 ^ vn V ≤ 2147483648 := show 2 ^ vn V ≤ 2 ^ 31 from Nat.pow_le_pow_right (by decide) (by omega)
  refine EE.of mt_106 (b_106_0 h0 ?_)
  refine lp (P := fun k => VV X 0 106 (4, [some (.ref v), some (iv (t : Int)), some (iv (grdF (vnr V) t k : Nat)), some (iv k)], [], mj J sw lg x) _) (vn V) ?_ ?_ 0 (Nat.zero_le _)
  · refine b_106_4 h0 ?_
    rw [hV.2.2.1]
    exact ⟨by omega, by omega, fun _ => ⟨rfl, rfl⟩, fun c => by omega⟩
  · intro k hk ih
    have e : J (v + 4) (k : Int).toNat = (vnr V k : Nat) := hV.2.2.2.2.2.2 k hk
    have b1 := grdF_lt ht (vnr_lt bV) k
    have b2 := vnr_lt bV k
    refine b_106_4 h0 ?_
    rw [hV.2.2.1, q_bit (by omega) (by omega), e]
    refine ⟨by omega, by omega, fun c => by omega, fun _ => ⟨fun c => ?_, fun c => ⟨by omega, ?_⟩⟩⟩
    · rw [grdF, if_neg (by intro z; rw [if_pos z] at c; omega)] at ih; exact ih
    · have z : t.testBit k = true := by
        cases z : t.testBit k
        · rw [z] at c; exact absurd rfl c
        · rfl
      rw [grdF, if_pos z] at ih
      rw [q_or (by omega) (by omega)]; exact ih
theorem e_247 {t : Nat} (hV : VM J V) (bV : VBd V) (ht : t < 2 ^ vn V) : EE X 1 247 [.ref 542, iv (t : Int)] (mj J sw lg x) (.inl (some (iv (grdF (vnr V) t (vn V) : Nat)))) (mj J sw lg x) := by
  have h9 := bV.2.2.1
  have hp : 2 ^ vn V ≤ 2147483648 := show 2 ^ vn V ≤ 2 ^ 31 from Nat.pow_le_pow_right (by decide) (by omega)
  refine EE.of mt_247 (b_247_0 (by omega) ?_)
  refine lp (P := fun k => VV X 1 247 (4, [some (.ref 542), some (iv (t : Int)), some (iv (grdF (vnr V) t k : Nat)), some (iv k)], [], mj J sw lg x) _) (vn V) ?_ ?_ 0 (Nat.zero_le _)
  · refine b_247_4 (by omega) ?_
    rw [hV.2.2.1]
    exact ⟨by omega, by omega, fun _ => ⟨rfl, rfl⟩, fun c => by omega⟩
  · intro k hk ih
    have b1 := grdF_lt ht (vnr_lt bV) k
    have b2 := vnr_lt bV k
    refine b_247_4 (by omega) ?_
    rw [hV.2.2.1, q_bit (by omega) (by omega)]
    refine ⟨by omega, by omega, fun c => by omega, fun _ => ⟨fun c => ?_, fun c => ⟨_, J, e_205' hV bV k (by omega), ?_⟩⟩⟩
    · rw [grdF, if_neg (by intro z; rw [if_pos z] at c; omega)] at ih
      rw [q_or0 (by omega)]; exact ih
    · have z : t.testBit k = true := by
        cases z : t.testBit k
        · rw [z] at c; exact absurd c (by decide)
        · rfl
      rw [grdF, if_pos z] at ih
      rw [q_or (by omega) (by omega)]; exact ih
/-- guards: of the sets that guard all that is worn, the first of the smallest -/
def gsF (V : VT) (w : Nat) : Nat → Int
  | 0 => -1
  | k + 1 => if bAnd (w : Int) (bXor (grdF (vnr V) k (vn V) : Nat) (-1)) = 0 ∧ (gsF V w k = -1 ∨ cntF k.testBit 9 < cntF (gsF V w k).toNat.testBit 9) then (k : Int) else gsF V w k
theorem gsF_b (V : VT) (w : Nat) : ∀ k, -1 ≤ gsF V w k ∧ gsF V w k < k
  | 0 => ⟨show (-1 : Int) ≤ -1 by decide, show (-1 : Int) < 0 by decide⟩
  | k + 1 => by
    have := gsF_b V w k
    unfold gsF
    split <;> omega
theorem gsF_full {V : VT} {w : Nat} (hw : w < 2 ^ vn V) (h9 : vn V ≤ 9) : ¬ gsF V w (2 ^ vn V) = -1 := by
  have hp : 2 ^ vn V ≤ 2147483648 := show 2 ^ vn V ≤ 2 ^ 31 from Nat.pow_le_pow_right (by decide) (by omega)
  have h0 := Nat.two_pow_pos (vn V)
  obtain ⟨m, hm⟩ : ∃ m, 2 ^ vn V = m + 1 := ⟨2 ^ vn V - 1, by omega⟩
  have hq : bAnd (w : Int) (bXor (grdF (vnr V) m (vn V) : Nat) (-1)) = 0 := by
    rw [q_sub0 (by omega)]
    intro i hi
    rw [grdF_tb]
    left
    have hiH : i < vn V := by
      rcases Nat.lt_or_ge i (vn V) with z | z
      · exact z
      · exfalso
        have := Nat.testBit_lt_two_pow (Nat.lt_of_lt_of_le hw (Nat.pow_le_pow_right (by decide) z) : w < 2 ^ i)
        rw [hi] at this; cases this
    rw [show m = 2 ^ vn V - 1 by omega, Nat.testBit_two_pow_sub_one]
    simp [hiH]
  have hb := gsF_b V w m
  rw [hm, gsF]
  by_cases z : gsF V w m = -1
  · rw [if_pos ⟨hq, Or.inl z⟩]; omega
  · split <;> omega
theorem e_105 {w : Nat} (h1 : SH[v]? = some (14, 12)) (hV : VK J v V) (bV : VBd V) (hw : w < 2 ^ vn V) : EE X 1 105 [.ref 539, .ref v, iv (w : Int)] (mj J sw lg x) (.inl (some (iv (gsF V w (2 ^ vn V))))) (mj J sw lg x) := by
  have h9 := bV.2.2.1
  have hp9 : 2 ^ vn V ≤ 512 := show 2 ^ vn V ≤ 2 ^ 9 from Nat.pow_le_pow_right (by decide) h9
  refine EE.of mt_105 (b_105_0 h1 (by omega) ?_)
  rw [hV.2.2.1, q_shl (vn V) (by omega)]
  have key := lp (P := fun k => ∀ (o7 : Option Value) (bs fw : Int), ((gsF V w k = -1 ∧ bs = 0 ∧ fw = 10) ∨ (¬ gsF V w k = -1 ∧ bs = gsF V w k ∧ fw = (cntF (gsF V w k).toNat.testBit 9 : Nat))) → VV X 1 105 (17, [some (.ref 539), some (.ref v), some (iv (w : Int)), some (iv bs), some (iv fw), some (iv ((2 ^ vn V : Nat) : Int)), some (iv k), o7], [], mj J sw lg x) (fun o1 M1 => o1 = .inl (some (iv (gsF V w (2 ^ vn V)))) ∧ M1 = mj J sw lg x)) (2 ^ vn V) ?_ ?_ 0 (Nat.zero_le _)
  · exact key _ 0 10 (Or.inl ⟨rfl, rfl, rfl⟩)
  · intro o7 bs fw hb
    rcases hb with ⟨q, _, _⟩ | ⟨q, rfl, _⟩
    · exact absurd q (gsF_full hw h9)
    · exact b_105_17 h1 (by omega) ⟨by omega, by omega, fun _ => ⟨rfl, rfl⟩, fun c => by omega⟩
  · intro k hk ih o7 bs fw hb
    have hc := cntF_le k.testBit 9
    have hc2 := cntF_le (gsF V w k).toNat.testBit 9
    refine b_105_17 h1 (by omega) ⟨by omega, by omega, fun c => by omega, fun _ => ⟨_, J, e_276 (by omega), by omega, by omega, fun c => ?_, fun c => ⟨_, J, e_106 h1 hV bV hk, fun c2 => ?_, fun c2 => ?_⟩⟩⟩
    · refine ih _ bs fw ?_
      have : ¬ (bAnd (w : Int) (bXor (grdF (vnr V) k (vn V) : Nat) (-1)) = 0 ∧ (gsF V w k = -1 ∨ cntF k.testBit 9 < cntF (gsF V w k).toNat.testBit 9)) := by omega
      rw [gsF, if_neg this]; exact hb
    · refine ih _ bs fw ?_
      rw [gsF, if_neg (fun z => c2 z.1)]; exact hb
    · refine ih _ _ _ (Or.inr ?_)
      rw [gsF, if_pos ⟨c2, by omega⟩]
      exact ⟨by omega, rfl, rfl⟩
theorem MV_561 {s : Nat → Int} (hs : MV J 561 s) : ∀ p, p < 9 → J 561 (30 + p) = s (30 + p) := fun p hp => hs (30 + p) (by omega)
theorem e_244' (hV : VM J V) (bV : VBd V) (hs : MV J 561 s) (bs : SBd (vn V) s) : EE X 0 244 [.ref 542] (mj J sw lg x) (.inl (some (iv (bitF (fun p => decide (0 < s (30 + p))) (vn V))))) (mj J sw lg x) := by
  have h9 := bV.2.2.1
  exact e_244 (f := fun p => s (30 + p)) hV.2.2.1 h9 (fun p hp => hs (30 + p) (by omega)) (fun p hp => by have := bs.2.2.2.1 p (by omega); omega)
theorem e_248 {w : Nat} (hV : VM J V) (bV : VBd V) (hs : MV J 561 s) (bs : SBd (vn V) s) (hw : w = bitF (fun p => decide (0 < s (30 + p))) (vn V)) : EE X 2 248 [.ref 542] (mj J sw lg x) (.inl (some (iv (gsF V w (2 ^ vn V))))) (mj (m_up J 542 0 0) sw lg x) := by
  have h9 := bV.2.2.1
  have hp9 : 2 ^ vn V ≤ 512 := show 2 ^ vn V ≤ 2 ^ 9 from Nat.pow_le_pow_right (by decide) h9
  have hp0 := Nat.two_pow_pos (vn V)
  have hV' : VM (m_up J 542 0 0) V := by
    obtain ⟨k1, k2, k3, k4, k5, k6, k7, k8⟩ := hV
    exact ⟨(up_nk (by decide)).trans k1, (up_nk (by decide)).trans k2, (up_nk (by decide)).trans k3, (up_nk (by decide)).trans k4, (up_nk (by decide)).trans k5, fun k hk => (up_na (by decide)).trans (k6 k hk), fun k hk => (up_na (by decide)).trans (k7 k hk), fun k hk => (up_na (by decide)).trans (k8 k hk)⟩
  have hs' : MV (m_up J 542 0 0) 561 s := MV_ne hs 0 0 (by decide)
  refine EE.of mt_248 (b_248_0 (by omega) ?_)
  refine lp (P := fun k => VV X 2 248 (9, [some (.ref 542), some (iv (gsF V w k)), some (iv k)], [], mj (m_up J 542 0 0) sw lg x) _) (2 ^ vn V) ?_ ?_ 0 (Nat.zero_le _)
  · refine b_248_9 (by omega) ?_
    rw [hV'.2.2.1, q_shl (vn V) (by omega)]
    exact ⟨by omega, fun _ => ⟨rfl, rfl⟩, fun c => by omega⟩
  · intro k hk ih
    have hb := gsF_b V w k
    have hc := cntF_le k.testBit 9
    have hc2 := cntF_le (gsF V w k).toNat.testBit 9
    refine b_248_9 (by omega) ?_
    rw [hV'.2.2.1, q_shl (vn V) (by omega)]
    refine ⟨by omega, fun c => by omega, fun _ => ⟨_, _, e_244' hV' bV hs' bs, _, _, e_247 hV' bV hk, ?_⟩⟩
    rw [← hw]
    refine ⟨fun c => ?_, fun c => ⟨by omega, fun c2 => ?_, fun c2 => ?_⟩⟩
    · rw [gsF, if_neg (fun z => c z.1)] at ih; exact ih
    · rw [gsF, if_pos ⟨c, Or.inl c2⟩] at ih; exact ih
    · obtain ⟨g, hg⟩ : ∃ g : Nat, gsF V w k = (g : Int) := ⟨(gsF V w k).toNat, by omega⟩
      rw [hg]
      rw [show (gsF V w k).toNat = g by omega] at hc2
      refine ⟨_, _, e_246 (by omega), _, _, e_246 (by omega), by omega, by omega, fun c3 => ?_, fun c3 => ?_⟩
      · rw [gsF, if_neg (by rw [hg, Int.toNat_natCast]; omega), hg] at ih; exact ih
      · rw [gsF, if_pos ⟨c, Or.inr (by rw [hg, Int.toNat_natCast]; omega)⟩] at ih; exact ih
/-- how many parts the holes fall into -/
def hgF (V : VT) (p n : Nat) : Nat := itF (fun u => grdF (vnr V) u (vn V)) (2 ^ p) n
def ptF (V : VT) : Nat → Nat × Nat
  | 0 => (0, 0)
  | k + 1 => if (ptF V k).1.testBit k then ptF V k else ((ptF V k).1 ||| hgF V k (vn V), (ptF V k).2 + 1)
theorem hgF_lt {V : VT} (bV : VBd V) {p : Nat} (hp : p < vn V) : ∀ n, hgF V p n < 2 ^ vn V
  | 0 => Nat.pow_lt_pow_right (by decide) hp
  | n + 1 => grdF_lt (hgF_lt bV hp n) (vnr_lt bV) (vn V)
theorem hgF_9 {V : VT} (bV : VBd V) {p : Nat} (hp : p < vn V) : hgF V p 9 = hgF V p (vn V) := by
  obtain ⟨j, hj, hk⟩ := grd_stab (t := 2 ^ p) (H := vn V) (Nat.pow_lt_pow_right (by decide) hp) (vnr_lt bV) ⟨p, by rw [Nat.testBit_two_pow]; simp⟩
  have h9 := bV.2.2.1
  have a1 := hk (9 - j)
  have a2 := hk (vn V - j)
  rw [show j + (9 - j) = 9 by omega] at a1
  rw [show j + (vn V - j) = vn V by omega] at a2
  unfold hgF
  rw [a1, a2]
theorem ptF_b {V : VT} (bV : VBd V) : ∀ k, k ≤ vn V → (ptF V k).1 < 2 ^ vn V ∧ (ptF V k).2 ≤ k
  | 0, _ => ⟨Nat.two_pow_pos _, Nat.le_refl _⟩
  | k + 1, hk => by
    have := ptF_b bV k (by omega)
    unfold ptF
    split
    · omega
    · exact ⟨or_lt this.1 (hgF_lt bV (by omega) _), by show _ + 1 ≤ _; omega⟩
theorem e_108 {p : Nat} (h0 : SH[v]? = some (14, 12)) (hV : VK J v V) (bV : VBd V) (hp : p < vn V) : EE X 1 108 [.ref v, iv (p : Int)] (mj J sw lg x) (.inl (some (iv (hgF V p (vn V) : Nat)))) (mj J sw lg x) := by
  have h9 := bV.2.2.1
  refine EE.of mt_108 (b_108_0 h0 (by omega) ?_)
  rw [q_shl p (by omega)]
  refine lp (P := fun k => VV X 1 108 (6, [some (.ref v), some (iv (p : Int)), some (iv (hgF V p k : Nat)), some (iv k)], [], mj J sw lg x) _) (vn V) ?_ ?_ 0 (Nat.zero_le _)
  · refine b_108_6 h0 (by omega) ?_
    rw [hV.2.2.1]
    exact ⟨by omega, by omega, fun _ => ⟨rfl, rfl⟩, fun c => by omega⟩
  · intro k hk ih
    refine b_108_6 h0 (by omega) ?_
    rw [hV.2.2.1]
    exact ⟨by omega, by omega, fun c => by omega, fun _ => ⟨_, J, e_106 h0 hV bV (hgF_lt bV hp k), ih⟩⟩
theorem e_107 (h0 : SH[v]? = some (14, 12)) (hV : VK J v V) (bV : VBd V) : EE X 2 107 [.ref 539, .ref v] (mj J sw lg x) (.inl (some (iv ((ptF V (vn V)).2 : Nat)))) (mj J sw lg x) := by
  have h9 := bV.2.2.1
  have hp9 : 2 ^ vn V ≤ 512 := show 2 ^ vn V ≤ 2 ^ 9 from Nat.pow_le_pow_right (by decide) h9
  refine EE.of mt_107 (b_107_0 h0 (by omega) ?_)
  refine lp (P := fun k => VV X 2 107 (7, [some (.ref 539), some (.ref v), some (iv ((ptF V k).1 : Nat)), some (iv ((ptF V k).2 : Nat)), some (iv k)], [], mj J sw lg x) _) (vn V) ?_ ?_ 0 (Nat.zero_le _)
  · refine b_107_7 h0 (by omega) ?_
    rw [hV.2.2.1]
    exact ⟨by omega, by omega, fun _ => ⟨rfl, rfl⟩, fun c => by omega⟩
  · intro k hk ih
    have hb := ptF_b bV k (by omega)
    have hg := hgF_lt bV hk (vn V)
    refine b_107_7 h0 (by omega) ?_
    rw [hV.2.2.1, q_bit (by omega) (by omega)]
    refine ⟨by omega, by omega, fun c => by omega, fun _ => ⟨fun c => ?_, fun c => ⟨_, J, e_108 h0 hV bV hk, ?_⟩⟩⟩
    · have z : (ptF V k).1.testBit k = true := by
        cases z : (ptF V k).1.testBit k
        · rw [z] at c; exact absurd rfl c
        · rfl
      rw [ptF, if_pos z] at ih; exact ih
    · rw [ptF, if_neg (by intro z; rw [if_pos z] at c; omega)] at ih
      rw [q_or (by omega) (by omega)]; exact ih
theorem e_250 (hV : VM J V) (bV : VBd V) : EE X 2 250 [.ref 542] (mj J sw lg x) (.inl (some (iv ((ptF V (vn V)).2 : Nat)))) (mj (m_up J 542 0 0) sw lg x) := by
  have h9 := bV.2.2.1
  have hp9 : 2 ^ vn V ≤ 512 := show 2 ^ vn V ≤ 2 ^ 9 from Nat.pow_le_pow_right (by decide) h9
  have hV' : VM (m_up J 542 0 0) V := by
    obtain ⟨k1, k2, k3, k4, k5, k6, k7, k8⟩ := hV
    exact ⟨(up_nk (by decide)).trans k1, (up_nk (by decide)).trans k2, (up_nk (by decide)).trans k3, (up_nk (by decide)).trans k4, (up_nk (by decide)).trans k5, fun k hk => (up_na (by decide)).trans (k6 k hk), fun k hk => (up_na (by decide)).trans (k7 k hk), fun k hk => (up_na (by decide)).trans (k8 k hk)⟩
  refine EE.of mt_250 (b_250_0 (by omega) ?_)
  have key := lp (P := fun k => ∀ o4 o5 : Option Value, VV X 2 250 (11, [some (.ref 542), some (iv ((ptF V k).1 : Nat)), some (iv ((ptF V k).2 : Nat)), some (iv k), o4, o5], [], mj (m_up J 542 0 0) sw lg x) (fun o1 M1 => o1 = .inl (some (iv ((ptF V (vn V)).2 : Nat))) ∧ M1 = mj (m_up J 542 0 0) sw lg x)) (vn V) ?_ ?_ 0 (Nat.zero_le _)
  · exact key _ _
  · intro o4 o5
    refine b_250_11 (by omega) ?_
    rw [hV'.2.2.1]
    exact ⟨by omega, by omega, fun _ => ⟨rfl, rfl⟩, fun c => by omega⟩
  · intro k hk ih o4 o5
    have hb := ptF_b bV k (by omega)
    have hg := hgF_lt bV hk (vn V)
    refine b_250_11 (by omega) ?_
    rw [hV'.2.2.1, q_bit (by omega) (by omega)]
    refine ⟨by omega, by omega, fun c => by omega, fun _ => ⟨fun c => ?_, fun c => ?_⟩⟩
    · rw [q_shl k (by omega)]
      refine lp (P := fun i => VV X 2 250 (39, [some (.ref 542), some (iv ((ptF V k).1 : Nat)), some (iv ((ptF V k).2 : Nat)), some (iv k), some (iv (hgF V k i : Nat)), some (iv i)], [], mj (m_up J 542 0 0) sw lg x) _) 9 ?_ ?_ 0 (by decide)
      · refine b_250_39 (by omega) ⟨by decide, fun _ => ?_, fun c => absurd c (by decide)⟩
        have h := ih (some (iv (hgF V k 9 : Nat))) (some (iv 9))
        rw [ptF, if_neg (by intro z; rw [if_pos z] at c; omega)] at h
        rw [hgF_9 bV hk] at h ⊢
        rw [q_or (by omega) (by omega)]; exact h
      · intro i hi ih2
        exact b_250_39 (by omega) ⟨by omega, fun c => by omega, fun _ => ⟨_, _, e_247 hV' bV (hgF_lt bV hk i), ih2⟩⟩
    · have z : (ptF V k).1.testBit k = true := by
        cases z : (ptF V k).1.testBit k
        · rw [z] at c; exact absurd c (by decide)
        · rfl
      have h := ih o4 o5
      rw [ptF, if_pos z] at h; exact h
end CP
