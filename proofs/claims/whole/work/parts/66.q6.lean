/-! wool shared, generations, spans -/
section Q6
variable {X : Nat × (Nat → Int32)} {J : Nat → Nat → Int} {sw : Bool × Bool × Bool} {lg : Nat → Nat → Int64} {x : Nat} {A : AT} {u w t : Int}
def wsF (s : Nat → Int) (set : Nat) (b : Int) : Nat → Int
  | 0 => 0
  | k + 1 => if set.testBit k then wsF s set b k + min (s (30 + k)) b else wsF s set b k
theorem wsF_b {s : Nat → Int} {set : Nat} {b : Int} {n : Nat} (hb : 0 ≤ b ∧ b ≤ 99) (hs : ∀ p, p < n → 0 ≤ s (30 + p)) : ∀ k, k ≤ n → 0 ≤ wsF s set b k ∧ wsF s set b k ≤ 99 * k
  | 0, _ => ⟨Int.le_refl _, by show (0 : Int) ≤ 99 * (0 : Nat); omega⟩
  | k + 1, hk => by
    have := wsF_b (set := set) hb hs k (by omega)
    have := hs k (by omega)
    unfold wsF
    split <;> omega
theorem wsF_0 {s : Nat → Int} {set : Nat} {n : Nat} (hs : ∀ p, p < n → 0 ≤ s (30 + p)) : ∀ k, k ≤ n → wsF s set 0 k = 0
  | 0, _ => rfl
  | k + 1, hk => by
    have h1 := wsF_0 (set := set) hs k (by omega)
    have := hs k (by omega)
    unfold wsF
    split <;> omega
def gbF (s : Nat → Int) (set n : Nat) (m : Int) : Nat → Nat
  | 0 => 0
  | b + 1 => if wsF s set ((b + 1 : Nat) : Int) n ≤ m then b + 1 else gbF s set n m b
theorem gbF_le (s : Nat → Int) (set n : Nat) (m : Int) : ∀ b, gbF s set n m b ≤ b
  | 0 => Nat.le_refl _
  | b + 1 => by
    have := gbF_le s set n m b
    unfold gbF
    split <;> omega
def woolQ (A : AT) (u w t : Int) : Nat × Int := if u < 0 ∨ (vn (aV A) : Int) ≤ u then (1, 0) else if (w < 0 ∨ ((2 ^ vn (aV A) : Nat) : Int) ≤ w) ∨ t < 0 ∨ 999 < t then (2, 0) else (0, if w.toNat.testBit u.toNat then min (aS A (30 + u.toNat)) (gbF (aS A) w.toNat (vn (aV A)) t 99 : Nat) else 0)
theorem tb_ite {b : Bool} : ((if b = true then 1 else 0 : Int) = 0) ↔ b = false := by cases b <;> simp
theorem e_157 {set : Nat} {m : Int} (hG : GK J sw A) (bA' : ABd A) (hs : set < 2147483648) (hm : 0 ≤ m ∧ m ≤ 999) : EE X 0 157 [.ref 0, iv (set : Int), iv m] (mj J sw lg x) (.inl (some (iv (gbF (aS A) set (vn (aV A)) m 99 : Nat)))) (mj J sw lg x) := by
  have v3 := bA'.1.2.2.1
  have bs := SOk.b bA'
  have hw0 : ∀ p, p < vn (aV A) → 0 ≤ aS A (30 + p) := fun p hp => (bs.2.2.2.1 p (by omega)).1
  refine EE.of mt_157 (b_157_0 ?_)
  have key : ∀ (b : Nat) (o4 o5 : Option Value), b ≤ 99 → gbF (aS A) set (vn (aV A)) m 99 = gbF (aS A) set (vn (aV A)) m b → VV X 0 157 (3, [some (.ref 0), some (iv (set : Int)), some (iv m), some (iv (b : Int)), o4, o5], [], mj J sw lg x) (fun o1 M1 => o1 = .inl (some (iv (gbF (aS A) set (vn (aV A)) m 99 : Nat))) ∧ M1 = mj J sw lg x) := by
    intro b
    induction b with
    | zero =>
      intro o4 o5 _ he
      exact b_157_3 ⟨by decide, fun _ => ⟨by rw [he]; rfl, rfl⟩, fun c => absurd c (by decide)⟩
    | succ b ih =>
      intro o4 o5 hb he
      refine b_157_3 ⟨by omega, fun c => by omega, fun _ => ?_⟩
      refine lp (P := fun k => VV X 0 157 (13, [some (.ref 0), some (iv (set : Int)), some (iv m), some (iv ((b + 1 : Nat) : Int)), some (iv (wsF (aS A) set ((b + 1 : Nat) : Int) k)), some (iv k)], [], mj J sw lg x) _) (vn (aV A)) ?_ ?_ 0 (Nat.zero_le _)
      · have wb := wsF_b (set := set) (b := ((b + 1 : Nat) : Int)) (by omega) hw0 (vn (aV A)) (Nat.le_refl _)
        refine b_157_13 ?_
        rw [hG.1.1.2.2.1]
        refine ⟨by omega, by omega, fun _ => ⟨by omega, by omega, fun c => ?_, fun c => ⟨?_, rfl⟩⟩, fun c => by omega⟩
        · have := ih (some (iv (wsF (aS A) set ((b + 1 : Nat) : Int) (vn (aV A))))) (some (iv (vn (aV A) : Int))) (by omega) (by rw [he, gbF, if_neg (by omega)])
          rw [show ((b + 1 : Nat) : Int) + -1 = (b : Int) by omega]
          exact this
        · rw [he, gbF, if_pos c]
      · intro k hk ih2
        have e : J 46 (k : Int).toNat = aS A (30 + k) := hG.2.2.2.1.2.2.2.2.1 k (by omega)
        have b3 := bs.2.2.2.1 k (by omega)
        refine b_157_13 ?_
        rw [hG.1.1.2.2.1, q_bit hs (by omega), e]
        refine ⟨by omega, by omega, fun c => by omega, fun _ => ⟨fun c => ?_, fun c => ⟨by omega, by omega, by omega, ?_⟩⟩⟩
        · rw [tb_ite] at c
          rw [wsF, c, if_neg (by decide)] at ih2; exact ih2
        · rw [tb_ite, Bool.not_eq_false] at c
          rw [wsF, c, if_pos rfl] at ih2; exact ih2
  exact key 99 _ _ (by decide) rfl
theorem kq_wool (hG : GK J sw A) (bA' : ABd A) (hu : InR u) (hw : InR w) (ht : InR t) : AK X 2 136 [iv u, iv w, iv t] J sw lg x A (woolQ A u w t) := by
  have v3 := bA'.1.2.2.1
  have bs := SOk.b bA'
  have hp := Nat.two_pow_pos (vn (aV A))
  have hp9 : 2 ^ vn (aV A) ≤ 512 := show _ ≤ 2 ^ 9 from Nat.pow_le_pow_right (by decide) v3
  refine AK.of mt_136 (b_136_0 (by omega) ?_)
  rw [hG.1.1.2.2.1, bits_n v3]
  have r2 : ¬ (u < 0 ∨ (vn (aV A) : Int) ≤ u) → (w < 0 ∨ ((2 ^ vn (aV A) : Nat) : Int) ≤ w) ∨ t < 0 ∨ 999 < t → QK J sw lg x A (woolQ A u w t) (.inr 2) (mj (m_up J 0 18 (J 0 18 + 1)) sw lg (x + 1)) := fun a b => QK.r2 hG bA' (by unfold woolQ; rw [if_neg a, if_pos b])
  refine ⟨hu, fun c => QK.r1 hG bA' (if_pos (by omega)), fun c1 => ⟨by omega, fun c2 => ⟨hw, fun c => r2 (by omega) (by omega), fun c3 => ⟨by omega, fun c4 => ⟨ht, fun c => r2 (by omega) (by omega), fun c5 => ⟨fun c6 => ?_, fun c => r2 (by omega) (by omega)⟩⟩, fun c => r2 (by omega) (by omega)⟩⟩, fun c => QK.r1 hG bA' (if_pos (by omega))⟩⟩
  obtain ⟨p, rfl⟩ : ∃ e : Nat, u = (e : Int) := ⟨u.toNat, by omega⟩
  obtain ⟨set, rfl⟩ : ∃ e : Nat, w = (e : Int) := ⟨w.toNat, by omega⟩
  have hy : woolQ A (p : Int) (set : Int) t = (0, if set.testBit p then min (aS A (30 + p)) (gbF (aS A) set (vn (aV A)) t 99 : Nat) else 0) := by unfold woolQ; rw [if_neg (by omega), if_neg (by omega)]; rfl
  have f0 : J 46 (p : Int).toNat = aS A (30 + p) := hG.2.2.2.1.2.2.2.2.1 p (by omega)
  have b3 := bs.2.2.2.1 p (by omega)
  have gl := gbF_le (aS A) set (vn (aV A)) t 99
  rw [q_bit (by omega) (by omega), f0]
  refine ⟨fun c => ⟨by omega, _, J, e_157 hG bA' (by omega) ⟨c5, c6⟩, by omega, by omega, ?_⟩, fun c => ?_⟩
  · rw [tb_ite, Bool.not_eq_false] at c
    exact QK.ok hG bA' FC.rf (by rw [hy, c]; rfl)
  · rw [tb_ite] at c
    exact QK.ok hG bA' FC.rf (by rw [hy, c]; rfl)
theorem e_260 {set : Nat} {b : Int} (hV : VM J (aV A)) (hS : MV J 561 (aS A)) (bA' : ABd A) (hs : set < 2147483648) (hb : 0 ≤ b ∧ b ≤ 99) : EE X 0 260 [.ref 542, iv (set : Int), iv b] (mj J sw lg x) (.inl (some (iv (wsF (aS A) set b (vn (aV A)))))) (mj J sw lg x) := by
  have v3 := bA'.1.2.2.1
  have bs := SOk.b bA'
  refine EE.of mt_260 (b_260_0 ?_)
  refine lp (P := fun k => VV X 0 260 (5, [some (.ref 542), some (iv (set : Int)), some (iv b), some (iv (wsF (aS A) set b k)), some (iv k)], [], mj J sw lg x) _) (vn (aV A)) ?_ ?_ 0 (Nat.zero_le _)
  · refine b_260_5 ?_
    rw [hV.2.2.1]
    exact ⟨by omega, by omega, fun _ => ⟨rfl, rfl⟩, fun c => by omega⟩
  · intro k hk ih
    have e : J 561 (30 + (k : Int)).toNat = aS A (30 + k) := hS (30 + k) (by omega)
    have b3 := bs.2.2.2.1 k (by omega)
    refine b_260_5 ?_
    rw [hV.2.2.1, q_bit hs (by omega), e]
    refine ⟨by omega, by omega, fun c => by omega, fun _ => ⟨by omega, by omega, by omega, fun c => ?_, fun c => ?_⟩⟩
    · cases z : set.testBit k
      · rw [wsF, z, if_neg (by decide)] at ih
        rw [if_neg (by decide), Int.zero_mul, Int.add_zero]; exact ih
      · rw [wsF, z, if_pos rfl, show min (aS A (30 + k)) b = b by omega] at ih
        rw [if_pos rfl, Int.one_mul]; exact ih
    · cases z : set.testBit k
      · rw [wsF, z, if_neg (by decide)] at ih
        rw [if_neg (by decide), Int.zero_mul, Int.add_zero]; exact ih
      · rw [wsF, z, if_pos rfl, show min (aS A (30 + k)) b = aS A (30 + k) by omega] at ih
        rw [if_pos rfl, Int.one_mul]; exact ih
theorem rq_wool (hG : GM J A) (bA' : ABd A) (hu : InR u) (hw : InR w) (ht : InR t) : AM X 2 261 [iv u, iv w, iv t] J sw lg x A (woolQ A u w t) cdB := by
  have v3 := bA'.1.2.2.1
  have bs := SOk.b bA'
  have hp := Nat.two_pow_pos (vn (aV A))
  have hp9 : 2 ^ vn (aV A) ≤ 512 := show _ ≤ 2 ^ 9 from Nat.pow_le_pow_right (by decide) v3
  have hw0 : ∀ p, p < vn (aV A) → 0 ≤ aS A (30 + p) := fun p hp => (bs.2.2.2.1 p (by omega)).1
  refine AM.of mt_261 (b_261_0 (by omega) ?_)
  rw [hG.1.1.2.2.1, q_shl (vn (aV A)) (by omega)]
  have r2 : ¬ (u < 0 ∨ (vn (aV A) : Int) ≤ u) → (w < 0 ∨ ((2 ^ vn (aV A) : Nat) : Int) ≤ w) ∨ t < 0 ∨ 999 < t → QM J sw lg x A (woolQ A u w t) cdB (.inl (some (iv 0))) (mj (m_up (m_up (m_up J 542 0 0) 542 0 2) 543 1 (J 543 1 + 1)) sw lg x) := fun a b => QM.r2 hG (by unfold woolQ; rw [if_neg a, if_pos b]) rfl
  refine ⟨hu, fun c => QM.r1 hG (if_pos (by omega)) rfl, fun c1 => ⟨by omega, fun c => QM.r1 hG (if_pos (by omega)) rfl, fun c2 => ⟨hw, fun c => r2 (by omega) (by omega), fun c3 => ⟨fun c => r2 (by omega) (by omega), fun c4 => ⟨ht, fun c => r2 (by omega) (by omega), fun c5 => ⟨fun c => r2 (by omega) (by omega), fun c6 => ?_⟩⟩⟩⟩⟩⟩
  obtain ⟨p, rfl⟩ : ∃ e : Nat, u = (e : Int) := ⟨u.toNat, by omega⟩
  obtain ⟨set, rfl⟩ : ∃ e : Nat, w = (e : Int) := ⟨w.toNat, by omega⟩
  have hy : woolQ A (p : Int) (set : Int) t = (0, if set.testBit p then min (aS A (30 + p)) (gbF (aS A) set (vn (aV A)) t 99 : Nat) else 0) := by unfold woolQ; rw [if_neg (by omega), if_neg (by omega)]; rfl
  have h0 : m_up J 542 0 0 542 0 = 0 := up_eq _ _ _ _
  have hG1 := hG.fq (FQ.up0 (w := 0))
  have f0 : m_up J 542 0 0 561 (30 + (p : Int)).toNat = aS A (30 + p) := hG1.2.2.2.1 (30 + p) (by omega)
  have b3 := bs.2.2.2.1 p (by omega)
  have key : ∀ b : Nat, b ≤ 99 → gbF (aS A) set (vn (aV A)) t 99 = gbF (aS A) set (vn (aV A)) t b → VV X 2 261 (59, [some (.ref 542), some (iv (p : Int)), some (iv (set : Int)), some (iv t), some (iv (b : Int))], [], mj (m_up J 542 0 0) sw lg x) (fun o M => QM J sw lg x A (woolQ A (p : Int) (set : Int) t) cdB o M) := by
    intro b hb he
    induction b with
    | zero =>
      refine b_261_59 (by omega) ⟨_, _, e_260 hG1.1.1 hG1.2.2.2.1 bA' (by omega) (by decide), ?_⟩
      rw [show ((0 : Nat) : Int) = 0 from rfl, wsF_0 hw0 (vn (aV A)) (Nat.le_refl _), q_bit (by omega) (by omega), f0]
      have g0 : gbF (aS A) set (vn (aV A)) t 99 = 0 := he
      refine ⟨by decide, by omega, fun _ => ⟨fun c => ⟨by omega, by omega, by decide, fun c' => ?_, fun c' => by omega⟩, fun c => ?_⟩, fun c => by omega⟩
      · rw [tb_ite, Bool.not_eq_false] at c
        exact QM.ok' (cd := cdB) hG FQ.up0 h0 rfl hy (by rw [c, if_pos rfl, g0]; omega)
      · rw [tb_ite] at c
        exact QM.ok' (cd := cdB) hG FQ.up0 h0 rfl hy (by rw [c, if_neg (by decide)])
    | succ b ih =>
      have wb := wsF_b (set := set) (b := ((b + 1 : Nat) : Int)) (by omega) hw0 (vn (aV A)) (Nat.le_refl _)
      refine b_261_59 (by omega) ⟨_, _, e_260 hG1.1.1 hG1.2.2.2.1 bA' (by omega) (by omega), ?_⟩
      rw [q_bit (by omega) (by omega), f0]
      refine ⟨by omega, by omega, fun c0 => ⟨fun c => ⟨by omega, by omega, by omega, fun c' => ?_, fun c' => ?_⟩, fun c => ?_⟩, fun c => ?_⟩
      · rw [tb_ite, Bool.not_eq_false] at c
        exact QM.ok' (cd := cdB) hG FQ.up0 h0 rfl hy (by rw [c, if_pos rfl, he, gbF, if_pos c0]; omega)
      · rw [tb_ite, Bool.not_eq_false] at c
        exact QM.ok' (cd := cdB) hG FQ.up0 h0 rfl hy (by rw [c, if_pos rfl, he, gbF, if_pos c0]; omega)
      · rw [tb_ite] at c
        exact QM.ok' (cd := cdB) hG FQ.up0 h0 rfl hy (by rw [c, if_neg (by decide)])
      · rw [show ((b + 1 : Nat) : Int) + -1 = (b : Int) by omega]
        exact ih (by omega) (by rw [he, gbF, if_neg (by omega)])
  exact key 99 (by decide) rfl
/-- what is drawn -/
def nxS (s : Int) : Int := s * 1103515245 + 12345
def drV (s : Int) (n : Nat) : Nat := (bAnd (bShr (nxS s) 16) 32767 % n).toNat
theorem and_15 (z : Int) : 0 ≤ bAnd z 32767 ∧ bAnd z 32767 ≤ 32767 := by
  unfold bAnd
  have h : (Int32.ofInt z &&& Int32.ofInt 32767) = nI ((Int32.ofInt z).toBitVec.toNat &&& 32767) := by
    apply bt_ext
    intro i hi
    unfold bt
    rw [Int32.toBitVec_and, BitVec.getLsbD_and]
    show ((Int32.ofInt z).toBitVec.getLsbD i && bt (nI 32767) i) = bt (nI _) i
    rw [bt_nI, bt_nI, Nat.testBit_and]
    simp only [hi, decide_true, Bool.true_and]
    rw [BitVec.testBit_toNat]
  have h2 : (Int32.ofInt z).toBitVec.toNat &&& 32767 ≤ 32767 := Nat.and_le_right
  rw [h, nI_toI (by omega)]
  omega
theorem drV_lt {s : Int} {n : Nat} (h : 0 < n) : drV s n < n := by
  unfold drV
  have := Int.emod_lt_of_pos (bAnd (bShr (nxS s) 16) 32767) (show (0 : Int) < n by omega)
  have := Int.emod_nonneg (bAnd (bShr (nxS s) 16) 32767) (show (n : Int) ≠ 0 by omega)
  omega
theorem drV_e {s : Int} {n : Nat} (h : 0 < n) (hn : n < 1000) : bRem (bAnd (bShr (nxS s) 16) 32767) (n : Int) = (drV s n : Nat) := by
  have h1 := and_15 (bShr (nxS s) 16)
  rw [q_remI h1.1 (by omega) (by omega) (by omega)]
  unfold drV
  have := Int.emod_nonneg (bAnd (bShr (nxS s) 16) 32767) (show (n : Int) ≠ 0 by omega)
  omega
theorem e_41 {s : Int} {n : Nat} (hs : J 55 0 = s) (h : 0 < n) (hn : n < 1000) : EE X 0 41 [.ref 55, iv (n : Int)] (mj J sw lg x) (.inl (some (iv (drV s n : Nat)))) (mj (m_up J 55 0 (nxS s)) sw lg x) := by
  refine EE.of mt_41 (b_41_0 ⟨by omega, fun c => by omega, fun _ => ⟨by omega, ?_⟩⟩)
  rw [hs]
  exact ⟨by rw [← drV_e h hn]; rfl, rfl⟩
theorem e_265 {s : Int} {n : Nat} (hs : J 542 57 = s) (h : 0 < n) (hn : n < 1000) : EE X 0 265 [.ref 542, iv (n : Int)] (mj J sw lg x) (.inl (some (iv (drV s n : Nat)))) (mj (m_up J 542 57 (nxS s)) sw lg x) := by
  refine EE.of mt_265 (b_265_0 ⟨by omega, by omega, ?_⟩)
  rw [hs]
  exact ⟨by rw [← drV_e h hn]; rfl, rfl⟩
/-- one day of a generation -/
def gdA (V : VT) (T : LT) (q : Int) (z : Int × (Nat → Int)) : Int × (Nat → Int) :=
  let h := drV z.1 (vh V)
  let e := drV (nxS z.1) (ve V)
  let p := drV (nxS (nxS z.1)) (vn V)
  let s1 := (darnA V T z.2 h e p).2
  (nxS (nxS (nxS (nxS z.1))), if (drV (nxS (nxS (nxS z.1))) 16 : Int) < q then (letA V s1 e p).2 else s1)
def gnA (V : VT) (T : LT) (q sd : Int) (s : Nat → Int) : Nat → Int × (Nat → Int)
  | 0 => (sd, s)
  | k + 1 => if 0 < vh V ∧ 0 < ve V ∧ 0 < vn V then ((gdA V T q (gnA V T q sd s k)).1, passA V (gdA V T q (gnA V T q sd s k)).2) else ((gnA V T q sd s k).1, passA V (gnA V T q sd s k).2)
theorem letA_b {V : VT} {s : Nat → Int} {e p : Nat} (bV : VBd V) (bs : SBd (vn V) s) (he : e < ve V) (hp : p < vn V) : SBd (vn V) (letA V s e p).2 ∧ (letA V s e p).2 49 = s 49 := by
  have v1 := bV.1
  unfold letA
  split
  · exact ⟨bs, rfl⟩
  · exact ⟨SBd_at bs (by omega) (by omega), up1_ne (by omega)⟩
theorem darnA_b {V : VT} {T : LT} {s : Nat → Int} {h e p : Nat} (bV : VBd V) (bs : SBd (vn V) s) (hh : h < vh V) (he : e < ve V) (hp : p < vn V) : SBd (vn V) (darnA V T s h e p).2 ∧ (darnA V T s h e p).2 49 = s 49 := by
  have v1 := bV.1
  have v2 := bV.2.1
  have v3 := bV.2.2.1
  rcases canA_dec V s h e p with hc | hc
  · rw [darnA_y hc]
    exact ⟨SBd_darn bV bs hh he hp hc, darn_day (by omega) (by omega) (by omega)⟩
  · rw [darnA_n hc]; exact ⟨bs, rfl⟩
theorem gdA_b {V : VT} {T : LT} {q : Int} {z : Int × (Nat → Int)} (bV : VBd V) (bs : SBd (vn V) z.2) (h : 0 < vh V ∧ 0 < ve V ∧ 0 < vn V) : SBd (vn V) (gdA V T q z).2 ∧ (gdA V T q z).2 49 = z.2 49 := by
  have d1 := darnA_b (T := T) bV bs (drV_lt (s := z.1) h.1) (drV_lt (s := nxS z.1) h.2.1) (drV_lt (s := nxS (nxS z.1)) h.2.2)
  unfold gdA
  dsimp only
  split
  · have l1 := letA_b bV d1.1 (drV_lt (s := nxS z.1) h.2.1) (drV_lt (s := nxS (nxS z.1)) h.2.2)
    exact ⟨l1.1, l1.2.trans d1.2⟩
  · exact d1
theorem gnA_b {V : VT} {T : LT} {q sd : Int} {s : Nat → Int} (bV : VBd V) (bs : SBd (vn V) s) : ∀ k, SBd (vn V) (gnA V T q sd s k).2 ∧ (gnA V T q sd s k).2 49 = s 49 + k
  | 0 => ⟨bs, by show s 49 = s 49 + (0 : Nat); omega⟩
  | k + 1 => by
    have ih := gnA_b (T := T) (q := q) (sd := sd) bV bs k
    unfold gnA
    split
    · rename_i h
      have g := gdA_b (T := T) (q := q) bV ih.1 h
      have p := SBd_pass g.1 bV
      refine ⟨p.1, ?_⟩
      show passA V _ 49 = _
      rw [p.2, g.2, ih.2]; omega
    · have p := SBd_pass ih.1 bV
      refine ⟨p.1, ?_⟩
      show passA V _ 49 = _
      rw [p.2, ih.2]; omega
end Q6
