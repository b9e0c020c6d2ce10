/-! numbers and bits; loops; sums, sets as bits -/
theorem iI (n : Nat) : Int32.ofInt (n : Int) = nI n := Int32.ofInt_eq_ofNat
theorem nI_toI {n : Nat} (h : n < 2147483648) : (nI n).toInt = (n : Int) := by rw [← iI]; exact toI_ofI ⟨by omega, by omega⟩
def bt (x : Int32) (i : Nat) : Bool := x.toBitVec.getLsbD i
theorem bt_ext {x y : Int32} (h : ∀ i, i < 32 → bt x i = bt y i) : x = y := Int32.toBitVec_inj.mp (BitVec.eq_of_getLsbD_eq (fun i hi => h i hi))
theorem bt_nI (n i : Nat) : bt (nI n) i = (decide (i < 32) && n.testBit i) := by
  show (BitVec.ofNat 32 n).getLsbD i = _
  rw [BitVec.getLsbD_ofNat]
theorem bt_sl : ∀ n, n < 32 → ((nI n &&& 31).toBitVec.smod 32).toNat = n := by decide +kernel
theorem bt_sshr (n : Nat) (hn : n < 32) (x : Int32) {i : Nat} (hi : i < 32) : bt (x >>> (nI n &&& 31)) i = if n + i < 32 then bt x (n + i) else bt x 31 := by
  unfold bt
  rw [Int32.toBitVec_shiftRight]
  show (x.toBitVec.sshiftRight ((nI n &&& 31).toBitVec.smod 32).toNat).getLsbD i = _
  rw [bt_sl n hn, BitVec.getLsbD_sshiftRight, BitVec.msb_eq_getLsbD_last]
  simp [hi]
theorem bt_m1 : ∀ i, i < 32 → bt (-1) i = true := by decide +kernel
theorem tb_big {b i : Nat} (h : b < 2147483648) (hi : 31 ≤ i) : b.testBit i = false := by
  apply Nat.testBit_lt_two_pow
  exact Nat.lt_of_lt_of_le (show b < 2 ^ 31 from h) (Nat.pow_le_pow_right (by decide) hi)
theorem q_and {a b : Nat} (ha : a < 2147483648) : bAnd (a : Int) (b : Int) = ((a &&& b : Nat) : Int) := by
  have h : nI a &&& nI b = nI (a &&& b) := by
    apply bt_ext
    intro i hi
    unfold bt
    rw [Int32.toBitVec_and, BitVec.getLsbD_and]
    show (bt (nI a) i && bt (nI b) i) = bt (nI (a &&& b)) i
    rw [bt_nI, bt_nI, bt_nI, Nat.testBit_and]
    simp [hi]
  unfold bAnd
  rw [iI, iI, h, nI_toI (Nat.lt_of_le_of_lt Nat.and_le_left ha)]
theorem or_lt {a b n : Nat} (ha : a < 2 ^ n) (hb : b < 2 ^ n) : a ||| b < 2 ^ n := Nat.or_lt_two_pow ha hb
theorem q_or {a b : Nat} (ha : a < 2147483648) (hb : b < 2147483648) : bOr (a : Int) (b : Int) = ((a ||| b : Nat) : Int) := by
  have h : nI a ||| nI b = nI (a ||| b) := by
    apply bt_ext
    intro i hi
    unfold bt
    rw [Int32.toBitVec_or, BitVec.getLsbD_or]
    show (bt (nI a) i || bt (nI b) i) = bt (nI (a ||| b)) i
    rw [bt_nI, bt_nI, bt_nI, Nat.testBit_or]
    simp [hi]
  unfold bOr
  rw [iI, iI, h, nI_toI (show a ||| b < 2 ^ 31 from or_lt ha hb)]
theorem q_or0 {a : Nat} (ha : a < 2147483648) : bOr (a : Int) 0 = (a : Int) := by
  have := q_or (b := 0) ha (by decide)
  rw [Nat.or_zero] at this
  exact this
theorem q_shl : ∀ p : Nat, p < 31 → bShl 1 (p : Int) = ((2 ^ p : Nat) : Int) := by decide +kernel
theorem q_shr {b p : Nat} (hb : b < 2147483648) (hp : p < 32) : bShr (b : Int) (p : Int) = ((b >>> p : Nat) : Int) := by
  have h : nI b >>> (nI p &&& 31) = nI (b >>> p) := by
    apply bt_ext
    intro i hi
    rw [bt_sshr p hp _ hi, bt_nI, bt_nI, bt_nI, Nat.testBit_shiftRight, tb_big hb (i := 31) (by omega)]
    split
    · simp [hi]
      omega
    · rw [tb_big hb (by omega)]
      simp
  unfold bShr
  rw [iI, iI, h, nI_toI]
  rw [Nat.shiftRight_eq_div_pow]
  exact Nat.lt_of_le_of_lt (Nat.div_le_self _ _) hb
theorem q_bit {b p : Nat} (hb : b < 2147483648) (hp : p < 32) : bAnd (bShr (b : Int) (p : Int)) 1 = if b.testBit p then 1 else 0 := by
  have hs : b >>> p < 2147483648 := by
    rw [Nat.shiftRight_eq_div_pow]
    exact Nat.lt_of_le_of_lt (Nat.div_le_self _ _) hb
  rw [q_shr hb hp]
  have := q_and (b := 1) hs
  rw [show ((1 : Nat) : Int) = 1 from rfl] at this
  rw [this, Nat.and_one_is_mod, Nat.testBit_eq_decide_div_mod_eq, Nat.shiftRight_eq_div_pow]
  generalize b / 2 ^ p = z
  rcases Nat.mod_two_eq_zero_or_one z with q | q <;> simp [q]
theorem q_andn {a g : Nat} (ha : a < 2147483648) : bAnd (a : Int) (bXor (g : Int) (-1)) = ((a ^^^ (a &&& g) : Nat) : Int) := by
  have h : nI a &&& (nI g ^^^ (-1)) = nI (a ^^^ (a &&& g)) := by
    apply bt_ext
    intro i hi
    unfold bt
    rw [Int32.toBitVec_and, BitVec.getLsbD_and, Int32.toBitVec_xor, BitVec.getLsbD_xor]
    show (bt (nI a) i && (bt (nI g) i ^^ bt (-1) i)) = bt (nI (a ^^^ (a &&& g))) i
    rw [bt_nI, bt_nI, bt_nI, bt_m1 i hi, Nat.testBit_xor, Nat.testBit_and]
    simp only [hi, decide_true, Bool.true_and]
    cases a.testBit i <;> cases g.testBit i <;> rfl
  unfold bAnd bXor
  rw [Int32.ofInt_toInt, iI, iI, show Int32.ofInt (-1) = -1 from rfl, h, nI_toI]
  have h2 : a ^^^ (a &&& g) < 2 ^ 31 := Nat.xor_lt_two_pow ha (Nat.lt_of_le_of_lt Nat.and_le_left ha)
  exact h2
theorem q_sub0 {a g : Nat} (ha : a < 2147483648) : bAnd (a : Int) (bXor (g : Int) (-1)) = 0 ↔ ∀ i, a.testBit i = true → g.testBit i = true := by
  rw [q_andn ha]
  constructor
  · intro h i hi
    have h1 : (a ^^^ (a &&& g)).testBit i = false := by rw [show a ^^^ (a &&& g) = 0 by omega]; simp
    rw [Nat.testBit_xor, Nat.testBit_and, hi] at h1
    cases hg : g.testBit i
    · rw [hg] at h1; simp at h1
    · rfl
  · intro h
    have : a ^^^ (a &&& g) = 0 := by
      apply Nat.eq_of_testBit_eq
      intro i
      rw [Nat.testBit_xor, Nat.testBit_and, Nat.zero_testBit]
      cases q : a.testBit i
      · rfl
      · rw [h i q]; rfl
    rw [this]; rfl
theorem q_divI {a c : Int} (ha : 0 ≤ a) (ha2 : a < 2147483648) (hc : 0 < c) (hc2 : c < 2147483648) : bDiv a c = a / c := by
  obtain ⟨n, rfl⟩ := Int.eq_ofNat_of_zero_le ha
  obtain ⟨m, rfl⟩ := Int.eq_ofNat_of_zero_le (Int.le_of_lt hc)
  unfold bDiv
  rw [iI, iI, pk_div (by omega) (by omega) (by omega), nI_toI]
  · rfl
  · exact Nat.lt_of_le_of_lt (Nat.div_le_self _ _) (by omega)
theorem q_remI {a c : Int} (ha : 0 ≤ a) (ha2 : a < 2147483648) (hc : 0 < c) (hc2 : c < 2147483648) : bRem a c = a % c := by
  obtain ⟨n, rfl⟩ := Int.eq_ofNat_of_zero_le ha
  obtain ⟨m, rfl⟩ := Int.eq_ofNat_of_zero_le (Int.le_of_lt hc)
  unfold bRem
  rw [iI, iI, pk_rem (by omega) (by omega) (by omega), nI_toI]
  · rfl
  · exact Nat.lt_of_lt_of_le (Nat.mod_lt _ (by omega)) (by omega)
/-- a loop, from its end back -/
theorem lp {P : Nat → Prop} (n : Nat) (h0 : P n) (h1 : ∀ k, k < n → P (k + 1) → P k) : ∀ k, k ≤ n → P k := by
  intro k hk
  obtain ⟨m, rfl⟩ : ∃ m, n = k + m := ⟨n - k, by omega⟩
  induction m generalizing k with
  | zero => exact h0
  | succ m ih => exact h1 k (by omega) (ih (k + 1) (by rw [show k + 1 + m = k + (m + 1) by omega]; exact h0) (by rw [show k + 1 + m = k + (m + 1) by omega]; exact h1) (by omega))
def up1 (f : Nat → Int) (k : Nat) (v : Int) : Nat → Int := fun i => if i = k then v else f i
theorem up1_eq (f : Nat → Int) (k : Nat) (v : Int) : up1 f k v k = v := if_pos rfl
theorem up1_ne {f : Nat → Int} {k i : Nat} {v : Int} (h : i ≠ k) : up1 f k v i = f i := if_neg h
def sumF (f : Nat → Int) : Nat → Int
  | 0 => 0
  | n + 1 => sumF f n + f n
def bitF (p : Nat → Bool) : Nat → Nat
  | 0 => 0
  | n + 1 => if p n then bitF p n ||| 2 ^ n else bitF p n
theorem bitF_lt (p : Nat → Bool) : ∀ n, bitF p n < 2 ^ n
  | 0 => Nat.one_pos
  | n + 1 => by
    have := bitF_lt p n
    unfold bitF
    have h2 : 2 ^ n < 2 ^ (n + 1) := Nat.pow_lt_pow_right (by decide) (by omega)
    split
    · exact or_lt (by omega) h2
    · omega
theorem bitF_31 (p : Nat → Bool) {n : Nat} (h : n ≤ 31) : bitF p n < 2147483648 := Nat.lt_of_lt_of_le (bitF_lt p n) (show 2 ^ n ≤ 2 ^ 31 from Nat.pow_le_pow_right (by decide) h)
theorem bitF_tb (p : Nat → Bool) (i : Nat) : ∀ n, (bitF p n).testBit i = (decide (i < n) && p i)
  | 0 => by simp [bitF]
  | n + 1 => by
    have ih := bitF_tb p i n
    unfold bitF
    split
    · rename_i h
      rw [Nat.testBit_or, ih, Nat.testBit_two_pow]
      by_cases q : i = n
      · subst q; simp [h]
      · by_cases q2 : i < n
        · simp [q2, Nat.lt_succ_of_lt q2, Ne.symm q]
        · simp [q2, Ne.symm q, show ¬ i < n + 1 by omega]
    · rename_i h
      rw [ih]
      by_cases q : i = n
      · subst q; simp [h]
      · by_cases q2 : i < n
        · simp [q2, Nat.lt_succ_of_lt q2]
        · simp [q2, show ¬ i < n + 1 by omega]
theorem bitF_y {p : Nat → Bool} {k : Nat} (hk : k < 31) (h : p k = true) : bOr (bitF p k : Int) (bShl 1 (k : Int)) = (bitF p (k + 1) : Int) := by
  rw [q_shl k hk, q_or (bitF_31 p (by omega)) (show 2 ^ k < 2 ^ 31 from Nat.pow_lt_pow_right (by decide) hk)]
  rw [show bitF p (k + 1) = bitF p k ||| 2 ^ k by rw [bitF, if_pos h]]
theorem bitF_n {p : Nat → Bool} {k : Nat} (h : ¬ p k = true) : bitF p (k + 1) = bitF p k := by
  rw [bitF, if_neg h]
theorem bitF_z {p : Nat → Bool} {k : Nat} (hk : k < 31) (h : ¬ p k = true) : bOr (bitF p k : Int) 0 = (bitF p (k + 1) : Int) := by
  rw [bitF_n h, q_or0 (bitF_31 p (by omega))]
theorem bitF_congr {p q : Nat → Bool} : ∀ {n : Nat}, (∀ k, k < n → p k = q k) → bitF p n = bitF q n
  | 0, _ => rfl
  | n + 1, h => by unfold bitF; rw [h n (by omega), bitF_congr (fun k hk => h k (by omega))]
theorem sumF_congr {p q : Nat → Int} : ∀ {n : Nat}, (∀ k, k < n → p k = q k) → sumF p n = sumF q n
  | 0, _ => rfl
  | n + 1, h => by unfold sumF; rw [h n (by omega), sumF_congr (fun k hk => h k (by omega))]
/-- the greatest of those named, the first of equals; NONE where none is above 0 -/
def mostF (p : Nat → Bool) (f : Nat → Int) : Nat → Int × Int
  | 0 => (-1, 0)
  | n + 1 => if p n = true ∧ (mostF p f n).2 < f n then ((n : Int), f n) else mostF p f n
/-- a call of an object's method, the memory in our form -/
theorem m_callj {st : List Value} {J : Nat → Nat → Int} {sw : Bool × Bool × Bool} {lg : Nat → Nat → Int64} {x : Nat} {i a b lw kd : Nat} {m1 : mMeth} {As rest : List Value} {N : Nat} (hst : st = As.reverse ++ .ref a :: rest) (hb : As.length + 1 = b) (hC : SH[a]? = some (kd, N)) (hk : kd = m1.2.2.2.2.1 + 5) (hr : rest.length ≤ 4) (hs : (m_slots (.ref a :: As)).length ≤ m1.2.2.1) {z : Nat} : m_call (.invokevirtual i, lw, z, b) m1 st (mj J sw lg x) = true := by
  subst hk
  exact m_callv hst hb hC hr hs
theorem sw_0_1 {z : Int} (c0 : ¬ z = 0) (c1 : ¬ z = 1) : z < 0 ∨ 1 < z := by omega
theorem sw_0_2 {z : Int} (c0 : ¬ z = 0) (c1 : ¬ z = 1) (c2 : ¬ z = 2) : z < 0 ∨ 2 < z := by omega
theorem sw_0_3 {z : Int} (c0 : ¬ z = 0) (c1 : ¬ z = 1) (c2 : ¬ z = 2) (c3 : ¬ z = 3) : z < 0 ∨ 3 < z := by omega
theorem sw_0_4 {z : Int} (c0 : ¬ z = 0) (c1 : ¬ z = 1) (c2 : ¬ z = 2) (c3 : ¬ z = 3) (c4 : ¬ z = 4) : z < 0 ∨ 4 < z := by omega
theorem sw_0_5 {z : Int} (c0 : ¬ z = 0) (c1 : ¬ z = 1) (c2 : ¬ z = 2) (c3 : ¬ z = 3) (c4 : ¬ z = 4) (c5 : ¬ z = 5) : z < 0 ∨ 5 < z := by omega
theorem sw_0_6 {z : Int} (c0 : ¬ z = 0) (c1 : ¬ z = 1) (c2 : ¬ z = 2) (c3 : ¬ z = 3) (c4 : ¬ z = 4) (c5 : ¬ z = 5) (c6 : ¬ z = 6) : z < 0 ∨ 6 < z := by omega
theorem sw_0_7 {z : Int} (c0 : ¬ z = 0) (c1 : ¬ z = 1) (c2 : ¬ z = 2) (c3 : ¬ z = 3) (c4 : ¬ z = 4) (c5 : ¬ z = 5) (c6 : ¬ z = 6) (c7 : ¬ z = 7) : z < 0 ∨ 7 < z := by omega
theorem sw_0_8 {z : Int} (c0 : ¬ z = 0) (c1 : ¬ z = 1) (c2 : ¬ z = 2) (c3 : ¬ z = 3) (c4 : ¬ z = 4) (c5 : ¬ z = 5) (c6 : ¬ z = 6) (c7 : ¬ z = 7) (c8 : ¬ z = 8) : z < 0 ∨ 8 < z := by omega
theorem sw_0_9 {z : Int} (c0 : ¬ z = 0) (c1 : ¬ z = 1) (c2 : ¬ z = 2) (c3 : ¬ z = 3) (c4 : ¬ z = 4) (c5 : ¬ z = 5) (c6 : ¬ z = 6) (c7 : ¬ z = 7) (c8 : ¬ z = 8) (c9 : ¬ z = 9) : z < 0 ∨ 9 < z := by omega
theorem sw_0_10 {z : Int} (c0 : ¬ z = 0) (c1 : ¬ z = 1) (c2 : ¬ z = 2) (c3 : ¬ z = 3) (c4 : ¬ z = 4) (c5 : ¬ z = 5) (c6 : ¬ z = 6) (c7 : ¬ z = 7) (c8 : ¬ z = 8) (c9 : ¬ z = 9) (c10 : ¬ z = 10) : z < 0 ∨ 10 < z := by omega
theorem sw_0_11 {z : Int} (c0 : ¬ z = 0) (c1 : ¬ z = 1) (c2 : ¬ z = 2) (c3 : ¬ z = 3) (c4 : ¬ z = 4) (c5 : ¬ z = 5) (c6 : ¬ z = 6) (c7 : ¬ z = 7) (c8 : ¬ z = 8) (c9 : ¬ z = 9) (c10 : ¬ z = 10) (c11 : ¬ z = 11) : z < 0 ∨ 11 < z := by omega
theorem sw_0_12 {z : Int} (c0 : ¬ z = 0) (c1 : ¬ z = 1) (c2 : ¬ z = 2) (c3 : ¬ z = 3) (c4 : ¬ z = 4) (c5 : ¬ z = 5) (c6 : ¬ z = 6) (c7 : ¬ z = 7) (c8 : ¬ z = 8) (c9 : ¬ z = 9) (c10 : ¬ z = 10) (c11 : ¬ z = 11) (c12 : ¬ z = 12) : z < 0 ∨ 12 < z := by omega
theorem sw_0_36 {z : Int} (c0 : ¬ z = 0) (c1 : ¬ z = 1) (c2 : ¬ z = 2) (c3 : ¬ z = 3) (c4 : ¬ z = 4) (c5 : ¬ z = 5) (c6 : ¬ z = 6) (c7 : ¬ z = 7) (c8 : ¬ z = 8) (c9 : ¬ z = 9) (c10 : ¬ z = 10) (c11 : ¬ z = 11) (c12 : ¬ z = 12) (c13 : ¬ z = 13) (c14 : ¬ z = 14) (c15 : ¬ z = 15) (c16 : ¬ z = 16) (c17 : ¬ z = 17) (c18 : ¬ z = 18) (c19 : ¬ z = 19) (c20 : ¬ z = 20) (c21 : ¬ z = 21) (c22 : ¬ z = 22) (c23 : ¬ z = 23) (c24 : ¬ z = 24) (c25 : ¬ z = 25) (c26 : ¬ z = 26) (c27 : ¬ z = 27) (c28 : ¬ z = 28) (c29 : ¬ z = 29) (c30 : ¬ z = 30) (c31 : ¬ z = 31) (c32 : ¬ z = 32) (c33 : ¬ z = 33) (c34 : ¬ z = 34) (c35 : ¬ z = 35) (c36 : ¬ z = 36) : z < 0 ∨ 36 < z := by omega
