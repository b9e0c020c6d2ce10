/-! THE RULES OVER WHOLE NUMBERS: a cell of the memory holds Int32.ofInt of a number of ours -/
abbrev iv (e : Int) : Value := .int (Int32.ofInt e)
def JJ (J : Nat → Nat → Int) : Nat → Nat → Int32 := fun a k => Int32.ofInt (J a k)
abbrev mj (J : Nat → Nat → Int) (sw : Bool × Bool × Bool) (lg : Nat → Nat → Int64) (x : Nat) : mM := mk (JJ J) sw lg x
abbrev InR (e : Int) : Prop := -2147483648 ≤ e ∧ e < 2147483648
theorem toI_ofI {e : Int} (h : InR e) : (Int32.ofInt e).toInt = e := Int32.toInt_ofInt_of_le (by omega) (by omega)
theorem ltI {a b : Int} (ha : InR a) (hb : InR b) : Int32.ofInt a < Int32.ofInt b ↔ a < b := by rw [Int32.lt_iff_toInt_lt, toI_ofI ha, toI_ofI hb]
theorem leI {a b : Int} (ha : InR a) (hb : InR b) : Int32.ofInt a ≤ Int32.ofInt b ↔ a ≤ b := by rw [Int32.le_iff_toInt_le, toI_ofI ha, toI_ofI hb]
theorem eqI {a b : Int} (ha : InR a) (hb : InR b) : Int32.ofInt a = Int32.ofInt b ↔ a = b := by rw [← Int32.toInt_inj, toI_ofI ha, toI_ofI hb]
def jc (c : ClassFile.Cond) (a b : Int) : Prop := match c with
  | .eq => a = b
  | .ne => ¬ a = b
  | .lt => a < b
  | .ge => b ≤ a
  | .gt => b < a
  | .le => a ≤ b
theorem jc_iff (c : ClassFile.Cond) {a b : Int} (ha : InR a) (hb : InR b) : m_cc c (Int32.ofInt a) (Int32.ofInt b) = true ↔ jc c a b := by
  cases c
  · simp only [m_cc, jc, decide_eq_true_eq]; exact eqI ha hb
  · simp only [m_cc, jc, decide_eq_true_eq]; exact not_congr (eqI ha hb)
  · simp only [m_cc, jc, decide_eq_true_eq]; exact ltI ha hb
  · simp only [m_cc, jc, decide_eq_true_eq]; exact leI hb ha
  · simp only [m_cc, jc, decide_eq_true_eq]; exact ltI hb ha
  · simp only [m_cc, jc, decide_eq_true_eq]; exact leI ha hb
theorem inB {e : Int} {n : Nat} (h : 0 ≤ e ∧ e < n) (hn : n ≤ 2147483648) : InR e := by constructor <;> omega
theorem inC {e : Int} {n : Nat} (h : 0 ≤ e ∧ e < n) (hn : n ≤ 2147483648) : vp_in (Int32.ofInt e) n ∧ (Int32.ofInt e).toNatClampNeg = e.toNat := by
  have hr := inB h hn
  have h1 : (Int32.ofInt e).toNatClampNeg = e.toNat := Int32.toNatClampNeg_ofInt_of_le (by omega) (by omega)
  refine ⟨?_, h1⟩
  unfold vp_in
  rw [h1, show (0 : Int32) = Int32.ofInt 0 from rfl, ltI hr ⟨by decide, by decide⟩]
  omega
theorem JJ_up (J : Nat → Nat → Int) (a k : Nat) (e : Int) : JJ (m_up J a k e) = m_up (JJ J) a k (Int32.ofInt e) := by
  funext a' k'
  simp only [JJ, m_up]
  split <;> (try split) <;> rfl
theorem JJ_row (J : Nat → Nat → Int) (a : Nat) (g : Nat → Int) : JJ (m_row J a g) = m_row (JJ J) a (fun k => Int32.ofInt (g k)) := by
  funext a' k'
  simp only [JJ, m_row]
  split <;> rfl
theorem up_eq {α : Type} (f : Nat → Nat → α) (a k : Nat) (v : α) : m_up f a k v a k = v := by simp [m_up]
theorem up_na {α : Type} {f : Nat → Nat → α} {a k a' k' : Nat} {v : α} (h : a' ≠ a) : m_up f a k v a' k' = f a' k' := by simp [m_up, h]
theorem up_nk {α : Type} {f : Nat → Nat → α} {a k a' k' : Nat} {v : α} (h : k' ≠ k) : m_up f a k v a' k' = f a' k' := by
  simp only [m_up, if_neg h, ite_self]
theorem sh_ne {a b : Nat} {p q : Nat × Nat} (ha : SH[a]? = some p) (hb : SH[b]? = some q) (h : p ≠ q) : a ≠ b := by
  intro e
  subst e
  exact h (Option.some.inj (ha.symm.trans hb))
/-- exact bits, quotients, remainders -/
def bAnd (a b : Int) : Int := (Int32.ofInt a &&& Int32.ofInt b).toInt
def bOr (a b : Int) : Int := (Int32.ofInt a ||| Int32.ofInt b).toInt
def bXor (a b : Int) : Int := (Int32.ofInt a ^^^ Int32.ofInt b).toInt
def bShl (a b : Int) : Int := (Int32.ofInt a <<< (Int32.ofInt b &&& 31)).toInt
def bShr (a b : Int) : Int := (Int32.ofInt a >>> (Int32.ofInt b &&& 31)).toInt
def bUsh (a b : Int) : Int := ((Int32.ofInt a).toUInt32 >>> ((Int32.ofInt b).toUInt32 &&& Int32.toUInt32 31)).toInt32.toInt
def bDiv (a b : Int) : Int := (Int32.ofInt a / Int32.ofInt b).toInt
def bRem (a b : Int) : Int := (Int32.ofInt a - Int32.ofInt a / Int32.ofInt b * Int32.ofInt b).toInt
def bN (e : Int) : Int := (vp_nar .boolean (Int32.ofInt e)).toInt
def lcI (x y : Int64) : Int := (lg_cmp x y).toInt
theorem inT (z : Int32) : InR z.toInt := by
  have h1 := Int32.le_toInt z
  have h2 := Int32.toInt_lt z
  constructor <;> omega
theorem ivt (z : Int32) : iv z.toInt = .int z := by simp only [iv, Int32.ofInt_toInt]
section JR
variable {X : Nat × (Nat → Int32)} {d y pc : Nat} {L L' : mL} {st : List Value} {M : mM} {K : (Option Value ⊕ Nat) → mM → Prop} {mm : mMeth} {l a0 b0 : Nat} {u v e : Int}
theorem j_add (hm : mP[y]? = some mm) (ho : mm.2.2.2.2.2.2.lookup pc = some (.iadd, l, a0, b0)) (he : u + v = e) (h : VV X d y (pc + 1, L, iv e :: st, M) K) : VV X d y (pc, L, iv v :: iv u :: st, M) K := by
  subst he; exact v_s hm ho rfl (by simp only [iv, m_step, m_i2, Int32.ofInt_add]) h
theorem j_sub (hm : mP[y]? = some mm) (ho : mm.2.2.2.2.2.2.lookup pc = some (.isub, l, a0, b0)) (he : u - v = e) (h : VV X d y (pc + 1, L, iv e :: st, M) K) : VV X d y (pc, L, iv v :: iv u :: st, M) K := by
  subst he; exact v_s hm ho rfl (by simp only [iv, m_step, m_i2, Int32.ofInt_sub]) h
theorem j_mul (hm : mP[y]? = some mm) (ho : mm.2.2.2.2.2.2.lookup pc = some (.imul, l, a0, b0)) (he : u * v = e) (h : VV X d y (pc + 1, L, iv e :: st, M) K) : VV X d y (pc, L, iv v :: iv u :: st, M) K := by
  subst he; exact v_s hm ho rfl (by simp only [iv, m_step, m_i2, Int32.ofInt_mul]) h
theorem j_neg (hm : mP[y]? = some mm) (ho : mm.2.2.2.2.2.2.lookup pc = some (.ineg, l, a0, b0)) (he : -u = e) (h : VV X d y (pc + 1, L, iv e :: st, M) K) : VV X d y (pc, L, iv u :: st, M) K := by
  subst he; exact v_s hm ho rfl (by simp only [iv, m_step, m_i1, Int32.ofInt_neg]) h
theorem j_and (hm : mP[y]? = some mm) (ho : mm.2.2.2.2.2.2.lookup pc = some (.iand, l, a0, b0)) (he : bAnd u v = e) (h : VV X d y (pc + 1, L, iv e :: st, M) K) : VV X d y (pc, L, iv v :: iv u :: st, M) K := by
  subst he; exact v_s hm ho rfl (by simp only [iv, m_step, m_i2, bAnd, Int32.ofInt_toInt]) h
theorem j_or (hm : mP[y]? = some mm) (ho : mm.2.2.2.2.2.2.lookup pc = some (.ior, l, a0, b0)) (he : bOr u v = e) (h : VV X d y (pc + 1, L, iv e :: st, M) K) : VV X d y (pc, L, iv v :: iv u :: st, M) K := by
  subst he; exact v_s hm ho rfl (by simp only [iv, m_step, m_i2, bOr, Int32.ofInt_toInt]) h
theorem j_xor (hm : mP[y]? = some mm) (ho : mm.2.2.2.2.2.2.lookup pc = some (.ixor, l, a0, b0)) (he : bXor u v = e) (h : VV X d y (pc + 1, L, iv e :: st, M) K) : VV X d y (pc, L, iv v :: iv u :: st, M) K := by
  subst he; exact v_s hm ho rfl (by simp only [iv, m_step, m_i2, bXor, Int32.ofInt_toInt]) h
theorem j_shl (hm : mP[y]? = some mm) (ho : mm.2.2.2.2.2.2.lookup pc = some (.ishl, l, a0, b0)) (he : bShl u v = e) (h : VV X d y (pc + 1, L, iv e :: st, M) K) : VV X d y (pc, L, iv v :: iv u :: st, M) K := by
  subst he; exact v_s hm ho rfl (by simp only [iv, m_step, m_i2, bShl, Int32.ofInt_toInt]) h
theorem j_shr (hm : mP[y]? = some mm) (ho : mm.2.2.2.2.2.2.lookup pc = some (.ishr, l, a0, b0)) (he : bShr u v = e) (h : VV X d y (pc + 1, L, iv e :: st, M) K) : VV X d y (pc, L, iv v :: iv u :: st, M) K := by
  subst he; exact v_s hm ho rfl (by simp only [iv, m_step, m_i2, bShr, Int32.ofInt_toInt]) h
theorem j_ush (hm : mP[y]? = some mm) (ho : mm.2.2.2.2.2.2.lookup pc = some (.iushr, l, a0, b0)) (he : bUsh u v = e) (h : VV X d y (pc + 1, L, iv e :: st, M) K) : VV X d y (pc, L, iv v :: iv u :: st, M) K := by
  subst he; exact v_s hm ho rfl (by simp only [iv, m_step, m_i2, bUsh, Int32.ofInt_toInt]) h
theorem nzI (hv : InR v) (hz : ¬ v = 0) : ¬ Int32.ofInt v = 0 := fun q => hz ((eqI hv ⟨by decide, by decide⟩).mp q)
theorem j_div (hm : mP[y]? = some mm) (ho : mm.2.2.2.2.2.2.lookup pc = some (.idiv, l, a0, b0)) (hv : InR v) (hz : ¬ v = 0) (he : bDiv u v = e) (h : VV X d y (pc + 1, L, iv e :: st, M) K) : VV X d y (pc, L, iv v :: iv u :: st, M) K := by
  subst he
  refine v_div hm ho (nzI hv hz) ?_
  rw [← ivt]; exact h
theorem j_rem (hm : mP[y]? = some mm) (ho : mm.2.2.2.2.2.2.lookup pc = some (.irem, l, a0, b0)) (hv : InR v) (hz : ¬ v = 0) (he : bRem u v = e) (h : VV X d y (pc + 1, L, iv e :: st, M) K) : VV X d y (pc, L, iv v :: iv u :: st, M) K := by
  subst he
  refine v_rem hm ho (nzI hv hz) ?_
  rw [← ivt]; exact h
theorem j_lcmp {p q : Int64} (hm : mP[y]? = some mm) (ho : mm.2.2.2.2.2.2.lookup pc = some (.lcmp, l, a0, b0)) (h : VV X d y (pc + 1, L, iv (lcI p q) :: st, M) K) : VV X d y (pc, L, .long q :: .long p :: st, M) K :=
  v_s hm ho rfl (by simp only [iv, m_step, m_l2, lcI, Int32.ofInt_toInt]) h
theorem j_inc {i : Nat} {n : Int} (hm : mP[y]? = some mm) (ho : mm.2.2.2.2.2.2.lookup pc = some (.iinc i n, l, a0, b0)) (hg : m_get L i = some (iv u)) (hi : i < L.length) (he : u + n = e) (hL : m_set L i (iv e) = L') (h : VV X d y (pc + 3, L', st, M) K) : VV X d y (pc, L, st, M) K := by
  subst he; exact v_inc hm ho hg hi (Int32.ofInt_add u n).symm hL h
theorem j_if2 {t : Nat} {cn : ClassFile.Cond} {off : Int} (hm : mP[y]? = some mm) (ho : mm.2.2.2.2.2.2.lookup pc = some (.if_icmp cn off, l, a0, b0)) (ht : (pc : Int) + off = .ofNat t) (hu : InR u) (hv : InR v) (h1 : jc cn u v → VV X d y (t, L, st, M) K) (h2 : ¬ jc cn u v → VV X d y (pc + 3, L, st, M) K) : VV X d y (pc, L, iv v :: iv u :: st, M) K :=
  v_if2 hm ho ht (fun c => h1 ((jc_iff cn hu hv).mp c)) (fun c => h2 (fun q => c ((jc_iff cn hu hv).mpr q)))
theorem j_if1 {t : Nat} {cn : ClassFile.Cond} {off : Int} (hm : mP[y]? = some mm) (ho : mm.2.2.2.2.2.2.lookup pc = some (.ifCond cn off, l, a0, b0)) (ht : (pc : Int) + off = .ofNat t) (hu : InR u) (h1 : jc cn u 0 → VV X d y (t, L, st, M) K) (h2 : ¬ jc cn u 0 → VV X d y (pc + 3, L, st, M) K) : VV X d y (pc, L, iv u :: st, M) K :=
  v_if1 hm ho ht (fun c => h1 ((jc_iff cn hu ⟨by decide, by decide⟩).mp c)) (fun c => h2 (fun q => c ((jc_iff cn hu ⟨by decide, by decide⟩).mpr q)))
theorem j_sd {t : Nat} {df lo hi : Int} {offs : Array Int} (hm : mP[y]? = some mm) (ho : mm.2.2.2.2.2.2.lookup pc = some (.tableswitch df lo hi offs, l, a0, b0)) (hr : InR u) (hu : u < lo ∨ hi < u) (ht : (pc : Int) + df = .ofNat t) (h : VV X d y (t, L, st, M) K) : VV X d y (pc, L, iv u :: st, M) K :=
  v_swd hm ho (by rw [toI_ofI hr]; exact hu) ht h
theorem j_si {t : Nat} {df lo hi off : Int} {offs : Array Int} (c : Int) (hm : mP[y]? = some mm) (ho : mm.2.2.2.2.2.2.lookup pc = some (.tableswitch df lo hi offs, l, a0, b0)) (hr : InR c) (hu : u = c) (hb : ¬ (c < lo ∨ hi < c)) (hof : offs[(c - lo).toNat]? = some off) (ht : (pc : Int) + off = .ofNat t) (h : VV X d y (t, L, st, M) K) : VV X d y (pc, L, iv u :: st, M) K := by
  subst hu
  exact v_swi hm ho (by rw [toI_ofI hr]; exact hb) (by rw [toI_ofI hr]; exact hof) ht h
theorem j_ls {t : Nat} {df off : Int} {ps : Array (Int × Int)} (hm : mP[y]? = some mm) (ho : mm.2.2.2.2.2.2.lookup pc = some (.lookupswitch df ps, l, a0, b0)) (hr : InR u) (hs : (ps.toList.zip (ps.toList.drop 1)).all (fun (a, next) => a.1 < next.1) = true) (hof : Op.lookupswitch.offset ps.toList df u = off) (ht : (pc : Int) + off = .ofNat t) (h : VV X d y (t, L, st, M) K) : VV X d y (pc, L, iv u :: st, M) K := by
  refine v_s hm ho rfl ?_ h
  simp only [m_step, m_i1, m_jmp]
  rw [if_pos hs, toI_ofI hr, hof, ht]
theorem j_max {i b : Nat} (hm : mP[y]? = some mm) (ho : mm.2.2.2.2.2.2.lookup pc = some (.invokestatic i, l, 1000, b)) (hl : st.length ≤ 8) (hu : InR u) (hv : InR v) (h : VV X d y (pc + 3, L, iv (max u v) :: st, M) K) : VV X d y (pc, L, iv v :: iv u :: st, M) K := by
  refine v_s hm ho rfl ?_ h
  simp only [m_step, m_i2]
  rw [if_pos trivial, if_neg (by omega)]
  have : (if Int32.ofInt u < Int32.ofInt v then Int32.ofInt v else Int32.ofInt u) = Int32.ofInt (max u v) := by
    by_cases q : u < v
    · rw [if_pos ((ltI hu hv).mpr q), show max u v = v by omega]
    · rw [if_neg (fun z => q ((ltI hu hv).mp z)), show max u v = u by omega]
  rw [this]
theorem j_min {i b : Nat} (hm : mP[y]? = some mm) (ho : mm.2.2.2.2.2.2.lookup pc = some (.invokestatic i, l, 1001, b)) (hl : st.length ≤ 8) (hu : InR u) (hv : InR v) (h : VV X d y (pc + 3, L, iv (min u v) :: st, M) K) : VV X d y (pc, L, iv v :: iv u :: st, M) K := by
  refine v_s hm ho rfl ?_ h
  simp only [m_step, m_i2]
  rw [if_neg (by decide), if_pos trivial, if_neg (by omega)]
  have : (if Int32.ofInt v < Int32.ofInt u then Int32.ofInt v else Int32.ofInt u) = Int32.ofInt (min u v) := by
    by_cases q : v < u
    · rw [if_pos ((ltI hv hu).mpr q), show min u v = v by omega]
    · rw [if_neg (fun z => q ((ltI hv hu).mp z)), show min u v = u by omega]
  rw [this]
theorem j_sl {i b a : Nat} {t : List Int32} (hm : mP[y]? = some mm) (ho : mm.2.2.2.2.2.2.lookup pc = some (.invokevirtual i, l, 1003, b)) (ht : m_nstr mT a = some t) (hl : st.length ≤ 4) (h : VV X d y (pc + 3, L, iv (t.length : Int) :: st, M) K) : VV X d y (pc, L, .ref a :: st, M) K := by
  refine v_s hm ho rfl ?_ h
  simp only [m_step, m_r1, ht]
  rw [if_pos trivial, if_neg (by omega), nI, iv, Int32.ofInt_eq_ofNat]
theorem j_sc {i b a : Nat} {t : List Int32} {c : Int32} (hm : mP[y]? = some mm) (ho : mm.2.2.2.2.2.2.lookup pc = some (.invokevirtual i, l, 1004, b)) (ht : m_nstr mT a = some t) (hl : st.length ≤ 4) (hi : 0 ≤ u ∧ u < 2147483648) (hc : t[u.toNat]? = some c) (h : VV X d y (pc + 3, L, iv c.toInt :: st, M) K) : VV X d y (pc, L, iv u :: .ref a :: st, M) K := by
  refine v_s hm ho rfl ?_ h
  have h1 := inC (n := 2147483648) hi (Nat.le_refl _)
  have h2 : ¬ Int32.ofInt u < 0 := fun q => h1.1 (Or.inl q)
  simp only [m_step, m_i1, m_r1, ht, h1.2, hc]
  rw [if_neg (by decide), if_pos trivial, if_neg (by intro q; rcases q with q | q; omega; exact h2 q), ivt]
theorem j_ldc {i a : Nat} (hm : mP[y]? = some mm) (ho : mm.2.2.2.2.2.2.lookup pc = some (.ldc i, l, a, 0)) (he : (a : Int) = e) (h : VV X d y (pc + 2, L, iv e :: st, M) K) : VV X d y (pc, L, st, M) K := by
  subst he
  refine v_s hm ho rfl ?_ h
  simp only [m_step, iv, Int32.ofInt_eq_ofNat]
  rfl
theorem j_ldw {i a : Nat} (hm : mP[y]? = some mm) (ho : mm.2.2.2.2.2.2.lookup pc = some (.ldc_w i, l, a, 0)) (he : (a : Int) = e) (h : VV X d y (pc + 3, L, iv e :: st, M) K) : VV X d y (pc, L, st, M) K := by
  subst he
  refine v_s hm ho rfl ?_ h
  simp only [m_step, iv, Int32.ofInt_eq_ofNat]
  rfl
/-- a call: its body runs, and its answer goes on here -/
theorem v_inl {op : mOp} {As rest : List Value} {m1 : mMeth} {L1 : mL} (hm : mP[y]? = some mm) (ho : mm.2.2.2.2.2.2.lookup pc = some op) (hk : m_ck op = 2) (hm1 : mP[op.2.2.1]? = some m1) (hAs : (st.take op.2.2.2).reverse = As) (hrest : st.drop op.2.2.2 = rest) (hc : m_call op m1 st M = true) (hL : m_ent m1.2.2.1 As = L1) (hd : 0 < d)
    (h : VV X (d - 1) op.2.2.1 (0, L1, [], M) (fun o M1 => match o with
      | .inl (some w) => VV X d y (pc + 3, L, w :: rest, M1) K
      | .inl none => VV X d y (pc + 3, L, rest, M1) K
      | .inr _ => False)) : VV X d y (pc, L, st, M) K := by
  subst hL
  obtain ⟨n1, r1, hr1, h1⟩ := h
  obtain ⟨o, M9⟩ := r1
  cases o with
  | inr k => exact h1.elim
  | inl w =>
    refine v_call hm ho hk hm1 hAs hrest hc (v := w) (M1 := M9) (d1 := d - 1) ⟨m1, hm1, n1, _, hr1, rfl, rfl⟩ (by omega) ?_
    cases w with
    | none => exact h1
    | some w => exact h1
/-- a call that may throw, in a method without handlers -/
theorem v_inx {op : mOp} {As rest : List Value} {m1 : mMeth} {L1 : mL} (hm : mP[y]? = some mm) (ho : mm.2.2.2.2.2.2.lookup pc = some op) (hk : m_ck op = 2) (hm1 : mP[op.2.2.1]? = some m1) (hAs : (st.take op.2.2.2).reverse = As) (hrest : st.drop op.2.2.2 = rest) (hc : m_call op m1 st M = true) (hL : m_ent m1.2.2.1 As = L1) (hd : 0 < d) (hf : m_fixed op m1 = false) (hh : mm.2.2.2.2.2.1 = [])
    (h : VV X (d - 1) op.2.2.1 (0, L1, [], M) (fun o M1 => match o with
      | .inl (some w) => VV X d y (pc + 3, L, w :: rest, M1) K
      | .inl none => VV X d y (pc + 3, L, rest, M1) K
      | .inr k => K (.inr k) M1)) : VV X d y (pc, L, st, M) K := by
  subst hL
  obtain ⟨n1, r1, hr1, h1⟩ := h
  obtain ⟨o, M9⟩ := r1
  cases o with
  | inr k => exact v_callx hm ho hk hm1 hAs hc (d1 := d - 1) ⟨m1, hm1, n1, _, hr1, rfl, rfl⟩ (by omega) hf hh h1
  | inl w =>
    refine v_call hm ho hk hm1 hAs hrest hc (v := w) (M1 := M9) (d1 := d - 1) ⟨m1, hm1, n1, _, hr1, rfl, rfl⟩ (by omega) ?_
    cases w with
    | none => exact h1
    | some w => exact h1
theorem EE.ex {α : Type} {As : List Value} {O : α → Option Value ⊕ Nat} {F : α → mM} {P : α → Prop} (hm : mP[y]? = some mm) (h : VV X d y (0, m_ent mm.2.2.1 As, [], M) (fun o M1 => ∃ z, o = O z ∧ M1 = F z ∧ P z)) : ∃ z, EE X d y As M (O z) (F z) ∧ P z := by
  obtain ⟨n, r, hr, z, h1, h2, h3⟩ := h
  exact ⟨z, ⟨mm, hm, n, r, hr, h1, h2⟩, h3⟩
theorem EE.run {As : List Value} {M' : mM} {o : Option Value ⊕ Nat} {L1 : mL} (h : EE X d y As M o M') (hm : mP[y]? = some mm) (hL : m_ent mm.2.2.1 As = L1) (hK : K o M') : VV X d y (0, L1, [], M) K := by
  obtain ⟨m2, hm2, n, r, hr, h1, h2⟩ := h
  cases hm.symm.trans hm2
  subst hL
  exact ⟨n, r, hr, by rw [h1, h2]; exact hK⟩
end JR
section JM
variable {X : Nat × (Nat → Int32)} {d y pc : Nat} {L : mL} {st : List Value} {K : (Option Value ⊕ Nat) → mM → Prop} {mm : mMeth} {J : Nat → Nat → Int} {sw : Bool × Bool × Bool} {lg : Nat → Nat → Int64} {x l a0 b0 a n : Nat} {e w : Int}
theorem j_gi {i ci b N : Nat} (k : Nat) (hm : mP[y]? = some mm) (ho : mm.2.2.2.2.2.2.lookup pc = some (.getfield i, l, ci, b)) (hb : b = 2 * k) (hC : SH[a]? = some (ci + 5, N)) (hk : k < N) (hw : J a k = w) (h : VV X d y (pc + 3, L, iv w :: st, mj J sw lg x) K) : VV X d y (pc, L, .ref a :: st, mj J sw lg x) K := by
  subst hw; exact v_gi k hm ho hb hC hk h
theorem j_pi {i ci b N : Nat} (k : Nat) (hm : mP[y]? = some mm) (ho : mm.2.2.2.2.2.2.lookup pc = some (.putfield i, l, ci, b)) (hb : b = 2 * k) (hC : SH[a]? = some (ci + 5, N)) (hk : k < N) (h : VV X d y (pc + 3, L, st, mj (m_up J a k e) sw lg x) K) : VV X d y (pc, L, iv e :: .ref a :: st, mj J sw lg x) K := by
  refine v_pi k hm ho hb hC hk ?_
  rw [← JJ_up]; exact h
theorem j_al (hm : mP[y]? = some mm) (ho : mm.2.2.2.2.2.2.lookup pc = some (.iaload, l, a0, b0)) (hA : SH[a]? = some (0, n)) (hi : 0 ≤ e ∧ e < (n : Int)) (hn : n ≤ 2147483648) (hw : J a e.toNat = w) (h : VV X d y (pc + 1, L, iv w :: st, mj J sw lg x) K) : VV X d y (pc, L, iv e :: .ref a :: st, mj J sw lg x) K := by
  subst hw
  refine v_al hm ho hA (inC hi hn).1 ?_
  rw [(inC hi hn).2]; exact h
theorem j_as {v : Int} (hm : mP[y]? = some mm) (ho : mm.2.2.2.2.2.2.lookup pc = some (.iastore, l, a0, b0)) (hA : SH[a]? = some (0, n)) (hi : 0 ≤ e ∧ e < (n : Int)) (hn : n ≤ 2147483648) (h : VV X d y (pc + 1, L, st, mj (m_up J a e.toNat v) sw lg x) K) : VV X d y (pc, L, iv v :: iv e :: .ref a :: st, mj J sw lg x) K := by
  refine v_as hm ho hA (inC hi hn).1 ?_
  rw [(inC hi hn).2, ← JJ_up]; exact h
theorem j_bl (hm : mP[y]? = some mm) (ho : mm.2.2.2.2.2.2.lookup pc = some (.baload, l, a0, b0)) (hA : SH[a]? = some (1, n)) (hi : 0 ≤ e ∧ e < (n : Int)) (hn : n ≤ 2147483648) (hw : J a e.toNat = w) (h : VV X d y (pc + 1, L, iv w :: st, mj J sw lg x) K) : VV X d y (pc, L, iv e :: .ref a :: st, mj J sw lg x) K := by
  subst hw
  refine v_bl hm ho hA (inC hi hn).1 ?_
  rw [(inC hi hn).2]; exact h
theorem j_bs {v : Int} (hm : mP[y]? = some mm) (ho : mm.2.2.2.2.2.2.lookup pc = some (.bastore, l, a0, b0)) (hA : SH[a]? = some (1, n)) (hi : 0 ≤ e ∧ e < (n : Int)) (hn : n ≤ 2147483648) (hw : bN v = w) (h : VV X d y (pc + 1, L, st, mj (m_up J a e.toNat w) sw lg x) K) : VV X d y (pc, L, iv v :: iv e :: .ref a :: st, mj J sw lg x) K := by
  subst hw
  refine v_bs hm ho hA (inC hi hn).1 ?_
  rw [(inC hi hn).2, show vp_nar .boolean (Int32.ofInt v) = Int32.ofInt (bN v) from (Int32.ofInt_toInt _).symm, ← JJ_up]; exact h
theorem j_len {kd : Nat} (hm : mP[y]? = some mm) (ho : mm.2.2.2.2.2.2.lookup pc = some (.arraylength, l, a0, b0)) (hA : SH[a]? = some (kd, n)) (hkd : kd < 5) (he : (n : Int) = e) (h : VV X d y (pc + 1, L, iv e :: st, mj J sw lg x) K) : VV X d y (pc, L, .ref a :: st, mj J sw lg x) K := by
  subst he
  refine v_len hm ho hA hkd ?_
  rw [nI, ← Int32.ofInt_eq_ofNat]; exact h
theorem j_cpy {i b a1 n1 sp dp c : Nat} (hm : mP[y]? = some mm) (ho : mm.2.2.2.2.2.2.lookup pc = some (.invokestatic i, l, 1002, b)) (hA0 : SH[a]? = some (0, n)) (hA1 : SH[a1]? = some (0, n1)) (hl : st.length ≤ 8) (h0 : sp + c ≤ n) (h1 : dp + c ≤ n1) (hn : n < 1000000) (hn1 : n1 < 1000000)
    (h : VV X d y (pc + 3, L, st, mj (m_row J a1 (va_cpy (J a) (J a1) sp dp c)) sw lg x) K) : VV X d y (pc, L, iv (c : Int) :: iv (dp : Int) :: .ref a1 :: iv (sp : Int) :: .ref a :: st, mj J sw lg x) K := by
  have k1 : ∀ q : Nat, q < 1000000 → ¬ Int32.ofInt (q : Int) < 0 ∧ (Int32.ofInt (q : Int)).toNatClampNeg = q := by
    intro q hq
    have := inC (e := (q : Int)) (n := 1000000) ⟨by omega, by omega⟩ (by decide)
    exact ⟨fun z => this.1 (Or.inl z), this.2⟩
  obtain ⟨s1, s2⟩ := k1 sp (by omega)
  obtain ⟨d1, d2⟩ := k1 dp (by omega)
  obtain ⟨c1, c2⟩ := k1 c (by omega)
  refine v_cpy hm ho hA0 hA1 ?_ ?_
  · rw [s2, d2, c2]
    intro q
    rcases q with q | q | q | q | q | q
    · omega
    · exact s1 q
    · exact d1 q
    · exact c1 q
    · omega
    · omega
  · rw [s2, d2, c2]
    have : (fun k => Int32.ofInt (va_cpy (J a) (J a1) sp dp c k)) = va_cpy (JJ J a) (JJ J a1) sp dp c := by
      funext k
      simp only [va_cpy, JJ]
      split <;> rfl
    rw [← this, ← JJ_row]; exact h
theorem j_ll {q : Int64} (hm : mP[y]? = some mm) (ho : mm.2.2.2.2.2.2.lookup pc = some (.laload, l, a0, b0)) (hA : SH[a]? = some (2, n)) (hi : 0 ≤ e ∧ e < (n : Int)) (hn : n ≤ 2147483648) (hw : lg a e.toNat = q) (h : VV X d y (pc + 1, L, .long q :: st, mj J sw lg x) K) : VV X d y (pc, L, iv e :: .ref a :: st, mj J sw lg x) K := by
  subst hw
  refine v_ll hm ho hA (inC hi hn).1 ?_
  rw [(inC hi hn).2]; exact h
theorem j_lst {q : Int64} (hm : mP[y]? = some mm) (ho : mm.2.2.2.2.2.2.lookup pc = some (.lastore, l, a0, b0)) (hA : SH[a]? = some (2, n)) (hi : 0 ≤ e ∧ e < (n : Int)) (hn : n ≤ 2147483648) (h : VV X d y (pc + 1, L, st, mj J sw (m_up lg a e.toNat q) x) K) : VV X d y (pc, L, .long q :: iv e :: .ref a :: st, mj J sw lg x) K := by
  refine v_ls hm ho hA (inC hi hn).1 ?_
  rw [(inC hi hn).2]; exact h
theorem j_scr (hm : mP[y]? = some mm) (ho : mm.2.2.2.2.2.2.lookup pc = some (.iaload, l, a0, b0)) (hi : 0 ≤ e ∧ e < (X.1 : Int)) (hn : X.1 ≤ 2147483648) (h : VV X d y (pc + 1, L, iv (X.2 e.toNat).toInt :: st, mj J sw lg x) K) : VV X d y (pc, L, iv e :: .ref m_scr :: st, mj J sw lg x) K := by
  refine v_s hm ho rfl ?_ h
  have h1 := inC hi hn
  simp only [m_step, m_i1, m_r1, if_true, h1.2]
  rw [if_neg (by have := h1.1; unfold vp_in at this; rw [h1.2] at this; exact this), ivt]
theorem j_scl (hm : mP[y]? = some mm) (ho : mm.2.2.2.2.2.2.lookup pc = some (.arraylength, l, a0, b0)) (h : VV X d y (pc + 1, L, iv (X.1 : Int) :: st, mj J sw lg x) K) : VV X d y (pc, L, .ref m_scr :: st, mj J sw lg x) K := by
  refine v_s hm ho rfl ?_ h
  simp only [m_step, m_r1, m_len, if_true, nI, iv, Int32.ofInt_eq_ofNat]
end JM
