/-! the rules that touch memory -/
theorem SH_len : SH.length = 574 := by decide +kernel
theorem SH_lt {a : Nat} {q : Nat × Nat} (h : SH[a]? = some q) : a < 574 := by
  have := (List.getElem?_eq_some_iff.mp h).1
  rw [SH_len] at this
  exact this
theorem SH_scr {a : Nat} {q : Nat × Nat} (h : SH[a]? = some q) : ¬ a = m_scr := by
  have := SH_lt h
  unfold m_scr
  omega
section Mem
variable {X : Nat × (Nat → Int32)} {d y pc : Nat} {L : mL} {st : List Value} {K : (Option Value ⊕ Nat) → mM → Prop} {mm : mMeth} {I : Nat → Nat → Int32} {sw : Bool × Bool × Bool} {lg : Nat → Nat → Int64} {x : Nat}
theorem v_gi {i l ci b a N : Nat} (k : Nat) (hm : mP[y]? = some mm) (ho : mm.2.2.2.2.2.2.lookup pc = some (.getfield i, l, ci, b)) (hb : b = 2 * k) (hC : SH[a]? = some (ci + 5, N)) (hk : k < N) (h : VV X d y (pc + 3, L, .int (I a k) :: st, mk I sw lg x) K) : VV X d y (pc, L, .ref a :: st, mk I sw lg x) K := by
  subst hb
  refine v_s hm ho rfl ?_ h
  simp only [m_step, m_r1, m_obj, hC, if_true]
  rw [show 2 * k / 2 = k by omega, if_pos hk, if_pos (by omega)]
theorem v_gr {i l ci b a N w : Nat} (k : Nat) (hm : mP[y]? = some mm) (ho : mm.2.2.2.2.2.2.lookup pc = some (.getfield i, l, ci, b)) (hb : b = 2 * k + 1) (hC : SH[a]? = some (ci + 5, N)) (hk : k < N) (hG : GR sw a k = some w) (h : VV X d y (pc + 3, L, .ref w :: st, mk I sw lg x) K) : VV X d y (pc, L, .ref a :: st, mk I sw lg x) K := by
  subst hb
  refine v_s hm ho rfl ?_ h
  simp only [m_step, m_r1, m_obj, hC, if_true]
  rw [show (2 * k + 1) / 2 = k by omega, if_pos hk, if_neg (by omega), hG]
  rfl
theorem v_pi {i l ci b a N : Nat} {v : Int32} (k : Nat) (hm : mP[y]? = some mm) (ho : mm.2.2.2.2.2.2.lookup pc = some (.putfield i, l, ci, b)) (hb : b = 2 * k) (hC : SH[a]? = some (ci + 5, N)) (hk : k < N) (h : VV X d y (pc + 3, L, st, mk (m_up I a k v) sw lg x) K) : VV X d y (pc, L, .int v :: .ref a :: st, mk I sw lg x) K := by
  subst hb
  refine v_s hm ho rfl ?_ h
  simp only [m_step, m_i1, m_r1, m_obj, hC, if_true]
  rw [show 2 * k / 2 = k by omega, if_pos (by omega), if_pos hk]
theorem v_al {l a0 b0 a n : Nat} {i : Int32} (hm : mP[y]? = some mm) (ho : mm.2.2.2.2.2.2.lookup pc = some (.iaload, l, a0, b0)) (hA : SH[a]? = some (0, n)) (hi : vp_in i n) (h : VV X d y (pc + 1, L, .int (I a i.toNatClampNeg) :: st, mk I sw lg x) K) : VV X d y (pc, L, .int i :: .ref a :: st, mk I sw lg x) K := by
  refine v_s hm ho rfl ?_ h
  simp only [m_step, m_i1, m_r1, m_arr, hA, if_true, if_neg (SH_scr hA)]
  rw [if_neg hi]
theorem v_as {l a0 b0 a n : Nat} {i v : Int32} (hm : mP[y]? = some mm) (ho : mm.2.2.2.2.2.2.lookup pc = some (.iastore, l, a0, b0)) (hA : SH[a]? = some (0, n)) (hi : vp_in i n) (h : VV X d y (pc + 1, L, st, mk (m_up I a i.toNatClampNeg v) sw lg x) K) : VV X d y (pc, L, .int v :: .int i :: .ref a :: st, mk I sw lg x) K := by
  refine v_s hm ho rfl ?_ h
  simp only [m_step, m_i2, m_r1, m_arr, hA, if_true]
  rw [if_neg hi]
theorem v_bl {l a0 b0 a n : Nat} {i : Int32} (hm : mP[y]? = some mm) (ho : mm.2.2.2.2.2.2.lookup pc = some (.baload, l, a0, b0)) (hA : SH[a]? = some (1, n)) (hi : vp_in i n) (h : VV X d y (pc + 1, L, .int (I a i.toNatClampNeg) :: st, mk I sw lg x) K) : VV X d y (pc, L, .int i :: .ref a :: st, mk I sw lg x) K := by
  refine v_s hm ho rfl ?_ h
  simp only [m_step, m_i1, m_r1, m_arr, hA, if_true]
  rw [if_neg hi]
theorem v_bs {l a0 b0 a n : Nat} {i v : Int32} (hm : mP[y]? = some mm) (ho : mm.2.2.2.2.2.2.lookup pc = some (.bastore, l, a0, b0)) (hA : SH[a]? = some (1, n)) (hi : vp_in i n) (h : VV X d y (pc + 1, L, st, mk (m_up I a i.toNatClampNeg (vp_nar .boolean v)) sw lg x) K) : VV X d y (pc, L, .int v :: .int i :: .ref a :: st, mk I sw lg x) K := by
  refine v_s hm ho rfl ?_ h
  simp only [m_step, m_i2, m_r1, m_arr, hA, if_true]
  rw [if_neg hi]
theorem v_ll {l a0 b0 a n : Nat} {i : Int32} (hm : mP[y]? = some mm) (ho : mm.2.2.2.2.2.2.lookup pc = some (.laload, l, a0, b0)) (hA : SH[a]? = some (2, n)) (hi : vp_in i n) (h : VV X d y (pc + 1, L, .long (lg a i.toNatClampNeg) :: st, mk I sw lg x) K) : VV X d y (pc, L, .int i :: .ref a :: st, mk I sw lg x) K := by
  refine v_s hm ho rfl ?_ h
  simp only [m_step, m_i1, m_r1, m_arr, hA, if_true]
  rw [if_neg hi]
theorem v_ls {l a0 b0 a n : Nat} {i : Int32} {v : Int64} (hm : mP[y]? = some mm) (ho : mm.2.2.2.2.2.2.lookup pc = some (.lastore, l, a0, b0)) (hA : SH[a]? = some (2, n)) (hi : vp_in i n) (h : VV X d y (pc + 1, L, st, mk I sw (m_up lg a i.toNatClampNeg v) x) K) : VV X d y (pc, L, .long v :: .int i :: .ref a :: st, mk I sw lg x) K := by
  refine v_s hm ho rfl ?_ h
  simp only [m_step, m_l1, m_i1, m_r1, m_arr, hA, if_true]
  rw [if_neg hi]
theorem v_aal {l kd b0 a n w : Nat} {i : Int32} (hm : mP[y]? = some mm) (ho : mm.2.2.2.2.2.2.lookup pc = some (.aaload, l, kd, b0)) (hkd : kd = 3 ∨ kd = 4) (hA : SH[a]? = some (kd, n)) (hi : vp_in i n) (hG : GR sw a i.toNatClampNeg = some w) (h : VV X d y (pc + 1, L, .ref w :: st, mk I sw lg x) K) : VV X d y (pc, L, .int i :: .ref a :: st, mk I sw lg x) K := by
  refine v_s hm ho rfl ?_ h
  simp only [m_step, m_i1, m_r1, m_arr, hA, if_true]
  rw [if_neg hi, if_pos hkd, hG]
  rfl
theorem v_len {l a0 b0 a n kd : Nat} (hm : mP[y]? = some mm) (ho : mm.2.2.2.2.2.2.lookup pc = some (.arraylength, l, a0, b0)) (hA : SH[a]? = some (kd, n)) (hkd : kd < 5) (h : VV X d y (pc + 1, L, .int (nI n) :: st, mk I sw lg x) K) : VV X d y (pc, L, .ref a :: st, mk I sw lg x) K := by
  refine v_s hm ho rfl ?_ h
  simp only [m_step, m_r1, m_len, hA, if_neg (SH_scr hA)]
  rw [if_pos hkd]
theorem v_cpy {i l b a0 a1 n0 n1 : Nat} {sp dp n : Int32} (hm : mP[y]? = some mm) (ho : mm.2.2.2.2.2.2.lookup pc = some (.invokestatic i, l, 1002, b)) (hA0 : SH[a0]? = some (0, n0)) (hA1 : SH[a1]? = some (0, n1)) (hc : ¬ (8 < st.length ∨ sp < 0 ∨ dp < 0 ∨ n < 0 ∨ n0 < sp.toNatClampNeg + n.toNatClampNeg ∨ n1 < dp.toNatClampNeg + n.toNatClampNeg))
    (h : VV X d y (pc + 3, L, st, mk (m_row I a1 (va_cpy (I a0) (I a1) sp.toNatClampNeg dp.toNatClampNeg n.toNatClampNeg)) sw lg x) K) : VV X d y (pc, L, .int n :: .int dp :: .ref a1 :: .int sp :: .ref a0 :: st, mk I sw lg x) K := by
  refine v_s hm ho rfl ?_ h
  simp only [m_step, m_i1, m_i2, m_r1, hA0, hA1]
  rw [if_neg (by decide), if_neg (by decide), if_pos trivial, if_neg hc]
end Mem
section Br
variable {X : Nat × (Nat → Int32)} {d y pc : Nat} {L : mL} {st : List Value} {M : mM} {K : (Option Value ⊕ Nat) → mM → Prop} {mm : mMeth}
theorem v_if2 {l a0 b0 t : Nat} {cn : ClassFile.Cond} {off : Int} {u v : Int32} (hm : mP[y]? = some mm) (ho : mm.2.2.2.2.2.2.lookup pc = some (.if_icmp cn off, l, a0, b0)) (ht : (pc : Int) + off = .ofNat t) (h1 : m_cc cn u v = true → VV X d y (t, L, st, M) K) (h2 : ¬ m_cc cn u v = true → VV X d y (pc + 3, L, st, M) K) : VV X d y (pc, L, .int v :: .int u :: st, M) K := by
  by_cases hc : m_cc cn u v = true
  · refine v_s hm ho rfl ?_ (h1 hc)
    simp only [m_step, m_i2, m_br, ht, hc, if_true]
  · refine v_s hm ho rfl ?_ (h2 hc)
    simp only [m_step, m_i2, m_br, ht, hc]
    rfl
theorem v_if1 {l a0 b0 t : Nat} {cn : ClassFile.Cond} {off : Int} {u : Int32} (hm : mP[y]? = some mm) (ho : mm.2.2.2.2.2.2.lookup pc = some (.ifCond cn off, l, a0, b0)) (ht : (pc : Int) + off = .ofNat t) (h1 : m_cc cn u 0 = true → VV X d y (t, L, st, M) K) (h2 : ¬ m_cc cn u 0 = true → VV X d y (pc + 3, L, st, M) K) : VV X d y (pc, L, .int u :: st, M) K := by
  by_cases hc : m_cc cn u 0 = true
  · refine v_s hm ho rfl ?_ (h1 hc)
    simp only [m_step, m_i1, m_br, ht, hc, if_true]
  · refine v_s hm ho rfl ?_ (h2 hc)
    simp only [m_step, m_i1, m_br, ht, hc]
    rfl
theorem v_div {l a0 b0 : Nat} {u v : Int32} (hm : mP[y]? = some mm) (ho : mm.2.2.2.2.2.2.lookup pc = some (.idiv, l, a0, b0)) (hv : ¬ v = 0) (h : VV X d y (pc + 1, L, .int (u / v) :: st, M) K) : VV X d y (pc, L, .int v :: .int u :: st, M) K := by
  refine v_s hm ho rfl ?_ h
  simp only [m_step, m_i2]
  rw [if_neg hv]
theorem v_rem {l a0 b0 : Nat} {u v : Int32} (hm : mP[y]? = some mm) (ho : mm.2.2.2.2.2.2.lookup pc = some (.irem, l, a0, b0)) (hv : ¬ v = 0) (h : VV X d y (pc + 1, L, .int (u - u / v * v) :: st, M) K) : VV X d y (pc, L, .int v :: .int u :: st, M) K := by
  refine v_s hm ho rfl ?_ h
  simp only [m_step, m_i2]
  rw [if_neg hv]
theorem v_swd {l a0 b0 t : Nat} {df lo hi : Int} {offs : Array Int} {u : Int32} (hm : mP[y]? = some mm) (ho : mm.2.2.2.2.2.2.lookup pc = some (.tableswitch df lo hi offs, l, a0, b0)) (hu : u.toInt < lo ∨ hi < u.toInt) (ht : (pc : Int) + df = .ofNat t) (h : VV X d y (t, L, st, M) K) : VV X d y (pc, L, .int u :: st, M) K := by
  refine v_s hm ho rfl ?_ h
  simp only [m_step, m_i1, m_jmp]
  rw [if_pos hu, ht]
theorem v_swi {l a0 b0 t : Nat} {df lo hi off : Int} {offs : Array Int} {u : Int32} (hm : mP[y]? = some mm) (ho : mm.2.2.2.2.2.2.lookup pc = some (.tableswitch df lo hi offs, l, a0, b0)) (hu : ¬ (u.toInt < lo ∨ hi < u.toInt)) (hof : offs[(u.toInt - lo).toNat]? = some off) (ht : (pc : Int) + off = .ofNat t) (h : VV X d y (t, L, st, M) K) : VV X d y (pc, L, .int u :: st, M) K := by
  refine v_s hm ho rfl ?_ h
  simp only [m_step, m_i1, m_jmp]
  rw [if_neg hu, hof]
  dsimp only
  rw [ht]
end Br
