/-! the reference reads the village -/
def VN (J : Nat → Nat → Int) (B : VB) : Prop := (J 542 18 = ve B.1 ∧ J 542 19 = vh B.1 ∧ J 542 20 = vn B.1 ∧ J 542 21 = vp B.1 ∧ J 542 22 = B.2.2 ∧ J 542 23 = vmo B.1) ∧ (∀ k, k < ve B.1 → J 545 k = vtk B.1 k) ∧ (∀ k, k < vh B.1 → J 546 k = van B.1 k) ∧ (∀ p, p < vn B.1 → J 547 p = B.2.1 p) ∧ ∀ i, i < 28 → J 548 i = vg B.1 i
def FNV (J J' : Nat → Nat → Int) : Prop := (∀ c, c ≠ 542 → ¬ (545 ≤ c ∧ c ≤ 548) → J' c = J c) ∧ ∀ k, ¬ (4 ≤ k ∧ k ≤ 6) → ¬ (18 ≤ k ∧ k ≤ 23) → J' 542 k = J 542 k
theorem FNV.rf {J : Nat → Nat → Int} : FNV J J := ⟨fun _ _ _ => rfl, fun _ _ _ => rfl⟩
theorem FNV.tr {J J1 J2 : Nat → Nat → Int} (h1 : FNV J J1) (h2 : FNV J1 J2) : FNV J J2 := ⟨fun c q r => (h2.1 c q r).trans (h1.1 c q r), fun k q r => (h2.2 k q r).trans (h1.2 k q r)⟩
theorem FY.fnv {J J' : Nat → Nat → Int} (h : FY J J') : FNV J J' := ⟨fun c q _ => h.1 c q, fun k q _ => h.2 k (by omega) (by omega) (by omega)⟩
theorem FNV.uf {J : Nat → Nat → Int} {k : Nat} {w : Int} (hk : 18 ≤ k ∧ k ≤ 23) : FNV J (m_up J 542 k w) := ⟨fun c q _ => up_r q, fun i _ q => up_nk (by omega)⟩
theorem FNV.uc {J : Nat → Nat → Int} {c k : Nat} {w : Int} (hc : 545 ≤ c ∧ c ≤ 548) : FNV J (m_up J c k w) := ⟨fun i _ q => up_r (by omega), fun i _ _ => up_na (by omega)⟩
theorem VN.fy {J J' : Nat → Nat → Int} {B : VB} (h : VN J B) (hf : FY J J') : VN J' B := by
  obtain ⟨⟨k1, k2, k3, k4, k5, k6⟩, k7, k8, k9, k10⟩ := h
  refine ⟨⟨?_, ?_, ?_, ?_, ?_, ?_⟩, fun k hk => ?_, fun k hk => ?_, fun k hk => ?_, fun k hk => ?_⟩
  · rw [hf.2 _ (by decide) (by decide) (by decide)]; exact k1
  · rw [hf.2 _ (by decide) (by decide) (by decide)]; exact k2
  · rw [hf.2 _ (by decide) (by decide) (by decide)]; exact k3
  · rw [hf.2 _ (by decide) (by decide) (by decide)]; exact k4
  · rw [hf.2 _ (by decide) (by decide) (by decide)]; exact k5
  · rw [hf.2 _ (by decide) (by decide) (by decide)]; exact k6
  · rw [hf.1 _ (by decide)]; exact k7 k hk
  · rw [hf.1 _ (by decide)]; exact k8 k hk
  · rw [hf.1 _ (by decide)]; exact k9 k hk
  · rw [hf.1 _ (by decide)]; exact k10 k hk
/-- how the reference reads a piece of it -/
def VQ (J J' : Nat → Nat → Int) (R : RS × VB) : Prop := MR J' R.1 ∧ (R.1.1.1 = 0 → VN J' R.2) ∧ FNV J J'
theorem MR.cg {J J' : Nat → Nat → Int} {R : RS} (h : MR J R) (h4 : J' 542 4 = J 542 4) (h5 : J' 542 5 = J 542 5) (h6 : J' 542 6 = J 542 6) : MR J' R := by
  unfold MR; rw [h4, h5, h6]; exact h
theorem wcF_R (tp : Nat → Int) (b : Nat) : ∀ k, InR (wcF tp b k)
  | 0 => by show InR 0; decide
  | k + 1 => by unfold wcF; split; exact inT _; decide
theorem wcR_R (tp : Nat → Int) (b e : Nat) : InR (wcR tp b e) := by unfold wcR; split; exact wcF_R _ _ _; decide
theorem ofF_R (t : List Int32) : ∀ k, InR (ofF t k)
  | 0 => by show InR 0; decide
  | k + 1 => inT _
section Vm
variable {X : Nat × (Nat → Int32)} {J : Nat → Nat → Int} {sw : Bool × Bool × Bool} {lg : Nat → Nat → Int64} {x n a : Nat} {tp : Nat → Int} {B : VB}
theorem e_166 {k p : Int} (h5 : J 542 5 = -1) : ∃ J', EE X 0 166 [.ref 542, iv k, iv p] (mj J sw lg x) (.inl none) (mj J' sw lg x) ∧ (J' 542 5 = p ∧ J' 542 6 = k) ∧ FY J J' ∧ J' 542 4 = J 542 4 := by
  refine EE.ex (O := fun _ => .inl none) (F := fun J' => mj J' sw lg x) mt_166 (b_166_0 ?_)
  rw [h5]
  exact ⟨by decide, fun _ => ⟨_, rfl, rfl, ⟨by rw [up_nk (by decide), up_eq], up_eq _ _ _ _⟩, (FY.up (by decide)).tr (FY.up (by decide)), by rw [up_nk (by decide), up_nk (by decide)]⟩, fun z => absurd rfl z⟩
theorem nmR_sk {lo hi : Int} : nmR tp n (sk tp n a) lo hi = nmR tp n a lo hi := by unfold nmR nmV; rw [sk_sk]
theorem nmV_sk : nmV tp n (sk tp n a) = nmV tp n a := by unfold nmV; rw [sk_sk]
/-- the letters of a word -/
theorem wd_l {b : Nat} : ∀ i, i < wd tp n b - b → isL (tp (b + i)) = true := fun i hi => by
  have h : i < sc tp isL n b - b := hi
  exact (sc_in (tp := tp) (P := isL) (n := n) (a := b) (by omega) (by omega)).2
theorem e_171w {i : Nat} (hi : i < 43) : EE X 0 171 [.ref (m_scr + 1 + i)] (mj J sw lg x) (.inl (some (iv (ofF (tw i) (tw i).length)))) (mj J sw lg x) := e_171 (nst hi) (tw_n hi)
theorem wc_w {b i j : Nat} (hi : i < 43) (hj : tw i = tw j) : wcR tp b (wd tp n b) = ofF (tw i) (tw i).length ↔ wIs tp b (wd tp n b) (tw j) = true := by
  rw [← hj]; exact wc_iff (tw_l i hi) sc_le wd_l
theorem tw23 : tw 23 = tw 0 ∧ tw 24 = tw 1 ∧ tw 25 = tw 2 ∧ tw 26 = tw 3 ∧ tw 27 = tw 4 ∧ tw 28 = tw 5 := by decide +kernel
theorem e_182 {b : Nat} : EE X 1 182 [iv (wcR tp b (wd tp n b))] (mj J sw lg x) (.inl (some (iv (if kdV tp b (wd tp n b) = -1 then 0 else 1)))) (mj J sw lg x) := by
  obtain ⟨w0, w1, w2, w3, w4, w5⟩ := tw23
  refine EE.of mt_182 (b_182_0 (by omega) ?_)
  have kk := kdV_b tp b (wd tp n b)
  unfold kdV
  refine ⟨_, _, e_171w (by decide), wcR_R _ _ _, ofF_R _ _, fun c => ⟨?_, rfl⟩, fun c => ?_⟩
  · rw [if_pos ((wc_w (by decide) w0).mp c)]; rfl
  rw [if_neg (fun z => c ((wc_w (by decide) w0).mpr z))]
  refine ⟨_, _, e_171w (by decide), ofF_R _ _, fun c => ⟨?_, rfl⟩, fun c => ?_⟩
  · rw [if_pos ((wc_w (by decide) w1).mp c)]; rfl
  rw [if_neg (fun z => c ((wc_w (by decide) w1).mpr z))]
  refine ⟨_, _, e_171w (by decide), ofF_R _ _, fun c => ⟨?_, rfl⟩, fun c => ?_⟩
  · rw [if_pos ((wc_w (by decide) w2).mp c)]; rfl
  rw [if_neg (fun z => c ((wc_w (by decide) w2).mpr z))]
  refine ⟨_, _, e_171w (by decide), ofF_R _ _, fun c => ⟨?_, rfl⟩, fun c => ?_⟩
  · rw [if_pos ((wc_w (by decide) w3).mp c)]; rfl
  rw [if_neg (fun z => c ((wc_w (by decide) w3).mpr z))]
  refine ⟨_, _, e_171w (by decide), ofF_R _ _, fun c => ⟨?_, rfl⟩, fun c => ?_⟩
  · rw [if_pos ((wc_w (by decide) w4).mp c)]; rfl
  rw [if_neg (fun z => c ((wc_w (by decide) w4).mpr z))]
  refine ⟨_, _, e_171w (by decide), ofF_R _ _, fun c => ⟨?_, rfl⟩, fun c => ⟨?_, rfl⟩⟩
  · rw [if_neg (fun z => c ((wc_w (by decide) w5).mpr z))]; rfl
  · rw [if_pos ((wc_w (by decide) w5).mp c)]; rfl
theorem e_183 {b : Nat} (hV : VN J B) (bB : VBB B) : EE X 1 183 [.ref 542, iv (wcR tp b (wd tp n b))] (mj J sw lg x) (.inl (some (iv (if fulC B.1 (kdV tp b (wd tp n b)) then 1 else 0)))) (mj J sw lg x) := by
  obtain ⟨w0, w1, w2, w3, w4, w5⟩ := tw23
  obtain ⟨⟨k1, k2, k3, k4, k5, k6⟩, -⟩ := hV
  obtain ⟨⟨h1, h2, h3, h4, -⟩, -⟩ := bB
  refine EE.of mt_183 (b_183_0 (by omega) ?_)
  have no : ∀ k : Int, ¬ fulC B.1 k → (.inl (some (iv 0)) : Option Value ⊕ Nat) = .inl (some (iv (if fulC B.1 k then 1 else 0))) ∧ mj J sw lg x = mj J sw lg x := fun k z => ⟨by rw [if_neg z], rfl⟩
  have ye : ∀ k : Int, fulC B.1 k → (.inl (some (iv 1)) : Option Value ⊕ Nat) = .inl (some (iv (if fulC B.1 k then 1 else 0))) ∧ mj J sw lg x = mj J sw lg x := fun k z => ⟨by rw [if_pos z], rfl⟩
  unfold kdV
  refine ⟨_, _, e_171w (by decide), wcR_R _ _ _, ofF_R _ _, fun c => ?_, fun c => ?_⟩
  · rw [if_neg (fun z => c ((wc_w (by decide) w0).mpr z))]
    refine ⟨_, _, e_171w (by decide), ofF_R _ _, fun c => ?_, fun c => ?_⟩
    · rw [if_neg (fun z => c ((wc_w (by decide) w1).mpr z))]
      refine ⟨_, _, e_171w (by decide), ofF_R _ _, fun c => ?_, fun c => ?_⟩
      · rw [if_neg (fun z => c ((wc_w (by decide) w2).mpr z))]
        refine ⟨_, _, e_171w (by decide), ofF_R _ _, fun c => ?_, fun c => ?_⟩
        · rw [if_neg (fun z => c ((wc_w (by decide) w3).mpr z))]
          refine no _ ?_
          split
          · unfold fulC; omega
          · split
            · unfold fulC; omega
            · unfold fulC; omega
        · rw [if_pos ((wc_w (by decide) w3).mp c), k4]
          exact ⟨by omega, fun q => no 3 (by unfold fulC; clear no ye; omega), fun q => ye 3 (by unfold fulC; clear no ye; omega)⟩
      · rw [if_pos ((wc_w (by decide) w2).mp c), k3]
        exact ⟨by omega, fun q => no 2 (by unfold fulC; clear no ye; omega), fun q => ye 2 (by unfold fulC; clear no ye; omega)⟩
    · rw [if_pos ((wc_w (by decide) w1).mp c), k2]
      exact ⟨by omega, fun q => no 1 (by unfold fulC; clear no ye; omega), fun q => ye 1 (by unfold fulC; clear no ye; omega)⟩
  · rw [if_pos ((wc_w (by decide) w0).mp c), k1]
    exact ⟨by omega, fun q => no 0 (by unfold fulC; clear no ye; omega), fun q => ye 0 (by unfold fulC; clear no ye; omega)⟩
theorem e_184 (hT : TY J n tp a) (hB : TB n tp) (ha : a ≤ n) (hV : VN J B) (bB : VBB B) (hf : vp B.1 < 14) : ∃ J', EE X 2 184 [.ref 542] (mj J sw lg x) (.inl none) (mj J' sw lg x) ∧ VQ J J' (pthR tp n a B) := by
  obtain ⟨⟨b1, b2, b3, b4, b5, b6, b7, b8⟩, -⟩ := bB
  refine EE.ex (O := fun _ => .inl none) (F := fun J' => mj J' sw lg x) mt_184 (b_184_0 (by omega) ?_)
  rw [hV.1.2.2.1]
  -- the end of it, from where a fault stands
  have fin : ∀ (R : RS) (J' : Nat → Nat → Int) (x1 x2 x3 x4 : Int), ¬ R.1.1 = 0 → J' 542 5 = (R.1.2 : Int) → J' 542 6 = (R.1.1 : Int) → R.1.2 ≤ n → J' 542 21 = (vp B.1 : Int) → FNV J J' → InR x4 → VV X 2 184 (55, [some (.ref 542), some (iv x1), some (iv x2), some (iv x3), some (iv x4)], [], mj J' sw lg x) (fun o M => ∃ z, o = .inl none ∧ M = mj z sw lg x ∧ VQ J z (R, B)) := by
    intro R J' x1 x2 x3 x4 hR h5 h6 hn h21 hF h4
    have hn6 := hB.1
    have end1 : VV X 2 184 (139, [some (.ref 542), some (iv x1), some (iv x2), some (iv x3), some (iv x4)], [], mj J' sw lg x) (fun o M => ∃ z, o = .inl none ∧ M = mj z sw lg x ∧ VQ J z (R, B)) := by
      refine b_184_139 (by omega) ?_
      rw [h21]
      refine ⟨by omega, by omega, _, rfl, rfl, ⟨fun z => absurd z hR, fun _ => ⟨?_, ?_⟩⟩, fun z => absurd z hR, ((hF.tr (FNV.uc (by decide))).tr (FNV.uc (by decide))).tr (FNV.uf (by decide))⟩
      · rw [up_nk (by decide), up_na (by decide), up_na (by decide)]; exact h5
      · rw [up_nk (by decide), up_na (by decide), up_na (by decide)]; exact h6
    refine b_184_55 (by omega) ?_
    rw [h21, h5]
    exact ⟨h4, by omega, fun _ => end1, fun _ => ⟨by clear end1; omega, fun _ => end1, fun z => by clear end1; omega⟩⟩
  have fin0 : ∀ (R : RS) (J' : Nat → Nat → Int) (x1 x2 x3 : Int) (o4 : Option Value), ¬ R.1.1 = 0 → J' 542 5 = (R.1.2 : Int) → J' 542 6 = (R.1.1 : Int) → R.1.2 ≤ n → J' 542 21 = (vp B.1 : Int) → FNV J J' → VV X 2 184 (52, [some (.ref 542), some (iv x1), some (iv x2), some (iv x3), o4], [], mj J' sw lg x) (fun o M => ∃ z, o = .inl none ∧ M = mj z sw lg x ∧ VQ J z (R, B)) :=
    fun R J' x1 x2 x3 o4 hR h5 h6 hn h21 hF => b_184_52 (by omega) (fin R J' x1 x2 x3 0 hR h5 h6 hn h21 hF (by decide))
  refine ex1 (e_173 hT hB ha (by decide) (by omega)) (fun J1 h1 => ?_)
  obtain ⟨t1, f1, q1, hq1, hq2⟩ := h1
  have hV1 := hV.fy f1
  unfold pthR
  have fl1 := nm_f (tp := tp) (lo := 0) (hi := (vn B.1 : Int) - 1) ha
  generalize hR1 : nmR tp n a 0 ((vn B.1 : Int) - 1) = R1 at *
  by_cases z1 : R1.1.1 = 0
  · have m1 := nm_ok (tp := tp) (lo := 0) (hi := (vn B.1 : Int) - 1) ha (by rw [hR1]; exact z1)
    rw [hR1] at m1
    have T1 : TY J1 n tp R1.2 := hT.fr f1 (t1.1 z1).2 (t1.1 z1).1
    rw [if_pos z1, if_pos z1]
    have hs : sk tp n R1.2 ≤ n := sc_ub m1.1
    refine ex1 (e_167 T1.tz hB m1.1) (fun J3 h3 => ?_)
    have T3 := h3.ty T1
    have hV3 := hV1.fy h3.fy
    rw [hV3.1.2.2.1]
    refine ex1 (e_173 T3 hB hs (by decide) (by omega)) (fun J5 h5 => ?_)
    rw [nmR_sk] at h5
    rw [nmR_sk, nmV_sk]
    obtain ⟨t5, f5, q5, -, -⟩ := h5
    have hV5 := hV3.fy f5
    have fl2 := nm_f (tp := tp) (lo := 0) (hi := (vn B.1 : Int) - 1) m1.1
    rw [h3.1]
    generalize hR2 : nmR tp n R1.2 0 ((vn B.1 : Int) - 1) = R2 at *
    have F5 : FNV J J5 := (f1.fnv.tr h3.fy.fnv).tr f5.fnv
    by_cases z2 : R2.1.1 = 0
    · have m2 := nm_ok (tp := tp) (lo := 0) (hi := (vn B.1 : Int) - 1) m1.1 (by rw [hR2]; exact z2)
      rw [hR2] at m2
      rw [if_pos z2, if_pos z2]
      obtain ⟨p, hp⟩ : ∃ p : Nat, nmV tp n a = (p : Int) := ⟨(nmV tp n a).toNat, by clear fin fin0; omega⟩
      obtain ⟨q, hq⟩ : ∃ q : Nat, nmV tp n R1.2 = (q : Int) := ⟨(nmV tp n R1.2).toNat, by clear fin fin0; omega⟩
      have pb : p < vn B.1 := by clear fin fin0; omega
      have qb : q < vn B.1 := by clear fin fin0; omega
      rw [hp, hq, Int.toNat_natCast, Int.toNat_natCast]
      have e5 := (t5.1 z2).1
      rw [e5]
      refine ⟨by decide, fun z => absurd rfl z, fun _ => ⟨by clear fin fin0; omega, by clear fin fin0; omega, fun c => ?_, fun c => ?_⟩⟩
      · refine b_184_52 (by omega) ?_
        refine lp (P := fun i => (∀ j, j < i → ¬ ((vg B.1 (2 * j) = (p : Int) ∧ vg B.1 (2 * j + 1) = (q : Int)) ∨ (vg B.1 (2 * j) = (q : Int) ∧ vg B.1 (2 * j + 1) = (p : Int)))) → VV X 2 184 (55, [some (.ref 542), some (iv (p : Int)), some (iv (sk tp n R1.2 : Nat)), some (iv (q : Int)), some (iv (i : Int))], [], mj J5 sw lg x) _) (vp B.1) ?_ ?_ 0 (Nat.zero_le _) (fun j hj => absurd hj (Nat.not_lt_zero _))
        · intro hno
          have tb : ¬ ((p : Int) = (q : Int) ∨ (vnr B.1 p).testBit q = true) := by
            rintro (z | z)
            · exact c z
            · obtain ⟨i, hi, h⟩ := (nearF_tb (vp B.1)).mp z
              have := b8 i hi
              refine hno i hi ?_
              rcases h with h | h
              · exact Or.inl ⟨h.1, by clear fin fin0; omega⟩
              · exact Or.inr ⟨by clear fin fin0; omega, h.1⟩
          rw [if_neg tb]
          refine b_184_55 (by omega) ?_
          rw [hV5.1.2.2.2.1]
          refine ⟨by clear fin fin0; omega, by clear fin fin0; omega, fun _ => b_184_139 (by omega) ?_, fun z => by clear fin fin0; omega⟩
          obtain ⟨⟨k1, k2, k3, k4, k5, k6⟩, k7, k8, k9, k10⟩ := hV5
          rw [k4]
          have ea : (2 * (vp B.1 : Int)).toNat = 2 * vp B.1 := by clear fin fin0; omega
          have eb : (2 * (vp B.1 : Int) + 1).toNat = 2 * vp B.1 + 1 := by clear fin fin0; omega
          rw [ea, eb]
          refine ⟨by clear fin fin0; omega, by clear fin fin0; omega, _, rfl, rfl, t5.cg ?_ ?_ ?_, fun _ => ?_, ((F5.tr (FNV.uc (by decide))).tr (FNV.uc (by decide))).tr (FNV.uf (by decide))⟩
          · rw [up_nk (by decide), up_na (by decide), up_na (by decide)]
          · rw [up_nk (by decide), up_na (by decide), up_na (by decide)]
          · rw [up_nk (by decide), up_na (by decide), up_na (by decide)]
          · refine ⟨⟨?_, ?_, ?_, ?_, ?_, ?_⟩, fun k hk => ?_, fun k hk => ?_, fun k hk => ?_, fun k hk => ?_⟩
            · rw [up_nk (by decide), up_na (by decide), up_na (by decide)]; exact k1
            · rw [up_nk (by decide), up_na (by decide), up_na (by decide)]; exact k2
            · rw [up_nk (by decide), up_na (by decide), up_na (by decide)]; exact k3
            · rw [up_eq]; rfl
            · rw [up_nk (by decide), up_na (by decide), up_na (by decide)]; exact k5
            · rw [up_nk (by decide), up_na (by decide), up_na (by decide)]; exact k6
            · rw [up_na (by decide), up_na (by decide), up_na (by decide)]; exact k7 k hk
            · rw [up_na (by decide), up_na (by decide), up_na (by decide)]; exact k8 k hk
            · rw [up_na (by decide), up_na (by decide), up_na (by decide)]; exact k9 k hk
            · rw [up_na (by decide)]
              show _ = up1 (up1 (vg B.1) (2 * vp B.1) p) (2 * vp B.1 + 1) q k
              by_cases y1 : k = 2 * vp B.1 + 1
              · rw [y1, up_eq, up1_eq]
              · rw [up_nk y1, up1_ne y1]
                by_cases y2 : k = 2 * vp B.1
                · rw [y2, up_eq, up1_eq]
                · rw [up_nk y2, up1_ne y2]; exact k10 k hk
        · intro i hi ih hno
          have v1 := b8 i hi
          have g0 : J5 548 (2 * (i : Int)).toNat = vg B.1 (2 * i) := by rw [show (2 * (i : Int)).toNat = 2 * i by clear fin fin0; omega]; exact hV5.2.2.2.2 _ (by clear fin fin0 ih; omega)
          have g1 : J5 548 (2 * (i : Int) + 1).toNat = vg B.1 (2 * i + 1) := by rw [show (2 * (i : Int) + 1).toNat = 2 * i + 1 by clear fin fin0; omega]; exact hV5.2.2.2.2 _ (by clear fin fin0 ih; omega)
          have hit : ((vg B.1 (2 * i) = (p : Int) ∧ vg B.1 (2 * i + 1) = (q : Int)) ∨ (vg B.1 (2 * i) = (q : Int) ∧ vg B.1 (2 * i + 1) = (p : Int))) → VV X 2 184 (127, [some (.ref 542), some (iv (p : Int)), some (iv (sk tp n R1.2 : Nat)), some (iv (q : Int)), some (iv (i : Int))], [], mj J5 sw lg x) (fun o M => ∃ z, o = .inl none ∧ M = mj z sw lg x ∧ VQ J z (if (p : Int) = (q : Int) ∨ (vnr B.1 p).testBit q = true then (((2, sk tp n R1.2), 0), B) else (R2, addP B p q))) := by
            intro h
            have tb : (vnr B.1 p).testBit q = true := (nearF_tb (vp B.1)).mpr ⟨i, hi, by rcases h with h | h; exact Or.inl ⟨h.1, by rw [h.2]; rfl⟩; exact Or.inr ⟨h.2, by rw [h.1]; rfl⟩⟩
            rw [if_pos (Or.inr tb)]
            refine b_184_127 (by omega) ?_
            refine ex0 (e_166 e5) (fun J7 h7 => ?_)
            refine b_184_133 (by omega) (fin ((2, sk tp n R1.2), 0) J7 _ _ _ _ (show ¬ (2 : Nat) = 0 by decide) h7.1.1 h7.1.2 hs ((hV5.fy h7.2.1).1.2.2.2.1) (F5.tr h7.2.1.fnv) (by clear fin fin0 ih; omega))
          have miss : ¬ ((vg B.1 (2 * i) = (p : Int) ∧ vg B.1 (2 * i + 1) = (q : Int)) ∨ (vg B.1 (2 * i) = (q : Int) ∧ vg B.1 (2 * i + 1) = (p : Int))) → VV X 2 184 (133, [some (.ref 542), some (iv (p : Int)), some (iv (sk tp n R1.2 : Nat)), some (iv (q : Int)), some (iv (i : Int))], [], mj J5 sw lg x) (fun o M => ∃ z, o = .inl none ∧ M = mj z sw lg x ∧ VQ J z (if (p : Int) = (q : Int) ∨ (vnr B.1 p).testBit q = true then (((2, sk tp n R1.2), 0), B) else (R2, addP B p q))) := by
            intro h
            refine b_184_133 (by omega) (ih (fun j hj => ?_))
            by_cases y : j = i
            · rw [y]; exact h
            · exact hno j (by clear fin fin0 ih hit; omega)
          have two : ¬ (vg B.1 (2 * i) = (p : Int) ∧ vg B.1 (2 * i + 1) = (q : Int)) → VV X 2 184 (99, [some (.ref 542), some (iv (p : Int)), some (iv (sk tp n R1.2 : Nat)), some (iv (q : Int)), some (iv (i : Int))], [], mj J5 sw lg x) (fun o M => ∃ z, o = .inl none ∧ M = mj z sw lg x ∧ VQ J z (if (p : Int) = (q : Int) ∨ (vnr B.1 p).testBit q = true then (((2, sk tp n R1.2), 0), B) else (R2, addP B p q))) := by
            intro h
            refine b_184_99 (by omega) ?_
            rw [g0, g1]
            refine ⟨by clear fin fin0 ih hit miss; omega, by clear fin fin0 ih hit miss; omega, by clear fin fin0 ih hit miss; omega, fun y => miss (by rintro (w | w); exact h w; exact y w.1), fun y => ⟨by clear fin fin0 ih hit miss; omega, by clear fin fin0 ih hit miss; omega, by clear fin fin0 ih hit miss; omega, fun y2 => miss (by rintro (w | w); exact h w; exact y2 w.2), fun y2 => hit (Or.inr ⟨y, y2⟩)⟩⟩
          refine b_184_55 (by omega) ?_
          rw [hV5.1.2.2.2.1, e5, g0, g1]
          refine ⟨by clear fin fin0 ih hit miss two; omega, by clear fin fin0 ih hit miss two; omega, fun y => by clear fin fin0 ih hit miss two; omega, fun _ => ⟨by decide, fun y => absurd rfl y, fun _ => ⟨by clear fin fin0 ih hit miss two; omega, by clear fin fin0 ih hit miss two; omega, by clear fin fin0 ih hit miss two; omega, fun y => two (fun w => y w.1), fun y => ⟨by clear fin fin0 ih hit miss two; omega, by clear fin fin0 ih hit miss two; omega, by clear fin fin0 ih hit miss two; omega, fun y2 => hit (Or.inl ⟨y, y2⟩), fun y2 => two (fun w => y2 w.2)⟩⟩⟩⟩
      · rw [if_pos (Or.inl c)]
        refine ex0 (e_166 e5) (fun J7 h7 => ?_)
        exact fin0 ((2, sk tp n R1.2), 0) J7 _ _ _ _ (show ¬ (2 : Nat) = 0 by decide) h7.1.1 h7.1.2 hs ((hV5.fy h7.2.1).1.2.2.2.1) (F5.tr h7.2.1.fnv)
    · rw [if_neg z2, if_neg z2]
      have fb := (fl2 z2).2
      have e5 := (t5.2 z2).1
      have hn6 := hB.1
      rw [e5]
      exact ⟨by clear fin fin0; omega, fun _ => fin0 R2 J5 _ _ _ _ z2 e5 (t5.2 z2).2 fb hV5.1.2.2.2.1 F5, fun z => by clear fin fin0; omega⟩
  · rw [if_neg z1, if_neg z1]
    have fb := (fl1 z1).2
    have e1 := (t1.2 z1).1
    have hn6 := hB.1
    refine ex1 (e_167 (J := J1) (n := n) (tp := tp) (a := q1) ⟨by rw [f1.2 3 (by decide) (by decide) (by decide)]; exact hT.1, hq2, fun k hk => by rw [f1.1 544 (by decide)]; exact hT.2.2.1 k hk⟩ hB hq1) (fun J3 h3 => ?_)
    have e3 : J3 542 5 = (R1.1.2 : Int) := by rw [h3.2.1 5 (by decide)]; exact e1
    refine ⟨_, _, e_173f e3 ⟨by clear fin fin0; omega, by clear fin fin0; omega⟩, ?_⟩
    rw [e3]
    exact ⟨by clear fin fin0; omega, fun _ => fin0 R1 J3 _ _ _ _ z1 e3 (by rw [h3.2.1 6 (by decide)]; exact (t1.2 z1).2) fb (hV1.fy h3.fy).1.2.2.2.1 (f1.fnv.tr h3.fy.fnv), fun z => by clear fin fin0; omega⟩
end Vm
