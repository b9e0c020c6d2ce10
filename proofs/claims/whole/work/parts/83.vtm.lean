/-! the reference takes a village -/
section Vu
variable {X : Nat × (Nat → Int32)} {J : Nat → Nat → Int} {sw : Bool × Bool × Bool} {lg : Nat → Nat → Int64} {x n a : Nat} {tp : Nat → Int} {B : VB} {A : AT}
/-- a number read, and put: cell c, count at field f -/
theorem num_e {J1 : Nat → Nat → Int} {R : RS} {w : Int} (t1 : MR J1 R) : MR (m_up J1 542 22 w) R ∧ MR (m_up J1 542 23 w) R := ⟨t1.cg (by rw [up_nk (by decide)]) (by rw [up_nk (by decide)]) (by rw [up_nk (by decide)]), t1.cg (by rw [up_nk (by decide)]) (by rw [up_nk (by decide)]) (by rw [up_nk (by decide)])⟩
theorem num_c {J1 : Nat → Nat → Int} {R : RS} {c i f : Nat} {w u : Int} (t1 : MR J1 R) (hc : c ≠ 542) (hf : 18 ≤ f) : MR (m_up (m_up J1 c i w) 542 f u) R :=
  t1.cg (by rw [up_nk (by omega), up_na (Ne.symm hc)]) (by rw [up_nk (by omega), up_na (Ne.symm hc)]) (by rw [up_nk (by omega), up_na (Ne.symm hc)])
theorem e_185 {b : Nat} (hT : TY J n tp a) (hB : TB n tp) (ha : a ≤ n) (hV : VN J B) (bB : VBB B) (hk : ¬ kdV tp b (wd tp n b) = -1) (hf : ¬ fulC B.1 (kdV tp b (wd tp n b))) : ∃ J', EE X 3 185 [.ref 542, iv (wcR tp b (wd tp n b))] (mj J sw lg x) (.inl none) (mj J' sw lg x) ∧ VQ J J' (if kdV tp b (wd tp n b) = 3 then pthR tp n a B else oneR tp n a (kdV tp b (wd tp n b)) B) := by
  obtain ⟨w0, w1, w2, w3, w4, w5⟩ := tw23
  refine EE.ex (O := fun _ => .inl none) (F := fun J' => mj J' sw lg x) mt_185 (b_185_0 (by omega) ?_)
  have bB' := bB
  obtain ⟨⟨b1, b2, b3, b4, -⟩, -⟩ := bB'
  obtain ⟨⟨k1, k2, k3, k4, k5, k6⟩, k7, k8, k9, k10⟩ := hV
  have hV : VN J B := ⟨⟨k1, k2, k3, k4, k5, k6⟩, k7, k8, k9, k10⟩
  refine ⟨_, _, e_171w (by decide), wcR_R _ _ _, ofF_R _ _, fun c0 => ?_, fun c0 => ?_⟩
  · have n0 : ¬ wIs tp b (wd tp n b) (tw 0) = true := fun z => c0 ((wc_w (by decide) w0).mpr z)
    refine ⟨_, _, e_171w (by decide), ofF_R _ _, fun c1 => ?_, fun c1 => ?_⟩
    · have n1 : ¬ wIs tp b (wd tp n b) (tw 1) = true := fun z => c1 ((wc_w (by decide) w1).mpr z)
      refine ⟨_, _, e_171w (by decide), ofF_R _ _, fun c2 => ?_, fun c2 => ?_⟩
      · have n2 : ¬ wIs tp b (wd tp n b) (tw 2) = true := fun z => c2 ((wc_w (by decide) w2).mpr z)
        refine ⟨_, _, e_171w (by decide), ofF_R _ _, fun c3 => ?_, fun c3 => ?_⟩
        · have n3 : ¬ wIs tp b (wd tp n b) (tw 3) = true := fun z => c3 ((wc_w (by decide) w3).mpr z)
          refine ⟨_, _, e_171w (by decide), ofF_R _ _, fun c4 => ?_, fun c4 => ?_⟩
          · have n4 : ¬ wIs tp b (wd tp n b) (tw 4) = true := fun z => c4 ((wc_w (by decide) w4).mpr z)
            have e : kdV tp b (wd tp n b) = 5 := by
              unfold kdV at hk ⊢
              rw [if_neg n0, if_neg n1, if_neg n2, if_neg n3, if_neg n4] at hk ⊢
              split at hk <;> first | (rename_i q; rw [if_pos q]) | exact absurd rfl hk
            rw [e, if_neg (by decide)]
            refine ex1 (e_173 (lo := 1) (hi := 99) hT hB ha (by decide) (by decide)) (fun J1 h1 => ?_)
            obtain ⟨t1, f1, -⟩ := h1
            obtain ⟨⟨m1, m2, m3, m4, m5, m6⟩, m7, m8, m9, m10⟩ := hV.fy f1
            refine ⟨_, rfl, rfl, (num_e t1).2, fun z => ?_, f1.fnv.tr (FNV.uf (by decide))⟩
            have z' : (nmR tp n a 1 99).1.1 = 0 := z
            rw [if_pos z']
            show VN _ (addV B 5 (nmV tp n a))
            unfold addV
            rw [if_neg (by decide), if_neg (by decide), if_neg (by decide), if_neg (by decide)]
            refine ⟨⟨?_, ?_, ?_, ?_, ?_, up_eq _ _ _ _⟩, fun k q => ?_, fun k q => ?_, fun k q => ?_, fun k q => ?_⟩
            · rw [up_nk (by decide)]; exact m1
            · rw [up_nk (by decide)]; exact m2
            · rw [up_nk (by decide)]; exact m3
            · rw [up_nk (by decide)]; exact m4
            · rw [up_nk (by decide)]; exact m5
            · rw [up_na (by decide)]; exact m7 k q
            · rw [up_na (by decide)]; exact m8 k q
            · rw [up_na (by decide)]; exact m9 k q
            · rw [up_na (by decide)]; exact m10 k q
          · have e : kdV tp b (wd tp n b) = 4 := by unfold kdV; rw [if_neg n0, if_neg n1, if_neg n2, if_neg n3, if_pos ((wc_w (by decide) w4).mp c4)]
            rw [e, if_neg (by decide)]
            refine ex1 (e_173 (lo := 0) (hi := 99) hT hB ha (by decide) (by decide)) (fun J1 h1 => ?_)
            obtain ⟨t1, f1, -⟩ := h1
            obtain ⟨⟨m1, m2, m3, m4, m5, m6⟩, m7, m8, m9, m10⟩ := hV.fy f1
            refine ⟨_, rfl, rfl, (num_e t1).1, fun z => ?_, f1.fnv.tr (FNV.uf (by decide))⟩
            have z' : (nmR tp n a 0 99).1.1 = 0 := z
            rw [if_pos z']
            show VN _ (addV B 4 (nmV tp n a))
            unfold addV
            rw [if_neg (by decide), if_neg (by decide), if_neg (by decide), if_pos rfl]
            refine ⟨⟨?_, ?_, ?_, ?_, up_eq _ _ _ _, ?_⟩, fun k q => ?_, fun k q => ?_, fun k q => ?_, fun k q => ?_⟩
            · rw [up_nk (by decide)]; exact m1
            · rw [up_nk (by decide)]; exact m2
            · rw [up_nk (by decide)]; exact m3
            · rw [up_nk (by decide)]; exact m4
            · rw [up_nk (by decide)]; exact m6
            · rw [up_na (by decide)]; exact m7 k q
            · rw [up_na (by decide)]; exact m8 k q
            · rw [up_na (by decide)]; exact m9 k q
            · rw [up_na (by decide)]; exact m10 k q
        · have e : kdV tp b (wd tp n b) = 3 := by unfold kdV; rw [if_neg n0, if_neg n1, if_neg n2, if_pos ((wc_w (by decide) w3).mp c3)]
          rw [e, if_pos rfl]
          rw [e] at hf
          refine ex0 (e_184 hT hB ha hV bB (by unfold fulC at hf; omega)) (fun J1 h1 => ⟨J1, rfl, rfl, h1⟩)
      · have e : kdV tp b (wd tp n b) = 2 := by unfold kdV; rw [if_neg n0, if_neg n1, if_pos ((wc_w (by decide) w2).mp c2)]
        rw [e, if_neg (by decide)]
        rw [e] at hf
        refine ex1 (e_173 (lo := 0) (hi := 60) hT hB ha (by decide) (by decide)) (fun J1 h1 => ?_)
        obtain ⟨t1, f1, -⟩ := h1
        obtain ⟨⟨m1, m2, m3, m4, m5, m6⟩, m7, m8, m9, m10⟩ := hV.fy f1
        rw [k3, m3, Int.toNat_natCast]
        refine ⟨by unfold fulC at hf; omega, _, rfl, rfl, num_c t1 (by decide) (by decide), fun z => ?_, (f1.fnv.tr (FNV.uc (by decide))).tr (FNV.uf (by decide))⟩
        have z' : (nmR tp n a 0 60).1.1 = 0 := z
        rw [if_pos z']
        show VN _ (addV B 2 (nmV tp n a))
        unfold addV
        rw [if_neg (by decide), if_neg (by decide), if_pos rfl]
        refine ⟨⟨?_, ?_, up_eq _ _ _ _, ?_, ?_, ?_⟩, fun k q => ?_, fun k q => ?_, fun k q => ?_, fun k q => ?_⟩
        · rw [up_nk (by decide), up_na (by decide)]; exact m1
        · rw [up_nk (by decide), up_na (by decide)]; exact m2
        · rw [up_nk (by decide), up_na (by decide)]; exact m4
        · rw [up_nk (by decide), up_na (by decide)]; exact m5
        · rw [up_nk (by decide), up_na (by decide)]; exact m6
        · rw [up_na (by decide), up_na (by decide)]; exact m7 k q
        · rw [up_na (by decide), up_na (by decide)]; exact m8 k q
        · rw [up_na (by decide)]
          show _ = up1 B.2.1 (vn B.1) _ k
          have q' : k < vn B.1 + 1 := q
          by_cases y : k = vn B.1
          · rw [y, up_eq, up1_eq]
          · rw [up_nk y, up1_ne y]; exact m9 k (by omega)
        · rw [up_na (by decide), up_na (by decide)]; exact m10 k q
    · have e : kdV tp b (wd tp n b) = 1 := by unfold kdV; rw [if_neg n0, if_pos ((wc_w (by decide) w1).mp c1)]
      rw [e, if_neg (by decide)]
      rw [e] at hf
      refine ex1 (e_173 (lo := 0) (hi := 9) hT hB ha (by decide) (by decide)) (fun J1 h1 => ?_)
      obtain ⟨t1, f1, -⟩ := h1
      obtain ⟨⟨m1, m2, m3, m4, m5, m6⟩, m7, m8, m9, m10⟩ := hV.fy f1
      rw [k2, m2, Int.toNat_natCast]
      refine ⟨by unfold fulC at hf; omega, _, rfl, rfl, num_c t1 (by decide) (by decide), fun z => ?_, (f1.fnv.tr (FNV.uc (by decide))).tr (FNV.uf (by decide))⟩
      have z' : (nmR tp n a 0 9).1.1 = 0 := z
      rw [if_pos z']
      show VN _ (addV B 1 (nmV tp n a))
      unfold addV
      rw [if_neg (by decide), if_pos rfl]
      refine ⟨⟨?_, up_eq _ _ _ _, ?_, ?_, ?_, ?_⟩, fun k q => ?_, fun k q => ?_, fun k q => ?_, fun k q => ?_⟩
      · rw [up_nk (by decide), up_na (by decide)]; exact m1
      · rw [up_nk (by decide), up_na (by decide)]; exact m3
      · rw [up_nk (by decide), up_na (by decide)]; exact m4
      · rw [up_nk (by decide), up_na (by decide)]; exact m5
      · rw [up_nk (by decide), up_na (by decide)]; exact m6
      · rw [up_na (by decide), up_na (by decide)]; exact m7 k q
      · rw [up_na (by decide)]
        show _ = up1 (van B.1) (vh B.1) _ k
        have q' : k < vh B.1 + 1 := q
        by_cases y : k = vh B.1
        · rw [y, up_eq, up1_eq]
        · rw [up_nk y, up1_ne y]; exact m8 k (by omega)
      · rw [up_na (by decide), up_na (by decide)]; exact m9 k q
      · rw [up_na (by decide), up_na (by decide)]; exact m10 k q
  · have e : kdV tp b (wd tp n b) = 0 := by unfold kdV; rw [if_pos ((wc_w (by decide) w0).mp c0)]
    rw [e, if_neg (by decide)]
    rw [e] at hf
    refine ex1 (e_173 (lo := 1) (hi := 20) hT hB ha (by decide) (by decide)) (fun J1 h1 => ?_)
    obtain ⟨t1, f1, -⟩ := h1
    obtain ⟨⟨m1, m2, m3, m4, m5, m6⟩, m7, m8, m9, m10⟩ := hV.fy f1
    rw [k1, m1, Int.toNat_natCast]
    refine ⟨by unfold fulC at hf; omega, _, rfl, rfl, num_c t1 (by decide) (by decide), fun z => ?_, (f1.fnv.tr (FNV.uc (by decide))).tr (FNV.uf (by decide))⟩
    have z' : (nmR tp n a 1 20).1.1 = 0 := z
    rw [if_pos z']
    show VN _ (addV B 0 (nmV tp n a))
    unfold addV
    rw [if_pos rfl]
    refine ⟨⟨up_eq _ _ _ _, ?_, ?_, ?_, ?_, ?_⟩, fun k q => ?_, fun k q => ?_, fun k q => ?_, fun k q => ?_⟩
    · rw [up_nk (by decide), up_na (by decide)]; exact m2
    · rw [up_nk (by decide), up_na (by decide)]; exact m3
    · rw [up_nk (by decide), up_na (by decide)]; exact m4
    · rw [up_nk (by decide), up_na (by decide)]; exact m5
    · rw [up_nk (by decide), up_na (by decide)]; exact m6
    · rw [up_na (by decide)]
      show _ = up1 (vtk B.1) (ve B.1) _ k
      have q' : k < ve B.1 + 1 := q
      by_cases y : k = ve B.1
      · rw [y, up_eq, up1_eq]
      · rw [up_nk y, up1_ne y]; exact m7 k (by omega)
    · rw [up_na (by decide), up_na (by decide)]; exact m8 k q
    · rw [up_na (by decide), up_na (by decide)]; exact m9 k q
    · rw [up_na (by decide), up_na (by decide)]; exact m10 k q
/-- the clauses one behind the other -/
theorem v_186 {x1 : Int} {K : (Option Value ⊕ Nat) → mM → Prop} {R : RS × VB} (hB : TB n tp) (H : ∀ (J' : Nat → Nat → Int) (x2 : Int) (o3 : Option Value), VQ J J' R → VV X 4 186 (136, [some (.ref 542), some (iv x1), some (iv x2), o3], [], mj J' sw lg x) K) :
    ∀ f a (i : Nat) (B : VB) (J' : Nat → Nat → Int) (o3 : Option Value), i + f = 61 → 0 < f → a ≤ n → VBB B → vlR tp n f a B = R → TY J' n tp a → VN J' B → FNV J J' → VV X 4 186 (44, [some (.ref 542), some (iv x1), some (iv (i : Int)), o3], [], mj J' sw lg x) K := by
  have hn6 := hB.1
  intro f
  induction f with
  | zero => intro a i B J' o3 hi h0; omega
  | succ f ih =>
    intro a i B J' o3 hi h0 ha bB hE hT hV hF
    rw [vlR] at hE
    have hs : sk tp n a ≤ n := sc_ub ha
    refine b_186_44 (by omega) ?_
    rw [hT.2.2.2]
    refine ⟨by decide, fun z => absurd rfl z, fun _ => ?_⟩
    refine ex1 (e_167 hT.tz hB ha) (fun J1 h1 => ?_)
    have T1 := h1.ty hT
    have hV1 := hV.fy h1.fy
    rw [T1.1, T1.2.1]
    refine ⟨by omega, by omega, fun c => ?_, fun c => ?_⟩
    · rw [if_pos (by omega)] at hE
      refine H J1 _ _ ?_
      rw [← hE]
      exact ⟨⟨fun _ => ⟨T1.2.2.2, T1.2.1⟩, fun z => absurd rfl z⟩, fun _ => hV1, hF.tr h1.fy.fnv⟩
    · rw [if_neg (by omega)] at hE
      refine ex1 (e_170 T1.tz hB hs) (fun J2 h2 => ?_)
      rw [sk_sk] at h2 ⊢
      have T2 := h2.ty T1
      have hV2 := hV1.fy h2.fy
      have F2 := (hF.tr h1.fy.fnv).tr h2.fy.fnv
      refine ⟨_, _, e_182, by split <;> decide, fun c2 => ?_, fun c2 => ?_⟩
      · have kn : ¬ kdV tp (sk tp n a) (wd tp n (sk tp n a)) = -1 := fun z => c2 (if_pos z)
        -- too many, or full
        have tooM : (decide (f = 0) = true ∨ fulC B.1 (kdV tp (sk tp n a) (wd tp n (sk tp n a)))) → ∃ J7, EE X 0 166 [.ref 542, iv 3, iv (J2 542 4)] (mj J2 sw lg x) (.inl none) (mj J7 sw lg x) ∧ VV X 4 186 (105, [some (.ref 542), some (iv x1), some (iv (i : Int)), some (iv (wcR tp (sk tp n a) (wd tp n (sk tp n a))))], [], mj J7 sw lg x) K := by
          intro z
          have hr : clR tp n (decide (f = 0)) a B = (((3, sk tp n a), 0), B) := by unfold clR; rw [if_neg kn, if_pos z]
          rw [hr, if_neg (show ¬ (3 : Nat) = 0 by decide)] at hE
          refine ex0 (e_166 T2.2.2.2) (fun J7 h7 => ?_)
          refine b_186_105 (by omega) ?_
          rw [h7.1.1, T2.2.1]
          refine ⟨by omega, fun _ => H J7 _ _ ?_, fun y => by clear ih H; omega⟩
          rw [← hE]
          exact ⟨⟨fun y => absurd (show (3 : Nat) = 0 from y) (by decide), fun _ => ⟨by rw [h7.1.1, T2.2.1], h7.1.2⟩⟩, fun y => absurd (show (3 : Nat) = 0 from y) (by decide), F2.tr h7.2.1.fnv⟩
        refine ⟨by clear ih H tooM; omega, fun c3 => tooM (Or.inl (decide_eq_true (by clear ih H tooM; omega))), fun c3 => ?_⟩
        refine ⟨_, _, e_183 hV2 bB, by split <;> decide, fun c4 => ?_, fun c4 => tooM (Or.inr (Decidable.byContradiction fun z => c4 (if_neg z)))⟩
        clear tooM
        have nf : ¬ fulC B.1 (kdV tp (sk tp n a) (wd tp n (sk tp n a))) := fun z => by rw [if_pos z] at c4; exact absurd c4 (by decide)
        have f0 : ¬ decide (f = 0) = true := fun z => by have := of_decide_eq_true z; clear ih H; omega
        have hr : clR tp n (decide (f = 0)) a B = if kdV tp (sk tp n a) (wd tp n (sk tp n a)) = 3 then pthR tp n (wd tp n (sk tp n a)) B else oneR tp n (wd tp n (sk tp n a)) (kdV tp (sk tp n a) (wd tp n (sk tp n a))) B := by
          unfold clR
          rw [if_neg kn, if_neg]
          rintro (z | z)
          · exact f0 z
          · exact nf z
        have cb := cl_b (tm := decide (f = 0)) (tp := tp) ha bB
        have cf := cl_f (tm := decide (f = 0)) (tp := tp) (B := B) ha
        rw [hr] at hE cb cf
        have hw : wd tp n (sk tp n a) ≤ n := sc_ub hs
        refine b_186_105 (by omega) ?_
        rw [T2.2.2.2]
        refine ⟨by decide, fun z => absurd rfl z, fun _ => b_186_115 (by omega) ?_⟩
        refine ex0 (e_172 T2.tz hB hs) (fun J3 h3 => ?_)
        have T3 := h3.ty T2
        have hV3 := hV2.fy h3.fy
        refine ex0 (e_185 T3 hB hw hV3 bB kn nf) (fun J4 h4 => ?_)
        generalize (if kdV tp (sk tp n a) (wd tp n (sk tp n a)) = 3 then pthR tp n (wd tp n (sk tp n a)) B else oneR tp n (wd tp n (sk tp n a)) (kdV tp (sk tp n a) (wd tp n (sk tp n a))) B) = C at *
        have F4 := (F2.tr h3.fy.fnv).tr h4.2.2
        by_cases z1 : C.1.1.1 = 0
        · have cb := cb z1
          rw [if_pos z1] at hE
          have T4 : TY J4 n tp C.1.2 := ⟨by rw [h4.2.2.2 3 (by decide) (by decide)]; exact T3.1, (h4.1.1 z1).2, fun k hk => by rw [h4.2.2.1 544 (by decide) (by decide)]; exact T3.2.2.1 k hk, (h4.1.1 z1).1⟩
          refine ex0 (e_174 T4 hB cb.1 (by decide)) (fun J5 h5 => ?_)
          have F5 := F4.tr h5.2.fnv
          by_cases z2 : (sgR tp n C.1.2 59).1.1 = 0
          · rw [if_pos z2] at hE
            exact ih _ (i + 1) _ J5 _ (by clear ih H; omega) (by have : ¬ f = 0 := fun z => f0 (decide_eq_true z); clear ih H; omega) (sg_ok cb.1 z2).1 cb.2 hE (T4.fr h5.2 (h5.1.1 z2).2 (h5.1.1 z2).1) ((h4.2.1 z1).fy h5.2) F5
          · rw [if_neg z2] at hE
            have fb := sg_f (c := 59) cb.1 z2
            refine b_186_44 (by omega) ?_
            rw [(h5.1.2 z2).1]
            refine ⟨by clear ih H; omega, fun _ => H J5 _ _ ?_, fun y => by clear ih H; omega⟩
            rw [← hE]
            exact ⟨h5.1, fun y => absurd y z2, F5⟩
        · rw [if_neg z1] at hE
          have fb := cf z1
          have e5 := (h4.1.2 z1).1
          refine ⟨_, e_174f e5 ⟨by clear ih H; omega, by clear ih H; omega⟩, ?_⟩
          refine b_186_44 (by omega) ?_
          rw [e5]
          refine ⟨by clear ih H; omega, fun _ => H J4 _ _ ?_, fun y => by clear ih H; omega⟩
          rw [← hE]
          exact ⟨h4.1, h4.2.1, F4⟩
      · have kn : kdV tp (sk tp n a) (wd tp n (sk tp n a)) = -1 := Decidable.byContradiction fun z => by rw [if_neg z] at c2; exact absurd c2 (by decide)
        have hr : clR tp n (decide (f = 0)) a B = (((1, sk tp n a), 0), B) := by unfold clR; rw [if_pos kn]
        rw [hr, if_neg (show ¬ (1 : Nat) = 0 by decide)] at hE
        refine ex0 (e_166 T2.2.2.2) (fun J7 h7 => ?_)
        refine b_186_105 (by omega) ?_
        rw [h7.1.1, T2.2.1]
        refine ⟨by omega, fun _ => H J7 _ _ ?_, fun y => by clear ih H; omega⟩
        rw [← hE]
        exact ⟨⟨fun y => absurd (show (1 : Nat) = 0 from y) (by decide), fun _ => ⟨by rw [h7.1.1, T2.2.1], h7.1.2⟩⟩, fun y => absurd (show (1 : Nat) = 0 from y) (by decide), F2.tr h7.2.1.fnv⟩
theorem e_177 {r : Int} (h5 : InR (J 542 5)) : ∃ J', EE X 1 177 [.ref 542, iv r] (mj J sw lg x) (.inl (some (iv (if J 542 5 = -1 then r else J 542 6 - 10)))) (mj J' sw lg x) ∧ J' = m_up J 542 8 (J 542 5) := by
  refine EE.ex (O := fun _ => .inl (some (iv (if J 542 5 = -1 then r else J 542 6 - 10)))) (F := fun J' => mj J' sw lg x) mt_177 (b_177_0 (by omega) ⟨h5, fun c => ⟨_, by rw [if_neg c], rfl, rfl⟩, fun c => ⟨_, by rw [if_pos c], rfl, rfl⟩⟩)
end Vu
