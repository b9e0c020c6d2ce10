/-! days ahead, best hands, ways, guards, parts, fits, look -/
section Q4
variable {X : Nat × (Nat → Int32)} {J : Nat → Nat → Int} {sw : Bool × Bool × Bool} {lg : Nat → Nat → Int64} {x : Nat} {A : AT} {u w t : Int}
/-- the state asked, a copy of now -/
theorem copyK {P : (Nat → Nat → Int) → Prop} (hG : GK J sw A) (k : ∀ J1, SV J1 48 (aS A) → FSt 48 J J1 → P J1) : ∃ J1, EE X 0 44 [.ref 48, .ref 41] (mj J sw lg x) (.inl none) (mj J1 sw lg x) ∧ P J1 := ex0 (e_44 c_48 c_41 (by decide) hG.2.2.2.1) (fun J1 h => k J1 h.1 h.2)
theorem bits_0 {n g : Nat} {f : Nat → Int} (h9 : n ≤ 9) (hf : ∀ p, p < n → 0 ≤ f p) (hg : g = bitF (fun p => decide (0 < f p)) n) : bAnd (bShl 1 (n : Int) - 1) (bXor (g : Int) (-1)) = (bitF (fun p => decide (f p = 0)) n : Nat) := by
  have hp9 : 2 ^ n ≤ 512 := show _ ≤ 2 ^ 9 from Nat.pow_le_pow_right (by decide) h9
  have hp := Nat.two_pow_pos n
  rw [bits_n h9, q_andn (by omega)]
  refine congrArg (fun z : Nat => (z : Int)) (Nat.eq_of_testBit_eq (fun i => ?_))
  rw [Nat.testBit_xor, Nat.testBit_and, Nat.testBit_two_pow_sub_one, hg, bitF_tb, bitF_tb]
  by_cases q : i < n
  · have := hf i q
    by_cases z : f i = 0
    · simp [q, z]
    · simp [q, z, show 0 < f i by omega]
  · simp [q]
def ahA (A : AT) (n : Nat) (w : Int) : Int := if w = 0 then sumF (fun p => itA (aV A) (aS A) n (30 + p)) (vn (aV A)) else if w = 1 then sumF (fun p => itA (aV A) (aS A) n (39 + p)) (vn (aV A)) else (bitF (fun p => decide (itA (aV A) (aS A) n (30 + p) = 0)) (vn (aV A)) : Nat)
def aheadQ (A : AT) (u w : Int) : Nat × Int := if (u < 0 ∨ 99 < u) ∨ w < 0 ∨ 2 < w then (2, 0) else (0, ahA A u.toNat w)
theorem kq_ahead (hG : GK J sw A) (bA : ABd A) (hu : InR u) (hw : InR w) : AK X 3 125 [iv u, iv w] J sw lg x A (aheadQ A u w) := by
  have v3 := bA.1.2.2.1
  have bd := bA.2.2.2.2.1.2.1
  refine AK.of mt_125 (b_125_0 (by omega) ⟨hu, fun c => QK.r2 hG bA (if_pos (by omega)), fun c1 => ⟨fun c2 => ⟨hw, fun c => QK.r2 hG bA (if_pos (by omega)), fun c3 => ⟨fun c4 => ?_, fun c => QK.r2 hG bA (if_pos (by omega))⟩⟩, fun c => QK.r2 hG bA (if_pos (by omega))⟩⟩)
  obtain ⟨n, rfl⟩ : ∃ e : Nat, u = (e : Int) := ⟨u.toNat, by omega⟩
  have hy : aheadQ A (n : Int) w = (0, ahA A n w) := if_neg (by omega)
  refine copyK hG (fun J0 hS0 hF0 => ?_)
  refine lp (P := fun k => ∀ J', SV J' 48 (itA (aV A) (aS A) k) → FSt 48 J J' → VV X 3 125 (28, [some (.ref 0), some (iv (n : Int)), some (iv w), some (iv k)], [], mj J' sw lg x) (fun o M => QK J sw lg x A (aheadQ A (n : Int) w) o M)) n ?_ ?_ 0 (Nat.zero_le _) J0 hS0 hF0
  · intro J' hS hF
    have bi := (itA_b bA.1 (SOk.b bA) n).1
    have hV := VK_fr hG.1.1 (cvA sw) c_48 hF
    refine b_125_28 (by omega) ⟨by omega, by omega, fun _ => ⟨hw, fun n0 => ⟨fun n1 => ?_, fun c => ?_⟩, fun c => ?_⟩, fun c => by omega⟩
    · refine ⟨_, J', e_63 (f := fun p => itA (aV A) (aS A) n (30 + p)) c_48 (cvA sw) hV.2.2.1 v3 (fun p hp => hS.2.2.2.2.1 p (by omega)) (fun p hp => by have := bi.2.2.2.1 p (by omega); omega), ?_⟩
      rw [hV.2.2.1, bits_0 (f := fun p => itA (aV A) (aS A) n (30 + p)) v3 (fun p hp => (bi.2.2.2.1 p (by omega)).1) rfl]
      exact QK.ok hG bA (FC.fst hF) (by rw [hy]; unfold ahA; rw [if_neg n0, if_neg n1])
    · exact ⟨_, J', e_62 (f := fun p => itA (aV A) (aS A) n (39 + p)) c_48 (cvA sw) hV.2.2.1 v3 (fun p hp => hS.2.2.2.2.2.1 p (by omega)), QK.ok hG bA (FC.fst hF) (by rw [hy]; unfold ahA; rw [if_neg n0, if_pos c])⟩
    · exact ⟨_, J', e_61 (f := fun p => itA (aV A) (aS A) n (30 + p)) c_48 (cvA sw) hV.2.2.1 v3 (fun p hp => hS.2.2.2.2.1 p (by omega)), QK.ok hG bA (FC.fst hF) (by rw [hy]; unfold ahA; rw [if_pos c])⟩
  · intro k hk ih J' hS hF
    have bi := itA_b bA.1 (SOk.b bA) k
    have hV := VK_fr hG.1.1 (cvA sw) c_48 hF
    refine b_125_28 (by omega) ⟨by omega, by omega, fun c => by omega, fun _ => ex0 (e_57 c_48 (cvA sw) hV bA.1 hS bi.1 (by omega)) (fun J2 h2 => ih J2 h2.1 (hF.tr h2.2))⟩
theorem rq_ahead (hG : GM J A) (bA : ABd A) (hu : InR u) (hw : InR w) : AM X 3 236 [iv u, iv w] J sw lg x A (aheadQ A u w) cdS := by
  have v3 := bA.1.2.2.1
  have bd := bA.2.2.2.2.1.2.1
  refine AM.of mt_236 (b_236_0 (by omega) ⟨hu, fun c => QM.r2 hG (if_pos (by omega)) rfl, fun c1 => ⟨fun c => QM.r2 hG (if_pos (by omega)) rfl, fun c2 => ⟨hw, fun c => QM.r2 hG (if_pos (by omega)) rfl, fun c3 => ⟨fun c => QM.r2 hG (if_pos (by omega)) rfl, fun c4 => ?_⟩⟩⟩⟩)
  obtain ⟨n, rfl⟩ : ∃ e : Nat, u = (e : Int) := ⟨u.toNat, by omega⟩
  have hy : aheadQ A (n : Int) w = (0, ahA A n w) := if_neg (by omega)
  refine takeM hG (fun J0 hS0 hf0 h00 hG0 => ?_)
  refine lp (P := fun k => ∀ J', MV J' 562 (itA (aV A) (aS A) k) → FM J0 J' → VV X 3 236 (46, [some (.ref 542), some (iv (n : Int)), some (iv w), some (iv k)], [], mj J' sw lg x) (fun o M => QM J sw lg x A (aheadQ A (n : Int) w) cdS o M)) n ?_ ?_ 0 (Nat.zero_le _) J0 hS0 (fun _ _ => rfl)
  · intro J' hS hF
    have bi := (itA_b bA.1 (SOk.b bA) n).1
    have hV := hF.vm hG0.1.1
    have hf : FQ J J' := hf0.tr (FQ.fm hF)
    have h0 : J' 542 0 = 0 := by rw [hF 542 (by decide)]; exact h00
    refine b_236_46 (by omega) ⟨by omega, by omega, fun _ => ⟨hw, fun n2 => ⟨fun n0 => ?_, fun c => ?_⟩, fun c => ?_⟩, fun c => by omega⟩
    · exact ⟨_, J', e_220 (o := 39) (f := fun p => itA (aV A) (aS A) n (39 + p)) hV.2.2.1 v3 (by decide) (fun p hp => hS (39 + p) (by omega)), QM.ok hG hf h0 rfl (by rw [hy]; unfold ahA; rw [if_neg n0, if_pos (by omega)])⟩
    · exact ⟨_, J', e_220 (o := 30) (f := fun p => itA (aV A) (aS A) n (30 + p)) hV.2.2.1 v3 (by decide) (fun p hp => hS (30 + p) (by omega)), QM.ok hG hf h0 rfl (by rw [hy]; unfold ahA; rw [if_pos c])⟩
    · exact ⟨_, J', e_235 (f := fun p => itA (aV A) (aS A) n (30 + p)) hV.2.2.1 v3 (fun p hp => hS (30 + p) (by omega)) (fun p hp => by have := bi.2.2.2.1 p (by omega); omega), QM.ok hG hf h0 rfl (by rw [hy]; unfold ahA; rw [if_neg (by omega), if_neg (by omega)])⟩
  · intro k hk ih J' hS hF
    have bi := itA_b bA.1 (SOk.b bA) k
    have hV := hF.vm hG0.1.1
    refine b_236_46 (by omega) ⟨by omega, by omega, fun c => by omega, fun _ => ex0 (e_216 hV bA.1 hS bi.1 (by omega)) (fun J2 h2 => ih J2 h2.1 (hF.tr h2.2))⟩
def whA (A : AT) (p : Nat) : Int := ffF (fun k => decide (itA (aV A) (aS A) k (30 + p) = 0)) 201
def wholeQ (A : AT) (u : Int) : Nat × Int := if u < 0 ∨ (vn (aV A) : Int) ≤ u then (1, 0) else (0, whA A u.toNat)
theorem wh_hit {A : AT} {p k : Nat} (h0 : ffF (fun k => decide (itA (aV A) (aS A) k (30 + p) = 0)) k = -1) (h1 : itA (aV A) (aS A) k (30 + p) = 0) (hk : k ≤ 200) : whA A p = (k : Int) := by
  have := ffF_hit h0 (decide_eq_true h1) (200 - k)
  rw [show k + 1 + (200 - k) = 201 by omega] at this
  exact this
theorem kq_whole (hG : GK J sw A) (bA : ABd A) (hu : InR u) : AK X 3 126 [iv u] J sw lg x A (wholeQ A u) := by
  have v3 := bA.1.2.2.1
  have bd := bA.2.2.2.2.1.2.1
  refine AK.of mt_126 (b_126_0 (by omega) ?_)
  rw [hG.1.1.2.2.1]
  refine ⟨hu, fun c => QK.r1 hG bA (if_pos (by omega)), fun c1 => ⟨by omega, fun c2 => ?_, fun c => QK.r1 hG bA (if_pos (by omega))⟩⟩
  obtain ⟨p, rfl⟩ : ∃ e : Nat, u = (e : Int) := ⟨u.toNat, by omega⟩
  have hy : wholeQ A (p : Int) = (0, whA A p) := if_neg (by omega)
  refine copyK hG (fun J0 hS0 hF0 => ?_)
  refine lp (P := fun k => ∀ J', ffF (fun k => decide (itA (aV A) (aS A) k (30 + p) = 0)) k = -1 → SV J' 48 (itA (aV A) (aS A) k) → FSt 48 J J' → VV X 3 126 (18, [some (.ref 0), some (iv (p : Int)), some (iv k)], [], mj J' sw lg x) (fun o M => QK J sw lg x A (wholeQ A (p : Int)) o M)) 201 ?_ ?_ 0 (Nat.zero_le _) J0 rfl hS0 hF0
  · intro J' hn hS hF
    exact b_126_18 (by omega) ⟨by decide, fun _ => QK.ok hG bA (FC.fst hF) (by rw [hy]; unfold whA; rw [hn]), fun c => absurd c (by decide)⟩
  · intro k hk ih J' hn hS hF
    have bi := itA_b bA.1 (SOk.b bA) k
    have hV := VK_fr hG.1.1 (cvA sw) c_48 hF
    have f0 : J' 53 (p : Int).toNat = itA (aV A) (aS A) k (30 + p) := hS.2.2.2.2.1 p (by omega)
    have b3 := bi.1.2.2.2.1 p (by omega)
    refine b_126_18 (by omega) ⟨by omega, fun c => by omega, fun _ => ⟨by omega, ?_⟩⟩
    rw [f0]
    refine ⟨by omega, fun c => ex0 (e_57 c_48 (cvA sw) hV bA.1 hS bi.1 (by omega)) (fun J2 h2 => ih J2 ?_ h2.1 (hF.tr h2.2)), fun c => QK.ok hG bA (FC.fst hF) (by rw [hy, wh_hit hn c (by omega)])⟩
    rw [ffF, if_neg (by intro z; exact c (by simpa using z.2))]; exact hn
theorem rq_whole (hG : GM J A) (bA : ABd A) (hu : InR u) : AM X 3 237 [iv u] J sw lg x A (wholeQ A u) cdS := by
  have v3 := bA.1.2.2.1
  have bd := bA.2.2.2.2.1.2.1
  refine AM.of mt_237 (b_237_0 (by omega) ?_)
  rw [hG.1.1.2.2.1]
  refine ⟨hu, fun c => QM.r1 hG (if_pos (by omega)) rfl, fun c1 => ⟨by omega, fun c => QM.r1 hG (if_pos (by omega)) rfl, fun c2 => ?_⟩⟩
  obtain ⟨p, rfl⟩ : ∃ e : Nat, u = (e : Int) := ⟨u.toNat, by omega⟩
  have hy : wholeQ A (p : Int) = (0, whA A p) := if_neg (by omega)
  refine takeM hG (fun J0 hS0 hf0 h00 hG0 => ?_)
  refine lp (P := fun k => ∀ J', ffF (fun k => decide (itA (aV A) (aS A) k (30 + p) = 0)) k = -1 → MV J' 562 (itA (aV A) (aS A) k) → FM J0 J' → VV X 3 237 (22, [some (.ref 542), some (iv (p : Int)), some (iv k)], [], mj J' sw lg x) (fun o M => QM J sw lg x A (wholeQ A (p : Int)) cdS o M)) 201 ?_ ?_ 0 (Nat.zero_le _) J0 rfl hS0 (fun _ _ => rfl)
  · intro J' hn hS hF
    have hf : FQ J J' := hf0.tr (FQ.fm hF)
    have h0 : J' 542 0 = 0 := by rw [hF 542 (by decide)]; exact h00
    exact b_237_22 (by omega) ⟨by decide, fun _ => QM.ok hG hf h0 rfl (by rw [hy]; unfold whA; rw [hn]), fun c => absurd c (by decide)⟩
  · intro k hk ih J' hn hS hF
    have bi := itA_b bA.1 (SOk.b bA) k
    have hV := hF.vm hG0.1.1
    have hf : FQ J J' := hf0.tr (FQ.fm hF)
    have h0 : J' 542 0 = 0 := by rw [hF 542 (by decide)]; exact h00
    have f0 : J' 562 (30 + (p : Int)).toNat = itA (aV A) (aS A) k (30 + p) := hS (30 + p) (by omega)
    have b3 := bi.1.2.2.2.1 p (by omega)
    refine b_237_22 (by omega) ⟨by omega, fun c => by omega, fun _ => ⟨by omega, ?_⟩⟩
    rw [f0]
    refine ⟨by omega, fun c => ex0 (e_216 hV bA.1 hS bi.1 (by omega)) (fun J2 h2 => ih J2 ?_ h2.1 (hF.tr h2.2)), fun c => QM.ok hG hf h0 rfl (by rw [hy, wh_hit hn c (by omega)])⟩
    rw [ffF, if_neg (by intro z; exact c (by simpa using z.2))]; exact hn
def goesQ (A : AT) (u : Int) : Nat × Int := if u < 0 ∨ (ve (aV A) : Int) ≤ u then (1, 0) else (0, passA (aV A) (aS A) (12 + u.toNat))
theorem kq_goes (hG : GK J sw A) (bA : ABd A) (hu : InR u) : AK X 3 138 [iv u] J sw lg x A (goesQ A u) := by
  have v1 := bA.1.1
  refine AK.of mt_138 (b_138_0 (by omega) ?_)
  rw [hG.1.1.1]
  refine ⟨hu, fun c => QK.r1 hG bA (if_pos (by omega)), fun c1 => ⟨by omega, fun c2 => ?_, fun c => QK.r1 hG bA (if_pos (by omega))⟩⟩
  obtain ⟨e, rfl⟩ : ∃ e : Nat, u = (e : Int) := ⟨u.toNat, by omega⟩
  refine copyK hG (fun J0 hS0 hF0 => ?_)
  refine ex0 (e_57 c_48 (cvA sw) (VK_fr hG.1.1 (cvA sw) c_48 hF0) bA.1 hS0 (SOk.b bA) (SOk.d bA)) (fun J2 h2 => ⟨by omega, QK.ok' hG bA (FC.fst (hF0.tr h2.2)) (if_neg (by omega)) (h2.1.2.2.1 e (by omega))⟩)
theorem rq_goes (hG : GM J A) (bA : ABd A) (hu : InR u) : AM X 3 238 [iv u] J sw lg x A (goesQ A u) cdS := by
  have v1 := bA.1.1
  refine AM.of mt_238 (b_238_0 (by omega) ?_)
  rw [hG.1.1.1]
  refine ⟨hu, fun c => QM.r1 hG (if_pos (by omega)) rfl, fun c1 => ⟨by omega, fun c => QM.r1 hG (if_pos (by omega)) rfl, fun c2 => ?_⟩⟩
  obtain ⟨e, rfl⟩ : ∃ e : Nat, u = (e : Int) := ⟨u.toNat, by omega⟩
  have hy : goesQ A (e : Int) = (0, passA (aV A) (aS A) (12 + e)) := if_neg (by omega)
  refine takeM hG (fun J0 hS0 hf0 h00 hG0 => ?_)
  refine ex0 (e_216 hG0.1.1 bA.1 hS0 (SOk.b bA) (SOk.d bA)) (fun J2 h2 => ⟨by omega, QM.ok' (cd := cdS) hG (hf0.tr (FQ.fm h2.2)) (by rw [h2.2 542 (by decide)]; exact h00) rfl hy (h2.1 (12 + e) (by omega))⟩)
theorem FC.fg {J' : Nat → Nat → Int} (h : FG (lA sw) J J') : FC J J' := FC.of (fun c q => by
  have := lA_or sw
  unfold scK at q
  exact h c (by omega) (by omega) (by omega) (by omega))
theorem FQ.fh {J' : Nat → Nat → Int} (h : FH J J') : FQ J J' := FQ.of (fun c q => by
  unfold scM at q
  exact h c (by omega) (by omega) (by omega) (by omega) (by omega) (by omega))
def bestQ (A : AT) (u : Int) : Nat × Int := if u < 0 ∨ (ve (aV A) : Int) ≤ u then (1, 0) else (0, mostA (aV A) (aT A) (aS A) u.toNat 0 0)
theorem kq_best (hG : GK J sw A) (bA : ABd A) (hu : InR u) : AK X 4 127 [iv u] J sw lg x A (bestQ A u) := by
  have v1 := bA.1.1
  have hc0 : cntF (0 : Nat).testBit 9 = 0 := by decide
  refine AK.of mt_127 (b_127_0 (by omega) ?_)
  rw [hG.1.1.1]
  refine ⟨hu, fun c => QK.r1 hG bA (if_pos (by omega)), fun c1 => ⟨by omega, fun c2 => ?_, fun c => QK.r1 hG bA (if_pos (by omega))⟩⟩
  obtain ⟨e, rfl⟩ : ∃ e : Nat, u = (e : Int) := ⟨u.toNat, by omega⟩
  refine ex0 (e_10 c_41 (cvA sw) (clA sw) hG.1.1 bA.1 hG.2.1 bA.2.2.1 hG.2.2.2.1 (SOk.b bA) (SOk.d bA) (show e < _ by omega)) (fun J2 h2 => QK.ok' hG bA (FC.fg h2.2) (if_neg (by omega)) ?_)
  have := h2.1.2 0 0 (Nat.le_refl _) (Nat.zero_le _) (Nat.two_pow_pos _) (Or.inl (by omega))
  exact this
theorem rq_best (hG : GM J A) (bA : ABd A) (hu : InR u) : AM X 6 242 [iv u] J sw lg x A (bestQ A u) cdS := by
  have v1 := bA.1.1
  refine AM.of mt_242 (b_242_0 (by omega) ?_)
  rw [hG.1.1.1]
  refine ⟨hu, fun c => QM.r1 hG (if_pos (by omega)) rfl, fun c1 => ⟨by omega, fun c => QM.r1 hG (if_pos (by omega)) rfl, fun c2 => ?_⟩⟩
  obtain ⟨e, rfl⟩ : ∃ e : Nat, u = (e : Int) := ⟨u.toNat, by omega⟩
  have hy : bestQ A (e : Int) = (0, mostA (aV A) (aT A) (aS A) e 0 0) := if_neg (by omega)
  have hG1 := hG.fq (FQ.up0 (w := 0))
  exact ex0 (e_239 hG1.1.1 bA.1 hG1.2.1 bA.2.2.1 hG1.2.2.2.1 (SOk.b bA) (SOk.d bA) (show e < _ by omega)) (fun J2 h2 => QM.ok' (cd := cdS) hG (FQ.up0.tr (FQ.fh h2.2.2)) (by rw [h2.2.2 542 (by decide) (by decide) (by decide) (by decide) (by decide) (by decide)]; exact up_eq _ _ _ _) rfl hy h2.1)
def givenQ (A : AT) (u w : Int) : Nat × Int := if (u < 0 ∨ (ve (aV A) : Int) ≤ u) ∨ w < 0 ∨ (vh (aV A) : Int) ≤ w then (1, 0) else (0, gvA (aV A) (aT A) (aS A) u.toNat w.toNat (gvS (aV A) (aT A) (aS A) u.toNat w.toNat))
theorem kq_given (hG : GK J sw A) (bA : ABd A) (hu : InR u) (hw : InR w) : AK X 4 128 [iv u, iv w] J sw lg x A (givenQ A u w) := by
  have v1 := bA.1.1
  have v2 := bA.1.2.1
  have q1 := vA_or sw
  have q2 := lA_or sw
  refine AK.of mt_128 (b_128_0 (by omega) ?_)
  rw [hG.1.1.1, hG.1.1.2.1]
  refine ⟨hu, fun c => QK.r1 hG bA (if_pos (by omega)), fun c1 => ⟨by omega, fun c2 => ⟨hw, fun c => QK.r1 hG bA (if_pos (by omega)), fun c3 => ⟨by omega, fun c4 => ?_, fun c => QK.r1 hG bA (if_pos (by omega))⟩⟩, fun c => QK.r1 hG bA (if_pos (by omega))⟩⟩
  obtain ⟨e, rfl⟩ : ∃ e : Nat, u = (e : Int) := ⟨u.toNat, by omega⟩
  obtain ⟨h, rfl⟩ : ∃ e : Nat, w = (e : Int) := ⟨w.toNat, by omega⟩
  refine ex0 (e_10 c_41 (cvA sw) (clA sw) hG.1.1 bA.1 hG.2.1 bA.2.2.1 hG.2.2.2.1 (SOk.b bA) (SOk.d bA) (show e < _ by omega)) (fun J2 h2 => ⟨_, J2, e_14 c_41 (cvA sw) (VK_cg hG.1.1 (fun c a b => h2.2 c (by omega) (by omega) (by omega) (by omega))) bA.1 (SV_fr hG.2.2.2.1 (fun c a b => h2.2 c (by omega) (by omega) (by omega) (by omega))) (SOk.b bA) h2.1 (show h < _ by omega), QK.ok hG bA (FC.fg h2.2) (if_neg (by omega))⟩)
theorem rq_given (hG : GM J A) (bA : ABd A) (hu : InR u) (hw : InR w) : AM X 6 243 [iv u, iv w] J sw lg x A (givenQ A u w) cdS := by
  have v1 := bA.1.1
  have v2 := bA.1.2.1
  refine AM.of mt_243 (b_243_0 (by omega) ?_)
  rw [hG.1.1.1, hG.1.1.2.1]
  refine ⟨hu, fun c => QM.r1 hG (if_pos (by omega)) rfl, fun c1 => ⟨by omega, fun c => QM.r1 hG (if_pos (by omega)) rfl, fun c2 => ⟨hw, fun c => QM.r1 hG (if_pos (by omega)) rfl, fun c3 => ⟨by omega, fun c => QM.r1 hG (if_pos (by omega)) rfl, fun c4 => ?_⟩⟩⟩⟩
  obtain ⟨e, rfl⟩ : ∃ e : Nat, u = (e : Int) := ⟨u.toNat, by omega⟩
  obtain ⟨h, rfl⟩ : ∃ e : Nat, w = (e : Int) := ⟨w.toNat, by omega⟩
  have hy : givenQ A (e : Int) (h : Int) = (0, gvA (aV A) (aT A) (aS A) e h (gvS (aV A) (aT A) (aS A) e h)) := if_neg (by omega)
  have hG1 := hG.fq (FQ.up0 (w := 0))
  exact ex0 (e_239 hG1.1.1 bA.1 hG1.2.1 bA.2.2.1 hG1.2.2.2.1 (SOk.b bA) (SOk.d bA) (show e < _ by omega)) (fun J2 h2 => ⟨by omega, QM.ok' (cd := cdS) hG (FQ.up0.tr (FQ.fh h2.2.2)) (by rw [h2.2.2 542 (by decide) (by decide) (by decide) (by decide) (by decide) (by decide)]; exact up_eq _ _ _ _) rfl hy (h2.2.1 h (by omega))⟩)
/-- the worn ones -/
def wnA (A : AT) : Nat := bitF (fun p => decide (0 < aS A (30 + p))) (vn (aV A))
theorem wnA_lt (A : AT) : wnA A < 2 ^ vn (aV A) := bitF_lt _ _
theorem wnE (hG : GK J sw A) (bA : ABd A) : EE X 0 63 [.ref 41, .ref (vA sw)] (mj J sw lg x) (.inl (some (iv (wnA A : Int)))) (mj J sw lg x) := by
  have v3 := bA.1.2.2.1
  exact e_63 (f := fun p => aS A (30 + p)) c_41 (cvA sw) hG.1.1.2.2.1 v3 (fun p hp => hG.2.2.2.1.2.2.2.2.1 p (by omega)) (fun p hp => by have := (SOk.b bA).2.2.2.1 p (by omega); omega)
theorem FC.wk {J' : Nat → Nat → Int} (h : ∀ c, c ≠ 539 → c ≠ 540 → c ≠ 541 → J' c = J c) : FC J J' := FC.of (fun c q => by unfold scK at q; exact h c (by omega) (by omega) (by omega))
noncomputable def roundQ (A : AT) (u : Int) : Nat × Int := if u < 0 ∨ (vn (aV A) : Int) ≤ u then (1, 0) else (0, dsF (aV A) (wnA A) u.toNat)
theorem kq_round (hG : GK J sw A) (bA : ABd A) (hu : InR u) : AK X 2 129 [iv u] J sw lg x A (roundQ A u) := by
  have v3 := bA.1.2.2.1
  have hp9 : 2 ^ vn (aV A) ≤ 512 := show _ ≤ 2 ^ 9 from Nat.pow_le_pow_right (by decide) v3
  have hwl := wnA_lt A
  refine AK.of mt_129 (b_129_0 (by omega) ?_)
  rw [hG.1.1.2.2.1]
  refine ⟨hu, fun c => QK.r1 hG bA (if_pos (by omega)), fun c1 => ⟨by omega, fun c2 => ⟨_, J, wnE hG bA, ?_⟩, fun c => QK.r1 hG bA (if_pos (by omega))⟩⟩
  obtain ⟨h, rfl⟩ : ∃ e : Nat, u = (e : Int) := ⟨u.toNat, by omega⟩
  obtain ⟨z, hE, hD, hF⟩ := e_103 (X := X) (sw := sw) (lg := lg) (x := x) (h := h) (tg := wnA A) (cvA sw) hG.1.1 bA.1 (by omega) (by omega)
  exact ⟨z.2, z.1, hE, QK.ok' hG bA (FC.wk hF) (if_neg (by omega)) (dsF_eq hD)⟩
theorem rq_round (hG : GM J A) (bA : ABd A) (hu : InR u) : AM X 2 245 [iv u] J sw lg x A (roundQ A u) cdS := by
  have v3 := bA.1.2.2.1
  have hp9 : 2 ^ vn (aV A) ≤ 512 := show _ ≤ 2 ^ 9 from Nat.pow_le_pow_right (by decide) v3
  have hwl := wnA_lt A
  by_cases q : u < 0 ∨ (vn (aV A) : Int) ≤ u
  · refine AM.of mt_245 (b_245_0 (by omega) ?_)
    rw [hG.1.1.2.2.1]
    exact ⟨hu, fun c => QM.r1 hG (if_pos q) rfl, fun c1 => ⟨by omega, fun c => QM.r1 hG (if_pos q) rfl, fun c2 => by omega⟩⟩
  · obtain ⟨h, rfl⟩ : ∃ e : Nat, u = (e : Int) := ⟨u.toNat, by omega⟩
    obtain ⟨z, hE, hD, hF⟩ := e_245 (X := X) (sw := sw) (lg := lg) (x := x) (h := h) (w := wnA A) hG.1.1 bA.1 hG.2.2.2.1 (SOk.b bA) (by omega) rfl
    have he := round_eq v3 (by omega) (show h < vn (aV A) by omega) (dsF_d (aV A) (wnA A) h) hD
    exact AM.mk hE hG (FQ.up0.tr (FQ.of (fun c q => by unfold scM at q; exact hF c (by omega) (by omega)))) (by rw [hF 542 (by decide) (by decide)]; exact up_eq _ _ _ _) rfl (by unfold roundQ; rw [if_neg q, ← he]; rfl)
def guardsQ (A : AT) : Nat × Int := (0, gsF (aV A) (wnA A) (2 ^ vn (aV A)))
theorem kq_guards (hG : GK J sw A) (bA : ABd A) : AK X 2 130 [] J sw lg x A (guardsQ A) :=
  AK.of mt_130 (b_130_0 (by omega) ⟨_, J, wnE hG bA, _, J, e_105 (cvA sw) hG.1.1 bA.1 (wnA_lt A), QK.ok hG bA FC.rf rfl⟩)
theorem rq_guards (hG : GM J A) (bA : ABd A) : AM X 2 248 [] J sw lg x A (guardsQ A) cdS := AM.mk (e_248 hG.1.1 bA.1 hG.2.2.2.1 (SOk.b bA) rfl) hG FQ.up0 (up_eq _ _ _ _) rfl rfl
noncomputable def wayQ (A : AT) (u w : Int) : Nat × Int := if (u < 0 ∨ (vn (aV A) : Int) ≤ u) ∨ w < 0 ∨ (vn (aV A) : Int) ≤ w then (1, 0) else (0, dsF (aV A) (2 ^ w.toNat) u.toNat)
theorem kq_way (hG : GK J sw A) (bA : ABd A) (hu : InR u) (hw : InR w) : AK X 2 131 [iv u, iv w] J sw lg x A (wayQ A u w) := by
  have v3 := bA.1.2.2.1
  refine AK.of mt_131 (b_131_0 (by omega) ?_)
  rw [hG.1.1.2.2.1]
  refine ⟨hu, fun c => QK.r1 hG bA (if_pos (by omega)), fun c1 => ⟨by omega, fun c2 => ⟨hw, fun c => QK.r1 hG bA (if_pos (by omega)), fun c3 => ⟨fun c4 => ?_, fun c => QK.r1 hG bA (if_pos (by omega))⟩⟩, fun c => QK.r1 hG bA (if_pos (by omega))⟩⟩
  obtain ⟨h, rfl⟩ : ∃ e : Nat, u = (e : Int) := ⟨u.toNat, by omega⟩
  obtain ⟨o, rfl⟩ : ∃ e : Nat, w = (e : Int) := ⟨w.toNat, by omega⟩
  rw [q_shl o (by omega)]
  obtain ⟨z, hE, hD, hF⟩ := e_103 (X := X) (sw := sw) (lg := lg) (x := x) (h := h) (tg := 2 ^ o) (cvA sw) hG.1.1 bA.1 (by omega) (pow_512 (by omega))
  exact ⟨z.2, z.1, hE, QK.ok' hG bA (FC.wk hF) (if_neg (by omega)) (dsF_eq hD)⟩
theorem rq_way (hG : GM J A) (bA : ABd A) (hu : InR u) (hw : InR w) : AM X 2 249 [iv u, iv w] J sw lg x A (wayQ A u w) cdS := by
  have v3 := bA.1.2.2.1
  by_cases q : (u < 0 ∨ (vn (aV A) : Int) ≤ u) ∨ w < 0 ∨ (vn (aV A) : Int) ≤ w
  · refine AM.of mt_249 (b_249_0 (by omega) ?_)
    rw [hG.1.1.2.2.1]
    exact ⟨hu, fun c => QM.r1 hG (if_pos q) rfl, fun c1 => ⟨by omega, fun c => QM.r1 hG (if_pos q) rfl, fun c2 => ⟨hw, fun c => QM.r1 hG (if_pos q) rfl, fun c3 => ⟨fun c => QM.r1 hG (if_pos q) rfl, fun c4 => by omega⟩⟩⟩⟩
  · obtain ⟨h, rfl⟩ : ∃ e : Nat, u = (e : Int) := ⟨u.toNat, by omega⟩
    obtain ⟨o, rfl⟩ : ∃ e : Nat, w = (e : Int) := ⟨w.toNat, by omega⟩
    obtain ⟨r, hE, hD⟩ := e_249 (X := X) (sw := sw) (lg := lg) (x := x) (h := h) (o := o) hG.1.1 bA.1 (by omega) (by omega)
    exact AM.mk hE hG FQ.up0 (up_eq _ _ _ _) rfl (by unfold wayQ; rw [if_neg q, dsF_eq hD]; rfl)
def partsQ (A : AT) : Nat × Int := (0, ((ptF (aV A) (vn (aV A))).2 : Nat))
theorem kq_parts (hG : GK J sw A) (bA : ABd A) : AK X 3 139 [] J sw lg x A (partsQ A) := AK.of mt_139 (b_139_0 (by omega) ⟨_, J, e_107 (cvA sw) hG.1.1 bA.1, QK.ok hG bA FC.rf rfl⟩)
theorem rq_parts (hG : GM J A) (bA : ABd A) : AM X 2 250 [] J sw lg x A (partsQ A) cdS := AM.mk (e_250 hG.1.1 bA.1) hG FQ.up0 (up_eq _ _ _ _) rfl rfl
end Q4
