/-! the reference reads; words as numbers -/
theorem bt_shl (n : Nat) (hn : n < 32) (x : Int32) {i : Nat} (hi : i < 32) : bt (x <<< (nI n &&& 31)) i = (decide (n ≤ i) && bt x (i - n)) := by
  unfold bt
  rw [Int32.toBitVec_shiftLeft]
  show (x.toBitVec <<< ((nI n &&& 31).toBitVec.smod 32).toNat).getLsbD i = _
  rw [bt_sl n hn, BitVec.getLsbD_shiftLeft]
  by_cases q : i < n
  · simp [hi, q, show ¬ n ≤ i by omega]
  · simp [hi, q, show n ≤ i by omega]
theorem q_shl5 {v d : Nat} (hv : v < 33554432) (hd : d < 32) : bOr (bShl (v : Int) 5) (d : Int) = ((32 * v + d : Nat) : Int) := by
  have h1 : nI v <<< (nI 5 &&& 31) = nI (v <<< 5) := by
    apply bt_ext
    intro i hi
    rw [bt_shl 5 (by decide) _ hi, bt_nI, bt_nI, Nat.testBit_shiftLeft]
    by_cases q : 5 ≤ i
    · simp [q, hi, show i - 5 < 32 by omega]
    · simp [q]
  have h2 : bShl (v : Int) 5 = ((v <<< 5 : Nat) : Int) := by
    unfold bShl
    rw [show (5 : Int) = ((5 : Nat) : Int) from rfl, iI, iI, h1, nI_toI]
    rw [Nat.shiftLeft_eq]; omega
  have h3 : v <<< 5 < 2147483648 := by rw [Nat.shiftLeft_eq]; omega
  rw [h2, q_or h3 (by omega), ← Nat.shiftLeft_add_eq_or_of_lt (show d < 2 ^ 5 from hd), Nat.shiftLeft_eq, show v * 2 ^ 5 + d = 32 * v + d by omega]
def cdN (f : Nat → Nat) : Nat → Nat
  | 0 => 0
  | k + 1 => 32 * cdN f k + f k
theorem cdN_lt {f : Nat → Nat} : ∀ k, (∀ i, i < k → f i < 32) → cdN f k < 32 ^ k
  | 0, _ => by show 0 < 1; decide
  | k + 1, h => by
    have h1 := cdN_lt k (fun i hi => h i (by omega))
    have h2 := h k (by omega)
    unfold cdN
    rw [Nat.pow_succ]
    omega
theorem cdN_inj {f g : Nat → Nat} : ∀ k m, (∀ i, i < k → 1 ≤ f i ∧ f i < 32) → (∀ i, i < m → 1 ≤ g i ∧ g i < 32) → cdN f k = cdN g m → k = m ∧ ∀ i, i < k → f i = g i
  | 0, 0, _, _, _ => ⟨rfl, fun i hi => absurd hi (Nat.not_lt_zero _)⟩
  | 0, m + 1, _, hg, h => by
    have := hg m (by omega)
    unfold cdN at h
    omega
  | k + 1, 0, hf, _, h => by
    have := hf k (by omega)
    unfold cdN at h
    omega
  | k + 1, m + 1, hf, hg, h => by
    have h1 := hf k (by omega)
    have h2 := hg m (by omega)
    unfold cdN at h
    have ih := cdN_inj k m (fun i hi => hf i (by omega)) (fun i hi => hg i (by omega)) (by omega)
    obtain ⟨rfl, ih2⟩ := ih
    refine ⟨rfl, fun i hi => ?_⟩
    by_cases q : i = k
    · subst q; omega
    · exact ih2 i (by omega)
/-- a word of the text as the reference reckons it -/
def wcF (tp : Nat → Int) (b : Nat) : Nat → Int
  | 0 => 0
  | k + 1 => if k < 6 then bOr (bShl (wcF tp b k) 5) (tp (b + k) - 96) else 0
def wcR (tp : Nat → Int) (b e : Nat) : Int := if e - b ≤ 6 then wcF tp b (e - b) else 0
def ofF (t : List Int32) : Nat → Int
  | 0 => 0
  | k + 1 => bOr (bShl (ofF t k) 5) ((t.getD k 0).toInt - 96)
def lts (t : List Int32) : Bool := decide (1 ≤ t.length ∧ t.length ≤ 6) && t.all fun c => decide (97 ≤ c.toInt ∧ c.toInt ≤ 122)
theorem pow32 {k : Nat} (h : k ≤ 5) : 32 ^ k ≤ 33554432 := show 32 ^ k ≤ 32 ^ 5 from Nat.pow_le_pow_right (by decide) h
theorem wcF_cd {tp : Nat → Int} {b : Nat} : ∀ k, k ≤ 6 → (∀ i, i < k → isL (tp (b + i)) = true) → wcF tp b k = (cdN (fun i => (tp (b + i) - 96).toNat) k : Nat)
  | 0, _, _ => rfl
  | k + 1, hk, h => by
    have ih := wcF_cd k (by omega) (fun i hi => h i (by omega))
    have hd : ∀ i, i < k + 1 → 97 ≤ tp (b + i) ∧ tp (b + i) ≤ 122 := fun i hi => by have := h i hi; unfold isL at this; rw [decide_eq_true_eq] at this; exact this
    have h1 := cdN_lt (f := fun i => (tp (b + i) - 96).toNat) k (fun i hi => by have := hd i (by omega); omega)
    have h2 := hd k (by omega)
    have h3 := pow32 (k := k) (by omega)
    rw [wcF, if_pos (by omega), ih, show tp (b + k) - 96 = (((tp (b + k) - 96).toNat : Nat) : Int) by omega, q_shl5 (by omega) (by omega)]
    rfl
theorem ofF_cd {t : List Int32} (ht : ∀ i, i < t.length → 97 ≤ (t.getD i 0).toInt ∧ (t.getD i 0).toInt ≤ 122) : ∀ k, k ≤ 6 → k ≤ t.length → ofF t k = (cdN (fun i => ((t.getD i 0).toInt - 96).toNat) k : Nat)
  | 0, _, _ => rfl
  | k + 1, hk, hl => by
    have ih := ofF_cd ht k (by omega) (by omega)
    have h1 := cdN_lt (f := fun i => ((t.getD i 0).toInt - 96).toNat) k (fun i hi => by have := ht i (by omega); omega)
    have h2 := ht k (by omega)
    have h3 := pow32 (k := k) (by omega)
    rw [ofF, ih, show (t.getD k 0).toInt - 96 = ((((t.getD k 0).toInt - 96).toNat : Nat) : Int) by omega, q_shl5 (by omega) (by omega)]
    rfl
theorem lts_g {t : List Int32} (h : lts t = true) : (1 ≤ t.length ∧ t.length ≤ 6) ∧ ∀ i, i < t.length → 97 ≤ (t.getD i 0).toInt ∧ (t.getD i 0).toInt ≤ 122 := by
  unfold lts at h
  rw [Bool.and_eq_true, decide_eq_true_eq, List.all_eq_true] at h
  refine ⟨h.1, fun i hi => ?_⟩
  have := h.2 (t.getD i 0) (List.mem_of_getElem? (getD_some hi))
  rw [decide_eq_true_eq] at this
  exact this
/-- a word is a text where their numbers are one -/
theorem wc_iff {tp : Nat → Int} {b e : Nat} {t : List Int32} (ht : lts t = true) (hbe : b ≤ e) (hw : ∀ i, i < e - b → isL (tp (b + i)) = true) : wcR tp b e = ofF t t.length ↔ wIs tp b e t = true := by
  obtain ⟨hl, hc⟩ := lts_g ht
  have ho := ofF_cd hc t.length hl.2 (Nat.le_refl _)
  have hg : ∀ i, i < t.length → 1 ≤ ((t.getD i 0).toInt - 96).toNat ∧ ((t.getD i 0).toInt - 96).toNat < 32 := fun i hi => by have := hc i hi; omega
  have hd : ∀ i, i < e - b → 97 ≤ tp (b + i) ∧ tp (b + i) ≤ 122 := fun i hi => by have := hw i hi; unfold isL at this; rw [decide_eq_true_eq] at this; exact this
  have h0 : cdN (fun i => ((t.getD i 0).toInt - 96).toNat) t.length ≠ 0 := by
    intro z
    obtain ⟨m, hm⟩ : ∃ m, t.length = m + 1 := ⟨t.length - 1, by omega⟩
    have := hg m (by omega)
    rw [hm, cdN] at z
    omega
  unfold wIs
  rw [Bool.and_eq_true, decide_eq_true_eq, allF_iff]
  simp only [decide_eq_true_eq]
  unfold wcR
  by_cases q : e - b ≤ 6
  · rw [if_pos q, wcF_cd _ q hw, ho]
    constructor
    · intro z
      have z' : cdN (fun i => (tp (b + i) - 96).toNat) (e - b) = cdN (fun i => ((t.getD i 0).toInt - 96).toNat) t.length := by omega
      have := cdN_inj (e - b) t.length (fun i hi => by have := hd i hi; omega) hg z'
      refine ⟨this.1, fun i hi => ?_⟩
      have h1 := this.2 i (by omega)
      have h2 := hd i (by omega)
      have h3 := hc i hi
      omega
    · rintro ⟨z1, z2⟩
      rw [z1]
      refine congrArg (fun z : Nat => (z : Int)) ?_
      have : ∀ k, k ≤ t.length → cdN (fun i => (tp (b + i) - 96).toNat) k = cdN (fun i => ((t.getD i 0).toInt - 96).toNat) k := by
        intro k
        induction k with
        | zero => intro _; rfl
        | succ k ih => intro hk; unfold cdN; rw [ih (by omega), z2 k (by omega)]
      exact this _ (Nat.le_refl _)
  · rw [if_neg q, ho]
    constructor
    · intro z; omega
    · rintro ⟨z1, _⟩; omega
section Rm
variable {X : Nat × (Nat → Int32)} {J : Nat → Nat → Int} {sw : Bool × Bool × Bool} {lg : Nat → Nat → Int64} {x n a : Nat} {tp : Nat → Int}
def F4 (J J' : Nat → Nat → Int) (b : Nat) : Prop := J' 542 4 = (b : Int) ∧ (∀ k, k ≠ 4 → J' 542 k = J 542 k) ∧ ∀ c, c ≠ 542 → J' c = J c
theorem F4.fy {J' : Nat → Nat → Int} {b : Nat} (h : F4 J J' b) : FY J J' := ⟨h.2.2, fun k hk _ _ => h.2.1 k hk⟩
theorem F4.ty {J' : Nat → Nat → Int} {b : Nat} (h : F4 J J' b) (hT : TY J n tp a) : TY J' n tp b := hT.fr h.fy h.1 (by rw [h.2.1 5 (by decide)]; exact hT.2.2.2)
/-- the text, whatever fault there is -/
def TZ (J : Nat → Nat → Int) (n : Nat) (tp : Nat → Int) (a : Nat) : Prop := J 542 3 = (n : Int) ∧ J 542 4 = (a : Int) ∧ ∀ k, k < 600 → J 544 k = tp k
theorem TY.tz (h : TY J n tp a) : TZ J n tp a := ⟨h.1, h.2.1, h.2.2.1⟩
theorem F4.tz {J' : Nat → Nat → Int} {b : Nat} (h : F4 J J' b) (hT : TZ J n tp a) : TZ J' n tp b := ⟨by rw [h.2.1 3 (by decide)]; exact hT.1, h.1, fun k hk => by rw [h.2.2 544 (by decide)]; exact hT.2.2 k hk⟩
theorem e_167 (hT : TZ J n tp a) (hB : TB n tp) (ha : a ≤ n) : ∃ J', EE X 0 167 [.ref 542] (mj J sw lg x) (.inl (some (iv (nxm tp n (sk tp n a))))) (mj J' sw lg x) ∧ F4 J J' (sk tp n a) := by
  have hn := hB.1
  refine EE.ex (O := fun _ => .inl (some (iv (nxm tp n (sk tp n a))))) (F := fun J' => mj J' sw lg x) mt_167 ?_
  have key : ∀ m b (J' : Nat → Nat → Int), n - b = m → b ≤ n → sk tp n b = sk tp n a → F4 J J' b → VV X 0 167 (0, [some (.ref 542)], [], mj J' sw lg x) (fun o M => ∃ z, o = .inl (some (iv (nxm tp n (sk tp n a)))) ∧ M = mj z sw lg x ∧ F4 J z (sk tp n a)) := by
    intro m
    induction m with
    | zero =>
      intro b J' hm hb hs hF
      have hT' := hF.tz hT
      have hbs : sk tp n a = b := by rw [← hs]; exact sc_n (by omega)
      refine b_167_0 ?_
      rw [hT'.1, hT'.2.1]
      refine ⟨by omega, by omega, fun _ => b_167_38 ?_, fun c => by omega⟩
      rw [hT'.1, hT'.2.1]
      refine ⟨by omega, by omega, fun _ => ⟨J', ?_, rfl, by rw [hbs]; exact hF⟩, fun c => by omega⟩
      rw [hbs]; unfold nxm; rw [if_neg (by omega)]
    | succ m ih =>
      intro b J' hm hb hs hF
      have hT' := hF.tz hT
      have e : J' 544 (b : Int).toNat = tp b := hT'.2.2 b (by omega)
      have hbb := hB.2 b
      refine b_167_0 ?_
      rw [hT'.1, hT'.2.1, e]
      refine ⟨by omega, by omega, fun c => by omega, fun _ => ⟨by omega, by omega, fun c => b_167_38 ?_, fun c => ?_⟩⟩
      · have hbs : sk tp n a = b := by rw [← hs]; exact sc_n (by unfold isB; simp; omega)
        rw [hT'.1, hT'.2.1, e]
        refine ⟨by omega, by omega, fun c => by omega, fun _ => ⟨by omega, J', ?_, rfl, by rw [hbs]; exact hF⟩⟩
        rw [hbs]; unfold nxm; rw [if_pos (by omega)]
      · refine ih (b + 1) _ (by omega) (by omega) ?_ ⟨by rw [up_eq]; omega, fun k hk => by rw [up_nk hk]; exact hF.2.1 k hk, fun c hc => by rw [up_r hc]; exact hF.2.2 c hc⟩
        rw [← hs]; exact (sc_y (by omega) (by unfold isB; simp [c])).symm
  exact key _ a J rfl ha rfl ⟨hT.2.1, fun _ _ => rfl, fun _ _ => rfl⟩
theorem e_170 (hT : TZ J n tp a) (hB : TB n tp) (ha : a ≤ n) : ∃ J', EE X 1 170 [.ref 542] (mj J sw lg x) (.inl (some (iv (wcR tp (sk tp n a) (wd tp n (sk tp n a)))))) (mj J' sw lg x) ∧ F4 J J' (sk tp n a) := by
  have hn := hB.1
  have hs : sk tp n a ≤ n := sc_ub ha
  refine EE.ex (O := fun _ => .inl (some (iv (wcR tp (sk tp n a) (wd tp n (sk tp n a)))))) (F := fun J' => mj J' sw lg x) mt_170 (b_170_0 (by omega) ?_)
  refine ex1 (e_167 hT hB ha) (fun J1 h1 => ?_)
  have hT1 := h1.tz hT
  rw [h1.1]
  have key : ∀ m k (b : Nat), n - b = m → b ≤ n → b = sk tp n a + k → wd tp n b = wd tp n (sk tp n a) → VV X 1 170 (14, [some (.ref 542), some (iv (wcF tp (sk tp n a) k)), some (iv (k : Int)), some (iv (b : Int))], [], mj J1 sw lg x) (fun o M => ∃ z, o = .inl (some (iv (wcR tp (sk tp n a) (wd tp n (sk tp n a))))) ∧ M = mj z sw lg x ∧ F4 J z (sk tp n a)) := by
    intro m
    induction m with
    | zero =>
      intro k b hm hb hk hs
      have hbs : wd tp n (sk tp n a) = b := by rw [← hs]; exact sc_n (by omega)
      refine b_170_14 (by omega) ?_
      rw [hT1.1]
      refine ⟨by omega, by omega, fun _ => b_170_67 (by omega) ⟨by omega, fun c => ⟨J1, ?_, rfl, h1⟩, fun c => ⟨J1, ?_, rfl, h1⟩⟩, fun c => by omega⟩
      · unfold wcR; rw [hbs, hk, show sk tp n a + k - sk tp n a = k by omega, if_pos (by omega)]
      · unfold wcR; rw [hbs, hk, show sk tp n a + k - sk tp n a = k by omega, if_neg (by omega)]
    | succ m ih =>
      intro k b hm hb hk hs
      have e : J1 544 (b : Int).toNat = tp b := hT1.2.2 b (by omega)
      have hbb := hB.2 b
      refine b_170_14 (by omega) ?_
      rw [hT1.1, e]
      have fin : ¬ (97 ≤ tp b ∧ tp b ≤ 122) → VV X 1 170 (67, [some (.ref 542), some (iv (wcF tp (sk tp n a) k)), some (iv (k : Int)), some (iv (b : Int))], [], mj J1 sw lg x) (fun o M => ∃ z, o = .inl (some (iv (wcR tp (sk tp n a) (wd tp n (sk tp n a))))) ∧ M = mj z sw lg x ∧ F4 J z (sk tp n a)) := fun q => by
        have hbs : wd tp n (sk tp n a) = b := by rw [← hs]; exact sc_n (by unfold isL; simp; omega)
        refine b_170_67 (by omega) ⟨by omega, fun c => ⟨J1, ?_, rfl, h1⟩, fun c => ⟨J1, ?_, rfl, h1⟩⟩
        · unfold wcR; rw [hbs, hk, show sk tp n a + k - sk tp n a = k by omega, if_pos (by omega)]
        · unfold wcR; rw [hbs, hk, show sk tp n a + k - sk tp n a = k by omega, if_neg (by omega)]
      refine ⟨by omega, by omega, fun c => by omega, fun _ => ⟨by omega, by omega, fun c => fin (by omega), fun c1 => ⟨fun c => fin (by omega), fun c2 => ⟨by omega, fun c => ?_, fun c => ?_⟩⟩⟩⟩
      · have := ih (k + 1) (b + 1) (by omega) (by omega) (by omega) (by rw [← hs]; exact (sc_y (by omega) (by unfold isL; simp; omega)).symm)
        rw [wcF, if_neg (by omega)] at this
        exact this
      · have := ih (k + 1) (b + 1) (by omega) (by omega) (by omega) (by rw [← hs]; exact (sc_y (by omega) (by unfold isL; simp; omega)).symm)
        rw [wcF, if_pos (by omega), ← hk] at this
        exact this
  have := key _ 0 (sk tp n a) rfl hs rfl rfl
  exact this
theorem e_171 {r : Nat} {t : List Int32} (ht : m_nstr mT r = some t) (hl : t.length < 1000) : EE X 0 171 [.ref r] (mj J sw lg x) (.inl (some (iv (ofF t t.length)))) (mj J sw lg x) := by
  refine EE.of mt_171 (b_171_0 ht ?_)
  refine lp (P := fun k => VV X 0 171 (4, [some (.ref r), some (iv (ofF t k)), some (iv k)], [], mj J sw lg x) _) t.length ?_ ?_ 0 (Nat.zero_le _)
  · exact b_171_4 ht ⟨by omega, by omega, fun _ => ⟨rfl, rfl⟩, fun c => by omega⟩
  · intro k hk ih
    refine b_171_4 ht ⟨by omega, by omega, fun c => by omega, fun _ => ⟨by omega, t.getD k 0, getD_some hk, ?_⟩⟩
    exact ih
theorem e_172 (hT : TZ J n tp a) (hB : TB n tp) (ha : a ≤ n) : ∃ J', EE X 1 172 [.ref 542] (mj J sw lg x) (.inl none) (mj J' sw lg x) ∧ F4 J J' (wd tp n a) := by
  have hn := hB.1
  refine EE.ex (O := fun _ => .inl none) (F := fun J' => mj J' sw lg x) mt_172 ?_
  have key : ∀ m b (J' : Nat → Nat → Int), n - b = m → b ≤ n → wd tp n b = wd tp n a → F4 J J' b → VV X 1 172 (0, [some (.ref 542)], [], mj J' sw lg x) (fun o M => ∃ z, o = .inl none ∧ M = mj z sw lg x ∧ F4 J z (wd tp n a)) := by
    intro m
    induction m with
    | zero =>
      intro b J' hm hb hs hF
      have hT' := hF.tz hT
      have hbs : wd tp n a = b := by rw [← hs]; exact sc_n (by omega)
      refine b_172_0 (by omega) ?_
      rw [hT'.1, hT'.2.1]
      exact ⟨by omega, by omega, fun _ => ⟨J', rfl, rfl, by rw [hbs]; exact hF⟩, fun c => by omega⟩
    | succ m ih =>
      intro b J' hm hb hs hF
      have hT' := hF.tz hT
      have e : J' 544 (b : Int).toNat = tp b := hT'.2.2 b (by omega)
      have hbb := hB.2 b
      refine b_172_0 (by omega) ?_
      rw [hT'.1, hT'.2.1, e]
      have fin : ¬ (97 ≤ tp b ∧ tp b ≤ 122) → wd tp n a = b := fun q => by rw [← hs]; exact sc_n (by unfold isL; simp; omega)
      refine ⟨by omega, by omega, fun c => by omega, fun _ => ⟨by omega, by omega, fun c => ⟨J', rfl, rfl, by rw [fin (by omega)]; exact hF⟩, fun c1 => ⟨fun c => ⟨J', rfl, rfl, by rw [fin (by omega)]; exact hF⟩, fun c2 => ?_⟩⟩⟩
      refine ih (b + 1) _ (by omega) (by omega) ?_ ⟨by rw [up_eq]; omega, fun k hk => by rw [up_nk hk]; exact hF.2.1 k hk, fun c hc => by rw [up_r hc]; exact hF.2.2 c hc⟩
      rw [← hs]; exact (sc_y (by omega) (by unfold isL; simp; omega)).symm
  exact key _ a J rfl ha rfl ⟨hT.2.1, fun _ _ => rfl, fun _ _ => rfl⟩
theorem e_174 {c : Int} (hT : TY J n tp a) (hB : TB n tp) (ha : a ≤ n) (hc : 0 < c ∧ c < 256) : ∃ J', EE X 1 174 [.ref 542, iv c] (mj J sw lg x) (.inl none) (mj J' sw lg x) ∧ MR J' (sgR tp n a c) ∧ FY J J' := by
  have hn := hB.1
  have hs : sk tp n a ≤ n := sc_ub ha
  refine EE.ex (O := fun _ => .inl none) (F := fun J' => mj J' sw lg x) mt_174 (b_174_0 (by omega) ?_)
  rw [hT.2.2.2]
  refine ⟨by decide, fun z => absurd rfl z, fun _ => ex1 (e_167 hT.tz hB ha) (fun J1 h1 => ?_)⟩
  have hb := nxm_b hB (sk tp n a)
  have e5 : J1 542 5 = -1 := by rw [h1.2.1 5 (by decide)]; exact hT.2.2.2
  rw [e5, h1.1]
  refine ⟨by omega, by omega, fun q => ⟨by decide, fun z => absurd rfl z, fun _ => ?_⟩, fun q => ⟨by decide, fun _ => ⟨by omega, fun _ => ?_, fun z => by omega⟩, fun z => absurd rfl z⟩⟩
  · have hr : sgR tp n a c = ((0, 0), sk tp n a + 1) := if_pos (by unfold nxm at q; split at q <;> omega)
    rw [hr]
    exact ⟨_, rfl, rfl, ⟨fun _ => ⟨by rw [up_nk (by decide)]; exact e5, by rw [up_eq]; omega⟩, fun z => absurd rfl z⟩, h1.fy.tr (FY.up (by decide))⟩
  · have hr : sgR tp n a c = ((1, sk tp n a), 0) := if_neg (by unfold nxm at q; split at q <;> omega)
    rw [hr]
    exact ⟨_, rfl, rfl, ⟨fun z => absurd (show (1 : Nat) = 0 from z) (by decide), fun _ => ⟨by rw [up_nk (by decide), up_eq], by rw [up_eq]; rfl⟩⟩, (h1.fy.tr (FY.up (by decide))).tr (FY.up (by decide))⟩
/-- a fault stands: nothing is read -/
theorem e_174f {c f : Int} (h5 : J 542 5 = f) (hf : InR f ∧ ¬ f = -1) : EE X 1 174 [.ref 542, iv c] (mj J sw lg x) (.inl none) (mj J sw lg x) := by
  refine EE.of mt_174 (b_174_0 (by omega) ?_)
  rw [h5]
  exact ⟨hf.1, fun _ => ⟨fun _ => ⟨rfl, rfl⟩, fun z => absurd z hf.2⟩, fun z => absurd z hf.2⟩
theorem e_173f {lo hi f : Int} (h5 : J 542 5 = f) (hf : InR f ∧ ¬ f = -1) : EE X 1 173 [.ref 542, iv lo, iv hi] (mj J sw lg x) (.inl (some (iv 0))) (mj J sw lg x) := by
  refine EE.of mt_173 (b_173_0 (by omega) ?_)
  rw [h5]
  exact ⟨hf.1, fun _ => ⟨rfl, rfl⟩, fun z => absurd z hf.2⟩
def nmF (tp : Nat → Int) (b : Nat) : Nat → Int
  | 0 => 0
  | k + 1 => if nmF tp b k ≤ 9999 then 10 * nmF tp b k + tp (b + k) - 48 else 10000
theorem nmF_b {b : Nat} : ∀ k, (∀ i, i < k → isD (tp (b + i)) = true) → (0 ≤ nmF tp b k ∧ nmF tp b k ≤ 99999) ∧ min 10000 (nmF tp b k) = nvF tp b k
  | 0, _ => ⟨⟨show (0 : Int) ≤ 0 by decide, show (0 : Int) ≤ 99999 by decide⟩, rfl⟩
  | k + 1, h => by
    have h1 := nmF_b k (fun i hi => h i (by omega))
    have h2 := h k (by omega)
    unfold isD at h2
    rw [decide_eq_true_eq] at h2
    unfold nmF nvF
    split <;> omega
def A4 (n : Nat) (J : Nat → Nat → Int) : Prop := ∃ b : Nat, b ≤ n ∧ J 542 4 = (b : Int)
theorem e_173 {lo hi : Int} (hT : TY J n tp a) (hB : TB n tp) (ha : a ≤ n) (hlo : InR lo) (hhi : InR hi ∧ hi ≤ 9999) : ∃ J', EE X 1 173 [.ref 542, iv lo, iv hi] (mj J sw lg x) (.inl (some (iv (if (nmR tp n a lo hi).1.1 = 0 then nmV tp n a else 0)))) (mj J' sw lg x) ∧ MR J' (nmR tp n a lo hi) ∧ FY J J' ∧ A4 n J' := by
  have hn := hB.1
  have hs : sk tp n a ≤ n := sc_ub ha
  refine EE.ex (O := fun _ => .inl (some (iv (if (nmR tp n a lo hi).1.1 = 0 then nmV tp n a else 0)))) (F := fun J' => mj J' sw lg x) mt_173 (b_173_0 (by omega) ?_)
  rw [hT.2.2.2]
  refine ⟨by decide, fun z => absurd rfl z, fun _ => ex1 (e_167 hT.tz hB ha) (fun J1 h1 => ?_)⟩
  have hb := nxm_b hB (sk tp n a)
  have hT1 := h1.ty hT
  have e5 : J1 542 5 = -1 := hT1.2.2.2
  have no : ¬ (sk tp n a < n ∧ isD (tp (sk tp n a)) = true) → ∀ x3 x4 x5 : Int, VV X 1 173 (30, [some (.ref 542), some (iv lo), some (iv hi), some (iv x3), some (iv x4), some (iv x5)], [], mj J1 sw lg x) (fun o M => ∃ z, o = .inl (some (iv (if (nmR tp n a lo hi).1.1 = 0 then nmV tp n a else 0))) ∧ M = mj z sw lg x ∧ MR z (nmR tp n a lo hi) ∧ FY J z ∧ A4 n z) := by
    intro q x3 x4 x5
    have hr : nmR tp n a lo hi = ((1, sk tp n a), 0) := by unfold nmR; rw [if_neg q]
    refine b_173_30 (by omega) ?_
    rw [e5, h1.1, hr]
    exact ⟨by decide, fun _ => ⟨_, rfl, rfl, ⟨fun z => absurd (show (1 : Nat) = 0 from z) (by decide), fun _ => ⟨by rw [up_nk (by decide), up_eq], by rw [up_eq]; rfl⟩⟩, (h1.fy.tr (FY.up (by decide))).tr (FY.up (by decide)), _, hs, by rw [up_nk (by decide), up_nk (by decide)]; exact h1.1⟩, fun z => absurd rfl z⟩
  have nx : (48 ≤ nxm tp n (sk tp n a) ∧ nxm tp n (sk tp n a) ≤ 57) ↔ (sk tp n a < n ∧ isD (tp (sk tp n a)) = true) := by
    unfold nxm isD
    rw [decide_eq_true_eq]
    split
    · rename_i z; exact ⟨fun h => ⟨z, h⟩, fun h => h.2⟩
    · rename_i z; exact ⟨fun h => by omega, fun h => absurd h.1 z⟩
  refine ⟨by omega, fun c => no (fun z => by have := nx.mpr z; clear no; omega) _ _ _, fun c => ⟨fun c2 => no (fun z => by have := nx.mpr z; clear no; omega) _ _ _, fun c2 => ?_⟩⟩
  have q := nx.mp ⟨c, c2⟩
  clear no
  rw [h1.1]
  have key : ∀ m b (J' : Nat → Nat → Int) (x3 : Int), n - b = m → sk tp n a ≤ b → b ≤ n → dg tp n b = dg tp n (sk tp n a) → TY J' n tp b → (∀ i, i < b - sk tp n a → isD (tp (sk tp n a + i)) = true) → FY J J' → VV X 1 173 (41, [some (.ref 542), some (iv lo), some (iv hi), some (iv x3), some (iv (sk tp n a : Nat)), some (iv (nmF tp (sk tp n a) (b - sk tp n a)))], [], mj J' sw lg x) (fun o M => ∃ z, o = .inl (some (iv (if (nmR tp n a lo hi).1.1 = 0 then nmV tp n a else 0))) ∧ M = mj z sw lg x ∧ MR z (nmR tp n a lo hi) ∧ FY J z ∧ A4 n z) := by
    intro m
    induction m with
    | zero =>
      intro b J' x3 hm hsb hb hd hT' hdig hF
      have hbs : dg tp n (sk tp n a) = b := by rw [← hd]; exact sc_n (by omega)
      have vb := nmF_b (tp := tp) (b := sk tp n a) _ hdig
      have hv : nmV tp n a = nvF tp (sk tp n a) (b - sk tp n a) := by unfold nmV; rw [hbs]
      have bad : (nmF tp (sk tp n a) (b - sk tp n a) < lo ∨ hi < nmF tp (sk tp n a) (b - sk tp n a)) → VV X 1 173 (126, [some (.ref 542), some (iv lo), some (iv hi), some (iv x3), some (iv (sk tp n a : Nat)), some (iv (nmF tp (sk tp n a) (b - sk tp n a)))], [], mj J' sw lg x) (fun o M => ∃ z, o = .inl (some (iv (if (nmR tp n a lo hi).1.1 = 0 then nmV tp n a else 0))) ∧ M = mj z sw lg x ∧ MR z (nmR tp n a lo hi) ∧ FY J z ∧ A4 n z) := by
        intro z
        have hr : nmR tp n a lo hi = ((2, sk tp n a), 0) := by unfold nmR; rw [if_pos q, if_neg (by omega)]
        refine b_173_126 (by omega) ?_
        rw [hT'.2.2.2, hr]
        exact ⟨by decide, fun _ => ⟨_, rfl, rfl, ⟨fun z => absurd (show (2 : Nat) = 0 from z) (by decide), fun _ => ⟨by rw [up_nk (by decide), up_eq], by rw [up_eq]; rfl⟩⟩, (hF.tr (FY.up (by decide))).tr (FY.up (by decide)), _, hb, by rw [up_nk (by decide), up_nk (by decide)]; exact hT'.2.1⟩, fun z => absurd rfl z⟩
      refine b_173_41 (by omega) ?_
      rw [hT'.1, hT'.2.1]
      refine ⟨by omega, by omega, fun _ => b_173_114 (by omega) ⟨by omega, hlo, fun c => bad (Or.inl c), fun c => ⟨hhi.1, fun c2 => ?_, fun c2 => bad (Or.inr c2)⟩⟩, fun c => by omega⟩
      clear bad
      have hr : nmR tp n a lo hi = ((0, 0), dg tp n (sk tp n a)) := by unfold nmR; rw [if_pos q, if_pos (by omega)]
      rw [hr]
      refine ⟨J', ?_, rfl, ⟨fun _ => ⟨hT'.2.2.2, by rw [hT'.2.1, hbs]⟩, fun z => absurd rfl z⟩, hF, _, hb, hT'.2.1⟩
      rw [if_pos rfl, show nmF tp (sk tp n a) (b - sk tp n a) = nmV tp n a by omega]
    | succ m ih =>
      intro b J' x3 hm hsb hb hd hT' hdig hF
      have e : J' 544 (b : Int).toNat = tp b := hT'.2.2.1 b (by omega)
      have hbb := hB.2 b
      have vb := nmF_b (tp := tp) (b := sk tp n a) _ hdig
      have fin : ¬ (48 ≤ tp b ∧ tp b ≤ 57) → VV X 1 173 (114, [some (.ref 542), some (iv lo), some (iv hi), some (iv x3), some (iv (sk tp n a : Nat)), some (iv (nmF tp (sk tp n a) (b - sk tp n a)))], [], mj J' sw lg x) (fun o M => ∃ z, o = .inl (some (iv (if (nmR tp n a lo hi).1.1 = 0 then nmV tp n a else 0))) ∧ M = mj z sw lg x ∧ MR z (nmR tp n a lo hi) ∧ FY J z ∧ A4 n z) := by
        intro q2
        have hbs : dg tp n (sk tp n a) = b := by rw [← hd]; exact sc_n (by unfold isD; simp; omega)
        have hv : nmV tp n a = nvF tp (sk tp n a) (b - sk tp n a) := by unfold nmV; rw [hbs]
        have bad : (nmF tp (sk tp n a) (b - sk tp n a) < lo ∨ hi < nmF tp (sk tp n a) (b - sk tp n a)) → VV X 1 173 (126, [some (.ref 542), some (iv lo), some (iv hi), some (iv x3), some (iv (sk tp n a : Nat)), some (iv (nmF tp (sk tp n a) (b - sk tp n a)))], [], mj J' sw lg x) (fun o M => ∃ z, o = .inl (some (iv (if (nmR tp n a lo hi).1.1 = 0 then nmV tp n a else 0))) ∧ M = mj z sw lg x ∧ MR z (nmR tp n a lo hi) ∧ FY J z ∧ A4 n z) := by
          intro z
          have hr : nmR tp n a lo hi = ((2, sk tp n a), 0) := by unfold nmR; rw [if_pos q, if_neg (by omega)]
          refine b_173_126 (by omega) ?_
          rw [hT'.2.2.2, hr]
          exact ⟨by decide, fun _ => ⟨_, rfl, rfl, ⟨fun z => absurd (show (2 : Nat) = 0 from z) (by decide), fun _ => ⟨by rw [up_nk (by decide), up_eq], by rw [up_eq]; rfl⟩⟩, (hF.tr (FY.up (by decide))).tr (FY.up (by decide)), _, hb, by rw [up_nk (by decide), up_nk (by decide)]; exact hT'.2.1⟩, fun z => absurd rfl z⟩
        refine b_173_114 (by omega) ⟨by omega, hlo, fun c => bad (Or.inl c), fun c => ⟨hhi.1, fun c2 => ?_, fun c2 => bad (Or.inr c2)⟩⟩
        clear bad
        have hr : nmR tp n a lo hi = ((0, 0), dg tp n (sk tp n a)) := by unfold nmR; rw [if_pos q, if_pos (by omega)]
        rw [hr]
        refine ⟨J', ?_, rfl, ⟨fun _ => ⟨hT'.2.2.2, by rw [hT'.2.1, hbs]⟩, fun z => absurd rfl z⟩, hF, _, hb, hT'.2.1⟩
        rw [if_pos rfl, show nmF tp (sk tp n a) (b - sk tp n a) = nmV tp n a by omega]
      refine b_173_41 (by omega) ?_
      rw [hT'.1, hT'.2.1, e]
      refine ⟨by omega, by omega, fun c => by omega, fun _ => ⟨by omega, by omega, fun c => fin (by omega), fun c1 => ⟨fun c => fin (by omega), fun c2 => ?_⟩⟩⟩
      clear fin
      have qd : isD (tp b) = true := by unfold isD; rw [decide_eq_true_eq]; exact ⟨c1, c2⟩
      have nxt := ih (b + 1) (m_up J' 542 4 ((b : Int) + 1)) x3 (by omega) (by omega) (by omega) (by rw [← hd]; exact (sc_y (by omega) qd).symm) (hT'.fr (FY.up (by decide)) (by rw [up_eq]; omega) (by rw [up_nk (by decide)]; exact hT'.2.2.2)) (fun i hi' => by
        by_cases z : i < b - sk tp n a
        · exact hdig i z
        · rw [show sk tp n a + i = b by omega]; exact qd) (hF.tr (FY.up (by decide)))
      rw [show b + 1 - sk tp n a = (b - sk tp n a) + 1 by omega, nmF, show sk tp n a + (b - sk tp n a) = b by omega] at nxt
      refine ⟨by omega, fun c => ?_, fun c => ?_⟩
      · rw [if_pos c] at nxt; exact nxt
      · rw [if_neg (by omega)] at nxt; exact nxt
  have := key _ (sk tp n a) J1 (nxm tp n (sk tp n a)) rfl (Nat.le_refl _) hs rfl hT1 (fun i hi' => by omega) h1.fy
  rw [Nat.sub_self] at this
  exact this
end Rm
