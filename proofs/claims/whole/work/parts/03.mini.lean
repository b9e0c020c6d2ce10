/-! A SMALL MACHINE of our own: numbers and references in plain functions, the bytecode's instructions resolved; it runs the methods of the class, of the reference and of the law. -/
/-- memory: int contents (cell, place), references, longs, the cells' shapes (kind, size), how many exceptions were thrown -/
abbrev mM : Type := (Nat → Nat → Int32) × (Nat → Nat → Option Nat) × (Nat → Nat → Int64) × List (Nat × Nat) × Nat
abbrev mL : Type := List (Option Value)
abbrev mC : Type := Nat × mL × List Value × mM
abbrev mOp : Type := Instr × Nat × Nat × Nat
/-- name, bytes, locals, return type, the number of its class, handlers (from, to, kind, target behind the store, handler, entry of the class caught), instructions -/
abbrev mH : Type := Nat × Nat × Nat × Nat × Nat × Nat
abbrev mMeth : Type := MethodName × ByteArray × Nat × Option FieldType × Nat × List mH × List (Nat × mOp)
abbrev mR : Type := (Option Value ⊕ Nat) × mM
def m_up {α : Type} (f : Nat → Nat → α) (a k : Nat) (v : α) : Nat → Nat → α := fun a' k' => if a' = a then (if k' = k then v else f a' k') else f a' k'
def m_row {α : Type} (f : Nat → Nat → α) (a : Nat) (g : Nat → α) : Nat → Nat → α := fun a' k' => if a' = a then g k' else f a' k'
def m_get (L : mL) (i : Nat) : Option Value := match L[i]? with
  | some (some v) => some v
  | _ => none
def m_kill (L : mL) (i : Nat) : mL := match i with
  | 0 => L
  | j + 1 => match L[j]? with
    | some (some w) => if w.category = 2 then L.set j none else L
    | _ => L
def m_set (L : mL) (i : Nat) (v : Value) : mL := (m_kill L i).set i (some v)
def m_setL (L : mL) (i : Nat) (v : Value) : mL := (m_set L i v).set (i + 1) none
def m_i1 {α : Type} (st : List Value) (k : Int32 → List Value → Option α) : Option α := match st with
  | .int x :: r => k x r
  | _ => none
def m_i2 {α : Type} (st : List Value) (k : Int32 → Int32 → List Value → Option α) : Option α := match st with
  | .int y :: .int x :: r => k x y r
  | _ => none
def m_l1 {α : Type} (st : List Value) (k : Int64 → List Value → Option α) : Option α := match st with
  | .long x :: r => k x r
  | _ => none
def m_l2 {α : Type} (st : List Value) (k : Int64 → Int64 → List Value → Option α) : Option α := match st with
  | .long y :: .long x :: r => k x y r
  | _ => none
def m_r1 {α : Type} (st : List Value) (k : Nat → List Value → Option α) : Option α := match st with
  | .ref a :: r => k a r
  | _ => none
def m_v1 {α : Type} (st : List Value) (k : Value → List Value → Option α) : Option α := match st with
  | v :: r => if v.category = 1 then k v r else none
  | _ => none
def m_jmp (pc : Nat) (off : Int) (L : mL) (st : List Value) (M : mM) : Option mC := match (pc : Int) + off with
  | .ofNat t => some (t, L, st, M)
  | .negSucc _ => none
def m_cc (c : ClassFile.Cond) (x y : Int32) : Bool := match c with
  | .eq => decide (x = y)
  | .ne => decide (¬ x = y)
  | .lt => decide (x < y)
  | .ge => decide (y ≤ x)
  | .gt => decide (y < x)
  | .le => decide (x ≤ y)
def m_br (c : Bool) (pc : Nat) (off : Int) (L : mL) (st : List Value) (M : mM) : Option mC := match (pc : Int) + off with
  | .ofNat t => if c = true then some (t, L, st, M) else some (pc + 3, L, st, M)
  | .negSucc _ => none
/-- a place of an array of a kind -/
def m_arr (M : mM) (kd a : Nat) (i : Int32) (k : Nat → Option mC) : Option mC := match M.2.2.2.1[a]? with
  | some (kd', n) => if kd' = kd then (if i < 0 ∨ n ≤ i.toNatClampNeg then none else k i.toNatClampNeg) else none
  | none => none
/-- the address of the script; behind it the text constants -/
def m_scr : Nat := 1000000
def m_len (X : Nat × (Nat → Int32)) (M : mM) (a : Nat) (k : Int32 → Option mC) : Option mC :=
  if a = m_scr then k (nI X.1) else match M.2.2.2.1[a]? with
  | some (kd, n) => if kd < 5 then k (nI n) else none
  | none => none
/-- an object of a class -/
def m_obj (M : mM) (ci j a : Nat) (k : Option mC) : Option mC := match M.2.2.2.1[a]? with
  | some (kd, n) => if kd = ci + 5 then (if j < n then k else none) else none
  | none => none
/-- a new cell -/
def m_mk (M : mM) (kd n : Nat) : mM := (m_row M.1 M.2.2.2.1.length (fun _ => 0), m_row M.2.1 M.2.2.2.1.length (fun _ => none), m_row M.2.2.1 M.2.2.2.1.length (fun _ => 0), M.2.2.2.1 ++ [(kd, n)], M.2.2.2.2)
def m_new (M : mM) (kd n : Nat) (k : Nat → mM → Option mC) : Option mC := if M.2.2.2.2 = 0 ∧ M.2.2.2.1.length < 1000 then k M.2.2.2.1.length (m_mk M kd n) else none
def m_akind (t : ArrayType) : Option Nat := match t with
  | .int => some 0
  | .boolean => some 1
  | .long => some 2
  | _ => none
def m_nstr (T : List (List Int32)) (a : Nat) : Option (List Int32) := if a ≤ m_scr then none else T[a - m_scr - 1]?
/-- an instruction that is no call, no return, no throw; tx: the texts -/
def m_step (tx : List (List Int32)) (X : Nat × (Nat → Int32)) (op : mOp) (pc : Nat) (L : mL) (st : List Value) (M : mM) : Option mC :=
  match op.1 with
  | .aload i => match m_get L i with
    | some (.ref a) => some (pc + 2, L, .ref a :: st, M)
    | _ => none
  | .aload_n i => match m_get L i with
    | some (.ref a) => some (pc + 1, L, .ref a :: st, M)
    | _ => none
  | .iload i => match m_get L i with
    | some (.int x) => some (pc + 2, L, .int x :: st, M)
    | _ => none
  | .iload_n i => match m_get L i with
    | some (.int x) => some (pc + 1, L, .int x :: st, M)
    | _ => none
  | .lload i => match m_get L i with
    | some (.long x) => some (pc + 2, L, .long x :: st, M)
    | _ => none
  | .lload_n i => match m_get L i with
    | some (.long x) => some (pc + 1, L, .long x :: st, M)
    | _ => none
  | .istore i => m_i1 st fun x r => if i < L.length then some (pc + 2, m_set L i (.int x), r, M) else none
  | .istore_n i => m_i1 st fun x r => if (i : Nat) < L.length then some (pc + 1, m_set L i (.int x), r, M) else none
  | .astore i => m_r1 st fun x r => if i < L.length then some (pc + 2, m_set L i (.ref x), r, M) else none
  | .astore_n i => m_r1 st fun x r => if (i : Nat) < L.length then some (pc + 1, m_set L i (.ref x), r, M) else none
  | .lstore i => m_l1 st fun x r => if i + 1 < L.length then some (pc + 2, m_setL L i (.long x), r, M) else none
  | .iinc i n => match m_get L i with
    | some (.int x) => if i < L.length then some (pc + 3, m_set L i (.int (x + Int32.ofInt n)), st, M) else none
    | _ => none
  | .iconst n => some (pc + 1, L, .int (Int32.ofInt n) :: st, M)
  | .bipush n => some (pc + 2, L, .int (Int8.ofInt n).toInt32 :: st, M)
  | .sipush n => some (pc + 3, L, .int (Int16.ofInt n).toInt32 :: st, M)
  | .lconst n => some (pc + 1, L, .long (Int64.ofNat (n : Nat)) :: st, M)
  | .ldc _ => if op.2.2.2 = 0 then some (pc + 2, L, .int (Int32.ofNat op.2.2.1) :: st, M) else some (pc + 2, L, .ref (m_scr + 1 + op.2.2.1) :: st, M)
  | .ldc_w _ => if op.2.2.2 = 0 then some (pc + 3, L, .int (Int32.ofNat op.2.2.1) :: st, M) else some (pc + 3, L, .ref (m_scr + 1 + op.2.2.1) :: st, M)
  | .ldc2_w _ => some (pc + 3, L, .long (Int64.ofNat op.2.2.1) :: st, M)
  | .iadd => m_i2 st fun x y r => some (pc + 1, L, .int (x + y) :: r, M)
  | .isub => m_i2 st fun x y r => some (pc + 1, L, .int (x - y) :: r, M)
  | .imul => m_i2 st fun x y r => some (pc + 1, L, .int (x * y) :: r, M)
  | .iand => m_i2 st fun x y r => some (pc + 1, L, .int (x &&& y) :: r, M)
  | .ior => m_i2 st fun x y r => some (pc + 1, L, .int (x ||| y) :: r, M)
  | .ixor => m_i2 st fun x y r => some (pc + 1, L, .int (x ^^^ y) :: r, M)
  | .idiv => m_i2 st fun x y r => if y = 0 then none else some (pc + 1, L, .int (x / y) :: r, M)
  | .irem => m_i2 st fun x y r => if y = 0 then none else some (pc + 1, L, .int (x - x / y * y) :: r, M)
  | .ishl => m_i2 st fun x y r => some (pc + 1, L, .int (x <<< (y &&& 31)) :: r, M)
  | .ishr => m_i2 st fun x y r => some (pc + 1, L, .int (x >>> (y &&& 31)) :: r, M)
  | .iushr => m_i2 st fun x y r => some (pc + 1, L, .int (x.toUInt32 >>> (y.toUInt32 &&& Int32.toUInt32 31)).toInt32 :: r, M)
  | .ineg => m_i1 st fun x r => some (pc + 1, L, .int (-x) :: r, M)
  | .i2l => m_i1 st fun x r => some (pc + 1, L, .long x.toInt64 :: r, M)
  | .lmul => m_l2 st fun x y r => some (pc + 1, L, .long (x * y) :: r, M)
  | .ldiv => m_l2 st fun x y r => if y = 0 then none else some (pc + 1, L, .long (x / y) :: r, M)
  | .lrem => m_l2 st fun x y r => if y = 0 then none else some (pc + 1, L, .long (x - x / y * y) :: r, M)
  | .lcmp => m_l2 st fun x y r => some (pc + 1, L, .int (lg_cmp x y) :: r, M)
  | .dup => m_v1 st fun v r => some (pc + 1, L, v :: v :: r, M)
  | .pop => m_v1 st fun _ r => some (pc + 1, L, r, M)
  | .dup2 => m_v1 st fun v r => m_v1 r fun w q => some (pc + 1, L, v :: w :: v :: w :: q, M)
  | .goto off => m_jmp pc off L st M
  | .if_icmp c off => m_i2 st fun x y r => m_br (m_cc c x y) pc off L r M
  | .ifCond c off => m_i1 st fun x r => m_br (m_cc c x 0) pc off L r M
  | .tableswitch dflt lo hi offs => m_i1 st fun x r => if x.toInt < lo ∨ hi < x.toInt then m_jmp pc dflt L r M else match offs[(x.toInt - lo).toNat]? with
    | some off => m_jmp pc off L r M
    | none => none
  | .lookupswitch dflt ps => m_i1 st fun x r => if (ps.toList.zip (ps.toList.drop 1)).all (fun (a, next) => a.1 < next.1) = true then m_jmp pc (Op.lookupswitch.offset ps.toList dflt x.toInt) L r M else none
  | .arraylength => m_r1 st fun a r => m_len X M a fun n => some (pc + 1, L, .int n :: r, M)
  | .iaload => m_i1 st fun i r => m_r1 r fun a q => if a = m_scr then (if i < 0 ∨ X.1 ≤ i.toNatClampNeg then none else some (pc + 1, L, .int (X.2 i.toNatClampNeg) :: q, M)) else m_arr M 0 a i fun k => some (pc + 1, L, .int (M.1 a k) :: q, M)
  | .baload => m_i1 st fun i r => m_r1 r fun a q => m_arr M 1 a i fun k => some (pc + 1, L, .int (M.1 a k) :: q, M)
  | .laload => m_i1 st fun i r => m_r1 r fun a q => m_arr M 2 a i fun k => some (pc + 1, L, .long (M.2.2.1 a k) :: q, M)
  | .aaload => m_i1 st fun i r => m_r1 r fun a q => m_arr M op.2.2.1 a i fun k => if op.2.2.1 = 3 ∨ op.2.2.1 = 4 then some (pc + 1, L, va_rf (M.2.1 a k) :: q, M) else none
  | .iastore => m_i2 st fun i x r => m_r1 r fun a q => m_arr M 0 a i fun k => some (pc + 1, L, q, (m_up M.1 a k x, M.2))
  | .bastore => m_i2 st fun i x r => m_r1 r fun a q => m_arr M 1 a i fun k => some (pc + 1, L, q, (m_up M.1 a k (vp_nar .boolean x), M.2))
  | .lastore => m_l1 st fun x r => m_i1 r fun i r => m_r1 r fun a q => m_arr M 2 a i fun k => some (pc + 1, L, q, (M.1, M.2.1, m_up M.2.2.1 a k x, M.2.2.2))
  | .aastore => m_r1 st fun v r => m_i1 r fun i r => m_r1 r fun a q => m_arr M op.2.2.1 a i fun k => m_obj M op.2.2.2 0 v (if op.2.2.1 = 3 ∧ op.2.2.2 = 6 ∨ op.2.2.1 = 4 ∧ op.2.2.2 = 4 then some (pc + 1, L, q, (M.1, m_up M.2.1 a k (some v), M.2.2)) else none)
  | .getfield _ => m_r1 st fun a r => m_obj M op.2.2.1 (op.2.2.2 / 2) a (if op.2.2.2 % 2 = 0 then some (pc + 3, L, .int (M.1 a (op.2.2.2 / 2)) :: r, M) else some (pc + 3, L, va_rf (M.2.1 a (op.2.2.2 / 2)) :: r, M))
  | .putfield _ => if op.2.2.2 % 2 = 0 then m_i1 st fun x r => m_r1 r fun a q => m_obj M op.2.2.1 (op.2.2.2 / 2) a (some (pc + 3, L, q, (m_up M.1 a (op.2.2.2 / 2) x, M.2)))
      else m_r1 st fun v r => m_r1 r fun a q => m_obj M op.2.2.1 (op.2.2.2 / 2) a (if v < 1000 then some (pc + 3, L, q, (M.1, m_up M.2.1 a (op.2.2.2 / 2) (some v), M.2.2)) else none)
  | .new _ => m_new M (op.2.2.1 + 5) op.2.2.2 fun a M1 => some (pc + 3, L, .ref a :: st, M1)
  | .newarray t => m_i1 st fun n r => match m_akind t with
    | some kd => if n < 0 ∨ 100000 < n.toNatClampNeg then none else m_new M kd n.toNatClampNeg fun a M1 => some (pc + 2, L, .ref a :: r, M1)
    | none => none
  | .anewarray _ => m_i1 st fun n r => if n < 0 ∨ 100000 < n.toNatClampNeg ∨ ¬ (op.2.2.1 = 3 ∨ op.2.2.1 = 4) then none else m_new M op.2.2.1 n.toNatClampNeg fun a M1 => some (pc + 3, L, .ref a :: r, M1)
  | .invokestatic _ => if op.2.2.1 = 1000 then m_i2 st fun x y r => if 8 < r.length then none else some (pc + 3, L, .int (if x < y then y else x) :: r, M)
      else if op.2.2.1 = 1001 then m_i2 st fun x y r => if 8 < r.length then none else some (pc + 3, L, .int (if y < x then y else x) :: r, M)
      else if op.2.2.1 = 1002 then m_i2 st fun dp n r => m_r1 r fun a1 r => m_i1 r fun sp r => m_r1 r fun a0 q => match M.2.2.2.1[a0]?, M.2.2.2.1[a1]? with
        | some (0, n0), some (0, n1) => if 8 < q.length ∨ sp < 0 ∨ dp < 0 ∨ n < 0 ∨ n0 < sp.toNatClampNeg + n.toNatClampNeg ∨ n1 < dp.toNatClampNeg + n.toNatClampNeg then none
            else some (pc + 3, L, q, (m_row M.1 a1 (va_cpy (M.1 a0) (M.1 a1) sp.toNatClampNeg dp.toNatClampNeg n.toNatClampNeg), M.2))
        | _, _ => none
      else none
  | .invokevirtual _ => if op.2.2.1 = 1003 then m_r1 st fun a r => match m_nstr tx a with
        | some t => if 4 < r.length then none else some (pc + 3, L, .int (nI t.length) :: r, M)
        | none => none
      else if op.2.2.1 = 1004 then m_i1 st fun i r => m_r1 r fun a q => match m_nstr tx a with
        | some t => if 4 < q.length ∨ i < 0 then none else match t[i.toNatClampNeg]? with
          | some x => some (pc + 3, L, .int x :: q, M)
          | none => none
        | none => none
      else none
  | .invokespecial _ => if op.2.2.1 = 1005 then m_r1 st fun _ r => if 8 < r.length then none else some (pc + 3, L, r, M) else none
  | _ => none
def m_ck (op : mOp) : Nat := match op.1 with
  | .ireturn => 1
  | .lreturn => 1
  | .return_ => 1
  | .invokevirtual _ => if op.2.2.1 < 1000 then 2 else 0
  | .invokestatic _ => if op.2.2.1 < 1000 then 2 else 0
  | .invokespecial _ => if op.2.2.1 < 1000 then 2 else 0
  | .new _ => if 2000 ≤ op.2.2.1 then 3 else 0
  | _ => 0
def m_ret (m : mMeth) (op : mOp) (st : List Value) : Option (Option Value) := match op.1, st with
  | .ireturn, [.int x] => match m.2.2.2.1 with
    | some .int => some (some (.int x))
    | some .boolean => if x = 0 ∨ x = 1 then some (some (.int x)) else none
    | _ => none
  | .lreturn, [.long x] => match m.2.2.2.1 with
    | some .long => some (some (.long x))
    | _ => none
  | .return_, [] => match m.2.2.2.1 with
    | none => some none
    | _ => none
  | _, _ => none
def m_slots (vs : List Value) : mL := vs.flatMap fun v => if v.category = 2 then [some v, none] else [some v]
def m_ent (n : Nat) (vs : List Value) : mL := m_slots vs ++ List.replicate (n - (m_slots vs).length) none
/-- the receiver of a call is an object of the method's class -/
def m_rcv (op : mOp) (m : mMeth) (M : mM) (As : List Value) : Bool := match op.1 with
  | .invokevirtual _ => match As with
    | .ref a :: _ => match M.2.2.2.1[a]? with
      | some (kd, _) => decide (kd = m.2.2.2.2.1 + 5)
      | none => false
    | _ => false
  | .invokespecial _ => match As with
    | .ref _ :: _ => true
    | _ => false
  | _ => true
def m_call (op : mOp) (m : mMeth) (st : List Value) (M : mM) : Bool := decide (op.2.2.2 ≤ st.length ∧ (st.drop op.2.2.2).length ≤ 4 ∧ (m_slots (st.take op.2.2.2).reverse).length ≤ m.2.2.1) && m_rcv op m M (st.take op.2.2.2).reverse
def m_hand (hh : List mH) (pc k : Nat) : Option Nat := (hh.find? fun h => decide (h.1 ≤ pc ∧ pc < h.2.1 ∧ h.2.2.1 = k)).map fun h => h.2.2.2.1
/-- a call that can't throw: of a constructor, of a method with handlers -/
def m_fixed (op : mOp) (m : mMeth) : Bool := match op.1 with
  | .invokespecial _ => true
  | _ => !m.2.2.2.2.2.1.isEmpty
def m_thr (M : mM) : mM := (M.1, M.2.1, M.2.2.1, M.2.2.2.1, M.2.2.2.2 + 1)
/-- n steps at most, d calls deep at most -/
def m_run (P : List mMeth) (tx : List (List Int32)) (X : Nat × (Nat → Int32)) : Nat → Nat → Nat → mC → Option mR
  | 0, _, _, _ => none
  | n + 1, d, y, c => match P[y]? with
    | none => none
    | some m => match m.2.2.2.2.2.2.lookup c.1 with
      | none => none
      | some op => match m_ck op with
        | 0 => match m_step tx X op c.1 c.2.1 c.2.2.1 c.2.2.2 with
          | some c1 => m_run P tx X n d y c1
          | none => none
        | 1 => match m_ret m op c.2.2.1 with
          | some v => some (.inl v, c.2.2.2)
          | none => none
        | 2 => match d with
          | 0 => none
          | d1 + 1 => match P[op.2.2.1]? with
            | none => none
            | some m1 => if m_call op m1 c.2.2.1 c.2.2.2 = true then
                match m_run P tx X n d1 op.2.2.1 (0, m_ent m1.2.2.1 (c.2.2.1.take op.2.2.2).reverse, [], c.2.2.2) with
                | some (.inl v, M1) => m_run P tx X n (d1 + 1) y (c.1 + 3, c.2.1, v.toList ++ c.2.2.1.drop op.2.2.2, M1)
                | some (.inr k, M1) => if m_fixed op m1 = true then none else match m.2.2.2.2.2.1 with
                  | [] => some (.inr k, M1)
                  | h :: hh => match m_hand (h :: hh) c.1 k with
                    | some t => m_run P tx X n (d1 + 1) y (t, List.replicate c.2.1.length none, [], M1)
                    | none => none
                | none => none
              else none
        | _ => if c.2.2.1.length ≤ 8 then some (.inr (op.2.2.1 - 2000), m_thr c.2.2.2) else none
